theorem dPr_stopCause_0 : decode ccPr_stopCause 0 = .ok (.aload_n 0, 1) := by decide +kernel
theorem dPr_stopCause_1 : decode ccPr_stopCause 1 = .ok (.getfield 28, 3) := by decide +kernel
theorem dPr_stopCause_4 : decode ccPr_stopCause 4 = .ok (.ireturn, 1) := by decide +kernel
def fPr_stopCause (z0 : SC)  : Int32 :=
  c_cause z0
set_option maxHeartbeats 4000000 in
set_option maxRecDepth 100000 in
theorem kPr_stopCause (l : Launch) (D : va_G) (q : Nat → Nat) (cI cJ cZ : ClassId) (hq : c_inj q) (z0 : SC)   : Met l yPr_stopCause wsPr_stopCause { frames := 0, cells := 0, slots := 0, locals := 0 } (va_Pc [.ref (q 4)] (c_C D q cI cJ cZ z0)) (cQr (some (.int (fPr_stopCause z0)))) 0 0 (fun _ => False) := by
  refine Met.ofW (cc := ccPr_stopCause) (maxL := 1) (ret := (some .int)) (by decide +kernel) rfl ?_
  intro p e s m args below meth c s₁ B hml hv
  obtain ⟨rfl, hP, hK⟩ := hv
  have hx := B.exec
  have hb := B.bytes
  have hr := B.returns
  have hts := atoms_spec (ws := wsPr_stopCause) B.pre
  have hown : s.vm.findClass RPr = some m.cls := findClass_of_methodNamed B.named
  have hlocks := B.notSynchronized
  have w0 := hts (.fieldLink RPr 28 "DrumMachine$Processor" "cause" "I") (List.mem_cons_of_mem _ wm1_117)
  have i0 : ∀ w ∈ u_ws RPr TPr 9, w ∈ wsPr_stopCause := fun w h => List.mem_cons_of_mem _ (inAPr w h)
  have hl := lv_entry ([.ref (q 4)]) (n := 1) (Nat.le_of_ble_eq_true rfl)
  rw [lg_entry_eq]
  generalize (lg_sl ([.ref (q 4)]) ++ List.replicate (1 - (lg_sl ([.ref (q 4)])).length) Slot.unset).toArray = ls at hl ⊢
  have hl : lv_has ls 1 [(0, .ref (q 4))] := hl
  have hR := fPr_stopCause.eq_1 z0
  refine lv_aload_n hx hb dPr_stopCause_0 rfl (lv_at hl 0 rfl) ?_
  refine cg4_cause hx hb hts i0 hown hK hP w0 dPr_stopCause_1 ?_
  exact W.iret hx hb hr (fun t ht _ => ⟨by rw [hR]; first | done | rfl, ht⟩) (fun _ h => absurd h List.not_mem_nil) dPr_stopCause_4
theorem dPr_isStopped_0 : decode ccPr_isStopped 0 = .ok (.aload_n 0, 1) := by decide +kernel
theorem dPr_isStopped_1 : decode ccPr_isStopped 1 = .ok (.getfield 28, 3) := by decide +kernel
theorem dPr_isStopped_4 : decode ccPr_isStopped 4 = .ok (.iconst (-1), 1) := by decide +kernel
theorem dPr_isStopped_5 : decode ccPr_isStopped 5 = .ok (.if_icmp .eq 7, 3) := by decide +kernel
theorem dPr_isStopped_8 : decode ccPr_isStopped 8 = .ok (.iconst 1, 1) := by decide +kernel
theorem dPr_isStopped_9 : decode ccPr_isStopped 9 = .ok (.goto 4, 3) := by decide +kernel
theorem dPr_isStopped_12 : decode ccPr_isStopped 12 = .ok (.iconst 0, 1) := by decide +kernel
theorem dPr_isStopped_13 : decode ccPr_isStopped 13 = .ok (.ireturn, 1) := by decide +kernel
def fPr_isStopped (z0 : SC)  : Bool :=
  (if (c_cause z0) = ((-1) : Int32) then false else true)
set_option maxHeartbeats 4000000 in
set_option maxRecDepth 100000 in
theorem kPr_isStopped (l : Launch) (D : va_G) (q : Nat → Nat) (cI cJ cZ : ClassId) (hq : c_inj q) (z0 : SC)   : Met l yPr_isStopped wsPr_isStopped { frames := 0, cells := 0, slots := 0, locals := 0 } (va_Pc [.ref (q 4)] (c_C D q cI cJ cZ z0)) (cQr (some (.int (bb (fPr_isStopped z0))))) 0 0 (fun _ => False) := by
  refine Met.ofW (cc := ccPr_isStopped) (maxL := 1) (ret := (some .boolean)) (by decide +kernel) rfl ?_
  intro p e s m args below meth c s₁ B hml hv
  obtain ⟨rfl, hP, hK⟩ := hv
  have hx := B.exec
  have hb := B.bytes
  have hr := B.returns
  have hts := atoms_spec (ws := wsPr_isStopped) B.pre
  have hown : s.vm.findClass RPr = some m.cls := findClass_of_methodNamed B.named
  have hlocks := B.notSynchronized
  have w0 := hts (.fieldLink RPr 28 "DrumMachine$Processor" "cause" "I") (List.mem_cons_of_mem _ wm1_117)
  have i0 : ∀ w ∈ u_ws RPr TPr 9, w ∈ wsPr_isStopped := fun w h => List.mem_cons_of_mem _ (inAPr w h)
  have hl := lv_entry ([.ref (q 4)]) (n := 1) (Nat.le_of_ble_eq_true rfl)
  rw [lg_entry_eq]
  generalize (lg_sl ([.ref (q 4)]) ++ List.replicate (1 - (lg_sl ([.ref (q 4)])).length) Slot.unset).toArray = ls at hl ⊢
  have hl : lv_has ls 1 [(0, .ref (q 4))] := hl
  have hR := fPr_isStopped.eq_1 z0
  refine lv_aload_n hx hb dPr_isStopped_0 rfl (lv_at hl 0 rfl) ?_
  refine cg4_cause hx hb hts i0 hown hK hP w0 dPr_isStopped_1 ?_
  refine lv_iconst (v := (-1)) hx hb dPr_isStopped_4 (by decide) ?_
  refine lv_icmp_eq hx hb dPr_isStopped_5 rfl (fun h5 => ?_) (fun h5 => ?_)
  · have hR := hR.trans (if_pos h5)
    refine lv_iconst (v := 0) hx hb dPr_isStopped_12 (by decide) ?_
    exact W.zret hx hb hr rfl (fun t ht _ => ⟨by rw [hR]; first | done | rfl, ht⟩) (fun _ h => absurd h List.not_mem_nil) dPr_isStopped_13
  · have hR := hR.trans (if_neg h5)
    refine lv_iconst (v := 1) hx hb dPr_isStopped_8 (by decide) ?_
    refine lv_goto hx hb dPr_isStopped_9 rfl ?_
    exact W.zret hx hb hr rfl (fun t ht _ => ⟨by rw [hR]; first | done | rfl, ht⟩) (fun _ h => absurd h List.not_mem_nil) dPr_isStopped_13
theorem dPr_wordTimes_0 : decode ccPr_wordTimes 0 = .ok (.aload_n 0, 1) := by decide +kernel
theorem dPr_wordTimes_1 : decode ccPr_wordTimes 1 = .ok (.getfield 32, 3) := by decide +kernel
theorem dPr_wordTimes_4 : decode ccPr_wordTimes 4 = .ok (.lreturn, 1) := by decide +kernel
def fPr_wordTimes (z0 : SC)  : Int64 :=
  c_time z0
set_option maxHeartbeats 4000000 in
set_option maxRecDepth 100000 in
theorem kPr_wordTimes (l : Launch) (D : va_G) (q : Nat → Nat) (cI cJ cZ : ClassId) (hq : c_inj q) (z0 : SC)   : Met l yPr_wordTimes wsPr_wordTimes { frames := 0, cells := 0, slots := 0, locals := 0 } (va_Pc [.ref (q 4)] (c_C D q cI cJ cZ z0)) (cQr (some (.long (fPr_wordTimes z0)))) 0 0 (fun _ => False) := by
  refine Met.ofW (cc := ccPr_wordTimes) (maxL := 1) (ret := (some .long)) (by decide +kernel) rfl ?_
  intro p e s m args below meth c s₁ B hml hv
  obtain ⟨rfl, hP, hK⟩ := hv
  have hx := B.exec
  have hb := B.bytes
  have hr := B.returns
  have hts := atoms_spec (ws := wsPr_wordTimes) B.pre
  have hown : s.vm.findClass RPr = some m.cls := findClass_of_methodNamed B.named
  have hlocks := B.notSynchronized
  have w0 := hts (.fieldLink RPr 32 "DrumMachine$Processor" "time" "J") (List.mem_cons_of_mem _ wm1_118)
  have i0 : ∀ w ∈ u_ws RPr TPr 9, w ∈ wsPr_wordTimes := fun w h => List.mem_cons_of_mem _ (inAPr w h)
  have hl := lv_entry ([.ref (q 4)]) (n := 1) (Nat.le_of_ble_eq_true rfl)
  rw [lg_entry_eq]
  generalize (lg_sl ([.ref (q 4)]) ++ List.replicate (1 - (lg_sl ([.ref (q 4)])).length) Slot.unset).toArray = ls at hl ⊢
  have hl : lv_has ls 1 [(0, .ref (q 4))] := hl
  have hR := fPr_wordTimes.eq_1 z0
  refine lv_aload_n hx hb dPr_wordTimes_0 rfl (lv_at hl 0 rfl) ?_
  refine cg4_time hx hb hts i0 hown hK hP w0 dPr_wordTimes_1 ?_
  exact W.lret hx hb hr (fun t ht _ => ⟨by rw [hR]; first | done | rfl, ht⟩) (fun _ h => absurd h List.not_mem_nil) dPr_wordTimes_4
theorem dPr_nextAddress_0 : decode ccPr_nextAddress 0 = .ok (.aload_n 0, 1) := by decide +kernel
theorem dPr_nextAddress_1 : decode ccPr_nextAddress 1 = .ok (.getfield 36, 3) := by decide +kernel
theorem dPr_nextAddress_4 : decode ccPr_nextAddress 4 = .ok (.ireturn, 1) := by decide +kernel
def fPr_nextAddress (z0 : SC)  : Int32 :=
  c_nxt z0
set_option maxHeartbeats 4000000 in
set_option maxRecDepth 100000 in
theorem kPr_nextAddress (l : Launch) (D : va_G) (q : Nat → Nat) (cI cJ cZ : ClassId) (hq : c_inj q) (z0 : SC)   : Met l yPr_nextAddress wsPr_nextAddress { frames := 0, cells := 0, slots := 0, locals := 0 } (va_Pc [.ref (q 4)] (c_C D q cI cJ cZ z0)) (cQr (some (.int (fPr_nextAddress z0)))) 0 0 (fun _ => False) := by
  refine Met.ofW (cc := ccPr_nextAddress) (maxL := 1) (ret := (some .int)) (by decide +kernel) rfl ?_
  intro p e s m args below meth c s₁ B hml hv
  obtain ⟨rfl, hP, hK⟩ := hv
  have hx := B.exec
  have hb := B.bytes
  have hr := B.returns
  have hts := atoms_spec (ws := wsPr_nextAddress) B.pre
  have hown : s.vm.findClass RPr = some m.cls := findClass_of_methodNamed B.named
  have hlocks := B.notSynchronized
  have w0 := hts (.fieldLink RPr 36 "DrumMachine$Processor" "next" "I") (List.mem_cons_of_mem _ wm1_116)
  have i0 : ∀ w ∈ u_ws RPr TPr 9, w ∈ wsPr_nextAddress := fun w h => List.mem_cons_of_mem _ (inAPr w h)
  have hl := lv_entry ([.ref (q 4)]) (n := 1) (Nat.le_of_ble_eq_true rfl)
  rw [lg_entry_eq]
  generalize (lg_sl ([.ref (q 4)]) ++ List.replicate (1 - (lg_sl ([.ref (q 4)])).length) Slot.unset).toArray = ls at hl ⊢
  have hl : lv_has ls 1 [(0, .ref (q 4))] := hl
  have hR := fPr_nextAddress.eq_1 z0
  refine lv_aload_n hx hb dPr_nextAddress_0 rfl (lv_at hl 0 rfl) ?_
  refine cg4_next hx hb hts i0 hown hK hP w0 dPr_nextAddress_1 ?_
  exact W.iret hx hb hr (fun t ht _ => ⟨by rw [hR]; first | done | rfl, ht⟩) (fun _ h => absurd h List.not_mem_nil) dPr_nextAddress_4
theorem dPr_upperDigits_0 : decode ccPr_upperDigits 0 = .ok (.aload_n 0, 1) := by decide +kernel
theorem dPr_upperDigits_1 : decode ccPr_upperDigits 1 = .ok (.getfield 24, 3) := by decide +kernel
theorem dPr_upperDigits_4 : decode ccPr_upperDigits 4 = .ok (.invokevirtual 39, 3) := by decide +kernel
theorem dPr_upperDigits_7 : decode ccPr_upperDigits 7 = .ok (.lreturn, 1) := by decide +kernel
def fPr_upperDigits (z0 : SC)  : Int64 :=
  fAc_upperDigits z0
set_option maxHeartbeats 4000000 in
set_option maxRecDepth 100000 in
theorem kPr_upperDigits (l : Launch) (D : va_G) (q : Nat → Nat) (cI cJ cZ : ClassId) (hq : c_inj q) (z0 : SC)   : Met l yPr_upperDigits wsPr_upperDigits { frames := 1, cells := 0, slots := 0, locals := 20 } (va_Pc [.ref (q 4)] (c_C D q cI cJ cZ z0)) (cQr (some (.long (fPr_upperDigits z0)))) 0 0 (fun _ => False) := by
  refine Met.ofW (cc := ccPr_upperDigits) (maxL := 1) (ret := (some .long)) (by decide +kernel) rfl ?_
  intro p e s m args below meth c s₁ B hml hv
  obtain ⟨rfl, hP, hK⟩ := hv
  have hx := B.exec
  have hb := B.bytes
  have hr := B.returns
  have hts := atoms_spec (ws := wsPr_upperDigits) B.pre
  have hown : s.vm.findClass RPr = some m.cls := findClass_of_methodNamed B.named
  have hlocks := B.notSynchronized
  have w0 := hts (.fieldLink RPr 24 "DrumMachine$Processor" "accumulator" "LDrumMachine$Accumulator;") (List.mem_cons_of_mem _ wm1_113)
  have i0 : ∀ w ∈ u_ws RPr TPr 9, w ∈ wsPr_upperDigits := fun w h => List.mem_cons_of_mem _ (inAPr w h)
  have hl := lv_entry ([.ref (q 4)]) (n := 1) (Nat.le_of_ble_eq_true rfl)
  rw [lg_entry_eq]
  generalize (lg_sl ([.ref (q 4)]) ++ List.replicate (1 - (lg_sl ([.ref (q 4)])).length) Slot.unset).toArray = ls at hl ⊢
  have hl : lv_has ls 1 [(0, .ref (q 4))] := hl
  have hR := fPr_upperDigits.eq_1 z0
  refine lv_aload_n hx hb dPr_upperDigits_0 rfl (lv_at hl 0 rfl) ?_
  refine cg4_accumulator hx hb hts i0 hown hK hP w0 dPr_upperDigits_1 ?_
  refine cl_rd (W.runV (As := []) (rest := []) ⟨hx, hb, hml, hown, hts⟩ (kAc_upperDigits l D q cI cJ cZ hq z0) (cwV 0 hts (gV wm3_239 wm4_0 wm4_1 wm1_7 wm4_2) rfl rfl rfl (by decide +kernel) ⟨Nat.le_of_ble_eq_true rfl, Nat.le_of_ble_eq_true rfl⟩) (c_preV5 hK hP) rfl rfl hl.1 rfl (lv_room (Nat.le_of_ble_eq_true rfl)) dPr_upperDigits_4 ⟨Nat.le_refl _, Nat.le_refl _⟩) ?_
  exact W.lret hx hb hr (fun t ht _ => ⟨by rw [hR]; first | done | rfl, ht⟩) (fun _ h => absurd h List.not_mem_nil) dPr_upperDigits_7
theorem dPr_lowerDigits_0 : decode ccPr_lowerDigits 0 = .ok (.aload_n 0, 1) := by decide +kernel
theorem dPr_lowerDigits_1 : decode ccPr_lowerDigits 1 = .ok (.getfield 24, 3) := by decide +kernel
theorem dPr_lowerDigits_4 : decode ccPr_lowerDigits 4 = .ok (.invokevirtual 43, 3) := by decide +kernel
theorem dPr_lowerDigits_7 : decode ccPr_lowerDigits 7 = .ok (.lreturn, 1) := by decide +kernel
def fPr_lowerDigits (z0 : SC)  : Int64 :=
  fAc_lowerDigits z0
set_option maxHeartbeats 4000000 in
set_option maxRecDepth 100000 in
theorem kPr_lowerDigits (l : Launch) (D : va_G) (q : Nat → Nat) (cI cJ cZ : ClassId) (hq : c_inj q) (z0 : SC)   : Met l yPr_lowerDigits wsPr_lowerDigits { frames := 1, cells := 0, slots := 0, locals := 20 } (va_Pc [.ref (q 4)] (c_C D q cI cJ cZ z0)) (cQr (some (.long (fPr_lowerDigits z0)))) 0 0 (fun _ => False) := by
  refine Met.ofW (cc := ccPr_lowerDigits) (maxL := 1) (ret := (some .long)) (by decide +kernel) rfl ?_
  intro p e s m args below meth c s₁ B hml hv
  obtain ⟨rfl, hP, hK⟩ := hv
  have hx := B.exec
  have hb := B.bytes
  have hr := B.returns
  have hts := atoms_spec (ws := wsPr_lowerDigits) B.pre
  have hown : s.vm.findClass RPr = some m.cls := findClass_of_methodNamed B.named
  have hlocks := B.notSynchronized
  have w0 := hts (.fieldLink RPr 24 "DrumMachine$Processor" "accumulator" "LDrumMachine$Accumulator;") (List.mem_cons_of_mem _ wm1_113)
  have i0 : ∀ w ∈ u_ws RPr TPr 9, w ∈ wsPr_lowerDigits := fun w h => List.mem_cons_of_mem _ (inAPr w h)
  have hl := lv_entry ([.ref (q 4)]) (n := 1) (Nat.le_of_ble_eq_true rfl)
  rw [lg_entry_eq]
  generalize (lg_sl ([.ref (q 4)]) ++ List.replicate (1 - (lg_sl ([.ref (q 4)])).length) Slot.unset).toArray = ls at hl ⊢
  have hl : lv_has ls 1 [(0, .ref (q 4))] := hl
  have hR := fPr_lowerDigits.eq_1 z0
  refine lv_aload_n hx hb dPr_lowerDigits_0 rfl (lv_at hl 0 rfl) ?_
  refine cg4_accumulator hx hb hts i0 hown hK hP w0 dPr_lowerDigits_1 ?_
  refine cl_rd (W.runV (As := []) (rest := []) ⟨hx, hb, hml, hown, hts⟩ (kAc_lowerDigits l D q cI cJ cZ hq z0) (cwV 0 hts (gV wm3_227 wm3_228 wm3_229 wm1_7 wm3_230) rfl rfl rfl (by decide +kernel) ⟨Nat.le_of_ble_eq_true rfl, Nat.le_of_ble_eq_true rfl⟩) (c_preV5 hK hP) rfl rfl hl.1 rfl (lv_room (Nat.le_of_ble_eq_true rfl)) dPr_lowerDigits_4 ⟨Nat.le_refl _, Nat.le_refl _⟩) ?_
  exact W.lret hx hb hr (fun t ht _ => ⟨by rw [hR]; first | done | rfl, ht⟩) (fun _ h => absurd h List.not_mem_nil) dPr_lowerDigits_7
theorem dPr_distributorDigits_0 : decode ccPr_distributorDigits 0 = .ok (.aload_n 0, 1) := by decide +kernel
theorem dPr_distributorDigits_1 : decode ccPr_distributorDigits 1 = .ok (.getfield 46, 3) := by decide +kernel
theorem dPr_distributorDigits_4 : decode ccPr_distributorDigits 4 = .ok (.lreturn, 1) := by decide +kernel
def fPr_distributorDigits (z0 : SC)  : Int64 :=
  c_dist z0
set_option maxHeartbeats 4000000 in
set_option maxRecDepth 100000 in
theorem kPr_distributorDigits (l : Launch) (D : va_G) (q : Nat → Nat) (cI cJ cZ : ClassId) (hq : c_inj q) (z0 : SC)   : Met l yPr_distributorDigits wsPr_distributorDigits { frames := 0, cells := 0, slots := 0, locals := 0 } (va_Pc [.ref (q 4)] (c_C D q cI cJ cZ z0)) (cQr (some (.long (fPr_distributorDigits z0)))) 0 0 (fun _ => False) := by
  refine Met.ofW (cc := ccPr_distributorDigits) (maxL := 1) (ret := (some .long)) (by decide +kernel) rfl ?_
  intro p e s m args below meth c s₁ B hml hv
  obtain ⟨rfl, hP, hK⟩ := hv
  have hx := B.exec
  have hb := B.bytes
  have hr := B.returns
  have hts := atoms_spec (ws := wsPr_distributorDigits) B.pre
  have hown : s.vm.findClass RPr = some m.cls := findClass_of_methodNamed B.named
  have hlocks := B.notSynchronized
  have w0 := hts (.fieldLink RPr 46 "DrumMachine$Processor" "distributor" "J") (List.mem_cons_of_mem _ wm1_114)
  have i0 : ∀ w ∈ u_ws RPr TPr 9, w ∈ wsPr_distributorDigits := fun w h => List.mem_cons_of_mem _ (inAPr w h)
  have hl := lv_entry ([.ref (q 4)]) (n := 1) (Nat.le_of_ble_eq_true rfl)
  rw [lg_entry_eq]
  generalize (lg_sl ([.ref (q 4)]) ++ List.replicate (1 - (lg_sl ([.ref (q 4)])).length) Slot.unset).toArray = ls at hl ⊢
  have hl : lv_has ls 1 [(0, .ref (q 4))] := hl
  have hR := fPr_distributorDigits.eq_1 z0
  refine lv_aload_n hx hb dPr_distributorDigits_0 rfl (lv_at hl 0 rfl) ?_
  refine cg4_distributor hx hb hts i0 hown hK hP w0 dPr_distributorDigits_1 ?_
  exact W.lret hx hb hr (fun t ht _ => ⟨by rw [hR]; first | done | rfl, ht⟩) (fun _ h => absurd h List.not_mem_nil) dPr_distributorDigits_4
theorem dPr_accumulatorIsMinus_0 : decode ccPr_accumulatorIsMinus 0 = .ok (.aload_n 0, 1) := by decide +kernel
theorem dPr_accumulatorIsMinus_1 : decode ccPr_accumulatorIsMinus 1 = .ok (.getfield 24, 3) := by decide +kernel
theorem dPr_accumulatorIsMinus_4 : decode ccPr_accumulatorIsMinus 4 = .ok (.invokevirtual 49, 3) := by decide +kernel
theorem dPr_accumulatorIsMinus_7 : decode ccPr_accumulatorIsMinus 7 = .ok (.ireturn, 1) := by decide +kernel
def fPr_accumulatorIsMinus (z0 : SC)  : Bool :=
  fAc_isMinus z0
set_option maxHeartbeats 4000000 in
set_option maxRecDepth 100000 in
theorem kPr_accumulatorIsMinus (l : Launch) (D : va_G) (q : Nat → Nat) (cI cJ cZ : ClassId) (hq : c_inj q) (z0 : SC)   : Met l yPr_accumulatorIsMinus wsPr_accumulatorIsMinus { frames := 1, cells := 0, slots := 0, locals := 20 } (va_Pc [.ref (q 4)] (c_C D q cI cJ cZ z0)) (cQr (some (.int (bb (fPr_accumulatorIsMinus z0))))) 0 0 (fun _ => False) := by
  refine Met.ofW (cc := ccPr_accumulatorIsMinus) (maxL := 1) (ret := (some .boolean)) (by decide +kernel) rfl ?_
  intro p e s m args below meth c s₁ B hml hv
  obtain ⟨rfl, hP, hK⟩ := hv
  have hx := B.exec
  have hb := B.bytes
  have hr := B.returns
  have hts := atoms_spec (ws := wsPr_accumulatorIsMinus) B.pre
  have hown : s.vm.findClass RPr = some m.cls := findClass_of_methodNamed B.named
  have hlocks := B.notSynchronized
  have w0 := hts (.fieldLink RPr 24 "DrumMachine$Processor" "accumulator" "LDrumMachine$Accumulator;") (List.mem_cons_of_mem _ wm1_113)
  have i0 : ∀ w ∈ u_ws RPr TPr 9, w ∈ wsPr_accumulatorIsMinus := fun w h => List.mem_cons_of_mem _ (inAPr w h)
  have hl := lv_entry ([.ref (q 4)]) (n := 1) (Nat.le_of_ble_eq_true rfl)
  rw [lg_entry_eq]
  generalize (lg_sl ([.ref (q 4)]) ++ List.replicate (1 - (lg_sl ([.ref (q 4)])).length) Slot.unset).toArray = ls at hl ⊢
  have hl : lv_has ls 1 [(0, .ref (q 4))] := hl
  have hR := fPr_accumulatorIsMinus.eq_1 z0
  refine lv_aload_n hx hb dPr_accumulatorIsMinus_0 rfl (lv_at hl 0 rfl) ?_
  refine cg4_accumulator hx hb hts i0 hown hK hP w0 dPr_accumulatorIsMinus_1 ?_
  refine cl_rd (W.runV (As := []) (rest := []) ⟨hx, hb, hml, hown, hts⟩ (kAc_isMinus l D q cI cJ cZ hq z0) (cwV 0 hts (gV wm3_231 wm3_232 wm3_233 wm1_7 wm3_234) rfl rfl rfl (by decide +kernel) ⟨Nat.le_of_ble_eq_true rfl, Nat.le_of_ble_eq_true rfl⟩) (c_preV5 hK hP) rfl rfl hl.1 rfl (lv_room (Nat.le_of_ble_eq_true rfl)) dPr_accumulatorIsMinus_4 ⟨Nat.le_refl _, Nat.le_refl _⟩) ?_
  exact W.zret hx hb hr (nz_b _) (fun t ht _ => ⟨by rw [hR]; first | done | rfl, ht⟩) (fun _ h => absurd h List.not_mem_nil) dPr_accumulatorIsMinus_7
theorem dPr_distributorIsMinus_0 : decode ccPr_distributorIsMinus 0 = .ok (.aload_n 0, 1) := by decide +kernel
theorem dPr_distributorIsMinus_1 : decode ccPr_distributorIsMinus 1 = .ok (.getfield 53, 3) := by decide +kernel
theorem dPr_distributorIsMinus_4 : decode ccPr_distributorIsMinus 4 = .ok (.ireturn, 1) := by decide +kernel
def fPr_distributorIsMinus (z0 : SC)  : Bool :=
  c_distm z0
set_option maxHeartbeats 4000000 in
set_option maxRecDepth 100000 in
theorem kPr_distributorIsMinus (l : Launch) (D : va_G) (q : Nat → Nat) (cI cJ cZ : ClassId) (hq : c_inj q) (z0 : SC)   : Met l yPr_distributorIsMinus wsPr_distributorIsMinus { frames := 0, cells := 0, slots := 0, locals := 0 } (va_Pc [.ref (q 4)] (c_C D q cI cJ cZ z0)) (cQr (some (.int (bb (fPr_distributorIsMinus z0))))) 0 0 (fun _ => False) := by
  refine Met.ofW (cc := ccPr_distributorIsMinus) (maxL := 1) (ret := (some .boolean)) (by decide +kernel) rfl ?_
  intro p e s m args below meth c s₁ B hml hv
  obtain ⟨rfl, hP, hK⟩ := hv
  have hx := B.exec
  have hb := B.bytes
  have hr := B.returns
  have hts := atoms_spec (ws := wsPr_distributorIsMinus) B.pre
  have hown : s.vm.findClass RPr = some m.cls := findClass_of_methodNamed B.named
  have hlocks := B.notSynchronized
  have w0 := hts (.fieldLink RPr 53 "DrumMachine$Processor" "distributorMinus" "Z") (List.mem_cons_of_mem _ wm1_115)
  have i0 : ∀ w ∈ u_ws RPr TPr 9, w ∈ wsPr_distributorIsMinus := fun w h => List.mem_cons_of_mem _ (inAPr w h)
  have hl := lv_entry ([.ref (q 4)]) (n := 1) (Nat.le_of_ble_eq_true rfl)
  rw [lg_entry_eq]
  generalize (lg_sl ([.ref (q 4)]) ++ List.replicate (1 - (lg_sl ([.ref (q 4)])).length) Slot.unset).toArray = ls at hl ⊢
  have hl : lv_has ls 1 [(0, .ref (q 4))] := hl
  have hR := fPr_distributorIsMinus.eq_1 z0
  refine lv_aload_n hx hb dPr_distributorIsMinus_0 rfl (lv_at hl 0 rfl) ?_
  refine cg4_distributorMinus hx hb hts i0 hown hK hP w0 dPr_distributorIsMinus_1 ?_
  exact W.zret hx hb hr (nz_b _) (fun t ht _ => ⟨by rw [hR]; first | done | rfl, ht⟩) (fun _ h => absurd h List.not_mem_nil) dPr_distributorIsMinus_4
theorem dPr_overflowIsOn_0 : decode ccPr_overflowIsOn 0 = .ok (.aload_n 0, 1) := by decide +kernel
theorem dPr_overflowIsOn_1 : decode ccPr_overflowIsOn 1 = .ok (.getfield 24, 3) := by decide +kernel
theorem dPr_overflowIsOn_4 : decode ccPr_overflowIsOn 4 = .ok (.invokevirtual 57, 3) := by decide +kernel
theorem dPr_overflowIsOn_7 : decode ccPr_overflowIsOn 7 = .ok (.ireturn, 1) := by decide +kernel
def fPr_overflowIsOn (z0 : SC)  : Bool :=
  fAc_hasOverflow z0
set_option maxHeartbeats 4000000 in
set_option maxRecDepth 100000 in
theorem kPr_overflowIsOn (l : Launch) (D : va_G) (q : Nat → Nat) (cI cJ cZ : ClassId) (hq : c_inj q) (z0 : SC)   : Met l yPr_overflowIsOn wsPr_overflowIsOn { frames := 1, cells := 0, slots := 0, locals := 20 } (va_Pc [.ref (q 4)] (c_C D q cI cJ cZ z0)) (cQr (some (.int (bb (fPr_overflowIsOn z0))))) 0 0 (fun _ => False) := by
  refine Met.ofW (cc := ccPr_overflowIsOn) (maxL := 1) (ret := (some .boolean)) (by decide +kernel) rfl ?_
  intro p e s m args below meth c s₁ B hml hv
  obtain ⟨rfl, hP, hK⟩ := hv
  have hx := B.exec
  have hb := B.bytes
  have hr := B.returns
  have hts := atoms_spec (ws := wsPr_overflowIsOn) B.pre
  have hown : s.vm.findClass RPr = some m.cls := findClass_of_methodNamed B.named
  have hlocks := B.notSynchronized
  have w0 := hts (.fieldLink RPr 24 "DrumMachine$Processor" "accumulator" "LDrumMachine$Accumulator;") (List.mem_cons_of_mem _ wm1_113)
  have i0 : ∀ w ∈ u_ws RPr TPr 9, w ∈ wsPr_overflowIsOn := fun w h => List.mem_cons_of_mem _ (inAPr w h)
  have hl := lv_entry ([.ref (q 4)]) (n := 1) (Nat.le_of_ble_eq_true rfl)
  rw [lg_entry_eq]
  generalize (lg_sl ([.ref (q 4)]) ++ List.replicate (1 - (lg_sl ([.ref (q 4)])).length) Slot.unset).toArray = ls at hl ⊢
  have hl : lv_has ls 1 [(0, .ref (q 4))] := hl
  have hR := fPr_overflowIsOn.eq_1 z0
  refine lv_aload_n hx hb dPr_overflowIsOn_0 rfl (lv_at hl 0 rfl) ?_
  refine cg4_accumulator hx hb hts i0 hown hK hP w0 dPr_overflowIsOn_1 ?_
  refine cl_rd (W.runV (As := []) (rest := []) ⟨hx, hb, hml, hown, hts⟩ (kAc_hasOverflow l D q cI cJ cZ hq z0) (cwV 0 hts (gV wm4_141 wm4_142 wm4_143 wm1_7 wm4_144) rfl rfl rfl (by decide +kernel) ⟨Nat.le_of_ble_eq_true rfl, Nat.le_of_ble_eq_true rfl⟩) (c_preV5 hK hP) rfl rfl hl.1 rfl (lv_room (Nat.le_of_ble_eq_true rfl)) dPr_overflowIsOn_4 ⟨Nat.le_refl _, Nat.le_refl _⟩) ?_
  exact W.zret hx hb hr (nz_b _) (fun t ht _ => ⟨by rw [hR]; first | done | rfl, ht⟩) (fun _ h => absurd h List.not_mem_nil) dPr_overflowIsOn_7
theorem dPr_goOnFrom_0 : decode ccPr_goOnFrom 0 = .ok (.aload_n 0, 1) := by decide +kernel
theorem dPr_goOnFrom_1 : decode ccPr_goOnFrom 1 = .ok (.iload_n 1, 1) := by decide +kernel
theorem dPr_goOnFrom_2 : decode ccPr_goOnFrom 2 = .ok (.putfield 36, 3) := by decide +kernel
theorem dPr_goOnFrom_5 : decode ccPr_goOnFrom 5 = .ok (.aload_n 0, 1) := by decide +kernel
theorem dPr_goOnFrom_6 : decode ccPr_goOnFrom 6 = .ok (.iconst (-1), 1) := by decide +kernel
theorem dPr_goOnFrom_7 : decode ccPr_goOnFrom 7 = .ok (.putfield 28, 3) := by decide +kernel
theorem dPr_goOnFrom_10 : decode ccPr_goOnFrom 10 = .ok (.return_, 1) := by decide +kernel
def fPr_goOnFrom (z0 : SC) (a : Int32) : SC :=
  c_cause_s (c_nxt_s z0 a) ((-1))
set_option maxHeartbeats 4000000 in
set_option maxRecDepth 100000 in
theorem kPr_goOnFrom (l : Launch) (D : va_G) (q : Nat → Nat) (cI cJ cZ : ClassId) (hq : c_inj q) (z0 : SC) (a : Int32)  : Met l yPr_goOnFrom wsPr_goOnFrom { frames := 0, cells := 0, slots := 0, locals := 0 } (va_Pc [.ref (q 4), .int (a)] (c_C D q cI cJ cZ z0)) (cQw none (c_W D q cI cJ cZ (fPr_goOnFrom z0 a)) (c_qs q)) 0 0 (c_qs q) := by
  refine Met.ofW (cc := ccPr_goOnFrom) (maxL := 2) (ret := none) (by decide +kernel) rfl ?_
  intro p e s m args below meth c s₁ B hml hv
  obtain ⟨rfl, hP, hK⟩ := hv
  have hx := B.exec
  have hb := B.bytes
  have hr := B.returns
  have hts := atoms_spec (ws := wsPr_goOnFrom) B.pre
  have hown : s.vm.findClass RPr = some m.cls := findClass_of_methodNamed B.named
  have hlocks := B.notSynchronized
  have w0 := hts (.fieldLink RPr 36 "DrumMachine$Processor" "next" "I") (List.mem_cons_of_mem _ wm1_116)
  have w1 := hts (.fieldLink RPr 28 "DrumMachine$Processor" "cause" "I") (List.mem_cons_of_mem _ wm1_117)
  have i0 : ∀ w ∈ u_ws RPr TPr 9, w ∈ wsPr_goOnFrom := fun w h => List.mem_cons_of_mem _ (inAPr w h)
  have hS : va_S (c_qs q) s.heap s.heap [] := va_S.rf
  have hl := lv_entry ([.ref (q 4), .int (a)]) (n := 2) (Nat.le_of_ble_eq_true rfl)
  rw [lg_entry_eq]
  generalize (lg_sl ([.ref (q 4), .int (a)]) ++ List.replicate (2 - (lg_sl ([.ref (q 4), .int (a)])).length) Slot.unset).toArray = ls at hl ⊢
  have hl : lv_has ls 2 [(0, .ref (q 4)), (1, .int (a))] := hl
  have hR := fPr_goOnFrom.eq_1 z0 a
  refine lv_aload_n hx hb dPr_goOnFrom_0 rfl (lv_at hl 0 rfl) ?_
  refine lv_iload_n hx hb dPr_goOnFrom_1 rfl (lv_at hl 1 rfl) ?_
  refine cp4_next a hq hS hx hb hts i0 hown hK hP w0 dPr_goOnFrom_2 (fun H locs hP hS => ?_)
  refine lv_aload_n hx hb dPr_goOnFrom_5 rfl (lv_at hl 0 rfl) ?_
  refine lv_iconst (v := (-1)) hx hb dPr_goOnFrom_6 (by decide) ?_
  refine cp4_cause ((-1)) hq hS hx hb hts i0 hown hK hP w1 dPr_goOnFrom_7 (fun H locs hP hS => ?_)
  exact W.vret hx hb hr (fun t ht _ => ⟨rfl, by rw [hR, ht]; exact hP, hS.F ht⟩) hS.2.2 dPr_goOnFrom_10
theorem dPr_isFault_0 : decode ccPr_isFault 0 = .ok (.iload_n 0, 1) := by decide +kernel
theorem dPr_isFault_1 : decode ccPr_isFault 1 = .ok (.iconst (-1), 1) := by decide +kernel
theorem dPr_isFault_2 : decode ccPr_isFault 2 = .ok (.if_icmp .eq 11, 3) := by decide +kernel
theorem dPr_isFault_5 : decode ccPr_isFault 5 = .ok (.iload_n 0, 1) := by decide +kernel
theorem dPr_isFault_6 : decode ccPr_isFault 6 = .ok (.ifCond .eq 7, 3) := by decide +kernel
theorem dPr_isFault_9 : decode ccPr_isFault 9 = .ok (.iconst 1, 1) := by decide +kernel
theorem dPr_isFault_10 : decode ccPr_isFault 10 = .ok (.goto 4, 3) := by decide +kernel
theorem dPr_isFault_13 : decode ccPr_isFault 13 = .ok (.iconst 0, 1) := by decide +kernel
theorem dPr_isFault_14 : decode ccPr_isFault 14 = .ok (.ireturn, 1) := by decide +kernel
def fPr_isFault (a : Int32) : Bool :=
  (if a = ((-1) : Int32) then false else (if a = 0 then false else true))
set_option maxHeartbeats 4000000 in
set_option maxRecDepth 100000 in
theorem kPr_isFault (l : Launch) (a : Int32)  : Met l yPr_isFault wsPr_isFault { frames := 0, cells := 0, slots := 0, locals := 0 } (va_Pc [.int (a)] (fun _ => True)) (cQr (some (.int (bb (fPr_isFault a))))) 0 0 (fun _ => False) := by
  refine Met.ofW (cc := ccPr_isFault) (maxL := 1) (ret := (some .boolean)) (by decide +kernel) rfl ?_
  intro p e s m args below meth c s₁ B hml hv
  obtain ⟨rfl, -⟩ := hv
  have hx := B.exec
  have hb := B.bytes
  have hr := B.returns
  have hts := atoms_spec (ws := wsPr_isFault) B.pre
  have hown : s.vm.findClass RPr = some m.cls := findClass_of_methodNamed B.named
  have hlocks := B.notSynchronized
  have hl := lv_entry ([.int (a)]) (n := 1) (Nat.le_of_ble_eq_true rfl)
  rw [lg_entry_eq]
  generalize (lg_sl ([.int (a)]) ++ List.replicate (1 - (lg_sl ([.int (a)])).length) Slot.unset).toArray = ls at hl ⊢
  have hl : lv_has ls 1 [(0, .int (a))] := hl
  have hR := fPr_isFault.eq_1 a
  refine lv_iload_n hx hb dPr_isFault_0 rfl (lv_at hl 0 rfl) ?_
  refine lv_iconst (v := (-1)) hx hb dPr_isFault_1 (by decide) ?_
  refine lv_icmp_eq hx hb dPr_isFault_2 rfl (fun h2 => ?_) (fun h2 => ?_)
  · have hR := hR.trans (if_pos h2)
    refine lv_iconst (v := 0) hx hb dPr_isFault_13 (by decide) ?_
    exact W.zret hx hb hr rfl (fun t ht _ => ⟨by rw [hR]; first | done | rfl, ht⟩) (fun _ h => absurd h List.not_mem_nil) dPr_isFault_14
  · have hR := hR.trans (if_neg h2)
    refine lv_iload_n hx hb dPr_isFault_5 rfl (lv_at hl 0 rfl) ?_
    refine lv_if_eq hx hb dPr_isFault_6 rfl (fun h6 => ?_) (fun h6 => ?_)
    · have hR := hR.trans (if_pos h6)
      refine lv_iconst (v := 0) hx hb dPr_isFault_13 (by decide) ?_
      exact W.zret hx hb hr rfl (fun t ht _ => ⟨by rw [hR]; first | done | rfl, ht⟩) (fun _ h => absurd h List.not_mem_nil) dPr_isFault_14
    · have hR := hR.trans (if_neg h6)
      refine lv_iconst (v := 1) hx hb dPr_isFault_9 (by decide) ?_
      refine lv_goto hx hb dPr_isFault_10 rfl ?_
      exact W.zret hx hb hr rfl (fun t ht _ => ⟨by rw [hR]; first | done | rfl, ht⟩) (fun _ h => absurd h List.not_mem_nil) dPr_isFault_14
theorem dPr_setDistributor_0 : decode ccPr_setDistributor 0 = .ok (.aload_n 0, 1) := by decide +kernel
theorem dPr_setDistributor_1 : decode ccPr_setDistributor 1 = .ok (.lload_n 1, 1) := by decide +kernel
theorem dPr_setDistributor_2 : decode ccPr_setDistributor 2 = .ok (.putfield 46, 3) := by decide +kernel
theorem dPr_setDistributor_5 : decode ccPr_setDistributor 5 = .ok (.aload_n 0, 1) := by decide +kernel
theorem dPr_setDistributor_6 : decode ccPr_setDistributor 6 = .ok (.iload_n 3, 1) := by decide +kernel
theorem dPr_setDistributor_7 : decode ccPr_setDistributor 7 = .ok (.putfield 53, 3) := by decide +kernel
theorem dPr_setDistributor_10 : decode ccPr_setDistributor 10 = .ok (.return_, 1) := by decide +kernel
def fPr_setDistributor (z0 : SC) (v : Int64) (b : Bool) : SC :=
  c_distm_s (c_dist_s z0 v) b
set_option maxHeartbeats 4000000 in
set_option maxRecDepth 100000 in
theorem kPr_setDistributor (l : Launch) (D : va_G) (q : Nat → Nat) (cI cJ cZ : ClassId) (hq : c_inj q) (z0 : SC) (v : Int64) (b : Bool)  : Met l yPr_setDistributor wsPr_setDistributor { frames := 0, cells := 0, slots := 0, locals := 0 } (va_Pc [.ref (q 4), .long (v), .int (bb (b))] (c_C D q cI cJ cZ z0)) (cQw none (c_W D q cI cJ cZ (fPr_setDistributor z0 v b)) (c_qs q)) 0 0 (c_qs q) := by
  refine Met.ofW (cc := ccPr_setDistributor) (maxL := 4) (ret := none) (by decide +kernel) rfl ?_
  intro p e s m args below meth c s₁ B hml hv
  obtain ⟨rfl, hP, hK⟩ := hv
  have hx := B.exec
  have hb := B.bytes
  have hr := B.returns
  have hts := atoms_spec (ws := wsPr_setDistributor) B.pre
  have hown : s.vm.findClass RPr = some m.cls := findClass_of_methodNamed B.named
  have hlocks := B.notSynchronized
  have w0 := hts (.fieldLink RPr 46 "DrumMachine$Processor" "distributor" "J") (List.mem_cons_of_mem _ wm1_114)
  have w1 := hts (.fieldLink RPr 53 "DrumMachine$Processor" "distributorMinus" "Z") (List.mem_cons_of_mem _ wm1_115)
  have i0 : ∀ w ∈ u_ws RPr TPr 9, w ∈ wsPr_setDistributor := fun w h => List.mem_cons_of_mem _ (inAPr w h)
  have hS : va_S (c_qs q) s.heap s.heap [] := va_S.rf
  have hl := lv_entry ([.ref (q 4), .long (v), .int (bb (b))]) (n := 4) (Nat.le_of_ble_eq_true rfl)
  rw [lg_entry_eq]
  generalize (lg_sl ([.ref (q 4), .long (v), .int (bb (b))]) ++ List.replicate (4 - (lg_sl ([.ref (q 4), .long (v), .int (bb (b))])).length) Slot.unset).toArray = ls at hl ⊢
  have hl : lv_has ls 4 [(0, .ref (q 4)), (1, .long (v)), (3, .int (bb (b)))] := hl
  have hR := fPr_setDistributor.eq_1 z0 v b
  refine lv_aload_n hx hb dPr_setDistributor_0 rfl (lv_at hl 0 rfl) ?_
  refine lv_lload_n hx hb dPr_setDistributor_1 rfl (lv_at hl 1 rfl) ?_
  refine cp4_distributor v hq hS hx hb hts i0 hown hK hP w0 dPr_setDistributor_2 (fun H locs hP hS => ?_)
  refine lv_aload_n hx hb dPr_setDistributor_5 rfl (lv_at hl 0 rfl) ?_
  refine lv_iload_n hx hb dPr_setDistributor_6 rfl (lv_at hl 2 rfl) ?_
  refine cp4_distributorMinus b hq hS hx hb hts i0 hown hK hP w1 dPr_setDistributor_7 (fun H locs hP hS => ?_)
  exact W.vret hx hb hr (fun t ht _ => ⟨rfl, by rw [hR, ht]; exact hP, hS.F ht⟩) hS.2.2 dPr_setDistributor_10
theorem dPr_waitAndAccess_0 : decode ccPr_waitAndAccess 0 = .ok (.aload_n 0, 1) := by decide +kernel
theorem dPr_waitAndAccess_1 : decode ccPr_waitAndAccess 1 = .ok (.getfield 32, 3) := by decide +kernel
theorem dPr_waitAndAccess_4 : decode ccPr_waitAndAccess 4 = .ok (.ldc2_w 111, 3) := by decide +kernel
theorem dPr_waitAndAccess_7 : decode ccPr_waitAndAccess 7 = .ok (.lrem, 1) := by decide +kernel
theorem dPr_waitAndAccess_8 : decode ccPr_waitAndAccess 8 = .ok (.l2i, 1) := by decide +kernel
theorem dPr_waitAndAccess_9 : decode ccPr_waitAndAccess 9 = .ok (.istore_n 2, 1) := by decide +kernel
theorem dPr_waitAndAccess_10 : decode ccPr_waitAndAccess 10 = .ok (.iload_n 1, 1) := by decide +kernel
theorem dPr_waitAndAccess_11 : decode ccPr_waitAndAccess 11 = .ok (.invokestatic 113, 3) := by decide +kernel
theorem dPr_waitAndAccess_14 : decode ccPr_waitAndAccess 14 = .ok (.iload_n 2, 1) := by decide +kernel
theorem dPr_waitAndAccess_15 : decode ccPr_waitAndAccess 15 = .ok (.isub, 1) := by decide +kernel
theorem dPr_waitAndAccess_16 : decode ccPr_waitAndAccess 16 = .ok (.bipush 50, 2) := by decide +kernel
theorem dPr_waitAndAccess_18 : decode ccPr_waitAndAccess 18 = .ok (.iadd, 1) := by decide +kernel
theorem dPr_waitAndAccess_19 : decode ccPr_waitAndAccess 19 = .ok (.bipush 50, 2) := by decide +kernel
theorem dPr_waitAndAccess_21 : decode ccPr_waitAndAccess 21 = .ok (.irem, 1) := by decide +kernel
theorem dPr_waitAndAccess_22 : decode ccPr_waitAndAccess 22 = .ok (.istore_n 3, 1) := by decide +kernel
theorem dPr_waitAndAccess_23 : decode ccPr_waitAndAccess 23 = .ok (.aload_n 0, 1) := by decide +kernel
theorem dPr_waitAndAccess_24 : decode ccPr_waitAndAccess 24 = .ok (.dup, 1) := by decide +kernel
theorem dPr_waitAndAccess_25 : decode ccPr_waitAndAccess 25 = .ok (.getfield 32, 3) := by decide +kernel
theorem dPr_waitAndAccess_28 : decode ccPr_waitAndAccess 28 = .ok (.iload_n 3, 1) := by decide +kernel
theorem dPr_waitAndAccess_29 : decode ccPr_waitAndAccess 29 = .ok (.iconst 1, 1) := by decide +kernel
theorem dPr_waitAndAccess_30 : decode ccPr_waitAndAccess 30 = .ok (.iadd, 1) := by decide +kernel
theorem dPr_waitAndAccess_31 : decode ccPr_waitAndAccess 31 = .ok (.i2l, 1) := by decide +kernel
theorem dPr_waitAndAccess_32 : decode ccPr_waitAndAccess 32 = .ok (.ladd, 1) := by decide +kernel
theorem dPr_waitAndAccess_33 : decode ccPr_waitAndAccess 33 = .ok (.putfield 32, 3) := by decide +kernel
theorem dPr_waitAndAccess_36 : decode ccPr_waitAndAccess 36 = .ok (.return_, 1) := by decide +kernel
def fPr_waitAndAccess (z0 : SC) (a : Int32) : SC :=
  c_time_s z0 ((c_time z0) + ((((((fDr_angleOf a) - (((c_time z0) % 50).toInt32)) + 50) % 50) + 1).toInt64))
set_option maxHeartbeats 4000000 in
set_option maxRecDepth 100000 in
theorem kPr_waitAndAccess (l : Launch) (D : va_G) (q : Nat → Nat) (cI cJ cZ : ClassId) (hq : c_inj q) (z0 : SC) (a : Int32)  : Met l yPr_waitAndAccess wsPr_waitAndAccess { frames := 1, cells := 0, slots := 0, locals := 20 } (va_Pc [.ref (q 4), .int (a)] (c_C D q cI cJ cZ z0)) (cQw none (c_W D q cI cJ cZ (fPr_waitAndAccess z0 a)) (c_qs q)) 0 0 (c_qs q) := by
  refine Met.ofW (cc := ccPr_waitAndAccess) (maxL := 4) (ret := none) (by decide +kernel) rfl ?_
  intro p e s m args below meth c s₁ B hml hv
  obtain ⟨rfl, hP, hK⟩ := hv
  have hx := B.exec
  have hb := B.bytes
  have hr := B.returns
  have hts := atoms_spec (ws := wsPr_waitAndAccess) B.pre
  have hown : s.vm.findClass RPr = some m.cls := findClass_of_methodNamed B.named
  have hlocks := B.notSynchronized
  have w0 := hts (.fieldLink RPr 32 "DrumMachine$Processor" "time" "J") (List.mem_cons_of_mem _ wm1_118)
  have w1 := hts (.constantLong RPr 111 (50)) (List.mem_cons_of_mem _ wm3_140)
  have i0 : ∀ w ∈ u_ws RPr TPr 9, w ∈ wsPr_waitAndAccess := fun w h => List.mem_cons_of_mem _ (inAPr w h)
  have hS : va_S (c_qs q) s.heap s.heap [] := va_S.rf
  have hl := lv_entry ([.ref (q 4), .int (a)]) (n := 4) (Nat.le_of_ble_eq_true rfl)
  rw [lg_entry_eq]
  generalize (lg_sl ([.ref (q 4), .int (a)]) ++ List.replicate (4 - (lg_sl ([.ref (q 4), .int (a)])).length) Slot.unset).toArray = ls at hl ⊢
  have hl : lv_has ls 4 [(0, .ref (q 4)), (1, .int (a))] := hl
  have hR := fPr_waitAndAccess.eq_1 z0 a
  refine lv_aload_n hx hb dPr_waitAndAccess_0 rfl (lv_at hl 0 rfl) ?_
  refine cg4_time hx hb hts i0 hown hK hP w0 dPr_waitAndAccess_1 ?_
  refine lv_ldc2 (v := 50) hx hb hown w1 dPr_waitAndAccess_4 ?_
  refine lm_lrem hx hb dPr_waitAndAccess_7 (by decide) ?_
  refine lv_l2i hx hb dPr_waitAndAccess_8 rfl ?_
  refine lv_istore_n (lv' := [(2, .int (((c_time z0) % 50).toInt32)), (0, .ref (q 4)), (1, .int (a))]) hx hb dPr_waitAndAccess_9 rfl hl (by decide) rfl (fun ls hl => ?_)
  refine lv_iload_n hx hb dPr_waitAndAccess_10 rfl (lv_at hl 2 rfl) ?_
  refine cl_rd (W.runS (As := [.int (a)]) (rest := []) ⟨hx, hb, hml, hown, hts⟩ (kDr_angleOf l a) (va_cwS 1 hts (gS wm3_141 wm3_142 wm1_2 wm3_143) rfl rfl rfl (by decide +kernel) ⟨Nat.le_of_ble_eq_true rfl, Nat.le_of_ble_eq_true rfl⟩) (preT) rfl rfl hl.1 rfl (lv_room (Nat.le_of_ble_eq_true rfl)) dPr_waitAndAccess_11 ⟨Nat.le_refl _, Nat.le_refl _⟩) ?_
  refine lv_iload_n hx hb dPr_waitAndAccess_14 rfl (lv_at hl 0 rfl) ?_
  refine lv_isub hx hb dPr_waitAndAccess_15 ?_
  refine lv_bipush (v := 50) hx hb dPr_waitAndAccess_16 (by decide) ?_
  refine lv_iadd hx hb dPr_waitAndAccess_18 ?_
  refine lv_bipush (v := 50) hx hb dPr_waitAndAccess_19 (by decide) ?_
  refine lm_irem hx hb dPr_waitAndAccess_21 (by decide) ?_
  refine lv_istore_n (lv' := [(3, .int ((((fDr_angleOf a) - (((c_time z0) % 50).toInt32)) + 50) % 50)), (2, .int (((c_time z0) % 50).toInt32)), (0, .ref (q 4)), (1, .int (a))]) hx hb dPr_waitAndAccess_22 rfl hl (by decide) rfl (fun ls hl => ?_)
  refine lv_aload_n hx hb dPr_waitAndAccess_23 rfl (lv_at hl 2 rfl) ?_
  refine lv_dup hx hb dPr_waitAndAccess_24 rfl ?_
  refine cg4_time hx hb hts i0 hown hK hP w0 dPr_waitAndAccess_25 ?_
  refine lv_iload_n hx hb dPr_waitAndAccess_28 rfl (lv_at hl 0 rfl) ?_
  refine lv_iconst (v := 1) hx hb dPr_waitAndAccess_29 (by decide) ?_
  refine lv_iadd hx hb dPr_waitAndAccess_30 ?_
  refine lv_i2l hx hb dPr_waitAndAccess_31 rfl ?_
  refine lv_ladd hx hb dPr_waitAndAccess_32 ?_
  refine cp4_time ((c_time z0) + ((((((fDr_angleOf a) - (((c_time z0) % 50).toInt32)) + 50) % 50) + 1).toInt64)) hq hS hx hb hts i0 hown hK hP w0 dPr_waitAndAccess_33 (fun H locs hP hS => ?_)
  exact W.vret hx hb hr (fun t ht _ => ⟨rfl, by rw [hR, ht]; exact hP, hS.F ht⟩) hS.2.2 dPr_waitAndAccess_36
theorem dPr_shift_0 : decode ccPr_shift 0 = .ok (.iload_n 1, 1) := by decide +kernel
theorem dPr_shift_1 : decode ccPr_shift 1 = .ok (.bipush 35, 2) := by decide +kernel
theorem dPr_shift_3 : decode ccPr_shift 3 = .ok (.if_icmp .ne 14, 3) := by decide +kernel
theorem dPr_shift_6 : decode ccPr_shift 6 = .ok (.aload_n 0, 1) := by decide +kernel
theorem dPr_shift_7 : decode ccPr_shift 7 = .ok (.getfield 24, 3) := by decide +kernel
theorem dPr_shift_10 : decode ccPr_shift 10 = .ok (.iload_n 2, 1) := by decide +kernel
theorem dPr_shift_11 : decode ccPr_shift 11 = .ok (.invokevirtual 142, 3) := by decide +kernel
theorem dPr_shift_14 : decode ccPr_shift 14 = .ok (.goto 28, 3) := by decide +kernel
theorem dPr_shift_17 : decode ccPr_shift 17 = .ok (.iload_n 1, 1) := by decide +kernel
theorem dPr_shift_18 : decode ccPr_shift 18 = .ok (.bipush 30, 2) := by decide +kernel
theorem dPr_shift_20 : decode ccPr_shift 20 = .ok (.if_icmp .ne 14, 3) := by decide +kernel
theorem dPr_shift_23 : decode ccPr_shift 23 = .ok (.aload_n 0, 1) := by decide +kernel
theorem dPr_shift_24 : decode ccPr_shift 24 = .ok (.getfield 24, 3) := by decide +kernel
theorem dPr_shift_27 : decode ccPr_shift 27 = .ok (.iload_n 2, 1) := by decide +kernel
theorem dPr_shift_28 : decode ccPr_shift 28 = .ok (.invokevirtual 145, 3) := by decide +kernel
theorem dPr_shift_31 : decode ccPr_shift 31 = .ok (.goto 11, 3) := by decide +kernel
theorem dPr_shift_34 : decode ccPr_shift 34 = .ok (.aload_n 0, 1) := by decide +kernel
theorem dPr_shift_35 : decode ccPr_shift 35 = .ok (.getfield 24, 3) := by decide +kernel
theorem dPr_shift_38 : decode ccPr_shift 38 = .ok (.iload_n 2, 1) := by decide +kernel
theorem dPr_shift_39 : decode ccPr_shift 39 = .ok (.invokevirtual 148, 3) := by decide +kernel
theorem dPr_shift_42 : decode ccPr_shift 42 = .ok (.return_, 1) := by decide +kernel
def fPr_shift (z0 : SC) (o : Int32) (x : Int32) : SC :=
  (if o = (35 : Int32) then fAc_shiftLeft z0 x else (if o = (30 : Int32) then fAc_shiftRight z0 x else fAc_shiftAndRound z0 x))
set_option maxHeartbeats 4000000 in
set_option maxRecDepth 100000 in
theorem kPr_shift (l : Launch) (D : va_G) (q : Nat → Nat) (cI cJ cZ : ClassId) (hq : c_inj q) (z0 : SC) (o : Int32) (x : Int32)  : Met l yPr_shift wsPr_shift { frames := 3, cells := 0, slots := 0, locals := 77 } (va_Pc [.ref (q 4), .int (o), .int (x)] (c_C D q cI cJ cZ z0)) (cQw none (c_W D q cI cJ cZ (fPr_shift z0 o x)) (c_qs q)) 0 0 (c_qs q) := by
  refine Met.ofW (cc := ccPr_shift) (maxL := 3) (ret := none) (by decide +kernel) rfl ?_
  intro p e s m args below meth c s₁ B hml hv
  obtain ⟨rfl, hP, hK⟩ := hv
  have hx := B.exec
  have hb := B.bytes
  have hr := B.returns
  have hts := atoms_spec (ws := wsPr_shift) B.pre
  have hown : s.vm.findClass RPr = some m.cls := findClass_of_methodNamed B.named
  have hlocks := B.notSynchronized
  have w0 := hts (.fieldLink RPr 24 "DrumMachine$Processor" "accumulator" "LDrumMachine$Accumulator;") (List.mem_cons_of_mem _ wm1_113)
  have i0 : ∀ w ∈ u_ws RPr TPr 9, w ∈ wsPr_shift := fun w h => List.mem_cons_of_mem _ (inAPr w h)
  have hS : va_S (c_qs q) s.heap s.heap [] := va_S.rf
  have hl := lv_entry ([.ref (q 4), .int (o), .int (x)]) (n := 3) (Nat.le_of_ble_eq_true rfl)
  rw [lg_entry_eq]
  generalize (lg_sl ([.ref (q 4), .int (o), .int (x)]) ++ List.replicate (3 - (lg_sl ([.ref (q 4), .int (o), .int (x)])).length) Slot.unset).toArray = ls at hl ⊢
  have hl : lv_has ls 3 [(0, .ref (q 4)), (1, .int (o)), (2, .int (x))] := hl
  have hR := fPr_shift.eq_1 z0 o x
  refine lv_iload_n hx hb dPr_shift_0 rfl (lv_at hl 1 rfl) ?_
  refine lv_bipush (v := 35) hx hb dPr_shift_1 (by decide) ?_
  refine lv_icmp_ne hx hb dPr_shift_3 rfl (fun h3 => ?_) (fun h3 => ?_)
  · have hR := hR.trans (if_neg h3)
    refine lv_iload_n hx hb dPr_shift_17 rfl (lv_at hl 1 rfl) ?_
    refine lv_bipush (v := 30) hx hb dPr_shift_18 (by decide) ?_
    refine lv_icmp_ne hx hb dPr_shift_20 rfl (fun h20 => ?_) (fun h20 => ?_)
    · have hR := hR.trans (if_neg h20)
      refine lv_aload_n hx hb dPr_shift_34 rfl (lv_at hl 0 rfl) ?_
      refine cg4_accumulator hx hb hts i0 hown hK hP w0 dPr_shift_35 ?_
      refine lv_iload_n hx hb dPr_shift_38 rfl (lv_at hl 2 rfl) ?_
      refine cl_wr (W.runV (As := [.int (x)]) (rest := []) ⟨hx, hb, hml, hown, hts⟩ (kAc_shiftAndRound l D q cI cJ cZ hq z0 x) (cwV 1 hts (gV wm3_178 wm3_179 wm3_180 wm1_7 wm3_181) rfl rfl rfl (by decide +kernel) ⟨Nat.le_of_ble_eq_true rfl, Nat.le_of_ble_eq_true rfl⟩) (c_preV5 hK hP) rfl rfl hl.1 rfl (lv_room (Nat.le_of_ble_eq_true rfl)) dPr_shift_39 ⟨Nat.le_refl _, Nat.le_refl _⟩) hS (fun _ h => h) (fun _ h => h) (fun H locs hP hS => ?_)
      exact W.vret hx hb hr (fun t ht _ => ⟨rfl, by rw [hR, ht]; exact hP, hS.F ht⟩) hS.2.2 dPr_shift_42
    · have hR := hR.trans (if_pos h20)
      refine lv_aload_n hx hb dPr_shift_23 rfl (lv_at hl 0 rfl) ?_
      refine cg4_accumulator hx hb hts i0 hown hK hP w0 dPr_shift_24 ?_
      refine lv_iload_n hx hb dPr_shift_27 rfl (lv_at hl 2 rfl) ?_
      refine cl_wr (W.runV (As := [.int (x)]) (rest := []) ⟨hx, hb, hml, hown, hts⟩ (kAc_shiftRight l D q cI cJ cZ hq z0 x) (cwV 1 hts (gV wm3_174 wm3_175 wm3_176 wm1_7 wm3_177) rfl rfl rfl (by decide +kernel) ⟨Nat.le_of_ble_eq_true rfl, Nat.le_of_ble_eq_true rfl⟩) (c_preV5 hK hP) rfl rfl hl.1 rfl (lv_room (Nat.le_of_ble_eq_true rfl)) dPr_shift_28 ⟨Nat.le_refl _, Nat.le_refl _⟩) hS (fun _ h => h) (fun _ h => h) (fun H locs hP hS => ?_)
      refine lv_goto hx hb dPr_shift_31 rfl ?_
      exact W.vret hx hb hr (fun t ht _ => ⟨rfl, by rw [hR, ht]; exact hP, hS.F ht⟩) hS.2.2 dPr_shift_42
  · have hR := hR.trans (if_pos h3)
    refine lv_aload_n hx hb dPr_shift_6 rfl (lv_at hl 0 rfl) ?_
    refine cg4_accumulator hx hb hts i0 hown hK hP w0 dPr_shift_7 ?_
    refine lv_iload_n hx hb dPr_shift_10 rfl (lv_at hl 2 rfl) ?_
    refine cl_wr (W.runV (As := [.int (x)]) (rest := []) ⟨hx, hb, hml, hown, hts⟩ (kAc_shiftLeft l D q cI cJ cZ hq z0 x) (cwV 1 hts (gV wm3_166 wm3_167 wm3_168 wm1_7 wm3_169) rfl rfl rfl (by decide +kernel) ⟨Nat.le_of_ble_eq_true rfl, Nat.le_of_ble_eq_true rfl⟩) (c_preV5 hK hP) rfl rfl hl.1 rfl (lv_room (Nat.le_of_ble_eq_true rfl)) dPr_shift_11 ⟨Nat.le_refl _, Nat.le_refl _⟩) hS (fun _ h => h) (fun _ h => h) (fun H locs hP hS => ?_)
    refine lv_goto hx hb dPr_shift_14 rfl ?_
    exact W.vret hx hb hr (fun t ht _ => ⟨rfl, by rw [hR, ht]; exact hP, hS.F ht⟩) hS.2.2 dPr_shift_42
theorem dPr_takesBranch_0 : decode ccPr_takesBranch 0 = .ok (.iload_n 1, 1) := by decide +kernel
theorem dPr_takesBranch_1 : decode ccPr_takesBranch 1 = .ok (.invokestatic 151, 3) := by decide +kernel
theorem dPr_takesBranch_4 : decode ccPr_takesBranch 4 = .ok (.ifCond .eq 25, 3) := by decide +kernel
theorem dPr_takesBranch_7 : decode ccPr_takesBranch 7 = .ok (.aload_n 0, 1) := by decide +kernel
theorem dPr_takesBranch_8 : decode ccPr_takesBranch 8 = .ok (.getfield 46, 3) := by decide +kernel
theorem dPr_takesBranch_11 : decode ccPr_takesBranch 11 = .ok (.iload_n 1, 1) := by decide +kernel
theorem dPr_takesBranch_12 : decode ccPr_takesBranch 12 = .ok (.bipush 90, 2) := by decide +kernel
theorem dPr_takesBranch_14 : decode ccPr_takesBranch 14 = .ok (.isub, 1) := by decide +kernel
theorem dPr_takesBranch_15 : decode ccPr_takesBranch 15 = .ok (.invokestatic 154, 3) := by decide +kernel
theorem dPr_takesBranch_18 : decode ccPr_takesBranch 18 = .ok (.bipush 8, 2) := by decide +kernel
theorem dPr_takesBranch_20 : decode ccPr_takesBranch 20 = .ok (.if_icmp .ne 7, 3) := by decide +kernel
theorem dPr_takesBranch_23 : decode ccPr_takesBranch 23 = .ok (.iconst 1, 1) := by decide +kernel
theorem dPr_takesBranch_24 : decode ccPr_takesBranch 24 = .ok (.goto 4, 3) := by decide +kernel
theorem dPr_takesBranch_27 : decode ccPr_takesBranch 27 = .ok (.iconst 0, 1) := by decide +kernel
theorem dPr_takesBranch_28 : decode ccPr_takesBranch 28 = .ok (.ireturn, 1) := by decide +kernel
theorem dPr_takesBranch_29 : decode ccPr_takesBranch 29 = .ok (.iload_n 1, 1) := by decide +kernel
theorem dPr_takesBranch_30 : decode ccPr_takesBranch 30 = .ok (.tableswitch 80 44 47 #[30, 48, 64, 72], 30) := by decide +kernel
theorem dPr_takesBranch_60 : decode ccPr_takesBranch 60 = .ok (.aload_n 0, 1) := by decide +kernel
theorem dPr_takesBranch_61 : decode ccPr_takesBranch 61 = .ok (.getfield 24, 3) := by decide +kernel
theorem dPr_takesBranch_64 : decode ccPr_takesBranch 64 = .ok (.invokevirtual 39, 3) := by decide +kernel
theorem dPr_takesBranch_67 : decode ccPr_takesBranch 67 = .ok (.lconst 0, 1) := by decide +kernel
theorem dPr_takesBranch_68 : decode ccPr_takesBranch 68 = .ok (.lcmp, 1) := by decide +kernel
theorem dPr_takesBranch_69 : decode ccPr_takesBranch 69 = .ok (.ifCond .eq 7, 3) := by decide +kernel
theorem dPr_takesBranch_72 : decode ccPr_takesBranch 72 = .ok (.iconst 1, 1) := by decide +kernel
theorem dPr_takesBranch_73 : decode ccPr_takesBranch 73 = .ok (.goto 4, 3) := by decide +kernel
theorem dPr_takesBranch_76 : decode ccPr_takesBranch 76 = .ok (.iconst 0, 1) := by decide +kernel
theorem dPr_takesBranch_77 : decode ccPr_takesBranch 77 = .ok (.ireturn, 1) := by decide +kernel
theorem dPr_takesBranch_78 : decode ccPr_takesBranch 78 = .ok (.aload_n 0, 1) := by decide +kernel
theorem dPr_takesBranch_79 : decode ccPr_takesBranch 79 = .ok (.getfield 24, 3) := by decide +kernel
theorem dPr_takesBranch_82 : decode ccPr_takesBranch 82 = .ok (.invokevirtual 158, 3) := by decide +kernel
theorem dPr_takesBranch_85 : decode ccPr_takesBranch 85 = .ok (.ifCond .ne 7, 3) := by decide +kernel
theorem dPr_takesBranch_88 : decode ccPr_takesBranch 88 = .ok (.iconst 1, 1) := by decide +kernel
theorem dPr_takesBranch_89 : decode ccPr_takesBranch 89 = .ok (.goto 4, 3) := by decide +kernel
theorem dPr_takesBranch_92 : decode ccPr_takesBranch 92 = .ok (.iconst 0, 1) := by decide +kernel
theorem dPr_takesBranch_93 : decode ccPr_takesBranch 93 = .ok (.ireturn, 1) := by decide +kernel
theorem dPr_takesBranch_94 : decode ccPr_takesBranch 94 = .ok (.aload_n 0, 1) := by decide +kernel
theorem dPr_takesBranch_95 : decode ccPr_takesBranch 95 = .ok (.getfield 24, 3) := by decide +kernel
theorem dPr_takesBranch_98 : decode ccPr_takesBranch 98 = .ok (.invokevirtual 49, 3) := by decide +kernel
theorem dPr_takesBranch_101 : decode ccPr_takesBranch 101 = .ok (.ireturn, 1) := by decide +kernel
theorem dPr_takesBranch_102 : decode ccPr_takesBranch 102 = .ok (.aload_n 0, 1) := by decide +kernel
theorem dPr_takesBranch_103 : decode ccPr_takesBranch 103 = .ok (.getfield 24, 3) := by decide +kernel
theorem dPr_takesBranch_106 : decode ccPr_takesBranch 106 = .ok (.invokevirtual 161, 3) := by decide +kernel
theorem dPr_takesBranch_109 : decode ccPr_takesBranch 109 = .ok (.ireturn, 1) := by decide +kernel
theorem dPr_takesBranch_110 : decode ccPr_takesBranch 110 = .ok (.iconst 0, 1) := by decide +kernel
theorem dPr_takesBranch_111 : decode ccPr_takesBranch 111 = .ok (.ireturn, 1) := by decide +kernel
def fPr_takesBranch (z0 : SC) (o : Int32) : Bool × SC :=
  (if (fOp_branchesOnEight o) = true then (if (fDg_digitAt (c_dist z0) (o - 90)) = (8 : Int32) then (true, z0) else (false, z0)) else (if o = 44 then (if (fAc_upperDigits z0) = 0 then (false, z0) else (true, z0)) else (if o = 45 then (if (fAc_isZero z0) = true then (false, z0) else (true, z0)) else (if o = 46 then (fAc_isMinus z0, z0) else (if o = 47 then ((fAc_takeOverflow z0).1, (fAc_takeOverflow z0).2) else (false, z0))))))
set_option maxHeartbeats 4000000 in
set_option maxRecDepth 100000 in
theorem kPr_takesBranch (l : Launch) (D : va_G) (q : Nat → Nat) (cI cJ cZ : ClassId) (hq : c_inj q) (z0 : SC) (o : Int32)  : Met l yPr_takesBranch wsPr_takesBranch { frames := 2, cells := 0, slots := 0, locals := 45 } (va_Pc [.ref (q 4), .int (o)] (c_C D q cI cJ cZ z0)) (cQw (some (.int (bb ((fPr_takesBranch z0 o).1)))) (c_W D q cI cJ cZ (fPr_takesBranch z0 o).2) (c_qs q)) 0 0 (c_qs q) := by
  refine Met.ofW (cc := ccPr_takesBranch) (maxL := 2) (ret := (some .boolean)) (by decide +kernel) rfl ?_
  intro p e s m args below meth c s₁ B hml hv
  obtain ⟨rfl, hP, hK⟩ := hv
  have hx := B.exec
  have hb := B.bytes
  have hr := B.returns
  have hts := atoms_spec (ws := wsPr_takesBranch) B.pre
  have hown : s.vm.findClass RPr = some m.cls := findClass_of_methodNamed B.named
  have hlocks := B.notSynchronized
  have w0 := hts (.fieldLink RPr 24 "DrumMachine$Processor" "accumulator" "LDrumMachine$Accumulator;") (List.mem_cons_of_mem _ wm1_113)
  have w1 := hts (.fieldLink RPr 46 "DrumMachine$Processor" "distributor" "J") (List.mem_cons_of_mem _ wm1_114)
  have i0 : ∀ w ∈ u_ws RPr TPr 9, w ∈ wsPr_takesBranch := fun w h => List.mem_cons_of_mem _ (inAPr w h)
  have hS : va_S (c_qs q) s.heap s.heap [] := va_S.rf
  have hl := lv_entry ([.ref (q 4), .int (o)]) (n := 2) (Nat.le_of_ble_eq_true rfl)
  rw [lg_entry_eq]
  generalize (lg_sl ([.ref (q 4), .int (o)]) ++ List.replicate (2 - (lg_sl ([.ref (q 4), .int (o)])).length) Slot.unset).toArray = ls at hl ⊢
  have hl : lv_has ls 2 [(0, .ref (q 4)), (1, .int (o))] := hl
  have hR := fPr_takesBranch.eq_1 z0 o
  refine lv_iload_n hx hb dPr_takesBranch_0 rfl (lv_at hl 1 rfl) ?_
  refine cl_rd (W.runS (As := [.int (o)]) (rest := []) ⟨hx, hb, hml, hown, hts⟩ (kOp_branchesOnEight l o) (va_cwS 1 hts (gS wm4_89 wm2_184 wm1_17 wm2_185) rfl rfl rfl (by decide +kernel) ⟨Nat.le_of_ble_eq_true rfl, Nat.le_of_ble_eq_true rfl⟩) (preT) rfl rfl hl.1 rfl (lv_room (Nat.le_of_ble_eq_true rfl)) dPr_takesBranch_1 ⟨Nat.le_refl _, Nat.le_refl _⟩) ?_
  refine wz_ifeq hx hb dPr_takesBranch_4 rfl (fun h4 => ?_) (fun h4 => ?_)
  · have hR := hR.trans (if_neg h4)
    refine lv_iload_n hx hb dPr_takesBranch_29 rfl (lv_at hl 1 rfl) ?_
    by_cases h30_44 : o = 44
    · have hR := hR.trans (if_pos h30_44)
      refine lv_tableIn (off := 30) (tgt := 60) hx hb dPr_takesBranch_30 (by rw [h30_44]; decide) (by rw [h30_44]; decide) (by rw [h30_44]; decide) rfl ?_
      refine lv_aload_n hx hb dPr_takesBranch_60 rfl (lv_at hl 0 rfl) ?_
      refine cg4_accumulator hx hb hts i0 hown hK hP w0 dPr_takesBranch_61 ?_
      refine cl_rd (W.runV (As := []) (rest := []) ⟨hx, hb, hml, hown, hts⟩ (kAc_upperDigits l D q cI cJ cZ hq z0) (cwV 0 hts (gV wm3_239 wm4_0 wm4_1 wm1_7 wm4_2) rfl rfl rfl (by decide +kernel) ⟨Nat.le_of_ble_eq_true rfl, Nat.le_of_ble_eq_true rfl⟩) (c_preV5 hK hP) rfl rfl hl.1 rfl (lv_room (Nat.le_of_ble_eq_true rfl)) dPr_takesBranch_64 ⟨Nat.le_refl _, Nat.le_refl _⟩) ?_
      refine lv_lconst (v := 0) hx hb dPr_takesBranch_67 (by decide) ?_
      refine lc_eq hx hb dPr_takesBranch_68 dPr_takesBranch_69 rfl (fun h68 => ?_) (fun h68 => ?_)
      · have hR := hR.trans (if_pos h68)
        refine lv_iconst (v := 0) hx hb dPr_takesBranch_76 (by decide) ?_
        exact W.zret hx hb hr rfl (fun t ht _ => ⟨by rw [hR]; first | done | rfl, by rw [hR, ht]; exact hP, hS.F ht⟩) hS.2.2 dPr_takesBranch_77
      · have hR := hR.trans (if_neg h68)
        refine lv_iconst (v := 1) hx hb dPr_takesBranch_72 (by decide) ?_
        refine lv_goto hx hb dPr_takesBranch_73 rfl ?_
        exact W.zret hx hb hr rfl (fun t ht _ => ⟨by rw [hR]; first | done | rfl, by rw [hR, ht]; exact hP, hS.F ht⟩) hS.2.2 dPr_takesBranch_77
    · have hR := hR.trans (if_neg h30_44)
      by_cases h30_45 : o = 45
      · have hR := hR.trans (if_pos h30_45)
        refine lv_tableIn (off := 48) (tgt := 78) hx hb dPr_takesBranch_30 (by rw [h30_45]; decide) (by rw [h30_45]; decide) (by rw [h30_45]; decide) rfl ?_
        refine lv_aload_n hx hb dPr_takesBranch_78 rfl (lv_at hl 0 rfl) ?_
        refine cg4_accumulator hx hb hts i0 hown hK hP w0 dPr_takesBranch_79 ?_
        refine cl_rd (W.runV (As := []) (rest := []) ⟨hx, hb, hml, hown, hts⟩ (kAc_isZero l D q cI cJ cZ hq z0) (cwV 0 hts (gV wm4_91 wm4_92 wm4_93 wm1_7 wm4_94) rfl rfl rfl (by decide +kernel) ⟨Nat.le_of_ble_eq_true rfl, Nat.le_of_ble_eq_true rfl⟩) (c_preV5 hK hP) rfl rfl hl.1 rfl (lv_room (Nat.le_of_ble_eq_true rfl)) dPr_takesBranch_82 ⟨Nat.le_refl _, Nat.le_refl _⟩) ?_
        refine wz_ifne hx hb dPr_takesBranch_85 rfl (fun h85 => ?_) (fun h85 => ?_)
        · have hR := hR.trans (if_pos h85)
          refine lv_iconst (v := 0) hx hb dPr_takesBranch_92 (by decide) ?_
          exact W.zret hx hb hr rfl (fun t ht _ => ⟨by rw [hR]; first | done | rfl, by rw [hR, ht]; exact hP, hS.F ht⟩) hS.2.2 dPr_takesBranch_93
        · have hR := hR.trans (if_neg h85)
          refine lv_iconst (v := 1) hx hb dPr_takesBranch_88 (by decide) ?_
          refine lv_goto hx hb dPr_takesBranch_89 rfl ?_
          exact W.zret hx hb hr rfl (fun t ht _ => ⟨by rw [hR]; first | done | rfl, by rw [hR, ht]; exact hP, hS.F ht⟩) hS.2.2 dPr_takesBranch_93
      · have hR := hR.trans (if_neg h30_45)
        by_cases h30_46 : o = 46
        · have hR := hR.trans (if_pos h30_46)
          refine lv_tableIn (off := 64) (tgt := 94) hx hb dPr_takesBranch_30 (by rw [h30_46]; decide) (by rw [h30_46]; decide) (by rw [h30_46]; decide) rfl ?_
          refine lv_aload_n hx hb dPr_takesBranch_94 rfl (lv_at hl 0 rfl) ?_
          refine cg4_accumulator hx hb hts i0 hown hK hP w0 dPr_takesBranch_95 ?_
          refine cl_rd (W.runV (As := []) (rest := []) ⟨hx, hb, hml, hown, hts⟩ (kAc_isMinus l D q cI cJ cZ hq z0) (cwV 0 hts (gV wm3_231 wm3_232 wm3_233 wm1_7 wm3_234) rfl rfl rfl (by decide +kernel) ⟨Nat.le_of_ble_eq_true rfl, Nat.le_of_ble_eq_true rfl⟩) (c_preV5 hK hP) rfl rfl hl.1 rfl (lv_room (Nat.le_of_ble_eq_true rfl)) dPr_takesBranch_98 ⟨Nat.le_refl _, Nat.le_refl _⟩) ?_
          exact W.zret hx hb hr (nz_b _) (fun t ht _ => ⟨by rw [hR]; first | done | rfl, by rw [hR, ht]; exact hP, hS.F ht⟩) hS.2.2 dPr_takesBranch_101
        · have hR := hR.trans (if_neg h30_46)
          by_cases h30_47 : o = 47
          · have hR := hR.trans (if_pos h30_47)
            refine lv_tableIn (off := 72) (tgt := 102) hx hb dPr_takesBranch_30 (by rw [h30_47]; decide) (by rw [h30_47]; decide) (by rw [h30_47]; decide) rfl ?_
            refine lv_aload_n hx hb dPr_takesBranch_102 rfl (lv_at hl 0 rfl) ?_
            refine cg4_accumulator hx hb hts i0 hown hK hP w0 dPr_takesBranch_103 ?_
            refine cl_wr (W.runV (As := []) (rest := []) ⟨hx, hb, hml, hown, hts⟩ (kAc_takeOverflow l D q cI cJ cZ hq z0) (cwV 0 hts (gV wm4_95 wm4_96 wm4_97 wm1_7 wm4_98) rfl rfl rfl (by decide +kernel) ⟨Nat.le_of_ble_eq_true rfl, Nat.le_of_ble_eq_true rfl⟩) (c_preV5 hK hP) rfl rfl hl.1 rfl (lv_room (Nat.le_of_ble_eq_true rfl)) dPr_takesBranch_106 ⟨Nat.le_refl _, Nat.le_refl _⟩) hS (fun _ h => h) (fun _ h => h) (fun H locs hP hS => ?_)
            exact W.zret hx hb hr (nz_b _) (fun t ht _ => ⟨by rw [hR]; first | done | rfl, by rw [hR, ht]; exact hP, hS.F ht⟩) hS.2.2 dPr_takesBranch_109
          · have hR := hR.trans (if_neg h30_47)
            have nh30_44 := lv_neT (k := 44) (a := 44) h30_44 (by decide)
            have nh30_45 := lv_neT (k := 45) (a := 45) h30_45 (by decide)
            have nh30_46 := lv_neT (k := 46) (a := 46) h30_46 (by decide)
            have nh30_47 := lv_neT (k := 47) (a := 47) h30_47 (by decide)
            refine lv_tableOut (tgt := 110) hx hb dPr_takesBranch_30 (by omega) rfl ?_
            refine lv_iconst (v := 0) hx hb dPr_takesBranch_110 (by decide) ?_
            exact W.zret hx hb hr rfl (fun t ht _ => ⟨by rw [hR]; first | done | rfl, by rw [hR, ht]; exact hP, hS.F ht⟩) hS.2.2 dPr_takesBranch_111
  · have hR := hR.trans (if_pos h4)
    refine lv_aload_n hx hb dPr_takesBranch_7 rfl (lv_at hl 0 rfl) ?_
    refine cg4_distributor hx hb hts i0 hown hK hP w1 dPr_takesBranch_8 ?_
    refine lv_iload_n hx hb dPr_takesBranch_11 rfl (lv_at hl 1 rfl) ?_
    refine lv_bipush (v := 90) hx hb dPr_takesBranch_12 (by decide) ?_
    refine lv_isub hx hb dPr_takesBranch_14 ?_
    refine cl_rd (W.runS (As := [.long ((c_dist z0)), .int ((o - 90))]) (rest := []) ⟨hx, hb, hml, hown, hts⟩ (kDg_digitAt l (c_dist z0) (o - 90)) (va_cwS 2 hts (gS wm4_90 wm3_183 wm1_14 wm3_184) rfl rfl rfl (by decide +kernel) ⟨Nat.le_of_ble_eq_true rfl, Nat.le_of_ble_eq_true rfl⟩) (preT) rfl rfl hl.1 rfl (lv_room (Nat.le_of_ble_eq_true rfl)) dPr_takesBranch_15 ⟨Nat.le_refl _, Nat.le_refl _⟩) ?_
    refine lv_bipush (v := 8) hx hb dPr_takesBranch_18 (by decide) ?_
    refine lv_icmp_ne hx hb dPr_takesBranch_20 rfl (fun h20 => ?_) (fun h20 => ?_)
    · have hR := hR.trans (if_neg h20)
      refine lv_iconst (v := 0) hx hb dPr_takesBranch_27 (by decide) ?_
      exact W.zret hx hb hr rfl (fun t ht _ => ⟨by rw [hR]; first | done | rfl, by rw [hR, ht]; exact hP, hS.F ht⟩) hS.2.2 dPr_takesBranch_28
    · have hR := hR.trans (if_pos h20)
      refine lv_iconst (v := 1) hx hb dPr_takesBranch_23 (by decide) ?_
      refine lv_goto hx hb dPr_takesBranch_24 rfl ?_
      exact W.zret hx hb hr rfl (fun t ht _ => ⟨by rw [hR]; first | done | rfl, by rw [hR, ht]; exact hP, hS.F ht⟩) hS.2.2 dPr_takesBranch_28
theorem dPr_addWord_0 : decode ccPr_addWord 0 = .ok (.iload_n 1, 1) := by decide +kernel
theorem dPr_addWord_1 : decode ccPr_addWord 1 = .ok (.invokestatic 190, 3) := by decide +kernel
theorem dPr_addWord_4 : decode ccPr_addWord 4 = .ok (.ifCond .eq 10, 3) := by decide +kernel
theorem dPr_addWord_7 : decode ccPr_addWord 7 = .ok (.aload_n 0, 1) := by decide +kernel
theorem dPr_addWord_8 : decode ccPr_addWord 8 = .ok (.getfield 24, 3) := by decide +kernel
theorem dPr_addWord_11 : decode ccPr_addWord 11 = .ok (.invokevirtual 193, 3) := by decide +kernel
theorem dPr_addWord_14 : decode ccPr_addWord 14 = .ok (.iload 4, 2) := by decide +kernel
theorem dPr_addWord_16 : decode ccPr_addWord 16 = .ok (.ifCond .eq 13, 3) := by decide +kernel
theorem dPr_addWord_19 : decode ccPr_addWord 19 = .ok (.iload_n 1, 1) := by decide +kernel
theorem dPr_addWord_20 : decode ccPr_addWord 20 = .ok (.bipush 67, 2) := by decide +kernel
theorem dPr_addWord_22 : decode ccPr_addWord 22 = .ok (.if_icmp .eq 7, 3) := by decide +kernel
theorem dPr_addWord_25 : decode ccPr_addWord 25 = .ok (.iconst 1, 1) := by decide +kernel
theorem dPr_addWord_26 : decode ccPr_addWord 26 = .ok (.goto 4, 3) := by decide +kernel
theorem dPr_addWord_29 : decode ccPr_addWord 29 = .ok (.iconst 0, 1) := by decide +kernel
theorem dPr_addWord_30 : decode ccPr_addWord 30 = .ok (.istore 5, 2) := by decide +kernel
theorem dPr_addWord_32 : decode ccPr_addWord 32 = .ok (.iload 5, 2) := by decide +kernel
theorem dPr_addWord_34 : decode ccPr_addWord 34 = .ok (.iload_n 1, 1) := by decide +kernel
theorem dPr_addWord_35 : decode ccPr_addWord 35 = .ok (.invokestatic 196, 3) := by decide +kernel
theorem dPr_addWord_38 : decode ccPr_addWord 38 = .ok (.if_icmp .eq 7, 3) := by decide +kernel
theorem dPr_addWord_41 : decode ccPr_addWord 41 = .ok (.iconst 1, 1) := by decide +kernel
theorem dPr_addWord_42 : decode ccPr_addWord 42 = .ok (.goto 4, 3) := by decide +kernel
theorem dPr_addWord_45 : decode ccPr_addWord 45 = .ok (.iconst 0, 1) := by decide +kernel
theorem dPr_addWord_46 : decode ccPr_addWord 46 = .ok (.istore 6, 2) := by decide +kernel
theorem dPr_addWord_48 : decode ccPr_addWord 48 = .ok (.iload_n 1, 1) := by decide +kernel
theorem dPr_addWord_49 : decode ccPr_addWord 49 = .ok (.invokestatic 199, 3) := by decide +kernel
theorem dPr_addWord_52 : decode ccPr_addWord 52 = .ok (.ifCond .eq 17, 3) := by decide +kernel
theorem dPr_addWord_55 : decode ccPr_addWord 55 = .ok (.aload_n 0, 1) := by decide +kernel
theorem dPr_addWord_56 : decode ccPr_addWord 56 = .ok (.getfield 24, 3) := by decide +kernel
theorem dPr_addWord_59 : decode ccPr_addWord 59 = .ok (.lload_n 2, 1) := by decide +kernel
theorem dPr_addWord_60 : decode ccPr_addWord 60 = .ok (.lconst 0, 1) := by decide +kernel
theorem dPr_addWord_61 : decode ccPr_addWord 61 = .ok (.iload 6, 2) := by decide +kernel
theorem dPr_addWord_63 : decode ccPr_addWord 63 = .ok (.invokevirtual 202, 3) := by decide +kernel
theorem dPr_addWord_66 : decode ccPr_addWord 66 = .ok (.goto 14, 3) := by decide +kernel
theorem dPr_addWord_69 : decode ccPr_addWord 69 = .ok (.aload_n 0, 1) := by decide +kernel
theorem dPr_addWord_70 : decode ccPr_addWord 70 = .ok (.getfield 24, 3) := by decide +kernel
theorem dPr_addWord_73 : decode ccPr_addWord 73 = .ok (.lconst 0, 1) := by decide +kernel
theorem dPr_addWord_74 : decode ccPr_addWord 74 = .ok (.lload_n 2, 1) := by decide +kernel
theorem dPr_addWord_75 : decode ccPr_addWord 75 = .ok (.iload 6, 2) := by decide +kernel
theorem dPr_addWord_77 : decode ccPr_addWord 77 = .ok (.invokevirtual 202, 3) := by decide +kernel
theorem dPr_addWord_80 : decode ccPr_addWord 80 = .ok (.return_, 1) := by decide +kernel
def fPr_addWord_48  (z : SC) (o : Int32) (v : Int64) (v6 : Bool) : SC :=
  (if (fOp_addsToUpper o) = true then fAc_add z v 0 v6 else fAc_add z 0 v v6)
def fPr_addWord_46  (z : SC) (s0 : Bool) (o : Int32) (v : Int64) : SC :=
  fPr_addWord_48 z o v s0
def fPr_addWord_30  (z : SC) (s0 : Bool) (o : Int32) (v : Int64) : SC :=
  (if s0 = (fOp_subtracts o) then fPr_addWord_46 z false o v else fPr_addWord_46 z true o v)
def fPr_addWord_29  (z : SC) (o : Int32) (v : Int64) : SC :=
  fPr_addWord_30 z false o v
def fPr_addWord_14  (z : SC) (o : Int32) (v : Int64) (b : Bool) : SC :=
  (if b = true then (if o = (67 : Int32) then fPr_addWord_29 z o v else fPr_addWord_30 z true o v) else fPr_addWord_29 z o v)
def fPr_addWord (z0 : SC) (o : Int32) (v : Int64) (b : Bool) : SC :=
  (if (fOp_resetsFirst o) = true then fPr_addWord_14 (fAc_reset z0) o v b else fPr_addWord_14 z0 o v b)
set_option maxHeartbeats 4000000 in
set_option maxRecDepth 100000 in
theorem kPr_addWord (l : Launch) (D : va_G) (q : Nat → Nat) (cI cJ cZ : ClassId) (hq : c_inj q) (z0 : SC) (o : Int32) (v : Int64) (b : Bool)  : Met l yPr_addWord wsPr_addWord { frames := 2, cells := 0, slots := 0, locals := 55 } (va_Pc [.ref (q 4), .int (o), .long (v), .int (bb (b))] (c_C D q cI cJ cZ z0)) (cQw none (c_W D q cI cJ cZ (fPr_addWord z0 o v b)) (c_qs q)) 0 0 (c_qs q) := by
  refine Met.ofW (cc := ccPr_addWord) (maxL := 7) (ret := none) (by decide +kernel) rfl ?_
  intro p e s m args below meth c s₁ B hml hv
  obtain ⟨rfl, hP, hK⟩ := hv
  have hx := B.exec
  have hb := B.bytes
  have hr := B.returns
  have hts := atoms_spec (ws := wsPr_addWord) B.pre
  have hown : s.vm.findClass RPr = some m.cls := findClass_of_methodNamed B.named
  have hlocks := B.notSynchronized
  have w0 := hts (.fieldLink RPr 24 "DrumMachine$Processor" "accumulator" "LDrumMachine$Accumulator;") (List.mem_cons_of_mem _ wm1_113)
  have i0 : ∀ w ∈ u_ws RPr TPr 9, w ∈ wsPr_addWord := fun w h => List.mem_cons_of_mem _ (inAPr w h)
  have hS : va_S (c_qs q) s.heap s.heap [] := va_S.rf
  have hl := lv_entry ([.ref (q 4), .int (o), .long (v), .int (bb (b))]) (n := 7) (Nat.le_of_ble_eq_true rfl)
  rw [lg_entry_eq]
  generalize (lg_sl ([.ref (q 4), .int (o), .long (v), .int (bb (b))]) ++ List.replicate (7 - (lg_sl ([.ref (q 4), .int (o), .long (v), .int (bb (b))])).length) Slot.unset).toArray = ls at hl ⊢
  have hl : lv_has ls 7 [(0, .ref (q 4)), (1, .int (o)), (2, .long (v)), (4, .int (bb (b)))] := hl
  have hB48 : ∀ (H : Heap) (locs : List Loc) (ls : Array Slot) (z : SC) (v6 : Bool), fPr_addWord z0 o v b = fPr_addWord_48 z o v v6 → c_W D q cI cJ cZ z H → va_S (c_qs q) s.heap H locs → lv_has ls 7 [(0, .ref (q 4)), (1, .int (o)), (2, .long (v)), (6, .int (bb (v6)))] → W p l e (headSpec wsPr_addWord { frames := 2, cells := 0, slots := 0, locals := 55 }).room s m ([.ref (q 4), .int (o), .long (v), .int (bb (b))] : List Value).toArray below meth c H locs 0 0 (MQ below (cQw none (c_W D q cI cJ cZ (fPr_addWord z0 o v b)) (c_qs q)) ([.ref (q 4), .int (o), .long (v), .int (bb (b))] : List Value).toArray s 0 0 (c_qs q)) (F0 m 48 ls []) := by
    intro H locs ls z v6 hR hP hS hl
    rw [fPr_addWord_48.eq_1] at hR
    refine lv_iload_n hx hb dPr_addWord_48 rfl (lv_at hl 1 rfl) ?_
    refine cl_rd (W.runS (As := [.int (o)]) (rest := []) ⟨hx, hb, hml, hown, hts⟩ (kOp_addsToUpper l o) (va_cwS 1 hts (gS wm4_77 wm4_78 wm1_17 wm4_79) rfl rfl rfl (by decide +kernel) ⟨Nat.le_of_ble_eq_true rfl, Nat.le_of_ble_eq_true rfl⟩) (preT) rfl rfl hl.1 rfl (lv_room (Nat.le_of_ble_eq_true rfl)) dPr_addWord_49 ⟨Nat.le_refl _, Nat.le_refl _⟩) ?_
    refine wz_ifeq hx hb dPr_addWord_52 rfl (fun h52 => ?_) (fun h52 => ?_)
    · have hR := hR.trans (if_neg h52)
      refine lv_aload_n hx hb dPr_addWord_69 rfl (lv_at hl 0 rfl) ?_
      refine cg4_accumulator hx hb hts i0 hown hK hP w0 dPr_addWord_70 ?_
      refine lv_lconst (v := 0) hx hb dPr_addWord_73 (by decide) ?_
      refine lv_lload_n hx hb dPr_addWord_74 rfl (lv_at hl 2 rfl) ?_
      refine lv_iload hx hb dPr_addWord_75 (lv_at hl 3 rfl) ?_
      refine cl_wr (W.runV (As := [.long (0), .long (v), .int (bb (v6))]) (rest := []) ⟨hx, hb, hml, hown, hts⟩ (kAc_add l D q cI cJ cZ hq z 0 v v6) (cwV 3 hts (gV wm4_80 wm3_188 wm3_189 wm1_7 wm3_190) rfl rfl rfl (by decide +kernel) ⟨Nat.le_of_ble_eq_true rfl, Nat.le_of_ble_eq_true rfl⟩) (c_preV5 hK hP) rfl rfl hl.1 rfl (lv_room (Nat.le_of_ble_eq_true rfl)) dPr_addWord_77 ⟨Nat.le_refl _, Nat.le_refl _⟩) hS (fun _ h => h) (fun _ h => h) (fun H locs hP hS => ?_)
      exact W.vret hx hb hr (fun t ht _ => ⟨rfl, by rw [hR, ht]; exact hP, hS.F ht⟩) hS.2.2 dPr_addWord_80
    · have hR := hR.trans (if_pos h52)
      refine lv_aload_n hx hb dPr_addWord_55 rfl (lv_at hl 0 rfl) ?_
      refine cg4_accumulator hx hb hts i0 hown hK hP w0 dPr_addWord_56 ?_
      refine lv_lload_n hx hb dPr_addWord_59 rfl (lv_at hl 2 rfl) ?_
      refine lv_lconst (v := 0) hx hb dPr_addWord_60 (by decide) ?_
      refine lv_iload hx hb dPr_addWord_61 (lv_at hl 3 rfl) ?_
      refine cl_wr (W.runV (As := [.long (v), .long (0), .int (bb (v6))]) (rest := []) ⟨hx, hb, hml, hown, hts⟩ (kAc_add l D q cI cJ cZ hq z v 0 v6) (cwV 3 hts (gV wm4_80 wm3_188 wm3_189 wm1_7 wm3_190) rfl rfl rfl (by decide +kernel) ⟨Nat.le_of_ble_eq_true rfl, Nat.le_of_ble_eq_true rfl⟩) (c_preV5 hK hP) rfl rfl hl.1 rfl (lv_room (Nat.le_of_ble_eq_true rfl)) dPr_addWord_63 ⟨Nat.le_refl _, Nat.le_refl _⟩) hS (fun _ h => h) (fun _ h => h) (fun H locs hP hS => ?_)
      refine lv_goto hx hb dPr_addWord_66 rfl ?_
      exact W.vret hx hb hr (fun t ht _ => ⟨rfl, by rw [hR, ht]; exact hP, hS.F ht⟩) hS.2.2 dPr_addWord_80
  have hB46 : ∀ (H : Heap) (locs : List Loc) (ls : Array Slot) (z : SC) (s0 : Bool), fPr_addWord z0 o v b = fPr_addWord_46 z s0 o v → c_W D q cI cJ cZ z H → va_S (c_qs q) s.heap H locs → lv_has ls 7 [(0, .ref (q 4)), (1, .int (o)), (2, .long (v))] → W p l e (headSpec wsPr_addWord { frames := 2, cells := 0, slots := 0, locals := 55 }).room s m ([.ref (q 4), .int (o), .long (v), .int (bb (b))] : List Value).toArray below meth c H locs 0 0 (MQ below (cQw none (c_W D q cI cJ cZ (fPr_addWord z0 o v b)) (c_qs q)) ([.ref (q 4), .int (o), .long (v), .int (bb (b))] : List Value).toArray s 0 0 (c_qs q)) (F0 m 46 ls [.int (bb (s0))]) := by
    intro H locs ls z s0 hR hP hS hl
    rw [fPr_addWord_46.eq_1] at hR
    refine lv_istore (lv' := [(6, .int (bb (s0))), (0, .ref (q 4)), (1, .int (o)), (2, .long (v))]) hx hb dPr_addWord_46 hl (by decide) rfl (fun ls hl => ?_)
    exact hB48 H locs ls z s0 hR hP hS (lv_sub hl [1, 2, 3, 0] rfl)
  have hB30 : ∀ (H : Heap) (locs : List Loc) (ls : Array Slot) (z : SC) (s0 : Bool), fPr_addWord z0 o v b = fPr_addWord_30 z s0 o v → c_W D q cI cJ cZ z H → va_S (c_qs q) s.heap H locs → lv_has ls 7 [(0, .ref (q 4)), (1, .int (o)), (2, .long (v))] → W p l e (headSpec wsPr_addWord { frames := 2, cells := 0, slots := 0, locals := 55 }).room s m ([.ref (q 4), .int (o), .long (v), .int (bb (b))] : List Value).toArray below meth c H locs 0 0 (MQ below (cQw none (c_W D q cI cJ cZ (fPr_addWord z0 o v b)) (c_qs q)) ([.ref (q 4), .int (o), .long (v), .int (bb (b))] : List Value).toArray s 0 0 (c_qs q)) (F0 m 30 ls [.int (bb (s0))]) := by
    intro H locs ls z s0 hR hP hS hl
    rw [fPr_addWord_30.eq_1] at hR
    refine lv_istore (lv' := [(5, .int (bb (s0))), (0, .ref (q 4)), (1, .int (o)), (2, .long (v))]) hx hb dPr_addWord_30 hl (by decide) rfl (fun ls hl => ?_)
    refine lv_iload hx hb dPr_addWord_32 (lv_at hl 0 rfl) ?_
    refine lv_iload_n hx hb dPr_addWord_34 rfl (lv_at hl 2 rfl) ?_
    refine cl_rd (W.runS (As := [.int (o)]) (rest := [.int (bb (s0))]) ⟨hx, hb, hml, hown, hts⟩ (kOp_subtracts l o) (va_cwS 1 hts (gS wm4_74 wm4_75 wm1_17 wm4_76) rfl rfl rfl (by decide +kernel) ⟨Nat.le_of_ble_eq_true rfl, Nat.le_of_ble_eq_true rfl⟩) (preT) rfl rfl hl.1 rfl (lv_room (Nat.le_of_ble_eq_true rfl)) dPr_addWord_35 ⟨Nat.le_refl _, Nat.le_refl _⟩) ?_
    refine wz_cmpeq hx hb dPr_addWord_38 rfl (fun h38 => ?_) (fun h38 => ?_)
    · have hR := hR.trans (if_pos h38)
      refine lv_iconst (v := 0) hx hb dPr_addWord_45 (by decide) ?_
      exact hB46 H locs ls z false hR hP hS (lv_sub hl [1, 2, 3] rfl)
    · have hR := hR.trans (if_neg h38)
      refine lv_iconst (v := 1) hx hb dPr_addWord_41 (by decide) ?_
      refine lv_goto hx hb dPr_addWord_42 rfl ?_
      exact hB46 H locs ls z true hR hP hS (lv_sub hl [1, 2, 3] rfl)
  have hB29 : ∀ (H : Heap) (locs : List Loc) (ls : Array Slot) (z : SC), fPr_addWord z0 o v b = fPr_addWord_29 z o v → c_W D q cI cJ cZ z H → va_S (c_qs q) s.heap H locs → lv_has ls 7 [(0, .ref (q 4)), (1, .int (o)), (2, .long (v))] → W p l e (headSpec wsPr_addWord { frames := 2, cells := 0, slots := 0, locals := 55 }).room s m ([.ref (q 4), .int (o), .long (v), .int (bb (b))] : List Value).toArray below meth c H locs 0 0 (MQ below (cQw none (c_W D q cI cJ cZ (fPr_addWord z0 o v b)) (c_qs q)) ([.ref (q 4), .int (o), .long (v), .int (bb (b))] : List Value).toArray s 0 0 (c_qs q)) (F0 m 29 ls []) := by
    intro H locs ls z hR hP hS hl
    rw [fPr_addWord_29.eq_1] at hR
    refine lv_iconst (v := 0) hx hb dPr_addWord_29 (by decide) ?_
    exact hB30 H locs ls z false hR hP hS (lv_sub hl [0, 1, 2] rfl)
  have hB14 : ∀ (H : Heap) (locs : List Loc) (ls : Array Slot) (z : SC), fPr_addWord z0 o v b = fPr_addWord_14 z o v b → c_W D q cI cJ cZ z H → va_S (c_qs q) s.heap H locs → lv_has ls 7 [(0, .ref (q 4)), (1, .int (o)), (2, .long (v)), (4, .int (bb (b)))] → W p l e (headSpec wsPr_addWord { frames := 2, cells := 0, slots := 0, locals := 55 }).room s m ([.ref (q 4), .int (o), .long (v), .int (bb (b))] : List Value).toArray below meth c H locs 0 0 (MQ below (cQw none (c_W D q cI cJ cZ (fPr_addWord z0 o v b)) (c_qs q)) ([.ref (q 4), .int (o), .long (v), .int (bb (b))] : List Value).toArray s 0 0 (c_qs q)) (F0 m 14 ls []) := by
    intro H locs ls z hR hP hS hl
    rw [fPr_addWord_14.eq_1] at hR
    refine lv_iload hx hb dPr_addWord_14 (lv_at hl 3 rfl) ?_
    refine wz_ifeq hx hb dPr_addWord_16 rfl (fun h16 => ?_) (fun h16 => ?_)
    · have hR := hR.trans (if_neg h16)
      exact hB29 H locs ls z hR hP hS (lv_sub hl [0, 1, 2] rfl)
    · have hR := hR.trans (if_pos h16)
      refine lv_iload_n hx hb dPr_addWord_19 rfl (lv_at hl 1 rfl) ?_
      refine lv_bipush (v := 67) hx hb dPr_addWord_20 (by decide) ?_
      refine lv_icmp_eq hx hb dPr_addWord_22 rfl (fun h22 => ?_) (fun h22 => ?_)
      · have hR := hR.trans (if_pos h22)
        exact hB29 H locs ls z hR hP hS (lv_sub hl [0, 1, 2] rfl)
      · have hR := hR.trans (if_neg h22)
        refine lv_iconst (v := 1) hx hb dPr_addWord_25 (by decide) ?_
        refine lv_goto hx hb dPr_addWord_26 rfl ?_
        exact hB30 H locs ls z true hR hP hS (lv_sub hl [0, 1, 2] rfl)
  have hR := fPr_addWord.eq_1 z0 o v b
  refine lv_iload_n hx hb dPr_addWord_0 rfl (lv_at hl 1 rfl) ?_
  refine cl_rd (W.runS (As := [.int (o)]) (rest := []) ⟨hx, hb, hml, hown, hts⟩ (kOp_resetsFirst l o) (va_cwS 1 hts (gS wm4_67 wm4_68 wm1_17 wm4_69) rfl rfl rfl (by decide +kernel) ⟨Nat.le_of_ble_eq_true rfl, Nat.le_of_ble_eq_true rfl⟩) (preT) rfl rfl hl.1 rfl (lv_room (Nat.le_of_ble_eq_true rfl)) dPr_addWord_1 ⟨Nat.le_refl _, Nat.le_refl _⟩) ?_
  refine wz_ifeq hx hb dPr_addWord_4 rfl (fun h4 => ?_) (fun h4 => ?_)
  · have hR := hR.trans (if_neg h4)
    exact hB14 s.heap [] ls z0 hR hP hS (lv_sub hl [0, 1, 2, 3] rfl)
  · have hR := hR.trans (if_pos h4)
    refine lv_aload_n hx hb dPr_addWord_7 rfl (lv_at hl 0 rfl) ?_
    refine cg4_accumulator hx hb hts i0 hown hK hP w0 dPr_addWord_8 ?_
    refine cl_wr (W.runV (As := []) (rest := []) ⟨hx, hb, hml, hown, hts⟩ (kAc_reset l D q cI cJ cZ hq z0) (cwV 0 hts (gV wm4_70 wm4_71 wm4_72 wm1_7 wm4_73) rfl rfl rfl (by decide +kernel) ⟨Nat.le_of_ble_eq_true rfl, Nat.le_of_ble_eq_true rfl⟩) (c_preV5 hK hP) rfl rfl hl.1 rfl (lv_room (Nat.le_of_ble_eq_true rfl)) dPr_addWord_11 ⟨Nat.le_refl _, Nat.le_refl _⟩) hS (fun _ h => h) (fun _ h => h) (fun H locs hP hS => ?_)
    exact hB14 H locs ls (fAc_reset z0) hR hP hS (lv_sub hl [0, 1, 2, 3] rfl)
theorem dPr_multiply_0 : decode ccPr_multiply 0 = .ok (.aload_n 0, 1) := by decide +kernel
theorem dPr_multiply_1 : decode ccPr_multiply 1 = .ok (.dup, 1) := by decide +kernel
theorem dPr_multiply_2 : decode ccPr_multiply 2 = .ok (.getfield 32, 3) := by decide +kernel
theorem dPr_multiply_5 : decode ccPr_multiply 5 = .ok (.iconst 2, 1) := by decide +kernel
theorem dPr_multiply_6 : decode ccPr_multiply 6 = .ok (.aload_n 0, 1) := by decide +kernel
theorem dPr_multiply_7 : decode ccPr_multiply 7 = .ok (.getfield 24, 3) := by decide +kernel
theorem dPr_multiply_10 : decode ccPr_multiply 10 = .ok (.invokevirtual 39, 3) := by decide +kernel
theorem dPr_multiply_13 : decode ccPr_multiply 13 = .ok (.invokestatic 206, 3) := by decide +kernel
theorem dPr_multiply_16 : decode ccPr_multiply 16 = .ok (.imul, 1) := by decide +kernel
theorem dPr_multiply_17 : decode ccPr_multiply 17 = .ok (.i2l, 1) := by decide +kernel
theorem dPr_multiply_18 : decode ccPr_multiply 18 = .ok (.ladd, 1) := by decide +kernel
theorem dPr_multiply_19 : decode ccPr_multiply 19 = .ok (.putfield 32, 3) := by decide +kernel
theorem dPr_multiply_22 : decode ccPr_multiply 22 = .ok (.aload_n 0, 1) := by decide +kernel
theorem dPr_multiply_23 : decode ccPr_multiply 23 = .ok (.getfield 24, 3) := by decide +kernel
theorem dPr_multiply_26 : decode ccPr_multiply 26 = .ok (.lload_n 1, 1) := by decide +kernel
theorem dPr_multiply_27 : decode ccPr_multiply 27 = .ok (.iload_n 3, 1) := by decide +kernel
theorem dPr_multiply_28 : decode ccPr_multiply 28 = .ok (.invokevirtual 209, 3) := by decide +kernel
theorem dPr_multiply_31 : decode ccPr_multiply 31 = .ok (.return_, 1) := by decide +kernel
def fPr_multiply (z0 : SC) (v : Int64) (b : Bool) : SC :=
  fAc_multiply (c_time_s z0 ((c_time z0) + ((2 * (fDg_sum (fAc_upperDigits z0))).toInt64))) v b
set_option maxHeartbeats 4000000 in
set_option maxRecDepth 100000 in
theorem kPr_multiply (l : Launch) (D : va_G) (q : Nat → Nat) (cI cJ cZ : ClassId) (hq : c_inj q) (z0 : SC) (v : Int64) (b : Bool)  : Met l yPr_multiply wsPr_multiply { frames := 1, cells := 0, slots := 0, locals := 29 } (va_Pc [.ref (q 4), .long (v), .int (bb (b))] (c_C D q cI cJ cZ z0)) (cQw none (c_W D q cI cJ cZ (fPr_multiply z0 v b)) (c_qs q)) 0 0 (c_qs q) := by
  refine Met.ofW (cc := ccPr_multiply) (maxL := 4) (ret := none) (by decide +kernel) rfl ?_
  intro p e s m args below meth c s₁ B hml hv
  obtain ⟨rfl, hP, hK⟩ := hv
  have hx := B.exec
  have hb := B.bytes
  have hr := B.returns
  have hts := atoms_spec (ws := wsPr_multiply) B.pre
  have hown : s.vm.findClass RPr = some m.cls := findClass_of_methodNamed B.named
  have hlocks := B.notSynchronized
  have w0 := hts (.fieldLink RPr 32 "DrumMachine$Processor" "time" "J") (List.mem_cons_of_mem _ wm1_118)
  have w1 := hts (.fieldLink RPr 24 "DrumMachine$Processor" "accumulator" "LDrumMachine$Accumulator;") (List.mem_cons_of_mem _ wm1_113)
  have i0 : ∀ w ∈ u_ws RPr TPr 9, w ∈ wsPr_multiply := fun w h => List.mem_cons_of_mem _ (inAPr w h)
  have hS : va_S (c_qs q) s.heap s.heap [] := va_S.rf
  have hl := lv_entry ([.ref (q 4), .long (v), .int (bb (b))]) (n := 4) (Nat.le_of_ble_eq_true rfl)
  rw [lg_entry_eq]
  generalize (lg_sl ([.ref (q 4), .long (v), .int (bb (b))]) ++ List.replicate (4 - (lg_sl ([.ref (q 4), .long (v), .int (bb (b))])).length) Slot.unset).toArray = ls at hl ⊢
  have hl : lv_has ls 4 [(0, .ref (q 4)), (1, .long (v)), (3, .int (bb (b)))] := hl
  have hR := fPr_multiply.eq_1 z0 v b
  refine lv_aload_n hx hb dPr_multiply_0 rfl (lv_at hl 0 rfl) ?_
  refine lv_dup hx hb dPr_multiply_1 rfl ?_
  refine cg4_time hx hb hts i0 hown hK hP w0 dPr_multiply_2 ?_
  refine lv_iconst (v := 2) hx hb dPr_multiply_5 (by decide) ?_
  refine lv_aload_n hx hb dPr_multiply_6 rfl (lv_at hl 0 rfl) ?_
  refine cg4_accumulator hx hb hts i0 hown hK hP w1 dPr_multiply_7 ?_
  refine cl_rd (W.runV (As := []) (rest := [.int (2), .long (c_time z0), .ref (q 4)]) ⟨hx, hb, hml, hown, hts⟩ (kAc_upperDigits l D q cI cJ cZ hq z0) (cwV 0 hts (gV wm3_239 wm4_0 wm4_1 wm1_7 wm4_2) rfl rfl rfl (by decide +kernel) ⟨Nat.le_of_ble_eq_true rfl, Nat.le_of_ble_eq_true rfl⟩) (c_preV5 hK hP) rfl rfl hl.1 rfl (lv_room (Nat.le_of_ble_eq_true rfl)) dPr_multiply_10 ⟨Nat.le_refl _, Nat.le_refl _⟩) ?_
  refine cl_rd (W.runS (As := [.long ((fAc_upperDigits z0))]) (rest := [.int (2), .long (c_time z0), .ref (q 4)]) ⟨hx, hb, hml, hown, hts⟩ (kDg_sum l (fAc_upperDigits z0)) (va_cwS 1 hts (gS wm4_33 wm4_34 wm1_14 wm4_35) rfl rfl rfl (by decide +kernel) ⟨Nat.le_of_ble_eq_true rfl, Nat.le_of_ble_eq_true rfl⟩) (preT) rfl rfl hl.1 rfl (lv_room (Nat.le_of_ble_eq_true rfl)) dPr_multiply_13 ⟨Nat.le_refl _, Nat.le_refl _⟩) ?_
  refine lv_imul hx hb dPr_multiply_16 ?_
  refine lv_i2l hx hb dPr_multiply_17 rfl ?_
  refine lv_ladd hx hb dPr_multiply_18 ?_
  refine cp4_time ((c_time z0) + ((2 * (fDg_sum (fAc_upperDigits z0))).toInt64)) hq hS hx hb hts i0 hown hK hP w0 dPr_multiply_19 (fun H locs hP hS => ?_)
  refine lv_aload_n hx hb dPr_multiply_22 rfl (lv_at hl 0 rfl) ?_
  refine cg4_accumulator hx hb hts i0 hown hK hP w1 dPr_multiply_23 ?_
  refine lv_lload_n hx hb dPr_multiply_26 rfl (lv_at hl 1 rfl) ?_
  refine lv_iload_n hx hb dPr_multiply_27 rfl (lv_at hl 2 rfl) ?_
  refine cl_wr (W.runV (As := [.long (v), .int (bb (b))]) (rest := []) ⟨hx, hb, hml, hown, hts⟩ (kAc_multiply l D q cI cJ cZ hq (c_time_s z0 ((c_time z0) + ((2 * (fDg_sum (fAc_upperDigits z0))).toInt64))) v b) (cwV 2 hts (gV wm4_55 wm4_56 wm4_57 wm1_7 wm4_58) rfl rfl rfl (by decide +kernel) ⟨Nat.le_of_ble_eq_true rfl, Nat.le_of_ble_eq_true rfl⟩) (c_preV5 hK hP) rfl rfl hl.1 rfl (lv_room (Nat.le_of_ble_eq_true rfl)) dPr_multiply_28 ⟨Nat.le_refl _, Nat.le_refl _⟩) hS (fun _ h => h) (fun _ h => h) (fun H locs hP hS => ?_)
  exact W.vret hx hb hr (fun t ht _ => ⟨rfl, by rw [hR, ht]; exact hP, hS.F ht⟩) hS.2.2 dPr_multiply_31
theorem dPr_divide_0 : decode ccPr_divide 0 = .ok (.aload_n 0, 1) := by decide +kernel
theorem dPr_divide_1 : decode ccPr_divide 1 = .ok (.getfield 24, 3) := by decide +kernel
theorem dPr_divide_4 : decode ccPr_divide 4 = .ok (.lload_n 1, 1) := by decide +kernel
theorem dPr_divide_5 : decode ccPr_divide 5 = .ok (.iload_n 3, 1) := by decide +kernel
theorem dPr_divide_6 : decode ccPr_divide 6 = .ok (.invokevirtual 210, 3) := by decide +kernel
theorem dPr_divide_9 : decode ccPr_divide 9 = .ok (.ifCond .ne 5, 3) := by decide +kernel
theorem dPr_divide_12 : decode ccPr_divide 12 = .ok (.iconst 3, 1) := by decide +kernel
theorem dPr_divide_13 : decode ccPr_divide 13 = .ok (.ireturn, 1) := by decide +kernel
theorem dPr_divide_14 : decode ccPr_divide 14 = .ok (.aload_n 0, 1) := by decide +kernel
theorem dPr_divide_15 : decode ccPr_divide 15 = .ok (.dup, 1) := by decide +kernel
theorem dPr_divide_16 : decode ccPr_divide 16 = .ok (.getfield 32, 3) := by decide +kernel
theorem dPr_divide_19 : decode ccPr_divide 19 = .ok (.iconst 2, 1) := by decide +kernel
theorem dPr_divide_20 : decode ccPr_divide 20 = .ok (.aload_n 0, 1) := by decide +kernel
theorem dPr_divide_21 : decode ccPr_divide 21 = .ok (.getfield 24, 3) := by decide +kernel
theorem dPr_divide_24 : decode ccPr_divide 24 = .ok (.invokevirtual 43, 3) := by decide +kernel
theorem dPr_divide_27 : decode ccPr_divide 27 = .ok (.invokestatic 206, 3) := by decide +kernel
theorem dPr_divide_30 : decode ccPr_divide 30 = .ok (.imul, 1) := by decide +kernel
theorem dPr_divide_31 : decode ccPr_divide 31 = .ok (.i2l, 1) := by decide +kernel
theorem dPr_divide_32 : decode ccPr_divide 32 = .ok (.ladd, 1) := by decide +kernel
theorem dPr_divide_33 : decode ccPr_divide 33 = .ok (.putfield 32, 3) := by decide +kernel
theorem dPr_divide_36 : decode ccPr_divide 36 = .ok (.iconst (-1), 1) := by decide +kernel
theorem dPr_divide_37 : decode ccPr_divide 37 = .ok (.ireturn, 1) := by decide +kernel
def fPr_divide_14  (z : SC) : Int32 × SC :=
  ((-1), c_time_s z ((c_time z) + ((2 * (fDg_sum (fAc_lowerDigits z))).toInt64)))
def fPr_divide (z0 : SC) (v : Int64) (b : Bool) : Int32 × SC :=
  (if ((fAc_divide z0 v b).1) = true then fPr_divide_14 ((fAc_divide z0 v b).2) else (3, (fAc_divide z0 v b).2))
set_option maxHeartbeats 4000000 in
set_option maxRecDepth 100000 in
theorem kPr_divide (l : Launch) (D : va_G) (q : Nat → Nat) (cI cJ cZ : ClassId) (hq : c_inj q) (z0 : SC) (v : Int64) (b : Bool)  : Met l yPr_divide wsPr_divide { frames := 1, cells := 0, slots := 0, locals := 30 } (va_Pc [.ref (q 4), .long (v), .int (bb (b))] (c_C D q cI cJ cZ z0)) (cQw (some (.int ((fPr_divide z0 v b).1))) (c_W D q cI cJ cZ (fPr_divide z0 v b).2) (c_qs q)) 0 0 (c_qs q) := by
  refine Met.ofW (cc := ccPr_divide) (maxL := 4) (ret := (some .int)) (by decide +kernel) rfl ?_
  intro p e s m args below meth c s₁ B hml hv
  obtain ⟨rfl, hP, hK⟩ := hv
  have hx := B.exec
  have hb := B.bytes
  have hr := B.returns
  have hts := atoms_spec (ws := wsPr_divide) B.pre
  have hown : s.vm.findClass RPr = some m.cls := findClass_of_methodNamed B.named
  have hlocks := B.notSynchronized
  have w0 := hts (.fieldLink RPr 32 "DrumMachine$Processor" "time" "J") (List.mem_cons_of_mem _ wm1_118)
  have w1 := hts (.fieldLink RPr 24 "DrumMachine$Processor" "accumulator" "LDrumMachine$Accumulator;") (List.mem_cons_of_mem _ wm1_113)
  have i0 : ∀ w ∈ u_ws RPr TPr 9, w ∈ wsPr_divide := fun w h => List.mem_cons_of_mem _ (inAPr w h)
  have hS : va_S (c_qs q) s.heap s.heap [] := va_S.rf
  have hl := lv_entry ([.ref (q 4), .long (v), .int (bb (b))]) (n := 4) (Nat.le_of_ble_eq_true rfl)
  rw [lg_entry_eq]
  generalize (lg_sl ([.ref (q 4), .long (v), .int (bb (b))]) ++ List.replicate (4 - (lg_sl ([.ref (q 4), .long (v), .int (bb (b))])).length) Slot.unset).toArray = ls at hl ⊢
  have hl : lv_has ls 4 [(0, .ref (q 4)), (1, .long (v)), (3, .int (bb (b)))] := hl
  have hB14 : ∀ (H : Heap) (locs : List Loc) (ls : Array Slot) (z : SC), fPr_divide z0 v b = fPr_divide_14 z → c_W D q cI cJ cZ z H → va_S (c_qs q) s.heap H locs → lv_has ls 4 [(0, .ref (q 4))] → W p l e (headSpec wsPr_divide { frames := 1, cells := 0, slots := 0, locals := 30 }).room s m ([.ref (q 4), .long (v), .int (bb (b))] : List Value).toArray below meth c H locs 0 0 (MQ below (cQw (some (.int ((fPr_divide z0 v b).1))) (c_W D q cI cJ cZ (fPr_divide z0 v b).2) (c_qs q)) ([.ref (q 4), .long (v), .int (bb (b))] : List Value).toArray s 0 0 (c_qs q)) (F0 m 14 ls []) := by
    intro H locs ls z hR hP hS hl
    rw [fPr_divide_14.eq_1] at hR
    refine lv_aload_n hx hb dPr_divide_14 rfl (lv_at hl 0 rfl) ?_
    refine lv_dup hx hb dPr_divide_15 rfl ?_
    refine cg4_time hx hb hts i0 hown hK hP w0 dPr_divide_16 ?_
    refine lv_iconst (v := 2) hx hb dPr_divide_19 (by decide) ?_
    refine lv_aload_n hx hb dPr_divide_20 rfl (lv_at hl 0 rfl) ?_
    refine cg4_accumulator hx hb hts i0 hown hK hP w1 dPr_divide_21 ?_
    refine cl_rd (W.runV (As := []) (rest := [.int (2), .long (c_time z), .ref (q 4)]) ⟨hx, hb, hml, hown, hts⟩ (kAc_lowerDigits l D q cI cJ cZ hq z) (cwV 0 hts (gV wm3_227 wm3_228 wm3_229 wm1_7 wm3_230) rfl rfl rfl (by decide +kernel) ⟨Nat.le_of_ble_eq_true rfl, Nat.le_of_ble_eq_true rfl⟩) (c_preV5 hK hP) rfl rfl hl.1 rfl (lv_room (Nat.le_of_ble_eq_true rfl)) dPr_divide_24 ⟨Nat.le_refl _, Nat.le_refl _⟩) ?_
    refine cl_rd (W.runS (As := [.long ((fAc_lowerDigits z))]) (rest := [.int (2), .long (c_time z), .ref (q 4)]) ⟨hx, hb, hml, hown, hts⟩ (kDg_sum l (fAc_lowerDigits z)) (va_cwS 1 hts (gS wm4_33 wm4_34 wm1_14 wm4_35) rfl rfl rfl (by decide +kernel) ⟨Nat.le_of_ble_eq_true rfl, Nat.le_of_ble_eq_true rfl⟩) (preT) rfl rfl hl.1 rfl (lv_room (Nat.le_of_ble_eq_true rfl)) dPr_divide_27 ⟨Nat.le_refl _, Nat.le_refl _⟩) ?_
    refine lv_imul hx hb dPr_divide_30 ?_
    refine lv_i2l hx hb dPr_divide_31 rfl ?_
    refine lv_ladd hx hb dPr_divide_32 ?_
    refine cp4_time ((c_time z) + ((2 * (fDg_sum (fAc_lowerDigits z))).toInt64)) hq hS hx hb hts i0 hown hK hP w0 dPr_divide_33 (fun H locs hP hS => ?_)
    refine lv_iconst (v := (-1)) hx hb dPr_divide_36 (by decide) ?_
    exact W.iret hx hb hr (fun t ht _ => ⟨by rw [hR]; first | done | rfl, by rw [hR, ht]; exact hP, hS.F ht⟩) hS.2.2 dPr_divide_37
  have hR := fPr_divide.eq_1 z0 v b
  refine lv_aload_n hx hb dPr_divide_0 rfl (lv_at hl 0 rfl) ?_
  refine cg4_accumulator hx hb hts i0 hown hK hP w1 dPr_divide_1 ?_
  refine lv_lload_n hx hb dPr_divide_4 rfl (lv_at hl 1 rfl) ?_
  refine lv_iload_n hx hb dPr_divide_5 rfl (lv_at hl 2 rfl) ?_
  refine cl_wr (W.runV (As := [.long (v), .int (bb (b))]) (rest := []) ⟨hx, hb, hml, hown, hts⟩ (kAc_divide l D q cI cJ cZ hq z0 v b) (cwV 2 hts (gV wm4_27 wm4_28 wm4_29 wm1_7 wm4_30) rfl rfl rfl (by decide +kernel) ⟨Nat.le_of_ble_eq_true rfl, Nat.le_of_ble_eq_true rfl⟩) (c_preV5 hK hP) rfl rfl hl.1 rfl (lv_room (Nat.le_of_ble_eq_true rfl)) dPr_divide_6 ⟨Nat.le_refl _, Nat.le_refl _⟩) hS (fun _ h => h) (fun _ h => h) (fun H locs hP hS => ?_)
  refine wz_ifne hx hb dPr_divide_9 rfl (fun h9 => ?_) (fun h9 => ?_)
  · have hR := hR.trans (if_pos h9)
    exact hB14 H locs ls ((fAc_divide z0 v b).2) hR hP hS (lv_sub hl [0] rfl)
  · have hR := hR.trans (if_neg h9)
    refine lv_iconst (v := 3) hx hb dPr_divide_12 (by decide) ?_
    exact W.iret hx hb hr (fun t ht _ => ⟨by rw [hR]; first | done | rfl, by rw [hR, ht]; exact hP, hS.F ht⟩) hS.2.2 dPr_divide_13
theorem pu_in {z : SC} (hc : 0 ≤ (c_pcount z).toInt) (h : ¬ fPu_isFull z = true) : vp_in (c_pcount z) 40 := by
  rw [fPu_isFull.eq_1] at h
  by_cases h1 : c_pcount z < (40 : Int32)
  · rw [Int32.lt_iff_toInt_lt] at h1
    have e : (40 : Int32).toInt = 40 := by decide
    exact vp_in_iff.mpr ⟨hc, by omega⟩
  · rw [if_neg h1] at h; exact absurd rfl h
theorem end_v {a : Int32} (ha : vp_in a 200) : ((a - fDr_angleOf a) + 50).toInt = a.toInt - a.toInt % 50 + 50 := by
  obtain ⟨a1, a2⟩ := vp_in_iff.mp ha
  have e : (50 : Int32).toInt = 50 := by decide
  have hm : (fDr_angleOf a).toInt = a.toInt % 50 := by
    rw [fDr_angleOf.eq_1, Kit.i32_rem_nonneg a1, e]
  have hs : (a - fDr_angleOf a).toInt = a.toInt - a.toInt % 50 := by
    rw [Kit.i32_sub (by rw [hm]; omega) (by rw [hm]; omega), hm]
  rw [Kit.i32_add (by rw [hs, e]; omega) (by rw [hs, e]; omega), hs, e]
theorem end_b {a : Int32} (ha : vp_in a 200) : 0 ≤ a.toInt ∧ a.toInt ≤ ((a - fDr_angleOf a) + 50).toInt ∧ ((a - fDr_angleOf a) + 50).toInt ≤ 200 := by
  have h := end_v ha
  obtain ⟨a1, a2⟩ := vp_in_iff.mp ha
  omega
theorem end_m {a : Int32} (ha : vp_in a 200) : (((a - fDr_angleOf a) + 50).toInt - a.toInt).toNat < 51 := by
  have h := end_v ha
  obtain ⟨a1, a2⟩ := vp_in_iff.mp ha
  omega
theorem lk_lt {x y : Int32} (h : ¬ y ≤ x) : x.toInt < y.toInt := by
  rw [Int32.le_iff_toInt_le] at h
  omega
theorem i_inc {x : Int32} (h : x.toInt < 100000) (h0 : 0 ≤ x.toInt) : (x + 1).toInt = x.toInt + 1 := by
  have e : (1 : Int32).toInt = 1 := by decide
  rw [Kit.i32_add (by omega) (by omega), e]
theorem lk_in {x y : Int32} (h3 : 0 ≤ x.toInt ∧ x.toInt ≤ y.toInt ∧ y.toInt ≤ 200) (h : ¬ y ≤ x) : vp_in x 200 := by
  have := lk_lt h
  exact vp_in_iff.mpr ⟨h3.1, by omega⟩
theorem lk_s {x y : Int32} (h3 : 0 ≤ x.toInt ∧ x.toInt ≤ y.toInt ∧ y.toInt ≤ 200) (h : ¬ y ≤ x) : 0 ≤ (x + 1).toInt ∧ (x + 1).toInt ≤ y.toInt ∧ y.toInt ≤ 200 := by
  have := lk_lt h
  rw [i_inc (by omega) h3.1]
  omega
theorem lk_m {x y : Int32} {n : Nat} (h3 : 0 ≤ x.toInt ∧ x.toInt ≤ y.toInt ∧ y.toInt ≤ 200) (h : ¬ y ≤ x) (hn : (y.toInt - x.toInt).toNat < n + 1) : (y.toInt - (x + 1).toInt).toNat < n := by
  have := lk_lt h
  rw [i_inc (by omega) h3.1]
  omega
theorem ds_b {a : Int32} {k : Nat} (ha : a.toInt ≤ 300) (hk : k ≤ 300) (h : ¬ a ≤ nI k) : k + 1 ≤ 300 := by
  have := lk_lt h
  rw [nI_toInt (by omega)] at this
  omega
theorem ds_m {a : Int32} {k n : Nat} (ha : a.toInt ≤ 300) (hk : k ≤ 300) (h : ¬ a ≤ nI k) (hn : 300 - k < n + 1) : 300 - (k + 1) < n := by
  have := lk_lt h
  rw [nI_toInt (by omega)] at this
  omega
theorem dPr_punchWord_0 : decode ccPr_punchWord 0 = .ok (.aload_n 0, 1) := by decide +kernel
theorem dPr_punchWord_1 : decode ccPr_punchWord 1 = .ok (.getfield 17, 3) := by decide +kernel
theorem dPr_punchWord_4 : decode ccPr_punchWord 4 = .ok (.invokevirtual 213, 3) := by decide +kernel
theorem dPr_punchWord_7 : decode ccPr_punchWord 7 = .ok (.ifCond .eq 5, 3) := by decide +kernel
theorem dPr_punchWord_10 : decode ccPr_punchWord 10 = .ok (.iconst 4, 1) := by decide +kernel
theorem dPr_punchWord_11 : decode ccPr_punchWord 11 = .ok (.ireturn, 1) := by decide +kernel
theorem dPr_punchWord_12 : decode ccPr_punchWord 12 = .ok (.aload_n 0, 1) := by decide +kernel
theorem dPr_punchWord_13 : decode ccPr_punchWord 13 = .ok (.getfield 17, 3) := by decide +kernel
theorem dPr_punchWord_16 : decode ccPr_punchWord 16 = .ok (.lload_n 1, 1) := by decide +kernel
theorem dPr_punchWord_17 : decode ccPr_punchWord 17 = .ok (.iload_n 3, 1) := by decide +kernel
theorem dPr_punchWord_18 : decode ccPr_punchWord 18 = .ok (.invokestatic 218, 3) := by decide +kernel
theorem dPr_punchWord_21 : decode ccPr_punchWord 21 = .ok (.invokevirtual 222, 3) := by decide +kernel
theorem dPr_punchWord_24 : decode ccPr_punchWord 24 = .ok (.iconst (-1), 1) := by decide +kernel
theorem dPr_punchWord_25 : decode ccPr_punchWord 25 = .ok (.ireturn, 1) := by decide +kernel
def fPr_punchWord (z0 : SC) (v : Int64) (b : Bool) : Int32 × SC :=
  (if (fPu_isFull z0) = true then (4, z0) else ((-1), fPu_put z0 (fDg_withSign v b)))
set_option maxHeartbeats 4000000 in
set_option maxRecDepth 100000 in
theorem kPr_punchWord (l : Launch) (D : va_G) (q : Nat → Nat) (cI cJ cZ : ClassId) (hq : c_inj q) (z0 : SC) (v : Int64) (b : Bool) (hc : 0 ≤ (c_pcount z0).toInt) : Met l yPr_punchWord wsPr_punchWord { frames := 1, cells := 0, slots := 0, locals := 22 } (va_Pc [.ref (q 4), .long (v), .int (bb (b))] (c_C D q cI cJ cZ z0)) (cQw (some (.int ((fPr_punchWord z0 v b).1))) (c_W D q cI cJ cZ (fPr_punchWord z0 v b).2) (c_qs q)) 0 0 (c_qs q) := by
  refine Met.ofW (cc := ccPr_punchWord) (maxL := 4) (ret := (some .int)) (by decide +kernel) rfl ?_
  intro p e s m args below meth c s₁ B hml hv
  obtain ⟨rfl, hP, hK⟩ := hv
  have hx := B.exec
  have hb := B.bytes
  have hr := B.returns
  have hts := atoms_spec (ws := wsPr_punchWord) B.pre
  have hown : s.vm.findClass RPr = some m.cls := findClass_of_methodNamed B.named
  have hlocks := B.notSynchronized
  have w0 := hts (.fieldLink RPr 17 "DrumMachine$Processor" "punch" "LDrumMachine$Punch;") (List.mem_cons_of_mem _ wm1_112)
  have i0 : ∀ w ∈ u_ws RPr TPr 9, w ∈ wsPr_punchWord := fun w h => List.mem_cons_of_mem _ (inAPr w h)
  have hS : va_S (c_qs q) s.heap s.heap [] := va_S.rf
  have hl := lv_entry ([.ref (q 4), .long (v), .int (bb (b))]) (n := 4) (Nat.le_of_ble_eq_true rfl)
  rw [lg_entry_eq]
  generalize (lg_sl ([.ref (q 4), .long (v), .int (bb (b))]) ++ List.replicate (4 - (lg_sl ([.ref (q 4), .long (v), .int (bb (b))])).length) Slot.unset).toArray = ls at hl ⊢
  have hl : lv_has ls 4 [(0, .ref (q 4)), (1, .long (v)), (3, .int (bb (b)))] := hl
  have hR := fPr_punchWord.eq_1 z0 v b
  refine lv_aload_n hx hb dPr_punchWord_0 rfl (lv_at hl 0 rfl) ?_
  refine cg4_punch hx hb hts i0 hown hK hP w0 dPr_punchWord_1 ?_
  refine cl_rd (W.runV (As := []) (rest := []) ⟨hx, hb, hml, hown, hts⟩ (kPu_isFull l D q cI cJ cZ hq z0) (cwV 0 hts (gV wm4_40 wm4_41 wm4_42 wm1_5 wm4_43) rfl rfl rfl (by decide +kernel) ⟨Nat.le_of_ble_eq_true rfl, Nat.le_of_ble_eq_true rfl⟩) (c_preV3 hK hP) rfl rfl hl.1 rfl (lv_room (Nat.le_of_ble_eq_true rfl)) dPr_punchWord_4 ⟨Nat.le_refl _, Nat.le_refl _⟩) ?_
  refine wz_ifeq hx hb dPr_punchWord_7 rfl (fun h7 => ?_) (fun h7 => ?_)
  · have hR := hR.trans (if_neg h7)
    refine lv_aload_n hx hb dPr_punchWord_12 rfl (lv_at hl 0 rfl) ?_
    refine cg4_punch hx hb hts i0 hown hK hP w0 dPr_punchWord_13 ?_
    refine lv_lload_n hx hb dPr_punchWord_16 rfl (lv_at hl 1 rfl) ?_
    refine lv_iload_n hx hb dPr_punchWord_17 rfl (lv_at hl 2 rfl) ?_
    refine cl_rd (W.runS (As := [.long (v), .int (bb (b))]) (rest := [.ref (q 3)]) ⟨hx, hb, hml, hown, hts⟩ (kDg_withSign l v b) (va_cwS 2 hts (gS wm4_44 wm4_45 wm1_14 wm4_46) rfl rfl rfl (by decide +kernel) ⟨Nat.le_of_ble_eq_true rfl, Nat.le_of_ble_eq_true rfl⟩) (preT) rfl rfl hl.1 rfl (lv_room (Nat.le_of_ble_eq_true rfl)) dPr_punchWord_18 ⟨Nat.le_refl _, Nat.le_refl _⟩) ?_
    refine cl_wr (W.runV (As := [.long ((fDg_withSign v b))]) (rest := []) ⟨hx, hb, hml, hown, hts⟩ (kPu_put l D q cI cJ cZ hq z0 (fDg_withSign v b) (pu_in hc h7)) (cwV 1 hts (gV wm4_47 wm4_48 wm4_49 wm1_5 wm4_50) rfl rfl rfl (by decide +kernel) ⟨Nat.le_of_ble_eq_true rfl, Nat.le_of_ble_eq_true rfl⟩) (c_preV3 hK hP) rfl rfl hl.1 rfl (lv_room (Nat.le_of_ble_eq_true rfl)) dPr_punchWord_21 ⟨Nat.le_refl _, Nat.le_refl _⟩) hS (fun _ h => h) (fun _ h => h) (fun H locs hP hS => ?_)
    refine lv_iconst (v := (-1)) hx hb dPr_punchWord_24 (by decide) ?_
    exact W.iret hx hb hr (fun t ht _ => ⟨by rw [hR]; first | done | rfl, by rw [hR, ht]; exact hP, hS.F ht⟩) hS.2.2 dPr_punchWord_25
  · have hR := hR.trans (if_pos h7)
    refine lv_iconst (v := 4) hx hb dPr_punchWord_10 (by decide) ?_
    exact W.iret hx hb hr (fun t ht _ => ⟨by rw [hR]; first | done | rfl, by rw [hR, ht]; exact hP, hS.F ht⟩) hS.2.2 dPr_punchWord_11
theorem dPr_lookUp_0 : decode ccPr_lookUp 0 = .ok (.iload_n 1, 1) := by decide +kernel
theorem dPr_lookUp_1 : decode ccPr_lookUp 1 = .ok (.iload_n 1, 1) := by decide +kernel
theorem dPr_lookUp_2 : decode ccPr_lookUp 2 = .ok (.invokestatic 113, 3) := by decide +kernel
theorem dPr_lookUp_5 : decode ccPr_lookUp 5 = .ok (.isub, 1) := by decide +kernel
theorem dPr_lookUp_6 : decode ccPr_lookUp 6 = .ok (.bipush 50, 2) := by decide +kernel
theorem dPr_lookUp_8 : decode ccPr_lookUp 8 = .ok (.iadd, 1) := by decide +kernel
theorem dPr_lookUp_9 : decode ccPr_lookUp 9 = .ok (.istore_n 2, 1) := by decide +kernel
theorem dPr_lookUp_10 : decode ccPr_lookUp 10 = .ok (.iload_n 1, 1) := by decide +kernel
theorem dPr_lookUp_11 : decode ccPr_lookUp 11 = .ok (.istore_n 3, 1) := by decide +kernel
theorem dPr_lookUp_12 : decode ccPr_lookUp 12 = .ok (.iload_n 3, 1) := by decide +kernel
theorem dPr_lookUp_13 : decode ccPr_lookUp 13 = .ok (.iload_n 2, 1) := by decide +kernel
theorem dPr_lookUp_14 : decode ccPr_lookUp 14 = .ok (.if_icmp .ge 63, 3) := by decide +kernel
theorem dPr_lookUp_17 : decode ccPr_lookUp 17 = .ok (.iload_n 3, 1) := by decide +kernel
theorem dPr_lookUp_18 : decode ccPr_lookUp 18 = .ok (.iload_n 1, 1) := by decide +kernel
theorem dPr_lookUp_19 : decode ccPr_lookUp 19 = .ok (.if_icmp .le 13, 3) := by decide +kernel
theorem dPr_lookUp_22 : decode ccPr_lookUp 22 = .ok (.aload_n 0, 1) := by decide +kernel
theorem dPr_lookUp_23 : decode ccPr_lookUp 23 = .ok (.dup, 1) := by decide +kernel
theorem dPr_lookUp_24 : decode ccPr_lookUp 24 = .ok (.getfield 32, 3) := by decide +kernel
theorem dPr_lookUp_27 : decode ccPr_lookUp 27 = .ok (.lconst 1, 1) := by decide +kernel
theorem dPr_lookUp_28 : decode ccPr_lookUp 28 = .ok (.ladd, 1) := by decide +kernel
theorem dPr_lookUp_29 : decode ccPr_lookUp 29 = .ok (.putfield 32, 3) := by decide +kernel
theorem dPr_lookUp_32 : decode ccPr_lookUp 32 = .ok (.aload_n 0, 1) := by decide +kernel
theorem dPr_lookUp_33 : decode ccPr_lookUp 33 = .ok (.getfield 7, 3) := by decide +kernel
theorem dPr_lookUp_36 : decode ccPr_lookUp 36 = .ok (.iload_n 3, 1) := by decide +kernel
theorem dPr_lookUp_37 : decode ccPr_lookUp 37 = .ok (.invokevirtual 80, 3) := by decide +kernel
theorem dPr_lookUp_40 : decode ccPr_lookUp 40 = .ok (.ifCond .ne 5, 3) := by decide +kernel
theorem dPr_lookUp_43 : decode ccPr_lookUp 43 = .ok (.iconst 1, 1) := by decide +kernel
theorem dPr_lookUp_44 : decode ccPr_lookUp 44 = .ok (.ireturn, 1) := by decide +kernel
theorem dPr_lookUp_45 : decode ccPr_lookUp 45 = .ok (.aload_n 0, 1) := by decide +kernel
theorem dPr_lookUp_46 : decode ccPr_lookUp 46 = .ok (.getfield 7, 3) := by decide +kernel
theorem dPr_lookUp_49 : decode ccPr_lookUp 49 = .ok (.iload_n 3, 1) := by decide +kernel
theorem dPr_lookUp_50 : decode ccPr_lookUp 50 = .ok (.invokevirtual 83, 3) := by decide +kernel
theorem dPr_lookUp_53 : decode ccPr_lookUp 53 = .ok (.aload_n 0, 1) := by decide +kernel
theorem dPr_lookUp_54 : decode ccPr_lookUp 54 = .ok (.getfield 46, 3) := by decide +kernel
theorem dPr_lookUp_57 : decode ccPr_lookUp 57 = .ok (.lcmp, 1) := by decide +kernel
theorem dPr_lookUp_58 : decode ccPr_lookUp 58 = .ok (.ifCond .lt 13, 3) := by decide +kernel
theorem dPr_lookUp_61 : decode ccPr_lookUp 61 = .ok (.aload_n 0, 1) := by decide +kernel
theorem dPr_lookUp_62 : decode ccPr_lookUp 62 = .ok (.getfield 24, 3) := by decide +kernel
theorem dPr_lookUp_65 : decode ccPr_lookUp 65 = .ok (.iload_n 3, 1) := by decide +kernel
theorem dPr_lookUp_66 : decode ccPr_lookUp 66 = .ok (.invokevirtual 226, 3) := by decide +kernel
theorem dPr_lookUp_69 : decode ccPr_lookUp 69 = .ok (.iconst (-1), 1) := by decide +kernel
theorem dPr_lookUp_70 : decode ccPr_lookUp 70 = .ok (.ireturn, 1) := by decide +kernel
theorem dPr_lookUp_71 : decode ccPr_lookUp 71 = .ok (.iinc 3 1, 3) := by decide +kernel
theorem dPr_lookUp_74 : decode ccPr_lookUp 74 = .ok (.goto (-62), 3) := by decide +kernel
theorem dPr_lookUp_77 : decode ccPr_lookUp 77 = .ok (.iconst 5, 1) := by decide +kernel
theorem dPr_lookUp_78 : decode ccPr_lookUp 78 = .ok (.ireturn, 1) := by decide +kernel
def fPr_lookUp_12  : Nat → SC → Int32 → Int32 → Int32 → Int32 × SC
  | 0, z, a, v2, v3 => (0, z)
  | fu + 1, z, a, v2, v3 => (if v2 ≤ v3 then (5, z) else (if v3 ≤ a then (if (fDr_isValid z v3) = true then (if (fDr_valueAt z v3) < (c_dist z) then fPr_lookUp_12 fu z a v2 (v3 + 1) else ((-1), fAc_putDataAddress z v3)) else (1, z)) else (if (fDr_isValid (c_time_s z ((c_time z) + 1)) v3) = true then (if (fDr_valueAt (c_time_s z ((c_time z) + 1)) v3) < (c_dist z) then fPr_lookUp_12 fu (c_time_s z ((c_time z) + 1)) a v2 (v3 + 1) else ((-1), fAc_putDataAddress (c_time_s z ((c_time z) + 1)) v3)) else (1, c_time_s z ((c_time z) + 1)))))
def fPr_lookUp (z0 : SC) (a : Int32) : Int32 × SC :=
  fPr_lookUp_12 51 z0 a ((a - (fDr_angleOf a)) + 50) a
set_option maxHeartbeats 4000000 in
set_option maxRecDepth 100000 in
theorem kPr_lookUp (l : Launch) (D : va_G) (q : Nat → Nat) (cI cJ cZ : ClassId) (hq : c_inj q) (z0 : SC) (a : Int32) (ha : vp_in a 200) : Met l yPr_lookUp wsPr_lookUp { frames := 2, cells := 0, slots := 0, locals := 45 } (va_Pc [.ref (q 4), .int (a)] (c_C D q cI cJ cZ z0)) (cQw (some (.int ((fPr_lookUp z0 a).1))) (c_W D q cI cJ cZ (fPr_lookUp z0 a).2) (c_qs q)) 0 0 (c_qs q) := by
  refine Met.ofW (cc := ccPr_lookUp) (maxL := 4) (ret := (some .int)) (by decide +kernel) rfl ?_
  intro p e s m args below meth c s₁ B hml hv
  obtain ⟨rfl, hP, hK⟩ := hv
  have hx := B.exec
  have hb := B.bytes
  have hr := B.returns
  have hts := atoms_spec (ws := wsPr_lookUp) B.pre
  have hown : s.vm.findClass RPr = some m.cls := findClass_of_methodNamed B.named
  have hlocks := B.notSynchronized
  have w0 := hts (.fieldLink RPr 7 "DrumMachine$Processor" "drum" "LDrumMachine$Drum;") (List.mem_cons_of_mem _ wm1_110)
  have w1 := hts (.fieldLink RPr 46 "DrumMachine$Processor" "distributor" "J") (List.mem_cons_of_mem _ wm1_114)
  have w2 := hts (.fieldLink RPr 24 "DrumMachine$Processor" "accumulator" "LDrumMachine$Accumulator;") (List.mem_cons_of_mem _ wm1_113)
  have w3 := hts (.fieldLink RPr 32 "DrumMachine$Processor" "time" "J") (List.mem_cons_of_mem _ wm1_118)
  have i0 : ∀ w ∈ u_ws RPr TPr 9, w ∈ wsPr_lookUp := fun w h => List.mem_cons_of_mem _ (inAPr w h)
  have hS : va_S (c_qs q) s.heap s.heap [] := va_S.rf
  have hl := lv_entry ([.ref (q 4), .int (a)]) (n := 4) (Nat.le_of_ble_eq_true rfl)
  rw [lg_entry_eq]
  generalize (lg_sl ([.ref (q 4), .int (a)]) ++ List.replicate (4 - (lg_sl ([.ref (q 4), .int (a)])).length) Slot.unset).toArray = ls at hl ⊢
  have hl : lv_has ls 4 [(0, .ref (q 4)), (1, .int (a))] := hl
  have hB12 : ∀ (n12 : Nat) (H : Heap) (locs : List Loc) (ls : Array Slot) (z : SC) (v2 : Int32) (v3 : Int32), (v2.toInt - v3.toInt).toNat < n12 → fPr_lookUp z0 a = fPr_lookUp_12 n12 z a v2 v3 → (0 ≤ v3.toInt ∧ v3.toInt ≤ v2.toInt ∧ v2.toInt ≤ 200) → c_W D q cI cJ cZ z H → va_S (c_qs q) s.heap H locs → lv_has ls 4 [(0, .ref (q 4)), (1, .int (a)), (2, .int (v2)), (3, .int (v3))] → W p l e (headSpec wsPr_lookUp { frames := 2, cells := 0, slots := 0, locals := 45 }).room s m ([.ref (q 4), .int (a)] : List Value).toArray below meth c H locs 0 0 (MQ below (cQw (some (.int ((fPr_lookUp z0 a).1))) (c_W D q cI cJ cZ (fPr_lookUp z0 a).2) (c_qs q)) ([.ref (q 4), .int (a)] : List Value).toArray s 0 0 (c_qs q)) (F0 m 12 ls []) := by
    intro n12
    induction n12 with
    | zero => intro H locs ls z v2 v3 hn12; exact absurd hn12 (Nat.not_lt_zero _)
    | succ n12 ih12 =>
      intro H locs ls z v2 v3 hn12 hR h3 hP hS hl
      rw [fPr_lookUp_12.eq_2] at hR
      refine lv_iload_n hx hb dPr_lookUp_12 rfl (lv_at hl 3 rfl) ?_
      refine lv_iload_n hx hb dPr_lookUp_13 rfl (lv_at hl 2 rfl) ?_
      refine lv_icmp_ge hx hb dPr_lookUp_14 rfl (fun h14 => ?_) (fun h14 => ?_)
      · have hR := hR.trans (if_pos h14)
        refine lv_iconst (v := 5) hx hb dPr_lookUp_77 (by decide) ?_
        exact W.iret hx hb hr (fun t ht _ => ⟨by rw [hR]; first | done | rfl, by rw [hR, ht]; exact hP, hS.F ht⟩) hS.2.2 dPr_lookUp_78
      · have hR := hR.trans (if_neg h14)
        refine lv_iload_n hx hb dPr_lookUp_17 rfl (lv_at hl 3 rfl) ?_
        refine lv_iload_n hx hb dPr_lookUp_18 rfl (lv_at hl 1 rfl) ?_
        refine lv_icmp_le hx hb dPr_lookUp_19 rfl (fun h19 => ?_) (fun h19 => ?_)
        · have hR := hR.trans (if_pos h19)
          refine lv_aload_n hx hb dPr_lookUp_32 rfl (lv_at hl 0 rfl) ?_
          refine cg4_drum hx hb hts i0 hown hK hP w0 dPr_lookUp_33 ?_
          refine lv_iload_n hx hb dPr_lookUp_36 rfl (lv_at hl 3 rfl) ?_
          refine cl_rd (W.runV (As := [.int (v3)]) (rest := []) ⟨hx, hb, hml, hown, hts⟩ (kDr_isValid l D q cI cJ cZ hq z v3 (lk_in h3 h14)) (cwV 1 hts (gV wm3_144 wm2_130 wm2_131 wm1_2 wm2_132) rfl rfl rfl (by decide +kernel) ⟨Nat.le_of_ble_eq_true rfl, Nat.le_of_ble_eq_true rfl⟩) (c_preV1 hK hP) rfl rfl hl.1 rfl (lv_room (Nat.le_of_ble_eq_true rfl)) dPr_lookUp_37 ⟨Nat.le_refl _, Nat.le_refl _⟩) ?_
          refine wz_ifne hx hb dPr_lookUp_40 rfl (fun h40 => ?_) (fun h40 => ?_)
          · have hR := hR.trans (if_pos h40)
            refine lv_aload_n hx hb dPr_lookUp_45 rfl (lv_at hl 0 rfl) ?_
            refine cg4_drum hx hb hts i0 hown hK hP w0 dPr_lookUp_46 ?_
            refine lv_iload_n hx hb dPr_lookUp_49 rfl (lv_at hl 3 rfl) ?_
            refine cl_rd (W.runV (As := [.int (v3)]) (rest := []) ⟨hx, hb, hml, hown, hts⟩ (kDr_valueAt l D q cI cJ cZ hq z v3 (lk_in h3 h14)) (cwV 1 hts (gV wm3_145 wm3_146 wm3_147 wm1_2 wm3_148) rfl rfl rfl (by decide +kernel) ⟨Nat.le_of_ble_eq_true rfl, Nat.le_of_ble_eq_true rfl⟩) (c_preV1 hK hP) rfl rfl hl.1 rfl (lv_room (Nat.le_of_ble_eq_true rfl)) dPr_lookUp_50 ⟨Nat.le_refl _, Nat.le_refl _⟩) ?_
            refine lv_aload_n hx hb dPr_lookUp_53 rfl (lv_at hl 0 rfl) ?_
            refine cg4_distributor hx hb hts i0 hown hK hP w1 dPr_lookUp_54 ?_
            refine lc_lt hx hb dPr_lookUp_57 dPr_lookUp_58 rfl (fun h57 => ?_) (fun h57 => ?_)
            · have hR := hR.trans (if_pos h57)
              refine lv_iinc (k := 3) (lv' := [(3, .int (v3 + 1)), (0, .ref (q 4)), (1, .int (a)), (2, .int (v2))]) hx hb dPr_lookUp_71 hl rfl rfl (by decide) rfl (fun ls hl => ?_)
              refine lv_goto hx hb dPr_lookUp_74 rfl ?_
              exact ih12 H locs ls z v2 (v3 + 1) (lk_m h3 h14 hn12) hR (lk_s h3 h14) hP hS (lv_sub hl [1, 2, 3, 0] rfl)
            · have hR := hR.trans (if_neg h57)
              refine lv_aload_n hx hb dPr_lookUp_61 rfl (lv_at hl 0 rfl) ?_
              refine cg4_accumulator hx hb hts i0 hown hK hP w2 dPr_lookUp_62 ?_
              refine lv_iload_n hx hb dPr_lookUp_65 rfl (lv_at hl 3 rfl) ?_
              refine cl_wr (W.runV (As := [.int (v3)]) (rest := []) ⟨hx, hb, hml, hown, hts⟩ (kAc_putDataAddress l D q cI cJ cZ hq z v3) (cwV 1 hts (gV wm4_14 wm4_15 wm4_16 wm1_7 wm4_17) rfl rfl rfl (by decide +kernel) ⟨Nat.le_of_ble_eq_true rfl, Nat.le_of_ble_eq_true rfl⟩) (c_preV5 hK hP) rfl rfl hl.1 rfl (lv_room (Nat.le_of_ble_eq_true rfl)) dPr_lookUp_66 ⟨Nat.le_refl _, Nat.le_refl _⟩) hS (fun _ h => h) (fun _ h => h) (fun H locs hP hS => ?_)
              refine lv_iconst (v := (-1)) hx hb dPr_lookUp_69 (by decide) ?_
              exact W.iret hx hb hr (fun t ht _ => ⟨by rw [hR]; first | done | rfl, by rw [hR, ht]; exact hP, hS.F ht⟩) hS.2.2 dPr_lookUp_70
          · have hR := hR.trans (if_neg h40)
            refine lv_iconst (v := 1) hx hb dPr_lookUp_43 (by decide) ?_
            exact W.iret hx hb hr (fun t ht _ => ⟨by rw [hR]; first | done | rfl, by rw [hR, ht]; exact hP, hS.F ht⟩) hS.2.2 dPr_lookUp_44
        · have hR := hR.trans (if_neg h19)
          refine lv_aload_n hx hb dPr_lookUp_22 rfl (lv_at hl 0 rfl) ?_
          refine lv_dup hx hb dPr_lookUp_23 rfl ?_
          refine cg4_time hx hb hts i0 hown hK hP w3 dPr_lookUp_24 ?_
          refine lv_lconst (v := 1) hx hb dPr_lookUp_27 (by decide) ?_
          refine lv_ladd hx hb dPr_lookUp_28 ?_
          refine cp4_time ((c_time z) + 1) hq hS hx hb hts i0 hown hK hP w3 dPr_lookUp_29 (fun H locs hP hS => ?_)
          refine lv_aload_n hx hb dPr_lookUp_32 rfl (lv_at hl 0 rfl) ?_
          refine cg4_drum hx hb hts i0 hown hK hP w0 dPr_lookUp_33 ?_
          refine lv_iload_n hx hb dPr_lookUp_36 rfl (lv_at hl 3 rfl) ?_
          refine cl_rd (W.runV (As := [.int (v3)]) (rest := []) ⟨hx, hb, hml, hown, hts⟩ (kDr_isValid l D q cI cJ cZ hq (c_time_s z ((c_time z) + 1)) v3 (lk_in h3 h14)) (cwV 1 hts (gV wm3_144 wm2_130 wm2_131 wm1_2 wm2_132) rfl rfl rfl (by decide +kernel) ⟨Nat.le_of_ble_eq_true rfl, Nat.le_of_ble_eq_true rfl⟩) (c_preV1 hK hP) rfl rfl hl.1 rfl (lv_room (Nat.le_of_ble_eq_true rfl)) dPr_lookUp_37 ⟨Nat.le_refl _, Nat.le_refl _⟩) ?_
          refine wz_ifne hx hb dPr_lookUp_40 rfl (fun h40 => ?_) (fun h40 => ?_)
          · have hR := hR.trans (if_pos h40)
            refine lv_aload_n hx hb dPr_lookUp_45 rfl (lv_at hl 0 rfl) ?_
            refine cg4_drum hx hb hts i0 hown hK hP w0 dPr_lookUp_46 ?_
            refine lv_iload_n hx hb dPr_lookUp_49 rfl (lv_at hl 3 rfl) ?_
            refine cl_rd (W.runV (As := [.int (v3)]) (rest := []) ⟨hx, hb, hml, hown, hts⟩ (kDr_valueAt l D q cI cJ cZ hq (c_time_s z ((c_time z) + 1)) v3 (lk_in h3 h14)) (cwV 1 hts (gV wm3_145 wm3_146 wm3_147 wm1_2 wm3_148) rfl rfl rfl (by decide +kernel) ⟨Nat.le_of_ble_eq_true rfl, Nat.le_of_ble_eq_true rfl⟩) (c_preV1 hK hP) rfl rfl hl.1 rfl (lv_room (Nat.le_of_ble_eq_true rfl)) dPr_lookUp_50 ⟨Nat.le_refl _, Nat.le_refl _⟩) ?_
            refine lv_aload_n hx hb dPr_lookUp_53 rfl (lv_at hl 0 rfl) ?_
            refine cg4_distributor_e (v := c_dist z) ((c_dist_time _ _).trans (rfl)) hx hb hts i0 hown hK hP w1 dPr_lookUp_54 ?_
            refine lc_lt hx hb dPr_lookUp_57 dPr_lookUp_58 rfl (fun h57 => ?_) (fun h57 => ?_)
            · have hR := hR.trans (if_pos h57)
              refine lv_iinc (k := 3) (lv' := [(3, .int (v3 + 1)), (0, .ref (q 4)), (1, .int (a)), (2, .int (v2))]) hx hb dPr_lookUp_71 hl rfl rfl (by decide) rfl (fun ls hl => ?_)
              refine lv_goto hx hb dPr_lookUp_74 rfl ?_
              exact ih12 H locs ls (c_time_s z ((c_time z) + 1)) v2 (v3 + 1) (lk_m h3 h14 hn12) hR (lk_s h3 h14) hP hS (lv_sub hl [1, 2, 3, 0] rfl)
            · have hR := hR.trans (if_neg h57)
              refine lv_aload_n hx hb dPr_lookUp_61 rfl (lv_at hl 0 rfl) ?_
              refine cg4_accumulator hx hb hts i0 hown hK hP w2 dPr_lookUp_62 ?_
              refine lv_iload_n hx hb dPr_lookUp_65 rfl (lv_at hl 3 rfl) ?_
              refine cl_wr (W.runV (As := [.int (v3)]) (rest := []) ⟨hx, hb, hml, hown, hts⟩ (kAc_putDataAddress l D q cI cJ cZ hq (c_time_s z ((c_time z) + 1)) v3) (cwV 1 hts (gV wm4_14 wm4_15 wm4_16 wm1_7 wm4_17) rfl rfl rfl (by decide +kernel) ⟨Nat.le_of_ble_eq_true rfl, Nat.le_of_ble_eq_true rfl⟩) (c_preV5 hK hP) rfl rfl hl.1 rfl (lv_room (Nat.le_of_ble_eq_true rfl)) dPr_lookUp_66 ⟨Nat.le_refl _, Nat.le_refl _⟩) hS (fun _ h => h) (fun _ h => h) (fun H locs hP hS => ?_)
              refine lv_iconst (v := (-1)) hx hb dPr_lookUp_69 (by decide) ?_
              exact W.iret hx hb hr (fun t ht _ => ⟨by rw [hR]; first | done | rfl, by rw [hR, ht]; exact hP, hS.F ht⟩) hS.2.2 dPr_lookUp_70
          · have hR := hR.trans (if_neg h40)
            refine lv_iconst (v := 1) hx hb dPr_lookUp_43 (by decide) ?_
            exact W.iret hx hb hr (fun t ht _ => ⟨by rw [hR]; first | done | rfl, by rw [hR, ht]; exact hP, hS.F ht⟩) hS.2.2 dPr_lookUp_44
  have hR := fPr_lookUp.eq_1 z0 a
  refine lv_iload_n hx hb dPr_lookUp_0 rfl (lv_at hl 1 rfl) ?_
  refine lv_iload_n hx hb dPr_lookUp_1 rfl (lv_at hl 1 rfl) ?_
  refine cl_rd (W.runS (As := [.int (a)]) (rest := [.int (a)]) ⟨hx, hb, hml, hown, hts⟩ (kDr_angleOf l a) (va_cwS 1 hts (gS wm3_141 wm3_142 wm1_2 wm3_143) rfl rfl rfl (by decide +kernel) ⟨Nat.le_of_ble_eq_true rfl, Nat.le_of_ble_eq_true rfl⟩) (preT) rfl rfl hl.1 rfl (lv_room (Nat.le_of_ble_eq_true rfl)) dPr_lookUp_2 ⟨Nat.le_refl _, Nat.le_refl _⟩) ?_
  refine lv_isub hx hb dPr_lookUp_5 ?_
  refine lv_bipush (v := 50) hx hb dPr_lookUp_6 (by decide) ?_
  refine lv_iadd hx hb dPr_lookUp_8 ?_
  refine lv_istore_n (lv' := [(2, .int ((a - (fDr_angleOf a)) + 50)), (0, .ref (q 4)), (1, .int (a))]) hx hb dPr_lookUp_9 rfl hl (by decide) rfl (fun ls hl => ?_)
  refine lv_iload_n hx hb dPr_lookUp_10 rfl (lv_at hl 2 rfl) ?_
  refine lv_istore_n (lv' := [(3, .int (a)), (2, .int ((a - (fDr_angleOf a)) + 50)), (0, .ref (q 4)), (1, .int (a))]) hx hb dPr_lookUp_11 rfl hl (by decide) rfl (fun ls hl => ?_)
  exact hB12 51 s.heap [] ls z0 ((a - (fDr_angleOf a)) + 50) a (end_m ha) hR (end_b ha) hP hS (lv_sub hl [2, 3, 1, 0] rfl)
theorem dPr_readCard_0 : decode ccPr_readCard 0 = .ok (.aload_n 0, 1) := by decide +kernel
theorem dPr_readCard_1 : decode ccPr_readCard 1 = .ok (.getfield 13, 3) := by decide +kernel
theorem dPr_readCard_4 : decode ccPr_readCard 4 = .ok (.invokevirtual 239, 3) := by decide +kernel
theorem dPr_readCard_7 : decode ccPr_readCard 7 = .ok (.ifCond .eq 5, 3) := by decide +kernel
theorem dPr_readCard_10 : decode ccPr_readCard 10 = .ok (.iconst 4, 1) := by decide +kernel
theorem dPr_readCard_11 : decode ccPr_readCard 11 = .ok (.ireturn, 1) := by decide +kernel
theorem dPr_readCard_12 : decode ccPr_readCard 12 = .ok (.aload_n 0, 1) := by decide +kernel
theorem dPr_readCard_13 : decode ccPr_readCard 13 = .ok (.getfield 7, 3) := by decide +kernel
theorem dPr_readCard_16 : decode ccPr_readCard 16 = .ok (.iload_n 1, 1) := by decide +kernel
theorem dPr_readCard_17 : decode ccPr_readCard 17 = .ok (.aload_n 0, 1) := by decide +kernel
theorem dPr_readCard_18 : decode ccPr_readCard 18 = .ok (.getfield 13, 3) := by decide +kernel
theorem dPr_readCard_21 : decode ccPr_readCard 21 = .ok (.invokevirtual 244, 3) := by decide +kernel
theorem dPr_readCard_24 : decode ccPr_readCard 24 = .ok (.aload_n 0, 1) := by decide +kernel
theorem dPr_readCard_25 : decode ccPr_readCard 25 = .ok (.getfield 13, 3) := by decide +kernel
theorem dPr_readCard_28 : decode ccPr_readCard 28 = .ok (.invokevirtual 247, 3) := by decide +kernel
theorem dPr_readCard_31 : decode ccPr_readCard 31 = .ok (.invokevirtual 236, 3) := by decide +kernel
theorem dPr_readCard_34 : decode ccPr_readCard 34 = .ok (.aload_n 0, 1) := by decide +kernel
theorem dPr_readCard_35 : decode ccPr_readCard 35 = .ok (.getfield 13, 3) := by decide +kernel
theorem dPr_readCard_38 : decode ccPr_readCard 38 = .ok (.invokevirtual 250, 3) := by decide +kernel
theorem dPr_readCard_41 : decode ccPr_readCard 41 = .ok (.iconst (-1), 1) := by decide +kernel
theorem dPr_readCard_42 : decode ccPr_readCard 42 = .ok (.ireturn, 1) := by decide +kernel
def fPr_readCard (z0 : SC) (a : Int32) : Int32 × SC :=
  (if (fCd_isEmpty z0) = true then (4, z0) else ((-1), fCd_dropFirst (fDr_store z0 a (fCd_firstValue z0) (fCd_firstIsMinus z0))))
set_option maxHeartbeats 4000000 in
set_option maxRecDepth 100000 in
theorem kPr_readCard (l : Launch) (D : va_G) (q : Nat → Nat) (cI cJ cZ : ClassId) (hq : c_inj q) (z0 : SC) (a : Int32) (ha : vp_in a 200) (hi : vp_in (c_cfirst z0) 20) : Met l yPr_readCard wsPr_readCard { frames := 2, cells := 0, slots := 0, locals := 47 } (va_Pc [.ref (q 4), .int (a)] (c_C D q cI cJ cZ z0)) (cQw (some (.int ((fPr_readCard z0 a).1))) (c_W D q cI cJ cZ (fPr_readCard z0 a).2) (c_qs q)) 0 0 (c_qs q) := by
  refine Met.ofW (cc := ccPr_readCard) (maxL := 2) (ret := (some .int)) (by decide +kernel) rfl ?_
  intro p e s m args below meth c s₁ B hml hv
  obtain ⟨rfl, hP, hK⟩ := hv
  have hx := B.exec
  have hb := B.bytes
  have hr := B.returns
  have hts := atoms_spec (ws := wsPr_readCard) B.pre
  have hown : s.vm.findClass RPr = some m.cls := findClass_of_methodNamed B.named
  have hlocks := B.notSynchronized
  have w0 := hts (.fieldLink RPr 13 "DrumMachine$Processor" "cards" "LDrumMachine$CardDeck;") (List.mem_cons_of_mem _ wm1_111)
  have w1 := hts (.fieldLink RPr 7 "DrumMachine$Processor" "drum" "LDrumMachine$Drum;") (List.mem_cons_of_mem _ wm1_110)
  have i0 : ∀ w ∈ u_ws RPr TPr 9, w ∈ wsPr_readCard := fun w h => List.mem_cons_of_mem _ (inAPr w h)
  have hS : va_S (c_qs q) s.heap s.heap [] := va_S.rf
  have hl := lv_entry ([.ref (q 4), .int (a)]) (n := 2) (Nat.le_of_ble_eq_true rfl)
  rw [lg_entry_eq]
  generalize (lg_sl ([.ref (q 4), .int (a)]) ++ List.replicate (2 - (lg_sl ([.ref (q 4), .int (a)])).length) Slot.unset).toArray = ls at hl ⊢
  have hl : lv_has ls 2 [(0, .ref (q 4)), (1, .int (a))] := hl
  have hR := fPr_readCard.eq_1 z0 a
  refine lv_aload_n hx hb dPr_readCard_0 rfl (lv_at hl 0 rfl) ?_
  refine cg4_cards hx hb hts i0 hown hK hP w0 dPr_readCard_1 ?_
  refine cl_rd (W.runV (As := []) (rest := []) ⟨hx, hb, hml, hown, hts⟩ (kCd_isEmpty l D q cI cJ cZ hq z0) (cwV 0 hts (gV wm3_210 wm3_211 wm3_212 wm1_4 wm3_213) rfl rfl rfl (by decide +kernel) ⟨Nat.le_of_ble_eq_true rfl, Nat.le_of_ble_eq_true rfl⟩) (c_preV2 hK hP) rfl rfl hl.1 rfl (lv_room (Nat.le_of_ble_eq_true rfl)) dPr_readCard_4 ⟨Nat.le_refl _, Nat.le_refl _⟩) ?_
  refine wz_ifeq hx hb dPr_readCard_7 rfl (fun h7 => ?_) (fun h7 => ?_)
  · have hR := hR.trans (if_neg h7)
    refine lv_aload_n hx hb dPr_readCard_12 rfl (lv_at hl 0 rfl) ?_
    refine cg4_drum hx hb hts i0 hown hK hP w1 dPr_readCard_13 ?_
    refine lv_iload_n hx hb dPr_readCard_16 rfl (lv_at hl 1 rfl) ?_
    refine lv_aload_n hx hb dPr_readCard_17 rfl (lv_at hl 0 rfl) ?_
    refine cg4_cards hx hb hts i0 hown hK hP w0 dPr_readCard_18 ?_
    refine cl_rd (W.runV (As := []) (rest := [.int (a), .ref (q 1)]) ⟨hx, hb, hml, hown, hts⟩ (kCd_firstValue l D q cI cJ cZ hq z0 hi) (cwV 0 hts (gV wm3_214 wm3_215 wm3_216 wm1_4 wm3_217) rfl rfl rfl (by decide +kernel) ⟨Nat.le_of_ble_eq_true rfl, Nat.le_of_ble_eq_true rfl⟩) (c_preV2 hK hP) rfl rfl hl.1 rfl (lv_room (Nat.le_of_ble_eq_true rfl)) dPr_readCard_21 ⟨Nat.le_refl _, Nat.le_refl _⟩) ?_
    refine lv_aload_n hx hb dPr_readCard_24 rfl (lv_at hl 0 rfl) ?_
    refine cg4_cards hx hb hts i0 hown hK hP w0 dPr_readCard_25 ?_
    refine cl_rd (W.runV (As := []) (rest := [.long (fCd_firstValue z0), .int (a), .ref (q 1)]) ⟨hx, hb, hml, hown, hts⟩ (kCd_firstIsMinus l D q cI cJ cZ hq z0 hi) (cwV 0 hts (gV wm3_218 wm3_219 wm3_220 wm1_4 wm3_221) rfl rfl rfl (by decide +kernel) ⟨Nat.le_of_ble_eq_true rfl, Nat.le_of_ble_eq_true rfl⟩) (c_preV2 hK hP) rfl rfl hl.1 rfl (lv_room (Nat.le_of_ble_eq_true rfl)) dPr_readCard_28 ⟨Nat.le_refl _, Nat.le_refl _⟩) ?_
    refine cl_wr (W.runV (As := [.int (a), .long ((fCd_firstValue z0)), .int (bb ((fCd_firstIsMinus z0)))]) (rest := []) ⟨hx, hb, hml, hown, hts⟩ (kDr_store l D q cI cJ cZ hq z0 a (fCd_firstValue z0) (fCd_firstIsMinus z0) ha) (cwV 3 hts (gV wm3_222 wm2_101 wm2_102 wm1_2 wm2_103) rfl rfl rfl (by decide +kernel) ⟨Nat.le_of_ble_eq_true rfl, Nat.le_of_ble_eq_true rfl⟩) (c_preV1 hK hP) rfl rfl hl.1 rfl (lv_room (Nat.le_of_ble_eq_true rfl)) dPr_readCard_31 ⟨Nat.le_refl _, Nat.le_refl _⟩) hS (fun _ h => h) (fun _ h => h) (fun H locs hP hS => ?_)
    refine lv_aload_n hx hb dPr_readCard_34 rfl (lv_at hl 0 rfl) ?_
    refine cg4_cards hx hb hts i0 hown hK hP w0 dPr_readCard_35 ?_
    refine cl_wr (W.runV (As := []) (rest := []) ⟨hx, hb, hml, hown, hts⟩ (kCd_dropFirst l D q cI cJ cZ hq (fDr_store z0 a (fCd_firstValue z0) (fCd_firstIsMinus z0))) (cwV 0 hts (gV wm3_223 wm3_224 wm3_225 wm1_4 wm3_226) rfl rfl rfl (by decide +kernel) ⟨Nat.le_of_ble_eq_true rfl, Nat.le_of_ble_eq_true rfl⟩) (c_preV2 hK hP) rfl rfl hl.1 rfl (lv_room (Nat.le_of_ble_eq_true rfl)) dPr_readCard_38 ⟨Nat.le_refl _, Nat.le_refl _⟩) hS (fun _ h => h) (fun _ h => h) (fun H locs hP hS => ?_)
    refine lv_iconst (v := (-1)) hx hb dPr_readCard_41 (by decide) ?_
    exact W.iret hx hb hr (fun t ht _ => ⟨by rw [hR]; first | done | rfl, by rw [hR, ht]; exact hP, hS.F ht⟩) hS.2.2 dPr_readCard_42
  · have hR := hR.trans (if_pos h7)
    refine lv_iconst (v := 4) hx hb dPr_readCard_10 (by decide) ?_
    exact W.iret hx hb hr (fun t ht _ => ⟨by rw [hR]; first | done | rfl, by rw [hR, ht]; exact hP, hS.F ht⟩) hS.2.2 dPr_readCard_11
theorem dPr_write_0 : decode ccPr_write 0 = .ok (.iload_n 1, 1) := by decide +kernel
theorem dPr_write_1 : decode ccPr_write 1 = .ok (.bipush 70, 2) := by decide +kernel
theorem dPr_write_3 : decode ccPr_write 3 = .ok (.if_icmp .ne 9, 3) := by decide +kernel
theorem dPr_write_6 : decode ccPr_write 6 = .ok (.aload_n 0, 1) := by decide +kernel
theorem dPr_write_7 : decode ccPr_write 7 = .ok (.iload_n 2, 1) := by decide +kernel
theorem dPr_write_8 : decode ccPr_write 8 = .ok (.invokevirtual 229, 3) := by decide +kernel
theorem dPr_write_11 : decode ccPr_write 11 = .ok (.ireturn, 1) := by decide +kernel
theorem dPr_write_12 : decode ccPr_write 12 = .ok (.iload_n 1, 1) := by decide +kernel
theorem dPr_write_13 : decode ccPr_write 13 = .ok (.bipush 20, 2) := by decide +kernel
theorem dPr_write_15 : decode ccPr_write 15 = .ok (.if_icmp .ne 24, 3) := by decide +kernel
theorem dPr_write_18 : decode ccPr_write 18 = .ok (.aload_n 0, 1) := by decide +kernel
theorem dPr_write_19 : decode ccPr_write 19 = .ok (.aload_n 0, 1) := by decide +kernel
theorem dPr_write_20 : decode ccPr_write 20 = .ok (.getfield 24, 3) := by decide +kernel
theorem dPr_write_23 : decode ccPr_write 23 = .ok (.invokevirtual 43, 3) := by decide +kernel
theorem dPr_write_26 : decode ccPr_write 26 = .ok (.aload_n 0, 1) := by decide +kernel
theorem dPr_write_27 : decode ccPr_write 27 = .ok (.getfield 24, 3) := by decide +kernel
theorem dPr_write_30 : decode ccPr_write 30 = .ok (.invokevirtual 49, 3) := by decide +kernel
theorem dPr_write_33 : decode ccPr_write 33 = .ok (.invokevirtual 187, 3) := by decide +kernel
theorem dPr_write_36 : decode ccPr_write 36 = .ok (.goto 63, 3) := by decide +kernel
theorem dPr_write_39 : decode ccPr_write 39 = .ok (.iload_n 1, 1) := by decide +kernel
theorem dPr_write_40 : decode ccPr_write 40 = .ok (.bipush 21, 2) := by decide +kernel
theorem dPr_write_42 : decode ccPr_write 42 = .ok (.if_icmp .ne 24, 3) := by decide +kernel
theorem dPr_write_45 : decode ccPr_write 45 = .ok (.aload_n 0, 1) := by decide +kernel
theorem dPr_write_46 : decode ccPr_write 46 = .ok (.aload_n 0, 1) := by decide +kernel
theorem dPr_write_47 : decode ccPr_write 47 = .ok (.getfield 24, 3) := by decide +kernel
theorem dPr_write_50 : decode ccPr_write 50 = .ok (.invokevirtual 39, 3) := by decide +kernel
theorem dPr_write_53 : decode ccPr_write 53 = .ok (.aload_n 0, 1) := by decide +kernel
theorem dPr_write_54 : decode ccPr_write 54 = .ok (.getfield 24, 3) := by decide +kernel
theorem dPr_write_57 : decode ccPr_write 57 = .ok (.invokevirtual 49, 3) := by decide +kernel
theorem dPr_write_60 : decode ccPr_write 60 = .ok (.invokevirtual 187, 3) := by decide +kernel
theorem dPr_write_63 : decode ccPr_write 63 = .ok (.goto 36, 3) := by decide +kernel
theorem dPr_write_66 : decode ccPr_write 66 = .ok (.iload_n 1, 1) := by decide +kernel
theorem dPr_write_67 : decode ccPr_write 67 = .ok (.bipush 22, 2) := by decide +kernel
theorem dPr_write_69 : decode ccPr_write 69 = .ok (.if_icmp .ne 30, 3) := by decide +kernel
theorem dPr_write_72 : decode ccPr_write 72 = .ok (.aload_n 0, 1) := by decide +kernel
theorem dPr_write_73 : decode ccPr_write 73 = .ok (.getfield 24, 3) := by decide +kernel
theorem dPr_write_76 : decode ccPr_write 76 = .ok (.invokevirtual 43, 3) := by decide +kernel
theorem dPr_write_79 : decode ccPr_write 79 = .ok (.invokestatic 93, 3) := by decide +kernel
theorem dPr_write_82 : decode ccPr_write 82 = .ok (.istore_n 3, 1) := by decide +kernel
theorem dPr_write_83 : decode ccPr_write 83 = .ok (.aload_n 0, 1) := by decide +kernel
theorem dPr_write_84 : decode ccPr_write 84 = .ok (.aload_n 0, 1) := by decide +kernel
theorem dPr_write_85 : decode ccPr_write 85 = .ok (.getfield 46, 3) := by decide +kernel
theorem dPr_write_88 : decode ccPr_write 88 = .ok (.iload_n 3, 1) := by decide +kernel
theorem dPr_write_89 : decode ccPr_write 89 = .ok (.invokestatic 232, 3) := by decide +kernel
theorem dPr_write_92 : decode ccPr_write 92 = .ok (.aload_n 0, 1) := by decide +kernel
theorem dPr_write_93 : decode ccPr_write 93 = .ok (.getfield 53, 3) := by decide +kernel
theorem dPr_write_96 : decode ccPr_write 96 = .ok (.invokevirtual 187, 3) := by decide +kernel
theorem dPr_write_99 : decode ccPr_write 99 = .ok (.aload_n 0, 1) := by decide +kernel
theorem dPr_write_100 : decode ccPr_write 100 = .ok (.getfield 7, 3) := by decide +kernel
theorem dPr_write_103 : decode ccPr_write 103 = .ok (.iload_n 2, 1) := by decide +kernel
theorem dPr_write_104 : decode ccPr_write 104 = .ok (.aload_n 0, 1) := by decide +kernel
theorem dPr_write_105 : decode ccPr_write 105 = .ok (.getfield 46, 3) := by decide +kernel
theorem dPr_write_108 : decode ccPr_write 108 = .ok (.aload_n 0, 1) := by decide +kernel
theorem dPr_write_109 : decode ccPr_write 109 = .ok (.getfield 53, 3) := by decide +kernel
theorem dPr_write_112 : decode ccPr_write 112 = .ok (.invokevirtual 236, 3) := by decide +kernel
theorem dPr_write_115 : decode ccPr_write 115 = .ok (.iconst (-1), 1) := by decide +kernel
theorem dPr_write_116 : decode ccPr_write 116 = .ok (.ireturn, 1) := by decide +kernel
def fPr_write_99  (z : SC) (a : Int32) : Int32 × SC :=
  ((-1), fDr_store z a (c_dist z) (c_distm z))
def fPr_write (z0 : SC) (o : Int32) (a : Int32) : Int32 × SC :=
  (if o = (70 : Int32) then ((fPr_readCard z0 a).1, (fPr_readCard z0 a).2) else (if o = (20 : Int32) then fPr_write_99 (fPr_setDistributor z0 (fAc_lowerDigits z0) (fAc_isMinus z0)) a else (if o = (21 : Int32) then fPr_write_99 (fPr_setDistributor z0 (fAc_upperDigits z0) (fAc_isMinus z0)) a else (if o = (22 : Int32) then fPr_write_99 (fPr_setDistributor z0 (fDg_withDataAddress (c_dist z0) (fDg_dataAddressOf (fAc_lowerDigits z0))) (c_distm z0)) a else fPr_write_99 z0 a))))
set_option maxHeartbeats 4000000 in
set_option maxRecDepth 100000 in
theorem kPr_write (l : Launch) (D : va_G) (q : Nat → Nat) (cI cJ cZ : ClassId) (hq : c_inj q) (z0 : SC) (o : Int32) (a : Int32) (ha : vp_in a 200) (hi : vp_in (c_cfirst z0) 20) : Met l yPr_write wsPr_write { frames := 3, cells := 0, slots := 0, locals := 68 } (va_Pc [.ref (q 4), .int (o), .int (a)] (c_C D q cI cJ cZ z0)) (cQw (some (.int ((fPr_write z0 o a).1))) (c_W D q cI cJ cZ (fPr_write z0 o a).2) (c_qs q)) 0 0 (c_qs q) := by
  refine Met.ofW (cc := ccPr_write) (maxL := 4) (ret := (some .int)) (by decide +kernel) rfl ?_
  intro p e s m args below meth c s₁ B hml hv
  obtain ⟨rfl, hP, hK⟩ := hv
  have hx := B.exec
  have hb := B.bytes
  have hr := B.returns
  have hts := atoms_spec (ws := wsPr_write) B.pre
  have hown : s.vm.findClass RPr = some m.cls := findClass_of_methodNamed B.named
  have hlocks := B.notSynchronized
  have w0 := hts (.fieldLink RPr 7 "DrumMachine$Processor" "drum" "LDrumMachine$Drum;") (List.mem_cons_of_mem _ wm1_110)
  have w1 := hts (.fieldLink RPr 46 "DrumMachine$Processor" "distributor" "J") (List.mem_cons_of_mem _ wm1_114)
  have w2 := hts (.fieldLink RPr 53 "DrumMachine$Processor" "distributorMinus" "Z") (List.mem_cons_of_mem _ wm1_115)
  have w3 := hts (.fieldLink RPr 24 "DrumMachine$Processor" "accumulator" "LDrumMachine$Accumulator;") (List.mem_cons_of_mem _ wm1_113)
  have i0 : ∀ w ∈ u_ws RPr TPr 9, w ∈ wsPr_write := fun w h => List.mem_cons_of_mem _ (inAPr w h)
  have hS : va_S (c_qs q) s.heap s.heap [] := va_S.rf
  have hl := lv_entry ([.ref (q 4), .int (o), .int (a)]) (n := 4) (Nat.le_of_ble_eq_true rfl)
  rw [lg_entry_eq]
  generalize (lg_sl ([.ref (q 4), .int (o), .int (a)]) ++ List.replicate (4 - (lg_sl ([.ref (q 4), .int (o), .int (a)])).length) Slot.unset).toArray = ls at hl ⊢
  have hl : lv_has ls 4 [(0, .ref (q 4)), (1, .int (o)), (2, .int (a))] := hl
  have hB99 : ∀ (H : Heap) (locs : List Loc) (ls : Array Slot) (z : SC), fPr_write z0 o a = fPr_write_99 z a → c_W D q cI cJ cZ z H → va_S (c_qs q) s.heap H locs → lv_has ls 4 [(0, .ref (q 4)), (2, .int (a))] → W p l e (headSpec wsPr_write { frames := 3, cells := 0, slots := 0, locals := 68 }).room s m ([.ref (q 4), .int (o), .int (a)] : List Value).toArray below meth c H locs 0 0 (MQ below (cQw (some (.int ((fPr_write z0 o a).1))) (c_W D q cI cJ cZ (fPr_write z0 o a).2) (c_qs q)) ([.ref (q 4), .int (o), .int (a)] : List Value).toArray s 0 0 (c_qs q)) (F0 m 99 ls []) := by
    intro H locs ls z hR hP hS hl
    rw [fPr_write_99.eq_1] at hR
    refine lv_aload_n hx hb dPr_write_99 rfl (lv_at hl 0 rfl) ?_
    refine cg4_drum hx hb hts i0 hown hK hP w0 dPr_write_100 ?_
    refine lv_iload_n hx hb dPr_write_103 rfl (lv_at hl 1 rfl) ?_
    refine lv_aload_n hx hb dPr_write_104 rfl (lv_at hl 0 rfl) ?_
    refine cg4_distributor hx hb hts i0 hown hK hP w1 dPr_write_105 ?_
    refine lv_aload_n hx hb dPr_write_108 rfl (lv_at hl 0 rfl) ?_
    refine cg4_distributorMinus hx hb hts i0 hown hK hP w2 dPr_write_109 ?_
    refine cl_wr (W.runV (As := [.int (a), .long ((c_dist z)), .int (bb ((c_distm z)))]) (rest := []) ⟨hx, hb, hml, hown, hts⟩ (kDr_store l D q cI cJ cZ hq z a (c_dist z) (c_distm z) ha) (cwV 3 hts (gV wm3_222 wm2_101 wm2_102 wm1_2 wm2_103) rfl rfl rfl (by decide +kernel) ⟨Nat.le_of_ble_eq_true rfl, Nat.le_of_ble_eq_true rfl⟩) (c_preV1 hK hP) rfl rfl hl.1 rfl (lv_room (Nat.le_of_ble_eq_true rfl)) dPr_write_112 ⟨Nat.le_refl _, Nat.le_refl _⟩) hS (fun _ h => h) (fun _ h => h) (fun H locs hP hS => ?_)
    refine lv_iconst (v := (-1)) hx hb dPr_write_115 (by decide) ?_
    exact W.iret hx hb hr (fun t ht _ => ⟨by rw [hR]; first | done | rfl, by rw [hR, ht]; exact hP, hS.F ht⟩) hS.2.2 dPr_write_116
  have hR := fPr_write.eq_1 z0 o a
  refine lv_iload_n hx hb dPr_write_0 rfl (lv_at hl 1 rfl) ?_
  refine lv_bipush (v := 70) hx hb dPr_write_1 (by decide) ?_
  refine lv_icmp_ne hx hb dPr_write_3 rfl (fun h3 => ?_) (fun h3 => ?_)
  · have hR := hR.trans (if_neg h3)
    refine lv_iload_n hx hb dPr_write_12 rfl (lv_at hl 1 rfl) ?_
    refine lv_bipush (v := 20) hx hb dPr_write_13 (by decide) ?_
    refine lv_icmp_ne hx hb dPr_write_15 rfl (fun h15 => ?_) (fun h15 => ?_)
    · have hR := hR.trans (if_neg h15)
      refine lv_iload_n hx hb dPr_write_39 rfl (lv_at hl 1 rfl) ?_
      refine lv_bipush (v := 21) hx hb dPr_write_40 (by decide) ?_
      refine lv_icmp_ne hx hb dPr_write_42 rfl (fun h42 => ?_) (fun h42 => ?_)
      · have hR := hR.trans (if_neg h42)
        refine lv_iload_n hx hb dPr_write_66 rfl (lv_at hl 1 rfl) ?_
        refine lv_bipush (v := 22) hx hb dPr_write_67 (by decide) ?_
        refine lv_icmp_ne hx hb dPr_write_69 rfl (fun h69 => ?_) (fun h69 => ?_)
        · have hR := hR.trans (if_neg h69)
          exact hB99 s.heap [] ls z0 hR hP hS (lv_sub hl [0, 2] rfl)
        · have hR := hR.trans (if_pos h69)
          refine lv_aload_n hx hb dPr_write_72 rfl (lv_at hl 0 rfl) ?_
          refine cg4_accumulator hx hb hts i0 hown hK hP w3 dPr_write_73 ?_
          refine cl_rd (W.runV (As := []) (rest := []) ⟨hx, hb, hml, hown, hts⟩ (kAc_lowerDigits l D q cI cJ cZ hq z0) (cwV 0 hts (gV wm3_227 wm3_228 wm3_229 wm1_7 wm3_230) rfl rfl rfl (by decide +kernel) ⟨Nat.le_of_ble_eq_true rfl, Nat.le_of_ble_eq_true rfl⟩) (c_preV5 hK hP) rfl rfl hl.1 rfl (lv_room (Nat.le_of_ble_eq_true rfl)) dPr_write_76 ⟨Nat.le_refl _, Nat.le_refl _⟩) ?_
          refine cl_rd (W.runS (As := [.long ((fAc_lowerDigits z0))]) (rest := []) ⟨hx, hb, hml, hown, hts⟩ (kDg_dataAddressOf l (fAc_lowerDigits z0)) (va_cwS 1 hts (gS wm3_152 wm3_153 wm1_14 wm3_154) rfl rfl rfl (by decide +kernel) ⟨Nat.le_of_ble_eq_true rfl, Nat.le_of_ble_eq_true rfl⟩) (preT) rfl rfl hl.1 rfl (lv_room (Nat.le_of_ble_eq_true rfl)) dPr_write_79 ⟨Nat.le_refl _, Nat.le_refl _⟩) ?_
          refine lv_istore_n (lv' := [(3, .int (fDg_dataAddressOf (fAc_lowerDigits z0))), (0, .ref (q 4)), (1, .int (o)), (2, .int (a))]) hx hb dPr_write_82 rfl hl (by decide) rfl (fun ls hl => ?_)
          refine lv_aload_n hx hb dPr_write_83 rfl (lv_at hl 1 rfl) ?_
          refine lv_aload_n hx hb dPr_write_84 rfl (lv_at hl 1 rfl) ?_
          refine cg4_distributor hx hb hts i0 hown hK hP w1 dPr_write_85 ?_
          refine lv_iload_n hx hb dPr_write_88 rfl (lv_at hl 0 rfl) ?_
          refine cl_rd (W.runS (As := [.long ((c_dist z0)), .int ((fDg_dataAddressOf (fAc_lowerDigits z0)))]) (rest := [.ref (q 4)]) ⟨hx, hb, hml, hown, hts⟩ (kDg_withDataAddress l (c_dist z0) (fDg_dataAddressOf (fAc_lowerDigits z0))) (va_cwS 2 hts (gS wm4_3 wm4_4 wm1_14 wm4_5) rfl rfl rfl (by decide +kernel) ⟨Nat.le_of_ble_eq_true rfl, Nat.le_of_ble_eq_true rfl⟩) (preT) rfl rfl hl.1 rfl (lv_room (Nat.le_of_ble_eq_true rfl)) dPr_write_89 ⟨Nat.le_refl _, Nat.le_refl _⟩) ?_
          refine lv_aload_n hx hb dPr_write_92 rfl (lv_at hl 1 rfl) ?_
          refine cg4_distributorMinus hx hb hts i0 hown hK hP w2 dPr_write_93 ?_
          refine cl_wr (W.runV (As := [.long ((fDg_withDataAddress (c_dist z0) (fDg_dataAddressOf (fAc_lowerDigits z0)))), .int (bb ((c_distm z0)))]) (rest := []) ⟨hx, hb, hml, hown, hts⟩ (kPr_setDistributor l D q cI cJ cZ hq z0 (fDg_withDataAddress (c_dist z0) (fDg_dataAddressOf (fAc_lowerDigits z0))) (c_distm z0)) (cwV 2 hts (gV wm3_235 wm3_237 ws2_5 wm1_6 wm3_238) rfl rfl rfl (by decide +kernel) ⟨Nat.le_of_ble_eq_true rfl, Nat.le_of_ble_eq_true rfl⟩) (c_preV4 hK hP) rfl rfl hl.1 rfl (lv_room (Nat.le_of_ble_eq_true rfl)) dPr_write_96 ⟨Nat.le_refl _, Nat.le_refl _⟩) hS (fun _ h => h) (fun _ h => h) (fun H locs hP hS => ?_)
          exact hB99 H locs ls (fPr_setDistributor z0 (fDg_withDataAddress (c_dist z0) (fDg_dataAddressOf (fAc_lowerDigits z0))) (c_distm z0)) hR hP hS (lv_sub hl [1, 3] rfl)
      · have hR := hR.trans (if_pos h42)
        refine lv_aload_n hx hb dPr_write_45 rfl (lv_at hl 0 rfl) ?_
        refine lv_aload_n hx hb dPr_write_46 rfl (lv_at hl 0 rfl) ?_
        refine cg4_accumulator hx hb hts i0 hown hK hP w3 dPr_write_47 ?_
        refine cl_rd (W.runV (As := []) (rest := [.ref (q 4)]) ⟨hx, hb, hml, hown, hts⟩ (kAc_upperDigits l D q cI cJ cZ hq z0) (cwV 0 hts (gV wm3_239 wm4_0 wm4_1 wm1_7 wm4_2) rfl rfl rfl (by decide +kernel) ⟨Nat.le_of_ble_eq_true rfl, Nat.le_of_ble_eq_true rfl⟩) (c_preV5 hK hP) rfl rfl hl.1 rfl (lv_room (Nat.le_of_ble_eq_true rfl)) dPr_write_50 ⟨Nat.le_refl _, Nat.le_refl _⟩) ?_
        refine lv_aload_n hx hb dPr_write_53 rfl (lv_at hl 0 rfl) ?_
        refine cg4_accumulator hx hb hts i0 hown hK hP w3 dPr_write_54 ?_
        refine cl_rd (W.runV (As := []) (rest := [.long (fAc_upperDigits z0), .ref (q 4)]) ⟨hx, hb, hml, hown, hts⟩ (kAc_isMinus l D q cI cJ cZ hq z0) (cwV 0 hts (gV wm3_231 wm3_232 wm3_233 wm1_7 wm3_234) rfl rfl rfl (by decide +kernel) ⟨Nat.le_of_ble_eq_true rfl, Nat.le_of_ble_eq_true rfl⟩) (c_preV5 hK hP) rfl rfl hl.1 rfl (lv_room (Nat.le_of_ble_eq_true rfl)) dPr_write_57 ⟨Nat.le_refl _, Nat.le_refl _⟩) ?_
        refine cl_wr (W.runV (As := [.long ((fAc_upperDigits z0)), .int (bb ((fAc_isMinus z0)))]) (rest := []) ⟨hx, hb, hml, hown, hts⟩ (kPr_setDistributor l D q cI cJ cZ hq z0 (fAc_upperDigits z0) (fAc_isMinus z0)) (cwV 2 hts (gV wm3_235 wm3_237 ws2_5 wm1_6 wm3_238) rfl rfl rfl (by decide +kernel) ⟨Nat.le_of_ble_eq_true rfl, Nat.le_of_ble_eq_true rfl⟩) (c_preV4 hK hP) rfl rfl hl.1 rfl (lv_room (Nat.le_of_ble_eq_true rfl)) dPr_write_60 ⟨Nat.le_refl _, Nat.le_refl _⟩) hS (fun _ h => h) (fun _ h => h) (fun H locs hP hS => ?_)
        refine lv_goto hx hb dPr_write_63 rfl ?_
        exact hB99 H locs ls (fPr_setDistributor z0 (fAc_upperDigits z0) (fAc_isMinus z0)) hR hP hS (lv_sub hl [0, 2] rfl)
    · have hR := hR.trans (if_pos h15)
      refine lv_aload_n hx hb dPr_write_18 rfl (lv_at hl 0 rfl) ?_
      refine lv_aload_n hx hb dPr_write_19 rfl (lv_at hl 0 rfl) ?_
      refine cg4_accumulator hx hb hts i0 hown hK hP w3 dPr_write_20 ?_
      refine cl_rd (W.runV (As := []) (rest := [.ref (q 4)]) ⟨hx, hb, hml, hown, hts⟩ (kAc_lowerDigits l D q cI cJ cZ hq z0) (cwV 0 hts (gV wm3_227 wm3_228 wm3_229 wm1_7 wm3_230) rfl rfl rfl (by decide +kernel) ⟨Nat.le_of_ble_eq_true rfl, Nat.le_of_ble_eq_true rfl⟩) (c_preV5 hK hP) rfl rfl hl.1 rfl (lv_room (Nat.le_of_ble_eq_true rfl)) dPr_write_23 ⟨Nat.le_refl _, Nat.le_refl _⟩) ?_
      refine lv_aload_n hx hb dPr_write_26 rfl (lv_at hl 0 rfl) ?_
      refine cg4_accumulator hx hb hts i0 hown hK hP w3 dPr_write_27 ?_
      refine cl_rd (W.runV (As := []) (rest := [.long (fAc_lowerDigits z0), .ref (q 4)]) ⟨hx, hb, hml, hown, hts⟩ (kAc_isMinus l D q cI cJ cZ hq z0) (cwV 0 hts (gV wm3_231 wm3_232 wm3_233 wm1_7 wm3_234) rfl rfl rfl (by decide +kernel) ⟨Nat.le_of_ble_eq_true rfl, Nat.le_of_ble_eq_true rfl⟩) (c_preV5 hK hP) rfl rfl hl.1 rfl (lv_room (Nat.le_of_ble_eq_true rfl)) dPr_write_30 ⟨Nat.le_refl _, Nat.le_refl _⟩) ?_
      refine cl_wr (W.runV (As := [.long ((fAc_lowerDigits z0)), .int (bb ((fAc_isMinus z0)))]) (rest := []) ⟨hx, hb, hml, hown, hts⟩ (kPr_setDistributor l D q cI cJ cZ hq z0 (fAc_lowerDigits z0) (fAc_isMinus z0)) (cwV 2 hts (gV wm3_235 wm3_237 ws2_5 wm1_6 wm3_238) rfl rfl rfl (by decide +kernel) ⟨Nat.le_of_ble_eq_true rfl, Nat.le_of_ble_eq_true rfl⟩) (c_preV4 hK hP) rfl rfl hl.1 rfl (lv_room (Nat.le_of_ble_eq_true rfl)) dPr_write_33 ⟨Nat.le_refl _, Nat.le_refl _⟩) hS (fun _ h => h) (fun _ h => h) (fun H locs hP hS => ?_)
      refine lv_goto hx hb dPr_write_36 rfl ?_
      exact hB99 H locs ls (fPr_setDistributor z0 (fAc_lowerDigits z0) (fAc_isMinus z0)) hR hP hS (lv_sub hl [0, 2] rfl)
  · have hR := hR.trans (if_pos h3)
    refine lv_aload_n hx hb dPr_write_6 rfl (lv_at hl 0 rfl) ?_
    refine lv_iload_n hx hb dPr_write_7 rfl (lv_at hl 2 rfl) ?_
    refine cl_wr (W.runV (As := [.int (a)]) (rest := []) ⟨hx, hb, hml, hown, hts⟩ (kPr_readCard l D q cI cJ cZ hq z0 a ha hi) (cwV 1 hts (gV wm3_206 wm3_208 ws2_4 wm1_6 wm3_209) rfl rfl rfl (by decide +kernel) ⟨Nat.le_of_ble_eq_true rfl, Nat.le_of_ble_eq_true rfl⟩) (c_preV4 hK hP) rfl rfl hl.1 rfl (lv_room (Nat.le_of_ble_eq_true rfl)) dPr_write_8 ⟨Nat.le_refl _, Nat.le_refl _⟩) hS (fun _ h => h) (fun _ h => h) (fun H locs hP hS => ?_)
    exact W.iret hx hb hr (fun t ht _ => ⟨by rw [hR]; first | done | rfl, by rw [hR, ht]; exact hP, hS.F ht⟩) hS.2.2 dPr_write_11
theorem dPr_read_0 : decode ccPr_read 0 = .ok (.iload_n 1, 1) := by decide +kernel
theorem dPr_read_1 : decode ccPr_read 1 = .ok (.bipush 84, 2) := by decide +kernel
theorem dPr_read_3 : decode ccPr_read 3 = .ok (.if_icmp .ne 9, 3) := by decide +kernel
theorem dPr_read_6 : decode ccPr_read 6 = .ok (.aload_n 0, 1) := by decide +kernel
theorem dPr_read_7 : decode ccPr_read 7 = .ok (.iload_n 2, 1) := by decide +kernel
theorem dPr_read_8 : decode ccPr_read 8 = .ok (.invokevirtual 164, 3) := by decide +kernel
theorem dPr_read_11 : decode ccPr_read 11 = .ok (.ireturn, 1) := by decide +kernel
theorem dPr_read_12 : decode ccPr_read 12 = .ok (.aload_n 0, 1) := by decide +kernel
theorem dPr_read_13 : decode ccPr_read 13 = .ok (.getfield 7, 3) := by decide +kernel
theorem dPr_read_16 : decode ccPr_read 16 = .ok (.iload_n 2, 1) := by decide +kernel
theorem dPr_read_17 : decode ccPr_read 17 = .ok (.invokevirtual 80, 3) := by decide +kernel
theorem dPr_read_20 : decode ccPr_read 20 = .ok (.ifCond .ne 5, 3) := by decide +kernel
theorem dPr_read_23 : decode ccPr_read 23 = .ok (.iconst 1, 1) := by decide +kernel
theorem dPr_read_24 : decode ccPr_read 24 = .ok (.ireturn, 1) := by decide +kernel
theorem dPr_read_25 : decode ccPr_read 25 = .ok (.aload_n 0, 1) := by decide +kernel
theorem dPr_read_26 : decode ccPr_read 26 = .ok (.getfield 7, 3) := by decide +kernel
theorem dPr_read_29 : decode ccPr_read 29 = .ok (.iload_n 2, 1) := by decide +kernel
theorem dPr_read_30 : decode ccPr_read 30 = .ok (.invokevirtual 83, 3) := by decide +kernel
theorem dPr_read_33 : decode ccPr_read 33 = .ok (.lstore_n 3, 1) := by decide +kernel
theorem dPr_read_34 : decode ccPr_read 34 = .ok (.aload_n 0, 1) := by decide +kernel
theorem dPr_read_35 : decode ccPr_read 35 = .ok (.getfield 7, 3) := by decide +kernel
theorem dPr_read_38 : decode ccPr_read 38 = .ok (.iload_n 2, 1) := by decide +kernel
theorem dPr_read_39 : decode ccPr_read 39 = .ok (.invokevirtual 167, 3) := by decide +kernel
theorem dPr_read_42 : decode ccPr_read 42 = .ok (.istore 5, 2) := by decide +kernel
theorem dPr_read_44 : decode ccPr_read 44 = .ok (.iconst (-1), 1) := by decide +kernel
theorem dPr_read_45 : decode ccPr_read 45 = .ok (.istore 6, 2) := by decide +kernel
theorem dPr_read_47 : decode ccPr_read 47 = .ok (.iload_n 1, 1) := by decide +kernel
theorem dPr_read_48 : decode ccPr_read 48 = .ok (.bipush 14, 2) := by decide +kernel
theorem dPr_read_50 : decode ccPr_read 50 = .ok (.if_icmp .ne 15, 3) := by decide +kernel
theorem dPr_read_53 : decode ccPr_read 53 = .ok (.aload_n 0, 1) := by decide +kernel
theorem dPr_read_54 : decode ccPr_read 54 = .ok (.lload_n 3, 1) := by decide +kernel
theorem dPr_read_55 : decode ccPr_read 55 = .ok (.iload 5, 2) := by decide +kernel
theorem dPr_read_57 : decode ccPr_read 57 = .ok (.invokevirtual 169, 3) := by decide +kernel
theorem dPr_read_60 : decode ccPr_read 60 = .ok (.istore 6, 2) := by decide +kernel
theorem dPr_read_62 : decode ccPr_read 62 = .ok (.goto 52, 3) := by decide +kernel
theorem dPr_read_65 : decode ccPr_read 65 = .ok (.iload_n 1, 1) := by decide +kernel
theorem dPr_read_66 : decode ccPr_read 66 = .ok (.bipush 71, 2) := by decide +kernel
theorem dPr_read_68 : decode ccPr_read 68 = .ok (.if_icmp .ne 15, 3) := by decide +kernel
theorem dPr_read_71 : decode ccPr_read 71 = .ok (.aload_n 0, 1) := by decide +kernel
theorem dPr_read_72 : decode ccPr_read 72 = .ok (.lload_n 3, 1) := by decide +kernel
theorem dPr_read_73 : decode ccPr_read 73 = .ok (.iload 5, 2) := by decide +kernel
theorem dPr_read_75 : decode ccPr_read 75 = .ok (.invokevirtual 173, 3) := by decide +kernel
theorem dPr_read_78 : decode ccPr_read 78 = .ok (.istore 6, 2) := by decide +kernel
theorem dPr_read_80 : decode ccPr_read 80 = .ok (.goto 34, 3) := by decide +kernel
theorem dPr_read_83 : decode ccPr_read 83 = .ok (.iload_n 1, 1) := by decide +kernel
theorem dPr_read_84 : decode ccPr_read 84 = .ok (.bipush 19, 2) := by decide +kernel
theorem dPr_read_86 : decode ccPr_read 86 = .ok (.if_icmp .ne 13, 3) := by decide +kernel
theorem dPr_read_89 : decode ccPr_read 89 = .ok (.aload_n 0, 1) := by decide +kernel
theorem dPr_read_90 : decode ccPr_read 90 = .ok (.lload_n 3, 1) := by decide +kernel
theorem dPr_read_91 : decode ccPr_read 91 = .ok (.iload 5, 2) := by decide +kernel
theorem dPr_read_93 : decode ccPr_read 93 = .ok (.invokevirtual 176, 3) := by decide +kernel
theorem dPr_read_96 : decode ccPr_read 96 = .ok (.goto 18, 3) := by decide +kernel
theorem dPr_read_99 : decode ccPr_read 99 = .ok (.iload_n 1, 1) := by decide +kernel
theorem dPr_read_100 : decode ccPr_read 100 = .ok (.invokestatic 180, 3) := by decide +kernel
theorem dPr_read_103 : decode ccPr_read 103 = .ok (.ifCond .eq 11, 3) := by decide +kernel
theorem dPr_read_106 : decode ccPr_read 106 = .ok (.aload_n 0, 1) := by decide +kernel
theorem dPr_read_107 : decode ccPr_read 107 = .ok (.iload_n 1, 1) := by decide +kernel
theorem dPr_read_108 : decode ccPr_read 108 = .ok (.lload_n 3, 1) := by decide +kernel
theorem dPr_read_109 : decode ccPr_read 109 = .ok (.iload 5, 2) := by decide +kernel
theorem dPr_read_111 : decode ccPr_read 111 = .ok (.invokevirtual 183, 3) := by decide +kernel
theorem dPr_read_114 : decode ccPr_read 114 = .ok (.iload 6, 2) := by decide +kernel
theorem dPr_read_116 : decode ccPr_read 116 = .ok (.invokestatic 67, 3) := by decide +kernel
theorem dPr_read_119 : decode ccPr_read 119 = .ok (.ifCond .ne 10, 3) := by decide +kernel
theorem dPr_read_122 : decode ccPr_read 122 = .ok (.aload_n 0, 1) := by decide +kernel
theorem dPr_read_123 : decode ccPr_read 123 = .ok (.lload_n 3, 1) := by decide +kernel
theorem dPr_read_124 : decode ccPr_read 124 = .ok (.iload 5, 2) := by decide +kernel
theorem dPr_read_126 : decode ccPr_read 126 = .ok (.invokevirtual 187, 3) := by decide +kernel
theorem dPr_read_129 : decode ccPr_read 129 = .ok (.iload 6, 2) := by decide +kernel
theorem dPr_read_131 : decode ccPr_read 131 = .ok (.ireturn, 1) := by decide +kernel
def fPr_read_114  (z : SC) (v3 : Int64) (v5 : Bool) (v6 : Int32) : Int32 × SC :=
  (if (fPr_isFault v6) = true then (v6, z) else (v6, fPr_setDistributor z v3 v5))
def fPr_read_47  (z : SC) (o : Int32) (v3 : Int64) (v5 : Bool) (v6 : Int32) : Int32 × SC :=
  (if o = (14 : Int32) then fPr_read_114 ((fPr_divide z v3 v5).2) v3 v5 ((fPr_divide z v3 v5).1) else (if o = (71 : Int32) then fPr_read_114 ((fPr_punchWord z v3 v5).2) v3 v5 ((fPr_punchWord z v3 v5).1) else (if o = (19 : Int32) then fPr_read_114 (fPr_multiply z v3 v5) v3 v5 v6 else (if (fOp_adds o) = true then fPr_read_114 (fPr_addWord z o v3 v5) v3 v5 v6 else fPr_read_114 z v3 v5 v6))))
def fPr_read (z0 : SC) (o : Int32) (a : Int32) : Int32 × SC :=
  (if o = (84 : Int32) then ((fPr_lookUp z0 a).1, (fPr_lookUp z0 a).2) else (if (fDr_isValid z0 a) = true then fPr_read_47 z0 o (fDr_valueAt z0 a) (fDr_isMinus z0 a) ((-1)) else (1, z0)))
set_option maxHeartbeats 4000000 in
set_option maxRecDepth 100000 in
theorem kPr_read (l : Launch) (D : va_G) (q : Nat → Nat) (cI cJ cZ : ClassId) (hq : c_inj q) (z0 : SC) (o : Int32) (a : Int32) (ha : vp_in a 200) (hc : 0 ≤ (c_pcount z0).toInt) : Met l yPr_read wsPr_read { frames := 3, cells := 0, slots := 0, locals := 81 } (va_Pc [.ref (q 4), .int (o), .int (a)] (c_C D q cI cJ cZ z0)) (cQw (some (.int ((fPr_read z0 o a).1))) (c_W D q cI cJ cZ (fPr_read z0 o a).2) (c_qs q)) 0 0 (c_qs q) := by
  refine Met.ofW (cc := ccPr_read) (maxL := 7) (ret := (some .int)) (by decide +kernel) rfl ?_
  intro p e s m args below meth c s₁ B hml hv
  obtain ⟨rfl, hP, hK⟩ := hv
  have hx := B.exec
  have hb := B.bytes
  have hr := B.returns
  have hts := atoms_spec (ws := wsPr_read) B.pre
  have hown : s.vm.findClass RPr = some m.cls := findClass_of_methodNamed B.named
  have hlocks := B.notSynchronized
  have w0 := hts (.fieldLink RPr 7 "DrumMachine$Processor" "drum" "LDrumMachine$Drum;") (List.mem_cons_of_mem _ wm1_110)
  have i0 : ∀ w ∈ u_ws RPr TPr 9, w ∈ wsPr_read := fun w h => List.mem_cons_of_mem _ (inAPr w h)
  have hS : va_S (c_qs q) s.heap s.heap [] := va_S.rf
  have hl := lv_entry ([.ref (q 4), .int (o), .int (a)]) (n := 7) (Nat.le_of_ble_eq_true rfl)
  rw [lg_entry_eq]
  generalize (lg_sl ([.ref (q 4), .int (o), .int (a)]) ++ List.replicate (7 - (lg_sl ([.ref (q 4), .int (o), .int (a)])).length) Slot.unset).toArray = ls at hl ⊢
  have hl : lv_has ls 7 [(0, .ref (q 4)), (1, .int (o)), (2, .int (a))] := hl
  have hB114 : ∀ (H : Heap) (locs : List Loc) (ls : Array Slot) (z : SC) (v3 : Int64) (v5 : Bool) (v6 : Int32), fPr_read z0 o a = fPr_read_114 z v3 v5 v6 → c_W D q cI cJ cZ z H → va_S (c_qs q) s.heap H locs → lv_has ls 7 [(0, .ref (q 4)), (3, .long (v3)), (5, .int (bb (v5))), (6, .int (v6))] → W p l e (headSpec wsPr_read { frames := 3, cells := 0, slots := 0, locals := 81 }).room s m ([.ref (q 4), .int (o), .int (a)] : List Value).toArray below meth c H locs 0 0 (MQ below (cQw (some (.int ((fPr_read z0 o a).1))) (c_W D q cI cJ cZ (fPr_read z0 o a).2) (c_qs q)) ([.ref (q 4), .int (o), .int (a)] : List Value).toArray s 0 0 (c_qs q)) (F0 m 114 ls []) := by
    intro H locs ls z v3 v5 v6 hR hP hS hl
    rw [fPr_read_114.eq_1] at hR
    refine lv_iload hx hb dPr_read_114 (lv_at hl 3 rfl) ?_
    refine cl_rd (W.runS (As := [.int (v6)]) (rest := []) ⟨hx, hb, hml, hown, hts⟩ (kPr_isFault l v6) (va_cwS 1 hts (gS wm4_81 wm4_82 wm1_6 wm4_83) rfl rfl rfl (by decide +kernel) ⟨Nat.le_of_ble_eq_true rfl, Nat.le_of_ble_eq_true rfl⟩) (preT) rfl rfl hl.1 rfl (lv_room (Nat.le_of_ble_eq_true rfl)) dPr_read_116 ⟨Nat.le_refl _, Nat.le_refl _⟩) ?_
    refine wz_ifne hx hb dPr_read_119 rfl (fun h119 => ?_) (fun h119 => ?_)
    · have hR := hR.trans (if_pos h119)
      refine lv_iload hx hb dPr_read_129 (lv_at hl 3 rfl) ?_
      exact W.iret hx hb hr (fun t ht _ => ⟨by rw [hR]; first | done | rfl, by rw [hR, ht]; exact hP, hS.F ht⟩) hS.2.2 dPr_read_131
    · have hR := hR.trans (if_neg h119)
      refine lv_aload_n hx hb dPr_read_122 rfl (lv_at hl 0 rfl) ?_
      refine lv_lload_n hx hb dPr_read_123 rfl (lv_at hl 1 rfl) ?_
      refine lv_iload hx hb dPr_read_124 (lv_at hl 2 rfl) ?_
      refine cl_wr (W.runV (As := [.long (v3), .int (bb (v5))]) (rest := []) ⟨hx, hb, hml, hown, hts⟩ (kPr_setDistributor l D q cI cJ cZ hq z v3 v5) (cwV 2 hts (gV wm3_235 wm3_237 ws2_5 wm1_6 wm3_238) rfl rfl rfl (by decide +kernel) ⟨Nat.le_of_ble_eq_true rfl, Nat.le_of_ble_eq_true rfl⟩) (c_preV4 hK hP) rfl rfl hl.1 rfl (lv_room (Nat.le_of_ble_eq_true rfl)) dPr_read_126 ⟨Nat.le_refl _, Nat.le_refl _⟩) hS (fun _ h => h) (fun _ h => h) (fun H locs hP hS => ?_)
      refine lv_iload hx hb dPr_read_129 (lv_at hl 3 rfl) ?_
      exact W.iret hx hb hr (fun t ht _ => ⟨by rw [hR]; first | done | rfl, by rw [hR, ht]; exact hP, hS.F ht⟩) hS.2.2 dPr_read_131
  have hB47 : ∀ (H : Heap) (locs : List Loc) (ls : Array Slot) (z : SC) (v3 : Int64) (v5 : Bool) (v6 : Int32), fPr_read z0 o a = fPr_read_47 z o v3 v5 v6 → (0 ≤ (c_pcount z).toInt) → c_W D q cI cJ cZ z H → va_S (c_qs q) s.heap H locs → lv_has ls 7 [(0, .ref (q 4)), (1, .int (o)), (3, .long (v3)), (5, .int (bb (v5))), (6, .int (v6))] → W p l e (headSpec wsPr_read { frames := 3, cells := 0, slots := 0, locals := 81 }).room s m ([.ref (q 4), .int (o), .int (a)] : List Value).toArray below meth c H locs 0 0 (MQ below (cQw (some (.int ((fPr_read z0 o a).1))) (c_W D q cI cJ cZ (fPr_read z0 o a).2) (c_qs q)) ([.ref (q 4), .int (o), .int (a)] : List Value).toArray s 0 0 (c_qs q)) (F0 m 47 ls []) := by
    intro H locs ls z v3 v5 v6 hR hc hP hS hl
    rw [fPr_read_47.eq_1] at hR
    refine lv_iload_n hx hb dPr_read_47 rfl (lv_at hl 1 rfl) ?_
    refine lv_bipush (v := 14) hx hb dPr_read_48 (by decide) ?_
    refine lv_icmp_ne hx hb dPr_read_50 rfl (fun h50 => ?_) (fun h50 => ?_)
    · have hR := hR.trans (if_neg h50)
      refine lv_iload_n hx hb dPr_read_65 rfl (lv_at hl 1 rfl) ?_
      refine lv_bipush (v := 71) hx hb dPr_read_66 (by decide) ?_
      refine lv_icmp_ne hx hb dPr_read_68 rfl (fun h68 => ?_) (fun h68 => ?_)
      · have hR := hR.trans (if_neg h68)
        refine lv_iload_n hx hb dPr_read_83 rfl (lv_at hl 1 rfl) ?_
        refine lv_bipush (v := 19) hx hb dPr_read_84 (by decide) ?_
        refine lv_icmp_ne hx hb dPr_read_86 rfl (fun h86 => ?_) (fun h86 => ?_)
        · have hR := hR.trans (if_neg h86)
          refine lv_iload_n hx hb dPr_read_99 rfl (lv_at hl 1 rfl) ?_
          refine cl_rd (W.runS (As := [.int (o)]) (rest := []) ⟨hx, hb, hml, hown, hts⟩ (kOp_adds l o) (va_cwS 1 hts (gS wm4_60 wm4_61 wm1_17 wm4_62) rfl rfl rfl (by decide +kernel) ⟨Nat.le_of_ble_eq_true rfl, Nat.le_of_ble_eq_true rfl⟩) (preT) rfl rfl hl.1 rfl (lv_room (Nat.le_of_ble_eq_true rfl)) dPr_read_100 ⟨Nat.le_refl _, Nat.le_refl _⟩) ?_
          refine wz_ifeq hx hb dPr_read_103 rfl (fun h103 => ?_) (fun h103 => ?_)
          · have hR := hR.trans (if_neg h103)
            exact hB114 H locs ls z v3 v5 v6 hR hP hS (lv_sub hl [0, 2, 3, 4] rfl)
          · have hR := hR.trans (if_pos h103)
            refine lv_aload_n hx hb dPr_read_106 rfl (lv_at hl 0 rfl) ?_
            refine lv_iload_n hx hb dPr_read_107 rfl (lv_at hl 1 rfl) ?_
            refine lv_lload_n hx hb dPr_read_108 rfl (lv_at hl 2 rfl) ?_
            refine lv_iload hx hb dPr_read_109 (lv_at hl 3 rfl) ?_
            refine cl_wr (W.runV (As := [.int (o), .long (v3), .int (bb (v5))]) (rest := []) ⟨hx, hb, hml, hown, hts⟩ (kPr_addWord l D q cI cJ cZ hq z o v3 v5) (cwV 3 hts (gV wm4_63 wm4_65 ws2_11 wm1_6 wm4_66) rfl rfl rfl (by decide +kernel) ⟨Nat.le_of_ble_eq_true rfl, Nat.le_of_ble_eq_true rfl⟩) (c_preV4 hK hP) rfl rfl hl.1 rfl (lv_room (Nat.le_of_ble_eq_true rfl)) dPr_read_111 ⟨Nat.le_refl _, Nat.le_refl _⟩) hS (fun _ h => h) (fun _ h => h) (fun H locs hP hS => ?_)
            exact hB114 H locs ls (fPr_addWord z o v3 v5) v3 v5 v6 hR hP hS (lv_sub hl [0, 2, 3, 4] rfl)
        · have hR := hR.trans (if_pos h86)
          refine lv_aload_n hx hb dPr_read_89 rfl (lv_at hl 0 rfl) ?_
          refine lv_lload_n hx hb dPr_read_90 rfl (lv_at hl 2 rfl) ?_
          refine lv_iload hx hb dPr_read_91 (lv_at hl 3 rfl) ?_
          refine cl_wr (W.runV (As := [.long (v3), .int (bb (v5))]) (rest := []) ⟨hx, hb, hml, hown, hts⟩ (kPr_multiply l D q cI cJ cZ hq z v3 v5) (cwV 2 hts (gV wm4_51 wm4_53 ws2_10 wm1_6 wm4_54) rfl rfl rfl (by decide +kernel) ⟨Nat.le_of_ble_eq_true rfl, Nat.le_of_ble_eq_true rfl⟩) (c_preV4 hK hP) rfl rfl hl.1 rfl (lv_room (Nat.le_of_ble_eq_true rfl)) dPr_read_93 ⟨Nat.le_refl _, Nat.le_refl _⟩) hS (fun _ h => h) (fun _ h => h) (fun H locs hP hS => ?_)
          refine lv_goto hx hb dPr_read_96 rfl ?_
          exact hB114 H locs ls (fPr_multiply z v3 v5) v3 v5 v6 hR hP hS (lv_sub hl [0, 2, 3, 4] rfl)
      · have hR := hR.trans (if_pos h68)
        refine lv_aload_n hx hb dPr_read_71 rfl (lv_at hl 0 rfl) ?_
        refine lv_lload_n hx hb dPr_read_72 rfl (lv_at hl 2 rfl) ?_
        refine lv_iload hx hb dPr_read_73 (lv_at hl 3 rfl) ?_
        refine cl_wr (W.runV (As := [.long (v3), .int (bb (v5))]) (rest := []) ⟨hx, hb, hml, hown, hts⟩ (kPr_punchWord l D q cI cJ cZ hq z v3 v5 hc) (cwV 2 hts (gV wm4_36 wm4_38 ws2_9 wm1_6 wm4_39) rfl rfl rfl (by decide +kernel) ⟨Nat.le_of_ble_eq_true rfl, Nat.le_of_ble_eq_true rfl⟩) (c_preV4 hK hP) rfl rfl hl.1 rfl (lv_room (Nat.le_of_ble_eq_true rfl)) dPr_read_75 ⟨Nat.le_refl _, Nat.le_refl _⟩) hS (fun _ h => h) (fun _ h => h) (fun H locs hP hS => ?_)
        refine lv_istore (lv' := [(6, .int ((fPr_punchWord z v3 v5).1)), (0, .ref (q 4)), (1, .int (o)), (3, .long (v3)), (5, .int (bb (v5)))]) hx hb dPr_read_78 hl (by decide) rfl (fun ls hl => ?_)
        refine lv_goto hx hb dPr_read_80 rfl ?_
        exact hB114 H locs ls ((fPr_punchWord z v3 v5).2) v3 v5 ((fPr_punchWord z v3 v5).1) hR hP hS (lv_sub hl [1, 3, 4, 0] rfl)
    · have hR := hR.trans (if_pos h50)
      refine lv_aload_n hx hb dPr_read_53 rfl (lv_at hl 0 rfl) ?_
      refine lv_lload_n hx hb dPr_read_54 rfl (lv_at hl 2 rfl) ?_
      refine lv_iload hx hb dPr_read_55 (lv_at hl 3 rfl) ?_
      refine cl_wr (W.runV (As := [.long (v3), .int (bb (v5))]) (rest := []) ⟨hx, hb, hml, hown, hts⟩ (kPr_divide l D q cI cJ cZ hq z v3 v5) (cwV 2 hts (gV wm4_23 wm4_25 ws2_8 wm1_6 wm4_26) rfl rfl rfl (by decide +kernel) ⟨Nat.le_of_ble_eq_true rfl, Nat.le_of_ble_eq_true rfl⟩) (c_preV4 hK hP) rfl rfl hl.1 rfl (lv_room (Nat.le_of_ble_eq_true rfl)) dPr_read_57 ⟨Nat.le_refl _, Nat.le_refl _⟩) hS (fun _ h => h) (fun _ h => h) (fun H locs hP hS => ?_)
      refine lv_istore (lv' := [(6, .int ((fPr_divide z v3 v5).1)), (0, .ref (q 4)), (1, .int (o)), (3, .long (v3)), (5, .int (bb (v5)))]) hx hb dPr_read_60 hl (by decide) rfl (fun ls hl => ?_)
      refine lv_goto hx hb dPr_read_62 rfl ?_
      exact hB114 H locs ls ((fPr_divide z v3 v5).2) v3 v5 ((fPr_divide z v3 v5).1) hR hP hS (lv_sub hl [1, 3, 4, 0] rfl)
  have hR := fPr_read.eq_1 z0 o a
  refine lv_iload_n hx hb dPr_read_0 rfl (lv_at hl 1 rfl) ?_
  refine lv_bipush (v := 84) hx hb dPr_read_1 (by decide) ?_
  refine lv_icmp_ne hx hb dPr_read_3 rfl (fun h3 => ?_) (fun h3 => ?_)
  · have hR := hR.trans (if_neg h3)
    refine lv_aload_n hx hb dPr_read_12 rfl (lv_at hl 0 rfl) ?_
    refine cg4_drum hx hb hts i0 hown hK hP w0 dPr_read_13 ?_
    refine lv_iload_n hx hb dPr_read_16 rfl (lv_at hl 2 rfl) ?_
    refine cl_rd (W.runV (As := [.int (a)]) (rest := []) ⟨hx, hb, hml, hown, hts⟩ (kDr_isValid l D q cI cJ cZ hq z0 a ha) (cwV 1 hts (gV wm3_144 wm2_130 wm2_131 wm1_2 wm2_132) rfl rfl rfl (by decide +kernel) ⟨Nat.le_of_ble_eq_true rfl, Nat.le_of_ble_eq_true rfl⟩) (c_preV1 hK hP) rfl rfl hl.1 rfl (lv_room (Nat.le_of_ble_eq_true rfl)) dPr_read_17 ⟨Nat.le_refl _, Nat.le_refl _⟩) ?_
    refine wz_ifne hx hb dPr_read_20 rfl (fun h20 => ?_) (fun h20 => ?_)
    · have hR := hR.trans (if_pos h20)
      refine lv_aload_n hx hb dPr_read_25 rfl (lv_at hl 0 rfl) ?_
      refine cg4_drum hx hb hts i0 hown hK hP w0 dPr_read_26 ?_
      refine lv_iload_n hx hb dPr_read_29 rfl (lv_at hl 2 rfl) ?_
      refine cl_rd (W.runV (As := [.int (a)]) (rest := []) ⟨hx, hb, hml, hown, hts⟩ (kDr_valueAt l D q cI cJ cZ hq z0 a ha) (cwV 1 hts (gV wm3_145 wm3_146 wm3_147 wm1_2 wm3_148) rfl rfl rfl (by decide +kernel) ⟨Nat.le_of_ble_eq_true rfl, Nat.le_of_ble_eq_true rfl⟩) (c_preV1 hK hP) rfl rfl hl.1 rfl (lv_room (Nat.le_of_ble_eq_true rfl)) dPr_read_30 ⟨Nat.le_refl _, Nat.le_refl _⟩) ?_
      refine lv_lstore_n (lv' := [(3, .long (fDr_valueAt z0 a)), (0, .ref (q 4)), (1, .int (o)), (2, .int (a))]) hx hb dPr_read_33 rfl hl (by decide) rfl (fun ls hl => ?_)
      refine lv_aload_n hx hb dPr_read_34 rfl (lv_at hl 1 rfl) ?_
      refine cg4_drum hx hb hts i0 hown hK hP w0 dPr_read_35 ?_
      refine lv_iload_n hx hb dPr_read_38 rfl (lv_at hl 3 rfl) ?_
      refine cl_rd (W.runV (As := [.int (a)]) (rest := []) ⟨hx, hb, hml, hown, hts⟩ (kDr_isMinus l D q cI cJ cZ hq z0 a ha) (cwV 1 hts (gV wm4_19 wm4_20 wm4_21 wm1_2 wm4_22) rfl rfl rfl (by decide +kernel) ⟨Nat.le_of_ble_eq_true rfl, Nat.le_of_ble_eq_true rfl⟩) (c_preV1 hK hP) rfl rfl hl.1 rfl (lv_room (Nat.le_of_ble_eq_true rfl)) dPr_read_39 ⟨Nat.le_refl _, Nat.le_refl _⟩) ?_
      refine lv_istore (lv' := [(5, .int (bb (fDr_isMinus z0 a))), (3, .long (fDr_valueAt z0 a)), (0, .ref (q 4)), (1, .int (o)), (2, .int (a))]) hx hb dPr_read_42 hl (by decide) rfl (fun ls hl => ?_)
      refine lv_iconst (v := (-1)) hx hb dPr_read_44 (by decide) ?_
      refine lv_istore (lv' := [(6, .int ((-1))), (5, .int (bb (fDr_isMinus z0 a))), (3, .long (fDr_valueAt z0 a)), (0, .ref (q 4)), (1, .int (o)), (2, .int (a))]) hx hb dPr_read_45 hl (by decide) rfl (fun ls hl => ?_)
      exact hB47 s.heap [] ls z0 (fDr_valueAt z0 a) (fDr_isMinus z0 a) ((-1)) hR (by first | assumption | omega) hP hS (lv_sub hl [3, 4, 2, 1, 0] rfl)
    · have hR := hR.trans (if_neg h20)
      refine lv_iconst (v := 1) hx hb dPr_read_23 (by decide) ?_
      exact W.iret hx hb hr (fun t ht _ => ⟨by rw [hR]; first | done | rfl, by rw [hR, ht]; exact hP, hS.F ht⟩) hS.2.2 dPr_read_24
  · have hR := hR.trans (if_pos h3)
    refine lv_aload_n hx hb dPr_read_6 rfl (lv_at hl 0 rfl) ?_
    refine lv_iload_n hx hb dPr_read_7 rfl (lv_at hl 2 rfl) ?_
    refine cl_wr (W.runV (As := [.int (a)]) (rest := []) ⟨hx, hb, hml, hown, hts⟩ (kPr_lookUp l D q cI cJ cZ hq z0 a ha) (cwV 1 hts (gV wm4_10 wm4_12 ws2_7 wm1_6 wm4_13) rfl rfl rfl (by decide +kernel) ⟨Nat.le_of_ble_eq_true rfl, Nat.le_of_ble_eq_true rfl⟩) (c_preV4 hK hP) rfl rfl hl.1 rfl (lv_room (Nat.le_of_ble_eq_true rfl)) dPr_read_8 ⟨Nat.le_refl _, Nat.le_refl _⟩) hS (fun _ h => h) (fun _ h => h) (fun H locs hP hS => ?_)
    exact W.iret hx hb hr (fun t ht _ => ⟨by rw [hR]; first | done | rfl, by rw [hR, ht]; exact hP, hS.F ht⟩) hS.2.2 dPr_read_11
theorem dPr_operate_0 : decode ccPr_operate 0 = .ok (.iload_n 1, 1) := by decide +kernel
theorem dPr_operate_1 : decode ccPr_operate 1 = .ok (.invokestatic 117, 3) := by decide +kernel
theorem dPr_operate_4 : decode ccPr_operate 4 = .ok (.ifCond .ne 5, 3) := by decide +kernel
theorem dPr_operate_7 : decode ccPr_operate 7 = .ok (.iconst 2, 1) := by decide +kernel
theorem dPr_operate_8 : decode ccPr_operate 8 = .ok (.ireturn, 1) := by decide +kernel
theorem dPr_operate_9 : decode ccPr_operate 9 = .ok (.iload_n 1, 1) := by decide +kernel
theorem dPr_operate_10 : decode ccPr_operate 10 = .ok (.iconst 1, 1) := by decide +kernel
theorem dPr_operate_11 : decode ccPr_operate 11 = .ok (.if_icmp .ne 5, 3) := by decide +kernel
theorem dPr_operate_14 : decode ccPr_operate 14 = .ok (.iconst 0, 1) := by decide +kernel
theorem dPr_operate_15 : decode ccPr_operate 15 = .ok (.ireturn, 1) := by decide +kernel
theorem dPr_operate_16 : decode ccPr_operate 16 = .ok (.iload_n 1, 1) := by decide +kernel
theorem dPr_operate_17 : decode ccPr_operate 17 = .ok (.invokestatic 120, 3) := by decide +kernel
theorem dPr_operate_20 : decode ccPr_operate 20 = .ok (.ifCond .eq 15, 3) := by decide +kernel
theorem dPr_operate_23 : decode ccPr_operate 23 = .ok (.aload_n 0, 1) := by decide +kernel
theorem dPr_operate_24 : decode ccPr_operate 24 = .ok (.iload_n 1, 1) := by decide +kernel
theorem dPr_operate_25 : decode ccPr_operate 25 = .ok (.iload_n 1, 1) := by decide +kernel
theorem dPr_operate_26 : decode ccPr_operate 26 = .ok (.iload_n 2, 1) := by decide +kernel
theorem dPr_operate_27 : decode ccPr_operate 27 = .ok (.invokestatic 123, 3) := by decide +kernel
theorem dPr_operate_30 : decode ccPr_operate 30 = .ok (.invokevirtual 126, 3) := by decide +kernel
theorem dPr_operate_33 : decode ccPr_operate 33 = .ok (.iconst (-1), 1) := by decide +kernel
theorem dPr_operate_34 : decode ccPr_operate 34 = .ok (.ireturn, 1) := by decide +kernel
theorem dPr_operate_35 : decode ccPr_operate 35 = .ok (.iload_n 1, 1) := by decide +kernel
theorem dPr_operate_36 : decode ccPr_operate 36 = .ok (.invokestatic 130, 3) := by decide +kernel
theorem dPr_operate_39 : decode ccPr_operate 39 = .ok (.ifCond .ne 5, 3) := by decide +kernel
theorem dPr_operate_42 : decode ccPr_operate 42 = .ok (.iconst (-1), 1) := by decide +kernel
theorem dPr_operate_43 : decode ccPr_operate 43 = .ok (.ireturn, 1) := by decide +kernel
theorem dPr_operate_44 : decode ccPr_operate 44 = .ok (.iload_n 2, 1) := by decide +kernel
theorem dPr_operate_45 : decode ccPr_operate 45 = .ok (.invokestatic 71, 3) := by decide +kernel
theorem dPr_operate_48 : decode ccPr_operate 48 = .ok (.ifCond .ne 5, 3) := by decide +kernel
theorem dPr_operate_51 : decode ccPr_operate 51 = .ok (.iconst 2, 1) := by decide +kernel
theorem dPr_operate_52 : decode ccPr_operate 52 = .ok (.ireturn, 1) := by decide +kernel
theorem dPr_operate_53 : decode ccPr_operate 53 = .ok (.aload_n 0, 1) := by decide +kernel
theorem dPr_operate_54 : decode ccPr_operate 54 = .ok (.iload_n 2, 1) := by decide +kernel
theorem dPr_operate_55 : decode ccPr_operate 55 = .ok (.invokevirtual 76, 3) := by decide +kernel
theorem dPr_operate_58 : decode ccPr_operate 58 = .ok (.iload_n 1, 1) := by decide +kernel
theorem dPr_operate_59 : decode ccPr_operate 59 = .ok (.invokestatic 133, 3) := by decide +kernel
theorem dPr_operate_62 : decode ccPr_operate 62 = .ok (.ifCond .eq 12, 3) := by decide +kernel
theorem dPr_operate_65 : decode ccPr_operate 65 = .ok (.aload_n 0, 1) := by decide +kernel
theorem dPr_operate_66 : decode ccPr_operate 66 = .ok (.iload_n 1, 1) := by decide +kernel
theorem dPr_operate_67 : decode ccPr_operate 67 = .ok (.iload_n 2, 1) := by decide +kernel
theorem dPr_operate_68 : decode ccPr_operate 68 = .ok (.invokevirtual 136, 3) := by decide +kernel
theorem dPr_operate_71 : decode ccPr_operate 71 = .ok (.goto 9, 3) := by decide +kernel
theorem dPr_operate_74 : decode ccPr_operate 74 = .ok (.aload_n 0, 1) := by decide +kernel
theorem dPr_operate_75 : decode ccPr_operate 75 = .ok (.iload_n 1, 1) := by decide +kernel
theorem dPr_operate_76 : decode ccPr_operate 76 = .ok (.iload_n 2, 1) := by decide +kernel
theorem dPr_operate_77 : decode ccPr_operate 77 = .ok (.invokevirtual 139, 3) := by decide +kernel
theorem dPr_operate_80 : decode ccPr_operate 80 = .ok (.ireturn, 1) := by decide +kernel
def fPr_operate (z0 : SC) (o : Int32) (a : Int32) : Int32 × SC :=
  (if (fOp_exists o) = true then (if o = (1 : Int32) then (0, z0) else (if (fOp_shifts o) = true then ((-1), fPr_shift z0 o (fOp_shiftLength o a)) else (if (fOp_accessesData o) = true then (if (fDr_hasAddress a) = true then (if (fOp_writes o) = true then ((fPr_write (fPr_waitAndAccess z0 a) o a).1, (fPr_write (fPr_waitAndAccess z0 a) o a).2) else ((fPr_read (fPr_waitAndAccess z0 a) o a).1, (fPr_read (fPr_waitAndAccess z0 a) o a).2)) else (2, z0)) else ((-1), z0)))) else (2, z0))
set_option maxHeartbeats 4000000 in
set_option maxRecDepth 100000 in
theorem kPr_operate (l : Launch) (D : va_G) (q : Nat → Nat) (cI cJ cZ : ClassId) (hq : c_inj q) (z0 : SC) (o : Int32) (a : Int32) (hi : vp_in (c_cfirst z0) 20) (hc : 0 ≤ (c_pcount z0).toInt) : Met l yPr_operate wsPr_operate { frames := 4, cells := 0, slots := 0, locals := 107 } (va_Pc [.ref (q 4), .int (o), .int (a)] (c_C D q cI cJ cZ z0)) (cQw (some (.int ((fPr_operate z0 o a).1))) (c_W D q cI cJ cZ (fPr_operate z0 o a).2) (c_qs q)) 0 0 (c_qs q) := by
  refine Met.ofW (cc := ccPr_operate) (maxL := 3) (ret := (some .int)) (by decide +kernel) rfl ?_
  intro p e s m args below meth c s₁ B hml hv
  obtain ⟨rfl, hP, hK⟩ := hv
  have hx := B.exec
  have hb := B.bytes
  have hr := B.returns
  have hts := atoms_spec (ws := wsPr_operate) B.pre
  have hown : s.vm.findClass RPr = some m.cls := findClass_of_methodNamed B.named
  have hlocks := B.notSynchronized
  have hS : va_S (c_qs q) s.heap s.heap [] := va_S.rf
  have hl := lv_entry ([.ref (q 4), .int (o), .int (a)]) (n := 3) (Nat.le_of_ble_eq_true rfl)
  rw [lg_entry_eq]
  generalize (lg_sl ([.ref (q 4), .int (o), .int (a)]) ++ List.replicate (3 - (lg_sl ([.ref (q 4), .int (o), .int (a)])).length) Slot.unset).toArray = ls at hl ⊢
  have hl : lv_has ls 3 [(0, .ref (q 4)), (1, .int (o)), (2, .int (a))] := hl
  have hR := fPr_operate.eq_1 z0 o a
  refine lv_iload_n hx hb dPr_operate_0 rfl (lv_at hl 1 rfl) ?_
  refine cl_rd (W.runS (As := [.int (o)]) (rest := []) ⟨hx, hb, hml, hown, hts⟩ (kOp_exists l o) (va_cwS 1 hts (gS wm3_159 wm2_178 wm1_17 wm2_179) rfl rfl rfl (by decide +kernel) ⟨Nat.le_of_ble_eq_true rfl, Nat.le_of_ble_eq_true rfl⟩) (preT) rfl rfl hl.1 rfl (lv_room (Nat.le_of_ble_eq_true rfl)) dPr_operate_1 ⟨Nat.le_refl _, Nat.le_refl _⟩) ?_
  refine wz_ifne hx hb dPr_operate_4 rfl (fun h4 => ?_) (fun h4 => ?_)
  · have hR := hR.trans (if_pos h4)
    refine lv_iload_n hx hb dPr_operate_9 rfl (lv_at hl 1 rfl) ?_
    refine lv_iconst (v := 1) hx hb dPr_operate_10 (by decide) ?_
    refine lv_icmp_ne hx hb dPr_operate_11 rfl (fun h11 => ?_) (fun h11 => ?_)
    · have hR := hR.trans (if_neg h11)
      refine lv_iload_n hx hb dPr_operate_16 rfl (lv_at hl 1 rfl) ?_
      refine cl_rd (W.runS (As := [.int (o)]) (rest := []) ⟨hx, hb, hml, hown, hts⟩ (kOp_shifts l o) (va_cwS 1 hts (gS wm3_160 wm2_198 wm1_17 wm2_199) rfl rfl rfl (by decide +kernel) ⟨Nat.le_of_ble_eq_true rfl, Nat.le_of_ble_eq_true rfl⟩) (preT) rfl rfl hl.1 rfl (lv_room (Nat.le_of_ble_eq_true rfl)) dPr_operate_17 ⟨Nat.le_refl _, Nat.le_refl _⟩) ?_
      refine wz_ifeq hx hb dPr_operate_20 rfl (fun h20 => ?_) (fun h20 => ?_)
      · have hR := hR.trans (if_neg h20)
        refine lv_iload_n hx hb dPr_operate_35 rfl (lv_at hl 1 rfl) ?_
        refine cl_rd (W.runS (As := [.int (o)]) (rest := []) ⟨hx, hb, hml, hown, hts⟩ (kOp_accessesData l o) (va_cwS 1 hts (gS wm3_198 wm3_44 wm1_17 wm3_45) rfl rfl rfl (by decide +kernel) ⟨Nat.le_of_ble_eq_true rfl, Nat.le_of_ble_eq_true rfl⟩) (preT) rfl rfl hl.1 rfl (lv_room (Nat.le_of_ble_eq_true rfl)) dPr_operate_36 ⟨Nat.le_refl _, Nat.le_refl _⟩) ?_
        refine wz_ifne hx hb dPr_operate_39 rfl (fun h39 => ?_) (fun h39 => ?_)
        · have hR := hR.trans (if_pos h39)
          refine lv_iload_n hx hb dPr_operate_44 rfl (lv_at hl 2 rfl) ?_
          refine cl_rd (W.runS (As := [.int (a)]) (rest := []) ⟨hx, hb, hml, hown, hts⟩ (kDr_hasAddress l a) (va_cwS 1 hts (gS wm3_135 wm2_9 wm1_2 wm2_10) rfl rfl rfl (by decide +kernel) ⟨Nat.le_of_ble_eq_true rfl, Nat.le_of_ble_eq_true rfl⟩) (preT) rfl rfl hl.1 rfl (lv_room (Nat.le_of_ble_eq_true rfl)) dPr_operate_45 ⟨Nat.le_refl _, Nat.le_refl _⟩) ?_
          refine wz_ifne hx hb dPr_operate_48 rfl (fun h48 => ?_) (fun h48 => ?_)
          · have hR := hR.trans (if_pos h48)
            refine lv_aload_n hx hb dPr_operate_53 rfl (lv_at hl 0 rfl) ?_
            refine lv_iload_n hx hb dPr_operate_54 rfl (lv_at hl 2 rfl) ?_
            refine cl_wr (W.runV (As := [.int (a)]) (rest := []) ⟨hx, hb, hml, hown, hts⟩ (kPr_waitAndAccess l D q cI cJ cZ hq z0 a) (cwV 1 hts (gV wm3_136 wm3_138 ws2_0 wm1_6 wm3_139) rfl rfl rfl (by decide +kernel) ⟨Nat.le_of_ble_eq_true rfl, Nat.le_of_ble_eq_true rfl⟩) (c_preV4 hK hP) rfl rfl hl.1 rfl (lv_room (Nat.le_of_ble_eq_true rfl)) dPr_operate_55 ⟨Nat.le_refl _, Nat.le_refl _⟩) hS (fun _ h => h) (fun _ h => h) (fun H locs hP hS => ?_)
            refine lv_iload_n hx hb dPr_operate_58 rfl (lv_at hl 1 rfl) ?_
            refine cl_rd (W.runS (As := [.int (o)]) (rest := []) ⟨hx, hb, hml, hown, hts⟩ (kOp_writes l o) (va_cwS 1 hts (gS wm3_199 wm3_200 wm1_17 wm3_201) rfl rfl rfl (by decide +kernel) ⟨Nat.le_of_ble_eq_true rfl, Nat.le_of_ble_eq_true rfl⟩) (preT) rfl rfl hl.1 rfl (lv_room (Nat.le_of_ble_eq_true rfl)) dPr_operate_59 ⟨Nat.le_refl _, Nat.le_refl _⟩) ?_
            refine wz_ifeq hx hb dPr_operate_62 rfl (fun h62 => ?_) (fun h62 => ?_)
            · have hR := hR.trans (if_neg h62)
              refine lv_aload_n hx hb dPr_operate_74 rfl (lv_at hl 0 rfl) ?_
              refine lv_iload_n hx hb dPr_operate_75 rfl (lv_at hl 1 rfl) ?_
              refine lv_iload_n hx hb dPr_operate_76 rfl (lv_at hl 2 rfl) ?_
              refine cl_wr (W.runV (As := [.int (o), .int (a)]) (rest := []) ⟨hx, hb, hml, hown, hts⟩ (kPr_read l D q cI cJ cZ hq (fPr_waitAndAccess z0 a) o a (has_in h48) hc) (cwV 2 hts (gV wm4_6 wm4_8 ws2_6 wm1_6 wm4_9) rfl rfl rfl (by decide +kernel) ⟨Nat.le_of_ble_eq_true rfl, Nat.le_of_ble_eq_true rfl⟩) (c_preV4 hK hP) rfl rfl hl.1 rfl (lv_room (Nat.le_of_ble_eq_true rfl)) dPr_operate_77 ⟨Nat.le_refl _, Nat.le_refl _⟩) hS (fun _ h => h) (fun _ h => h) (fun H locs hP hS => ?_)
              exact W.iret hx hb hr (fun t ht _ => ⟨by rw [hR]; first | done | rfl, by rw [hR, ht]; exact hP, hS.F ht⟩) hS.2.2 dPr_operate_80
            · have hR := hR.trans (if_pos h62)
              refine lv_aload_n hx hb dPr_operate_65 rfl (lv_at hl 0 rfl) ?_
              refine lv_iload_n hx hb dPr_operate_66 rfl (lv_at hl 1 rfl) ?_
              refine lv_iload_n hx hb dPr_operate_67 rfl (lv_at hl 2 rfl) ?_
              refine cl_wr (W.runV (As := [.int (o), .int (a)]) (rest := []) ⟨hx, hb, hml, hown, hts⟩ (kPr_write l D q cI cJ cZ hq (fPr_waitAndAccess z0 a) o a (has_in h48) hi) (cwV 2 hts (gV wm3_202 wm3_204 ws2_3 wm1_6 wm3_205) rfl rfl rfl (by decide +kernel) ⟨Nat.le_of_ble_eq_true rfl, Nat.le_of_ble_eq_true rfl⟩) (c_preV4 hK hP) rfl rfl hl.1 rfl (lv_room (Nat.le_of_ble_eq_true rfl)) dPr_operate_68 ⟨Nat.le_refl _, Nat.le_refl _⟩) hS (fun _ h => h) (fun _ h => h) (fun H locs hP hS => ?_)
              refine lv_goto hx hb dPr_operate_71 rfl ?_
              exact W.iret hx hb hr (fun t ht _ => ⟨by rw [hR]; first | done | rfl, by rw [hR, ht]; exact hP, hS.F ht⟩) hS.2.2 dPr_operate_80
          · have hR := hR.trans (if_neg h48)
            refine lv_iconst (v := 2) hx hb dPr_operate_51 (by decide) ?_
            exact W.iret hx hb hr (fun t ht _ => ⟨by rw [hR]; first | done | rfl, by rw [hR, ht]; exact hP, hS.F ht⟩) hS.2.2 dPr_operate_52
        · have hR := hR.trans (if_neg h39)
          refine lv_iconst (v := (-1)) hx hb dPr_operate_42 (by decide) ?_
          exact W.iret hx hb hr (fun t ht _ => ⟨by rw [hR]; first | done | rfl, by rw [hR, ht]; exact hP, hS.F ht⟩) hS.2.2 dPr_operate_43
      · have hR := hR.trans (if_pos h20)
        refine lv_aload_n hx hb dPr_operate_23 rfl (lv_at hl 0 rfl) ?_
        refine lv_iload_n hx hb dPr_operate_24 rfl (lv_at hl 1 rfl) ?_
        refine lv_iload_n hx hb dPr_operate_25 rfl (lv_at hl 1 rfl) ?_
        refine lv_iload_n hx hb dPr_operate_26 rfl (lv_at hl 2 rfl) ?_
        refine cl_rd (W.runS (As := [.int (o), .int (a)]) (rest := [.int (o), .ref (q 4)]) ⟨hx, hb, hml, hown, hts⟩ (kOp_shiftLength l o a) (va_cwS 2 hts (gS wm3_161 wm3_50 wm1_17 wm3_51) rfl rfl rfl (by decide +kernel) ⟨Nat.le_of_ble_eq_true rfl, Nat.le_of_ble_eq_true rfl⟩) (preT) rfl rfl hl.1 rfl (lv_room (Nat.le_of_ble_eq_true rfl)) dPr_operate_27 ⟨Nat.le_refl _, Nat.le_refl _⟩) ?_
        refine cl_wr (W.runV (As := [.int (o), .int ((fOp_shiftLength o a))]) (rest := []) ⟨hx, hb, hml, hown, hts⟩ (kPr_shift l D q cI cJ cZ hq z0 o (fOp_shiftLength o a)) (cwV 2 hts (gV wm3_162 wm3_164 ws2_2 wm1_6 wm3_165) rfl rfl rfl (by decide +kernel) ⟨Nat.le_of_ble_eq_true rfl, Nat.le_of_ble_eq_true rfl⟩) (c_preV4 hK hP) rfl rfl hl.1 rfl (lv_room (Nat.le_of_ble_eq_true rfl)) dPr_operate_30 ⟨Nat.le_refl _, Nat.le_refl _⟩) hS (fun _ h => h) (fun _ h => h) (fun H locs hP hS => ?_)
        refine lv_iconst (v := (-1)) hx hb dPr_operate_33 (by decide) ?_
        exact W.iret hx hb hr (fun t ht _ => ⟨by rw [hR]; first | done | rfl, by rw [hR, ht]; exact hP, hS.F ht⟩) hS.2.2 dPr_operate_34
    · have hR := hR.trans (if_pos h11)
      refine lv_iconst (v := 0) hx hb dPr_operate_14 (by decide) ?_
      exact W.iret hx hb hr (fun t ht _ => ⟨by rw [hR]; first | done | rfl, by rw [hR, ht]; exact hP, hS.F ht⟩) hS.2.2 dPr_operate_15
  · have hR := hR.trans (if_neg h4)
    refine lv_iconst (v := 2) hx hb dPr_operate_7 (by decide) ?_
    exact W.iret hx hb hr (fun t ht _ => ⟨by rw [hR]; first | done | rfl, by rw [hR, ht]; exact hP, hS.F ht⟩) hS.2.2 dPr_operate_8
theorem dPr_step_0 : decode ccPr_step 0 = .ok (.aload_n 0, 1) := by decide +kernel
theorem dPr_step_1 : decode ccPr_step 1 = .ok (.getfield 36, 3) := by decide +kernel
theorem dPr_step_4 : decode ccPr_step 4 = .ok (.invokestatic 71, 3) := by decide +kernel
theorem dPr_step_7 : decode ccPr_step 7 = .ok (.ifCond .ne 5, 3) := by decide +kernel
theorem dPr_step_10 : decode ccPr_step 10 = .ok (.iconst 2, 1) := by decide +kernel
theorem dPr_step_11 : decode ccPr_step 11 = .ok (.ireturn, 1) := by decide +kernel
theorem dPr_step_12 : decode ccPr_step 12 = .ok (.aload_n 0, 1) := by decide +kernel
theorem dPr_step_13 : decode ccPr_step 13 = .ok (.aload_n 0, 1) := by decide +kernel
theorem dPr_step_14 : decode ccPr_step 14 = .ok (.getfield 36, 3) := by decide +kernel
theorem dPr_step_17 : decode ccPr_step 17 = .ok (.invokevirtual 76, 3) := by decide +kernel
theorem dPr_step_20 : decode ccPr_step 20 = .ok (.aload_n 0, 1) := by decide +kernel
theorem dPr_step_21 : decode ccPr_step 21 = .ok (.getfield 7, 3) := by decide +kernel
theorem dPr_step_24 : decode ccPr_step 24 = .ok (.aload_n 0, 1) := by decide +kernel
theorem dPr_step_25 : decode ccPr_step 25 = .ok (.getfield 36, 3) := by decide +kernel
theorem dPr_step_28 : decode ccPr_step 28 = .ok (.invokevirtual 80, 3) := by decide +kernel
theorem dPr_step_31 : decode ccPr_step 31 = .ok (.ifCond .ne 5, 3) := by decide +kernel
theorem dPr_step_34 : decode ccPr_step 34 = .ok (.iconst 1, 1) := by decide +kernel
theorem dPr_step_35 : decode ccPr_step 35 = .ok (.ireturn, 1) := by decide +kernel
theorem dPr_step_36 : decode ccPr_step 36 = .ok (.aload_n 0, 1) := by decide +kernel
theorem dPr_step_37 : decode ccPr_step 37 = .ok (.getfield 7, 3) := by decide +kernel
theorem dPr_step_40 : decode ccPr_step 40 = .ok (.aload_n 0, 1) := by decide +kernel
theorem dPr_step_41 : decode ccPr_step 41 = .ok (.getfield 36, 3) := by decide +kernel
theorem dPr_step_44 : decode ccPr_step 44 = .ok (.invokevirtual 83, 3) := by decide +kernel
theorem dPr_step_47 : decode ccPr_step 47 = .ok (.lstore_n 1, 1) := by decide +kernel
theorem dPr_step_48 : decode ccPr_step 48 = .ok (.lload_n 1, 1) := by decide +kernel
theorem dPr_step_49 : decode ccPr_step 49 = .ok (.invokestatic 87, 3) := by decide +kernel
theorem dPr_step_52 : decode ccPr_step 52 = .ok (.istore_n 3, 1) := by decide +kernel
theorem dPr_step_53 : decode ccPr_step 53 = .ok (.lload_n 1, 1) := by decide +kernel
theorem dPr_step_54 : decode ccPr_step 54 = .ok (.invokestatic 93, 3) := by decide +kernel
theorem dPr_step_57 : decode ccPr_step 57 = .ok (.istore 4, 2) := by decide +kernel
theorem dPr_step_59 : decode ccPr_step 59 = .ok (.aload_n 0, 1) := by decide +kernel
theorem dPr_step_60 : decode ccPr_step 60 = .ok (.iload_n 3, 1) := by decide +kernel
theorem dPr_step_61 : decode ccPr_step 61 = .ok (.iload 4, 2) := by decide +kernel
theorem dPr_step_63 : decode ccPr_step 63 = .ok (.invokevirtual 96, 3) := by decide +kernel
theorem dPr_step_66 : decode ccPr_step 66 = .ok (.istore 5, 2) := by decide +kernel
theorem dPr_step_68 : decode ccPr_step 68 = .ok (.iload 5, 2) := by decide +kernel
theorem dPr_step_70 : decode ccPr_step 70 = .ok (.invokestatic 67, 3) := by decide +kernel
theorem dPr_step_73 : decode ccPr_step 73 = .ok (.ifCond .eq 6, 3) := by decide +kernel
theorem dPr_step_76 : decode ccPr_step 76 = .ok (.iload 5, 2) := by decide +kernel
theorem dPr_step_78 : decode ccPr_step 78 = .ok (.ireturn, 1) := by decide +kernel
theorem dPr_step_79 : decode ccPr_step 79 = .ok (.aload_n 0, 1) := by decide +kernel
theorem dPr_step_80 : decode ccPr_step 80 = .ok (.dup, 1) := by decide +kernel
theorem dPr_step_81 : decode ccPr_step 81 = .ok (.getfield 32, 3) := by decide +kernel
theorem dPr_step_84 : decode ccPr_step 84 = .ok (.iload_n 3, 1) := by decide +kernel
theorem dPr_step_85 : decode ccPr_step 85 = .ok (.iload 4, 2) := by decide +kernel
theorem dPr_step_87 : decode ccPr_step 87 = .ok (.invokestatic 100, 3) := by decide +kernel
theorem dPr_step_90 : decode ccPr_step 90 = .ok (.i2l, 1) := by decide +kernel
theorem dPr_step_91 : decode ccPr_step 91 = .ok (.ladd, 1) := by decide +kernel
theorem dPr_step_92 : decode ccPr_step 92 = .ok (.putfield 32, 3) := by decide +kernel
theorem dPr_step_95 : decode ccPr_step 95 = .ok (.aload_n 0, 1) := by decide +kernel
theorem dPr_step_96 : decode ccPr_step 96 = .ok (.aload_n 0, 1) := by decide +kernel
theorem dPr_step_97 : decode ccPr_step 97 = .ok (.iload_n 3, 1) := by decide +kernel
theorem dPr_step_98 : decode ccPr_step 98 = .ok (.invokevirtual 105, 3) := by decide +kernel
theorem dPr_step_101 : decode ccPr_step 101 = .ok (.ifCond .eq 8, 3) := by decide +kernel
theorem dPr_step_104 : decode ccPr_step 104 = .ok (.iload 4, 2) := by decide +kernel
theorem dPr_step_106 : decode ccPr_step 106 = .ok (.goto 7, 3) := by decide +kernel
theorem dPr_step_109 : decode ccPr_step 109 = .ok (.lload_n 1, 1) := by decide +kernel
theorem dPr_step_110 : decode ccPr_step 110 = .ok (.invokestatic 108, 3) := by decide +kernel
theorem dPr_step_113 : decode ccPr_step 113 = .ok (.putfield 36, 3) := by decide +kernel
theorem dPr_step_116 : decode ccPr_step 116 = .ok (.iload 5, 2) := by decide +kernel
theorem dPr_step_118 : decode ccPr_step 118 = .ok (.ireturn, 1) := by decide +kernel
def fPr_step_95  (z : SC) (v1 : Int64) (v3 : Int32) (v4 : Int32) (v5 : Int32) : Int32 × SC :=
  (if ((fPr_takesBranch z v3).1) = true then (v5, c_nxt_s ((fPr_takesBranch z v3).2) v4) else (v5, c_nxt_s ((fPr_takesBranch z v3).2) (fDg_nextAddressOf v1)))
def fPr_step_68  (z : SC) (v1 : Int64) (v3 : Int32) (v4 : Int32) (v5 : Int32) : Int32 × SC :=
  (if (fPr_isFault v5) = true then (v5, z) else fPr_step_95 (c_time_s z ((c_time z) + ((fOp_fixedTime v3 v4).toInt64))) v1 v3 v4 v5)
def fPr_step_48  (z : SC) (v1 : Int64) : Int32 × SC :=
  fPr_step_68 ((fPr_operate z (fDg_operationOf v1) (fDg_dataAddressOf v1)).2) v1 (fDg_operationOf v1) (fDg_dataAddressOf v1) ((fPr_operate z (fDg_operationOf v1) (fDg_dataAddressOf v1)).1)
def fPr_step (z0 : SC)  : Int32 × SC :=
  (if (fDr_hasAddress (c_nxt z0)) = true then (if (fDr_isValid (fPr_waitAndAccess z0 (c_nxt z0)) (c_nxt (fPr_waitAndAccess z0 (c_nxt z0)))) = true then fPr_step_48 (fPr_waitAndAccess z0 (c_nxt z0)) (fDr_valueAt (fPr_waitAndAccess z0 (c_nxt z0)) (c_nxt (fPr_waitAndAccess z0 (c_nxt z0)))) else (1, fPr_waitAndAccess z0 (c_nxt z0))) else (2, z0))
set_option maxHeartbeats 4000000 in
set_option maxRecDepth 100000 in
theorem kPr_step (l : Launch) (D : va_G) (q : Nat → Nat) (cI cJ cZ : ClassId) (hq : c_inj q) (z0 : SC)  (hi : vp_in (c_cfirst z0) 20) (hc : 0 ≤ (c_pcount z0).toInt) : Met l yPr_step wsPr_step { frames := 5, cells := 0, slots := 0, locals := 129 } (va_Pc [.ref (q 4)] (c_C D q cI cJ cZ z0)) (cQw (some (.int ((fPr_step z0).1))) (c_W D q cI cJ cZ (fPr_step z0).2) (c_qs q)) 0 0 (c_qs q) := by
  refine Met.ofW (cc := ccPr_step) (maxL := 6) (ret := (some .int)) (by decide +kernel) rfl ?_
  intro p e s m args below meth c s₁ B hml hv
  obtain ⟨rfl, hP, hK⟩ := hv
  have hx := B.exec
  have hb := B.bytes
  have hr := B.returns
  have hts := atoms_spec (ws := wsPr_step) B.pre
  have hown : s.vm.findClass RPr = some m.cls := findClass_of_methodNamed B.named
  have hlocks := B.notSynchronized
  have w0 := hts (.fieldLink RPr 36 "DrumMachine$Processor" "next" "I") (List.mem_cons_of_mem _ wm1_116)
  have w1 := hts (.fieldLink RPr 32 "DrumMachine$Processor" "time" "J") (List.mem_cons_of_mem _ wm1_118)
  have w2 := hts (.fieldLink RPr 7 "DrumMachine$Processor" "drum" "LDrumMachine$Drum;") (List.mem_cons_of_mem _ wm1_110)
  have i0 : ∀ w ∈ u_ws RPr TPr 9, w ∈ wsPr_step := fun w h => List.mem_cons_of_mem _ (inAPr w h)
  have hS : va_S (c_qs q) s.heap s.heap [] := va_S.rf
  have hl := lv_entry ([.ref (q 4)]) (n := 6) (Nat.le_of_ble_eq_true rfl)
  rw [lg_entry_eq]
  generalize (lg_sl ([.ref (q 4)]) ++ List.replicate (6 - (lg_sl ([.ref (q 4)])).length) Slot.unset).toArray = ls at hl ⊢
  have hl : lv_has ls 6 [(0, .ref (q 4))] := hl
  have hB95 : ∀ (H : Heap) (locs : List Loc) (ls : Array Slot) (z : SC) (v1 : Int64) (v3 : Int32) (v4 : Int32) (v5 : Int32), fPr_step z0 = fPr_step_95 z v1 v3 v4 v5 → c_W D q cI cJ cZ z H → va_S (c_qs q) s.heap H locs → lv_has ls 6 [(0, .ref (q 4)), (1, .long (v1)), (3, .int (v3)), (4, .int (v4)), (5, .int (v5))] → W p l e (headSpec wsPr_step { frames := 5, cells := 0, slots := 0, locals := 129 }).room s m ([.ref (q 4)] : List Value).toArray below meth c H locs 0 0 (MQ below (cQw (some (.int ((fPr_step z0).1))) (c_W D q cI cJ cZ (fPr_step z0).2) (c_qs q)) ([.ref (q 4)] : List Value).toArray s 0 0 (c_qs q)) (F0 m 95 ls []) := by
    intro H locs ls z v1 v3 v4 v5 hR hP hS hl
    rw [fPr_step_95.eq_1] at hR
    refine lv_aload_n hx hb dPr_step_95 rfl (lv_at hl 0 rfl) ?_
    refine lv_aload_n hx hb dPr_step_96 rfl (lv_at hl 0 rfl) ?_
    refine lv_iload_n hx hb dPr_step_97 rfl (lv_at hl 2 rfl) ?_
    refine cl_wr (W.runV (As := [.int (v3)]) (rest := [.ref (q 4)]) ⟨hx, hb, hml, hown, hts⟩ (kPr_takesBranch l D q cI cJ cZ hq z v3) (cwV 1 hts (gV wm4_85 wm4_87 ws2_12 wm1_6 wm4_88) rfl rfl rfl (by decide +kernel) ⟨Nat.le_of_ble_eq_true rfl, Nat.le_of_ble_eq_true rfl⟩) (c_preV4 hK hP) rfl rfl hl.1 rfl (lv_room (Nat.le_of_ble_eq_true rfl)) dPr_step_98 ⟨Nat.le_refl _, Nat.le_refl _⟩) hS (fun _ h => h) (fun _ h => h) (fun H locs hP hS => ?_)
    refine wz_ifeq hx hb dPr_step_101 rfl (fun h101 => ?_) (fun h101 => ?_)
    · have hR := hR.trans (if_neg h101)
      refine lv_lload_n hx hb dPr_step_109 rfl (lv_at hl 1 rfl) ?_
      refine cl_rd (W.runS (As := [.long (v1)]) (rest := [.ref (q 4)]) ⟨hx, hb, hml, hown, hts⟩ (kDg_nextAddressOf l v1) (va_cwS 1 hts (gS wm4_99 wm4_100 wm1_14 wm4_101) rfl rfl rfl (by decide +kernel) ⟨Nat.le_of_ble_eq_true rfl, Nat.le_of_ble_eq_true rfl⟩) (preT) rfl rfl hl.1 rfl (lv_room (Nat.le_of_ble_eq_true rfl)) dPr_step_110 ⟨Nat.le_refl _, Nat.le_refl _⟩) ?_
      refine cp4_next (fDg_nextAddressOf v1) hq hS hx hb hts i0 hown hK hP w0 dPr_step_113 (fun H locs hP hS => ?_)
      refine lv_iload hx hb dPr_step_116 (lv_at hl 4 rfl) ?_
      exact W.iret hx hb hr (fun t ht _ => ⟨by rw [hR]; first | done | rfl, by rw [hR, ht]; exact hP, hS.F ht⟩) hS.2.2 dPr_step_118
    · have hR := hR.trans (if_pos h101)
      refine lv_iload hx hb dPr_step_104 (lv_at hl 3 rfl) ?_
      refine lv_goto hx hb dPr_step_106 rfl ?_
      refine cp4_next v4 hq hS hx hb hts i0 hown hK hP w0 dPr_step_113 (fun H locs hP hS => ?_)
      refine lv_iload hx hb dPr_step_116 (lv_at hl 4 rfl) ?_
      exact W.iret hx hb hr (fun t ht _ => ⟨by rw [hR]; first | done | rfl, by rw [hR, ht]; exact hP, hS.F ht⟩) hS.2.2 dPr_step_118
  have hB68 : ∀ (H : Heap) (locs : List Loc) (ls : Array Slot) (z : SC) (v1 : Int64) (v3 : Int32) (v4 : Int32) (v5 : Int32), fPr_step z0 = fPr_step_68 z v1 v3 v4 v5 → c_W D q cI cJ cZ z H → va_S (c_qs q) s.heap H locs → lv_has ls 6 [(0, .ref (q 4)), (1, .long (v1)), (3, .int (v3)), (4, .int (v4)), (5, .int (v5))] → W p l e (headSpec wsPr_step { frames := 5, cells := 0, slots := 0, locals := 129 }).room s m ([.ref (q 4)] : List Value).toArray below meth c H locs 0 0 (MQ below (cQw (some (.int ((fPr_step z0).1))) (c_W D q cI cJ cZ (fPr_step z0).2) (c_qs q)) ([.ref (q 4)] : List Value).toArray s 0 0 (c_qs q)) (F0 m 68 ls []) := by
    intro H locs ls z v1 v3 v4 v5 hR hP hS hl
    rw [fPr_step_68.eq_1] at hR
    refine lv_iload hx hb dPr_step_68 (lv_at hl 4 rfl) ?_
    refine cl_rd (W.runS (As := [.int (v5)]) (rest := []) ⟨hx, hb, hml, hown, hts⟩ (kPr_isFault l v5) (va_cwS 1 hts (gS wm4_81 wm4_82 wm1_6 wm4_83) rfl rfl rfl (by decide +kernel) ⟨Nat.le_of_ble_eq_true rfl, Nat.le_of_ble_eq_true rfl⟩) (preT) rfl rfl hl.1 rfl (lv_room (Nat.le_of_ble_eq_true rfl)) dPr_step_70 ⟨Nat.le_refl _, Nat.le_refl _⟩) ?_
    refine wz_ifeq hx hb dPr_step_73 rfl (fun h73 => ?_) (fun h73 => ?_)
    · have hR := hR.trans (if_neg h73)
      refine lv_aload_n hx hb dPr_step_79 rfl (lv_at hl 0 rfl) ?_
      refine lv_dup hx hb dPr_step_80 rfl ?_
      refine cg4_time hx hb hts i0 hown hK hP w1 dPr_step_81 ?_
      refine lv_iload_n hx hb dPr_step_84 rfl (lv_at hl 2 rfl) ?_
      refine lv_iload hx hb dPr_step_85 (lv_at hl 3 rfl) ?_
      refine cl_rd (W.runS (As := [.int (v3), .int (v4)]) (rest := [.long (c_time z), .ref (q 4)]) ⟨hx, hb, hml, hown, hts⟩ (kOp_fixedTime l v3 v4) (va_cwS 2 hts (gS wm4_84 wm3_47 wm1_17 wm3_48) rfl rfl rfl (by decide +kernel) ⟨Nat.le_of_ble_eq_true rfl, Nat.le_of_ble_eq_true rfl⟩) (preT) rfl rfl hl.1 rfl (lv_room (Nat.le_of_ble_eq_true rfl)) dPr_step_87 ⟨Nat.le_refl _, Nat.le_refl _⟩) ?_
      refine lv_i2l hx hb dPr_step_90 rfl ?_
      refine lv_ladd hx hb dPr_step_91 ?_
      refine cp4_time ((c_time z) + ((fOp_fixedTime v3 v4).toInt64)) hq hS hx hb hts i0 hown hK hP w1 dPr_step_92 (fun H locs hP hS => ?_)
      exact hB95 H locs ls (c_time_s z ((c_time z) + ((fOp_fixedTime v3 v4).toInt64))) v1 v3 v4 v5 hR hP hS (lv_sub hl [0, 1, 2, 3, 4] rfl)
    · have hR := hR.trans (if_pos h73)
      refine lv_iload hx hb dPr_step_76 (lv_at hl 4 rfl) ?_
      exact W.iret hx hb hr (fun t ht _ => ⟨by rw [hR]; first | done | rfl, by rw [hR, ht]; exact hP, hS.F ht⟩) hS.2.2 dPr_step_78
  have hB48 : ∀ (H : Heap) (locs : List Loc) (ls : Array Slot) (z : SC) (v1 : Int64), fPr_step z0 = fPr_step_48 z v1 → (vp_in (c_cfirst z) 20) → (0 ≤ (c_pcount z).toInt) → c_W D q cI cJ cZ z H → va_S (c_qs q) s.heap H locs → lv_has ls 6 [(0, .ref (q 4)), (1, .long (v1))] → W p l e (headSpec wsPr_step { frames := 5, cells := 0, slots := 0, locals := 129 }).room s m ([.ref (q 4)] : List Value).toArray below meth c H locs 0 0 (MQ below (cQw (some (.int ((fPr_step z0).1))) (c_W D q cI cJ cZ (fPr_step z0).2) (c_qs q)) ([.ref (q 4)] : List Value).toArray s 0 0 (c_qs q)) (F0 m 48 ls []) := by
    intro H locs ls z v1 hR hi hc hP hS hl
    rw [fPr_step_48.eq_1] at hR
    refine lv_lload_n hx hb dPr_step_48 rfl (lv_at hl 1 rfl) ?_
    refine cl_rd (W.runS (As := [.long (v1)]) (rest := []) ⟨hx, hb, hml, hown, hts⟩ (kDg_operationOf l v1) (va_cwS 1 hts (gS wm3_149 wm3_150 wm1_14 wm3_151) rfl rfl rfl (by decide +kernel) ⟨Nat.le_of_ble_eq_true rfl, Nat.le_of_ble_eq_true rfl⟩) (preT) rfl rfl hl.1 rfl (lv_room (Nat.le_of_ble_eq_true rfl)) dPr_step_49 ⟨Nat.le_refl _, Nat.le_refl _⟩) ?_
    refine lv_istore_n (lv' := [(3, .int (fDg_operationOf v1)), (0, .ref (q 4)), (1, .long (v1))]) hx hb dPr_step_52 rfl hl (by decide) rfl (fun ls hl => ?_)
    refine lv_lload_n hx hb dPr_step_53 rfl (lv_at hl 2 rfl) ?_
    refine cl_rd (W.runS (As := [.long (v1)]) (rest := []) ⟨hx, hb, hml, hown, hts⟩ (kDg_dataAddressOf l v1) (va_cwS 1 hts (gS wm3_152 wm3_153 wm1_14 wm3_154) rfl rfl rfl (by decide +kernel) ⟨Nat.le_of_ble_eq_true rfl, Nat.le_of_ble_eq_true rfl⟩) (preT) rfl rfl hl.1 rfl (lv_room (Nat.le_of_ble_eq_true rfl)) dPr_step_54 ⟨Nat.le_refl _, Nat.le_refl _⟩) ?_
    refine lv_istore (lv' := [(4, .int (fDg_dataAddressOf v1)), (3, .int (fDg_operationOf v1)), (0, .ref (q 4)), (1, .long (v1))]) hx hb dPr_step_57 hl (by decide) rfl (fun ls hl => ?_)
    refine lv_aload_n hx hb dPr_step_59 rfl (lv_at hl 2 rfl) ?_
    refine lv_iload_n hx hb dPr_step_60 rfl (lv_at hl 1 rfl) ?_
    refine lv_iload hx hb dPr_step_61 (lv_at hl 0 rfl) ?_
    refine cl_wr (W.runV (As := [.int ((fDg_operationOf v1)), .int ((fDg_dataAddressOf v1))]) (rest := []) ⟨hx, hb, hml, hown, hts⟩ (kPr_operate l D q cI cJ cZ hq z (fDg_operationOf v1) (fDg_dataAddressOf v1) hi hc) (cwV 2 hts (gV wm3_155 wm3_157 ws2_1 wm1_6 wm3_158) rfl rfl rfl (by decide +kernel) ⟨Nat.le_of_ble_eq_true rfl, Nat.le_of_ble_eq_true rfl⟩) (c_preV4 hK hP) rfl rfl hl.1 rfl (lv_room (Nat.le_of_ble_eq_true rfl)) dPr_step_63 ⟨Nat.le_refl _, Nat.le_refl _⟩) hS (fun _ h => h) (fun _ h => h) (fun H locs hP hS => ?_)
    refine lv_istore (lv' := [(5, .int ((fPr_operate z (fDg_operationOf v1) (fDg_dataAddressOf v1)).1)), (4, .int (fDg_dataAddressOf v1)), (3, .int (fDg_operationOf v1)), (0, .ref (q 4)), (1, .long (v1))]) hx hb dPr_step_66 hl (by decide) rfl (fun ls hl => ?_)
    exact hB68 H locs ls ((fPr_operate z (fDg_operationOf v1) (fDg_dataAddressOf v1)).2) v1 (fDg_operationOf v1) (fDg_dataAddressOf v1) ((fPr_operate z (fDg_operationOf v1) (fDg_dataAddressOf v1)).1) hR hP hS (lv_sub hl [3, 4, 2, 1, 0] rfl)
  have hR := fPr_step.eq_1 z0
  refine lv_aload_n hx hb dPr_step_0 rfl (lv_at hl 0 rfl) ?_
  refine cg4_next hx hb hts i0 hown hK hP w0 dPr_step_1 ?_
  refine cl_rd (W.runS (As := [.int ((c_nxt z0))]) (rest := []) ⟨hx, hb, hml, hown, hts⟩ (kDr_hasAddress l (c_nxt z0)) (va_cwS 1 hts (gS wm3_135 wm2_9 wm1_2 wm2_10) rfl rfl rfl (by decide +kernel) ⟨Nat.le_of_ble_eq_true rfl, Nat.le_of_ble_eq_true rfl⟩) (preT) rfl rfl hl.1 rfl (lv_room (Nat.le_of_ble_eq_true rfl)) dPr_step_4 ⟨Nat.le_refl _, Nat.le_refl _⟩) ?_
  refine wz_ifne hx hb dPr_step_7 rfl (fun h7 => ?_) (fun h7 => ?_)
  · have hR := hR.trans (if_pos h7)
    refine lv_aload_n hx hb dPr_step_12 rfl (lv_at hl 0 rfl) ?_
    refine lv_aload_n hx hb dPr_step_13 rfl (lv_at hl 0 rfl) ?_
    refine cg4_next hx hb hts i0 hown hK hP w0 dPr_step_14 ?_
    refine cl_wr (W.runV (As := [.int ((c_nxt z0))]) (rest := []) ⟨hx, hb, hml, hown, hts⟩ (kPr_waitAndAccess l D q cI cJ cZ hq z0 (c_nxt z0)) (cwV 1 hts (gV wm3_136 wm3_138 ws2_0 wm1_6 wm3_139) rfl rfl rfl (by decide +kernel) ⟨Nat.le_of_ble_eq_true rfl, Nat.le_of_ble_eq_true rfl⟩) (c_preV4 hK hP) rfl rfl hl.1 rfl (lv_room (Nat.le_of_ble_eq_true rfl)) dPr_step_17 ⟨Nat.le_refl _, Nat.le_refl _⟩) hS (fun _ h => h) (fun _ h => h) (fun H locs hP hS => ?_)
    refine lv_aload_n hx hb dPr_step_20 rfl (lv_at hl 0 rfl) ?_
    refine cg4_drum hx hb hts i0 hown hK hP w2 dPr_step_21 ?_
    refine lv_aload_n hx hb dPr_step_24 rfl (lv_at hl 0 rfl) ?_
    refine cg4_next hx hb hts i0 hown hK hP w0 dPr_step_25 ?_
    refine cl_rd (W.runV (As := [.int ((c_nxt (fPr_waitAndAccess z0 (c_nxt z0))))]) (rest := []) ⟨hx, hb, hml, hown, hts⟩ (kDr_isValid l D q cI cJ cZ hq (fPr_waitAndAccess z0 (c_nxt z0)) (c_nxt (fPr_waitAndAccess z0 (c_nxt z0))) (has_in h7)) (cwV 1 hts (gV wm3_144 wm2_130 wm2_131 wm1_2 wm2_132) rfl rfl rfl (by decide +kernel) ⟨Nat.le_of_ble_eq_true rfl, Nat.le_of_ble_eq_true rfl⟩) (c_preV1 hK hP) rfl rfl hl.1 rfl (lv_room (Nat.le_of_ble_eq_true rfl)) dPr_step_28 ⟨Nat.le_refl _, Nat.le_refl _⟩) ?_
    refine wz_ifne hx hb dPr_step_31 rfl (fun h31 => ?_) (fun h31 => ?_)
    · have hR := hR.trans (if_pos h31)
      refine lv_aload_n hx hb dPr_step_36 rfl (lv_at hl 0 rfl) ?_
      refine cg4_drum hx hb hts i0 hown hK hP w2 dPr_step_37 ?_
      refine lv_aload_n hx hb dPr_step_40 rfl (lv_at hl 0 rfl) ?_
      refine cg4_next hx hb hts i0 hown hK hP w0 dPr_step_41 ?_
      refine cl_rd (W.runV (As := [.int ((c_nxt (fPr_waitAndAccess z0 (c_nxt z0))))]) (rest := []) ⟨hx, hb, hml, hown, hts⟩ (kDr_valueAt l D q cI cJ cZ hq (fPr_waitAndAccess z0 (c_nxt z0)) (c_nxt (fPr_waitAndAccess z0 (c_nxt z0))) (has_in h7)) (cwV 1 hts (gV wm3_145 wm3_146 wm3_147 wm1_2 wm3_148) rfl rfl rfl (by decide +kernel) ⟨Nat.le_of_ble_eq_true rfl, Nat.le_of_ble_eq_true rfl⟩) (c_preV1 hK hP) rfl rfl hl.1 rfl (lv_room (Nat.le_of_ble_eq_true rfl)) dPr_step_44 ⟨Nat.le_refl _, Nat.le_refl _⟩) ?_
      refine lv_lstore_n (lv' := [(1, .long (fDr_valueAt (fPr_waitAndAccess z0 (c_nxt z0)) (c_nxt (fPr_waitAndAccess z0 (c_nxt z0))))), (0, .ref (q 4))]) hx hb dPr_step_47 rfl hl (by decide) rfl (fun ls hl => ?_)
      exact hB48 H locs ls (fPr_waitAndAccess z0 (c_nxt z0)) (fDr_valueAt (fPr_waitAndAccess z0 (c_nxt z0)) (c_nxt (fPr_waitAndAccess z0 (c_nxt z0)))) hR (by first | assumption | omega) (by first | assumption | omega) hP hS (lv_sub hl [1, 0] rfl)
    · have hR := hR.trans (if_neg h31)
      refine lv_iconst (v := 1) hx hb dPr_step_34 (by decide) ?_
      exact W.iret hx hb hr (fun t ht _ => ⟨by rw [hR]; first | done | rfl, by rw [hR, ht]; exact hP, hS.F ht⟩) hS.2.2 dPr_step_35
  · have hR := hR.trans (if_neg h7)
    refine lv_iconst (v := 2) hx hb dPr_step_10 (by decide) ?_
    exact W.iret hx hb hr (fun t ht _ => ⟨by rw [hR]; first | done | rfl, by rw [hR, ht]; exact hP, hS.F ht⟩) hS.2.2 dPr_step_11
