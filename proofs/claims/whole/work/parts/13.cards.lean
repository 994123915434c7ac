theorem dCd_size_0 : decode ccCd_size 0 = .ok (.aload_n 0, 1) := by decide +kernel
theorem dCd_size_1 : decode ccCd_size 1 = .ok (.getfield 17, 3) := by decide +kernel
theorem dCd_size_4 : decode ccCd_size 4 = .ok (.ireturn, 1) := by decide +kernel
def fCd_size (z0 : SC)  : Int32 :=
  c_ccount z0
set_option maxHeartbeats 4000000 in
set_option maxRecDepth 100000 in
theorem kCd_size (l : Launch) (D : va_G) (q : Nat → Nat) (cI cJ cZ : ClassId) (hq : c_inj q) (z0 : SC)   : Met l yCd_size wsCd_size { frames := 0, cells := 0, slots := 0, locals := 0 } (va_Pc [.ref (q 2)] (c_C D q cI cJ cZ z0)) (cQr (some (.int (fCd_size z0)))) 0 0 (fun _ => False) := by
  refine Met.ofW (cc := ccCd_size) (maxL := 1) (ret := (some .int)) (by decide +kernel) rfl ?_
  intro p e s m args below meth c s₁ B hml hv
  obtain ⟨rfl, hP, hK⟩ := hv
  have hx := B.exec
  have hb := B.bytes
  have hr := B.returns
  have hts := atoms_spec (ws := wsCd_size) B.pre
  have hown : s.vm.findClass RCd = some m.cls := findClass_of_methodNamed B.named
  have hlocks := B.notSynchronized
  have w0 := hts (.fieldLink RCd 17 "DrumMachine$CardDeck" "count" "I") (List.mem_cons_of_mem _ wm1_62)
  have i0 : ∀ w ∈ u_ws RCd TCd 4, w ∈ wsCd_size := fun w h => List.mem_cons_of_mem _ (inACd w h)
  have hl := lv_entry ([.ref (q 2)]) (n := 1) (Nat.le_of_ble_eq_true rfl)
  rw [lg_entry_eq]
  generalize (lg_sl ([.ref (q 2)]) ++ List.replicate (1 - (lg_sl ([.ref (q 2)])).length) Slot.unset).toArray = ls at hl ⊢
  have hl : lv_has ls 1 [(0, .ref (q 2))] := hl
  have hR := fCd_size.eq_1 z0
  refine lv_aload_n hx hb dCd_size_0 rfl (lv_at hl 0 rfl) ?_
  refine cg2_count hx hb hts i0 hown hK hP w0 dCd_size_1 ?_
  exact W.iret hx hb hr (fun t ht _ => ⟨by rw [hR]; first | done | rfl, ht⟩) (fun _ h => absurd h List.not_mem_nil) dCd_size_4
theorem dCd_isFull_0 : decode ccCd_isFull 0 = .ok (.aload_n 0, 1) := by decide +kernel
theorem dCd_isFull_1 : decode ccCd_isFull 1 = .ok (.getfield 17, 3) := by decide +kernel
theorem dCd_isFull_4 : decode ccCd_isFull 4 = .ok (.bipush 20, 2) := by decide +kernel
theorem dCd_isFull_6 : decode ccCd_isFull 6 = .ok (.if_icmp .lt 7, 3) := by decide +kernel
theorem dCd_isFull_9 : decode ccCd_isFull 9 = .ok (.iconst 1, 1) := by decide +kernel
theorem dCd_isFull_10 : decode ccCd_isFull 10 = .ok (.goto 4, 3) := by decide +kernel
theorem dCd_isFull_13 : decode ccCd_isFull 13 = .ok (.iconst 0, 1) := by decide +kernel
theorem dCd_isFull_14 : decode ccCd_isFull 14 = .ok (.ireturn, 1) := by decide +kernel
def fCd_isFull (z0 : SC)  : Bool :=
  (if (c_ccount z0) < (20 : Int32) then false else true)
set_option maxHeartbeats 4000000 in
set_option maxRecDepth 100000 in
theorem kCd_isFull (l : Launch) (D : va_G) (q : Nat → Nat) (cI cJ cZ : ClassId) (hq : c_inj q) (z0 : SC)   : Met l yCd_isFull wsCd_isFull { frames := 0, cells := 0, slots := 0, locals := 0 } (va_Pc [.ref (q 2)] (c_C D q cI cJ cZ z0)) (cQr (some (.int (bb (fCd_isFull z0))))) 0 0 (fun _ => False) := by
  refine Met.ofW (cc := ccCd_isFull) (maxL := 1) (ret := (some .boolean)) (by decide +kernel) rfl ?_
  intro p e s m args below meth c s₁ B hml hv
  obtain ⟨rfl, hP, hK⟩ := hv
  have hx := B.exec
  have hb := B.bytes
  have hr := B.returns
  have hts := atoms_spec (ws := wsCd_isFull) B.pre
  have hown : s.vm.findClass RCd = some m.cls := findClass_of_methodNamed B.named
  have hlocks := B.notSynchronized
  have w0 := hts (.fieldLink RCd 17 "DrumMachine$CardDeck" "count" "I") (List.mem_cons_of_mem _ wm1_62)
  have i0 : ∀ w ∈ u_ws RCd TCd 4, w ∈ wsCd_isFull := fun w h => List.mem_cons_of_mem _ (inACd w h)
  have hl := lv_entry ([.ref (q 2)]) (n := 1) (Nat.le_of_ble_eq_true rfl)
  rw [lg_entry_eq]
  generalize (lg_sl ([.ref (q 2)]) ++ List.replicate (1 - (lg_sl ([.ref (q 2)])).length) Slot.unset).toArray = ls at hl ⊢
  have hl : lv_has ls 1 [(0, .ref (q 2))] := hl
  have hR := fCd_isFull.eq_1 z0
  refine lv_aload_n hx hb dCd_isFull_0 rfl (lv_at hl 0 rfl) ?_
  refine cg2_count hx hb hts i0 hown hK hP w0 dCd_isFull_1 ?_
  refine lv_bipush (v := 20) hx hb dCd_isFull_4 (by decide) ?_
  refine lv_icmp_lt hx hb dCd_isFull_6 rfl (fun h6 => ?_) (fun h6 => ?_)
  · have hR := hR.trans (if_pos h6)
    refine lv_iconst (v := 0) hx hb dCd_isFull_13 (by decide) ?_
    exact W.zret hx hb hr rfl (fun t ht _ => ⟨by rw [hR]; first | done | rfl, ht⟩) (fun _ h => absurd h List.not_mem_nil) dCd_isFull_14
  · have hR := hR.trans (if_neg h6)
    refine lv_iconst (v := 1) hx hb dCd_isFull_9 (by decide) ?_
    refine lv_goto hx hb dCd_isFull_10 rfl ?_
    exact W.zret hx hb hr rfl (fun t ht _ => ⟨by rw [hR]; first | done | rfl, ht⟩) (fun _ h => absurd h List.not_mem_nil) dCd_isFull_14
theorem dCd_isEmpty_0 : decode ccCd_isEmpty 0 = .ok (.aload_n 0, 1) := by decide +kernel
theorem dCd_isEmpty_1 : decode ccCd_isEmpty 1 = .ok (.getfield 17, 3) := by decide +kernel
theorem dCd_isEmpty_4 : decode ccCd_isEmpty 4 = .ok (.ifCond .ne 7, 3) := by decide +kernel
theorem dCd_isEmpty_7 : decode ccCd_isEmpty 7 = .ok (.iconst 1, 1) := by decide +kernel
theorem dCd_isEmpty_8 : decode ccCd_isEmpty 8 = .ok (.goto 4, 3) := by decide +kernel
theorem dCd_isEmpty_11 : decode ccCd_isEmpty 11 = .ok (.iconst 0, 1) := by decide +kernel
theorem dCd_isEmpty_12 : decode ccCd_isEmpty 12 = .ok (.ireturn, 1) := by decide +kernel
def fCd_isEmpty (z0 : SC)  : Bool :=
  (if (c_ccount z0) = 0 then true else false)
set_option maxHeartbeats 4000000 in
set_option maxRecDepth 100000 in
theorem kCd_isEmpty (l : Launch) (D : va_G) (q : Nat → Nat) (cI cJ cZ : ClassId) (hq : c_inj q) (z0 : SC)   : Met l yCd_isEmpty wsCd_isEmpty { frames := 0, cells := 0, slots := 0, locals := 0 } (va_Pc [.ref (q 2)] (c_C D q cI cJ cZ z0)) (cQr (some (.int (bb (fCd_isEmpty z0))))) 0 0 (fun _ => False) := by
  refine Met.ofW (cc := ccCd_isEmpty) (maxL := 1) (ret := (some .boolean)) (by decide +kernel) rfl ?_
  intro p e s m args below meth c s₁ B hml hv
  obtain ⟨rfl, hP, hK⟩ := hv
  have hx := B.exec
  have hb := B.bytes
  have hr := B.returns
  have hts := atoms_spec (ws := wsCd_isEmpty) B.pre
  have hown : s.vm.findClass RCd = some m.cls := findClass_of_methodNamed B.named
  have hlocks := B.notSynchronized
  have w0 := hts (.fieldLink RCd 17 "DrumMachine$CardDeck" "count" "I") (List.mem_cons_of_mem _ wm1_62)
  have i0 : ∀ w ∈ u_ws RCd TCd 4, w ∈ wsCd_isEmpty := fun w h => List.mem_cons_of_mem _ (inACd w h)
  have hl := lv_entry ([.ref (q 2)]) (n := 1) (Nat.le_of_ble_eq_true rfl)
  rw [lg_entry_eq]
  generalize (lg_sl ([.ref (q 2)]) ++ List.replicate (1 - (lg_sl ([.ref (q 2)])).length) Slot.unset).toArray = ls at hl ⊢
  have hl : lv_has ls 1 [(0, .ref (q 2))] := hl
  have hR := fCd_isEmpty.eq_1 z0
  refine lv_aload_n hx hb dCd_isEmpty_0 rfl (lv_at hl 0 rfl) ?_
  refine cg2_count hx hb hts i0 hown hK hP w0 dCd_isEmpty_1 ?_
  refine lv_if_ne hx hb dCd_isEmpty_4 rfl (fun h4 => ?_) (fun h4 => ?_)
  · have hR := hR.trans (if_neg h4)
    refine lv_iconst (v := 0) hx hb dCd_isEmpty_11 (by decide) ?_
    exact W.zret hx hb hr rfl (fun t ht _ => ⟨by rw [hR]; first | done | rfl, ht⟩) (fun _ h => absurd h List.not_mem_nil) dCd_isEmpty_12
  · have hR := hR.trans (if_pos h4)
    refine lv_iconst (v := 1) hx hb dCd_isEmpty_7 (by decide) ?_
    refine lv_goto hx hb dCd_isEmpty_8 rfl ?_
    exact W.zret hx hb hr rfl (fun t ht _ => ⟨by rw [hR]; first | done | rfl, ht⟩) (fun _ h => absurd h List.not_mem_nil) dCd_isEmpty_12
theorem dCd_put_0 : decode ccCd_put 0 = .ok (.aload_n 0, 1) := by decide +kernel
theorem dCd_put_1 : decode ccCd_put 1 = .ok (.getfield 21, 3) := by decide +kernel
theorem dCd_put_4 : decode ccCd_put 4 = .ok (.aload_n 0, 1) := by decide +kernel
theorem dCd_put_5 : decode ccCd_put 5 = .ok (.getfield 17, 3) := by decide +kernel
theorem dCd_put_8 : decode ccCd_put 8 = .ok (.iadd, 1) := by decide +kernel
theorem dCd_put_9 : decode ccCd_put 9 = .ok (.bipush 20, 2) := by decide +kernel
theorem dCd_put_11 : decode ccCd_put 11 = .ok (.irem, 1) := by decide +kernel
theorem dCd_put_12 : decode ccCd_put 12 = .ok (.istore 4, 2) := by decide +kernel
theorem dCd_put_14 : decode ccCd_put 14 = .ok (.aload_n 0, 1) := by decide +kernel
theorem dCd_put_15 : decode ccCd_put 15 = .ok (.getfield 9, 3) := by decide +kernel
theorem dCd_put_18 : decode ccCd_put 18 = .ok (.iload 4, 2) := by decide +kernel
theorem dCd_put_20 : decode ccCd_put 20 = .ok (.lload_n 1, 1) := by decide +kernel
theorem dCd_put_21 : decode ccCd_put 21 = .ok (.lastore, 1) := by decide +kernel
theorem dCd_put_22 : decode ccCd_put 22 = .ok (.aload_n 0, 1) := by decide +kernel
theorem dCd_put_23 : decode ccCd_put 23 = .ok (.getfield 13, 3) := by decide +kernel
theorem dCd_put_26 : decode ccCd_put 26 = .ok (.iload 4, 2) := by decide +kernel
theorem dCd_put_28 : decode ccCd_put 28 = .ok (.iload_n 3, 1) := by decide +kernel
theorem dCd_put_29 : decode ccCd_put 29 = .ok (.bastore, 1) := by decide +kernel
theorem dCd_put_30 : decode ccCd_put 30 = .ok (.aload_n 0, 1) := by decide +kernel
theorem dCd_put_31 : decode ccCd_put 31 = .ok (.dup, 1) := by decide +kernel
theorem dCd_put_32 : decode ccCd_put 32 = .ok (.getfield 17, 3) := by decide +kernel
theorem dCd_put_35 : decode ccCd_put 35 = .ok (.iconst 1, 1) := by decide +kernel
theorem dCd_put_36 : decode ccCd_put 36 = .ok (.iadd, 1) := by decide +kernel
theorem dCd_put_37 : decode ccCd_put 37 = .ok (.putfield 17, 3) := by decide +kernel
theorem dCd_put_40 : decode ccCd_put 40 = .ok (.return_, 1) := by decide +kernel
def fCd_put (z0 : SC) (v : Int64) (b : Bool) : SC :=
  c_ccount_s (c_cmin_s (c_cvals_s z0 (vp_updL (c_cvals z0) ((((c_cfirst z0) + (c_ccount z0)) % 20).toNatClampNeg) v)) (updB (c_cmin z0) ((((c_cfirst z0) + (c_ccount z0)) % 20).toNatClampNeg) b)) ((c_ccount z0) + 1)
set_option maxHeartbeats 4000000 in
set_option maxRecDepth 100000 in
theorem kCd_put (l : Launch) (D : va_G) (q : Nat → Nat) (cI cJ cZ : ClassId) (hq : c_inj q) (z0 : SC) (v : Int64) (b : Bool) (hi : vp_in ((c_cfirst z0 + c_ccount z0) % 20) 20) : Met l yCd_put wsCd_put { frames := 0, cells := 0, slots := 0, locals := 0 } (va_Pc [.ref (q 2), .long (v), .int (bb (b))] (c_C D q cI cJ cZ z0)) (cQw none (c_W D q cI cJ cZ (fCd_put z0 v b)) (c_qs q)) 0 0 (c_qs q) := by
  refine Met.ofW (cc := ccCd_put) (maxL := 5) (ret := none) (by decide +kernel) rfl ?_
  intro p e s m args below meth c s₁ B hml hv
  obtain ⟨rfl, hP, hK⟩ := hv
  have hx := B.exec
  have hb := B.bytes
  have hr := B.returns
  have hts := atoms_spec (ws := wsCd_put) B.pre
  have hown : s.vm.findClass RCd = some m.cls := findClass_of_methodNamed B.named
  have hlocks := B.notSynchronized
  have w0 := hts (.fieldLink RCd 21 "DrumMachine$CardDeck" "first" "I") (List.mem_cons_of_mem _ wm1_61)
  have w1 := hts (.fieldLink RCd 17 "DrumMachine$CardDeck" "count" "I") (List.mem_cons_of_mem _ wm1_62)
  have w2 := hts (.fieldLink RCd 9 "DrumMachine$CardDeck" "values" "[J") (List.mem_cons_of_mem _ wm1_59)
  have w3 := hts (.fieldLink RCd 13 "DrumMachine$CardDeck" "minus" "[Z") (List.mem_cons_of_mem _ wm1_60)
  have i0 : ∀ w ∈ u_ws RCd TCd 4, w ∈ wsCd_put := fun w h => List.mem_cons_of_mem _ (inACd w h)
  have hS : va_S (c_qs q) s.heap s.heap [] := va_S.rf
  have hl := lv_entry ([.ref (q 2), .long (v), .int (bb (b))]) (n := 5) (Nat.le_of_ble_eq_true rfl)
  rw [lg_entry_eq]
  generalize (lg_sl ([.ref (q 2), .long (v), .int (bb (b))]) ++ List.replicate (5 - (lg_sl ([.ref (q 2), .long (v), .int (bb (b))])).length) Slot.unset).toArray = ls at hl ⊢
  have hl : lv_has ls 5 [(0, .ref (q 2)), (1, .long (v)), (3, .int (bb (b)))] := hl
  have hR := fCd_put.eq_1 z0 v b
  refine lv_aload_n hx hb dCd_put_0 rfl (lv_at hl 0 rfl) ?_
  refine cg2_first hx hb hts i0 hown hK hP w0 dCd_put_1 ?_
  refine lv_aload_n hx hb dCd_put_4 rfl (lv_at hl 0 rfl) ?_
  refine cg2_count hx hb hts i0 hown hK hP w1 dCd_put_5 ?_
  refine lv_iadd hx hb dCd_put_8 ?_
  refine lv_bipush (v := 20) hx hb dCd_put_9 (by decide) ?_
  refine lm_irem hx hb dCd_put_11 (by decide) ?_
  refine lv_istore (lv' := [(4, .int (((c_cfirst z0) + (c_ccount z0)) % 20)), (0, .ref (q 2)), (1, .long (v)), (3, .int (bb (b)))]) hx hb dCd_put_12 hl (by decide) rfl (fun ls hl => ?_)
  refine lv_aload_n hx hb dCd_put_14 rfl (lv_at hl 1 rfl) ?_
  refine cg2_values hx hb hts i0 hown hK hP w2 dCd_put_15 ?_
  refine lv_iload hx hb dCd_put_18 (lv_at hl 0 rfl) ?_
  refine lv_lload_n hx hb dCd_put_20 rfl (lv_at hl 2 rfl) ?_
  refine cs_cvals v hq hS hx hb hK hP hi dCd_put_21 (fun H locs hP hS => ?_)
  refine lv_aload_n hx hb dCd_put_22 rfl (lv_at hl 1 rfl) ?_
  refine cg2_minus hx hb hts i0 hown hK hP w3 dCd_put_23 ?_
  refine lv_iload hx hb dCd_put_26 (lv_at hl 0 rfl) ?_
  refine lv_iload_n hx hb dCd_put_28 rfl (lv_at hl 3 rfl) ?_
  refine cs_cmin_e b (f := c_cmin z0) ((c_cmin_cvals _ _).trans (rfl)) hq hS hx hb hK hP hi dCd_put_29 (fun H locs hP hS => ?_)
  refine lv_aload_n hx hb dCd_put_30 rfl (lv_at hl 1 rfl) ?_
  refine lv_dup hx hb dCd_put_31 rfl ?_
  refine cg2_count_e (v := c_ccount z0) ((c_ccount_cmin _ _).trans ((c_ccount_cvals _ _).trans (rfl))) hx hb hts i0 hown hK hP w1 dCd_put_32 ?_
  refine lv_iconst (v := 1) hx hb dCd_put_35 (by decide) ?_
  refine lv_iadd hx hb dCd_put_36 ?_
  refine cp2_count ((c_ccount z0) + 1) hq hS hx hb hts i0 hown hK hP w1 dCd_put_37 (fun H locs hP hS => ?_)
  exact W.vret hx hb hr (fun t ht _ => ⟨rfl, by rw [hR, ht]; exact hP, hS.F ht⟩) hS.2.2 dCd_put_40
theorem dCd_firstValue_0 : decode ccCd_firstValue 0 = .ok (.aload_n 0, 1) := by decide +kernel
theorem dCd_firstValue_1 : decode ccCd_firstValue 1 = .ok (.getfield 9, 3) := by decide +kernel
theorem dCd_firstValue_4 : decode ccCd_firstValue 4 = .ok (.aload_n 0, 1) := by decide +kernel
theorem dCd_firstValue_5 : decode ccCd_firstValue 5 = .ok (.getfield 21, 3) := by decide +kernel
theorem dCd_firstValue_8 : decode ccCd_firstValue 8 = .ok (.laload, 1) := by decide +kernel
theorem dCd_firstValue_9 : decode ccCd_firstValue 9 = .ok (.lreturn, 1) := by decide +kernel
def fCd_firstValue (z0 : SC)  : Int64 :=
  c_cvals z0 ((c_cfirst z0).toNatClampNeg)
set_option maxHeartbeats 4000000 in
set_option maxRecDepth 100000 in
theorem kCd_firstValue (l : Launch) (D : va_G) (q : Nat → Nat) (cI cJ cZ : ClassId) (hq : c_inj q) (z0 : SC)  (hi : vp_in (c_cfirst z0) 20) : Met l yCd_firstValue wsCd_firstValue { frames := 0, cells := 0, slots := 0, locals := 0 } (va_Pc [.ref (q 2)] (c_C D q cI cJ cZ z0)) (cQr (some (.long (fCd_firstValue z0)))) 0 0 (fun _ => False) := by
  refine Met.ofW (cc := ccCd_firstValue) (maxL := 1) (ret := (some .long)) (by decide +kernel) rfl ?_
  intro p e s m args below meth c s₁ B hml hv
  obtain ⟨rfl, hP, hK⟩ := hv
  have hx := B.exec
  have hb := B.bytes
  have hr := B.returns
  have hts := atoms_spec (ws := wsCd_firstValue) B.pre
  have hown : s.vm.findClass RCd = some m.cls := findClass_of_methodNamed B.named
  have hlocks := B.notSynchronized
  have w0 := hts (.fieldLink RCd 9 "DrumMachine$CardDeck" "values" "[J") (List.mem_cons_of_mem _ wm1_59)
  have w1 := hts (.fieldLink RCd 21 "DrumMachine$CardDeck" "first" "I") (List.mem_cons_of_mem _ wm1_61)
  have i0 : ∀ w ∈ u_ws RCd TCd 4, w ∈ wsCd_firstValue := fun w h => List.mem_cons_of_mem _ (inACd w h)
  have hl := lv_entry ([.ref (q 2)]) (n := 1) (Nat.le_of_ble_eq_true rfl)
  rw [lg_entry_eq]
  generalize (lg_sl ([.ref (q 2)]) ++ List.replicate (1 - (lg_sl ([.ref (q 2)])).length) Slot.unset).toArray = ls at hl ⊢
  have hl : lv_has ls 1 [(0, .ref (q 2))] := hl
  have hR := fCd_firstValue.eq_1 z0
  refine lv_aload_n hx hb dCd_firstValue_0 rfl (lv_at hl 0 rfl) ?_
  refine cg2_values hx hb hts i0 hown hK hP w0 dCd_firstValue_1 ?_
  refine lv_aload_n hx hb dCd_firstValue_4 rfl (lv_at hl 0 rfl) ?_
  refine cg2_first hx hb hts i0 hown hK hP w1 dCd_firstValue_5 ?_
  refine cl_cvals hx hb hK hP hi dCd_firstValue_8 ?_
  exact W.lret hx hb hr (fun t ht _ => ⟨by rw [hR]; first | done | rfl, ht⟩) (fun _ h => absurd h List.not_mem_nil) dCd_firstValue_9
theorem dCd_firstIsMinus_0 : decode ccCd_firstIsMinus 0 = .ok (.aload_n 0, 1) := by decide +kernel
theorem dCd_firstIsMinus_1 : decode ccCd_firstIsMinus 1 = .ok (.getfield 13, 3) := by decide +kernel
theorem dCd_firstIsMinus_4 : decode ccCd_firstIsMinus 4 = .ok (.aload_n 0, 1) := by decide +kernel
theorem dCd_firstIsMinus_5 : decode ccCd_firstIsMinus 5 = .ok (.getfield 21, 3) := by decide +kernel
theorem dCd_firstIsMinus_8 : decode ccCd_firstIsMinus 8 = .ok (.baload, 1) := by decide +kernel
theorem dCd_firstIsMinus_9 : decode ccCd_firstIsMinus 9 = .ok (.ireturn, 1) := by decide +kernel
def fCd_firstIsMinus (z0 : SC)  : Bool :=
  c_cmin z0 ((c_cfirst z0).toNatClampNeg)
set_option maxHeartbeats 4000000 in
set_option maxRecDepth 100000 in
theorem kCd_firstIsMinus (l : Launch) (D : va_G) (q : Nat → Nat) (cI cJ cZ : ClassId) (hq : c_inj q) (z0 : SC)  (hi : vp_in (c_cfirst z0) 20) : Met l yCd_firstIsMinus wsCd_firstIsMinus { frames := 0, cells := 0, slots := 0, locals := 0 } (va_Pc [.ref (q 2)] (c_C D q cI cJ cZ z0)) (cQr (some (.int (bb (fCd_firstIsMinus z0))))) 0 0 (fun _ => False) := by
  refine Met.ofW (cc := ccCd_firstIsMinus) (maxL := 1) (ret := (some .boolean)) (by decide +kernel) rfl ?_
  intro p e s m args below meth c s₁ B hml hv
  obtain ⟨rfl, hP, hK⟩ := hv
  have hx := B.exec
  have hb := B.bytes
  have hr := B.returns
  have hts := atoms_spec (ws := wsCd_firstIsMinus) B.pre
  have hown : s.vm.findClass RCd = some m.cls := findClass_of_methodNamed B.named
  have hlocks := B.notSynchronized
  have w0 := hts (.fieldLink RCd 13 "DrumMachine$CardDeck" "minus" "[Z") (List.mem_cons_of_mem _ wm1_60)
  have w1 := hts (.fieldLink RCd 21 "DrumMachine$CardDeck" "first" "I") (List.mem_cons_of_mem _ wm1_61)
  have i0 : ∀ w ∈ u_ws RCd TCd 4, w ∈ wsCd_firstIsMinus := fun w h => List.mem_cons_of_mem _ (inACd w h)
  have hl := lv_entry ([.ref (q 2)]) (n := 1) (Nat.le_of_ble_eq_true rfl)
  rw [lg_entry_eq]
  generalize (lg_sl ([.ref (q 2)]) ++ List.replicate (1 - (lg_sl ([.ref (q 2)])).length) Slot.unset).toArray = ls at hl ⊢
  have hl : lv_has ls 1 [(0, .ref (q 2))] := hl
  have hR := fCd_firstIsMinus.eq_1 z0
  refine lv_aload_n hx hb dCd_firstIsMinus_0 rfl (lv_at hl 0 rfl) ?_
  refine cg2_minus hx hb hts i0 hown hK hP w0 dCd_firstIsMinus_1 ?_
  refine lv_aload_n hx hb dCd_firstIsMinus_4 rfl (lv_at hl 0 rfl) ?_
  refine cg2_first hx hb hts i0 hown hK hP w1 dCd_firstIsMinus_5 ?_
  refine cl_cmin hx hb hK hP hi dCd_firstIsMinus_8 ?_
  exact W.zret hx hb hr (nz_b _) (fun t ht _ => ⟨by rw [hR]; first | done | rfl, ht⟩) (fun _ h => absurd h List.not_mem_nil) dCd_firstIsMinus_9
theorem dCd_dropFirst_0 : decode ccCd_dropFirst 0 = .ok (.aload_n 0, 1) := by decide +kernel
theorem dCd_dropFirst_1 : decode ccCd_dropFirst 1 = .ok (.aload_n 0, 1) := by decide +kernel
theorem dCd_dropFirst_2 : decode ccCd_dropFirst 2 = .ok (.getfield 21, 3) := by decide +kernel
theorem dCd_dropFirst_5 : decode ccCd_dropFirst 5 = .ok (.iconst 1, 1) := by decide +kernel
theorem dCd_dropFirst_6 : decode ccCd_dropFirst 6 = .ok (.iadd, 1) := by decide +kernel
theorem dCd_dropFirst_7 : decode ccCd_dropFirst 7 = .ok (.bipush 20, 2) := by decide +kernel
theorem dCd_dropFirst_9 : decode ccCd_dropFirst 9 = .ok (.irem, 1) := by decide +kernel
theorem dCd_dropFirst_10 : decode ccCd_dropFirst 10 = .ok (.putfield 21, 3) := by decide +kernel
theorem dCd_dropFirst_13 : decode ccCd_dropFirst 13 = .ok (.aload_n 0, 1) := by decide +kernel
theorem dCd_dropFirst_14 : decode ccCd_dropFirst 14 = .ok (.dup, 1) := by decide +kernel
theorem dCd_dropFirst_15 : decode ccCd_dropFirst 15 = .ok (.getfield 17, 3) := by decide +kernel
theorem dCd_dropFirst_18 : decode ccCd_dropFirst 18 = .ok (.iconst 1, 1) := by decide +kernel
theorem dCd_dropFirst_19 : decode ccCd_dropFirst 19 = .ok (.isub, 1) := by decide +kernel
theorem dCd_dropFirst_20 : decode ccCd_dropFirst 20 = .ok (.putfield 17, 3) := by decide +kernel
theorem dCd_dropFirst_23 : decode ccCd_dropFirst 23 = .ok (.return_, 1) := by decide +kernel
def fCd_dropFirst (z0 : SC)  : SC :=
  c_ccount_s (c_cfirst_s z0 (((c_cfirst z0) + 1) % 20)) ((c_ccount z0) - 1)
set_option maxHeartbeats 4000000 in
set_option maxRecDepth 100000 in
theorem kCd_dropFirst (l : Launch) (D : va_G) (q : Nat → Nat) (cI cJ cZ : ClassId) (hq : c_inj q) (z0 : SC)   : Met l yCd_dropFirst wsCd_dropFirst { frames := 0, cells := 0, slots := 0, locals := 0 } (va_Pc [.ref (q 2)] (c_C D q cI cJ cZ z0)) (cQw none (c_W D q cI cJ cZ (fCd_dropFirst z0)) (c_qs q)) 0 0 (c_qs q) := by
  refine Met.ofW (cc := ccCd_dropFirst) (maxL := 1) (ret := none) (by decide +kernel) rfl ?_
  intro p e s m args below meth c s₁ B hml hv
  obtain ⟨rfl, hP, hK⟩ := hv
  have hx := B.exec
  have hb := B.bytes
  have hr := B.returns
  have hts := atoms_spec (ws := wsCd_dropFirst) B.pre
  have hown : s.vm.findClass RCd = some m.cls := findClass_of_methodNamed B.named
  have hlocks := B.notSynchronized
  have w0 := hts (.fieldLink RCd 21 "DrumMachine$CardDeck" "first" "I") (List.mem_cons_of_mem _ wm1_61)
  have w1 := hts (.fieldLink RCd 17 "DrumMachine$CardDeck" "count" "I") (List.mem_cons_of_mem _ wm1_62)
  have i0 : ∀ w ∈ u_ws RCd TCd 4, w ∈ wsCd_dropFirst := fun w h => List.mem_cons_of_mem _ (inACd w h)
  have hS : va_S (c_qs q) s.heap s.heap [] := va_S.rf
  have hl := lv_entry ([.ref (q 2)]) (n := 1) (Nat.le_of_ble_eq_true rfl)
  rw [lg_entry_eq]
  generalize (lg_sl ([.ref (q 2)]) ++ List.replicate (1 - (lg_sl ([.ref (q 2)])).length) Slot.unset).toArray = ls at hl ⊢
  have hl : lv_has ls 1 [(0, .ref (q 2))] := hl
  have hR := fCd_dropFirst.eq_1 z0
  refine lv_aload_n hx hb dCd_dropFirst_0 rfl (lv_at hl 0 rfl) ?_
  refine lv_aload_n hx hb dCd_dropFirst_1 rfl (lv_at hl 0 rfl) ?_
  refine cg2_first hx hb hts i0 hown hK hP w0 dCd_dropFirst_2 ?_
  refine lv_iconst (v := 1) hx hb dCd_dropFirst_5 (by decide) ?_
  refine lv_iadd hx hb dCd_dropFirst_6 ?_
  refine lv_bipush (v := 20) hx hb dCd_dropFirst_7 (by decide) ?_
  refine lm_irem hx hb dCd_dropFirst_9 (by decide) ?_
  refine cp2_first (((c_cfirst z0) + 1) % 20) hq hS hx hb hts i0 hown hK hP w0 dCd_dropFirst_10 (fun H locs hP hS => ?_)
  refine lv_aload_n hx hb dCd_dropFirst_13 rfl (lv_at hl 0 rfl) ?_
  refine lv_dup hx hb dCd_dropFirst_14 rfl ?_
  refine cg2_count_e (v := c_ccount z0) ((c_ccount_cfirst _ _).trans (rfl)) hx hb hts i0 hown hK hP w1 dCd_dropFirst_15 ?_
  refine lv_iconst (v := 1) hx hb dCd_dropFirst_18 (by decide) ?_
  refine lv_isub hx hb dCd_dropFirst_19 ?_
  refine cp2_count ((c_ccount z0) - 1) hq hS hx hb hts i0 hown hK hP w1 dCd_dropFirst_20 (fun H locs hP hS => ?_)
  exact W.vret hx hb hr (fun t ht _ => ⟨rfl, by rw [hR, ht]; exact hP, hS.F ht⟩) hS.2.2 dCd_dropFirst_23
theorem dPu_size_0 : decode ccPu_size 0 = .ok (.aload_n 0, 1) := by decide +kernel
theorem dPu_size_1 : decode ccPu_size 1 = .ok (.getfield 13, 3) := by decide +kernel
theorem dPu_size_4 : decode ccPu_size 4 = .ok (.ireturn, 1) := by decide +kernel
def fPu_size (z0 : SC)  : Int32 :=
  c_pcount z0
set_option maxHeartbeats 4000000 in
set_option maxRecDepth 100000 in
theorem kPu_size (l : Launch) (D : va_G) (q : Nat → Nat) (cI cJ cZ : ClassId) (hq : c_inj q) (z0 : SC)   : Met l yPu_size wsPu_size { frames := 0, cells := 0, slots := 0, locals := 0 } (va_Pc [.ref (q 3)] (c_C D q cI cJ cZ z0)) (cQr (some (.int (fPu_size z0)))) 0 0 (fun _ => False) := by
  refine Met.ofW (cc := ccPu_size) (maxL := 1) (ret := (some .int)) (by decide +kernel) rfl ?_
  intro p e s m args below meth c s₁ B hml hv
  obtain ⟨rfl, hP, hK⟩ := hv
  have hx := B.exec
  have hb := B.bytes
  have hr := B.returns
  have hts := atoms_spec (ws := wsPu_size) B.pre
  have hown : s.vm.findClass RPu = some m.cls := findClass_of_methodNamed B.named
  have hlocks := B.notSynchronized
  have w0 := hts (.fieldLink RPu 13 "DrumMachine$Punch" "count" "I") (List.mem_cons_of_mem _ wm1_79)
  have i0 : ∀ w ∈ u_ws RPu TPu 2, w ∈ wsPu_size := fun w h => List.mem_cons_of_mem _ (inAPu w h)
  have hl := lv_entry ([.ref (q 3)]) (n := 1) (Nat.le_of_ble_eq_true rfl)
  rw [lg_entry_eq]
  generalize (lg_sl ([.ref (q 3)]) ++ List.replicate (1 - (lg_sl ([.ref (q 3)])).length) Slot.unset).toArray = ls at hl ⊢
  have hl : lv_has ls 1 [(0, .ref (q 3))] := hl
  have hR := fPu_size.eq_1 z0
  refine lv_aload_n hx hb dPu_size_0 rfl (lv_at hl 0 rfl) ?_
  refine cg3_count hx hb hts i0 hown hK hP w0 dPu_size_1 ?_
  exact W.iret hx hb hr (fun t ht _ => ⟨by rw [hR]; first | done | rfl, ht⟩) (fun _ h => absurd h List.not_mem_nil) dPu_size_4
theorem dPu_isFull_0 : decode ccPu_isFull 0 = .ok (.aload_n 0, 1) := by decide +kernel
theorem dPu_isFull_1 : decode ccPu_isFull 1 = .ok (.getfield 13, 3) := by decide +kernel
theorem dPu_isFull_4 : decode ccPu_isFull 4 = .ok (.bipush 40, 2) := by decide +kernel
theorem dPu_isFull_6 : decode ccPu_isFull 6 = .ok (.if_icmp .lt 7, 3) := by decide +kernel
theorem dPu_isFull_9 : decode ccPu_isFull 9 = .ok (.iconst 1, 1) := by decide +kernel
theorem dPu_isFull_10 : decode ccPu_isFull 10 = .ok (.goto 4, 3) := by decide +kernel
theorem dPu_isFull_13 : decode ccPu_isFull 13 = .ok (.iconst 0, 1) := by decide +kernel
theorem dPu_isFull_14 : decode ccPu_isFull 14 = .ok (.ireturn, 1) := by decide +kernel
def fPu_isFull (z0 : SC)  : Bool :=
  (if (c_pcount z0) < (40 : Int32) then false else true)
set_option maxHeartbeats 4000000 in
set_option maxRecDepth 100000 in
theorem kPu_isFull (l : Launch) (D : va_G) (q : Nat → Nat) (cI cJ cZ : ClassId) (hq : c_inj q) (z0 : SC)   : Met l yPu_isFull wsPu_isFull { frames := 0, cells := 0, slots := 0, locals := 0 } (va_Pc [.ref (q 3)] (c_C D q cI cJ cZ z0)) (cQr (some (.int (bb (fPu_isFull z0))))) 0 0 (fun _ => False) := by
  refine Met.ofW (cc := ccPu_isFull) (maxL := 1) (ret := (some .boolean)) (by decide +kernel) rfl ?_
  intro p e s m args below meth c s₁ B hml hv
  obtain ⟨rfl, hP, hK⟩ := hv
  have hx := B.exec
  have hb := B.bytes
  have hr := B.returns
  have hts := atoms_spec (ws := wsPu_isFull) B.pre
  have hown : s.vm.findClass RPu = some m.cls := findClass_of_methodNamed B.named
  have hlocks := B.notSynchronized
  have w0 := hts (.fieldLink RPu 13 "DrumMachine$Punch" "count" "I") (List.mem_cons_of_mem _ wm1_79)
  have i0 : ∀ w ∈ u_ws RPu TPu 2, w ∈ wsPu_isFull := fun w h => List.mem_cons_of_mem _ (inAPu w h)
  have hl := lv_entry ([.ref (q 3)]) (n := 1) (Nat.le_of_ble_eq_true rfl)
  rw [lg_entry_eq]
  generalize (lg_sl ([.ref (q 3)]) ++ List.replicate (1 - (lg_sl ([.ref (q 3)])).length) Slot.unset).toArray = ls at hl ⊢
  have hl : lv_has ls 1 [(0, .ref (q 3))] := hl
  have hR := fPu_isFull.eq_1 z0
  refine lv_aload_n hx hb dPu_isFull_0 rfl (lv_at hl 0 rfl) ?_
  refine cg3_count hx hb hts i0 hown hK hP w0 dPu_isFull_1 ?_
  refine lv_bipush (v := 40) hx hb dPu_isFull_4 (by decide) ?_
  refine lv_icmp_lt hx hb dPu_isFull_6 rfl (fun h6 => ?_) (fun h6 => ?_)
  · have hR := hR.trans (if_pos h6)
    refine lv_iconst (v := 0) hx hb dPu_isFull_13 (by decide) ?_
    exact W.zret hx hb hr rfl (fun t ht _ => ⟨by rw [hR]; first | done | rfl, ht⟩) (fun _ h => absurd h List.not_mem_nil) dPu_isFull_14
  · have hR := hR.trans (if_neg h6)
    refine lv_iconst (v := 1) hx hb dPu_isFull_9 (by decide) ?_
    refine lv_goto hx hb dPu_isFull_10 rfl ?_
    exact W.zret hx hb hr rfl (fun t ht _ => ⟨by rw [hR]; first | done | rfl, ht⟩) (fun _ h => absurd h List.not_mem_nil) dPu_isFull_14
theorem dPu_hasWord_0 : decode ccPu_hasWord 0 = .ok (.iload_n 1, 1) := by decide +kernel
theorem dPu_hasWord_1 : decode ccPu_hasWord 1 = .ok (.ifCond .lt 15, 3) := by decide +kernel
theorem dPu_hasWord_4 : decode ccPu_hasWord 4 = .ok (.iload_n 1, 1) := by decide +kernel
theorem dPu_hasWord_5 : decode ccPu_hasWord 5 = .ok (.aload_n 0, 1) := by decide +kernel
theorem dPu_hasWord_6 : decode ccPu_hasWord 6 = .ok (.getfield 13, 3) := by decide +kernel
theorem dPu_hasWord_9 : decode ccPu_hasWord 9 = .ok (.if_icmp .ge 7, 3) := by decide +kernel
theorem dPu_hasWord_12 : decode ccPu_hasWord 12 = .ok (.iconst 1, 1) := by decide +kernel
theorem dPu_hasWord_13 : decode ccPu_hasWord 13 = .ok (.goto 4, 3) := by decide +kernel
theorem dPu_hasWord_16 : decode ccPu_hasWord 16 = .ok (.iconst 0, 1) := by decide +kernel
theorem dPu_hasWord_17 : decode ccPu_hasWord 17 = .ok (.ireturn, 1) := by decide +kernel
def fPu_hasWord (z0 : SC) (i : Int32) : Bool :=
  (if i < 0 then false else (if (c_pcount z0) ≤ i then false else true))
set_option maxHeartbeats 4000000 in
set_option maxRecDepth 100000 in
theorem kPu_hasWord (l : Launch) (D : va_G) (q : Nat → Nat) (cI cJ cZ : ClassId) (hq : c_inj q) (z0 : SC) (i : Int32)  : Met l yPu_hasWord wsPu_hasWord { frames := 0, cells := 0, slots := 0, locals := 0 } (va_Pc [.ref (q 3), .int (i)] (c_C D q cI cJ cZ z0)) (cQr (some (.int (bb (fPu_hasWord z0 i))))) 0 0 (fun _ => False) := by
  refine Met.ofW (cc := ccPu_hasWord) (maxL := 2) (ret := (some .boolean)) (by decide +kernel) rfl ?_
  intro p e s m args below meth c s₁ B hml hv
  obtain ⟨rfl, hP, hK⟩ := hv
  have hx := B.exec
  have hb := B.bytes
  have hr := B.returns
  have hts := atoms_spec (ws := wsPu_hasWord) B.pre
  have hown : s.vm.findClass RPu = some m.cls := findClass_of_methodNamed B.named
  have hlocks := B.notSynchronized
  have w0 := hts (.fieldLink RPu 13 "DrumMachine$Punch" "count" "I") (List.mem_cons_of_mem _ wm1_79)
  have i0 : ∀ w ∈ u_ws RPu TPu 2, w ∈ wsPu_hasWord := fun w h => List.mem_cons_of_mem _ (inAPu w h)
  have hl := lv_entry ([.ref (q 3), .int (i)]) (n := 2) (Nat.le_of_ble_eq_true rfl)
  rw [lg_entry_eq]
  generalize (lg_sl ([.ref (q 3), .int (i)]) ++ List.replicate (2 - (lg_sl ([.ref (q 3), .int (i)])).length) Slot.unset).toArray = ls at hl ⊢
  have hl : lv_has ls 2 [(0, .ref (q 3)), (1, .int (i))] := hl
  have hR := fPu_hasWord.eq_1 z0 i
  refine lv_iload_n hx hb dPu_hasWord_0 rfl (lv_at hl 1 rfl) ?_
  refine lv_if_lt hx hb dPu_hasWord_1 rfl (fun h1 => ?_) (fun h1 => ?_)
  · have hR := hR.trans (if_pos h1)
    refine lv_iconst (v := 0) hx hb dPu_hasWord_16 (by decide) ?_
    exact W.zret hx hb hr rfl (fun t ht _ => ⟨by rw [hR]; first | done | rfl, ht⟩) (fun _ h => absurd h List.not_mem_nil) dPu_hasWord_17
  · have hR := hR.trans (if_neg h1)
    refine lv_iload_n hx hb dPu_hasWord_4 rfl (lv_at hl 1 rfl) ?_
    refine lv_aload_n hx hb dPu_hasWord_5 rfl (lv_at hl 0 rfl) ?_
    refine cg3_count hx hb hts i0 hown hK hP w0 dPu_hasWord_6 ?_
    refine lv_icmp_ge hx hb dPu_hasWord_9 rfl (fun h9 => ?_) (fun h9 => ?_)
    · have hR := hR.trans (if_pos h9)
      refine lv_iconst (v := 0) hx hb dPu_hasWord_16 (by decide) ?_
      exact W.zret hx hb hr rfl (fun t ht _ => ⟨by rw [hR]; first | done | rfl, ht⟩) (fun _ h => absurd h List.not_mem_nil) dPu_hasWord_17
    · have hR := hR.trans (if_neg h9)
      refine lv_iconst (v := 1) hx hb dPu_hasWord_12 (by decide) ?_
      refine lv_goto hx hb dPu_hasWord_13 rfl ?_
      exact W.zret hx hb hr rfl (fun t ht _ => ⟨by rw [hR]; first | done | rfl, ht⟩) (fun _ h => absurd h List.not_mem_nil) dPu_hasWord_17
theorem dPu_wordAt_0 : decode ccPu_wordAt 0 = .ok (.aload_n 0, 1) := by decide +kernel
theorem dPu_wordAt_1 : decode ccPu_wordAt 1 = .ok (.getfield 9, 3) := by decide +kernel
theorem dPu_wordAt_4 : decode ccPu_wordAt 4 = .ok (.iload_n 1, 1) := by decide +kernel
theorem dPu_wordAt_5 : decode ccPu_wordAt 5 = .ok (.laload, 1) := by decide +kernel
theorem dPu_wordAt_6 : decode ccPu_wordAt 6 = .ok (.lreturn, 1) := by decide +kernel
def fPu_wordAt (z0 : SC) (i : Int32) : Int64 :=
  c_words z0 i.toNatClampNeg
set_option maxHeartbeats 4000000 in
set_option maxRecDepth 100000 in
theorem kPu_wordAt (l : Launch) (D : va_G) (q : Nat → Nat) (cI cJ cZ : ClassId) (hq : c_inj q) (z0 : SC) (i : Int32) (hi : vp_in i 40) : Met l yPu_wordAt wsPu_wordAt { frames := 0, cells := 0, slots := 0, locals := 0 } (va_Pc [.ref (q 3), .int (i)] (c_C D q cI cJ cZ z0)) (cQr (some (.long (fPu_wordAt z0 i)))) 0 0 (fun _ => False) := by
  refine Met.ofW (cc := ccPu_wordAt) (maxL := 2) (ret := (some .long)) (by decide +kernel) rfl ?_
  intro p e s m args below meth c s₁ B hml hv
  obtain ⟨rfl, hP, hK⟩ := hv
  have hx := B.exec
  have hb := B.bytes
  have hr := B.returns
  have hts := atoms_spec (ws := wsPu_wordAt) B.pre
  have hown : s.vm.findClass RPu = some m.cls := findClass_of_methodNamed B.named
  have hlocks := B.notSynchronized
  have w0 := hts (.fieldLink RPu 9 "DrumMachine$Punch" "words" "[J") (List.mem_cons_of_mem _ wm1_78)
  have i0 : ∀ w ∈ u_ws RPu TPu 2, w ∈ wsPu_wordAt := fun w h => List.mem_cons_of_mem _ (inAPu w h)
  have hl := lv_entry ([.ref (q 3), .int (i)]) (n := 2) (Nat.le_of_ble_eq_true rfl)
  rw [lg_entry_eq]
  generalize (lg_sl ([.ref (q 3), .int (i)]) ++ List.replicate (2 - (lg_sl ([.ref (q 3), .int (i)])).length) Slot.unset).toArray = ls at hl ⊢
  have hl : lv_has ls 2 [(0, .ref (q 3)), (1, .int (i))] := hl
  have hR := fPu_wordAt.eq_1 z0 i
  refine lv_aload_n hx hb dPu_wordAt_0 rfl (lv_at hl 0 rfl) ?_
  refine cg3_words hx hb hts i0 hown hK hP w0 dPu_wordAt_1 ?_
  refine lv_iload_n hx hb dPu_wordAt_4 rfl (lv_at hl 1 rfl) ?_
  refine cl_words hx hb hK hP hi dPu_wordAt_5 ?_
  exact W.lret hx hb hr (fun t ht _ => ⟨by rw [hR]; first | done | rfl, ht⟩) (fun _ h => absurd h List.not_mem_nil) dPu_wordAt_6
theorem dPu_put_0 : decode ccPu_put 0 = .ok (.aload_n 0, 1) := by decide +kernel
theorem dPu_put_1 : decode ccPu_put 1 = .ok (.getfield 9, 3) := by decide +kernel
theorem dPu_put_4 : decode ccPu_put 4 = .ok (.aload_n 0, 1) := by decide +kernel
theorem dPu_put_5 : decode ccPu_put 5 = .ok (.getfield 13, 3) := by decide +kernel
theorem dPu_put_8 : decode ccPu_put 8 = .ok (.lload_n 1, 1) := by decide +kernel
theorem dPu_put_9 : decode ccPu_put 9 = .ok (.lastore, 1) := by decide +kernel
theorem dPu_put_10 : decode ccPu_put 10 = .ok (.aload_n 0, 1) := by decide +kernel
theorem dPu_put_11 : decode ccPu_put 11 = .ok (.dup, 1) := by decide +kernel
theorem dPu_put_12 : decode ccPu_put 12 = .ok (.getfield 13, 3) := by decide +kernel
theorem dPu_put_15 : decode ccPu_put 15 = .ok (.iconst 1, 1) := by decide +kernel
theorem dPu_put_16 : decode ccPu_put 16 = .ok (.iadd, 1) := by decide +kernel
theorem dPu_put_17 : decode ccPu_put 17 = .ok (.putfield 13, 3) := by decide +kernel
theorem dPu_put_20 : decode ccPu_put 20 = .ok (.return_, 1) := by decide +kernel
def fPu_put (z0 : SC) (v : Int64) : SC :=
  c_pcount_s (c_words_s z0 (vp_updL (c_words z0) ((c_pcount z0).toNatClampNeg) v)) ((c_pcount z0) + 1)
set_option maxHeartbeats 4000000 in
set_option maxRecDepth 100000 in
theorem kPu_put (l : Launch) (D : va_G) (q : Nat → Nat) (cI cJ cZ : ClassId) (hq : c_inj q) (z0 : SC) (v : Int64) (hi : vp_in (c_pcount z0) 40) : Met l yPu_put wsPu_put { frames := 0, cells := 0, slots := 0, locals := 0 } (va_Pc [.ref (q 3), .long (v)] (c_C D q cI cJ cZ z0)) (cQw none (c_W D q cI cJ cZ (fPu_put z0 v)) (c_qs q)) 0 0 (c_qs q) := by
  refine Met.ofW (cc := ccPu_put) (maxL := 3) (ret := none) (by decide +kernel) rfl ?_
  intro p e s m args below meth c s₁ B hml hv
  obtain ⟨rfl, hP, hK⟩ := hv
  have hx := B.exec
  have hb := B.bytes
  have hr := B.returns
  have hts := atoms_spec (ws := wsPu_put) B.pre
  have hown : s.vm.findClass RPu = some m.cls := findClass_of_methodNamed B.named
  have hlocks := B.notSynchronized
  have w0 := hts (.fieldLink RPu 9 "DrumMachine$Punch" "words" "[J") (List.mem_cons_of_mem _ wm1_78)
  have w1 := hts (.fieldLink RPu 13 "DrumMachine$Punch" "count" "I") (List.mem_cons_of_mem _ wm1_79)
  have i0 : ∀ w ∈ u_ws RPu TPu 2, w ∈ wsPu_put := fun w h => List.mem_cons_of_mem _ (inAPu w h)
  have hS : va_S (c_qs q) s.heap s.heap [] := va_S.rf
  have hl := lv_entry ([.ref (q 3), .long (v)]) (n := 3) (Nat.le_of_ble_eq_true rfl)
  rw [lg_entry_eq]
  generalize (lg_sl ([.ref (q 3), .long (v)]) ++ List.replicate (3 - (lg_sl ([.ref (q 3), .long (v)])).length) Slot.unset).toArray = ls at hl ⊢
  have hl : lv_has ls 3 [(0, .ref (q 3)), (1, .long (v))] := hl
  have hR := fPu_put.eq_1 z0 v
  refine lv_aload_n hx hb dPu_put_0 rfl (lv_at hl 0 rfl) ?_
  refine cg3_words hx hb hts i0 hown hK hP w0 dPu_put_1 ?_
  refine lv_aload_n hx hb dPu_put_4 rfl (lv_at hl 0 rfl) ?_
  refine cg3_count hx hb hts i0 hown hK hP w1 dPu_put_5 ?_
  refine lv_lload_n hx hb dPu_put_8 rfl (lv_at hl 1 rfl) ?_
  refine cs_words v hq hS hx hb hK hP hi dPu_put_9 (fun H locs hP hS => ?_)
  refine lv_aload_n hx hb dPu_put_10 rfl (lv_at hl 0 rfl) ?_
  refine lv_dup hx hb dPu_put_11 rfl ?_
  refine cg3_count_e (v := c_pcount z0) ((c_pcount_words _ _).trans (rfl)) hx hb hts i0 hown hK hP w1 dPu_put_12 ?_
  refine lv_iconst (v := 1) hx hb dPu_put_15 (by decide) ?_
  refine lv_iadd hx hb dPu_put_16 ?_
  refine cp3_count ((c_pcount z0) + 1) hq hS hx hb hts i0 hown hK hP w1 dPu_put_17 (fun H locs hP hS => ?_)
  exact W.vret hx hb hr (fun t ht _ => ⟨rfl, by rw [hR, ht]; exact hP, hS.F ht⟩) hS.2.2 dPu_put_20
