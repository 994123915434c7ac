theorem dAr_fill_0 : decode ccAr_fill 0 = .ok (.iconst 0, 1) := by decide +kernel
theorem dAr_fill_1 : decode ccAr_fill 1 = .ok (.istore_n 2, 1) := by decide +kernel
theorem dAr_fill_2 : decode ccAr_fill 2 = .ok (.aload_n 0, 1) := by decide +kernel
theorem dAr_fill_3 : decode ccAr_fill 3 = .ok (.arraylength, 1) := by decide +kernel
theorem dAr_fill_4 : decode ccAr_fill 4 = .ok (.istore_n 3, 1) := by decide +kernel
theorem dAr_fill_5 : decode ccAr_fill 5 = .ok (.iload_n 2, 1) := by decide +kernel
theorem dAr_fill_6 : decode ccAr_fill 6 = .ok (.iload_n 3, 1) := by decide +kernel
theorem dAr_fill_7 : decode ccAr_fill 7 = .ok (.if_icmp .ge 13, 3) := by decide +kernel
theorem dAr_fill_10 : decode ccAr_fill 10 = .ok (.aload_n 0, 1) := by decide +kernel
theorem dAr_fill_11 : decode ccAr_fill 11 = .ok (.iload_n 2, 1) := by decide +kernel
theorem dAr_fill_12 : decode ccAr_fill 12 = .ok (.iload_n 1, 1) := by decide +kernel
theorem dAr_fill_13 : decode ccAr_fill 13 = .ok (.iastore, 1) := by decide +kernel
theorem dAr_fill_14 : decode ccAr_fill 14 = .ok (.iinc 2 1, 3) := by decide +kernel
theorem dAr_fill_17 : decode ccAr_fill 17 = .ok (.goto (-12), 3) := by decide +kernel
theorem dAr_fill_20 : decode ccAr_fill 20 = .ok (.return_, 1) := by decide +kernel
def fAr_fillC_5  : Nat → SC → Int32 → Nat → Nat → SC
  | 0, z, v, v2, v3 => z
  | fu + 1, z, v, v2, v3 => (if v3 ≤ v2 then z else fAr_fillC_5 fu (c_syms_s z (upd (c_syms z) ((nI (v2)).toNatClampNeg) v)) v (v2 + 1) v3)
def fAr_fillC (z0 : SC) (v : Int32) : SC :=
  fAr_fillC_5 21 z0 v 0 20
set_option maxHeartbeats 4000000 in
set_option maxRecDepth 100000 in
theorem kAr_fillC (l : Launch) (D : va_G) (q : Nat → Nat) (cI cJ cZ : ClassId) (hq : c_inj q) (z0 : SC) (v : Int32)  : Met l yAr_fill wsAr_fill { frames := 0, cells := 0, slots := 0, locals := 0 } (va_Pc [.ref (q 20), .int (v)] (c_C D q cI cJ cZ z0)) (cQw none (c_W D q cI cJ cZ (fAr_fillC z0 v)) (c_qs q)) 0 0 (c_qs q) := by
  refine va_MetF (cc := ccAr_fill) (maxL := 4) (ret := none) (by decide +kernel) rfl ?_
  intro p e s m args below meth c s₁ B hml hv
  obtain ⟨rfl, hP, hK⟩ := hv
  have hx := B.exec
  have hb := B.bytes
  have hr := B.returns
  have hts := atoms_spec (ws := wsAr_fill) B.pre
  have hown : s.vm.findClass RAr = some m.cls := findClass_of_methodNamed B.named
  have hlocks := B.notSynchronized
  have hS : va_S (c_qs q) s.heap s.heap [] := va_S.rf
  have hl := lv_entry ([.ref (q 20), .int (v)]) (n := 4) (Nat.le_of_ble_eq_true rfl)
  rw [lg_entry_eq]
  generalize (lg_sl ([.ref (q 20), .int (v)]) ++ List.replicate (4 - (lg_sl ([.ref (q 20), .int (v)])).length) Slot.unset).toArray = ls at hl ⊢
  have hl : lv_has ls 4 [(0, .ref (q 20)), (1, .int (v))] := hl
  have hB5 : ∀ (n5 : Nat) (H : Heap) (locs : List Loc) (ls : Array Slot) (z : SC) (v2 : Nat) (v3 : Nat), 20 - v2 < n5 → fAr_fillC z0 v = fAr_fillC_5 n5 z v v2 v3 → (v2 ≤ 20) → (v3 = 20) → c_W D q cI cJ cZ z H → va_S (c_qs q) s.heap H locs → lv_has ls 4 [(0, .ref (q 20)), (1, .int (v)), (2, .int (nI (v2))), (3, .int (nI (v3)))] → W p l e (headSpec wsAr_fill { frames := 0, cells := 0, slots := 0, locals := 0 }).room s m ([.ref (q 20), .int (v)] : List Value).toArray below meth c H locs 0 0 (MQ below (cQw none (c_W D q cI cJ cZ (fAr_fillC z0 v)) (c_qs q)) ([.ref (q 20), .int (v)] : List Value).toArray s 0 0 (c_qs q)) (F0 m 5 ls []) := by
    intro n5
    induction n5 with
    | zero => intro H locs ls z v2 v3 hn5; exact absurd hn5 (Nat.not_lt_zero _)
    | succ n5 ih5 =>
      intro H locs ls z v2 v3 hn5 hR h2 h3 hP hS hl
      rw [fAr_fillC_5.eq_2] at hR
      refine lv_iload_n hx hb dAr_fill_5 rfl (lv_at hl 2 rfl) ?_
      refine lv_iload_n hx hb dAr_fill_6 rfl (lv_at hl 3 rfl) ?_
      refine wn_ge (x := v2) (y := v3) hx hb (by omega) (by omega) dAr_fill_7 rfl (fun h7 => ?_) (fun h7 => ?_)
      · have hR := hR.trans (if_pos h7)
        exact W.vret hx hb hr (fun t ht _ => ⟨rfl, by rw [hR, ht]; exact hP, hS.F ht⟩) hS.2.2 dAr_fill_20
      · have hR := hR.trans (if_neg h7)
        refine lv_aload_n hx hb dAr_fill_10 rfl (lv_at hl 0 rfl) ?_
        refine lv_iload_n hx hb dAr_fill_11 rfl (lv_at hl 2 rfl) ?_
        refine lv_iload_n hx hb dAr_fill_12 rfl (lv_at hl 1 rfl) ?_
        refine cs_syms v hq hS hx hb hK hP (vp_in_nI (by omega) (by decide)) dAr_fill_13 (fun H locs hP hS => ?_)
        refine lv_iinc (k := 2) (lv' := [(2, .int (nI (v2 + 1))), (0, .ref (q 20)), (1, .int (v)), (3, .int (nI (v3)))]) hx hb dAr_fill_14 hl rfl (nI_1 _) (by decide) rfl (fun ls hl => ?_)
        refine lv_goto hx hb dAr_fill_17 rfl ?_
        exact ih5 H locs ls (c_syms_s z (upd (c_syms z) ((nI (v2)).toNatClampNeg) v)) (v2 + 1) v3 (by omega) hR (by first | assumption | omega) (by first | assumption | omega) hP hS (lv_sub hl [1, 2, 0, 3] rfl)
  have hR := fAr_fillC.eq_1 z0 v
  refine lv_iconst (v := 0) hx hb dAr_fill_0 (by decide) ?_
  refine lv_istore_n (lv' := [(2, .int (nI (0))), (0, .ref (q 20)), (1, .int (v))]) hx hb dAr_fill_1 rfl hl (by decide) rfl (fun ls hl => ?_)
  refine lv_aload_n hx hb dAr_fill_2 rfl (lv_at hl 1 rfl) ?_
  refine va_alen (v := 20) hx hb hK hP 20 0 rfl rfl rfl dAr_fill_3 ?_
  refine lv_istore_n (lv' := [(3, .int (nI (20))), (2, .int (nI (0))), (0, .ref (q 20)), (1, .int (v))]) hx hb dAr_fill_4 rfl hl (by decide) rfl (fun ls hl => ?_)
  exact hB5 21 s.heap [] ls z0 0 20 (by omega) hR (by first | assumption | omega) (by first | assumption | omega) hP hS (lv_sub hl [2, 3, 1, 0] rfl)
theorem dAs_forgetPlaces_0 : decode ccAs_forgetPlaces 0 = .ok (.aload_n 0, 1) := by decide +kernel
theorem dAs_forgetPlaces_1 : decode ccAs_forgetPlaces 1 = .ok (.getfield 31, 3) := by decide +kernel
theorem dAs_forgetPlaces_4 : decode ccAs_forgetPlaces 4 = .ok (.iconst (-1), 1) := by decide +kernel
theorem dAs_forgetPlaces_5 : decode ccAs_forgetPlaces 5 = .ok (.invokestatic 43, 3) := by decide +kernel
theorem dAs_forgetPlaces_8 : decode ccAs_forgetPlaces 8 = .ok (.return_, 1) := by decide +kernel
def fAs_forgetPlaces (z0 : SC)  : SC :=
  fAr_fillC z0 ((-1))
set_option maxHeartbeats 4000000 in
set_option maxRecDepth 100000 in
theorem kAs_forgetPlaces (l : Launch) (D : va_G) (q : Nat → Nat) (cI cJ cZ : ClassId) (hq : c_inj q) (z0 : SC)   : Met l yAs_forgetPlaces wsAs_forgetPlaces { frames := 1, cells := 0, slots := 0, locals := 23 } (va_Pc [.ref (q 6)] (c_C D q cI cJ cZ z0)) (cQw none (c_W D q cI cJ cZ (fAs_forgetPlaces z0)) (c_qs q)) 0 0 (c_qs q) := by
  refine Met.ofW (cc := ccAs_forgetPlaces) (maxL := 1) (ret := none) (by decide +kernel) rfl ?_
  intro p e s m args below meth c s₁ B hml hv
  obtain ⟨rfl, hP, hK⟩ := hv
  have hx := B.exec
  have hb := B.bytes
  have hr := B.returns
  have hts := atoms_spec (ws := wsAs_forgetPlaces) B.pre
  have hown : s.vm.findClass RAs = some m.cls := findClass_of_methodNamed B.named
  have hlocks := B.notSynchronized
  have w0 := hts (.fieldLink RAs 31 "DrumMachine$Assembler" "symbolPlaces" "[I") (List.mem_cons_of_mem _ wm1_152)
  have i0 : ∀ w ∈ u_ws RAs TAs 11, w ∈ wsAs_forgetPlaces := fun w h => List.mem_cons_of_mem _ (inAAs w h)
  have hS : va_S (c_qs q) s.heap s.heap [] := va_S.rf
  have hl := lv_entry ([.ref (q 6)]) (n := 1) (Nat.le_of_ble_eq_true rfl)
  rw [lg_entry_eq]
  generalize (lg_sl ([.ref (q 6)]) ++ List.replicate (1 - (lg_sl ([.ref (q 6)])).length) Slot.unset).toArray = ls at hl ⊢
  have hl : lv_has ls 1 [(0, .ref (q 6))] := hl
  have hR := fAs_forgetPlaces.eq_1 z0
  refine lv_aload_n hx hb dAs_forgetPlaces_0 rfl (lv_at hl 0 rfl) ?_
  refine cg6_symbolPlaces hx hb hts i0 hown hK hP w0 dAs_forgetPlaces_1 ?_
  refine lv_iconst (v := (-1)) hx hb dAs_forgetPlaces_4 (by decide) ?_
  refine cl_wr (W.runS (As := [.ref (q 20), .int ((-1))]) (rest := []) ⟨hx, hb, hml, hown, hts⟩ (kAr_fillC l D q cI cJ cZ hq z0 ((-1))) (va_cwS 2 hts (gS wm1_144 wm1_38 wm1_3 wm1_39) rfl rfl rfl (by decide +kernel) ⟨Nat.le_of_ble_eq_true rfl, Nat.le_of_ble_eq_true rfl⟩) (c_preS hK hP) rfl rfl hl.1 rfl (lv_room (Nat.le_of_ble_eq_true rfl)) dAs_forgetPlaces_5 ⟨Nat.le_refl _, Nat.le_refl _⟩) hS (fun _ h => h) (fun _ h => h) (fun H locs hP hS => ?_)
  exact W.vret hx hb hr (fun t ht _ => ⟨rfl, by rw [hR, ht]; exact hP, hS.F ht⟩) hS.2.2 dAs_forgetPlaces_8
theorem dAs_forgetAll_0 : decode ccAs_forgetAll 0 = .ok (.aload_n 0, 1) := by decide +kernel
theorem dAs_forgetAll_1 : decode ccAs_forgetAll 1 = .ok (.iconst 0, 1) := by decide +kernel
theorem dAs_forgetAll_2 : decode ccAs_forgetAll 2 = .ok (.putfield 64, 3) := by decide +kernel
theorem dAs_forgetAll_5 : decode ccAs_forgetAll 5 = .ok (.iconst 0, 1) := by decide +kernel
theorem dAs_forgetAll_6 : decode ccAs_forgetAll 6 = .ok (.istore_n 1, 1) := by decide +kernel
theorem dAs_forgetAll_7 : decode ccAs_forgetAll 7 = .ok (.iload_n 1, 1) := by decide +kernel
theorem dAs_forgetAll_8 : decode ccAs_forgetAll 8 = .ok (.sipush 200, 3) := by decide +kernel
theorem dAs_forgetAll_11 : decode ccAs_forgetAll 11 = .ok (.if_icmp .ge 16, 3) := by decide +kernel
theorem dAs_forgetAll_14 : decode ccAs_forgetAll 14 = .ok (.aload_n 0, 1) := by decide +kernel
theorem dAs_forgetAll_15 : decode ccAs_forgetAll 15 = .ok (.getfield 36, 3) := by decide +kernel
theorem dAs_forgetAll_18 : decode ccAs_forgetAll 18 = .ok (.iload_n 1, 1) := by decide +kernel
theorem dAs_forgetAll_19 : decode ccAs_forgetAll 19 = .ok (.iconst 0, 1) := by decide +kernel
theorem dAs_forgetAll_20 : decode ccAs_forgetAll 20 = .ok (.bastore, 1) := by decide +kernel
theorem dAs_forgetAll_21 : decode ccAs_forgetAll 21 = .ok (.iinc 1 1, 3) := by decide +kernel
theorem dAs_forgetAll_24 : decode ccAs_forgetAll 24 = .ok (.goto (-17), 3) := by decide +kernel
theorem dAs_forgetAll_27 : decode ccAs_forgetAll 27 = .ok (.aload_n 0, 1) := by decide +kernel
theorem dAs_forgetAll_28 : decode ccAs_forgetAll 28 = .ok (.invokevirtual 68, 3) := by decide +kernel
theorem dAs_forgetAll_31 : decode ccAs_forgetAll 31 = .ok (.return_, 1) := by decide +kernel
def fAs_forgetAll_7  : Nat → SC → Nat → SC
  | 0, z, v1 => z
  | fu + 1, z, v1 => (if 200 ≤ v1 then fAs_forgetPlaces z else fAs_forgetAll_7 fu (c_resv_s z (updB (c_resv z) ((nI (v1)).toNatClampNeg) false)) (v1 + 1))
def fAs_forgetAll (z0 : SC)  : SC :=
  fAs_forgetAll_7 201 (c_acount_s z0 0) 0
set_option maxHeartbeats 4000000 in
set_option maxRecDepth 100000 in
theorem kAs_forgetAll (l : Launch) (D : va_G) (q : Nat → Nat) (cI cJ cZ : ClassId) (hq : c_inj q) (z0 : SC)   : Met l yAs_forgetAll wsAs_forgetAll { frames := 2, cells := 0, slots := 0, locals := 43 } (va_Pc [.ref (q 6)] (c_C D q cI cJ cZ z0)) (cQw none (c_W D q cI cJ cZ (fAs_forgetAll z0)) (c_qs q)) 0 0 (c_qs q) := by
  refine Met.ofW (cc := ccAs_forgetAll) (maxL := 2) (ret := none) (by decide +kernel) rfl ?_
  intro p e s m args below meth c s₁ B hml hv
  obtain ⟨rfl, hP, hK⟩ := hv
  have hx := B.exec
  have hb := B.bytes
  have hr := B.returns
  have hts := atoms_spec (ws := wsAs_forgetAll) B.pre
  have hown : s.vm.findClass RAs = some m.cls := findClass_of_methodNamed B.named
  have hlocks := B.notSynchronized
  have w0 := hts (.fieldLink RAs 36 "DrumMachine$Assembler" "reserved" "[Z") (List.mem_cons_of_mem _ wm1_153)
  have w1 := hts (.fieldLink RAs 64 "DrumMachine$Assembler" "count" "I") (List.mem_cons_of_mem _ wm1_155)
  have i0 : ∀ w ∈ u_ws RAs TAs 11, w ∈ wsAs_forgetAll := fun w h => List.mem_cons_of_mem _ (inAAs w h)
  have hS : va_S (c_qs q) s.heap s.heap [] := va_S.rf
  have hl := lv_entry ([.ref (q 6)]) (n := 2) (Nat.le_of_ble_eq_true rfl)
  rw [lg_entry_eq]
  generalize (lg_sl ([.ref (q 6)]) ++ List.replicate (2 - (lg_sl ([.ref (q 6)])).length) Slot.unset).toArray = ls at hl ⊢
  have hl : lv_has ls 2 [(0, .ref (q 6))] := hl
  have hB7 : ∀ (n7 : Nat) (H : Heap) (locs : List Loc) (ls : Array Slot) (z : SC) (v1 : Nat), 200 - v1 < n7 → fAs_forgetAll z0 = fAs_forgetAll_7 n7 z v1 → (v1 ≤ 200) → c_W D q cI cJ cZ z H → va_S (c_qs q) s.heap H locs → lv_has ls 2 [(0, .ref (q 6)), (1, .int (nI (v1)))] → W p l e (headSpec wsAs_forgetAll { frames := 2, cells := 0, slots := 0, locals := 43 }).room s m ([.ref (q 6)] : List Value).toArray below meth c H locs 0 0 (MQ below (cQw none (c_W D q cI cJ cZ (fAs_forgetAll z0)) (c_qs q)) ([.ref (q 6)] : List Value).toArray s 0 0 (c_qs q)) (F0 m 7 ls []) := by
    intro n7
    induction n7 with
    | zero => intro H locs ls z v1 hn7; exact absurd hn7 (Nat.not_lt_zero _)
    | succ n7 ih7 =>
      intro H locs ls z v1 hn7 hR h1 hP hS hl
      rw [fAs_forgetAll_7.eq_2] at hR
      refine lv_iload_n hx hb dAs_forgetAll_7 rfl (lv_at hl 1 rfl) ?_
      refine lv_sipush (v := 200) hx hb dAs_forgetAll_8 (by decide) ?_
      refine wn_ge (x := v1) (y := 200) hx hb (by omega) (by omega) dAs_forgetAll_11 rfl (fun h11 => ?_) (fun h11 => ?_)
      · have hR := hR.trans (if_pos h11)
        refine lv_aload_n hx hb dAs_forgetAll_27 rfl (lv_at hl 0 rfl) ?_
        refine cl_wr (W.runV (As := []) (rest := []) ⟨hx, hb, hml, hown, hts⟩ (kAs_forgetPlaces l D q cI cJ cZ hq z) (cwV 0 hts (gV wm1_203 wm1_205 ws1_0 wm1_8 wm1_206) rfl rfl rfl (by decide +kernel) ⟨Nat.le_of_ble_eq_true rfl, Nat.le_of_ble_eq_true rfl⟩) (c_preV6 hK hP) rfl rfl hl.1 rfl (lv_room (Nat.le_of_ble_eq_true rfl)) dAs_forgetAll_28 ⟨Nat.le_refl _, Nat.le_refl _⟩) hS (fun _ h => h) (fun _ h => h) (fun H locs hP hS => ?_)
        exact W.vret hx hb hr (fun t ht _ => ⟨rfl, by rw [hR, ht]; exact hP, hS.F ht⟩) hS.2.2 dAs_forgetAll_31
      · have hR := hR.trans (if_neg h11)
        refine lv_aload_n hx hb dAs_forgetAll_14 rfl (lv_at hl 0 rfl) ?_
        refine cg6_reserved hx hb hts i0 hown hK hP w0 dAs_forgetAll_15 ?_
        refine lv_iload_n hx hb dAs_forgetAll_18 rfl (lv_at hl 1 rfl) ?_
        refine lv_iconst (v := 0) hx hb dAs_forgetAll_19 (by decide) ?_
        refine cs_resv false hq hS hx hb hK hP (vp_in_nI (by omega) (by decide)) dAs_forgetAll_20 (fun H locs hP hS => ?_)
        refine lv_iinc (k := 1) (lv' := [(1, .int (nI (v1 + 1))), (0, .ref (q 6))]) hx hb dAs_forgetAll_21 hl rfl (nI_1 _) (by decide) rfl (fun ls hl => ?_)
        refine lv_goto hx hb dAs_forgetAll_24 rfl ?_
        exact ih7 H locs ls (c_resv_s z (updB (c_resv z) ((nI (v1)).toNatClampNeg) false)) (v1 + 1) (by omega) hR (by first | assumption | omega) hP hS (lv_sub hl [1, 0] rfl)
  have hR := fAs_forgetAll.eq_1 z0
  refine lv_aload_n hx hb dAs_forgetAll_0 rfl (lv_at hl 0 rfl) ?_
  refine lv_iconst (v := 0) hx hb dAs_forgetAll_1 (by decide) ?_
  refine cp6_count 0 hq hS hx hb hts i0 hown hK hP w1 dAs_forgetAll_2 (fun H locs hP hS => ?_)
  refine lv_iconst (v := 0) hx hb dAs_forgetAll_5 (by decide) ?_
  refine lv_istore_n (lv' := [(1, .int (nI (0))), (0, .ref (q 6))]) hx hb dAs_forgetAll_6 rfl hl (by decide) rfl (fun ls hl => ?_)
  exact hB7 201 H locs ls (c_acount_s z0 0) 0 (by omega) hR (by first | assumption | omega) hP hS (lv_sub hl [1, 0] rfl)
theorem dAs_isLocationOfEarlierLine_0 : decode ccAs_isLocationOfEarlierLine 0 = .ok (.iconst 0, 1) := by decide +kernel
theorem dAs_isLocationOfEarlierLine_1 : decode ccAs_isLocationOfEarlierLine 1 = .ok (.istore_n 2, 1) := by decide +kernel
theorem dAs_isLocationOfEarlierLine_2 : decode ccAs_isLocationOfEarlierLine 2 = .ok (.iload_n 2, 1) := by decide +kernel
theorem dAs_isLocationOfEarlierLine_3 : decode ccAs_isLocationOfEarlierLine 3 = .ok (.iload_n 1, 1) := by decide +kernel
theorem dAs_isLocationOfEarlierLine_4 : decode ccAs_isLocationOfEarlierLine 4 = .ok (.if_icmp .ge 26, 3) := by decide +kernel
theorem dAs_isLocationOfEarlierLine_7 : decode ccAs_isLocationOfEarlierLine 7 = .ok (.aload_n 0, 1) := by decide +kernel
theorem dAs_isLocationOfEarlierLine_8 : decode ccAs_isLocationOfEarlierLine 8 = .ok (.getfield 22, 3) := by decide +kernel
theorem dAs_isLocationOfEarlierLine_11 : decode ccAs_isLocationOfEarlierLine 11 = .ok (.iload_n 2, 1) := by decide +kernel
theorem dAs_isLocationOfEarlierLine_12 : decode ccAs_isLocationOfEarlierLine 12 = .ok (.iaload, 1) := by decide +kernel
theorem dAs_isLocationOfEarlierLine_13 : decode ccAs_isLocationOfEarlierLine 13 = .ok (.aload_n 0, 1) := by decide +kernel
theorem dAs_isLocationOfEarlierLine_14 : decode ccAs_isLocationOfEarlierLine 14 = .ok (.getfield 22, 3) := by decide +kernel
theorem dAs_isLocationOfEarlierLine_17 : decode ccAs_isLocationOfEarlierLine 17 = .ok (.iload_n 1, 1) := by decide +kernel
theorem dAs_isLocationOfEarlierLine_18 : decode ccAs_isLocationOfEarlierLine 18 = .ok (.iaload, 1) := by decide +kernel
theorem dAs_isLocationOfEarlierLine_19 : decode ccAs_isLocationOfEarlierLine 19 = .ok (.if_icmp .ne 5, 3) := by decide +kernel
theorem dAs_isLocationOfEarlierLine_22 : decode ccAs_isLocationOfEarlierLine 22 = .ok (.iconst 1, 1) := by decide +kernel
theorem dAs_isLocationOfEarlierLine_23 : decode ccAs_isLocationOfEarlierLine 23 = .ok (.ireturn, 1) := by decide +kernel
theorem dAs_isLocationOfEarlierLine_24 : decode ccAs_isLocationOfEarlierLine 24 = .ok (.iinc 2 1, 3) := by decide +kernel
theorem dAs_isLocationOfEarlierLine_27 : decode ccAs_isLocationOfEarlierLine 27 = .ok (.goto (-25), 3) := by decide +kernel
theorem dAs_isLocationOfEarlierLine_30 : decode ccAs_isLocationOfEarlierLine 30 = .ok (.iconst 0, 1) := by decide +kernel
theorem dAs_isLocationOfEarlierLine_31 : decode ccAs_isLocationOfEarlierLine 31 = .ok (.ireturn, 1) := by decide +kernel
def fAs_isLocationOfEarlierLine_2  : Nat → SC → Int32 → Nat → Bool
  | 0, z0, a, v2 => false
  | fu + 1, z0, a, v2 => (if a ≤ (nI (v2)) then false else (if (c_locs z0 ((nI (v2)).toNatClampNeg)) = (c_locs z0 a.toNatClampNeg) then true else fAs_isLocationOfEarlierLine_2 fu z0 a (v2 + 1)))
def fAs_isLocationOfEarlierLine (z0 : SC) (a : Int32) : Bool :=
  fAs_isLocationOfEarlierLine_2 41 z0 a 0
set_option maxHeartbeats 4000000 in
set_option maxRecDepth 100000 in
theorem kAs_isLocationOfEarlierLine (l : Launch) (D : va_G) (q : Nat → Nat) (cI cJ cZ : ClassId) (hq : c_inj q) (z0 : SC) (a : Int32) (ha : vp_in a 40) : Met l yAs_isLocationOfEarlierLine wsAs_isLocationOfEarlierLine { frames := 0, cells := 0, slots := 0, locals := 0 } (va_Pc [.ref (q 6), .int (a)] (c_C D q cI cJ cZ z0)) (cQr (some (.int (bb (fAs_isLocationOfEarlierLine z0 a))))) 0 0 (fun _ => False) := by
  refine Met.ofW (cc := ccAs_isLocationOfEarlierLine) (maxL := 3) (ret := (some .boolean)) (by decide +kernel) rfl ?_
  intro p e s m args below meth c s₁ B hml hv
  obtain ⟨rfl, hP, hK⟩ := hv
  have hx := B.exec
  have hb := B.bytes
  have hr := B.returns
  have hts := atoms_spec (ws := wsAs_isLocationOfEarlierLine) B.pre
  have hown : s.vm.findClass RAs = some m.cls := findClass_of_methodNamed B.named
  have hlocks := B.notSynchronized
  have w0 := hts (.fieldLink RAs 22 "DrumMachine$Assembler" "locations" "[I") (List.mem_cons_of_mem _ wm1_149)
  have i0 : ∀ w ∈ u_ws RAs TAs 11, w ∈ wsAs_isLocationOfEarlierLine := fun w h => List.mem_cons_of_mem _ (inAAs w h)
  have hl := lv_entry ([.ref (q 6), .int (a)]) (n := 3) (Nat.le_of_ble_eq_true rfl)
  rw [lg_entry_eq]
  generalize (lg_sl ([.ref (q 6), .int (a)]) ++ List.replicate (3 - (lg_sl ([.ref (q 6), .int (a)])).length) Slot.unset).toArray = ls at hl ⊢
  have hl : lv_has ls 3 [(0, .ref (q 6)), (1, .int (a))] := hl
  have hB2 : ∀ (n2 : Nat) (ls : Array Slot) (v2 : Nat), 40 - v2 < n2 → fAs_isLocationOfEarlierLine z0 a = fAs_isLocationOfEarlierLine_2 n2 z0 a v2 → (v2 ≤ 40) → lv_has ls 3 [(0, .ref (q 6)), (1, .int (a)), (2, .int (nI (v2)))] → W p l e (headSpec wsAs_isLocationOfEarlierLine { frames := 0, cells := 0, slots := 0, locals := 0 }).room s m ([.ref (q 6), .int (a)] : List Value).toArray below meth c s.heap [] 0 0 (MQ below (cQr (some (.int (bb (fAs_isLocationOfEarlierLine z0 a))))) ([.ref (q 6), .int (a)] : List Value).toArray s 0 0 (fun _ => False)) (F0 m 2 ls []) := by
    intro n2
    induction n2 with
    | zero => intro ls v2 hn2; exact absurd hn2 (Nat.not_lt_zero _)
    | succ n2 ih2 =>
      intro ls v2 hn2 hR h2 hl
      rw [fAs_isLocationOfEarlierLine_2.eq_2] at hR
      refine lv_iload_n hx hb dAs_isLocationOfEarlierLine_2 rfl (lv_at hl 2 rfl) ?_
      refine lv_iload_n hx hb dAs_isLocationOfEarlierLine_3 rfl (lv_at hl 1 rfl) ?_
      refine lv_icmp_ge hx hb dAs_isLocationOfEarlierLine_4 rfl (fun h4 => ?_) (fun h4 => ?_)
      · have hR := hR.trans (if_pos h4)
        refine lv_iconst (v := 0) hx hb dAs_isLocationOfEarlierLine_30 (by decide) ?_
        exact W.zret hx hb hr rfl (fun t ht _ => ⟨by rw [hR]; first | done | rfl, ht⟩) (fun _ h => absurd h List.not_mem_nil) dAs_isLocationOfEarlierLine_31
      · have hR := hR.trans (if_neg h4)
        refine lv_aload_n hx hb dAs_isLocationOfEarlierLine_7 rfl (lv_at hl 0 rfl) ?_
        refine cg6_locations hx hb hts i0 hown hK hP w0 dAs_isLocationOfEarlierLine_8 ?_
        refine lv_iload_n hx hb dAs_isLocationOfEarlierLine_11 rfl (lv_at hl 2 rfl) ?_
        refine cl_locs hx hb hK hP (el_in ha h4 h2) dAs_isLocationOfEarlierLine_12 ?_
        refine lv_aload_n hx hb dAs_isLocationOfEarlierLine_13 rfl (lv_at hl 0 rfl) ?_
        refine cg6_locations hx hb hts i0 hown hK hP w0 dAs_isLocationOfEarlierLine_14 ?_
        refine lv_iload_n hx hb dAs_isLocationOfEarlierLine_17 rfl (lv_at hl 1 rfl) ?_
        refine cl_locs hx hb hK hP ha dAs_isLocationOfEarlierLine_18 ?_
        refine lv_icmp_ne hx hb dAs_isLocationOfEarlierLine_19 rfl (fun h19 => ?_) (fun h19 => ?_)
        · have hR := hR.trans (if_neg h19)
          refine lv_iinc (k := 2) (lv' := [(2, .int (nI (v2 + 1))), (0, .ref (q 6)), (1, .int (a))]) hx hb dAs_isLocationOfEarlierLine_24 hl rfl (nI_1 _) (by decide) rfl (fun ls hl => ?_)
          refine lv_goto hx hb dAs_isLocationOfEarlierLine_27 rfl ?_
          exact ih2 ls (v2 + 1) (el_m ha h4 h2 hn2) hR (el_b ha h4 h2) (lv_sub hl [1, 2, 0] rfl)
        · have hR := hR.trans (if_pos h19)
          refine lv_iconst (v := 1) hx hb dAs_isLocationOfEarlierLine_22 (by decide) ?_
          exact W.zret hx hb hr rfl (fun t ht _ => ⟨by rw [hR]; first | done | rfl, ht⟩) (fun _ h => absurd h List.not_mem_nil) dAs_isLocationOfEarlierLine_23
  have hR := fAs_isLocationOfEarlierLine.eq_1 z0 a
  refine lv_iconst (v := 0) hx hb dAs_isLocationOfEarlierLine_0 (by decide) ?_
  refine lv_istore_n (lv' := [(2, .int (nI (0))), (0, .ref (q 6)), (1, .int (a))]) hx hb dAs_isLocationOfEarlierLine_1 rfl hl (by decide) rfl (fun ls hl => ?_)
  exact hB2 41 ls 0 (by omega) hR (by first | assumption | omega) (lv_sub hl [1, 2, 0] rfl)
theorem dAs_markTaken_0 : decode ccAs_markTaken 0 = .ok (.iconst 0, 1) := by decide +kernel
theorem dAs_markTaken_1 : decode ccAs_markTaken 1 = .ok (.istore_n 1, 1) := by decide +kernel
theorem dAs_markTaken_2 : decode ccAs_markTaken 2 = .ok (.iload_n 1, 1) := by decide +kernel
theorem dAs_markTaken_3 : decode ccAs_markTaken 3 = .ok (.sipush 200, 3) := by decide +kernel
theorem dAs_markTaken_6 : decode ccAs_markTaken 6 = .ok (.if_icmp .ge 21, 3) := by decide +kernel
theorem dAs_markTaken_9 : decode ccAs_markTaken 9 = .ok (.aload_n 0, 1) := by decide +kernel
theorem dAs_markTaken_10 : decode ccAs_markTaken 10 = .ok (.getfield 40, 3) := by decide +kernel
theorem dAs_markTaken_13 : decode ccAs_markTaken 13 = .ok (.iload_n 1, 1) := by decide +kernel
theorem dAs_markTaken_14 : decode ccAs_markTaken 14 = .ok (.aload_n 0, 1) := by decide +kernel
theorem dAs_markTaken_15 : decode ccAs_markTaken 15 = .ok (.getfield 36, 3) := by decide +kernel
theorem dAs_markTaken_18 : decode ccAs_markTaken 18 = .ok (.iload_n 1, 1) := by decide +kernel
theorem dAs_markTaken_19 : decode ccAs_markTaken 19 = .ok (.baload, 1) := by decide +kernel
theorem dAs_markTaken_20 : decode ccAs_markTaken 20 = .ok (.bastore, 1) := by decide +kernel
theorem dAs_markTaken_21 : decode ccAs_markTaken 21 = .ok (.iinc 1 1, 3) := by decide +kernel
theorem dAs_markTaken_24 : decode ccAs_markTaken 24 = .ok (.goto (-22), 3) := by decide +kernel
theorem dAs_markTaken_27 : decode ccAs_markTaken 27 = .ok (.iconst 0, 1) := by decide +kernel
theorem dAs_markTaken_28 : decode ccAs_markTaken 28 = .ok (.istore_n 1, 1) := by decide +kernel
theorem dAs_markTaken_29 : decode ccAs_markTaken 29 = .ok (.iload_n 1, 1) := by decide +kernel
theorem dAs_markTaken_30 : decode ccAs_markTaken 30 = .ok (.aload_n 0, 1) := by decide +kernel
theorem dAs_markTaken_31 : decode ccAs_markTaken 31 = .ok (.getfield 64, 3) := by decide +kernel
theorem dAs_markTaken_34 : decode ccAs_markTaken 34 = .ok (.if_icmp .ge 51, 3) := by decide +kernel
theorem dAs_markTaken_37 : decode ccAs_markTaken 37 = .ok (.aload_n 0, 1) := by decide +kernel
theorem dAs_markTaken_38 : decode ccAs_markTaken 38 = .ok (.aload_n 0, 1) := by decide +kernel
theorem dAs_markTaken_39 : decode ccAs_markTaken 39 = .ok (.getfield 9, 3) := by decide +kernel
theorem dAs_markTaken_42 : decode ccAs_markTaken 42 = .ok (.iload_n 1, 1) := by decide +kernel
theorem dAs_markTaken_43 : decode ccAs_markTaken 43 = .ok (.iaload, 1) := by decide +kernel
theorem dAs_markTaken_44 : decode ccAs_markTaken 44 = .ok (.invokevirtual 91, 3) := by decide +kernel
theorem dAs_markTaken_47 : decode ccAs_markTaken 47 = .ok (.aload_n 0, 1) := by decide +kernel
theorem dAs_markTaken_48 : decode ccAs_markTaken 48 = .ok (.aload_n 0, 1) := by decide +kernel
theorem dAs_markTaken_49 : decode ccAs_markTaken 49 = .ok (.getfield 19, 3) := by decide +kernel
theorem dAs_markTaken_52 : decode ccAs_markTaken 52 = .ok (.iload_n 1, 1) := by decide +kernel
theorem dAs_markTaken_53 : decode ccAs_markTaken 53 = .ok (.iaload, 1) := by decide +kernel
theorem dAs_markTaken_54 : decode ccAs_markTaken 54 = .ok (.invokevirtual 91, 3) := by decide +kernel
theorem dAs_markTaken_57 : decode ccAs_markTaken 57 = .ok (.aload_n 0, 1) := by decide +kernel
theorem dAs_markTaken_58 : decode ccAs_markTaken 58 = .ok (.getfield 13, 3) := by decide +kernel
theorem dAs_markTaken_61 : decode ccAs_markTaken 61 = .ok (.iload_n 1, 1) := by decide +kernel
theorem dAs_markTaken_62 : decode ccAs_markTaken 62 = .ok (.iaload, 1) := by decide +kernel
theorem dAs_markTaken_63 : decode ccAs_markTaken 63 = .ok (.invokestatic 56, 3) := by decide +kernel
theorem dAs_markTaken_66 : decode ccAs_markTaken 66 = .ok (.ifCond .ne 13, 3) := by decide +kernel
theorem dAs_markTaken_69 : decode ccAs_markTaken 69 = .ok (.aload_n 0, 1) := by decide +kernel
theorem dAs_markTaken_70 : decode ccAs_markTaken 70 = .ok (.aload_n 0, 1) := by decide +kernel
theorem dAs_markTaken_71 : decode ccAs_markTaken 71 = .ok (.getfield 16, 3) := by decide +kernel
theorem dAs_markTaken_74 : decode ccAs_markTaken 74 = .ok (.iload_n 1, 1) := by decide +kernel
theorem dAs_markTaken_75 : decode ccAs_markTaken 75 = .ok (.iaload, 1) := by decide +kernel
theorem dAs_markTaken_76 : decode ccAs_markTaken 76 = .ok (.invokevirtual 91, 3) := by decide +kernel
theorem dAs_markTaken_79 : decode ccAs_markTaken 79 = .ok (.iinc 1 1, 3) := by decide +kernel
theorem dAs_markTaken_82 : decode ccAs_markTaken 82 = .ok (.goto (-53), 3) := by decide +kernel
theorem dAs_markTaken_85 : decode ccAs_markTaken 85 = .ok (.return_, 1) := by decide +kernel
def fAs_markTaken_29  : Nat → SC → Nat → SC
  | 0, z, v1 => z
  | fu + 1, z, v1 => (if (c_acount z) ≤ (nI (v1)) then z else (if (fOp_shifts (c_ops (fAs_takeIfAddress (fAs_takeIfAddress z (c_lparts z ((nI (v1)).toNatClampNeg))) (c_nparts (fAs_takeIfAddress z (c_lparts z ((nI (v1)).toNatClampNeg))) ((nI (v1)).toNatClampNeg))) ((nI (v1)).toNatClampNeg))) = true then fAs_markTaken_29 fu (fAs_takeIfAddress (fAs_takeIfAddress z (c_lparts z ((nI (v1)).toNatClampNeg))) (c_nparts (fAs_takeIfAddress z (c_lparts z ((nI (v1)).toNatClampNeg))) ((nI (v1)).toNatClampNeg))) (v1 + 1) else fAs_markTaken_29 fu (fAs_takeIfAddress (fAs_takeIfAddress (fAs_takeIfAddress z (c_lparts z ((nI (v1)).toNatClampNeg))) (c_nparts (fAs_takeIfAddress z (c_lparts z ((nI (v1)).toNatClampNeg))) ((nI (v1)).toNatClampNeg))) (c_dparts (fAs_takeIfAddress (fAs_takeIfAddress z (c_lparts z ((nI (v1)).toNatClampNeg))) (c_nparts (fAs_takeIfAddress z (c_lparts z ((nI (v1)).toNatClampNeg))) ((nI (v1)).toNatClampNeg))) ((nI (v1)).toNatClampNeg))) (v1 + 1)))
def fAs_markTaken_2  : Nat → SC → Nat → SC
  | 0, z, v1 => z
  | fu + 1, z, v1 => (if 200 ≤ v1 then fAs_markTaken_29 41 z 0 else fAs_markTaken_2 fu (c_taken_s z (updB (c_taken z) ((nI (v1)).toNatClampNeg) (c_resv z ((nI (v1)).toNatClampNeg)))) (v1 + 1))
def fAs_markTaken (z0 : SC)  : SC :=
  fAs_markTaken_2 201 z0 0
set_option maxHeartbeats 4000000 in
set_option maxRecDepth 100000 in
theorem kAs_markTaken (l : Launch) (D : va_G) (q : Nat → Nat) (cI cJ cZ : ClassId) (hq : c_inj q) (z0 : SC)  (hn9 : 0 ≤ (c_acount z0).toInt ∧ (c_acount z0).toInt ≤ 40) : Met l yAs_markTaken wsAs_markTaken { frames := 3, cells := 0, slots := 0, locals := 60 } (va_Pc [.ref (q 6)] (c_C D q cI cJ cZ z0)) (cQw none (c_W D q cI cJ cZ (fAs_markTaken z0)) (c_qs q)) 0 0 (c_qs q) := by
  refine Met.ofW (cc := ccAs_markTaken) (maxL := 2) (ret := none) (by decide +kernel) rfl ?_
  intro p e s m args below meth c s₁ B hml hv
  obtain ⟨rfl, hP, hK⟩ := hv
  have hx := B.exec
  have hb := B.bytes
  have hr := B.returns
  have hts := atoms_spec (ws := wsAs_markTaken) B.pre
  have hown : s.vm.findClass RAs = some m.cls := findClass_of_methodNamed B.named
  have hlocks := B.notSynchronized
  have w0 := hts (.fieldLink RAs 64 "DrumMachine$Assembler" "count" "I") (List.mem_cons_of_mem _ wm1_155)
  have w1 := hts (.fieldLink RAs 9 "DrumMachine$Assembler" "locationParts" "[I") (List.mem_cons_of_mem _ wm1_145)
  have w2 := hts (.fieldLink RAs 19 "DrumMachine$Assembler" "nextParts" "[I") (List.mem_cons_of_mem _ wm1_148)
  have w3 := hts (.fieldLink RAs 13 "DrumMachine$Assembler" "operations" "[I") (List.mem_cons_of_mem _ wm1_146)
  have w4 := hts (.fieldLink RAs 16 "DrumMachine$Assembler" "dataParts" "[I") (List.mem_cons_of_mem _ wm1_147)
  have w5 := hts (.fieldLink RAs 40 "DrumMachine$Assembler" "taken" "[Z") (List.mem_cons_of_mem _ wm1_154)
  have w6 := hts (.fieldLink RAs 36 "DrumMachine$Assembler" "reserved" "[Z") (List.mem_cons_of_mem _ wm1_153)
  have i0 : ∀ w ∈ u_ws RAs TAs 11, w ∈ wsAs_markTaken := fun w h => List.mem_cons_of_mem _ (inAAs w h)
  have hS : va_S (c_qs q) s.heap s.heap [] := va_S.rf
  have hl := lv_entry ([.ref (q 6)]) (n := 2) (Nat.le_of_ble_eq_true rfl)
  rw [lg_entry_eq]
  generalize (lg_sl ([.ref (q 6)]) ++ List.replicate (2 - (lg_sl ([.ref (q 6)])).length) Slot.unset).toArray = ls at hl ⊢
  have hl : lv_has ls 2 [(0, .ref (q 6))] := hl
  have hB29 : ∀ (n29 : Nat) (H : Heap) (locs : List Loc) (ls : Array Slot) (z : SC) (v1 : Nat), 40 - v1 < n29 → fAs_markTaken z0 = fAs_markTaken_29 n29 z v1 → (v1 ≤ 40) → (0 ≤ (c_acount z).toInt ∧ (c_acount z).toInt ≤ 40) → c_W D q cI cJ cZ z H → va_S (c_qs q) s.heap H locs → lv_has ls 2 [(0, .ref (q 6)), (1, .int (nI (v1)))] → W p l e (headSpec wsAs_markTaken { frames := 3, cells := 0, slots := 0, locals := 60 }).room s m ([.ref (q 6)] : List Value).toArray below meth c H locs 0 0 (MQ below (cQw none (c_W D q cI cJ cZ (fAs_markTaken z0)) (c_qs q)) ([.ref (q 6)] : List Value).toArray s 0 0 (c_qs q)) (F0 m 29 ls []) := by
    intro n29
    induction n29 with
    | zero => intro H locs ls z v1 hn29; exact absurd hn29 (Nat.not_lt_zero _)
    | succ n29 ih29 =>
      intro H locs ls z v1 hn29 hR h1 hn9 hP hS hl
      rw [fAs_markTaken_29.eq_2] at hR
      refine lv_iload_n hx hb dAs_markTaken_29 rfl (lv_at hl 1 rfl) ?_
      refine lv_aload_n hx hb dAs_markTaken_30 rfl (lv_at hl 0 rfl) ?_
      refine cg6_count hx hb hts i0 hown hK hP w0 dAs_markTaken_31 ?_
      refine lv_icmp_ge hx hb dAs_markTaken_34 rfl (fun h34 => ?_) (fun h34 => ?_)
      · have hR := hR.trans (if_pos h34)
        exact W.vret hx hb hr (fun t ht _ => ⟨rfl, by rw [hR, ht]; exact hP, hS.F ht⟩) hS.2.2 dAs_markTaken_85
      · have hR := hR.trans (if_neg h34)
        refine lv_aload_n hx hb dAs_markTaken_37 rfl (lv_at hl 0 rfl) ?_
        refine lv_aload_n hx hb dAs_markTaken_38 rfl (lv_at hl 0 rfl) ?_
        refine cg6_locationParts hx hb hts i0 hown hK hP w1 dAs_markTaken_39 ?_
        refine lv_iload_n hx hb dAs_markTaken_42 rfl (lv_at hl 1 rfl) ?_
        refine cl_lparts hx hb hK hP (mt_in hn9 h34 h1) dAs_markTaken_43 ?_
        refine cl_wr (W.runV (As := [.int ((c_lparts z ((nI (v1)).toNatClampNeg)))]) (rest := []) ⟨hx, hb, hml, hown, hts⟩ (kAs_takeIfAddress l D q cI cJ cZ hq z (c_lparts z ((nI (v1)).toNatClampNeg))) (cwV 1 hts (gV wm3_3 wm3_5 ws1_4 wm1_8 wm3_6) rfl rfl rfl (by decide +kernel) ⟨Nat.le_of_ble_eq_true rfl, Nat.le_of_ble_eq_true rfl⟩) (c_preV6 hK hP) rfl rfl hl.1 rfl (lv_room (Nat.le_of_ble_eq_true rfl)) dAs_markTaken_44 ⟨Nat.le_refl _, Nat.le_refl _⟩) hS (fun _ h => h) (fun _ h => h) (fun H locs hP hS => ?_)
        refine lv_aload_n hx hb dAs_markTaken_47 rfl (lv_at hl 0 rfl) ?_
        refine lv_aload_n hx hb dAs_markTaken_48 rfl (lv_at hl 0 rfl) ?_
        refine cg6_nextParts hx hb hts i0 hown hK hP w2 dAs_markTaken_49 ?_
        refine lv_iload_n hx hb dAs_markTaken_52 rfl (lv_at hl 1 rfl) ?_
        refine cl_nparts hx hb hK hP (mt_in hn9 h34 h1) dAs_markTaken_53 ?_
        refine cl_wr (W.runV (As := [.int ((c_nparts (fAs_takeIfAddress z (c_lparts z ((nI (v1)).toNatClampNeg))) ((nI (v1)).toNatClampNeg)))]) (rest := []) ⟨hx, hb, hml, hown, hts⟩ (kAs_takeIfAddress l D q cI cJ cZ hq (fAs_takeIfAddress z (c_lparts z ((nI (v1)).toNatClampNeg))) (c_nparts (fAs_takeIfAddress z (c_lparts z ((nI (v1)).toNatClampNeg))) ((nI (v1)).toNatClampNeg))) (cwV 1 hts (gV wm3_3 wm3_5 ws1_4 wm1_8 wm3_6) rfl rfl rfl (by decide +kernel) ⟨Nat.le_of_ble_eq_true rfl, Nat.le_of_ble_eq_true rfl⟩) (c_preV6 hK hP) rfl rfl hl.1 rfl (lv_room (Nat.le_of_ble_eq_true rfl)) dAs_markTaken_54 ⟨Nat.le_refl _, Nat.le_refl _⟩) hS (fun _ h => h) (fun _ h => h) (fun H locs hP hS => ?_)
        refine lv_aload_n hx hb dAs_markTaken_57 rfl (lv_at hl 0 rfl) ?_
        refine cg6_operations hx hb hts i0 hown hK hP w3 dAs_markTaken_58 ?_
        refine lv_iload_n hx hb dAs_markTaken_61 rfl (lv_at hl 1 rfl) ?_
        refine cl_ops hx hb hK hP (mt_in hn9 h34 h1) dAs_markTaken_62 ?_
        refine cl_rd (W.runS (As := [.int ((c_ops (fAs_takeIfAddress (fAs_takeIfAddress z (c_lparts z ((nI (v1)).toNatClampNeg))) (c_nparts (fAs_takeIfAddress z (c_lparts z ((nI (v1)).toNatClampNeg))) ((nI (v1)).toNatClampNeg))) ((nI (v1)).toNatClampNeg)))]) (rest := []) ⟨hx, hb, hml, hown, hts⟩ (kOp_shifts l (c_ops (fAs_takeIfAddress (fAs_takeIfAddress z (c_lparts z ((nI (v1)).toNatClampNeg))) (c_nparts (fAs_takeIfAddress z (c_lparts z ((nI (v1)).toNatClampNeg))) ((nI (v1)).toNatClampNeg))) ((nI (v1)).toNatClampNeg))) (va_cwS 1 hts (gS wm2_197 wm2_198 wm1_17 wm2_199) rfl rfl rfl (by decide +kernel) ⟨Nat.le_of_ble_eq_true rfl, Nat.le_of_ble_eq_true rfl⟩) (preT) rfl rfl hl.1 rfl (lv_room (Nat.le_of_ble_eq_true rfl)) dAs_markTaken_63 ⟨Nat.le_refl _, Nat.le_refl _⟩) ?_
        refine wz_ifne hx hb dAs_markTaken_66 rfl (fun h66 => ?_) (fun h66 => ?_)
        · have hR := hR.trans (if_pos h66)
          refine lv_iinc (k := 1) (lv' := [(1, .int (nI (v1 + 1))), (0, .ref (q 6))]) hx hb dAs_markTaken_79 hl rfl (nI_1 _) (by decide) rfl (fun ls hl => ?_)
          refine lv_goto hx hb dAs_markTaken_82 rfl ?_
          exact ih29 H locs ls (fAs_takeIfAddress (fAs_takeIfAddress z (c_lparts z ((nI (v1)).toNatClampNeg))) (c_nparts (fAs_takeIfAddress z (c_lparts z ((nI (v1)).toNatClampNeg))) ((nI (v1)).toNatClampNeg))) (v1 + 1) (mt_m hn9 h34 h1 hn29) hR (mt_b hn9 h34 h1) (by simp only [ta_n]; exact hn9) hP hS (lv_sub hl [1, 0] rfl)
        · have hR := hR.trans (if_neg h66)
          refine lv_aload_n hx hb dAs_markTaken_69 rfl (lv_at hl 0 rfl) ?_
          refine lv_aload_n hx hb dAs_markTaken_70 rfl (lv_at hl 0 rfl) ?_
          refine cg6_dataParts hx hb hts i0 hown hK hP w4 dAs_markTaken_71 ?_
          refine lv_iload_n hx hb dAs_markTaken_74 rfl (lv_at hl 1 rfl) ?_
          refine cl_dparts hx hb hK hP (mt_in hn9 h34 h1) dAs_markTaken_75 ?_
          refine cl_wr (W.runV (As := [.int ((c_dparts (fAs_takeIfAddress (fAs_takeIfAddress z (c_lparts z ((nI (v1)).toNatClampNeg))) (c_nparts (fAs_takeIfAddress z (c_lparts z ((nI (v1)).toNatClampNeg))) ((nI (v1)).toNatClampNeg))) ((nI (v1)).toNatClampNeg)))]) (rest := []) ⟨hx, hb, hml, hown, hts⟩ (kAs_takeIfAddress l D q cI cJ cZ hq (fAs_takeIfAddress (fAs_takeIfAddress z (c_lparts z ((nI (v1)).toNatClampNeg))) (c_nparts (fAs_takeIfAddress z (c_lparts z ((nI (v1)).toNatClampNeg))) ((nI (v1)).toNatClampNeg))) (c_dparts (fAs_takeIfAddress (fAs_takeIfAddress z (c_lparts z ((nI (v1)).toNatClampNeg))) (c_nparts (fAs_takeIfAddress z (c_lparts z ((nI (v1)).toNatClampNeg))) ((nI (v1)).toNatClampNeg))) ((nI (v1)).toNatClampNeg))) (cwV 1 hts (gV wm3_3 wm3_5 ws1_4 wm1_8 wm3_6) rfl rfl rfl (by decide +kernel) ⟨Nat.le_of_ble_eq_true rfl, Nat.le_of_ble_eq_true rfl⟩) (c_preV6 hK hP) rfl rfl hl.1 rfl (lv_room (Nat.le_of_ble_eq_true rfl)) dAs_markTaken_76 ⟨Nat.le_refl _, Nat.le_refl _⟩) hS (fun _ h => h) (fun _ h => h) (fun H locs hP hS => ?_)
          refine lv_iinc (k := 1) (lv' := [(1, .int (nI (v1 + 1))), (0, .ref (q 6))]) hx hb dAs_markTaken_79 hl rfl (nI_1 _) (by decide) rfl (fun ls hl => ?_)
          refine lv_goto hx hb dAs_markTaken_82 rfl ?_
          exact ih29 H locs ls (fAs_takeIfAddress (fAs_takeIfAddress (fAs_takeIfAddress z (c_lparts z ((nI (v1)).toNatClampNeg))) (c_nparts (fAs_takeIfAddress z (c_lparts z ((nI (v1)).toNatClampNeg))) ((nI (v1)).toNatClampNeg))) (c_dparts (fAs_takeIfAddress (fAs_takeIfAddress z (c_lparts z ((nI (v1)).toNatClampNeg))) (c_nparts (fAs_takeIfAddress z (c_lparts z ((nI (v1)).toNatClampNeg))) ((nI (v1)).toNatClampNeg))) ((nI (v1)).toNatClampNeg))) (v1 + 1) (mt_m hn9 h34 h1 hn29) hR (mt_b hn9 h34 h1) (by simp only [ta_n]; exact hn9) hP hS (lv_sub hl [1, 0] rfl)
  have hB2 : ∀ (n2 : Nat) (H : Heap) (locs : List Loc) (ls : Array Slot) (z : SC) (v1 : Nat), 200 - v1 < n2 → fAs_markTaken z0 = fAs_markTaken_2 n2 z v1 → (v1 ≤ 200) → (0 ≤ (c_acount z).toInt ∧ (c_acount z).toInt ≤ 40) → c_W D q cI cJ cZ z H → va_S (c_qs q) s.heap H locs → lv_has ls 2 [(0, .ref (q 6)), (1, .int (nI (v1)))] → W p l e (headSpec wsAs_markTaken { frames := 3, cells := 0, slots := 0, locals := 60 }).room s m ([.ref (q 6)] : List Value).toArray below meth c H locs 0 0 (MQ below (cQw none (c_W D q cI cJ cZ (fAs_markTaken z0)) (c_qs q)) ([.ref (q 6)] : List Value).toArray s 0 0 (c_qs q)) (F0 m 2 ls []) := by
    intro n2
    induction n2 with
    | zero => intro H locs ls z v1 hn2; exact absurd hn2 (Nat.not_lt_zero _)
    | succ n2 ih2 =>
      intro H locs ls z v1 hn2 hR h1 hn9 hP hS hl
      rw [fAs_markTaken_2.eq_2] at hR
      refine lv_iload_n hx hb dAs_markTaken_2 rfl (lv_at hl 1 rfl) ?_
      refine lv_sipush (v := 200) hx hb dAs_markTaken_3 (by decide) ?_
      refine wn_ge (x := v1) (y := 200) hx hb (by omega) (by omega) dAs_markTaken_6 rfl (fun h6 => ?_) (fun h6 => ?_)
      · have hR := hR.trans (if_pos h6)
        refine lv_iconst (v := 0) hx hb dAs_markTaken_27 (by decide) ?_
        refine lv_istore_n (lv' := [(1, .int (nI (0))), (0, .ref (q 6))]) hx hb dAs_markTaken_28 rfl hl (by decide) rfl (fun ls hl => ?_)
        exact hB29 41 H locs ls z 0 (by omega) hR (by first | assumption | omega) (by first | assumption | omega) hP hS (lv_sub hl [1, 0] rfl)
      · have hR := hR.trans (if_neg h6)
        refine lv_aload_n hx hb dAs_markTaken_9 rfl (lv_at hl 0 rfl) ?_
        refine cg6_taken hx hb hts i0 hown hK hP w5 dAs_markTaken_10 ?_
        refine lv_iload_n hx hb dAs_markTaken_13 rfl (lv_at hl 1 rfl) ?_
        refine lv_aload_n hx hb dAs_markTaken_14 rfl (lv_at hl 0 rfl) ?_
        refine cg6_reserved hx hb hts i0 hown hK hP w6 dAs_markTaken_15 ?_
        refine lv_iload_n hx hb dAs_markTaken_18 rfl (lv_at hl 1 rfl) ?_
        refine cl_resv hx hb hK hP (vp_in_nI (by omega) (by decide)) dAs_markTaken_19 ?_
        refine cs_taken (c_resv z ((nI (v1)).toNatClampNeg)) hq hS hx hb hK hP (vp_in_nI (by omega) (by decide)) dAs_markTaken_20 (fun H locs hP hS => ?_)
        refine lv_iinc (k := 1) (lv' := [(1, .int (nI (v1 + 1))), (0, .ref (q 6))]) hx hb dAs_markTaken_21 hl rfl (nI_1 _) (by decide) rfl (fun ls hl => ?_)
        refine lv_goto hx hb dAs_markTaken_24 rfl ?_
        exact ih2 H locs ls (c_taken_s z (updB (c_taken z) ((nI (v1)).toNatClampNeg) (c_resv z ((nI (v1)).toNatClampNeg)))) (v1 + 1) (by omega) hR (by first | assumption | omega) hn9 hP hS (lv_sub hl [1, 0] rfl)
  have hR := fAs_markTaken.eq_1 z0
  refine lv_iconst (v := 0) hx hb dAs_markTaken_0 (by decide) ?_
  refine lv_istore_n (lv' := [(1, .int (nI (0))), (0, .ref (q 6))]) hx hb dAs_markTaken_1 rfl hl (by decide) rfl (fun ls hl => ?_)
  exact hB2 201 s.heap [] ls z0 0 (by omega) hR (by first | assumption | omega) (by first | assumption | omega) hP hS (lv_sub hl [1, 0] rfl)
