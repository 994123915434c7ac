theorem dAs_placeLine_0 : decode ccAs_placeLine 0 = .ok (.aload_n 0, 1) := by decide +kernel
theorem dAs_placeLine_1 : decode ccAs_placeLine 1 = .ok (.getfield 22, 3) := by decide +kernel
theorem dAs_placeLine_4 : decode ccAs_placeLine 4 = .ok (.iload_n 1, 1) := by decide +kernel
theorem dAs_placeLine_5 : decode ccAs_placeLine 5 = .ok (.aload_n 0, 1) := by decide +kernel
theorem dAs_placeLine_6 : decode ccAs_placeLine 6 = .ok (.iload_n 1, 1) := by decide +kernel
theorem dAs_placeLine_7 : decode ccAs_placeLine 7 = .ok (.iload_n 2, 1) := by decide +kernel
theorem dAs_placeLine_8 : decode ccAs_placeLine 8 = .ok (.invokevirtual 95, 3) := by decide +kernel
theorem dAs_placeLine_11 : decode ccAs_placeLine 11 = .ok (.iastore, 1) := by decide +kernel
theorem dAs_placeLine_12 : decode ccAs_placeLine 12 = .ok (.aload_n 0, 1) := by decide +kernel
theorem dAs_placeLine_13 : decode ccAs_placeLine 13 = .ok (.getfield 22, 3) := by decide +kernel
theorem dAs_placeLine_16 : decode ccAs_placeLine 16 = .ok (.iload_n 1, 1) := by decide +kernel
theorem dAs_placeLine_17 : decode ccAs_placeLine 17 = .ok (.iaload, 1) := by decide +kernel
theorem dAs_placeLine_18 : decode ccAs_placeLine 18 = .ok (.iconst (-1), 1) := by decide +kernel
theorem dAs_placeLine_19 : decode ccAs_placeLine 19 = .ok (.if_icmp .ne 5, 3) := by decide +kernel
theorem dAs_placeLine_22 : decode ccAs_placeLine 22 = .ok (.iconst 0, 1) := by decide +kernel
theorem dAs_placeLine_23 : decode ccAs_placeLine 23 = .ok (.ireturn, 1) := by decide +kernel
theorem dAs_placeLine_24 : decode ccAs_placeLine 24 = .ok (.aload_n 0, 1) := by decide +kernel
theorem dAs_placeLine_25 : decode ccAs_placeLine 25 = .ok (.getfield 25, 3) := by decide +kernel
theorem dAs_placeLine_28 : decode ccAs_placeLine 28 = .ok (.iload_n 1, 1) := by decide +kernel
theorem dAs_placeLine_29 : decode ccAs_placeLine 29 = .ok (.aload_n 0, 1) := by decide +kernel
theorem dAs_placeLine_30 : decode ccAs_placeLine 30 = .ok (.iload_n 1, 1) := by decide +kernel
theorem dAs_placeLine_31 : decode ccAs_placeLine 31 = .ok (.iload_n 2, 1) := by decide +kernel
theorem dAs_placeLine_32 : decode ccAs_placeLine 32 = .ok (.invokevirtual 99, 3) := by decide +kernel
theorem dAs_placeLine_35 : decode ccAs_placeLine 35 = .ok (.iastore, 1) := by decide +kernel
theorem dAs_placeLine_36 : decode ccAs_placeLine 36 = .ok (.aload_n 0, 1) := by decide +kernel
theorem dAs_placeLine_37 : decode ccAs_placeLine 37 = .ok (.getfield 25, 3) := by decide +kernel
theorem dAs_placeLine_40 : decode ccAs_placeLine 40 = .ok (.iload_n 1, 1) := by decide +kernel
theorem dAs_placeLine_41 : decode ccAs_placeLine 41 = .ok (.iaload, 1) := by decide +kernel
theorem dAs_placeLine_42 : decode ccAs_placeLine 42 = .ok (.iconst (-1), 1) := by decide +kernel
theorem dAs_placeLine_43 : decode ccAs_placeLine 43 = .ok (.if_icmp .ne 5, 3) := by decide +kernel
theorem dAs_placeLine_46 : decode ccAs_placeLine 46 = .ok (.iconst 0, 1) := by decide +kernel
theorem dAs_placeLine_47 : decode ccAs_placeLine 47 = .ok (.ireturn, 1) := by decide +kernel
theorem dAs_placeLine_48 : decode ccAs_placeLine 48 = .ok (.aload_n 0, 1) := by decide +kernel
theorem dAs_placeLine_49 : decode ccAs_placeLine 49 = .ok (.getfield 28, 3) := by decide +kernel
theorem dAs_placeLine_52 : decode ccAs_placeLine 52 = .ok (.iload_n 1, 1) := by decide +kernel
theorem dAs_placeLine_53 : decode ccAs_placeLine 53 = .ok (.aload_n 0, 1) := by decide +kernel
theorem dAs_placeLine_54 : decode ccAs_placeLine 54 = .ok (.iload_n 1, 1) := by decide +kernel
theorem dAs_placeLine_55 : decode ccAs_placeLine 55 = .ok (.iload_n 2, 1) := by decide +kernel
theorem dAs_placeLine_56 : decode ccAs_placeLine 56 = .ok (.invokevirtual 102, 3) := by decide +kernel
theorem dAs_placeLine_59 : decode ccAs_placeLine 59 = .ok (.iastore, 1) := by decide +kernel
theorem dAs_placeLine_60 : decode ccAs_placeLine 60 = .ok (.aload_n 0, 1) := by decide +kernel
theorem dAs_placeLine_61 : decode ccAs_placeLine 61 = .ok (.getfield 28, 3) := by decide +kernel
theorem dAs_placeLine_64 : decode ccAs_placeLine 64 = .ok (.iload_n 1, 1) := by decide +kernel
theorem dAs_placeLine_65 : decode ccAs_placeLine 65 = .ok (.iaload, 1) := by decide +kernel
theorem dAs_placeLine_66 : decode ccAs_placeLine 66 = .ok (.iconst (-1), 1) := by decide +kernel
theorem dAs_placeLine_67 : decode ccAs_placeLine 67 = .ok (.if_icmp .eq 7, 3) := by decide +kernel
theorem dAs_placeLine_70 : decode ccAs_placeLine 70 = .ok (.iconst 1, 1) := by decide +kernel
theorem dAs_placeLine_71 : decode ccAs_placeLine 71 = .ok (.goto 4, 3) := by decide +kernel
theorem dAs_placeLine_74 : decode ccAs_placeLine 74 = .ok (.iconst 0, 1) := by decide +kernel
theorem dAs_placeLine_75 : decode ccAs_placeLine 75 = .ok (.ireturn, 1) := by decide +kernel
def fAs_placeLine_36  (z : SC) (a : Int32) (b : Bool) : Bool × SC :=
  (if (c_dat z a.toNatClampNeg) = ((-1) : Int32) then (false, z) else (if ((upd (c_nexts ((fAs_placeNext z a b).2)) a.toNatClampNeg ((fAs_placeNext z a b).1)) a.toNatClampNeg) = ((-1) : Int32) then (false, c_nexts_s ((fAs_placeNext z a b).2) (upd (c_nexts ((fAs_placeNext z a b).2)) a.toNatClampNeg ((fAs_placeNext z a b).1))) else (true, c_nexts_s ((fAs_placeNext z a b).2) (upd (c_nexts ((fAs_placeNext z a b).2)) a.toNatClampNeg ((fAs_placeNext z a b).1)))))
def fAs_placeLine_12  (z : SC) (a : Int32) (b : Bool) : Bool × SC :=
  (if (c_locs z a.toNatClampNeg) = ((-1) : Int32) then (false, z) else fAs_placeLine_36 (c_dat_s ((fAs_placeData z a b).2) (upd (c_dat ((fAs_placeData z a b).2)) a.toNatClampNeg ((fAs_placeData z a b).1))) a b)
def fAs_placeLine (z0 : SC) (a : Int32) (b : Bool) : Bool × SC :=
  fAs_placeLine_12 (c_locs_s ((fAs_placeLocation z0 a b).2) (upd (c_locs ((fAs_placeLocation z0 a b).2)) a.toNatClampNeg ((fAs_placeLocation z0 a b).1))) a b
set_option maxHeartbeats 4000000 in
set_option maxRecDepth 100000 in
theorem kAs_placeLine (l : Launch) (D : va_G) (q : Nat → Nat) (cI cJ cZ : ClassId) (hq : c_inj q) (z0 : SC) (a : Int32) (b : Bool) (ha : vp_in a 40) (hA : c_A z0) : Met l yAs_placeLine wsAs_placeLine { frames := 5, cells := 0, slots := 0, locals := 110 } (va_Pc [.ref (q 6), .int (a), .int (bb (b))] (c_C D q cI cJ cZ z0)) (cQw (some (.int (bb ((fAs_placeLine z0 a b).1)))) (c_W D q cI cJ cZ (fAs_placeLine z0 a b).2) (c_qs q)) 0 0 (c_qs q) := by
  refine Met.ofW (cc := ccAs_placeLine) (maxL := 3) (ret := (some .boolean)) (by decide +kernel) rfl ?_
  intro p e s m args below meth c s₁ B hml hv
  obtain ⟨rfl, hP, hK⟩ := hv
  have hx := B.exec
  have hb := B.bytes
  have hr := B.returns
  have hts := atoms_spec (ws := wsAs_placeLine) B.pre
  have hown : s.vm.findClass RAs = some m.cls := findClass_of_methodNamed B.named
  have hlocks := B.notSynchronized
  have w0 := hts (.fieldLink RAs 25 "DrumMachine$Assembler" "data" "[I") (List.mem_cons_of_mem _ wm1_150)
  have w1 := hts (.fieldLink RAs 28 "DrumMachine$Assembler" "nexts" "[I") (List.mem_cons_of_mem _ wm1_151)
  have w2 := hts (.fieldLink RAs 22 "DrumMachine$Assembler" "locations" "[I") (List.mem_cons_of_mem _ wm1_149)
  have i0 : ∀ w ∈ u_ws RAs TAs 11, w ∈ wsAs_placeLine := fun w h => List.mem_cons_of_mem _ (inAAs w h)
  have hS : va_S (c_qs q) s.heap s.heap [] := va_S.rf
  have hl := lv_entry ([.ref (q 6), .int (a), .int (bb (b))]) (n := 3) (Nat.le_of_ble_eq_true rfl)
  rw [lg_entry_eq]
  generalize (lg_sl ([.ref (q 6), .int (a), .int (bb (b))]) ++ List.replicate (3 - (lg_sl ([.ref (q 6), .int (a), .int (bb (b))])).length) Slot.unset).toArray = ls at hl ⊢
  have hl : lv_has ls 3 [(0, .ref (q 6)), (1, .int (a)), (2, .int (bb (b)))] := hl
  have hB36 : ∀ (H : Heap) (locs : List Loc) (ls : Array Slot) (z : SC), fAs_placeLine z0 a b = fAs_placeLine_36 z a b → (c_A z) → (0 ≤ (c_locs z a.toNatClampNeg).toInt) → c_W D q cI cJ cZ z H → va_S (c_qs q) s.heap H locs → lv_has ls 3 [(0, .ref (q 6)), (1, .int (a)), (2, .int (bb (b)))] → W p l e (headSpec wsAs_placeLine { frames := 5, cells := 0, slots := 0, locals := 110 }).room s m ([.ref (q 6), .int (a), .int (bb (b))] : List Value).toArray below meth c H locs 0 0 (MQ below (cQw (some (.int (bb ((fAs_placeLine z0 a b).1)))) (c_W D q cI cJ cZ (fAs_placeLine z0 a b).2) (c_qs q)) ([.ref (q 6), .int (a), .int (bb (b))] : List Value).toArray s 0 0 (c_qs q)) (F0 m 36 ls []) := by
    intro H locs ls z hR hA hl9 hP hS hl
    rw [fAs_placeLine_36.eq_1] at hR
    refine lv_aload_n hx hb dAs_placeLine_36 rfl (lv_at hl 0 rfl) ?_
    refine cg6_data hx hb hts i0 hown hK hP w0 dAs_placeLine_37 ?_
    refine lv_iload_n hx hb dAs_placeLine_40 rfl (lv_at hl 1 rfl) ?_
    refine cl_dat hx hb hK hP ha dAs_placeLine_41 ?_
    refine lv_iconst (v := (-1)) hx hb dAs_placeLine_42 (by decide) ?_
    refine lv_icmp_ne hx hb dAs_placeLine_43 rfl (fun h43 => ?_) (fun h43 => ?_)
    · have hR := hR.trans (if_neg h43)
      refine lv_aload_n hx hb dAs_placeLine_48 rfl (lv_at hl 0 rfl) ?_
      refine cg6_nexts hx hb hts i0 hown hK hP w1 dAs_placeLine_49 ?_
      refine lv_iload_n hx hb dAs_placeLine_52 rfl (lv_at hl 1 rfl) ?_
      refine lv_aload_n hx hb dAs_placeLine_53 rfl (lv_at hl 0 rfl) ?_
      refine lv_iload_n hx hb dAs_placeLine_54 rfl (lv_at hl 1 rfl) ?_
      refine lv_iload_n hx hb dAs_placeLine_55 rfl (lv_at hl 2 rfl) ?_
      refine cl_wr (W.runV (As := [.int (a), .int (bb (b))]) (rest := [.int (a), .ref (q 19)]) ⟨hx, hb, hml, hown, hts⟩ (kAs_placeNext l D q cI cJ cZ hq z a b ha hA hl9 (pl_d ha hA h43)) (cwV 2 hts (gV wm3_35 wm3_37 ws1_12 wm1_8 wm3_38) rfl rfl rfl (by decide +kernel) ⟨Nat.le_of_ble_eq_true rfl, Nat.le_of_ble_eq_true rfl⟩) (c_preV6 hK hP) rfl rfl hl.1 rfl (lv_room (Nat.le_of_ble_eq_true rfl)) dAs_placeLine_56 ⟨Nat.le_refl _, Nat.le_refl _⟩) hS (fun _ h => h) (fun _ h => h) (fun H locs hP hS => ?_)
      refine cs_nexts ((fAs_placeNext z a b).1) hq hS hx hb hK hP ha dAs_placeLine_59 (fun H locs hP hS => ?_)
      refine lv_aload_n hx hb dAs_placeLine_60 rfl (lv_at hl 0 rfl) ?_
      refine cg6_nexts hx hb hts i0 hown hK hP w1 dAs_placeLine_61 ?_
      refine lv_iload_n hx hb dAs_placeLine_64 rfl (lv_at hl 1 rfl) ?_
      refine cl_nexts_e (f := upd (c_nexts ((fAs_placeNext z a b).2)) a.toNatClampNeg ((fAs_placeNext z a b).1)) (c_nexts_nexts _ _) hx hb hK hP ha dAs_placeLine_65 ?_
      refine lv_iconst (v := (-1)) hx hb dAs_placeLine_66 (by decide) ?_
      refine lv_icmp_eq hx hb dAs_placeLine_67 rfl (fun h67 => ?_) (fun h67 => ?_)
      · have hR := hR.trans (if_pos h67)
        refine lv_iconst (v := 0) hx hb dAs_placeLine_74 (by decide) ?_
        exact W.zret hx hb hr rfl (fun t ht _ => ⟨by rw [hR]; first | done | rfl, by rw [hR, ht]; exact hP, hS.F ht⟩) hS.2.2 dAs_placeLine_75
      · have hR := hR.trans (if_neg h67)
        refine lv_iconst (v := 1) hx hb dAs_placeLine_70 (by decide) ?_
        refine lv_goto hx hb dAs_placeLine_71 rfl ?_
        exact W.zret hx hb hr rfl (fun t ht _ => ⟨by rw [hR]; first | done | rfl, by rw [hR, ht]; exact hP, hS.F ht⟩) hS.2.2 dAs_placeLine_75
    · have hR := hR.trans (if_pos h43)
      refine lv_iconst (v := 0) hx hb dAs_placeLine_46 (by decide) ?_
      exact W.zret hx hb hr rfl (fun t ht _ => ⟨by rw [hR]; first | done | rfl, by rw [hR, ht]; exact hP, hS.F ht⟩) hS.2.2 dAs_placeLine_47
  have hB12 : ∀ (H : Heap) (locs : List Loc) (ls : Array Slot) (z : SC), fAs_placeLine z0 a b = fAs_placeLine_12 z a b → (c_A z) → c_W D q cI cJ cZ z H → va_S (c_qs q) s.heap H locs → lv_has ls 3 [(0, .ref (q 6)), (1, .int (a)), (2, .int (bb (b)))] → W p l e (headSpec wsAs_placeLine { frames := 5, cells := 0, slots := 0, locals := 110 }).room s m ([.ref (q 6), .int (a), .int (bb (b))] : List Value).toArray below meth c H locs 0 0 (MQ below (cQw (some (.int (bb ((fAs_placeLine z0 a b).1)))) (c_W D q cI cJ cZ (fAs_placeLine z0 a b).2) (c_qs q)) ([.ref (q 6), .int (a), .int (bb (b))] : List Value).toArray s 0 0 (c_qs q)) (F0 m 12 ls []) := by
    intro H locs ls z hR hA hP hS hl
    rw [fAs_placeLine_12.eq_1] at hR
    refine lv_aload_n hx hb dAs_placeLine_12 rfl (lv_at hl 0 rfl) ?_
    refine cg6_locations hx hb hts i0 hown hK hP w2 dAs_placeLine_13 ?_
    refine lv_iload_n hx hb dAs_placeLine_16 rfl (lv_at hl 1 rfl) ?_
    refine cl_locs hx hb hK hP ha dAs_placeLine_17 ?_
    refine lv_iconst (v := (-1)) hx hb dAs_placeLine_18 (by decide) ?_
    refine lv_icmp_ne hx hb dAs_placeLine_19 rfl (fun h19 => ?_) (fun h19 => ?_)
    · have hR := hR.trans (if_neg h19)
      refine lv_aload_n hx hb dAs_placeLine_24 rfl (lv_at hl 0 rfl) ?_
      refine cg6_data hx hb hts i0 hown hK hP w0 dAs_placeLine_25 ?_
      refine lv_iload_n hx hb dAs_placeLine_28 rfl (lv_at hl 1 rfl) ?_
      refine lv_aload_n hx hb dAs_placeLine_29 rfl (lv_at hl 0 rfl) ?_
      refine lv_iload_n hx hb dAs_placeLine_30 rfl (lv_at hl 1 rfl) ?_
      refine lv_iload_n hx hb dAs_placeLine_31 rfl (lv_at hl 2 rfl) ?_
      refine cl_wr (W.runV (As := [.int (a), .int (bb (b))]) (rest := [.int (a), .ref (q 18)]) ⟨hx, hb, hml, hown, hts⟩ (kAs_placeData l D q cI cJ cZ hq z a b ha hA (pl_l ha hA h19)) (cwV 2 hts (gV wm3_31 wm3_33 ws1_11 wm1_8 wm3_34) rfl rfl rfl (by decide +kernel) ⟨Nat.le_of_ble_eq_true rfl, Nat.le_of_ble_eq_true rfl⟩) (c_preV6 hK hP) rfl rfl hl.1 rfl (lv_room (Nat.le_of_ble_eq_true rfl)) dAs_placeLine_32 ⟨Nat.le_refl _, Nat.le_refl _⟩) hS (fun _ h => h) (fun _ h => h) (fun H locs hP hS => ?_)
      refine cs_dat ((fAs_placeData z a b).1) hq hS hx hb hK hP ha dAs_placeLine_35 (fun H locs hP hS => ?_)
      exact hB36 H locs ls (c_dat_s ((fAs_placeData z a b).2) (upd (c_dat ((fAs_placeData z a b).2)) a.toNatClampNeg ((fAs_placeData z a b).1))) hR (pl_A2 ha hA (pl_l ha hA h19)) (pl_l2 ha hA (pl_l ha hA h19)) hP hS (lv_sub hl [0, 1, 2] rfl)
    · have hR := hR.trans (if_pos h19)
      refine lv_iconst (v := 0) hx hb dAs_placeLine_22 (by decide) ?_
      exact W.zret hx hb hr rfl (fun t ht _ => ⟨by rw [hR]; first | done | rfl, by rw [hR, ht]; exact hP, hS.F ht⟩) hS.2.2 dAs_placeLine_23
  have hR := fAs_placeLine.eq_1 z0 a b
  refine lv_aload_n hx hb dAs_placeLine_0 rfl (lv_at hl 0 rfl) ?_
  refine cg6_locations hx hb hts i0 hown hK hP w2 dAs_placeLine_1 ?_
  refine lv_iload_n hx hb dAs_placeLine_4 rfl (lv_at hl 1 rfl) ?_
  refine lv_aload_n hx hb dAs_placeLine_5 rfl (lv_at hl 0 rfl) ?_
  refine lv_iload_n hx hb dAs_placeLine_6 rfl (lv_at hl 1 rfl) ?_
  refine lv_iload_n hx hb dAs_placeLine_7 rfl (lv_at hl 2 rfl) ?_
  refine cl_wr (W.runV (As := [.int (a), .int (bb (b))]) (rest := [.int (a), .ref (q 17)]) ⟨hx, hb, hml, hown, hts⟩ (kAs_placeLocation l D q cI cJ cZ hq z0 a b ha) (cwV 2 hts (gV wm3_11 wm3_13 ws1_6 wm1_8 wm3_14) rfl rfl rfl (by decide +kernel) ⟨Nat.le_of_ble_eq_true rfl, Nat.le_of_ble_eq_true rfl⟩) (c_preV6 hK hP) rfl rfl hl.1 rfl (lv_room (Nat.le_of_ble_eq_true rfl)) dAs_placeLine_8 ⟨Nat.le_refl _, Nat.le_refl _⟩) hS (fun _ h => h) (fun _ h => h) (fun H locs hP hS => ?_)
  refine cs_locs ((fAs_placeLocation z0 a b).1) hq hS hx hb hK hP ha dAs_placeLine_11 (fun H locs hP hS => ?_)
  exact hB12 H locs ls (c_locs_s ((fAs_placeLocation z0 a b).2) (upd (c_locs ((fAs_placeLocation z0 a b).2)) a.toNatClampNeg ((fAs_placeLocation z0 a b).1))) hR (pl_A1 ha hA) hP hS (lv_sub hl [0, 1, 2] rfl)
