def c_A (z : SC) : Prop := (0 ≤ (c_acount z).toInt ∧ (c_acount z).toInt ≤ 40) ∧ (∀ i, i < 40 → pp (c_lparts z i)) ∧ (∀ i, i < 40 → pp (c_nparts z i)) ∧ (∀ i, i < 40 → pp (c_dparts z i) ∧ (fOp_shifts (c_ops z i) = true → pl (c_dparts z i))) ∧ (∀ i, i < 40 → pl (c_locs z i)) ∧ (∀ i, i < 40 → pl (c_dat z i)) ∧ (∀ i, i < 40 → pl (c_nexts z i)) ∧ (∀ i, i < 20 → pl (c_syms z i))
theorem ix_lt {a : Int32} {n : Nat} (h : vp_in a n) : a.toNatClampNeg < n := by
  unfold vp_in at h
  omega
theorem pp_ns {x : Int32} (h : pp x) (hs : ¬ fAs_isSymbol x = true) : pl x := by
  rcases h with h | h
  · exact h
  · exfalso
    apply hs
    have e : (1000 : Int32).toInt = 1000 := by decide
    have e2 : (1020 : Int32).toInt = 1020 := by decide
    rw [fAs_isSymbol.eq_1, if_neg (by rw [Int32.lt_iff_toInt_lt]; omega), if_neg (by rw [Int32.le_iff_toInt_le]; omega)]
theorem pd_b {z : SC} {a : Int32} (ha : vp_in a 40) (hA : c_A z) (h : 0 ≤ (c_locs z a.toNatClampNeg).toInt) : 0 ≤ (c_locs z a.toNatClampNeg + 1).toInt ∧ (c_locs z a.toNatClampNeg + 1).toInt ≤ 10000 := by
  have h1 := (hA.2.2.2.2.1 _ (ix_lt ha)).2
  rw [i_inc (by omega) h]
  omega
theorem sl_b {o d : Int32} (hd : 0 ≤ d.toInt) : 0 ≤ (fOp_shiftLength o d).toInt ∧ (fOp_shiftLength o d).toInt ≤ 10 := by
  have e : (10 : Int32).toInt = 10 := by decide
  have h1 : (d % 10).toInt = d.toInt % 10 := by rw [Kit.i32_rem_nonneg hd, e]
  unfold fOp_shiftLength
  split
  · split
    · omega
    · omega
  · omega
theorem ft28_b {s0 : Bool} {o d : Int32} (hd : 0 ≤ d.toInt) : 0 ≤ (fOp_fixedTime_28 s0 o d).toInt ∧ (fOp_fixedTime_28 s0 o d).toInt ≤ 20 := by
  have h := sl_b (o := o) hd
  have h2 : 0 ≤ (bb s0).toInt ∧ (bb s0).toInt ≤ 1 := by cases s0 <;> decide
  unfold fOp_fixedTime_28
  rw [Kit.i32_add (by omega) (by omega)]
  omega
theorem ft_b {o d : Int32} (hd : 0 ≤ d.toInt) : 0 ≤ (fOp_fixedTime o d).toInt ∧ (fOp_fixedTime o d).toInt ≤ 20 := by
  unfold fOp_fixedTime
  split
  · decide
  · split
    · split
      · exact ft28_b hd
      · exact ft28_b hd
    · split
      · decide
      · split
        · decide
        · split
          · decide
          · split
            · decide
            · decide
theorem bn29_b {z : SC} {s0 a v2 : Int32} (h0 : 0 ≤ s0.toInt ∧ s0.toInt < 200) (hd : 0 ≤ (c_dat z a.toNatClampNeg).toInt) : 0 ≤ (fAs_bestForNext_29 z s0 a v2).toInt ∧ (fAs_bestForNext_29 z s0 a v2).toInt ≤ 10000 := by
  have h := ft_b (o := v2) hd
  have e := i_inc (x := s0) (by omega) h0.1
  unfold fAs_bestForNext_29
  rw [Kit.i32_add (by omega) (by omega), e]
  omega
theorem bn_b {z : SC} {a : Int32} (ha : vp_in a 40) (hA : c_A z) (hl : 0 ≤ (c_locs z a.toNatClampNeg).toInt) (hd : 0 ≤ (c_dat z a.toNatClampNeg).toInt) : 0 ≤ (fAs_bestForNext z a).toInt ∧ (fAs_bestForNext z a).toInt ≤ 10000 := by
  have h1 := (hA.2.2.2.2.1 _ (ix_lt ha)).2
  have h2 := (hA.2.2.2.2.2.1 _ (ix_lt ha)).2
  unfold fAs_bestForNext
  split
  · exact bn29_b ⟨hd, h2⟩ hd
  · exact bn29_b ⟨hl, h1⟩ hd
theorem nx_in {z : SC} {a : Int32} (ha : vp_in a 40) (hA : c_A z) (h : ¬ c_acount z ≤ a + 1) : vp_in (a + 1) 40 := by
  obtain ⟨a1, a2⟩ := vp_in_iff.mp ha
  have h1 := lk_lt h
  have h2 := hA.1.2
  have e := i_inc (x := a) (by omega) a1
  exact vp_in_iff.mpr ⟨by omega, by omega⟩
theorem dAs_placeData_0 : decode ccAs_placeData 0 = .ok (.aload_n 0, 1) := by decide +kernel
theorem dAs_placeData_1 : decode ccAs_placeData 1 = .ok (.getfield 16, 3) := by decide +kernel
theorem dAs_placeData_4 : decode ccAs_placeData 4 = .ok (.iload_n 1, 1) := by decide +kernel
theorem dAs_placeData_5 : decode ccAs_placeData 5 = .ok (.iaload, 1) := by decide +kernel
theorem dAs_placeData_6 : decode ccAs_placeData 6 = .ok (.istore_n 3, 1) := by decide +kernel
theorem dAs_placeData_7 : decode ccAs_placeData 7 = .ok (.iload_n 3, 1) := by decide +kernel
theorem dAs_placeData_8 : decode ccAs_placeData 8 = .ok (.iconst (-1), 1) := by decide +kernel
theorem dAs_placeData_9 : decode ccAs_placeData 9 = .ok (.if_icmp .ne 5, 3) := by decide +kernel
theorem dAs_placeData_12 : decode ccAs_placeData 12 = .ok (.iconst 0, 1) := by decide +kernel
theorem dAs_placeData_13 : decode ccAs_placeData 13 = .ok (.ireturn, 1) := by decide +kernel
theorem dAs_placeData_14 : decode ccAs_placeData 14 = .ok (.aload_n 0, 1) := by decide +kernel
theorem dAs_placeData_15 : decode ccAs_placeData 15 = .ok (.getfield 13, 3) := by decide +kernel
theorem dAs_placeData_18 : decode ccAs_placeData 18 = .ok (.iload_n 1, 1) := by decide +kernel
theorem dAs_placeData_19 : decode ccAs_placeData 19 = .ok (.iaload, 1) := by decide +kernel
theorem dAs_placeData_20 : decode ccAs_placeData 20 = .ok (.invokestatic 56, 3) := by decide +kernel
theorem dAs_placeData_23 : decode ccAs_placeData 23 = .ok (.ifCond .eq 5, 3) := by decide +kernel
theorem dAs_placeData_26 : decode ccAs_placeData 26 = .ok (.iload_n 3, 1) := by decide +kernel
theorem dAs_placeData_27 : decode ccAs_placeData 27 = .ok (.ireturn, 1) := by decide +kernel
theorem dAs_placeData_28 : decode ccAs_placeData 28 = .ok (.aload_n 0, 1) := by decide +kernel
theorem dAs_placeData_29 : decode ccAs_placeData 29 = .ok (.iload_n 3, 1) := by decide +kernel
theorem dAs_placeData_30 : decode ccAs_placeData 30 = .ok (.aload_n 0, 1) := by decide +kernel
theorem dAs_placeData_31 : decode ccAs_placeData 31 = .ok (.getfield 22, 3) := by decide +kernel
theorem dAs_placeData_34 : decode ccAs_placeData 34 = .ok (.iload_n 1, 1) := by decide +kernel
theorem dAs_placeData_35 : decode ccAs_placeData 35 = .ok (.iaload, 1) := by decide +kernel
theorem dAs_placeData_36 : decode ccAs_placeData 36 = .ok (.iconst 1, 1) := by decide +kernel
theorem dAs_placeData_37 : decode ccAs_placeData 37 = .ok (.iadd, 1) := by decide +kernel
theorem dAs_placeData_38 : decode ccAs_placeData 38 = .ok (.iload_n 2, 1) := by decide +kernel
theorem dAs_placeData_39 : decode ccAs_placeData 39 = .ok (.invokevirtual 105, 3) := by decide +kernel
theorem dAs_placeData_42 : decode ccAs_placeData 42 = .ok (.ireturn, 1) := by decide +kernel
def fAs_placeData (z0 : SC) (a : Int32) (b : Bool) : Int32 × SC :=
  (if (c_dparts z0 a.toNatClampNeg) = ((-1) : Int32) then (0, z0) else (if (fOp_shifts (c_ops z0 a.toNatClampNeg)) = true then (c_dparts z0 a.toNatClampNeg, z0) else ((fAs_placePart z0 (c_dparts z0 a.toNatClampNeg) ((c_locs z0 a.toNatClampNeg) + 1) b).1, (fAs_placePart z0 (c_dparts z0 a.toNatClampNeg) ((c_locs z0 a.toNatClampNeg) + 1) b).2)))
set_option maxHeartbeats 4000000 in
set_option maxRecDepth 100000 in
theorem kAs_placeData (l : Launch) (D : va_G) (q : Nat → Nat) (cI cJ cZ : ClassId) (hq : c_inj q) (z0 : SC) (a : Int32) (b : Bool) (ha : vp_in a 40) (hA : c_A z0) (hl9 : 0 ≤ (c_locs z0 a.toNatClampNeg).toInt) : Met l yAs_placeData wsAs_placeData { frames := 3, cells := 0, slots := 0, locals := 71 } (va_Pc [.ref (q 6), .int (a), .int (bb (b))] (c_C D q cI cJ cZ z0)) (cQw (some (.int ((fAs_placeData z0 a b).1))) (c_W D q cI cJ cZ (fAs_placeData z0 a b).2) (c_qs q)) 0 0 (c_qs q) := by
  refine Met.ofW (cc := ccAs_placeData) (maxL := 4) (ret := (some .int)) (by decide +kernel) rfl ?_
  intro p e s m args below meth c s₁ B hml hv
  obtain ⟨rfl, hP, hK⟩ := hv
  have hx := B.exec
  have hb := B.bytes
  have hr := B.returns
  have hts := atoms_spec (ws := wsAs_placeData) B.pre
  have hown : s.vm.findClass RAs = some m.cls := findClass_of_methodNamed B.named
  have hlocks := B.notSynchronized
  have w0 := hts (.fieldLink RAs 16 "DrumMachine$Assembler" "dataParts" "[I") (List.mem_cons_of_mem _ wm1_147)
  have w1 := hts (.fieldLink RAs 13 "DrumMachine$Assembler" "operations" "[I") (List.mem_cons_of_mem _ wm1_146)
  have w2 := hts (.fieldLink RAs 22 "DrumMachine$Assembler" "locations" "[I") (List.mem_cons_of_mem _ wm1_149)
  have i0 : ∀ w ∈ u_ws RAs TAs 11, w ∈ wsAs_placeData := fun w h => List.mem_cons_of_mem _ (inAAs w h)
  have hS : va_S (c_qs q) s.heap s.heap [] := va_S.rf
  have hl := lv_entry ([.ref (q 6), .int (a), .int (bb (b))]) (n := 4) (Nat.le_of_ble_eq_true rfl)
  rw [lg_entry_eq]
  generalize (lg_sl ([.ref (q 6), .int (a), .int (bb (b))]) ++ List.replicate (4 - (lg_sl ([.ref (q 6), .int (a), .int (bb (b))])).length) Slot.unset).toArray = ls at hl ⊢
  have hl : lv_has ls 4 [(0, .ref (q 6)), (1, .int (a)), (2, .int (bb (b)))] := hl
  have hR := fAs_placeData.eq_1 z0 a b
  refine lv_aload_n hx hb dAs_placeData_0 rfl (lv_at hl 0 rfl) ?_
  refine cg6_dataParts hx hb hts i0 hown hK hP w0 dAs_placeData_1 ?_
  refine lv_iload_n hx hb dAs_placeData_4 rfl (lv_at hl 1 rfl) ?_
  refine cl_dparts hx hb hK hP ha dAs_placeData_5 ?_
  refine lv_istore_n (lv' := [(3, .int (c_dparts z0 a.toNatClampNeg)), (0, .ref (q 6)), (1, .int (a)), (2, .int (bb (b)))]) hx hb dAs_placeData_6 rfl hl (by decide) rfl (fun ls hl => ?_)
  refine lv_iload_n hx hb dAs_placeData_7 rfl (lv_at hl 0 rfl) ?_
  refine lv_iconst (v := (-1)) hx hb dAs_placeData_8 (by decide) ?_
  refine lv_icmp_ne hx hb dAs_placeData_9 rfl (fun h9 => ?_) (fun h9 => ?_)
  · have hR := hR.trans (if_neg h9)
    refine lv_aload_n hx hb dAs_placeData_14 rfl (lv_at hl 1 rfl) ?_
    refine cg6_operations hx hb hts i0 hown hK hP w1 dAs_placeData_15 ?_
    refine lv_iload_n hx hb dAs_placeData_18 rfl (lv_at hl 2 rfl) ?_
    refine cl_ops hx hb hK hP ha dAs_placeData_19 ?_
    refine cl_rd (W.runS (As := [.int ((c_ops z0 a.toNatClampNeg))]) (rest := []) ⟨hx, hb, hml, hown, hts⟩ (kOp_shifts l (c_ops z0 a.toNatClampNeg)) (va_cwS 1 hts (gS wm2_197 wm2_198 wm1_17 wm2_199) rfl rfl rfl (by decide +kernel) ⟨Nat.le_of_ble_eq_true rfl, Nat.le_of_ble_eq_true rfl⟩) (preT) rfl rfl hl.1 rfl (lv_room (Nat.le_of_ble_eq_true rfl)) dAs_placeData_20 ⟨Nat.le_refl _, Nat.le_refl _⟩) ?_
    refine wz_ifeq hx hb dAs_placeData_23 rfl (fun h23 => ?_) (fun h23 => ?_)
    · have hR := hR.trans (if_neg h23)
      refine lv_aload_n hx hb dAs_placeData_28 rfl (lv_at hl 1 rfl) ?_
      refine lv_iload_n hx hb dAs_placeData_29 rfl (lv_at hl 0 rfl) ?_
      refine lv_aload_n hx hb dAs_placeData_30 rfl (lv_at hl 1 rfl) ?_
      refine cg6_locations hx hb hts i0 hown hK hP w2 dAs_placeData_31 ?_
      refine lv_iload_n hx hb dAs_placeData_34 rfl (lv_at hl 2 rfl) ?_
      refine cl_locs hx hb hK hP ha dAs_placeData_35 ?_
      refine lv_iconst (v := 1) hx hb dAs_placeData_36 (by decide) ?_
      refine lv_iadd hx hb dAs_placeData_37 ?_
      refine lv_iload_n hx hb dAs_placeData_38 rfl (lv_at hl 3 rfl) ?_
      refine cl_wr (W.runV (As := [.int ((c_dparts z0 a.toNatClampNeg)), .int (((c_locs z0 a.toNatClampNeg) + 1)), .int (bb (b))]) (rest := []) ⟨hx, hb, hml, hown, hts⟩ (kAs_placePart l D q cI cJ cZ hq z0 (c_dparts z0 a.toNatClampNeg) ((c_locs z0 a.toNatClampNeg) + 1) b (pd_b ha hA hl9)) (cwV 3 hts (gV wm3_15 wm3_17 ws1_7 wm1_8 wm3_18) rfl rfl rfl (by decide +kernel) ⟨Nat.le_of_ble_eq_true rfl, Nat.le_of_ble_eq_true rfl⟩) (c_preV6 hK hP) rfl rfl hl.1 rfl (lv_room (Nat.le_of_ble_eq_true rfl)) dAs_placeData_39 ⟨Nat.le_refl _, Nat.le_refl _⟩) hS (fun _ h => h) (fun _ h => h) (fun H locs hP hS => ?_)
      exact W.iret hx hb hr (fun t ht _ => ⟨by rw [hR]; first | done | rfl, by rw [hR, ht]; exact hP, hS.F ht⟩) hS.2.2 dAs_placeData_42
    · have hR := hR.trans (if_pos h23)
      refine lv_iload_n hx hb dAs_placeData_26 rfl (lv_at hl 0 rfl) ?_
      exact W.iret hx hb hr (fun t ht _ => ⟨by rw [hR]; first | done | rfl, by rw [hR, ht]; exact hP, hS.F ht⟩) hS.2.2 dAs_placeData_27
  · have hR := hR.trans (if_pos h9)
    refine lv_iconst (v := 0) hx hb dAs_placeData_12 (by decide) ?_
    exact W.iret hx hb hr (fun t ht _ => ⟨by rw [hR]; first | done | rfl, by rw [hR, ht]; exact hP, hS.F ht⟩) hS.2.2 dAs_placeData_13
theorem dAs_placeNext_0 : decode ccAs_placeNext 0 = .ok (.aload_n 0, 1) := by decide +kernel
theorem dAs_placeNext_1 : decode ccAs_placeNext 1 = .ok (.getfield 19, 3) := by decide +kernel
theorem dAs_placeNext_4 : decode ccAs_placeNext 4 = .ok (.iload_n 1, 1) := by decide +kernel
theorem dAs_placeNext_5 : decode ccAs_placeNext 5 = .ok (.iaload, 1) := by decide +kernel
theorem dAs_placeNext_6 : decode ccAs_placeNext 6 = .ok (.istore_n 3, 1) := by decide +kernel
theorem dAs_placeNext_7 : decode ccAs_placeNext 7 = .ok (.iload_n 3, 1) := by decide +kernel
theorem dAs_placeNext_8 : decode ccAs_placeNext 8 = .ok (.iconst (-1), 1) := by decide +kernel
theorem dAs_placeNext_9 : decode ccAs_placeNext 9 = .ok (.if_icmp .eq 15, 3) := by decide +kernel
theorem dAs_placeNext_12 : decode ccAs_placeNext 12 = .ok (.aload_n 0, 1) := by decide +kernel
theorem dAs_placeNext_13 : decode ccAs_placeNext 13 = .ok (.iload_n 3, 1) := by decide +kernel
theorem dAs_placeNext_14 : decode ccAs_placeNext 14 = .ok (.aload_n 0, 1) := by decide +kernel
theorem dAs_placeNext_15 : decode ccAs_placeNext 15 = .ok (.iload_n 1, 1) := by decide +kernel
theorem dAs_placeNext_16 : decode ccAs_placeNext 16 = .ok (.invokevirtual 112, 3) := by decide +kernel
theorem dAs_placeNext_19 : decode ccAs_placeNext 19 = .ok (.iload_n 2, 1) := by decide +kernel
theorem dAs_placeNext_20 : decode ccAs_placeNext 20 = .ok (.invokevirtual 105, 3) := by decide +kernel
theorem dAs_placeNext_23 : decode ccAs_placeNext 23 = .ok (.ireturn, 1) := by decide +kernel
theorem dAs_placeNext_24 : decode ccAs_placeNext 24 = .ok (.iload_n 1, 1) := by decide +kernel
theorem dAs_placeNext_25 : decode ccAs_placeNext 25 = .ok (.iconst 1, 1) := by decide +kernel
theorem dAs_placeNext_26 : decode ccAs_placeNext 26 = .ok (.iadd, 1) := by decide +kernel
theorem dAs_placeNext_27 : decode ccAs_placeNext 27 = .ok (.aload_n 0, 1) := by decide +kernel
theorem dAs_placeNext_28 : decode ccAs_placeNext 28 = .ok (.getfield 64, 3) := by decide +kernel
theorem dAs_placeNext_31 : decode ccAs_placeNext 31 = .ok (.if_icmp .ge 19, 3) := by decide +kernel
theorem dAs_placeNext_34 : decode ccAs_placeNext 34 = .ok (.aload_n 0, 1) := by decide +kernel
theorem dAs_placeNext_35 : decode ccAs_placeNext 35 = .ok (.getfield 9, 3) := by decide +kernel
theorem dAs_placeNext_38 : decode ccAs_placeNext 38 = .ok (.iload_n 1, 1) := by decide +kernel
theorem dAs_placeNext_39 : decode ccAs_placeNext 39 = .ok (.iconst 1, 1) := by decide +kernel
theorem dAs_placeNext_40 : decode ccAs_placeNext 40 = .ok (.iadd, 1) := by decide +kernel
theorem dAs_placeNext_41 : decode ccAs_placeNext 41 = .ok (.iaload, 1) := by decide +kernel
theorem dAs_placeNext_42 : decode ccAs_placeNext 42 = .ok (.iconst (-1), 1) := by decide +kernel
theorem dAs_placeNext_43 : decode ccAs_placeNext 43 = .ok (.if_icmp .ne 7, 3) := by decide +kernel
theorem dAs_placeNext_46 : decode ccAs_placeNext 46 = .ok (.iconst 1, 1) := by decide +kernel
theorem dAs_placeNext_47 : decode ccAs_placeNext 47 = .ok (.goto 4, 3) := by decide +kernel
theorem dAs_placeNext_50 : decode ccAs_placeNext 50 = .ok (.iconst 0, 1) := by decide +kernel
theorem dAs_placeNext_51 : decode ccAs_placeNext 51 = .ok (.istore 4, 2) := by decide +kernel
theorem dAs_placeNext_53 : decode ccAs_placeNext 53 = .ok (.iload 4, 2) := by decide +kernel
theorem dAs_placeNext_55 : decode ccAs_placeNext 55 = .ok (.ifCond .eq 16, 3) := by decide +kernel
theorem dAs_placeNext_58 : decode ccAs_placeNext 58 = .ok (.aload_n 0, 1) := by decide +kernel
theorem dAs_placeNext_59 : decode ccAs_placeNext 59 = .ok (.aload_n 0, 1) := by decide +kernel
theorem dAs_placeNext_60 : decode ccAs_placeNext 60 = .ok (.iload_n 1, 1) := by decide +kernel
theorem dAs_placeNext_61 : decode ccAs_placeNext 61 = .ok (.invokevirtual 112, 3) := by decide +kernel
theorem dAs_placeNext_64 : decode ccAs_placeNext 64 = .ok (.iload_n 2, 1) := by decide +kernel
theorem dAs_placeNext_65 : decode ccAs_placeNext 65 = .ok (.invokevirtual 109, 3) := by decide +kernel
theorem dAs_placeNext_68 : decode ccAs_placeNext 68 = .ok (.goto 4, 3) := by decide +kernel
theorem dAs_placeNext_71 : decode ccAs_placeNext 71 = .ok (.iconst 0, 1) := by decide +kernel
theorem dAs_placeNext_72 : decode ccAs_placeNext 72 = .ok (.ireturn, 1) := by decide +kernel
def fAs_placeNext_53  (z : SC) (a : Int32) (b : Bool) (v4 : Bool) : Int32 × SC :=
  (if v4 = true then ((fAs_newPlace z (fAs_bestForNext z a) b).1, (fAs_newPlace z (fAs_bestForNext z a) b).2) else (0, z))
def fAs_placeNext_51  (z : SC) (s0 : Bool) (a : Int32) (b : Bool) : Int32 × SC :=
  fAs_placeNext_53 z a b s0
def fAs_placeNext_50  (z : SC) (a : Int32) (b : Bool) : Int32 × SC :=
  fAs_placeNext_51 z false a b
def fAs_placeNext (z0 : SC) (a : Int32) (b : Bool) : Int32 × SC :=
  (if (c_nparts z0 a.toNatClampNeg) = ((-1) : Int32) then (if (c_acount z0) ≤ (a + 1) then fAs_placeNext_50 z0 a b else (if (c_lparts z0 ((a + 1).toNatClampNeg)) = ((-1) : Int32) then fAs_placeNext_51 z0 true a b else fAs_placeNext_50 z0 a b)) else ((fAs_placePart z0 (c_nparts z0 a.toNatClampNeg) (fAs_bestForNext z0 a) b).1, (fAs_placePart z0 (c_nparts z0 a.toNatClampNeg) (fAs_bestForNext z0 a) b).2))
set_option maxHeartbeats 4000000 in
set_option maxRecDepth 100000 in
theorem kAs_placeNext (l : Launch) (D : va_G) (q : Nat → Nat) (cI cJ cZ : ClassId) (hq : c_inj q) (z0 : SC) (a : Int32) (b : Bool) (ha : vp_in a 40) (hA : c_A z0) (hl9 : 0 ≤ (c_locs z0 a.toNatClampNeg).toInt) (hd9 : 0 ≤ (c_dat z0 a.toNatClampNeg).toInt) : Met l yAs_placeNext wsAs_placeNext { frames := 4, cells := 0, slots := 0, locals := 86 } (va_Pc [.ref (q 6), .int (a), .int (bb (b))] (c_C D q cI cJ cZ z0)) (cQw (some (.int ((fAs_placeNext z0 a b).1))) (c_W D q cI cJ cZ (fAs_placeNext z0 a b).2) (c_qs q)) 0 0 (c_qs q) := by
  refine Met.ofW (cc := ccAs_placeNext) (maxL := 5) (ret := (some .int)) (by decide +kernel) rfl ?_
  intro p e s m args below meth c s₁ B hml hv
  obtain ⟨rfl, hP, hK⟩ := hv
  have hx := B.exec
  have hb := B.bytes
  have hr := B.returns
  have hts := atoms_spec (ws := wsAs_placeNext) B.pre
  have hown : s.vm.findClass RAs = some m.cls := findClass_of_methodNamed B.named
  have hlocks := B.notSynchronized
  have w0 := hts (.fieldLink RAs 19 "DrumMachine$Assembler" "nextParts" "[I") (List.mem_cons_of_mem _ wm1_148)
  have w1 := hts (.fieldLink RAs 64 "DrumMachine$Assembler" "count" "I") (List.mem_cons_of_mem _ wm1_155)
  have w2 := hts (.fieldLink RAs 9 "DrumMachine$Assembler" "locationParts" "[I") (List.mem_cons_of_mem _ wm1_145)
  have i0 : ∀ w ∈ u_ws RAs TAs 11, w ∈ wsAs_placeNext := fun w h => List.mem_cons_of_mem _ (inAAs w h)
  have hS : va_S (c_qs q) s.heap s.heap [] := va_S.rf
  have hl := lv_entry ([.ref (q 6), .int (a), .int (bb (b))]) (n := 5) (Nat.le_of_ble_eq_true rfl)
  rw [lg_entry_eq]
  generalize (lg_sl ([.ref (q 6), .int (a), .int (bb (b))]) ++ List.replicate (5 - (lg_sl ([.ref (q 6), .int (a), .int (bb (b))])).length) Slot.unset).toArray = ls at hl ⊢
  have hl : lv_has ls 5 [(0, .ref (q 6)), (1, .int (a)), (2, .int (bb (b)))] := hl
  have hB53 : ∀ (H : Heap) (locs : List Loc) (ls : Array Slot) (z : SC) (v4 : Bool), fAs_placeNext z0 a b = fAs_placeNext_53 z a b v4 → (0 ≤ (fAs_bestForNext z a).toInt ∧ (fAs_bestForNext z a).toInt ≤ 10000) → c_W D q cI cJ cZ z H → va_S (c_qs q) s.heap H locs → lv_has ls 5 [(0, .ref (q 6)), (1, .int (a)), (2, .int (bb (b))), (4, .int (bb (v4)))] → W p l e (headSpec wsAs_placeNext { frames := 4, cells := 0, slots := 0, locals := 86 }).room s m ([.ref (q 6), .int (a), .int (bb (b))] : List Value).toArray below meth c H locs 0 0 (MQ below (cQw (some (.int ((fAs_placeNext z0 a b).1))) (c_W D q cI cJ cZ (fAs_placeNext z0 a b).2) (c_qs q)) ([.ref (q 6), .int (a), .int (bb (b))] : List Value).toArray s 0 0 (c_qs q)) (F0 m 53 ls []) := by
    intro H locs ls z v4 hR hb9 hP hS hl
    rw [fAs_placeNext_53.eq_1] at hR
    refine lv_iload hx hb dAs_placeNext_53 (lv_at hl 3 rfl) ?_
    refine wz_ifeq hx hb dAs_placeNext_55 rfl (fun h55 => ?_) (fun h55 => ?_)
    · have hR := hR.trans (if_neg h55)
      refine lv_iconst (v := 0) hx hb dAs_placeNext_71 (by decide) ?_
      exact W.iret hx hb hr (fun t ht _ => ⟨by rw [hR]; first | done | rfl, by rw [hR, ht]; exact hP, hS.F ht⟩) hS.2.2 dAs_placeNext_72
    · have hR := hR.trans (if_pos h55)
      refine lv_aload_n hx hb dAs_placeNext_58 rfl (lv_at hl 0 rfl) ?_
      refine lv_aload_n hx hb dAs_placeNext_59 rfl (lv_at hl 0 rfl) ?_
      refine lv_iload_n hx hb dAs_placeNext_60 rfl (lv_at hl 1 rfl) ?_
      refine cl_rd (W.runV (As := [.int (a)]) (rest := [.ref (q 6)]) ⟨hx, hb, hml, hown, hts⟩ (kAs_bestForNext l D q cI cJ cZ hq z a ha) (cwV 1 hts (gV wm3_39 wm3_41 ws1_13 wm1_8 wm3_42) rfl rfl rfl (by decide +kernel) ⟨Nat.le_of_ble_eq_true rfl, Nat.le_of_ble_eq_true rfl⟩) (c_preV6 hK hP) rfl rfl hl.1 rfl (lv_room (Nat.le_of_ble_eq_true rfl)) dAs_placeNext_61 ⟨Nat.le_refl _, Nat.le_refl _⟩) ?_
      refine lv_iload_n hx hb dAs_placeNext_64 rfl (lv_at hl 2 rfl) ?_
      refine cl_wr (W.runV (As := [.int ((fAs_bestForNext z a)), .int (bb (b))]) (rest := []) ⟨hx, hb, hml, hown, hts⟩ (kAs_newPlace l D q cI cJ cZ hq z (fAs_bestForNext z a) b hb9) (cwV 2 hts (gV wm3_19 wm3_21 ws1_8 wm1_8 wm3_22) rfl rfl rfl (by decide +kernel) ⟨Nat.le_of_ble_eq_true rfl, Nat.le_of_ble_eq_true rfl⟩) (c_preV6 hK hP) rfl rfl hl.1 rfl (lv_room (Nat.le_of_ble_eq_true rfl)) dAs_placeNext_65 ⟨Nat.le_refl _, Nat.le_refl _⟩) hS (fun _ h => h) (fun _ h => h) (fun H locs hP hS => ?_)
      refine lv_goto hx hb dAs_placeNext_68 rfl ?_
      exact W.iret hx hb hr (fun t ht _ => ⟨by rw [hR]; first | done | rfl, by rw [hR, ht]; exact hP, hS.F ht⟩) hS.2.2 dAs_placeNext_72
  have hB51 : ∀ (H : Heap) (locs : List Loc) (ls : Array Slot) (z : SC) (s0 : Bool), fAs_placeNext z0 a b = fAs_placeNext_51 z s0 a b → (0 ≤ (fAs_bestForNext z a).toInt ∧ (fAs_bestForNext z a).toInt ≤ 10000) → c_W D q cI cJ cZ z H → va_S (c_qs q) s.heap H locs → lv_has ls 5 [(0, .ref (q 6)), (1, .int (a)), (2, .int (bb (b)))] → W p l e (headSpec wsAs_placeNext { frames := 4, cells := 0, slots := 0, locals := 86 }).room s m ([.ref (q 6), .int (a), .int (bb (b))] : List Value).toArray below meth c H locs 0 0 (MQ below (cQw (some (.int ((fAs_placeNext z0 a b).1))) (c_W D q cI cJ cZ (fAs_placeNext z0 a b).2) (c_qs q)) ([.ref (q 6), .int (a), .int (bb (b))] : List Value).toArray s 0 0 (c_qs q)) (F0 m 51 ls [.int (bb (s0))]) := by
    intro H locs ls z s0 hR hb9 hP hS hl
    rw [fAs_placeNext_51.eq_1] at hR
    refine lv_istore (lv' := [(4, .int (bb (s0))), (0, .ref (q 6)), (1, .int (a)), (2, .int (bb (b)))]) hx hb dAs_placeNext_51 hl (by decide) rfl (fun ls hl => ?_)
    exact hB53 H locs ls z s0 hR (by first | exact hb9 | exact bn_b ha hA hl9 hd9) hP hS (lv_sub hl [1, 2, 3, 0] rfl)
  have hB50 : ∀ (H : Heap) (locs : List Loc) (ls : Array Slot) (z : SC), fAs_placeNext z0 a b = fAs_placeNext_50 z a b → (0 ≤ (fAs_bestForNext z a).toInt ∧ (fAs_bestForNext z a).toInt ≤ 10000) → c_W D q cI cJ cZ z H → va_S (c_qs q) s.heap H locs → lv_has ls 5 [(0, .ref (q 6)), (1, .int (a)), (2, .int (bb (b)))] → W p l e (headSpec wsAs_placeNext { frames := 4, cells := 0, slots := 0, locals := 86 }).room s m ([.ref (q 6), .int (a), .int (bb (b))] : List Value).toArray below meth c H locs 0 0 (MQ below (cQw (some (.int ((fAs_placeNext z0 a b).1))) (c_W D q cI cJ cZ (fAs_placeNext z0 a b).2) (c_qs q)) ([.ref (q 6), .int (a), .int (bb (b))] : List Value).toArray s 0 0 (c_qs q)) (F0 m 50 ls []) := by
    intro H locs ls z hR hb9 hP hS hl
    rw [fAs_placeNext_50.eq_1] at hR
    refine lv_iconst (v := 0) hx hb dAs_placeNext_50 (by decide) ?_
    exact hB51 H locs ls z false hR (by first | exact hb9 | exact bn_b ha hA hl9 hd9) hP hS (lv_sub hl [0, 1, 2] rfl)
  have hR := fAs_placeNext.eq_1 z0 a b
  refine lv_aload_n hx hb dAs_placeNext_0 rfl (lv_at hl 0 rfl) ?_
  refine cg6_nextParts hx hb hts i0 hown hK hP w0 dAs_placeNext_1 ?_
  refine lv_iload_n hx hb dAs_placeNext_4 rfl (lv_at hl 1 rfl) ?_
  refine cl_nparts hx hb hK hP ha dAs_placeNext_5 ?_
  refine lv_istore_n (lv' := [(3, .int (c_nparts z0 a.toNatClampNeg)), (0, .ref (q 6)), (1, .int (a)), (2, .int (bb (b)))]) hx hb dAs_placeNext_6 rfl hl (by decide) rfl (fun ls hl => ?_)
  refine lv_iload_n hx hb dAs_placeNext_7 rfl (lv_at hl 0 rfl) ?_
  refine lv_iconst (v := (-1)) hx hb dAs_placeNext_8 (by decide) ?_
  refine lv_icmp_eq hx hb dAs_placeNext_9 rfl (fun h9 => ?_) (fun h9 => ?_)
  · have hR := hR.trans (if_pos h9)
    refine lv_iload_n hx hb dAs_placeNext_24 rfl (lv_at hl 2 rfl) ?_
    refine lv_iconst (v := 1) hx hb dAs_placeNext_25 (by decide) ?_
    refine lv_iadd hx hb dAs_placeNext_26 ?_
    refine lv_aload_n hx hb dAs_placeNext_27 rfl (lv_at hl 1 rfl) ?_
    refine cg6_count hx hb hts i0 hown hK hP w1 dAs_placeNext_28 ?_
    refine lv_icmp_ge hx hb dAs_placeNext_31 rfl (fun h31 => ?_) (fun h31 => ?_)
    · have hR := hR.trans (if_pos h31)
      exact hB50 s.heap [] ls z0 hR (by first | exact hb9 | exact bn_b ha hA hl9 hd9) hP hS (lv_sub hl [1, 2, 3] rfl)
    · have hR := hR.trans (if_neg h31)
      refine lv_aload_n hx hb dAs_placeNext_34 rfl (lv_at hl 1 rfl) ?_
      refine cg6_locationParts hx hb hts i0 hown hK hP w2 dAs_placeNext_35 ?_
      refine lv_iload_n hx hb dAs_placeNext_38 rfl (lv_at hl 2 rfl) ?_
      refine lv_iconst (v := 1) hx hb dAs_placeNext_39 (by decide) ?_
      refine lv_iadd hx hb dAs_placeNext_40 ?_
      refine cl_lparts hx hb hK hP (nx_in ha hA h31) dAs_placeNext_41 ?_
      refine lv_iconst (v := (-1)) hx hb dAs_placeNext_42 (by decide) ?_
      refine lv_icmp_ne hx hb dAs_placeNext_43 rfl (fun h43 => ?_) (fun h43 => ?_)
      · have hR := hR.trans (if_neg h43)
        exact hB50 s.heap [] ls z0 hR (by first | exact hb9 | exact bn_b ha hA hl9 hd9) hP hS (lv_sub hl [1, 2, 3] rfl)
      · have hR := hR.trans (if_pos h43)
        refine lv_iconst (v := 1) hx hb dAs_placeNext_46 (by decide) ?_
        refine lv_goto hx hb dAs_placeNext_47 rfl ?_
        exact hB51 s.heap [] ls z0 true hR (by first | exact hb9 | exact bn_b ha hA hl9 hd9) hP hS (lv_sub hl [1, 2, 3] rfl)
  · have hR := hR.trans (if_neg h9)
    refine lv_aload_n hx hb dAs_placeNext_12 rfl (lv_at hl 1 rfl) ?_
    refine lv_iload_n hx hb dAs_placeNext_13 rfl (lv_at hl 0 rfl) ?_
    refine lv_aload_n hx hb dAs_placeNext_14 rfl (lv_at hl 1 rfl) ?_
    refine lv_iload_n hx hb dAs_placeNext_15 rfl (lv_at hl 2 rfl) ?_
    refine cl_rd (W.runV (As := [.int (a)]) (rest := [.int (c_nparts z0 a.toNatClampNeg), .ref (q 6)]) ⟨hx, hb, hml, hown, hts⟩ (kAs_bestForNext l D q cI cJ cZ hq z0 a ha) (cwV 1 hts (gV wm3_39 wm3_41 ws1_13 wm1_8 wm3_42) rfl rfl rfl (by decide +kernel) ⟨Nat.le_of_ble_eq_true rfl, Nat.le_of_ble_eq_true rfl⟩) (c_preV6 hK hP) rfl rfl hl.1 rfl (lv_room (Nat.le_of_ble_eq_true rfl)) dAs_placeNext_16 ⟨Nat.le_refl _, Nat.le_refl _⟩) ?_
    refine lv_iload_n hx hb dAs_placeNext_19 rfl (lv_at hl 3 rfl) ?_
    refine cl_wr (W.runV (As := [.int ((c_nparts z0 a.toNatClampNeg)), .int ((fAs_bestForNext z0 a)), .int (bb (b))]) (rest := []) ⟨hx, hb, hml, hown, hts⟩ (kAs_placePart l D q cI cJ cZ hq z0 (c_nparts z0 a.toNatClampNeg) (fAs_bestForNext z0 a) b (bn_b ha hA hl9 hd9)) (cwV 3 hts (gV wm3_15 wm3_17 ws1_7 wm1_8 wm3_18) rfl rfl rfl (by decide +kernel) ⟨Nat.le_of_ble_eq_true rfl, Nat.le_of_ble_eq_true rfl⟩) (c_preV6 hK hP) rfl rfl hl.1 rfl (lv_room (Nat.le_of_ble_eq_true rfl)) dAs_placeNext_20 ⟨Nat.le_refl _, Nat.le_refl _⟩) hS (fun _ h => h) (fun _ h => h) (fun H locs hP hS => ?_)
    exact W.iret hx hb hr (fun t ht _ => ⟨by rw [hR]; first | done | rfl, by rw [hR, ht]; exact hP, hS.F ht⟩) hS.2.2 dAs_placeNext_23
