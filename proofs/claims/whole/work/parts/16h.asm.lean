theorem dAs_placeAll_0 : decode ccAs_placeAll 0 = .ok (.aload_n 0, 1) := by decide +kernel
theorem dAs_placeAll_1 : decode ccAs_placeAll 1 = .ok (.invokevirtual 68, 3) := by decide +kernel
theorem dAs_placeAll_4 : decode ccAs_placeAll 4 = .ok (.aload_n 0, 1) := by decide +kernel
theorem dAs_placeAll_5 : decode ccAs_placeAll 5 = .ok (.invokevirtual 71, 3) := by decide +kernel
theorem dAs_placeAll_8 : decode ccAs_placeAll 8 = .ok (.iconst 1, 1) := by decide +kernel
theorem dAs_placeAll_9 : decode ccAs_placeAll 9 = .ok (.istore_n 2, 1) := by decide +kernel
theorem dAs_placeAll_10 : decode ccAs_placeAll 10 = .ok (.iconst 0, 1) := by decide +kernel
theorem dAs_placeAll_11 : decode ccAs_placeAll 11 = .ok (.istore_n 3, 1) := by decide +kernel
theorem dAs_placeAll_12 : decode ccAs_placeAll 12 = .ok (.iload_n 3, 1) := by decide +kernel
theorem dAs_placeAll_13 : decode ccAs_placeAll 13 = .ok (.aload_n 0, 1) := by decide +kernel
theorem dAs_placeAll_14 : decode ccAs_placeAll 14 = .ok (.getfield 64, 3) := by decide +kernel
theorem dAs_placeAll_17 : decode ccAs_placeAll 17 = .ok (.if_icmp .ge 36, 3) := by decide +kernel
theorem dAs_placeAll_20 : decode ccAs_placeAll 20 = .ok (.iload_n 2, 1) := by decide +kernel
theorem dAs_placeAll_21 : decode ccAs_placeAll 21 = .ok (.ifCond .eq 32, 3) := by decide +kernel
theorem dAs_placeAll_24 : decode ccAs_placeAll 24 = .ok (.aload_n 0, 1) := by decide +kernel
theorem dAs_placeAll_25 : decode ccAs_placeAll 25 = .ok (.iload_n 3, 1) := by decide +kernel
theorem dAs_placeAll_26 : decode ccAs_placeAll 26 = .ok (.iload_n 1, 1) := by decide +kernel
theorem dAs_placeAll_27 : decode ccAs_placeAll 27 = .ok (.invokevirtual 74, 3) := by decide +kernel
theorem dAs_placeAll_30 : decode ccAs_placeAll 30 = .ok (.ifCond .eq 15, 3) := by decide +kernel
theorem dAs_placeAll_33 : decode ccAs_placeAll 33 = .ok (.aload_n 0, 1) := by decide +kernel
theorem dAs_placeAll_34 : decode ccAs_placeAll 34 = .ok (.iload_n 3, 1) := by decide +kernel
theorem dAs_placeAll_35 : decode ccAs_placeAll 35 = .ok (.invokevirtual 78, 3) := by decide +kernel
theorem dAs_placeAll_38 : decode ccAs_placeAll 38 = .ok (.ifCond .ne 7, 3) := by decide +kernel
theorem dAs_placeAll_41 : decode ccAs_placeAll 41 = .ok (.iconst 1, 1) := by decide +kernel
theorem dAs_placeAll_42 : decode ccAs_placeAll 42 = .ok (.goto 4, 3) := by decide +kernel
theorem dAs_placeAll_45 : decode ccAs_placeAll 45 = .ok (.iconst 0, 1) := by decide +kernel
theorem dAs_placeAll_46 : decode ccAs_placeAll 46 = .ok (.istore_n 2, 1) := by decide +kernel
theorem dAs_placeAll_47 : decode ccAs_placeAll 47 = .ok (.iinc 3 1, 3) := by decide +kernel
theorem dAs_placeAll_50 : decode ccAs_placeAll 50 = .ok (.goto (-38), 3) := by decide +kernel
theorem dAs_placeAll_53 : decode ccAs_placeAll 53 = .ok (.iload_n 2, 1) := by decide +kernel
theorem dAs_placeAll_54 : decode ccAs_placeAll 54 = .ok (.ifCond .ne 7, 3) := by decide +kernel
theorem dAs_placeAll_57 : decode ccAs_placeAll 57 = .ok (.aload_n 0, 1) := by decide +kernel
theorem dAs_placeAll_58 : decode ccAs_placeAll 58 = .ok (.invokevirtual 68, 3) := by decide +kernel
theorem dAs_placeAll_61 : decode ccAs_placeAll 61 = .ok (.iload_n 2, 1) := by decide +kernel
theorem dAs_placeAll_62 : decode ccAs_placeAll 62 = .ok (.ireturn, 1) := by decide +kernel
def fAs_placeAll_53  (z : SC) (v2 : Bool) : Bool × SC :=
  (if v2 = true then (v2, z) else (v2, fAs_forgetPlaces z))
def fAs_placeAll_12  : Nat → SC → Bool → Bool → Nat → Bool × SC
  | 0, z, b, v2, v3 => (false, z)
  | fu + 1, z, b, v2, v3 => (if (c_acount z) ≤ (nI (v3)) then fAs_placeAll_53 z v2 else (if v2 = true then (if ((fAs_placeLine z (nI (v3)) b).1) = true then (if (fAs_isLocationOfEarlierLine ((fAs_placeLine z (nI (v3)) b).2) (nI (v3))) = true then fAs_placeAll_12 fu ((fAs_placeLine z (nI (v3)) b).2) b false (v3 + 1) else fAs_placeAll_12 fu ((fAs_placeLine z (nI (v3)) b).2) b true (v3 + 1)) else fAs_placeAll_12 fu ((fAs_placeLine z (nI (v3)) b).2) b false (v3 + 1)) else fAs_placeAll_53 z v2))
def fAs_placeAll (z0 : SC) (b : Bool) : Bool × SC :=
  fAs_placeAll_12 41 (fAs_markTaken (fAs_forgetPlaces z0)) b true 0
set_option maxHeartbeats 4000000 in
set_option maxRecDepth 100000 in
theorem kAs_placeAll (l : Launch) (D : va_G) (q : Nat → Nat) (cI cJ cZ : ClassId) (hq : c_inj q) (z0 : SC) (b : Bool) (hA : c_A z0) : Met l yAs_placeAll wsAs_placeAll { frames := 6, cells := 0, slots := 0, locals := 132 } (va_Pc [.ref (q 6), .int (bb (b))] (c_C D q cI cJ cZ z0)) (cQw (some (.int (bb ((fAs_placeAll z0 b).1)))) (c_W D q cI cJ cZ (fAs_placeAll z0 b).2) (c_qs q)) 0 0 (c_qs q) := by
  refine Met.ofW (cc := ccAs_placeAll) (maxL := 4) (ret := (some .boolean)) (by decide +kernel) rfl ?_
  intro p e s m args below meth c s₁ B hml hv
  obtain ⟨rfl, hP, hK⟩ := hv
  have hx := B.exec
  have hb := B.bytes
  have hr := B.returns
  have hts := atoms_spec (ws := wsAs_placeAll) B.pre
  have hown : s.vm.findClass RAs = some m.cls := findClass_of_methodNamed B.named
  have hlocks := B.notSynchronized
  have w0 := hts (.fieldLink RAs 64 "DrumMachine$Assembler" "count" "I") (List.mem_cons_of_mem _ wm1_155)
  have i0 : ∀ w ∈ u_ws RAs TAs 11, w ∈ wsAs_placeAll := fun w h => List.mem_cons_of_mem _ (inAAs w h)
  have hS : va_S (c_qs q) s.heap s.heap [] := va_S.rf
  have hl := lv_entry ([.ref (q 6), .int (bb (b))]) (n := 4) (Nat.le_of_ble_eq_true rfl)
  rw [lg_entry_eq]
  generalize (lg_sl ([.ref (q 6), .int (bb (b))]) ++ List.replicate (4 - (lg_sl ([.ref (q 6), .int (bb (b))])).length) Slot.unset).toArray = ls at hl ⊢
  have hl : lv_has ls 4 [(0, .ref (q 6)), (1, .int (bb (b)))] := hl
  have hB53 : ∀ (H : Heap) (locs : List Loc) (ls : Array Slot) (z : SC) (v2 : Bool), fAs_placeAll z0 b = fAs_placeAll_53 z v2 → c_W D q cI cJ cZ z H → va_S (c_qs q) s.heap H locs → lv_has ls 4 [(0, .ref (q 6)), (2, .int (bb (v2)))] → W p l e (headSpec wsAs_placeAll { frames := 6, cells := 0, slots := 0, locals := 132 }).room s m ([.ref (q 6), .int (bb (b))] : List Value).toArray below meth c H locs 0 0 (MQ below (cQw (some (.int (bb ((fAs_placeAll z0 b).1)))) (c_W D q cI cJ cZ (fAs_placeAll z0 b).2) (c_qs q)) ([.ref (q 6), .int (bb (b))] : List Value).toArray s 0 0 (c_qs q)) (F0 m 53 ls []) := by
    intro H locs ls z v2 hR hP hS hl
    rw [fAs_placeAll_53.eq_1] at hR
    refine lv_iload_n hx hb dAs_placeAll_53 rfl (lv_at hl 1 rfl) ?_
    refine wz_ifne hx hb dAs_placeAll_54 rfl (fun h54 => ?_) (fun h54 => ?_)
    · have hR := hR.trans (if_pos h54)
      refine lv_iload_n hx hb dAs_placeAll_61 rfl (lv_at hl 1 rfl) ?_
      exact W.zret hx hb hr (nz_b _) (fun t ht _ => ⟨by rw [hR]; first | done | rfl, by rw [hR, ht]; exact hP, hS.F ht⟩) hS.2.2 dAs_placeAll_62
    · have hR := hR.trans (if_neg h54)
      refine lv_aload_n hx hb dAs_placeAll_57 rfl (lv_at hl 0 rfl) ?_
      refine cl_wr (W.runV (As := []) (rest := []) ⟨hx, hb, hml, hown, hts⟩ (kAs_forgetPlaces l D q cI cJ cZ hq z) (cwV 0 hts (gV wm1_203 wm1_205 ws1_0 wm1_8 wm1_206) rfl rfl rfl (by decide +kernel) ⟨Nat.le_of_ble_eq_true rfl, Nat.le_of_ble_eq_true rfl⟩) (c_preV6 hK hP) rfl rfl hl.1 rfl (lv_room (Nat.le_of_ble_eq_true rfl)) dAs_placeAll_58 ⟨Nat.le_refl _, Nat.le_refl _⟩) hS (fun _ h => h) (fun _ h => h) (fun H locs hP hS => ?_)
      refine lv_iload_n hx hb dAs_placeAll_61 rfl (lv_at hl 1 rfl) ?_
      exact W.zret hx hb hr (nz_b _) (fun t ht _ => ⟨by rw [hR]; first | done | rfl, by rw [hR, ht]; exact hP, hS.F ht⟩) hS.2.2 dAs_placeAll_62
  have hB12 : ∀ (n12 : Nat) (H : Heap) (locs : List Loc) (ls : Array Slot) (z : SC) (v2 : Bool) (v3 : Nat), 40 - v3 < n12 → fAs_placeAll z0 b = fAs_placeAll_12 n12 z b v2 v3 → (v3 ≤ 40) → (c_A z) → c_W D q cI cJ cZ z H → va_S (c_qs q) s.heap H locs → lv_has ls 4 [(0, .ref (q 6)), (1, .int (bb (b))), (2, .int (bb (v2))), (3, .int (nI (v3)))] → W p l e (headSpec wsAs_placeAll { frames := 6, cells := 0, slots := 0, locals := 132 }).room s m ([.ref (q 6), .int (bb (b))] : List Value).toArray below meth c H locs 0 0 (MQ below (cQw (some (.int (bb ((fAs_placeAll z0 b).1)))) (c_W D q cI cJ cZ (fAs_placeAll z0 b).2) (c_qs q)) ([.ref (q 6), .int (bb (b))] : List Value).toArray s 0 0 (c_qs q)) (F0 m 12 ls []) := by
    intro n12
    induction n12 with
    | zero => intro H locs ls z v2 v3 hn12; exact absurd hn12 (Nat.not_lt_zero _)
    | succ n12 ih12 =>
      intro H locs ls z v2 v3 hn12 hR h3 hA hP hS hl
      rw [fAs_placeAll_12.eq_2] at hR
      refine lv_iload_n hx hb dAs_placeAll_12 rfl (lv_at hl 3 rfl) ?_
      refine lv_aload_n hx hb dAs_placeAll_13 rfl (lv_at hl 0 rfl) ?_
      refine cg6_count hx hb hts i0 hown hK hP w0 dAs_placeAll_14 ?_
      refine lv_icmp_ge hx hb dAs_placeAll_17 rfl (fun h17 => ?_) (fun h17 => ?_)
      · have hR := hR.trans (if_pos h17)
        exact hB53 H locs ls z v2 hR hP hS (lv_sub hl [0, 2] rfl)
      · have hR := hR.trans (if_neg h17)
        refine lv_iload_n hx hb dAs_placeAll_20 rfl (lv_at hl 2 rfl) ?_
        refine wz_ifeq hx hb dAs_placeAll_21 rfl (fun h21 => ?_) (fun h21 => ?_)
        · have hR := hR.trans (if_neg h21)
          exact hB53 H locs ls z v2 hR hP hS (lv_sub hl [0, 2] rfl)
        · have hR := hR.trans (if_pos h21)
          refine lv_aload_n hx hb dAs_placeAll_24 rfl (lv_at hl 0 rfl) ?_
          refine lv_iload_n hx hb dAs_placeAll_25 rfl (lv_at hl 3 rfl) ?_
          refine lv_iload_n hx hb dAs_placeAll_26 rfl (lv_at hl 1 rfl) ?_
          refine cl_wr (W.runV (As := [.int ((nI (v3))), .int (bb (b))]) (rest := []) ⟨hx, hb, hml, hown, hts⟩ (kAs_placeLine l D q cI cJ cZ hq z (nI (v3)) b (mt_in hA.1 h17 h3) hA) (cwV 2 hts (gV wm3_7 wm3_9 ws1_5 wm1_8 wm3_10) rfl rfl rfl (by decide +kernel) ⟨Nat.le_of_ble_eq_true rfl, Nat.le_of_ble_eq_true rfl⟩) (c_preV6 hK hP) rfl rfl hl.1 rfl (lv_room (Nat.le_of_ble_eq_true rfl)) dAs_placeAll_27 ⟨Nat.le_refl _, Nat.le_refl _⟩) hS (fun _ h => h) (fun _ h => h) (fun H locs hP hS => ?_)
          refine wz_ifeq hx hb dAs_placeAll_30 rfl (fun h30 => ?_) (fun h30 => ?_)
          · have hR := hR.trans (if_neg h30)
            refine lv_iconst (v := 0) hx hb dAs_placeAll_45 (by decide) ?_
            refine lv_istore_n (lv' := [(2, .int (0)), (0, .ref (q 6)), (1, .int (bb (b))), (3, .int (nI (v3)))]) hx hb dAs_placeAll_46 rfl hl (by decide) rfl (fun ls hl => ?_)
            refine lv_iinc (k := 3) (lv' := [(3, .int (nI (v3 + 1))), (2, .int (0)), (0, .ref (q 6)), (1, .int (bb (b)))]) hx hb dAs_placeAll_47 hl rfl (nI_1 _) (by decide) rfl (fun ls hl => ?_)
            refine lv_goto hx hb dAs_placeAll_50 rfl ?_
            exact ih12 H locs ls ((fAs_placeLine z (nI (v3)) b).2) false (v3 + 1) (mt_m hA.1 h17 h3 hn12) hR (mt_b hA.1 h17 h3) (pa_s (mt_in hA.1 h17 h3) hA) hP hS (lv_sub hl [2, 3, 1, 0] rfl)
          · have hR := hR.trans (if_pos h30)
            refine lv_aload_n hx hb dAs_placeAll_33 rfl (lv_at hl 0 rfl) ?_
            refine lv_iload_n hx hb dAs_placeAll_34 rfl (lv_at hl 3 rfl) ?_
            refine cl_rd (W.runV (As := [.int ((nI (v3)))]) (rest := []) ⟨hx, hb, hml, hown, hts⟩ (kAs_isLocationOfEarlierLine l D q cI cJ cZ hq ((fAs_placeLine z (nI (v3)) b).2) (nI (v3)) (mt_in hA.1 h17 h3)) (cwV 1 hts (gV wm3_52 wm3_54 ws1_14 wm1_8 wm3_55) rfl rfl rfl (by decide +kernel) ⟨Nat.le_of_ble_eq_true rfl, Nat.le_of_ble_eq_true rfl⟩) (c_preV6 hK hP) rfl rfl hl.1 rfl (lv_room (Nat.le_of_ble_eq_true rfl)) dAs_placeAll_35 ⟨Nat.le_refl _, Nat.le_refl _⟩) ?_
            refine wz_ifne hx hb dAs_placeAll_38 rfl (fun h38 => ?_) (fun h38 => ?_)
            · have hR := hR.trans (if_pos h38)
              refine lv_iconst (v := 0) hx hb dAs_placeAll_45 (by decide) ?_
              refine lv_istore_n (lv' := [(2, .int (0)), (0, .ref (q 6)), (1, .int (bb (b))), (3, .int (nI (v3)))]) hx hb dAs_placeAll_46 rfl hl (by decide) rfl (fun ls hl => ?_)
              refine lv_iinc (k := 3) (lv' := [(3, .int (nI (v3 + 1))), (2, .int (0)), (0, .ref (q 6)), (1, .int (bb (b)))]) hx hb dAs_placeAll_47 hl rfl (nI_1 _) (by decide) rfl (fun ls hl => ?_)
              refine lv_goto hx hb dAs_placeAll_50 rfl ?_
              exact ih12 H locs ls ((fAs_placeLine z (nI (v3)) b).2) false (v3 + 1) (mt_m hA.1 h17 h3 hn12) hR (mt_b hA.1 h17 h3) (pa_s (mt_in hA.1 h17 h3) hA) hP hS (lv_sub hl [2, 3, 1, 0] rfl)
            · have hR := hR.trans (if_neg h38)
              refine lv_iconst (v := 1) hx hb dAs_placeAll_41 (by decide) ?_
              refine lv_goto hx hb dAs_placeAll_42 rfl ?_
              refine lv_istore_n (lv' := [(2, .int (1)), (0, .ref (q 6)), (1, .int (bb (b))), (3, .int (nI (v3)))]) hx hb dAs_placeAll_46 rfl hl (by decide) rfl (fun ls hl => ?_)
              refine lv_iinc (k := 3) (lv' := [(3, .int (nI (v3 + 1))), (2, .int (1)), (0, .ref (q 6)), (1, .int (bb (b)))]) hx hb dAs_placeAll_47 hl rfl (nI_1 _) (by decide) rfl (fun ls hl => ?_)
              refine lv_goto hx hb dAs_placeAll_50 rfl ?_
              exact ih12 H locs ls ((fAs_placeLine z (nI (v3)) b).2) true (v3 + 1) (mt_m hA.1 h17 h3 hn12) hR (mt_b hA.1 h17 h3) (pa_s (mt_in hA.1 h17 h3) hA) hP hS (lv_sub hl [2, 3, 1, 0] rfl)
  have hR := fAs_placeAll.eq_1 z0 b
  refine lv_aload_n hx hb dAs_placeAll_0 rfl (lv_at hl 0 rfl) ?_
  refine cl_wr (W.runV (As := []) (rest := []) ⟨hx, hb, hml, hown, hts⟩ (kAs_forgetPlaces l D q cI cJ cZ hq z0) (cwV 0 hts (gV wm1_203 wm1_205 ws1_0 wm1_8 wm1_206) rfl rfl rfl (by decide +kernel) ⟨Nat.le_of_ble_eq_true rfl, Nat.le_of_ble_eq_true rfl⟩) (c_preV6 hK hP) rfl rfl hl.1 rfl (lv_room (Nat.le_of_ble_eq_true rfl)) dAs_placeAll_1 ⟨Nat.le_refl _, Nat.le_refl _⟩) hS (fun _ h => h) (fun _ h => h) (fun H locs hP hS => ?_)
  refine lv_aload_n hx hb dAs_placeAll_4 rfl (lv_at hl 0 rfl) ?_
  refine cl_wr (W.runV (As := []) (rest := []) ⟨hx, hb, hml, hown, hts⟩ (kAs_markTaken l D q cI cJ cZ hq (fAs_forgetPlaces z0) (pa_n hA)) (cwV 0 hts (gV wm2_239 wm3_1 ws1_3 wm1_8 wm3_2) rfl rfl rfl (by decide +kernel) ⟨Nat.le_of_ble_eq_true rfl, Nat.le_of_ble_eq_true rfl⟩) (c_preV6 hK hP) rfl rfl hl.1 rfl (lv_room (Nat.le_of_ble_eq_true rfl)) dAs_placeAll_5 ⟨Nat.le_refl _, Nat.le_refl _⟩) hS (fun _ h => h) (fun _ h => h) (fun H locs hP hS => ?_)
  refine lv_iconst (v := 1) hx hb dAs_placeAll_8 (by decide) ?_
  refine lv_istore_n (lv' := [(2, .int (1)), (0, .ref (q 6)), (1, .int (bb (b)))]) hx hb dAs_placeAll_9 rfl hl (by decide) rfl (fun ls hl => ?_)
  refine lv_iconst (v := 0) hx hb dAs_placeAll_10 (by decide) ?_
  refine lv_istore_n (lv' := [(3, .int (nI (0))), (2, .int (1)), (0, .ref (q 6)), (1, .int (bb (b)))]) hx hb dAs_placeAll_11 rfl hl (by decide) rfl (fun ls hl => ?_)
  exact hB12 41 H locs ls (fAs_markTaken (fAs_forgetPlaces z0)) true 0 (by omega) hR (by first | assumption | omega) (pa_0 hA) hP hS (lv_sub hl [2, 3, 1, 0] rfl)
theorem dAs_writeTo_0 : decode ccAs_writeTo 0 = .ok (.iconst 0, 1) := by decide +kernel
theorem dAs_writeTo_1 : decode ccAs_writeTo 1 = .ok (.istore_n 2, 1) := by decide +kernel
theorem dAs_writeTo_2 : decode ccAs_writeTo 2 = .ok (.iload_n 2, 1) := by decide +kernel
theorem dAs_writeTo_3 : decode ccAs_writeTo 3 = .ok (.aload_n 0, 1) := by decide +kernel
theorem dAs_writeTo_4 : decode ccAs_writeTo 4 = .ok (.getfield 64, 3) := by decide +kernel
theorem dAs_writeTo_7 : decode ccAs_writeTo 7 = .ok (.if_icmp .ge 41, 3) := by decide +kernel
theorem dAs_writeTo_10 : decode ccAs_writeTo 10 = .ok (.aload_n 1, 1) := by decide +kernel
theorem dAs_writeTo_11 : decode ccAs_writeTo 11 = .ok (.aload_n 0, 1) := by decide +kernel
theorem dAs_writeTo_12 : decode ccAs_writeTo 12 = .ok (.getfield 22, 3) := by decide +kernel
theorem dAs_writeTo_15 : decode ccAs_writeTo 15 = .ok (.iload_n 2, 1) := by decide +kernel
theorem dAs_writeTo_16 : decode ccAs_writeTo 16 = .ok (.iaload, 1) := by decide +kernel
theorem dAs_writeTo_17 : decode ccAs_writeTo 17 = .ok (.aload_n 0, 1) := by decide +kernel
theorem dAs_writeTo_18 : decode ccAs_writeTo 18 = .ok (.getfield 13, 3) := by decide +kernel
theorem dAs_writeTo_21 : decode ccAs_writeTo 21 = .ok (.iload_n 2, 1) := by decide +kernel
theorem dAs_writeTo_22 : decode ccAs_writeTo 22 = .ok (.iaload, 1) := by decide +kernel
theorem dAs_writeTo_23 : decode ccAs_writeTo 23 = .ok (.aload_n 0, 1) := by decide +kernel
theorem dAs_writeTo_24 : decode ccAs_writeTo 24 = .ok (.getfield 25, 3) := by decide +kernel
theorem dAs_writeTo_27 : decode ccAs_writeTo 27 = .ok (.iload_n 2, 1) := by decide +kernel
theorem dAs_writeTo_28 : decode ccAs_writeTo 28 = .ok (.iaload, 1) := by decide +kernel
theorem dAs_writeTo_29 : decode ccAs_writeTo 29 = .ok (.aload_n 0, 1) := by decide +kernel
theorem dAs_writeTo_30 : decode ccAs_writeTo 30 = .ok (.getfield 28, 3) := by decide +kernel
theorem dAs_writeTo_33 : decode ccAs_writeTo 33 = .ok (.iload_n 2, 1) := by decide +kernel
theorem dAs_writeTo_34 : decode ccAs_writeTo 34 = .ok (.iaload, 1) := by decide +kernel
theorem dAs_writeTo_35 : decode ccAs_writeTo 35 = .ok (.invokestatic 81, 3) := by decide +kernel
theorem dAs_writeTo_38 : decode ccAs_writeTo 38 = .ok (.iconst 0, 1) := by decide +kernel
theorem dAs_writeTo_39 : decode ccAs_writeTo 39 = .ok (.invokevirtual 87, 3) := by decide +kernel
theorem dAs_writeTo_42 : decode ccAs_writeTo 42 = .ok (.iinc 2 1, 3) := by decide +kernel
theorem dAs_writeTo_45 : decode ccAs_writeTo 45 = .ok (.goto (-43), 3) := by decide +kernel
theorem dAs_writeTo_48 : decode ccAs_writeTo 48 = .ok (.return_, 1) := by decide +kernel
def fAs_writeTo_2  : Nat → SC → Nat → SC
  | 0, z, v2 => z
  | fu + 1, z, v2 => (if (c_acount z) ≤ (nI (v2)) then z else fAs_writeTo_2 fu (fDr_store z (c_locs z ((nI (v2)).toNatClampNeg)) (fDg_instruction (c_ops z ((nI (v2)).toNatClampNeg)) (c_dat z ((nI (v2)).toNatClampNeg)) (c_nexts z ((nI (v2)).toNatClampNeg))) false) (v2 + 1))
def fAs_writeTo (z0 : SC)  : SC :=
  fAs_writeTo_2 41 z0 0
set_option maxHeartbeats 4000000 in
set_option maxRecDepth 100000 in
theorem kAs_writeTo (l : Launch) (D : va_G) (q : Nat → Nat) (cI cJ cZ : ClassId) (hq : c_inj q) (z0 : SC)  (hA : c_A z0) (hw : ∀ i, i < 40 → (nI i) < c_acount z0 → 0 ≤ (c_locs z0 i).toInt) : Met l yAs_writeTo wsAs_writeTo { frames := 2, cells := 0, slots := 0, locals := 47 } (va_Pc [.ref (q 6), .ref (q 1)] (c_C D q cI cJ cZ z0)) (cQw none (c_W D q cI cJ cZ (fAs_writeTo z0)) (c_qs q)) 0 0 (c_qs q) := by
  refine Met.ofW (cc := ccAs_writeTo) (maxL := 3) (ret := none) (by decide +kernel) rfl ?_
  intro p e s m args below meth c s₁ B hml hv
  obtain ⟨rfl, hP, hK⟩ := hv
  have hx := B.exec
  have hb := B.bytes
  have hr := B.returns
  have hts := atoms_spec (ws := wsAs_writeTo) B.pre
  have hown : s.vm.findClass RAs = some m.cls := findClass_of_methodNamed B.named
  have hlocks := B.notSynchronized
  have w0 := hts (.fieldLink RAs 64 "DrumMachine$Assembler" "count" "I") (List.mem_cons_of_mem _ wm1_155)
  have w1 := hts (.fieldLink RAs 22 "DrumMachine$Assembler" "locations" "[I") (List.mem_cons_of_mem _ wm1_149)
  have w2 := hts (.fieldLink RAs 13 "DrumMachine$Assembler" "operations" "[I") (List.mem_cons_of_mem _ wm1_146)
  have w3 := hts (.fieldLink RAs 25 "DrumMachine$Assembler" "data" "[I") (List.mem_cons_of_mem _ wm1_150)
  have w4 := hts (.fieldLink RAs 28 "DrumMachine$Assembler" "nexts" "[I") (List.mem_cons_of_mem _ wm1_151)
  have i0 : ∀ w ∈ u_ws RAs TAs 11, w ∈ wsAs_writeTo := fun w h => List.mem_cons_of_mem _ (inAAs w h)
  have hS : va_S (c_qs q) s.heap s.heap [] := va_S.rf
  have hl := lv_entry ([.ref (q 6), .ref (q 1)]) (n := 3) (Nat.le_of_ble_eq_true rfl)
  rw [lg_entry_eq]
  generalize (lg_sl ([.ref (q 6), .ref (q 1)]) ++ List.replicate (3 - (lg_sl ([.ref (q 6), .ref (q 1)])).length) Slot.unset).toArray = ls at hl ⊢
  have hl : lv_has ls 3 [(0, .ref (q 6)), (1, .ref (q 1))] := hl
  have hB2 : ∀ (n2 : Nat) (H : Heap) (locs : List Loc) (ls : Array Slot) (z : SC) (v2 : Nat), 40 - v2 < n2 → fAs_writeTo z0 = fAs_writeTo_2 n2 z v2 → (v2 ≤ 40) → (c_A z) → (∀ i, i < 40 → (nI i) < c_acount z → 0 ≤ (c_locs z i).toInt) → c_W D q cI cJ cZ z H → va_S (c_qs q) s.heap H locs → lv_has ls 3 [(0, .ref (q 6)), (1, .ref (q 1)), (2, .int (nI (v2)))] → W p l e (headSpec wsAs_writeTo { frames := 2, cells := 0, slots := 0, locals := 47 }).room s m ([.ref (q 6), .ref (q 1)] : List Value).toArray below meth c H locs 0 0 (MQ below (cQw none (c_W D q cI cJ cZ (fAs_writeTo z0)) (c_qs q)) ([.ref (q 6), .ref (q 1)] : List Value).toArray s 0 0 (c_qs q)) (F0 m 2 ls []) := by
    intro n2
    induction n2 with
    | zero => intro H locs ls z v2 hn2; exact absurd hn2 (Nat.not_lt_zero _)
    | succ n2 ih2 =>
      intro H locs ls z v2 hn2 hR h2 hA hw hP hS hl
      rw [fAs_writeTo_2.eq_2] at hR
      refine lv_iload_n hx hb dAs_writeTo_2 rfl (lv_at hl 2 rfl) ?_
      refine lv_aload_n hx hb dAs_writeTo_3 rfl (lv_at hl 0 rfl) ?_
      refine cg6_count hx hb hts i0 hown hK hP w0 dAs_writeTo_4 ?_
      refine lv_icmp_ge hx hb dAs_writeTo_7 rfl (fun h7 => ?_) (fun h7 => ?_)
      · have hR := hR.trans (if_pos h7)
        exact W.vret hx hb hr (fun t ht _ => ⟨rfl, by rw [hR, ht]; exact hP, hS.F ht⟩) hS.2.2 dAs_writeTo_48
      · have hR := hR.trans (if_neg h7)
        refine lv_aload_n hx hb dAs_writeTo_10 rfl (lv_at hl 1 rfl) ?_
        refine lv_aload_n hx hb dAs_writeTo_11 rfl (lv_at hl 0 rfl) ?_
        refine cg6_locations hx hb hts i0 hown hK hP w1 dAs_writeTo_12 ?_
        refine lv_iload_n hx hb dAs_writeTo_15 rfl (lv_at hl 2 rfl) ?_
        refine cl_locs hx hb hK hP (mt_in hA.1 h7 h2) dAs_writeTo_16 ?_
        refine lv_aload_n hx hb dAs_writeTo_17 rfl (lv_at hl 0 rfl) ?_
        refine cg6_operations hx hb hts i0 hown hK hP w2 dAs_writeTo_18 ?_
        refine lv_iload_n hx hb dAs_writeTo_21 rfl (lv_at hl 2 rfl) ?_
        refine cl_ops hx hb hK hP (mt_in hA.1 h7 h2) dAs_writeTo_22 ?_
        refine lv_aload_n hx hb dAs_writeTo_23 rfl (lv_at hl 0 rfl) ?_
        refine cg6_data hx hb hts i0 hown hK hP w3 dAs_writeTo_24 ?_
        refine lv_iload_n hx hb dAs_writeTo_27 rfl (lv_at hl 2 rfl) ?_
        refine cl_dat hx hb hK hP (mt_in hA.1 h7 h2) dAs_writeTo_28 ?_
        refine lv_aload_n hx hb dAs_writeTo_29 rfl (lv_at hl 0 rfl) ?_
        refine cg6_nexts hx hb hts i0 hown hK hP w4 dAs_writeTo_30 ?_
        refine lv_iload_n hx hb dAs_writeTo_33 rfl (lv_at hl 2 rfl) ?_
        refine cl_nexts hx hb hK hP (mt_in hA.1 h7 h2) dAs_writeTo_34 ?_
        refine cl_rd (W.runS (As := [.int ((c_ops z ((nI (v2)).toNatClampNeg))), .int ((c_dat z ((nI (v2)).toNatClampNeg))), .int ((c_nexts z ((nI (v2)).toNatClampNeg)))]) (rest := [.int (c_locs z ((nI (v2)).toNatClampNeg)), .ref (q 1)]) ⟨hx, hb, hml, hown, hts⟩ (kDg_instruction l (c_ops z ((nI (v2)).toNatClampNeg)) (c_dat z ((nI (v2)).toNatClampNeg)) (c_nexts z ((nI (v2)).toNatClampNeg))) (va_cwS 3 hts (gS wm3_76 wm3_77 wm1_14 wm3_78) rfl rfl rfl (by decide +kernel) ⟨Nat.le_of_ble_eq_true rfl, Nat.le_of_ble_eq_true rfl⟩) (preT) rfl rfl hl.1 rfl (lv_room (Nat.le_of_ble_eq_true rfl)) dAs_writeTo_35 ⟨Nat.le_refl _, Nat.le_refl _⟩) ?_
        refine lv_iconst (v := 0) hx hb dAs_writeTo_38 (by decide) ?_
        refine cl_wr (W.runV (As := [.int ((c_locs z ((nI (v2)).toNatClampNeg))), .long ((fDg_instruction (c_ops z ((nI (v2)).toNatClampNeg)) (c_dat z ((nI (v2)).toNatClampNeg)) (c_nexts z ((nI (v2)).toNatClampNeg)))), .int (bb (false))]) (rest := []) ⟨hx, hb, hml, hown, hts⟩ (kDr_store l D q cI cJ cZ hq z (c_locs z ((nI (v2)).toNatClampNeg)) (fDg_instruction (c_ops z ((nI (v2)).toNatClampNeg)) (c_dat z ((nI (v2)).toNatClampNeg)) (c_nexts z ((nI (v2)).toNatClampNeg))) false (wt_in hA hw h7 h2)) (cwV 3 hts (gV wm3_81 wm2_101 wm2_102 wm1_2 wm2_103) rfl rfl rfl (by decide +kernel) ⟨Nat.le_of_ble_eq_true rfl, Nat.le_of_ble_eq_true rfl⟩) (c_preV1 hK hP) rfl rfl hl.1 rfl (lv_room (Nat.le_of_ble_eq_true rfl)) dAs_writeTo_39 ⟨Nat.le_refl _, Nat.le_refl _⟩) hS (fun _ h => h) (fun _ h => h) (fun H locs hP hS => ?_)
        refine lv_iinc (k := 2) (lv' := [(2, .int (nI (v2 + 1))), (0, .ref (q 6)), (1, .ref (q 1))]) hx hb dAs_writeTo_42 hl rfl (nI_1 _) (by decide) rfl (fun ls hl => ?_)
        refine lv_goto hx hb dAs_writeTo_45 rfl ?_
        exact ih2 H locs ls (fDr_store z (c_locs z ((nI (v2)).toNatClampNeg)) (fDg_instruction (c_ops z ((nI (v2)).toNatClampNeg)) (c_dat z ((nI (v2)).toNatClampNeg)) (c_nexts z ((nI (v2)).toNatClampNeg))) false) (v2 + 1) (mt_m hA.1 h7 h2 hn2) hR (mt_b hA.1 h7 h2) (wt_A _ _ hA) (wt_w _ _ hw) hP hS (lv_sub hl [1, 2, 0] rfl)
  have hR := fAs_writeTo.eq_1 z0
  refine lv_iconst (v := 0) hx hb dAs_writeTo_0 (by decide) ?_
  refine lv_istore_n (lv' := [(2, .int (nI (0))), (0, .ref (q 6)), (1, .ref (q 1))]) hx hb dAs_writeTo_1 rfl hl (by decide) rfl (fun ls hl => ?_)
  exact hB2 41 s.heap [] ls z0 0 (by omega) hR (by first | assumption | omega) (by first | assumption | omega) (by first | assumption | omega) hP hS (lv_sub hl [1, 2, 0] rfl)
