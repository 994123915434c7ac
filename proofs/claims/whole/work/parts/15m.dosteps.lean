theorem dPr_doSteps_0 : decode ccPr_doSteps 0 = .ok (.iconst 0, 1) := by decide +kernel
theorem dPr_doSteps_1 : decode ccPr_doSteps 1 = .ok (.istore_n 2, 1) := by decide +kernel
theorem dPr_doSteps_2 : decode ccPr_doSteps 2 = .ok (.iconst 0, 1) := by decide +kernel
theorem dPr_doSteps_3 : decode ccPr_doSteps 3 = .ok (.istore_n 3, 1) := by decide +kernel
theorem dPr_doSteps_4 : decode ccPr_doSteps 4 = .ok (.iload_n 3, 1) := by decide +kernel
theorem dPr_doSteps_5 : decode ccPr_doSteps 5 = .ok (.iload_n 1, 1) := by decide +kernel
theorem dPr_doSteps_6 : decode ccPr_doSteps 6 = .ok (.if_icmp .ge 37, 3) := by decide +kernel
theorem dPr_doSteps_9 : decode ccPr_doSteps 9 = .ok (.aload_n 0, 1) := by decide +kernel
theorem dPr_doSteps_10 : decode ccPr_doSteps 10 = .ok (.invokevirtual 60, 3) := by decide +kernel
theorem dPr_doSteps_13 : decode ccPr_doSteps 13 = .ok (.ifCond .ne 30, 3) := by decide +kernel
theorem dPr_doSteps_16 : decode ccPr_doSteps 16 = .ok (.aload_n 0, 1) := by decide +kernel
theorem dPr_doSteps_17 : decode ccPr_doSteps 17 = .ok (.aload_n 0, 1) := by decide +kernel
theorem dPr_doSteps_18 : decode ccPr_doSteps 18 = .ok (.invokevirtual 63, 3) := by decide +kernel
theorem dPr_doSteps_21 : decode ccPr_doSteps 21 = .ok (.putfield 28, 3) := by decide +kernel
theorem dPr_doSteps_24 : decode ccPr_doSteps 24 = .ok (.aload_n 0, 1) := by decide +kernel
theorem dPr_doSteps_25 : decode ccPr_doSteps 25 = .ok (.getfield 28, 3) := by decide +kernel
theorem dPr_doSteps_28 : decode ccPr_doSteps 28 = .ok (.invokestatic 67, 3) := by decide +kernel
theorem dPr_doSteps_31 : decode ccPr_doSteps 31 = .ok (.ifCond .ne 6, 3) := by decide +kernel
theorem dPr_doSteps_34 : decode ccPr_doSteps 34 = .ok (.iinc 2 1, 3) := by decide +kernel
theorem dPr_doSteps_37 : decode ccPr_doSteps 37 = .ok (.iinc 3 1, 3) := by decide +kernel
theorem dPr_doSteps_40 : decode ccPr_doSteps 40 = .ok (.goto (-36), 3) := by decide +kernel
theorem dPr_doSteps_43 : decode ccPr_doSteps 43 = .ok (.iload_n 2, 1) := by decide +kernel
theorem dPr_doSteps_44 : decode ccPr_doSteps 44 = .ok (.ireturn, 1) := by decide +kernel
def fPr_doSteps_4  : Nat → SC → Int32 → Int32 → Nat → Int32 × SC
  | 0, z, a, v2, v3 => (0, z)
  | fu + 1, z, a, v2, v3 => (if a ≤ (nI (v3)) then (v2, z) else (if (fPr_isStopped z) = true then (v2, z) else (if (fPr_isFault ((fPr_step z).1)) = true then fPr_doSteps_4 fu (c_cause_s ((fPr_step z).2) ((fPr_step z).1)) a v2 (v3 + 1) else fPr_doSteps_4 fu (c_cause_s ((fPr_step z).2) ((fPr_step z).1)) a (v2 + 1) (v3 + 1))))
def fPr_doSteps (z0 : SC) (a : Int32) : Int32 × SC :=
  fPr_doSteps_4 301 z0 a 0 0
set_option maxHeartbeats 4000000 in
set_option maxRecDepth 100000 in
theorem kPr_doSteps (l : Launch) (D : va_G) (q : Nat → Nat) (cI cJ cZ : ClassId) (hq : c_inj q) (z0 : SC) (a : Int32) (ha : a.toInt ≤ 300) (hi : vp_in (c_cfirst z0) 20) (hc : 0 ≤ (c_pcount z0).toInt) : Met l yPr_doSteps wsPr_doSteps { frames := 6, cells := 0, slots := 0, locals := 154 } (va_Pc [.ref (q 4), .int (a)] (c_C D q cI cJ cZ z0)) (cQw (some (.int ((fPr_doSteps z0 a).1))) (c_W D q cI cJ cZ (fPr_doSteps z0 a).2) (c_qs q)) 0 0 (c_qs q) := by
  refine Met.ofW (cc := ccPr_doSteps) (maxL := 4) (ret := (some .int)) (by decide +kernel) rfl ?_
  intro p e s m args below meth c s₁ B hml hv
  obtain ⟨rfl, hP, hK⟩ := hv
  have hx := B.exec
  have hb := B.bytes
  have hr := B.returns
  have hts := atoms_spec (ws := wsPr_doSteps) B.pre
  have hown : s.vm.findClass RPr = some m.cls := findClass_of_methodNamed B.named
  have hlocks := B.notSynchronized
  have w0 := hts (.fieldLink RPr 28 "DrumMachine$Processor" "cause" "I") (List.mem_cons_of_mem _ wm1_117)
  have i0 : ∀ w ∈ u_ws RPr TPr 9, w ∈ wsPr_doSteps := fun w h => List.mem_cons_of_mem _ (inAPr w h)
  have hS : va_S (c_qs q) s.heap s.heap [] := va_S.rf
  have hl := lv_entry ([.ref (q 4), .int (a)]) (n := 4) (Nat.le_of_ble_eq_true rfl)
  rw [lg_entry_eq]
  generalize (lg_sl ([.ref (q 4), .int (a)]) ++ List.replicate (4 - (lg_sl ([.ref (q 4), .int (a)])).length) Slot.unset).toArray = ls at hl ⊢
  have hl : lv_has ls 4 [(0, .ref (q 4)), (1, .int (a))] := hl
  have hB4 : ∀ (n4 : Nat) (H : Heap) (locs : List Loc) (ls : Array Slot) (z : SC) (v2 : Int32) (v3 : Nat), 300 - v3 < n4 → fPr_doSteps z0 a = fPr_doSteps_4 n4 z a v2 v3 → (v3 ≤ 300) → (vp_in (c_cfirst z) 20) → (0 ≤ (c_pcount z).toInt) → c_W D q cI cJ cZ z H → va_S (c_qs q) s.heap H locs → lv_has ls 4 [(0, .ref (q 4)), (1, .int (a)), (2, .int (v2)), (3, .int (nI (v3)))] → W p l e (headSpec wsPr_doSteps { frames := 6, cells := 0, slots := 0, locals := 154 }).room s m ([.ref (q 4), .int (a)] : List Value).toArray below meth c H locs 0 0 (MQ below (cQw (some (.int ((fPr_doSteps z0 a).1))) (c_W D q cI cJ cZ (fPr_doSteps z0 a).2) (c_qs q)) ([.ref (q 4), .int (a)] : List Value).toArray s 0 0 (c_qs q)) (F0 m 4 ls []) := by
    intro n4
    induction n4 with
    | zero => intro H locs ls z v2 v3 hn4; exact absurd hn4 (Nat.not_lt_zero _)
    | succ n4 ih4 =>
      intro H locs ls z v2 v3 hn4 hR h3 hi hc hP hS hl
      rw [fPr_doSteps_4.eq_2] at hR
      refine lv_iload_n hx hb dPr_doSteps_4 rfl (lv_at hl 3 rfl) ?_
      refine lv_iload_n hx hb dPr_doSteps_5 rfl (lv_at hl 1 rfl) ?_
      refine lv_icmp_ge hx hb dPr_doSteps_6 rfl (fun h6 => ?_) (fun h6 => ?_)
      · have hR := hR.trans (if_pos h6)
        refine lv_iload_n hx hb dPr_doSteps_43 rfl (lv_at hl 2 rfl) ?_
        exact W.iret hx hb hr (fun t ht _ => ⟨by rw [hR]; first | done | rfl, by rw [hR, ht]; exact hP, hS.F ht⟩) hS.2.2 dPr_doSteps_44
      · have hR := hR.trans (if_neg h6)
        refine lv_aload_n hx hb dPr_doSteps_9 rfl (lv_at hl 0 rfl) ?_
        refine cl_rd (W.runV (As := []) (rest := []) ⟨hx, hb, hml, hown, hts⟩ (kPr_isStopped l D q cI cJ cZ hq z) (cwV 0 hts (gV wm3_130 wm3_122 wm3_123 wm1_6 wm3_124) rfl rfl rfl (by decide +kernel) ⟨Nat.le_of_ble_eq_true rfl, Nat.le_of_ble_eq_true rfl⟩) (c_preV4 hK hP) rfl rfl hl.1 rfl (lv_room (Nat.le_of_ble_eq_true rfl)) dPr_doSteps_10 ⟨Nat.le_refl _, Nat.le_refl _⟩) ?_
        refine wz_ifne hx hb dPr_doSteps_13 rfl (fun h13 => ?_) (fun h13 => ?_)
        · have hR := hR.trans (if_pos h13)
          refine lv_iload_n hx hb dPr_doSteps_43 rfl (lv_at hl 2 rfl) ?_
          exact W.iret hx hb hr (fun t ht _ => ⟨by rw [hR]; first | done | rfl, by rw [hR, ht]; exact hP, hS.F ht⟩) hS.2.2 dPr_doSteps_44
        · have hR := hR.trans (if_neg h13)
          refine lv_aload_n hx hb dPr_doSteps_16 rfl (lv_at hl 0 rfl) ?_
          refine lv_aload_n hx hb dPr_doSteps_17 rfl (lv_at hl 0 rfl) ?_
          refine cl_wr (W.runV (As := []) (rest := [.ref (q 4)]) ⟨hx, hb, hml, hown, hts⟩ (kPr_step l D q cI cJ cZ hq z hi hc) (cwV 0 hts (gV wm3_131 wm3_133 ws1_15 wm1_6 wm3_134) rfl rfl rfl (by decide +kernel) ⟨Nat.le_of_ble_eq_true rfl, Nat.le_of_ble_eq_true rfl⟩) (c_preV4 hK hP) rfl rfl hl.1 rfl (lv_room (Nat.le_of_ble_eq_true rfl)) dPr_doSteps_18 ⟨Nat.le_refl _, Nat.le_refl _⟩) hS (fun _ h => h) (fun _ h => h) (fun H locs hP hS => ?_)
          refine cp4_cause ((fPr_step z).1) hq hS hx hb hts i0 hown hK hP w0 dPr_doSteps_21 (fun H locs hP hS => ?_)
          refine lv_aload_n hx hb dPr_doSteps_24 rfl (lv_at hl 0 rfl) ?_
          refine cg4_cause_e (v := (fPr_step z).1) (c_cause_cause _ _) hx hb hts i0 hown hK hP w0 dPr_doSteps_25 ?_
          refine cl_rd (W.runS (As := [.int (((fPr_step z).1))]) (rest := []) ⟨hx, hb, hml, hown, hts⟩ (kPr_isFault l ((fPr_step z).1)) (va_cwS 1 hts (gS wm4_81 wm4_82 wm1_6 wm4_83) rfl rfl rfl (by decide +kernel) ⟨Nat.le_of_ble_eq_true rfl, Nat.le_of_ble_eq_true rfl⟩) (preT) rfl rfl hl.1 rfl (lv_room (Nat.le_of_ble_eq_true rfl)) dPr_doSteps_28 ⟨Nat.le_refl _, Nat.le_refl _⟩) ?_
          refine wz_ifne hx hb dPr_doSteps_31 rfl (fun h31 => ?_) (fun h31 => ?_)
          · have hR := hR.trans (if_pos h31)
            refine lv_iinc (k := 3) (lv' := [(3, .int (nI (v3 + 1))), (0, .ref (q 4)), (1, .int (a)), (2, .int (v2))]) hx hb dPr_doSteps_37 hl rfl (nI_1 _) (by decide) rfl (fun ls hl => ?_)
            refine lv_goto hx hb dPr_doSteps_40 rfl ?_
            exact ih4 H locs ls (c_cause_s ((fPr_step z).2) ((fPr_step z).1)) v2 (v3 + 1) (ds_m ha h3 h6 hn4) hR (ds_b ha h3 h6) (st_hi hi hc) (st_hc hi hc) hP hS (lv_sub hl [1, 2, 3, 0] rfl)
          · have hR := hR.trans (if_neg h31)
            refine lv_iinc (k := 2) (lv' := [(2, .int (v2 + 1)), (0, .ref (q 4)), (1, .int (a)), (3, .int (nI (v3)))]) hx hb dPr_doSteps_34 hl rfl rfl (by decide) rfl (fun ls hl => ?_)
            refine lv_iinc (k := 3) (lv' := [(3, .int (nI (v3 + 1))), (2, .int (v2 + 1)), (0, .ref (q 4)), (1, .int (a))]) hx hb dPr_doSteps_37 hl rfl (nI_1 _) (by decide) rfl (fun ls hl => ?_)
            refine lv_goto hx hb dPr_doSteps_40 rfl ?_
            exact ih4 H locs ls (c_cause_s ((fPr_step z).2) ((fPr_step z).1)) (v2 + 1) (v3 + 1) (ds_m ha h3 h6 hn4) hR (ds_b ha h3 h6) (st_hi hi hc) (st_hc hi hc) hP hS (lv_sub hl [2, 3, 1, 0] rfl)
  have hR := fPr_doSteps.eq_1 z0 a
  refine lv_iconst (v := 0) hx hb dPr_doSteps_0 (by decide) ?_
  refine lv_istore_n (lv' := [(2, .int (0)), (0, .ref (q 4)), (1, .int (a))]) hx hb dPr_doSteps_1 rfl hl (by decide) rfl (fun ls hl => ?_)
  refine lv_iconst (v := 0) hx hb dPr_doSteps_2 (by decide) ?_
  refine lv_istore_n (lv' := [(3, .int (nI (0))), (2, .int (0)), (0, .ref (q 4)), (1, .int (a))]) hx hb dPr_doSteps_3 rfl hl (by decide) rfl (fun ls hl => ?_)
  exact hB4 301 s.heap [] ls z0 0 0 (by omega) hR (by first | assumption | omega) (by first | assumption | omega) (by first | assumption | omega) hP hS (lv_sub hl [2, 3, 1, 0] rfl)
