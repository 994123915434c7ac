theorem arm_6 {p : Program} {l : Launch} {e : Env} {s : State} {m : MethodId} {below : List Frame} {meth : Method} {c : Code} {b L : Nat} {xs : Nat → Int32} {D : va_G} {q r : Nat → Nat} {o : Nat} {cI cJ cZ : ClassId} {H : Heap} {locs : List Loc} {cells slots n : Nat} {ls : Array Slot} {z : SC} {mm : SM} {f : Nat → Int64} {T : Int} (E : LE p l s m meth c b L xs D q r o cI cJ cZ) (hS : Lz s D q r o cI cJ cZ H locs z mm f T) (hT : T + 120000 ≤ 4000000000000000000) (hc : cells + 1 ≤ 1082) (hsl : slots + 6 ≤ 14493) (hn : n + 5 ≤ L) (hl : lv_has ls 8 [(0, .ref b), (1, .ref (q 0)), (2, .ref (r 0)), (3, .ref o), (4, .int (nI n))]) (kk : KA p l e s m below meth c b D q r o cI cJ cZ n (cells + 1) (slots + 6) (T + 120000)) : W p l e room_1 s m #[Value.ref b] below meth c H locs cells slots (lw_Z below #[Value.ref b] s) (F0 m 574 ls []) := by
  obtain ⟨hx, hb, hr, hml, hown, hts, hX, hbl, hlocks, hK, hz, hnc, hfl, hqi, hri, hqA, hrA, hoA, hqr, hoq, hor, hL⟩ := E
  obtain ⟨hP, hO, hM, hS, hF⟩ := hS
  have hbA : ¬ lA s b := fun h => Nat.not_le_of_lt hbl h
  have hzU := xz_at hz hS
  refine lv_aload_n hx hb dL_574 rfl (lv_at hl 1 rfl) ?_
  refine sc_row (j := 1) (lv := []) hx hb hX hbl hbA hS (by omega) hL (lv_at hl 0 rfl) (lv_at hl 4 rfl) dL_575 dL_576 dL_578 dL_579 dL_580 (by decide) ?_
  refine nz_row hx hb dL_581 dL_584 dL_585 dL_588 ?_
  refine lv_aload_n hx hb dL_589 rfl (lv_at hl 3 rfl) ?_
  have hR := (assemble_R hF f (nz (xs (n + 1)))).1
  refine hp_go (runSW (As := [.ref ((q 0)), .int (bb (nz (xs (n + 1)))), .ref (o)]) (rest := []) (n := 3) ⟨hx, hb, hml, hown, hts⟩ (kLa_assemble l D q cI cJ cZ hqi hfl o hoq z f (nz (xs (n + 1))) (pr_asm hF (nz (xs (n + 1)))).1 (pr_asm hF (nz (xs (n + 1)))).2.1 (pr_asm hF (nz (xs (n + 1)))).2.2) rfl rfl ⟨Nat.le_of_ble_eq_true rfl, Nat.le_of_ble_eq_true rfl⟩ rfl cwLa_assemble (fun w h => hts w (List.mem_cons_of_mem _ h)) (hts _ (List.mem_cons_of_mem _ wm1_0)) (hts _ (List.mem_cons_of_mem _ wm2_223)) (hts _ (List.mem_cons_of_mem _ wm2_222)) (by decide +kernel) (hp_pre hK hP hzU hnc hO) rfl rfl hl.1 rfl (lv_room (Nat.le_of_ble_eq_true rfl)) dL_590 ⟨hc, hsl⟩) hS (fun x h => h.elim (hqA x) (fun e => e ▸ hoA)) hM (fun x h h2 => h2.elim (fun h3 => hqr x h3 h) (fun e => hor (e ▸ h))) (fun H locs hP hO hM hS => ?_)
  generalize gLa_assemble z f (nz (xs (n + 1))) = g at hR hP hO ⊢
  refine lv_istore (lv' := [(5, .int (g.1)), (0, .ref b), (1, .ref (q 0)), (2, .ref (r 0)), (3, .ref o), (4, .int (nI n))]) hx hb dL_593 hl (by decide) rfl (fun ls hl => ?_)
  refine lv_aload_n hx hb dL_595 rfl (lv_at hl 3 rfl) ?_
  refine sc_row (j := 1) (lv := []) hx hb hX hbl hbA hS (by omega) hL (lv_at hl 1 rfl) (lv_at hl 5 rfl) dL_596 dL_597 dL_599 dL_600 dL_601 (by decide) ?_
  refine nz_row hx hb dL_602 dL_605 dL_606 dL_609 ?_
  refine mo_go (W.runV (As := [.int (bb (nz (xs (n + 1))))]) (rest := []) ⟨hx, hb, hml, hown, hts⟩ (kMo_assemble l D r cI cJ cZ hri mm (nz (xs (n + 1))) (pr_mA hF)) (cwV 1 hts (gV wm5_166 wm5_167 wm5_168 wm1_9 wm5_169) rfl rfl rfl (by decide +kernel) ⟨Nat.le_of_ble_eq_true rfl, Nat.le_of_ble_eq_true rfl⟩) (m_preV0 hK hM) rfl rfl hl.1 rfl (lv_room (Nat.le_of_ble_eq_true rfl)) dL_610 ⟨hc, hsl⟩) hS hrA hP hO hqr hor (fun H locs hP hO hM hS => ?_)
  generalize fMo_assemble mm (nz (xs (n + 1))) = y at hR hM ⊢
  obtain ⟨y, mm1⟩ := y
  dsimp only at hR hM ⊢
  refine lv_istore (lv' := [(6, .int (y)), (5, .int (g.1)), (0, .ref b), (1, .ref (q 0)), (2, .ref (r 0)), (3, .ref o), (4, .int (nI n))]) hx hb dL_613 hl (by decide) rfl (fun ls hl => ?_)
  refine lv_aload_n hx hb dL_615 rfl (lv_at hl 4 rfl) ?_
  refine cl_rd (W.runV (As := []) (rest := []) ⟨hx, hb, hml, hown, hts⟩ (kMo_thrown l D r cI cJ cZ hri mm1) (cwV 0 hts (gV wm5_33 wm5_34 wm5_35 wm1_9 wm5_36) rfl rfl rfl (by decide +kernel) ⟨Nat.le_of_ble_eq_true rfl, Nat.le_of_ble_eq_true rfl⟩) (m_preV0 hK hM) rfl rfl hl.1 rfl (lv_room (Nat.le_of_ble_eq_true rfl)) dL_616 ⟨hc, hsl⟩) ?_
  refine lv_iload hx hb dL_619 (lv_at hl 1 rfl) ?_
  refine lv_icmp_eq (tgt := 626) hx hb dL_621 rfl (fun _ => ?_) (fun h => absurd hR.1.2 h)
  refine lv_iload hx hb dL_626 (lv_at hl 1 rfl) ?_
  refine lv_if_ne (tgt := 643) hx hb dL_628 rfl (fun _ => ?_) (fun h0 => ?_)
  · refine lv_goto (tgt := 1075) hx hb dL_643 rfl ?_
    exact kk _ _ _ _ _ _ ⟨hP, hO, hM, hS, RF_le hR.1.1 (by omega)⟩ (lv_sub hl [2, 3, 4, 5, 6] rfl)
  · refine lv_aload_n hx hb dL_631 rfl (lv_at hl 5 rfl) ?_
    refine lv_iconst (v := 0) hx hb dL_632 (by decide) ?_
    refine ow_lald hx hb hK hO dL_633 ?_
    refine lv_iload hx hb dL_634 (lv_at hl 0 rfl) ?_
    refine lv_i2l hx hb dL_636 rfl ?_
    refine lc_eq (tgt := 643) hx hb dL_637 dL_638 rfl (fun _ => ?_) (fun h => absurd (hR.2 h0) h)
    refine lv_goto (tgt := 1075) hx hb dL_643 rfl ?_
    exact kk _ _ _ _ _ _ ⟨hP, hO, hM, hS, RF_le hR.1.1 (by omega)⟩ (lv_sub hl [2, 3, 4, 5, 6] rfl)
theorem arm_7 {p : Program} {l : Launch} {e : Env} {s : State} {m : MethodId} {below : List Frame} {meth : Method} {c : Code} {b L : Nat} {xs : Nat → Int32} {D : va_G} {q r : Nat → Nat} {o : Nat} {cI cJ cZ : ClassId} {H : Heap} {locs : List Loc} {cells slots n : Nat} {ls : Array Slot} {z : SC} {mm : SM} {f : Nat → Int64} {T : Int} (E : LE p l s m meth c b L xs D q r o cI cJ cZ) (hS : Lz s D q r o cI cJ cZ H locs z mm f T) (hT : T + 120000 ≤ 4000000000000000000) (hc : cells + 1 ≤ 1082) (hsl : slots + 6 ≤ 14493) (hn : n + 5 ≤ L) (hl : lv_has ls 8 [(0, .ref b), (1, .ref (q 0)), (2, .ref (r 0)), (3, .ref o), (4, .int (nI n))]) (kk : KA p l e s m below meth c b D q r o cI cJ cZ n (cells + 1) (slots + 6) (T + 120000)) : W p l e room_1 s m #[Value.ref b] below meth c H locs cells slots (lw_Z below #[Value.ref b] s) (F0 m 646 ls []) := by
  obtain ⟨hx, hb, hr, hml, hown, hts, hX, hbl, hlocks, hK, hz, hnc, hfl, hqi, hri, hqA, hrA, hoA, hqr, hoq, hor, hL⟩ := E
  obtain ⟨hP, hO, hM, hS, hF⟩ := hS
  have hbA : ¬ lA s b := fun h => Nat.not_le_of_lt hbl h
  have hzU := xz_at hz hS
  refine lv_aload_n hx hb dL_646 rfl (lv_at hl 1 rfl) ?_
  refine sc_row (j := 1) (lv := []) hx hb hX hbl hbA hS (by omega) hL (lv_at hl 0 rfl) (lv_at hl 4 rfl) dL_647 dL_648 dL_650 dL_651 dL_652 (by decide) ?_
  refine lv_aload_n hx hb dL_653 rfl (lv_at hl 3 rfl) ?_
  have hR := place_R hF f (xs (n + 1))
  refine hp_go (runSW (As := [.ref ((q 0)), .int (xs (n + 1)), .ref (o)]) (rest := []) (n := 3) ⟨hx, hb, hml, hown, hts⟩ (kLa_place l D q cI cJ cZ hqi hfl o hoq z f (xs (n + 1))) rfl rfl ⟨Nat.le_of_ble_eq_true rfl, Nat.le_of_ble_eq_true rfl⟩ rfl cwLa_place (fun w h => hts w (List.mem_cons_of_mem _ h)) (hts _ (List.mem_cons_of_mem _ wm1_0)) (hts _ (List.mem_cons_of_mem _ wm3_87)) (hts _ (List.mem_cons_of_mem _ wm3_86)) (by decide +kernel) (hp_pre hK hP hzU hnc hO) rfl rfl hl.1 rfl (lv_room (Nat.le_of_ble_eq_true rfl)) dL_654 ⟨hc, hsl⟩) hS (fun x h => h.elim (hqA x) (fun e => e ▸ hoA)) hM (fun x h h2 => h2.elim (fun h3 => hqr x h3 h) (fun e => hor (e ▸ h))) (fun H locs hP hO hM hS => ?_)
  generalize gLa_place z f (xs (n + 1)) = g at hR hP hO ⊢
  refine lv_istore (lv' := [(5, .int (g.1)), (0, .ref b), (1, .ref (q 0)), (2, .ref (r 0)), (3, .ref o), (4, .int (nI n))]) hx hb dL_657 hl (by decide) rfl (fun ls hl => ?_)
  refine lv_aload_n hx hb dL_659 rfl (lv_at hl 3 rfl) ?_
  refine sc_row (j := 1) (lv := []) hx hb hX hbl hbA hS (by omega) hL (lv_at hl 1 rfl) (lv_at hl 5 rfl) dL_660 dL_661 dL_663 dL_664 dL_665 (by decide) ?_
  refine mo_go (W.runV (As := [.int (xs (n + 1))]) (rest := []) ⟨hx, hb, hml, hown, hts⟩ (kMo_place l D r cI cJ cZ hri mm (xs (n + 1))) (cwV 1 hts (gV wm5_186 wm5_187 wm5_188 wm1_9 wm5_189) rfl rfl rfl (by decide +kernel) ⟨Nat.le_of_ble_eq_true rfl, Nat.le_of_ble_eq_true rfl⟩) (m_preV0 hK hM) rfl rfl hl.1 rfl (lv_room (Nat.le_of_ble_eq_true rfl)) dL_666 ⟨hc, hsl⟩) hS hrA hP hO hqr hor (fun H locs hP hO hM hS => ?_)
  generalize fMo_place mm (xs (n + 1)) = y at hR hM ⊢
  obtain ⟨y, mm1⟩ := y
  dsimp only at hR hM ⊢
  refine lv_istore (lv' := [(6, .int (y)), (5, .int (g.1)), (0, .ref b), (1, .ref (q 0)), (2, .ref (r 0)), (3, .ref o), (4, .int (nI n))]) hx hb dL_669 hl (by decide) rfl (fun ls hl => ?_)
  refine lv_aload_n hx hb dL_671 rfl (lv_at hl 4 rfl) ?_
  refine cl_rd (W.runV (As := []) (rest := []) ⟨hx, hb, hml, hown, hts⟩ (kMo_thrown l D r cI cJ cZ hri mm1) (cwV 0 hts (gV wm5_33 wm5_34 wm5_35 wm1_9 wm5_36) rfl rfl rfl (by decide +kernel) ⟨Nat.le_of_ble_eq_true rfl, Nat.le_of_ble_eq_true rfl⟩) (m_preV0 hK hM) rfl rfl hl.1 rfl (lv_room (Nat.le_of_ble_eq_true rfl)) dL_672 ⟨hc, hsl⟩) ?_
  refine lv_iload hx hb dL_675 (lv_at hl 1 rfl) ?_
  refine lv_icmp_eq (tgt := 682) hx hb dL_677 rfl (fun _ => ?_) (fun h => absurd hR.1.2 h)
  refine lv_iload hx hb dL_682 (lv_at hl 1 rfl) ?_
  refine lv_if_ne (tgt := 699) hx hb dL_684 rfl (fun _ => ?_) (fun h0 => ?_)
  · refine lv_goto (tgt := 1075) hx hb dL_699 rfl ?_
    exact kk _ _ _ _ _ _ ⟨hP, hO, hM, hS, RF_le hR.1.1 (by omega)⟩ (lv_sub hl [2, 3, 4, 5, 6] rfl)
  · refine lv_aload_n hx hb dL_687 rfl (lv_at hl 5 rfl) ?_
    refine lv_iconst (v := 0) hx hb dL_688 (by decide) ?_
    refine ow_lald hx hb hK hO dL_689 ?_
    refine lv_iload hx hb dL_690 (lv_at hl 0 rfl) ?_
    refine lv_i2l hx hb dL_692 rfl ?_
    refine lc_eq (tgt := 699) hx hb dL_693 dL_694 rfl (fun _ => ?_) (fun h => absurd (hR.2 h0) h)
    refine lv_goto (tgt := 1075) hx hb dL_699 rfl ?_
    exact kk _ _ _ _ _ _ ⟨hP, hO, hM, hS, RF_le hR.1.1 (by omega)⟩ (lv_sub hl [2, 3, 4, 5, 6] rfl)
theorem arm_8 {p : Program} {l : Launch} {e : Env} {s : State} {m : MethodId} {below : List Frame} {meth : Method} {c : Code} {b L : Nat} {xs : Nat → Int32} {D : va_G} {q r : Nat → Nat} {o : Nat} {cI cJ cZ : ClassId} {H : Heap} {locs : List Loc} {cells slots n : Nat} {ls : Array Slot} {z : SC} {mm : SM} {f : Nat → Int64} {T : Int} (E : LE p l s m meth c b L xs D q r o cI cJ cZ) (hS : Lz s D q r o cI cJ cZ H locs z mm f T) (hT : T + 120000 ≤ 4000000000000000000) (hc : cells + 1 ≤ 1082) (hsl : slots + 6 ≤ 14493) (hn : n + 5 ≤ L) (hl : lv_has ls 8 [(0, .ref b), (1, .ref (q 0)), (2, .ref (r 0)), (3, .ref o), (4, .int (nI n))]) (kk : KA p l e s m below meth c b D q r o cI cJ cZ n (cells + 1) (slots + 6) (T + 120000)) : W p l e room_1 s m #[Value.ref b] below meth c H locs cells slots (lw_Z below #[Value.ref b] s) (F0 m 702 ls []) := by
  obtain ⟨hx, hb, hr, hml, hown, hts, hX, hbl, hlocks, hK, hz, hnc, hfl, hqi, hri, hqA, hrA, hoA, hqr, hoq, hor, hL⟩ := E
  obtain ⟨hP, hO, hM, hS, hF⟩ := hS
  have hbA : ¬ lA s b := fun h => Nat.not_le_of_lt hbl h
  have hzU := xz_at hz hS
  refine lv_aload_n hx hb dL_702 rfl (lv_at hl 1 rfl) ?_
  refine sc_row (j := 1) (lv := []) hx hb hX hbl hbA hS (by omega) hL (lv_at hl 0 rfl) (lv_at hl 4 rfl) dL_703 dL_704 dL_706 dL_707 dL_708 (by decide) ?_
  have hR := start_R hF f (xs (n + 1))
  refine hp_go (runSW (As := [.ref ((q 0)), .int (xs (n + 1))]) (rest := []) (n := 2) ⟨hx, hb, hml, hown, hts⟩ (kLa_start l D q cI cJ cZ hqi hfl o hoq z f (xs (n + 1))) rfl rfl ⟨Nat.le_of_ble_eq_true rfl, Nat.le_of_ble_eq_true rfl⟩ rfl cwLa_start (fun w h => hts w (List.mem_cons_of_mem _ h)) (hts _ (List.mem_cons_of_mem _ wm1_0)) (hts _ (List.mem_cons_of_mem _ wm3_102)) (hts _ (List.mem_cons_of_mem _ wm3_101)) (by decide +kernel) (hp_pre hK hP hzU hnc hO) rfl rfl hl.1 rfl (lv_room (Nat.le_of_ble_eq_true rfl)) dL_709 ⟨hc, hsl⟩) hS (fun x h => h.elim (hqA x) (fun e => e ▸ hoA)) hM (fun x h h2 => h2.elim (fun h3 => hqr x h3 h) (fun e => hor (e ▸ h))) (fun H locs hP hO hM hS => ?_)
  generalize gLa_start z f (xs (n + 1)) = g at hR hP hO ⊢
  refine lv_istore (lv' := [(5, .int (g.1)), (0, .ref b), (1, .ref (q 0)), (2, .ref (r 0)), (3, .ref o), (4, .int (nI n))]) hx hb dL_712 hl (by decide) rfl (fun ls hl => ?_)
  refine lv_aload_n hx hb dL_714 rfl (lv_at hl 3 rfl) ?_
  refine sc_row (j := 1) (lv := []) hx hb hX hbl hbA hS (by omega) hL (lv_at hl 1 rfl) (lv_at hl 5 rfl) dL_715 dL_716 dL_718 dL_719 dL_720 (by decide) ?_
  refine mo_go (W.runV (As := [.int (xs (n + 1))]) (rest := []) ⟨hx, hb, hml, hown, hts⟩ (kMo_start l D r cI cJ cZ hri mm (xs (n + 1))) (cwV 1 hts (gV wm5_64 wm5_65 wm5_66 wm1_9 wm5_67) rfl rfl rfl (by decide +kernel) ⟨Nat.le_of_ble_eq_true rfl, Nat.le_of_ble_eq_true rfl⟩) (m_preV0 hK hM) rfl rfl hl.1 rfl (lv_room (Nat.le_of_ble_eq_true rfl)) dL_721 ⟨hc, hsl⟩) hS hrA hP hO hqr hor (fun H locs hP hO hM hS => ?_)
  generalize fMo_start mm (xs (n + 1)) = mm1 at hR hM ⊢
  refine lv_aload_n hx hb dL_724 rfl (lv_at hl 3 rfl) ?_
  refine cl_rd (W.runV (As := []) (rest := []) ⟨hx, hb, hml, hown, hts⟩ (kMo_thrown l D r cI cJ cZ hri mm1) (cwV 0 hts (gV wm5_33 wm5_34 wm5_35 wm1_9 wm5_36) rfl rfl rfl (by decide +kernel) ⟨Nat.le_of_ble_eq_true rfl, Nat.le_of_ble_eq_true rfl⟩) (m_preV0 hK hM) rfl rfl hl.1 rfl (lv_room (Nat.le_of_ble_eq_true rfl)) dL_725 ⟨hc, hsl⟩) ?_
  refine lv_iload hx hb dL_728 (lv_at hl 0 rfl) ?_
  refine lv_icmp_eq (tgt := 735) hx hb dL_730 rfl (fun _ => ?_) (fun h => absurd hR.2 h)
  refine lv_goto (tgt := 1075) hx hb dL_735 rfl ?_
  exact kk _ _ _ _ _ _ ⟨hP, hO, hM, hS, RF_le hR.1 (by omega)⟩ (lv_sub hl [1, 2, 3, 4, 5] rfl)
theorem arm_9 {p : Program} {l : Launch} {e : Env} {s : State} {m : MethodId} {below : List Frame} {meth : Method} {c : Code} {b L : Nat} {xs : Nat → Int32} {D : va_G} {q r : Nat → Nat} {o : Nat} {cI cJ cZ : ClassId} {H : Heap} {locs : List Loc} {cells slots n : Nat} {ls : Array Slot} {z : SC} {mm : SM} {f : Nat → Int64} {T : Int} (E : LE p l s m meth c b L xs D q r o cI cJ cZ) (hS : Lz s D q r o cI cJ cZ H locs z mm f T) (hT : T + 120000 ≤ 4000000000000000000) (hc : cells + 1 ≤ 1082) (hsl : slots + 6 ≤ 14493) (hn : n + 5 ≤ L) (hl : lv_has ls 8 [(0, .ref b), (1, .ref (q 0)), (2, .ref (r 0)), (3, .ref o), (4, .int (nI n))]) (kk : KA p l e s m below meth c b D q r o cI cJ cZ n (cells + 1) (slots + 6) (T + 120000)) : W p l e room_1 s m #[Value.ref b] below meth c H locs cells slots (lw_Z below #[Value.ref b] s) (F0 m 738 ls []) := by
  obtain ⟨hx, hb, hr, hml, hown, hts, hX, hbl, hlocks, hK, hz, hnc, hfl, hqi, hri, hqA, hrA, hoA, hqr, hoq, hor, hL⟩ := E
  obtain ⟨hP, hO, hM, hS, hF⟩ := hS
  have hbA : ¬ lA s b := fun h => Nat.not_le_of_lt hbl h
  have hzU := xz_at hz hS
  refine lv_aload_n hx hb dL_738 rfl (lv_at hl 1 rfl) ?_
  refine sc_row (j := 1) (lv := []) hx hb hX hbl hbA hS (by omega) hL (lv_at hl 0 rfl) (lv_at hl 4 rfl) dL_739 dL_740 dL_742 dL_743 dL_744 (by decide) ?_
  refine lv_aload_n hx hb dL_745 rfl (lv_at hl 3 rfl) ?_
  have hR := run_R hF hT f (xs (n + 1))
  refine hp_go (runSW (As := [.ref ((q 0)), .int (xs (n + 1)), .ref (o)]) (rest := []) (n := 3) ⟨hx, hb, hml, hown, hts⟩ (kLa_run l D q cI cJ cZ hqi hfl o hoq z f (xs (n + 1)) hF.1.2.1.2.2.1 (pr_pc hF).1) rfl rfl ⟨Nat.le_of_ble_eq_true rfl, Nat.le_of_ble_eq_true rfl⟩ rfl cwLa_run (fun w h => hts w (List.mem_cons_of_mem _ h)) (hts _ (List.mem_cons_of_mem _ wm1_0)) (hts _ (List.mem_cons_of_mem _ wm3_114)) (hts _ (List.mem_cons_of_mem _ wm3_113)) (by decide +kernel) (hp_pre hK hP hzU hnc hO) rfl rfl hl.1 rfl (lv_room (Nat.le_of_ble_eq_true rfl)) dL_746 ⟨hc, hsl⟩) hS (fun x h => h.elim (hqA x) (fun e => e ▸ hoA)) hM (fun x h h2 => h2.elim (fun h3 => hqr x h3 h) (fun e => hor (e ▸ h))) (fun H locs hP hO hM hS => ?_)
  generalize gLa_run z f (xs (n + 1)) = g at hR hP hO ⊢
  refine lv_istore (lv' := [(5, .int (g.1)), (0, .ref b), (1, .ref (q 0)), (2, .ref (r 0)), (3, .ref o), (4, .int (nI n))]) hx hb dL_749 hl (by decide) rfl (fun ls hl => ?_)
  refine lv_aload_n hx hb dL_751 rfl (lv_at hl 3 rfl) ?_
  refine sc_row (j := 1) (lv := []) hx hb hX hbl hbA hS (by omega) hL (lv_at hl 1 rfl) (lv_at hl 5 rfl) dL_752 dL_753 dL_755 dL_756 dL_757 (by decide) ?_
  refine mo_go (W.runV (As := [.int (xs (n + 1))]) (rest := []) ⟨hx, hb, hml, hown, hts⟩ (kMo_run l D r cI cJ cZ hri mm (xs (n + 1)) mI (fun _ h => mI_J h) (fun _ h => mI_s h) (fun _ v h => mI_c v h) (fun _ h => mI_f h) (fun _ h => mI_k h) ⟨z, hF.1⟩) (cwV 1 hts (gV wm5_68 wm5_69 wm5_70 wm1_9 wm5_71) rfl rfl rfl (by decide +kernel) ⟨Nat.le_of_ble_eq_true rfl, Nat.le_of_ble_eq_true rfl⟩) (m_preV0 hK hM) rfl rfl hl.1 rfl (lv_room (Nat.le_of_ble_eq_true rfl)) dL_758 ⟨hc, hsl⟩) hS hrA hP hO hqr hor (fun H locs hP hO hM hS => ?_)
  generalize fMo_run mm (xs (n + 1)) = y at hR hM ⊢
  obtain ⟨y, mm1⟩ := y
  dsimp only at hR hM ⊢
  refine lv_istore (lv' := [(6, .int (y)), (5, .int (g.1)), (0, .ref b), (1, .ref (q 0)), (2, .ref (r 0)), (3, .ref o), (4, .int (nI n))]) hx hb dL_761 hl (by decide) rfl (fun ls hl => ?_)
  refine lv_aload_n hx hb dL_763 rfl (lv_at hl 4 rfl) ?_
  refine cl_rd (W.runV (As := []) (rest := []) ⟨hx, hb, hml, hown, hts⟩ (kMo_thrown l D r cI cJ cZ hri mm1) (cwV 0 hts (gV wm5_33 wm5_34 wm5_35 wm1_9 wm5_36) rfl rfl rfl (by decide +kernel) ⟨Nat.le_of_ble_eq_true rfl, Nat.le_of_ble_eq_true rfl⟩) (m_preV0 hK hM) rfl rfl hl.1 rfl (lv_room (Nat.le_of_ble_eq_true rfl)) dL_764 ⟨hc, hsl⟩) ?_
  refine lv_iload hx hb dL_767 (lv_at hl 1 rfl) ?_
  refine lv_icmp_eq (tgt := 774) hx hb dL_769 rfl (fun _ => ?_) (fun h => absurd hR.1.2 h)
  refine lv_iload hx hb dL_774 (lv_at hl 1 rfl) ?_
  refine lv_if_ne (tgt := 791) hx hb dL_776 rfl (fun _ => ?_) (fun h0 => ?_)
  · refine lv_goto (tgt := 1075) hx hb dL_791 rfl ?_
    exact kk _ _ _ _ _ _ ⟨hP, hO, hM, hS, RF_le hR.1.1 (by omega)⟩ (lv_sub hl [2, 3, 4, 5, 6] rfl)
  · refine lv_aload_n hx hb dL_779 rfl (lv_at hl 5 rfl) ?_
    refine lv_iconst (v := 0) hx hb dL_780 (by decide) ?_
    refine ow_lald hx hb hK hO dL_781 ?_
    refine lv_iload hx hb dL_782 (lv_at hl 0 rfl) ?_
    refine lv_i2l hx hb dL_784 rfl ?_
    refine lc_eq (tgt := 791) hx hb dL_785 dL_786 rfl (fun _ => ?_) (fun h => absurd (hR.2 h0) h)
    refine lv_goto (tgt := 1075) hx hb dL_791 rfl ?_
    exact kk _ _ _ _ _ _ ⟨hP, hO, hM, hS, RF_le hR.1.1 (by omega)⟩ (lv_sub hl [2, 3, 4, 5, 6] rfl)
theorem arm_10 {p : Program} {l : Launch} {e : Env} {s : State} {m : MethodId} {below : List Frame} {meth : Method} {c : Code} {b L : Nat} {xs : Nat → Int32} {D : va_G} {q r : Nat → Nat} {o : Nat} {cI cJ cZ : ClassId} {H : Heap} {locs : List Loc} {cells slots n : Nat} {ls : Array Slot} {z : SC} {mm : SM} {f : Nat → Int64} {T : Int} (E : LE p l s m meth c b L xs D q r o cI cJ cZ) (hS : Lz s D q r o cI cJ cZ H locs z mm f T) (hT : T + 120000 ≤ 4000000000000000000) (hc : cells + 1 ≤ 1082) (hsl : slots + 6 ≤ 14493) (hn : n + 5 ≤ L) (hl : lv_has ls 8 [(0, .ref b), (1, .ref (q 0)), (2, .ref (r 0)), (3, .ref o), (4, .int (nI n))]) (kk : KA p l e s m below meth c b D q r o cI cJ cZ n (cells + 1) (slots + 6) (T + 120000)) : W p l e room_1 s m #[Value.ref b] below meth c H locs cells slots (lw_Z below #[Value.ref b] s) (F0 m 794 ls []) := by
  obtain ⟨hx, hb, hr, hml, hown, hts, hX, hbl, hlocks, hK, hz, hnc, hfl, hqi, hri, hqA, hrA, hoA, hqr, hoq, hor, hL⟩ := E
  obtain ⟨hP, hO, hM, hS, hF⟩ := hS
  have hbA : ¬ lA s b := fun h => Nat.not_le_of_lt hbl h
  have hzU := xz_at hz hS
  refine lv_aload_n hx hb dL_794 rfl (lv_at hl 1 rfl) ?_
  have hR := fault_R hF
  refine cl_rd (W.runV (As := []) (rest := []) ⟨hx, hb, hml, hown, hts⟩ (kDM_fault l D q cI cJ cZ hqi z) (cwV 0 hts (gV wm1_207 wm1_208 wm1_209 wm1_1 wm1_210) rfl rfl rfl (by decide +kernel) ⟨Nat.le_of_ble_eq_true rfl, Nat.le_of_ble_eq_true rfl⟩) (c_preV0 hK hP) rfl rfl hl.1 rfl (lv_room (Nat.le_of_ble_eq_true rfl)) dL_795 ⟨Nat.le_trans (Nat.le_add_right _ _) hc, Nat.le_trans (Nat.le_add_right _ _) hsl⟩) ?_
  refine lv_aload_n hx hb dL_798 rfl (lv_at hl 2 rfl) ?_
  refine mo_go (W.runV (As := []) (rest := [.int (fDM_fault z)]) ⟨hx, hb, hml, hown, hts⟩ (kMo_fault l D r cI cJ cZ hri mm) (cwV 0 hts (gV wm5_190 wm5_191 wm5_192 wm1_9 wm5_193) rfl rfl rfl (by decide +kernel) ⟨Nat.le_of_ble_eq_true rfl, Nat.le_of_ble_eq_true rfl⟩) (m_preV0 hK hM) rfl rfl hl.1 rfl (lv_room (Nat.le_of_ble_eq_true rfl)) dL_799 ⟨Nat.le_trans (Nat.le_add_right _ _) hc, Nat.le_trans (Nat.le_add_right _ _) hsl⟩) hS hrA hP hO hqr hor (fun H locs hP hO hM hS => ?_)
  generalize fMo_fault mm = y at hR hM ⊢
  obtain ⟨y, mm1⟩ := y
  dsimp only at hR hM ⊢
  refine lv_icmp_eq (tgt := 1075) hx hb dL_802 rfl (fun _ => ?_) (fun h => absurd hR.2 h)
  refine w_pad (cells' := cells + 1) (slots' := slots + 6) (Nat.le_add_right _ _) (Nat.le_add_right _ _) ?_
  exact kk _ _ _ _ _ _ ⟨hP, hO, hM, hS, RF_le hR.1 (by omega)⟩ (lv_sub hl [0, 1, 2, 3, 4] rfl)
theorem arm_11 {p : Program} {l : Launch} {e : Env} {s : State} {m : MethodId} {below : List Frame} {meth : Method} {c : Code} {b L : Nat} {xs : Nat → Int32} {D : va_G} {q r : Nat → Nat} {o : Nat} {cI cJ cZ : ClassId} {H : Heap} {locs : List Loc} {cells slots n : Nat} {ls : Array Slot} {z : SC} {mm : SM} {f : Nat → Int64} {T : Int} (E : LE p l s m meth c b L xs D q r o cI cJ cZ) (hS : Lz s D q r o cI cJ cZ H locs z mm f T) (hT : T + 120000 ≤ 4000000000000000000) (hc : cells + 1 ≤ 1082) (hsl : slots + 6 ≤ 14493) (hn : n + 5 ≤ L) (hl : lv_has ls 8 [(0, .ref b), (1, .ref (q 0)), (2, .ref (r 0)), (3, .ref o), (4, .int (nI n))]) (kk : KA p l e s m below meth c b D q r o cI cJ cZ n (cells + 1) (slots + 6) (T + 120000)) : W p l e room_1 s m #[Value.ref b] below meth c H locs cells slots (lw_Z below #[Value.ref b] s) (F0 m 807 ls []) := by
  obtain ⟨hx, hb, hr, hml, hown, hts, hX, hbl, hlocks, hK, hz, hnc, hfl, hqi, hri, hqA, hrA, hoA, hqr, hoq, hor, hL⟩ := E
  obtain ⟨hP, hO, hM, hS, hF⟩ := hS
  have hbA : ¬ lA s b := fun h => Nat.not_le_of_lt hbl h
  have hzU := xz_at hz hS
  refine lv_aload_n hx hb dL_807 rfl (lv_at hl 1 rfl) ?_
  have hR := time_R hF
  refine cl_rd (W.runV (As := []) (rest := []) ⟨hx, hb, hml, hown, hts⟩ (kDM_time l D q cI cJ cZ hqi z) (cwV 0 hts (gV wm1_215 wm1_216 wm1_217 wm1_1 wm1_218) rfl rfl rfl (by decide +kernel) ⟨Nat.le_of_ble_eq_true rfl, Nat.le_of_ble_eq_true rfl⟩) (c_preV0 hK hP) rfl rfl hl.1 rfl (lv_room (Nat.le_of_ble_eq_true rfl)) dL_808 ⟨Nat.le_trans (Nat.le_add_right _ _) hc, Nat.le_trans (Nat.le_add_right _ _) hsl⟩) ?_
  refine lv_aload_n hx hb dL_811 rfl (lv_at hl 2 rfl) ?_
  refine mo_go (W.runV (As := []) (rest := [.long (fDM_time z)]) ⟨hx, hb, hml, hown, hts⟩ (kMo_time l D r cI cJ cZ hri mm) (cwV 0 hts (gV wm5_194 wm5_195 wm5_196 wm1_9 wm5_197) rfl rfl rfl (by decide +kernel) ⟨Nat.le_of_ble_eq_true rfl, Nat.le_of_ble_eq_true rfl⟩) (m_preV0 hK hM) rfl rfl hl.1 rfl (lv_room (Nat.le_of_ble_eq_true rfl)) dL_812 ⟨Nat.le_trans (Nat.le_add_right _ _) hc, Nat.le_trans (Nat.le_add_right _ _) hsl⟩) hS hrA hP hO hqr hor (fun H locs hP hO hM hS => ?_)
  generalize fMo_time mm = y at hR hM ⊢
  obtain ⟨y, mm1⟩ := y
  dsimp only at hR hM ⊢
  refine lc_eq (tgt := 1075) hx hb dL_815 dL_816 rfl (fun _ => ?_) (fun h => absurd hR.2 h)
  refine w_pad (cells' := cells + 1) (slots' := slots + 6) (Nat.le_add_right _ _) (Nat.le_add_right _ _) ?_
  exact kk _ _ _ _ _ _ ⟨hP, hO, hM, hS, RF_le hR.1 (by omega)⟩ (lv_sub hl [0, 1, 2, 3, 4] rfl)
