theorem arm_12 {p : Program} {l : Launch} {e : Env} {s : State} {m : MethodId} {below : List Frame} {meth : Method} {c : Code} {b L : Nat} {xs : Nat → Int32} {D : va_G} {q r : Nat → Nat} {o : Nat} {cI cJ cZ : ClassId} {H : Heap} {locs : List Loc} {cells slots n : Nat} {ls : Array Slot} {z : SC} {mm : SM} {f : Nat → Int64} {T : Int} (E : LE p l s m meth c b L xs D q r o cI cJ cZ) (hS : Lz s D q r o cI cJ cZ H locs z mm f T) (hT : T + 120000 ≤ 4000000000000000000) (hc : cells + 1 ≤ 1082) (hsl : slots + 6 ≤ 14493) (hn : n + 5 ≤ L) (hl : lv_has ls 8 [(0, .ref b), (1, .ref (q 0)), (2, .ref (r 0)), (3, .ref o), (4, .int (nI n))]) (kk : KA p l e s m below meth c b D q r o cI cJ cZ n (cells + 1) (slots + 6) (T + 120000)) : W p l e room_1 s m #[Value.ref b] below meth c H locs cells slots (lw_Z below #[Value.ref b] s) (F0 m 821 ls []) := by
  obtain ⟨hx, hb, hr, hml, hown, hts, hX, hbl, hlocks, hK, hz, hnc, hfl, hqi, hri, hqA, hrA, hoA, hqr, hoq, hor, hL⟩ := E
  obtain ⟨hP, hO, hM, hS, hF⟩ := hS
  have hbA : ¬ lA s b := fun h => Nat.not_le_of_lt hbl h
  have hzU := xz_at hz hS
  refine lv_aload_n hx hb dL_821 rfl (lv_at hl 1 rfl) ?_
  refine sc_row (j := 1) (lv := []) hx hb hX hbl hbA hS (by omega) hL (lv_at hl 0 rfl) (lv_at hl 4 rfl) dL_822 dL_823 dL_825 dL_826 dL_827 (by decide) ?_
  refine lv_aload_n hx hb dL_828 rfl (lv_at hl 3 rfl) ?_
  have hR := register_R hF f (xs (n + 1))
  refine hp_go (runSW (As := [.ref ((q 0)), .int (xs (n + 1)), .ref (o)]) (rest := []) (n := 3) ⟨hx, hb, hml, hown, hts⟩ (kLa_register l D q cI cJ cZ hqi hfl o hoq z f (xs (n + 1))) rfl rfl ⟨Nat.le_of_ble_eq_true rfl, Nat.le_of_ble_eq_true rfl⟩ rfl cwLa_register (fun w h => hts w (List.mem_cons_of_mem _ h)) (hts _ (List.mem_cons_of_mem _ wm1_0)) (hts _ (List.mem_cons_of_mem _ wm4_103)) (hts _ (List.mem_cons_of_mem _ wm4_102)) (by decide +kernel) (hp_pre hK hP hzU hnc hO) rfl rfl hl.1 rfl (lv_room (Nat.le_of_ble_eq_true rfl)) dL_829 ⟨hc, hsl⟩) hS (fun x h => h.elim (hqA x) (fun e => e ▸ hoA)) hM (fun x h h2 => h2.elim (fun h3 => hqr x h3 h) (fun e => hor (e ▸ h))) (fun H locs hP hO hM hS => ?_)
  generalize gLa_register z f (xs (n + 1)) = g at hR hP hO ⊢
  refine lv_istore (lv' := [(5, .int (g.1)), (0, .ref b), (1, .ref (q 0)), (2, .ref (r 0)), (3, .ref o), (4, .int (nI n))]) hx hb dL_832 hl (by decide) rfl (fun ls hl => ?_)
  refine lv_aload_n hx hb dL_834 rfl (lv_at hl 3 rfl) ?_
  refine sc_row (j := 1) (lv := []) hx hb hX hbl hbA hS (by omega) hL (lv_at hl 1 rfl) (lv_at hl 5 rfl) dL_835 dL_836 dL_838 dL_839 dL_840 (by decide) ?_
  refine mo_go (W.runV (As := [.int (xs (n + 1))]) (rest := []) ⟨hx, hb, hml, hown, hts⟩ (kMo_register l D r cI cJ cZ hri mm (xs (n + 1))) (cwV 1 hts (gV wm5_198 wm5_199 wm5_200 wm1_9 wm5_201) rfl rfl rfl (by decide +kernel) ⟨Nat.le_of_ble_eq_true rfl, Nat.le_of_ble_eq_true rfl⟩) (m_preV0 hK hM) rfl rfl hl.1 rfl (lv_room (Nat.le_of_ble_eq_true rfl)) dL_841 ⟨hc, hsl⟩) hS hrA hP hO hqr hor (fun H locs hP hO hM hS => ?_)
  generalize fMo_register mm (xs (n + 1)) = y at hR hM ⊢
  obtain ⟨y, mm1⟩ := y
  dsimp only at hR hM ⊢
  refine lv_lstore (lv' := [(6, .long (y)), (5, .int (g.1)), (0, .ref b), (1, .ref (q 0)), (2, .ref (r 0)), (3, .ref o), (4, .int (nI n))]) hx hb dL_844 hl (by decide) rfl (fun ls hl => ?_)
  refine lv_aload_n hx hb dL_846 rfl (lv_at hl 4 rfl) ?_
  refine cl_rd (W.runV (As := []) (rest := []) ⟨hx, hb, hml, hown, hts⟩ (kMo_thrown l D r cI cJ cZ hri mm1) (cwV 0 hts (gV wm5_33 wm5_34 wm5_35 wm1_9 wm5_36) rfl rfl rfl (by decide +kernel) ⟨Nat.le_of_ble_eq_true rfl, Nat.le_of_ble_eq_true rfl⟩) (m_preV0 hK hM) rfl rfl hl.1 rfl (lv_room (Nat.le_of_ble_eq_true rfl)) dL_847 ⟨hc, hsl⟩) ?_
  refine lv_iload hx hb dL_850 (lv_at hl 1 rfl) ?_
  refine lv_icmp_eq (tgt := 857) hx hb dL_852 rfl (fun _ => ?_) (fun h => absurd hR.1.2 h)
  refine lv_iload hx hb dL_857 (lv_at hl 1 rfl) ?_
  refine lv_if_ne (tgt := 873) hx hb dL_859 rfl (fun _ => ?_) (fun h0 => ?_)
  · refine lv_goto (tgt := 1075) hx hb dL_873 rfl ?_
    exact kk _ _ _ _ _ _ ⟨hP, hO, hM, hS, RF_le hR.1.1 (by omega)⟩ (lv_sub hl [2, 3, 4, 5, 6] rfl)
  · refine lv_aload_n hx hb dL_862 rfl (lv_at hl 5 rfl) ?_
    refine lv_iconst (v := 0) hx hb dL_863 (by decide) ?_
    refine ow_lald hx hb hK hO dL_864 ?_
    refine lv_lload hx hb dL_865 (lv_at hl 0 rfl) ?_
    refine lc_eq (tgt := 873) hx hb dL_867 dL_868 rfl (fun _ => ?_) (fun h => absurd (hR.2 h0) h)
    refine lv_goto (tgt := 1075) hx hb dL_873 rfl ?_
    exact kk _ _ _ _ _ _ ⟨hP, hO, hM, hS, RF_le hR.1.1 (by omega)⟩ (lv_sub hl [2, 3, 4, 5, 6] rfl)
theorem arm_13 {p : Program} {l : Launch} {e : Env} {s : State} {m : MethodId} {below : List Frame} {meth : Method} {c : Code} {b L : Nat} {xs : Nat → Int32} {D : va_G} {q r : Nat → Nat} {o : Nat} {cI cJ cZ : ClassId} {H : Heap} {locs : List Loc} {cells slots n : Nat} {ls : Array Slot} {z : SC} {mm : SM} {f : Nat → Int64} {T : Int} (E : LE p l s m meth c b L xs D q r o cI cJ cZ) (hS : Lz s D q r o cI cJ cZ H locs z mm f T) (hT : T + 120000 ≤ 4000000000000000000) (hc : cells + 1 ≤ 1082) (hsl : slots + 6 ≤ 14493) (hn : n + 5 ≤ L) (hl : lv_has ls 8 [(0, .ref b), (1, .ref (q 0)), (2, .ref (r 0)), (3, .ref o), (4, .int (nI n))]) (kk : KA p l e s m below meth c b D q r o cI cJ cZ n (cells + 1) (slots + 6) (T + 120000)) : W p l e room_1 s m #[Value.ref b] below meth c H locs cells slots (lw_Z below #[Value.ref b] s) (F0 m 876 ls []) := by
  obtain ⟨hx, hb, hr, hml, hown, hts, hX, hbl, hlocks, hK, hz, hnc, hfl, hqi, hri, hqA, hrA, hoA, hqr, hoq, hor, hL⟩ := E
  obtain ⟨hP, hO, hM, hS, hF⟩ := hS
  have hbA : ¬ lA s b := fun h => Nat.not_le_of_lt hbl h
  have hzU := xz_at hz hS
  refine lv_aload_n hx hb dL_876 rfl (lv_at hl 1 rfl) ?_
  refine sc_row (j := 1) (lv := []) hx hb hX hbl hbA hS (by omega) hL (lv_at hl 0 rfl) (lv_at hl 4 rfl) dL_877 dL_878 dL_880 dL_881 dL_882 (by decide) ?_
  refine lv_aload_n hx hb dL_883 rfl (lv_at hl 3 rfl) ?_
  have hR := sign_R hF f (xs (n + 1))
  refine hp_go (runSW (As := [.ref ((q 0)), .int (xs (n + 1)), .ref (o)]) (rest := []) (n := 3) ⟨hx, hb, hml, hown, hts⟩ (kLa_sign l D q cI cJ cZ hqi hfl o hoq z f (xs (n + 1))) rfl rfl ⟨Nat.le_of_ble_eq_true rfl, Nat.le_of_ble_eq_true rfl⟩ rfl cwLa_sign (fun w h => hts w (List.mem_cons_of_mem _ h)) (hts _ (List.mem_cons_of_mem _ wm1_0)) (hts _ (List.mem_cons_of_mem _ wm4_123)) (hts _ (List.mem_cons_of_mem _ wm4_122)) (by decide +kernel) (hp_pre hK hP hzU hnc hO) rfl rfl hl.1 rfl (lv_room (Nat.le_of_ble_eq_true rfl)) dL_884 ⟨hc, hsl⟩) hS (fun x h => h.elim (hqA x) (fun e => e ▸ hoA)) hM (fun x h h2 => h2.elim (fun h3 => hqr x h3 h) (fun e => hor (e ▸ h))) (fun H locs hP hO hM hS => ?_)
  generalize gLa_sign z f (xs (n + 1)) = g at hR hP hO ⊢
  refine lv_istore (lv' := [(5, .int (g.1)), (0, .ref b), (1, .ref (q 0)), (2, .ref (r 0)), (3, .ref o), (4, .int (nI n))]) hx hb dL_887 hl (by decide) rfl (fun ls hl => ?_)
  refine lv_aload_n hx hb dL_889 rfl (lv_at hl 3 rfl) ?_
  refine sc_row (j := 1) (lv := []) hx hb hX hbl hbA hS (by omega) hL (lv_at hl 1 rfl) (lv_at hl 5 rfl) dL_890 dL_891 dL_893 dL_894 dL_895 (by decide) ?_
  refine mo_go (W.runV (As := [.int (xs (n + 1))]) (rest := []) ⟨hx, hb, hml, hown, hts⟩ (kMo_sign l D r cI cJ cZ hri mm (xs (n + 1))) (cwV 1 hts (gV wm5_202 wm5_203 wm5_204 wm1_9 wm5_205) rfl rfl rfl (by decide +kernel) ⟨Nat.le_of_ble_eq_true rfl, Nat.le_of_ble_eq_true rfl⟩) (m_preV0 hK hM) rfl rfl hl.1 rfl (lv_room (Nat.le_of_ble_eq_true rfl)) dL_896 ⟨hc, hsl⟩) hS hrA hP hO hqr hor (fun H locs hP hO hM hS => ?_)
  generalize fMo_sign mm (xs (n + 1)) = y at hR hM ⊢
  obtain ⟨y, mm1⟩ := y
  dsimp only at hR hM ⊢
  refine lv_istore (lv' := [(6, .int (bb (y))), (5, .int (g.1)), (0, .ref b), (1, .ref (q 0)), (2, .ref (r 0)), (3, .ref o), (4, .int (nI n))]) hx hb dL_899 hl (by decide) rfl (fun ls hl => ?_)
  refine lv_aload_n hx hb dL_901 rfl (lv_at hl 4 rfl) ?_
  refine cl_rd (W.runV (As := []) (rest := []) ⟨hx, hb, hml, hown, hts⟩ (kMo_thrown l D r cI cJ cZ hri mm1) (cwV 0 hts (gV wm5_33 wm5_34 wm5_35 wm1_9 wm5_36) rfl rfl rfl (by decide +kernel) ⟨Nat.le_of_ble_eq_true rfl, Nat.le_of_ble_eq_true rfl⟩) (m_preV0 hK hM) rfl rfl hl.1 rfl (lv_room (Nat.le_of_ble_eq_true rfl)) dL_902 ⟨hc, hsl⟩) ?_
  refine lv_iload hx hb dL_905 (lv_at hl 1 rfl) ?_
  refine lv_icmp_eq (tgt := 912) hx hb dL_907 rfl (fun _ => ?_) (fun h => absurd hR.1.2 h)
  refine lv_iload hx hb dL_912 (lv_at hl 1 rfl) ?_
  refine lv_if_ne (tgt := 936) hx hb dL_914 rfl (fun _ => ?_) (fun h0 => ?_)
  · refine lv_goto (tgt := 1075) hx hb dL_936 rfl ?_
    exact kk _ _ _ _ _ _ ⟨hP, hO, hM, hS, RF_le hR.1.1 (by omega)⟩ (lv_sub hl [2, 3, 4, 5, 6] rfl)
  · refine lv_aload_n hx hb dL_917 rfl (lv_at hl 5 rfl) ?_
    refine lv_iconst (v := 0) hx hb dL_918 (by decide) ?_
    refine ow_lald hx hb hK hO dL_919 ?_
    refine lv_iload hx hb dL_920 (lv_at hl 0 rfl) ?_
    refine nl_row hx hb dL_922 dL_925 dL_926 dL_929 ?_
    refine lc_eq (tgt := 936) hx hb dL_930 dL_931 rfl (fun _ => ?_) (fun h => absurd (hR.2 h0) h)
    refine lv_goto (tgt := 1075) hx hb dL_936 rfl ?_
    exact kk _ _ _ _ _ _ ⟨hP, hO, hM, hS, RF_le hR.1.1 (by omega)⟩ (lv_sub hl [2, 3, 4, 5, 6] rfl)
theorem arm_14 {p : Program} {l : Launch} {e : Env} {s : State} {m : MethodId} {below : List Frame} {meth : Method} {c : Code} {b L : Nat} {xs : Nat → Int32} {D : va_G} {q r : Nat → Nat} {o : Nat} {cI cJ cZ : ClassId} {H : Heap} {locs : List Loc} {cells slots n : Nat} {ls : Array Slot} {z : SC} {mm : SM} {f : Nat → Int64} {T : Int} (E : LE p l s m meth c b L xs D q r o cI cJ cZ) (hS : Lz s D q r o cI cJ cZ H locs z mm f T) (hT : T + 120000 ≤ 4000000000000000000) (hc : cells + 1 ≤ 1082) (hsl : slots + 6 ≤ 14493) (hn : n + 5 ≤ L) (hl : lv_has ls 8 [(0, .ref b), (1, .ref (q 0)), (2, .ref (r 0)), (3, .ref o), (4, .int (nI n))]) (kk : KA p l e s m below meth c b D q r o cI cJ cZ n (cells + 1) (slots + 6) (T + 120000)) : W p l e room_1 s m #[Value.ref b] below meth c H locs cells slots (lw_Z below #[Value.ref b] s) (F0 m 939 ls []) := by
  obtain ⟨hx, hb, hr, hml, hown, hts, hX, hbl, hlocks, hK, hz, hnc, hfl, hqi, hri, hqA, hrA, hoA, hqr, hoq, hor, hL⟩ := E
  obtain ⟨hP, hO, hM, hS, hF⟩ := hS
  have hbA : ¬ lA s b := fun h => Nat.not_le_of_lt hbl h
  have hzU := xz_at hz hS
  refine lv_aload_n hx hb dL_939 rfl (lv_at hl 1 rfl) ?_
  have hR := next_R hF
  refine cl_rd (W.runV (As := []) (rest := []) ⟨hx, hb, hml, hown, hts⟩ (kDM_next l D q cI cJ cZ hqi z) (cwV 0 hts (gV wm1_223 wm1_224 wm1_225 wm1_1 wm1_226) rfl rfl rfl (by decide +kernel) ⟨Nat.le_of_ble_eq_true rfl, Nat.le_of_ble_eq_true rfl⟩) (c_preV0 hK hP) rfl rfl hl.1 rfl (lv_room (Nat.le_of_ble_eq_true rfl)) dL_940 ⟨Nat.le_trans (Nat.le_add_right _ _) hc, Nat.le_trans (Nat.le_add_right _ _) hsl⟩) ?_
  refine lv_aload_n hx hb dL_943 rfl (lv_at hl 2 rfl) ?_
  refine mo_go (W.runV (As := []) (rest := [.int (fDM_next z)]) ⟨hx, hb, hml, hown, hts⟩ (kMo_next l D r cI cJ cZ hri mm) (cwV 0 hts (gV wm5_206 wm5_207 wm5_208 wm1_9 wm5_209) rfl rfl rfl (by decide +kernel) ⟨Nat.le_of_ble_eq_true rfl, Nat.le_of_ble_eq_true rfl⟩) (m_preV0 hK hM) rfl rfl hl.1 rfl (lv_room (Nat.le_of_ble_eq_true rfl)) dL_944 ⟨Nat.le_trans (Nat.le_add_right _ _) hc, Nat.le_trans (Nat.le_add_right _ _) hsl⟩) hS hrA hP hO hqr hor (fun H locs hP hO hM hS => ?_)
  generalize fMo_next mm = y at hR hM ⊢
  obtain ⟨y, mm1⟩ := y
  dsimp only at hR hM ⊢
  refine lv_icmp_eq (tgt := 1075) hx hb dL_947 rfl (fun _ => ?_) (fun h => absurd hR.2 h)
  refine w_pad (cells' := cells + 1) (slots' := slots + 6) (Nat.le_add_right _ _) (Nat.le_add_right _ _) ?_
  exact kk _ _ _ _ _ _ ⟨hP, hO, hM, hS, RF_le hR.1 (by omega)⟩ (lv_sub hl [0, 1, 2, 3, 4] rfl)
theorem arm_15 {p : Program} {l : Launch} {e : Env} {s : State} {m : MethodId} {below : List Frame} {meth : Method} {c : Code} {b L : Nat} {xs : Nat → Int32} {D : va_G} {q r : Nat → Nat} {o : Nat} {cI cJ cZ : ClassId} {H : Heap} {locs : List Loc} {cells slots n : Nat} {ls : Array Slot} {z : SC} {mm : SM} {f : Nat → Int64} {T : Int} (E : LE p l s m meth c b L xs D q r o cI cJ cZ) (hS : Lz s D q r o cI cJ cZ H locs z mm f T) (hT : T + 120000 ≤ 4000000000000000000) (hc : cells + 1 ≤ 1082) (hsl : slots + 6 ≤ 14493) (hn : n + 5 ≤ L) (hl : lv_has ls 8 [(0, .ref b), (1, .ref (q 0)), (2, .ref (r 0)), (3, .ref o), (4, .int (nI n))]) (kk : KA p l e s m below meth c b D q r o cI cJ cZ n (cells + 1) (slots + 6) (T + 120000)) : W p l e room_1 s m #[Value.ref b] below meth c H locs cells slots (lw_Z below #[Value.ref b] s) (F0 m 952 ls []) := by
  obtain ⟨hx, hb, hr, hml, hown, hts, hX, hbl, hlocks, hK, hz, hnc, hfl, hqi, hri, hqA, hrA, hoA, hqr, hoq, hor, hL⟩ := E
  obtain ⟨hP, hO, hM, hS, hF⟩ := hS
  have hbA : ¬ lA s b := fun h => Nat.not_le_of_lt hbl h
  have hzU := xz_at hz hS
  refine lv_aload_n hx hb dL_952 rfl (lv_at hl 1 rfl) ?_
  refine sc_row (j := 1) (lv := []) hx hb hX hbl hbA hS (by omega) hL (lv_at hl 0 rfl) (lv_at hl 4 rfl) dL_953 dL_954 dL_956 dL_957 dL_958 (by decide) ?_
  refine lv_aload_n hx hb dL_959 rfl (lv_at hl 3 rfl) ?_
  have hR := get_R hF f (xs (n + 1))
  refine hp_go (runSW (As := [.ref ((q 0)), .int (xs (n + 1)), .ref (o)]) (rest := []) (n := 3) ⟨hx, hb, hml, hown, hts⟩ (kLa_get l D q cI cJ cZ hqi hfl o hoq z f (xs (n + 1))) rfl rfl ⟨Nat.le_of_ble_eq_true rfl, Nat.le_of_ble_eq_true rfl⟩ rfl cwLa_get (fun w h => hts w (List.mem_cons_of_mem _ h)) (hts _ (List.mem_cons_of_mem _ wm1_0)) (hts _ (List.mem_cons_of_mem _ wm4_147)) (hts _ (List.mem_cons_of_mem _ wm4_146)) (by decide +kernel) (hp_pre hK hP hzU hnc hO) rfl rfl hl.1 rfl (lv_room (Nat.le_of_ble_eq_true rfl)) dL_960 ⟨hc, hsl⟩) hS (fun x h => h.elim (hqA x) (fun e => e ▸ hoA)) hM (fun x h h2 => h2.elim (fun h3 => hqr x h3 h) (fun e => hor (e ▸ h))) (fun H locs hP hO hM hS => ?_)
  generalize gLa_get z f (xs (n + 1)) = g at hR hP hO ⊢
  refine lv_istore (lv' := [(5, .int (g.1)), (0, .ref b), (1, .ref (q 0)), (2, .ref (r 0)), (3, .ref o), (4, .int (nI n))]) hx hb dL_963 hl (by decide) rfl (fun ls hl => ?_)
  refine lv_aload_n hx hb dL_965 rfl (lv_at hl 3 rfl) ?_
  refine sc_row (j := 1) (lv := []) hx hb hX hbl hbA hS (by omega) hL (lv_at hl 1 rfl) (lv_at hl 5 rfl) dL_966 dL_967 dL_969 dL_970 dL_971 (by decide) ?_
  refine mo_go (W.runV (As := [.int (xs (n + 1))]) (rest := []) ⟨hx, hb, hml, hown, hts⟩ (kMo_get l D r cI cJ cZ hri mm (xs (n + 1))) (cwV 1 hts (gV wm5_210 wm5_211 wm5_212 wm1_9 wm5_213) rfl rfl rfl (by decide +kernel) ⟨Nat.le_of_ble_eq_true rfl, Nat.le_of_ble_eq_true rfl⟩) (m_preV0 hK hM) rfl rfl hl.1 rfl (lv_room (Nat.le_of_ble_eq_true rfl)) dL_972 ⟨hc, hsl⟩) hS hrA hP hO hqr hor (fun H locs hP hO hM hS => ?_)
  generalize fMo_get mm (xs (n + 1)) = y at hR hM ⊢
  obtain ⟨y, mm1⟩ := y
  dsimp only at hR hM ⊢
  refine lv_lstore (lv' := [(6, .long (y)), (5, .int (g.1)), (0, .ref b), (1, .ref (q 0)), (2, .ref (r 0)), (3, .ref o), (4, .int (nI n))]) hx hb dL_975 hl (by decide) rfl (fun ls hl => ?_)
  refine lv_aload_n hx hb dL_977 rfl (lv_at hl 4 rfl) ?_
  refine cl_rd (W.runV (As := []) (rest := []) ⟨hx, hb, hml, hown, hts⟩ (kMo_thrown l D r cI cJ cZ hri mm1) (cwV 0 hts (gV wm5_33 wm5_34 wm5_35 wm1_9 wm5_36) rfl rfl rfl (by decide +kernel) ⟨Nat.le_of_ble_eq_true rfl, Nat.le_of_ble_eq_true rfl⟩) (m_preV0 hK hM) rfl rfl hl.1 rfl (lv_room (Nat.le_of_ble_eq_true rfl)) dL_978 ⟨hc, hsl⟩) ?_
  refine lv_iload hx hb dL_981 (lv_at hl 1 rfl) ?_
  refine lv_icmp_eq (tgt := 988) hx hb dL_983 rfl (fun _ => ?_) (fun h => absurd hR.1.2 h)
  refine lv_iload hx hb dL_988 (lv_at hl 1 rfl) ?_
  refine lv_if_ne (tgt := 1004) hx hb dL_990 rfl (fun _ => ?_) (fun h0 => ?_)
  · refine lv_goto (tgt := 1075) hx hb dL_1004 rfl ?_
    exact kk _ _ _ _ _ _ ⟨hP, hO, hM, hS, RF_le hR.1.1 (by omega)⟩ (lv_sub hl [2, 3, 4, 5, 6] rfl)
  · refine lv_aload_n hx hb dL_993 rfl (lv_at hl 5 rfl) ?_
    refine lv_iconst (v := 0) hx hb dL_994 (by decide) ?_
    refine ow_lald hx hb hK hO dL_995 ?_
    refine lv_lload hx hb dL_996 (lv_at hl 0 rfl) ?_
    refine lc_eq (tgt := 1004) hx hb dL_998 dL_999 rfl (fun _ => ?_) (fun h => absurd (hR.2 h0) h)
    refine lv_goto (tgt := 1075) hx hb dL_1004 rfl ?_
    exact kk _ _ _ _ _ _ ⟨hP, hO, hM, hS, RF_le hR.1.1 (by omega)⟩ (lv_sub hl [2, 3, 4, 5, 6] rfl)
theorem arm_16 {p : Program} {l : Launch} {e : Env} {s : State} {m : MethodId} {below : List Frame} {meth : Method} {c : Code} {b L : Nat} {xs : Nat → Int32} {D : va_G} {q r : Nat → Nat} {o : Nat} {cI cJ cZ : ClassId} {H : Heap} {locs : List Loc} {cells slots n : Nat} {ls : Array Slot} {z : SC} {mm : SM} {f : Nat → Int64} {T : Int} (E : LE p l s m meth c b L xs D q r o cI cJ cZ) (hS : Lz s D q r o cI cJ cZ H locs z mm f T) (hT : T + 120000 ≤ 4000000000000000000) (hc : cells + 1 ≤ 1082) (hsl : slots + 6 ≤ 14493) (hn : n + 5 ≤ L) (hl : lv_has ls 8 [(0, .ref b), (1, .ref (q 0)), (2, .ref (r 0)), (3, .ref o), (4, .int (nI n))]) (kk : KA p l e s m below meth c b D q r o cI cJ cZ n (cells + 1) (slots + 6) (T + 120000)) : W p l e room_1 s m #[Value.ref b] below meth c H locs cells slots (lw_Z below #[Value.ref b] s) (F0 m 1007 ls []) := by
  obtain ⟨hx, hb, hr, hml, hown, hts, hX, hbl, hlocks, hK, hz, hnc, hfl, hqi, hri, hqA, hrA, hoA, hqr, hoq, hor, hL⟩ := E
  obtain ⟨hP, hO, hM, hS, hF⟩ := hS
  have hbA : ¬ lA s b := fun h => Nat.not_le_of_lt hbl h
  have hzU := xz_at hz hS
  refine lv_aload_n hx hb dL_1007 rfl (lv_at hl 1 rfl) ?_
  refine sc_row (j := 1) (lv := []) hx hb hX hbl hbA hS (by omega) hL (lv_at hl 0 rfl) (lv_at hl 4 rfl) dL_1008 dL_1009 dL_1011 dL_1012 dL_1013 (by decide) ?_
  refine lv_aload_n hx hb dL_1014 rfl (lv_at hl 3 rfl) ?_
  have hR := output_R hF f (xs (n + 1))
  refine hp_go (runSW (As := [.ref ((q 0)), .int (xs (n + 1)), .ref (o)]) (rest := []) (n := 3) ⟨hx, hb, hml, hown, hts⟩ (kLa_output l D q cI cJ cZ hqi hfl o hoq z f (xs (n + 1)) (pr_pc hF).2) rfl rfl ⟨Nat.le_of_ble_eq_true rfl, Nat.le_of_ble_eq_true rfl⟩ rfl cwLa_output (fun w h => hts w (List.mem_cons_of_mem _ h)) (hts _ (List.mem_cons_of_mem _ wm1_0)) (hts _ (List.mem_cons_of_mem _ wm4_158)) (hts _ (List.mem_cons_of_mem _ wm4_157)) (by decide +kernel) (hp_pre hK hP hzU hnc hO) rfl rfl hl.1 rfl (lv_room (Nat.le_of_ble_eq_true rfl)) dL_1015 ⟨hc, hsl⟩) hS (fun x h => h.elim (hqA x) (fun e => e ▸ hoA)) hM (fun x h h2 => h2.elim (fun h3 => hqr x h3 h) (fun e => hor (e ▸ h))) (fun H locs hP hO hM hS => ?_)
  generalize gLa_output z f (xs (n + 1)) = g at hR hP hO ⊢
  refine lv_istore (lv' := [(5, .int (g.1)), (0, .ref b), (1, .ref (q 0)), (2, .ref (r 0)), (3, .ref o), (4, .int (nI n))]) hx hb dL_1018 hl (by decide) rfl (fun ls hl => ?_)
  refine lv_aload_n hx hb dL_1020 rfl (lv_at hl 3 rfl) ?_
  refine sc_row (j := 1) (lv := []) hx hb hX hbl hbA hS (by omega) hL (lv_at hl 1 rfl) (lv_at hl 5 rfl) dL_1021 dL_1022 dL_1024 dL_1025 dL_1026 (by decide) ?_
  refine mo_go (W.runV (As := [.int (xs (n + 1))]) (rest := []) ⟨hx, hb, hml, hown, hts⟩ (kMo_output l D r cI cJ cZ hri mm (xs (n + 1)) hF.1.2.2.1.2.2) (cwV 1 hts (gV wm5_215 wm5_216 wm5_217 wm1_9 wm5_218) rfl rfl rfl (by decide +kernel) ⟨Nat.le_of_ble_eq_true rfl, Nat.le_of_ble_eq_true rfl⟩) (m_preV0 hK hM) rfl rfl hl.1 rfl (lv_room (Nat.le_of_ble_eq_true rfl)) dL_1027 ⟨hc, hsl⟩) hS hrA hP hO hqr hor (fun H locs hP hO hM hS => ?_)
  generalize fMo_output mm (xs (n + 1)) = y at hR hM ⊢
  obtain ⟨y, mm1⟩ := y
  dsimp only at hR hM ⊢
  refine lv_lstore (lv' := [(6, .long (y)), (5, .int (g.1)), (0, .ref b), (1, .ref (q 0)), (2, .ref (r 0)), (3, .ref o), (4, .int (nI n))]) hx hb dL_1030 hl (by decide) rfl (fun ls hl => ?_)
  refine lv_aload_n hx hb dL_1032 rfl (lv_at hl 4 rfl) ?_
  refine cl_rd (W.runV (As := []) (rest := []) ⟨hx, hb, hml, hown, hts⟩ (kMo_thrown l D r cI cJ cZ hri mm1) (cwV 0 hts (gV wm5_33 wm5_34 wm5_35 wm1_9 wm5_36) rfl rfl rfl (by decide +kernel) ⟨Nat.le_of_ble_eq_true rfl, Nat.le_of_ble_eq_true rfl⟩) (m_preV0 hK hM) rfl rfl hl.1 rfl (lv_room (Nat.le_of_ble_eq_true rfl)) dL_1033 ⟨hc, hsl⟩) ?_
  refine lv_iload hx hb dL_1036 (lv_at hl 1 rfl) ?_
  refine lv_icmp_eq (tgt := 1043) hx hb dL_1038 rfl (fun _ => ?_) (fun h => absurd hR.1.2 h)
  refine lv_iload hx hb dL_1043 (lv_at hl 1 rfl) ?_
  refine lv_if_ne (tgt := 1059) hx hb dL_1045 rfl (fun _ => ?_) (fun h0 => ?_)
  · refine lv_goto (tgt := 1075) hx hb dL_1059 rfl ?_
    exact kk _ _ _ _ _ _ ⟨hP, hO, hM, hS, RF_le hR.1.1 (by omega)⟩ (lv_sub hl [2, 3, 4, 5, 6] rfl)
  · refine lv_aload_n hx hb dL_1048 rfl (lv_at hl 5 rfl) ?_
    refine lv_iconst (v := 0) hx hb dL_1049 (by decide) ?_
    refine ow_lald hx hb hK hO dL_1050 ?_
    refine lv_lload hx hb dL_1051 (lv_at hl 0 rfl) ?_
    refine lc_eq (tgt := 1059) hx hb dL_1053 dL_1054 rfl (fun _ => ?_) (fun h => absurd (hR.2 h0) h)
    refine lv_goto (tgt := 1075) hx hb dL_1059 rfl ?_
    exact kk _ _ _ _ _ _ ⟨hP, hO, hM, hS, RF_le hR.1.1 (by omega)⟩ (lv_sub hl [2, 3, 4, 5, 6] rfl)
theorem arm_17 {p : Program} {l : Launch} {e : Env} {s : State} {m : MethodId} {below : List Frame} {meth : Method} {c : Code} {b L : Nat} {xs : Nat → Int32} {D : va_G} {q r : Nat → Nat} {o : Nat} {cI cJ cZ : ClassId} {H : Heap} {locs : List Loc} {cells slots n : Nat} {ls : Array Slot} {z : SC} {mm : SM} {f : Nat → Int64} {T : Int} (E : LE p l s m meth c b L xs D q r o cI cJ cZ) (hS : Lz s D q r o cI cJ cZ H locs z mm f T) (hT : T + 120000 ≤ 4000000000000000000) (hc : cells + 1 ≤ 1082) (hsl : slots + 6 ≤ 14493) (hn : n + 5 ≤ L) (hl : lv_has ls 8 [(0, .ref b), (1, .ref (q 0)), (2, .ref (r 0)), (3, .ref o), (4, .int (nI n))]) (kk : KA p l e s m below meth c b D q r o cI cJ cZ n (cells + 1) (slots + 6) (T + 120000)) : W p l e room_1 s m #[Value.ref b] below meth c H locs cells slots (lw_Z below #[Value.ref b] s) (F0 m 1062 ls []) := by
  obtain ⟨hx, hb, hr, hml, hown, hts, hX, hbl, hlocks, hK, hz, hnc, hfl, hqi, hri, hqA, hrA, hoA, hqr, hoq, hor, hL⟩ := E
  obtain ⟨hP, hO, hM, hS, hF⟩ := hS
  have hbA : ¬ lA s b := fun h => Nat.not_le_of_lt hbl h
  have hzU := xz_at hz hS
  refine lv_aload_n hx hb dL_1062 rfl (lv_at hl 1 rfl) ?_
  have hR := outputs_R hF
  refine cl_rd (W.runV (As := []) (rest := []) ⟨hx, hb, hml, hown, hts⟩ (kDM_outputs l D q cI cJ cZ hqi z) (cwV 0 hts (gV wm1_231 wm1_232 wm1_233 wm1_1 wm1_234) rfl rfl rfl (by decide +kernel) ⟨Nat.le_of_ble_eq_true rfl, Nat.le_of_ble_eq_true rfl⟩) (c_preV0 hK hP) rfl rfl hl.1 rfl (lv_room (Nat.le_of_ble_eq_true rfl)) dL_1063 ⟨Nat.le_trans (Nat.le_add_right _ _) hc, Nat.le_trans (Nat.le_add_right _ _) hsl⟩) ?_
  refine lv_aload_n hx hb dL_1066 rfl (lv_at hl 2 rfl) ?_
  refine mo_go (W.runV (As := []) (rest := [.int (fDM_outputs z)]) ⟨hx, hb, hml, hown, hts⟩ (kMo_outputs l D r cI cJ cZ hri mm) (cwV 0 hts (gV wm5_219 wm5_220 wm5_221 wm1_9 wm5_222) rfl rfl rfl (by decide +kernel) ⟨Nat.le_of_ble_eq_true rfl, Nat.le_of_ble_eq_true rfl⟩) (m_preV0 hK hM) rfl rfl hl.1 rfl (lv_room (Nat.le_of_ble_eq_true rfl)) dL_1067 ⟨Nat.le_trans (Nat.le_add_right _ _) hc, Nat.le_trans (Nat.le_add_right _ _) hsl⟩) hS hrA hP hO hqr hor (fun H locs hP hO hM hS => ?_)
  generalize fMo_outputs mm = y at hR hM ⊢
  obtain ⟨y, mm1⟩ := y
  dsimp only at hR hM ⊢
  refine lv_icmp_eq (tgt := 1075) hx hb dL_1070 rfl (fun _ => ?_) (fun h => absurd hR.2 h)
  refine w_pad (cells' := cells + 1) (slots' := slots + 6) (Nat.le_add_right _ _) (Nat.le_add_right _ _) ?_
  exact kk _ _ _ _ _ _ ⟨hP, hO, hM, hS, RF_le hR.1 (by omega)⟩ (lv_sub hl [0, 1, 2, 3, 4] rfl)
