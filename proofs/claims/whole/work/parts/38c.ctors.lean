theorem dDM_init_0 : decode ccDM_init 0 = .ok (.aload_n 0, 1) := by decide +kernel
theorem dDM_init_1 : decode ccDM_init 1 = .ok (.invokespecial 1, 3) := by decide +kernel
theorem dDM_init_4 : decode ccDM_init 4 = .ok (.aload_n 0, 1) := by decide +kernel
theorem dDM_init_5 : decode ccDM_init 5 = .ok (.new 7, 3) := by decide +kernel
theorem dDM_init_8 : decode ccDM_init 8 = .ok (.dup, 1) := by decide +kernel
theorem dDM_init_9 : decode ccDM_init 9 = .ok (.invokespecial 9, 3) := by decide +kernel
theorem dDM_init_12 : decode ccDM_init 12 = .ok (.putfield 10, 3) := by decide +kernel
theorem dDM_init_15 : decode ccDM_init 15 = .ok (.aload_n 0, 1) := by decide +kernel
theorem dDM_init_16 : decode ccDM_init 16 = .ok (.new 16, 3) := by decide +kernel
theorem dDM_init_19 : decode ccDM_init 19 = .ok (.dup, 1) := by decide +kernel
theorem dDM_init_20 : decode ccDM_init 20 = .ok (.invokespecial 18, 3) := by decide +kernel
theorem dDM_init_23 : decode ccDM_init 23 = .ok (.putfield 19, 3) := by decide +kernel
theorem dDM_init_26 : decode ccDM_init 26 = .ok (.aload_n 0, 1) := by decide +kernel
theorem dDM_init_27 : decode ccDM_init 27 = .ok (.new 23, 3) := by decide +kernel
theorem dDM_init_30 : decode ccDM_init 30 = .ok (.dup, 1) := by decide +kernel
theorem dDM_init_31 : decode ccDM_init 31 = .ok (.invokespecial 25, 3) := by decide +kernel
theorem dDM_init_34 : decode ccDM_init 34 = .ok (.putfield 26, 3) := by decide +kernel
theorem dDM_init_37 : decode ccDM_init 37 = .ok (.aload_n 0, 1) := by decide +kernel
theorem dDM_init_38 : decode ccDM_init 38 = .ok (.new 30, 3) := by decide +kernel
theorem dDM_init_41 : decode ccDM_init 41 = .ok (.dup, 1) := by decide +kernel
theorem dDM_init_42 : decode ccDM_init 42 = .ok (.aload_n 0, 1) := by decide +kernel
theorem dDM_init_43 : decode ccDM_init 43 = .ok (.getfield 10, 3) := by decide +kernel
theorem dDM_init_46 : decode ccDM_init 46 = .ok (.aload_n 0, 1) := by decide +kernel
theorem dDM_init_47 : decode ccDM_init 47 = .ok (.getfield 19, 3) := by decide +kernel
theorem dDM_init_50 : decode ccDM_init 50 = .ok (.aload_n 0, 1) := by decide +kernel
theorem dDM_init_51 : decode ccDM_init 51 = .ok (.getfield 26, 3) := by decide +kernel
theorem dDM_init_54 : decode ccDM_init 54 = .ok (.invokespecial 32, 3) := by decide +kernel
theorem dDM_init_57 : decode ccDM_init 57 = .ok (.putfield 35, 3) := by decide +kernel
theorem dDM_init_60 : decode ccDM_init 60 = .ok (.aload_n 0, 1) := by decide +kernel
theorem dDM_init_61 : decode ccDM_init 61 = .ok (.new 39, 3) := by decide +kernel
theorem dDM_init_64 : decode ccDM_init 64 = .ok (.dup, 1) := by decide +kernel
theorem dDM_init_65 : decode ccDM_init 65 = .ok (.invokespecial 41, 3) := by decide +kernel
theorem dDM_init_68 : decode ccDM_init 68 = .ok (.putfield 42, 3) := by decide +kernel
theorem dDM_init_71 : decode ccDM_init 71 = .ok (.return_, 1) := by decide +kernel
set_option maxHeartbeats 4000000 in
set_option maxRecDepth 100000 in
theorem kDM_init (l : Launch) (D : va_G) (cI cJ cZ : ClassId) (a n : Nat)  : Met l yDM_init wsDM_init { frames := 3, cells := 22, slots := 3213, locals := 63 } (va_Pc [.ref (a)] (nC D cI cJ cZ [(a, .inr (0, [.null, .null, .null, .null, .null]))] n)) (nQ D [(a, .inr (0, [.ref (n), .ref (n + 4), .ref (n + 7), .ref (n + 9), .ref (n + 11)])), (n, .inr (1, [.ref (n + 1), .ref (n + 2), .ref (n + 3)])), (n + 1, .inl (cI, 2000, .inl (fAr_fillX (fun _ => 0) (fDr_codeOf 0)))), (n + 2, .inl (cJ, 200, .inr (.inl (fun _ => 0)))), (n + 3, .inl (cZ, 200, .inl (fun _ => bb false))), (n + 4, .inr (2, [.ref (n + 5), .ref (n + 6), .int 0, .int 0])), (n + 5, .inl (cJ, 20, .inr (.inl (fun _ => 0)))), (n + 6, .inl (cZ, 20, .inl (fun _ => bb false))), (n + 7, .inr (3, [.ref (n + 8), .int 0])), (n + 8, .inl (cJ, 40, .inr (.inl (fun _ => 0)))), (n + 9, .inr (4, [.ref (n), .ref (n + 4), .ref (n + 7), .ref (n + 10), .long 0, .int 0, .int 0, .int 0, .long 0])), (n + 10, .inr (5, [.long 0, .long 0, .int 0, .int 0])), (n + 11, .inr (6, [.ref (n + 12), .ref (n + 13), .ref (n + 14), .ref (n + 15), .ref (n + 16), .ref (n + 17), .ref (n + 18), .ref (n + 19), .ref (n + 20), .ref (n + 21), .int 0])), (n + 12, .inl (cI, 40, .inl (fun _ => 0))), (n + 13, .inl (cI, 40, .inl (fun _ => 0))), (n + 14, .inl (cI, 40, .inl (fun _ => 0))), (n + 15, .inl (cI, 40, .inl (fun _ => 0))), (n + 16, .inl (cI, 40, .inl (fun _ => 0))), (n + 17, .inl (cI, 40, .inl (fun _ => 0))), (n + 18, .inl (cI, 40, .inl (fun _ => 0))), (n + 19, .inl (cI, 20, .inl (fAr_fillY (fun _ => 0) ((-1))))), (n + 20, .inl (cZ, 200, .inl (fun _ => bb false))), (n + 21, .inl (cZ, 200, .inl (fun _ => bb false)))] a n 22) 22 3213 (nA a n) := by
  refine Met.ofW (cc := ccDM_init) (maxL := 1) (ret := none) (by decide +kernel) rfl ?_
  intro p e s m args below meth c s₁ B hml hv
  obtain ⟨rfl, hsz, hP, hK⟩ := hv
  have hx := B.exec
  have hb := B.bytes
  have hr := B.returns
  have hts := atoms_spec (ws := wsDM_init) B.pre
  have hown : s.vm.findClass RDM = some m.cls := findClass_of_methodNamed B.named
  have hlocks := B.notSynchronized
  have hin2 : meth.name = "<init>" := (name_of_methodNamed B.named B.method).1
  have han : a < n := by have h9 : a < s.heap.size := (hP 0 _ rfl).lt; omega
  have hA : ∀ q, s.heap.size ≤ q → nA a n q := fun q h => .inr (by omega)
  have hS : va_S (nA a n) s.heap s.heap [] := va_S.rf
  have hD : va_D (nA a n) [(a, .inr (0, [.null, .null, .null, .null, .null]))] := vD_inc trivial (by simp only [List.mem_cons, List.not_mem_nil, or_false]; rintro x rfl; exact .inl rfl)
  have hl := lv_entry ([.ref (a)]) (n := 1) (Nat.le_of_ble_eq_true rfl)
  rw [lg_entry_eq]
  generalize (lg_sl ([.ref (a)]) ++ List.replicate (1 - (lg_sl ([.ref (a)])).length) Slot.unset).toArray = ls at hl ⊢
  have hl : lv_has ls 1 [(0, .ref (a))] := hl
  refine lv_aload_n hx hb dDM_init_0 rfl (lv_at hl 0 rfl) ?_
  refine W.objInit hx hb hown (hts _ (List.mem_cons_of_mem _ wm1_25)) (hts _ (List.mem_cons_of_mem _ wm1_26)) (hts _ (List.mem_cons_of_mem _ wm1_27)) rfl (by rw [hml]; exact hl.1) rfl dDM_init_1 (Nat.le_of_ble_eq_true rfl) (Nat.le_of_ble_eq_true rfl) ?_
  refine W.eq (g2 := F0 m 4 ls []) rfl ?_
  refine lv_aload_n hx hb dDM_init_4 rfl (lv_at hl 0 rfl) ?_
  refine w_size (fun hle => ?_)
  have hz : s.heap.size = n := sz_0 hsz hle hS.1
  clear hle
  refine nw_O (ci := 1) (C := RDr) (T := TDr) (N := 3) tyDr (fs := [.null, .null, .null]) hx hb hts (fun w h => List.mem_cons_of_mem _ (inADr w h)) tyDr_ok hown (hts _ (List.mem_cons_of_mem _ wm1_28)) (hts _ (List.mem_cons_of_mem _ wm1_29)) (hts _ (List.mem_cons_of_mem _ wm1_2)) hK hP hD hS hA hz rfl (fun j hj => blDr j hj) (Nat.le_of_ble_eq_true rfl) (Nat.le_of_ble_eq_true rfl) dDM_init_5 (fun H hz hP hD hS => ?_)
  have hP : va_P D clA [(a, .inr (0, [.null, .null, .null, .null, .null])), (n, .inr (1, [.null, .null, .null]))] H := hP
  have hD : va_D (nA a n) [(a, .inr (0, [.null, .null, .null, .null, .null])), (n, .inr (1, [.null, .null, .null]))] := hD
  refine lv_dup hx hb dDM_init_8 rfl ?_
  refine w_size (fun hle => ?_)
  have hz : H.size = n + 1 := sz_eq (j := 0) hsz hle (hP 1 _ rfl).lt
  clear hle
  have hPb := hP.sub (ws' := [(n, .inr (1, [.null, .null, .null]))]) [1] rfl
  have hPo := hP.sub (ws' := [(a, .inr (0, [.null, .null, .null, .null, .null]))]) [0] rfl
  refine cl_ct (b := n) (h := n + 1) (W.runI (As := []) (rest := [.ref (n), .ref (a)]) ⟨hx, hb, hml, hown, hts⟩ (kDr_init l D cI cJ cZ (n) (n + 1) ) (cwI 0 hts (gI wm1_32) rfl rfl rfl (hts _ (List.mem_cons_of_mem _ wm1_2)) (hts _ (List.mem_cons_of_mem _ wm1_30)) (hts _ (List.mem_cons_of_mem _ wm1_31)) rfl (by decide +kernel) ⟨Nat.le_of_ble_eq_true rfl, Nat.le_of_ble_eq_true rfl⟩) (nC_pre hK hPb hz) rfl rfl hl.1 rfl (lv_room (Nat.le_of_ble_eq_true rfl)) dDM_init_9 ⟨Nat.le_of_ble_eq_true rfl, Nat.le_of_ble_eq_true rfl⟩) hS hz (.inr (Nat.le_refl n)) hA (fun H locs hz hP hk hS => ?_)
  have hP : va_P D clA [(a, .inr (0, [.null, .null, .null, .null, .null])), (n, .inr (1, [.ref (n + 1), .ref (n + 2), .ref (n + 3)])), (n + 1, .inl (cI, 2000, .inl (fAr_fillX (fun _ => 0) (fDr_codeOf 0)))), (n + 2, .inl (cJ, 200, .inr (.inl (fun _ => 0)))), (n + 3, .inl (cZ, 200, .inl (fun _ => bb false)))] H := by
    have hP : va_P D clA [(n, .inr (1, [.ref (n + 1), .ref (n + 2), .ref (n + 3)])), (n + 1, .inl (cI, 2000, .inl (fAr_fillX (fun _ => 0) (fDr_codeOf 0)))), (n + 2, .inl (cJ, 200, .inr (.inl (fun _ => 0)))), (n + 3, .inl (cZ, 200, .inl (fun _ => bb false)))] H := hP
    refine vP_join hPo (by assumption) hk ?_ hP
    simp only [List.mem_cons, List.not_mem_nil, or_false]
    rintro x rfl
    · exact Nat.ne_of_lt han
  have hD : va_D (nA a n) [(a, .inr (0, [.null, .null, .null, .null, .null])), (n, .inr (1, [.ref (n + 1), .ref (n + 2), .ref (n + 3)])), (n + 1, .inl (cI, 2000, .inl (fAr_fillX (fun _ => 0) (fDr_codeOf 0)))), (n + 2, .inl (cJ, 200, .inr (.inl (fun _ => 0)))), (n + 3, .inl (cZ, 200, .inl (fun _ => bb false)))] := by
    refine vD_inc ⟨han, ad_0 (k := 1) (by decide), ad_k (i := 1) (k := 2) (by decide), ad_k (i := 2) (k := 3) (by decide), trivial⟩ ?_
    simp only [List.mem_cons, List.not_mem_nil, or_false]
    rintro x (rfl | rfl | rfl | rfl | rfl)
    · exact .inl rfl
    · exact .inr (Nat.le_refl n)
    · exact .inr (Nat.le_add_right n 1)
    · exact .inr (Nat.le_add_right n 2)
    · exact .inr (Nat.le_add_right n 3)
  refine va_putF (ci := 0) (v := .ref (n)) (ty := .object "DrumMachine$Drum") (C := RDM) (T := TDM) (N := 5) hx hb hts (fun w h => List.mem_cons_of_mem _ (inADM w h)) tyDM tyDM_ok nmDM hown hK hP hD hS 0 rfl rfl 0 (by decide) (hts _ (List.mem_cons_of_mem _ wm1_179)) (fun _ h9 => h9) rfl hin2 rfl (by decide +kernel) rfl rfl (Nat.le_of_ble_eq_true rfl) dDM_init_12 (fun H locs hP hD hS => ?_)
  have hP : va_P D clA [(a, .inr (0, [.ref (n), .null, .null, .null, .null])), (n, .inr (1, [.ref (n + 1), .ref (n + 2), .ref (n + 3)])), (n + 1, .inl (cI, 2000, .inl (fAr_fillX (fun _ => 0) (fDr_codeOf 0)))), (n + 2, .inl (cJ, 200, .inr (.inl (fun _ => 0)))), (n + 3, .inl (cZ, 200, .inl (fun _ => bb false)))] H := hP
  have hD : va_D (nA a n) [(a, .inr (0, [.ref (n), .null, .null, .null, .null])), (n, .inr (1, [.ref (n + 1), .ref (n + 2), .ref (n + 3)])), (n + 1, .inl (cI, 2000, .inl (fAr_fillX (fun _ => 0) (fDr_codeOf 0)))), (n + 2, .inl (cJ, 200, .inr (.inl (fun _ => 0)))), (n + 3, .inl (cZ, 200, .inl (fun _ => bb false)))] := hD
  refine lv_aload_n hx hb dDM_init_15 rfl (lv_at hl 0 rfl) ?_
  refine w_size (fun hle => ?_)
  have hz : H.size = n + 4 := sz_eq (j := 3) hsz hle (hP 4 _ rfl).lt
  clear hle
  refine nw_O (ci := 2) (C := RCd) (T := TCd) (N := 4) tyCd (fs := [.null, .null, .int 0, .int 0]) hx hb hts (fun w h => List.mem_cons_of_mem _ (inACd w h)) tyCd_ok hown (hts _ (List.mem_cons_of_mem _ wm1_53)) (hts _ (List.mem_cons_of_mem _ wm1_54)) (hts _ (List.mem_cons_of_mem _ wm1_4)) hK hP hD hS hA hz rfl (fun j hj => blCd j hj) (Nat.le_of_ble_eq_true rfl) (Nat.le_of_ble_eq_true rfl) dDM_init_16 (fun H hz hP hD hS => ?_)
  have hP : va_P D clA [(a, .inr (0, [.ref (n), .null, .null, .null, .null])), (n, .inr (1, [.ref (n + 1), .ref (n + 2), .ref (n + 3)])), (n + 1, .inl (cI, 2000, .inl (fAr_fillX (fun _ => 0) (fDr_codeOf 0)))), (n + 2, .inl (cJ, 200, .inr (.inl (fun _ => 0)))), (n + 3, .inl (cZ, 200, .inl (fun _ => bb false))), (n + 4, .inr (2, [.null, .null, .int 0, .int 0]))] H := hP
  have hD : va_D (nA a n) [(a, .inr (0, [.ref (n), .null, .null, .null, .null])), (n, .inr (1, [.ref (n + 1), .ref (n + 2), .ref (n + 3)])), (n + 1, .inl (cI, 2000, .inl (fAr_fillX (fun _ => 0) (fDr_codeOf 0)))), (n + 2, .inl (cJ, 200, .inr (.inl (fun _ => 0)))), (n + 3, .inl (cZ, 200, .inl (fun _ => bb false))), (n + 4, .inr (2, [.null, .null, .int 0, .int 0]))] := hD
  refine lv_dup hx hb dDM_init_19 rfl ?_
  refine w_size (fun hle => ?_)
  have hz : H.size = n + 5 := sz_eq (j := 4) hsz hle (hP 5 _ rfl).lt
  clear hle
  have hPb := hP.sub (ws' := [(n + 4, .inr (2, [.null, .null, .int 0, .int 0]))]) [5] rfl
  have hPo := hP.sub (ws' := [(a, .inr (0, [.ref (n), .null, .null, .null, .null])), (n, .inr (1, [.ref (n + 1), .ref (n + 2), .ref (n + 3)])), (n + 1, .inl (cI, 2000, .inl (fAr_fillX (fun _ => 0) (fDr_codeOf 0)))), (n + 2, .inl (cJ, 200, .inr (.inl (fun _ => 0)))), (n + 3, .inl (cZ, 200, .inl (fun _ => bb false)))]) [0, 1, 2, 3, 4] rfl
  refine cl_ct (b := n + 4) (h := n + 5) (W.runI (As := []) (rest := [.ref (n + 4), .ref (a)]) ⟨hx, hb, hml, hown, hts⟩ (kCd_init l D cI cJ cZ (n + 4) (n + 5) ) (cwI 0 hts (gI wm1_57) rfl rfl rfl (hts _ (List.mem_cons_of_mem _ wm1_4)) (hts _ (List.mem_cons_of_mem _ wm1_55)) (hts _ (List.mem_cons_of_mem _ wm1_56)) rfl (by decide +kernel) ⟨Nat.le_of_ble_eq_true rfl, Nat.le_of_ble_eq_true rfl⟩) (nC_pre hK hPb hz) rfl rfl hl.1 rfl (lv_room (Nat.le_of_ble_eq_true rfl)) dDM_init_20 ⟨Nat.le_of_ble_eq_true rfl, Nat.le_of_ble_eq_true rfl⟩) hS hz (.inr (Nat.le_add_right n 4)) hA (fun H locs hz hP hk hS => ?_)
  have hP : va_P D clA [(a, .inr (0, [.ref (n), .null, .null, .null, .null])), (n, .inr (1, [.ref (n + 1), .ref (n + 2), .ref (n + 3)])), (n + 1, .inl (cI, 2000, .inl (fAr_fillX (fun _ => 0) (fDr_codeOf 0)))), (n + 2, .inl (cJ, 200, .inr (.inl (fun _ => 0)))), (n + 3, .inl (cZ, 200, .inl (fun _ => bb false))), (n + 4, .inr (2, [.ref (n + 5), .ref (n + 6), .int 0, .int 0])), (n + 5, .inl (cJ, 20, .inr (.inl (fun _ => 0)))), (n + 6, .inl (cZ, 20, .inl (fun _ => bb false)))] H := by
    have hP : va_P D clA [(n + 4, .inr (2, [.ref (n + 5), .ref (n + 6), .int 0, .int 0])), (n + 5, .inl (cJ, 20, .inr (.inl (fun _ => 0)))), (n + 6, .inl (cZ, 20, .inl (fun _ => bb false)))] H := hP
    refine vP_join hPo (by assumption) hk ?_ hP
    simp only [List.mem_cons, List.not_mem_nil, or_false]
    rintro x (rfl | rfl | rfl | rfl | rfl)
    · exact an_a han
    · exact an_0 (k := 4) (by decide)
    · exact an_k (i := 1) (k := 4) (by decide)
    · exact an_k (i := 2) (k := 4) (by decide)
    · exact an_k (i := 3) (k := 4) (by decide)
  have hD : va_D (nA a n) [(a, .inr (0, [.ref (n), .null, .null, .null, .null])), (n, .inr (1, [.ref (n + 1), .ref (n + 2), .ref (n + 3)])), (n + 1, .inl (cI, 2000, .inl (fAr_fillX (fun _ => 0) (fDr_codeOf 0)))), (n + 2, .inl (cJ, 200, .inr (.inl (fun _ => 0)))), (n + 3, .inl (cZ, 200, .inl (fun _ => bb false))), (n + 4, .inr (2, [.ref (n + 5), .ref (n + 6), .int 0, .int 0])), (n + 5, .inl (cJ, 20, .inr (.inl (fun _ => 0)))), (n + 6, .inl (cZ, 20, .inl (fun _ => bb false)))] := by
    refine vD_inc ⟨han, ad_0 (k := 1) (by decide), ad_k (i := 1) (k := 2) (by decide), ad_k (i := 2) (k := 3) (by decide), ad_k (i := 3) (k := 4) (by decide), ad_k (i := 4) (k := 5) (by decide), ad_k (i := 5) (k := 6) (by decide), trivial⟩ ?_
    simp only [List.mem_cons, List.not_mem_nil, or_false]
    rintro x (rfl | rfl | rfl | rfl | rfl | rfl | rfl | rfl)
    · exact .inl rfl
    · exact .inr (Nat.le_refl n)
    · exact .inr (Nat.le_add_right n 1)
    · exact .inr (Nat.le_add_right n 2)
    · exact .inr (Nat.le_add_right n 3)
    · exact .inr (Nat.le_add_right n 4)
    · exact .inr (Nat.le_add_right n 5)
    · exact .inr (Nat.le_add_right n 6)
  refine va_putF (ci := 0) (v := .ref (n + 4)) (ty := .object "DrumMachine$CardDeck") (C := RDM) (T := TDM) (N := 5) hx hb hts (fun w h => List.mem_cons_of_mem _ (inADM w h)) tyDM tyDM_ok nmDM hown hK hP hD hS 0 rfl rfl 1 (by decide) (hts _ (List.mem_cons_of_mem _ wm1_180)) (fun _ h9 => h9) rfl hin2 rfl (by decide +kernel) rfl rfl (Nat.le_of_ble_eq_true rfl) dDM_init_23 (fun H locs hP hD hS => ?_)
  have hP : va_P D clA [(a, .inr (0, [.ref (n), .ref (n + 4), .null, .null, .null])), (n, .inr (1, [.ref (n + 1), .ref (n + 2), .ref (n + 3)])), (n + 1, .inl (cI, 2000, .inl (fAr_fillX (fun _ => 0) (fDr_codeOf 0)))), (n + 2, .inl (cJ, 200, .inr (.inl (fun _ => 0)))), (n + 3, .inl (cZ, 200, .inl (fun _ => bb false))), (n + 4, .inr (2, [.ref (n + 5), .ref (n + 6), .int 0, .int 0])), (n + 5, .inl (cJ, 20, .inr (.inl (fun _ => 0)))), (n + 6, .inl (cZ, 20, .inl (fun _ => bb false)))] H := hP
  have hD : va_D (nA a n) [(a, .inr (0, [.ref (n), .ref (n + 4), .null, .null, .null])), (n, .inr (1, [.ref (n + 1), .ref (n + 2), .ref (n + 3)])), (n + 1, .inl (cI, 2000, .inl (fAr_fillX (fun _ => 0) (fDr_codeOf 0)))), (n + 2, .inl (cJ, 200, .inr (.inl (fun _ => 0)))), (n + 3, .inl (cZ, 200, .inl (fun _ => bb false))), (n + 4, .inr (2, [.ref (n + 5), .ref (n + 6), .int 0, .int 0])), (n + 5, .inl (cJ, 20, .inr (.inl (fun _ => 0)))), (n + 6, .inl (cZ, 20, .inl (fun _ => bb false)))] := hD
  refine lv_aload_n hx hb dDM_init_26 rfl (lv_at hl 0 rfl) ?_
  refine w_size (fun hle => ?_)
  have hz : H.size = n + 7 := sz_eq (j := 6) hsz hle (hP 7 _ rfl).lt
  clear hle
  refine nw_O (ci := 3) (C := RPu) (T := TPu) (N := 2) tyPu (fs := [.null, .int 0]) hx hb hts (fun w h => List.mem_cons_of_mem _ (inAPu w h)) tyPu_ok hown (hts _ (List.mem_cons_of_mem _ wm1_72)) (hts _ (List.mem_cons_of_mem _ wm1_73)) (hts _ (List.mem_cons_of_mem _ wm1_5)) hK hP hD hS hA hz rfl (fun j hj => blPu j hj) (Nat.le_of_ble_eq_true rfl) (Nat.le_of_ble_eq_true rfl) dDM_init_27 (fun H hz hP hD hS => ?_)
  have hP : va_P D clA [(a, .inr (0, [.ref (n), .ref (n + 4), .null, .null, .null])), (n, .inr (1, [.ref (n + 1), .ref (n + 2), .ref (n + 3)])), (n + 1, .inl (cI, 2000, .inl (fAr_fillX (fun _ => 0) (fDr_codeOf 0)))), (n + 2, .inl (cJ, 200, .inr (.inl (fun _ => 0)))), (n + 3, .inl (cZ, 200, .inl (fun _ => bb false))), (n + 4, .inr (2, [.ref (n + 5), .ref (n + 6), .int 0, .int 0])), (n + 5, .inl (cJ, 20, .inr (.inl (fun _ => 0)))), (n + 6, .inl (cZ, 20, .inl (fun _ => bb false))), (n + 7, .inr (3, [.null, .int 0]))] H := hP
  have hD : va_D (nA a n) [(a, .inr (0, [.ref (n), .ref (n + 4), .null, .null, .null])), (n, .inr (1, [.ref (n + 1), .ref (n + 2), .ref (n + 3)])), (n + 1, .inl (cI, 2000, .inl (fAr_fillX (fun _ => 0) (fDr_codeOf 0)))), (n + 2, .inl (cJ, 200, .inr (.inl (fun _ => 0)))), (n + 3, .inl (cZ, 200, .inl (fun _ => bb false))), (n + 4, .inr (2, [.ref (n + 5), .ref (n + 6), .int 0, .int 0])), (n + 5, .inl (cJ, 20, .inr (.inl (fun _ => 0)))), (n + 6, .inl (cZ, 20, .inl (fun _ => bb false))), (n + 7, .inr (3, [.null, .int 0]))] := hD
  refine lv_dup hx hb dDM_init_30 rfl ?_
  refine w_size (fun hle => ?_)
  have hz : H.size = n + 8 := sz_eq (j := 7) hsz hle (hP 8 _ rfl).lt
  clear hle
  have hPb := hP.sub (ws' := [(n + 7, .inr (3, [.null, .int 0]))]) [8] rfl
  have hPo := hP.sub (ws' := [(a, .inr (0, [.ref (n), .ref (n + 4), .null, .null, .null])), (n, .inr (1, [.ref (n + 1), .ref (n + 2), .ref (n + 3)])), (n + 1, .inl (cI, 2000, .inl (fAr_fillX (fun _ => 0) (fDr_codeOf 0)))), (n + 2, .inl (cJ, 200, .inr (.inl (fun _ => 0)))), (n + 3, .inl (cZ, 200, .inl (fun _ => bb false))), (n + 4, .inr (2, [.ref (n + 5), .ref (n + 6), .int 0, .int 0])), (n + 5, .inl (cJ, 20, .inr (.inl (fun _ => 0)))), (n + 6, .inl (cZ, 20, .inl (fun _ => bb false)))]) [0, 1, 2, 3, 4, 5, 6, 7] rfl
  refine cl_ct (b := n + 7) (h := n + 8) (W.runI (As := []) (rest := [.ref (n + 7), .ref (a)]) ⟨hx, hb, hml, hown, hts⟩ (kPu_init l D cI cJ cZ (n + 7) (n + 8) ) (cwI 0 hts (gI wm1_76) rfl rfl rfl (hts _ (List.mem_cons_of_mem _ wm1_5)) (hts _ (List.mem_cons_of_mem _ wm1_74)) (hts _ (List.mem_cons_of_mem _ wm1_75)) rfl (by decide +kernel) ⟨Nat.le_of_ble_eq_true rfl, Nat.le_of_ble_eq_true rfl⟩) (nC_pre hK hPb hz) rfl rfl hl.1 rfl (lv_room (Nat.le_of_ble_eq_true rfl)) dDM_init_31 ⟨Nat.le_of_ble_eq_true rfl, Nat.le_of_ble_eq_true rfl⟩) hS hz (.inr (Nat.le_add_right n 7)) hA (fun H locs hz hP hk hS => ?_)
  have hP : va_P D clA [(a, .inr (0, [.ref (n), .ref (n + 4), .null, .null, .null])), (n, .inr (1, [.ref (n + 1), .ref (n + 2), .ref (n + 3)])), (n + 1, .inl (cI, 2000, .inl (fAr_fillX (fun _ => 0) (fDr_codeOf 0)))), (n + 2, .inl (cJ, 200, .inr (.inl (fun _ => 0)))), (n + 3, .inl (cZ, 200, .inl (fun _ => bb false))), (n + 4, .inr (2, [.ref (n + 5), .ref (n + 6), .int 0, .int 0])), (n + 5, .inl (cJ, 20, .inr (.inl (fun _ => 0)))), (n + 6, .inl (cZ, 20, .inl (fun _ => bb false))), (n + 7, .inr (3, [.ref (n + 8), .int 0])), (n + 8, .inl (cJ, 40, .inr (.inl (fun _ => 0))))] H := by
    have hP : va_P D clA [(n + 7, .inr (3, [.ref (n + 8), .int 0])), (n + 8, .inl (cJ, 40, .inr (.inl (fun _ => 0))))] H := hP
    refine vP_join hPo (by assumption) hk ?_ hP
    simp only [List.mem_cons, List.not_mem_nil, or_false]
    rintro x (rfl | rfl | rfl | rfl | rfl | rfl | rfl | rfl)
    · exact an_a han
    · exact an_0 (k := 7) (by decide)
    · exact an_k (i := 1) (k := 7) (by decide)
    · exact an_k (i := 2) (k := 7) (by decide)
    · exact an_k (i := 3) (k := 7) (by decide)
    · exact an_k (i := 4) (k := 7) (by decide)
    · exact an_k (i := 5) (k := 7) (by decide)
    · exact an_k (i := 6) (k := 7) (by decide)
  have hD : va_D (nA a n) [(a, .inr (0, [.ref (n), .ref (n + 4), .null, .null, .null])), (n, .inr (1, [.ref (n + 1), .ref (n + 2), .ref (n + 3)])), (n + 1, .inl (cI, 2000, .inl (fAr_fillX (fun _ => 0) (fDr_codeOf 0)))), (n + 2, .inl (cJ, 200, .inr (.inl (fun _ => 0)))), (n + 3, .inl (cZ, 200, .inl (fun _ => bb false))), (n + 4, .inr (2, [.ref (n + 5), .ref (n + 6), .int 0, .int 0])), (n + 5, .inl (cJ, 20, .inr (.inl (fun _ => 0)))), (n + 6, .inl (cZ, 20, .inl (fun _ => bb false))), (n + 7, .inr (3, [.ref (n + 8), .int 0])), (n + 8, .inl (cJ, 40, .inr (.inl (fun _ => 0))))] := by
    refine vD_inc ⟨han, ad_0 (k := 1) (by decide), ad_k (i := 1) (k := 2) (by decide), ad_k (i := 2) (k := 3) (by decide), ad_k (i := 3) (k := 4) (by decide), ad_k (i := 4) (k := 5) (by decide), ad_k (i := 5) (k := 6) (by decide), ad_k (i := 6) (k := 7) (by decide), ad_k (i := 7) (k := 8) (by decide), trivial⟩ ?_
    simp only [List.mem_cons, List.not_mem_nil, or_false]
    rintro x (rfl | rfl | rfl | rfl | rfl | rfl | rfl | rfl | rfl | rfl)
    · exact .inl rfl
    · exact .inr (Nat.le_refl n)
    · exact .inr (Nat.le_add_right n 1)
    · exact .inr (Nat.le_add_right n 2)
    · exact .inr (Nat.le_add_right n 3)
    · exact .inr (Nat.le_add_right n 4)
    · exact .inr (Nat.le_add_right n 5)
    · exact .inr (Nat.le_add_right n 6)
    · exact .inr (Nat.le_add_right n 7)
    · exact .inr (Nat.le_add_right n 8)
  refine va_putF (ci := 0) (v := .ref (n + 7)) (ty := .object "DrumMachine$Punch") (C := RDM) (T := TDM) (N := 5) hx hb hts (fun w h => List.mem_cons_of_mem _ (inADM w h)) tyDM tyDM_ok nmDM hown hK hP hD hS 0 rfl rfl 2 (by decide) (hts _ (List.mem_cons_of_mem _ wm1_181)) (fun _ h9 => h9) rfl hin2 rfl (by decide +kernel) rfl rfl (Nat.le_of_ble_eq_true rfl) dDM_init_34 (fun H locs hP hD hS => ?_)
  have hP : va_P D clA [(a, .inr (0, [.ref (n), .ref (n + 4), .ref (n + 7), .null, .null])), (n, .inr (1, [.ref (n + 1), .ref (n + 2), .ref (n + 3)])), (n + 1, .inl (cI, 2000, .inl (fAr_fillX (fun _ => 0) (fDr_codeOf 0)))), (n + 2, .inl (cJ, 200, .inr (.inl (fun _ => 0)))), (n + 3, .inl (cZ, 200, .inl (fun _ => bb false))), (n + 4, .inr (2, [.ref (n + 5), .ref (n + 6), .int 0, .int 0])), (n + 5, .inl (cJ, 20, .inr (.inl (fun _ => 0)))), (n + 6, .inl (cZ, 20, .inl (fun _ => bb false))), (n + 7, .inr (3, [.ref (n + 8), .int 0])), (n + 8, .inl (cJ, 40, .inr (.inl (fun _ => 0))))] H := hP
  have hD : va_D (nA a n) [(a, .inr (0, [.ref (n), .ref (n + 4), .ref (n + 7), .null, .null])), (n, .inr (1, [.ref (n + 1), .ref (n + 2), .ref (n + 3)])), (n + 1, .inl (cI, 2000, .inl (fAr_fillX (fun _ => 0) (fDr_codeOf 0)))), (n + 2, .inl (cJ, 200, .inr (.inl (fun _ => 0)))), (n + 3, .inl (cZ, 200, .inl (fun _ => bb false))), (n + 4, .inr (2, [.ref (n + 5), .ref (n + 6), .int 0, .int 0])), (n + 5, .inl (cJ, 20, .inr (.inl (fun _ => 0)))), (n + 6, .inl (cZ, 20, .inl (fun _ => bb false))), (n + 7, .inr (3, [.ref (n + 8), .int 0])), (n + 8, .inl (cJ, 40, .inr (.inl (fun _ => 0))))] := hD
  refine lv_aload_n hx hb dDM_init_37 rfl (lv_at hl 0 rfl) ?_
  refine w_size (fun hle => ?_)
  have hz : H.size = n + 9 := sz_eq (j := 8) hsz hle (hP 9 _ rfl).lt
  clear hle
  refine nw_O (ci := 4) (C := RPr) (T := TPr) (N := 9) tyPr (fs := [.null, .null, .null, .null, .long 0, .int 0, .int 0, .int 0, .long 0]) hx hb hts (fun w h => List.mem_cons_of_mem _ (inAPr w h)) tyPr_ok hown (hts _ (List.mem_cons_of_mem _ wm1_85)) (hts _ (List.mem_cons_of_mem _ wm1_86)) (hts _ (List.mem_cons_of_mem _ wm1_6)) hK hP hD hS hA hz rfl (fun j hj => blPr j hj) (Nat.le_of_ble_eq_true rfl) (Nat.le_of_ble_eq_true rfl) dDM_init_38 (fun H hz hP hD hS => ?_)
  have hP : va_P D clA [(a, .inr (0, [.ref (n), .ref (n + 4), .ref (n + 7), .null, .null])), (n, .inr (1, [.ref (n + 1), .ref (n + 2), .ref (n + 3)])), (n + 1, .inl (cI, 2000, .inl (fAr_fillX (fun _ => 0) (fDr_codeOf 0)))), (n + 2, .inl (cJ, 200, .inr (.inl (fun _ => 0)))), (n + 3, .inl (cZ, 200, .inl (fun _ => bb false))), (n + 4, .inr (2, [.ref (n + 5), .ref (n + 6), .int 0, .int 0])), (n + 5, .inl (cJ, 20, .inr (.inl (fun _ => 0)))), (n + 6, .inl (cZ, 20, .inl (fun _ => bb false))), (n + 7, .inr (3, [.ref (n + 8), .int 0])), (n + 8, .inl (cJ, 40, .inr (.inl (fun _ => 0)))), (n + 9, .inr (4, [.null, .null, .null, .null, .long 0, .int 0, .int 0, .int 0, .long 0]))] H := hP
  have hD : va_D (nA a n) [(a, .inr (0, [.ref (n), .ref (n + 4), .ref (n + 7), .null, .null])), (n, .inr (1, [.ref (n + 1), .ref (n + 2), .ref (n + 3)])), (n + 1, .inl (cI, 2000, .inl (fAr_fillX (fun _ => 0) (fDr_codeOf 0)))), (n + 2, .inl (cJ, 200, .inr (.inl (fun _ => 0)))), (n + 3, .inl (cZ, 200, .inl (fun _ => bb false))), (n + 4, .inr (2, [.ref (n + 5), .ref (n + 6), .int 0, .int 0])), (n + 5, .inl (cJ, 20, .inr (.inl (fun _ => 0)))), (n + 6, .inl (cZ, 20, .inl (fun _ => bb false))), (n + 7, .inr (3, [.ref (n + 8), .int 0])), (n + 8, .inl (cJ, 40, .inr (.inl (fun _ => 0)))), (n + 9, .inr (4, [.null, .null, .null, .null, .long 0, .int 0, .int 0, .int 0, .long 0]))] := hD
  refine lv_dup hx hb dDM_init_41 rfl ?_
  refine lv_aload_n hx hb dDM_init_42 rfl (lv_at hl 0 rfl) ?_
  refine va_get (ci := 0) (v := .ref (n)) (C := RDM) (T := TDM) (N := 5) hx hb hts (fun w h => List.mem_cons_of_mem _ (inADM w h)) hown hK hP 0 rfl rfl 0 (by decide) (hts _ (List.mem_cons_of_mem _ wm1_179)) (fun _ h => h) rfl dDM_init_43 ?_
  refine lv_aload_n hx hb dDM_init_46 rfl (lv_at hl 0 rfl) ?_
  refine va_get (ci := 0) (v := .ref (n + 4)) (C := RDM) (T := TDM) (N := 5) hx hb hts (fun w h => List.mem_cons_of_mem _ (inADM w h)) hown hK hP 0 rfl rfl 1 (by decide) (hts _ (List.mem_cons_of_mem _ wm1_180)) (fun _ h => h) rfl dDM_init_47 ?_
  refine lv_aload_n hx hb dDM_init_50 rfl (lv_at hl 0 rfl) ?_
  refine va_get (ci := 0) (v := .ref (n + 7)) (C := RDM) (T := TDM) (N := 5) hx hb hts (fun w h => List.mem_cons_of_mem _ (inADM w h)) hown hK hP 0 rfl rfl 2 (by decide) (hts _ (List.mem_cons_of_mem _ wm1_181)) (fun _ h => h) rfl dDM_init_51 ?_
  refine w_size (fun hle => ?_)
  have hz : H.size = n + 10 := sz_eq (j := 9) hsz hle (hP 10 _ rfl).lt
  clear hle
  have hPb := hP.sub (ws' := [(n + 9, .inr (4, [.null, .null, .null, .null, .long 0, .int 0, .int 0, .int 0, .long 0]))]) [10] rfl
  have hPo := hP.sub (ws' := [(a, .inr (0, [.ref (n), .ref (n + 4), .ref (n + 7), .null, .null])), (n, .inr (1, [.ref (n + 1), .ref (n + 2), .ref (n + 3)])), (n + 1, .inl (cI, 2000, .inl (fAr_fillX (fun _ => 0) (fDr_codeOf 0)))), (n + 2, .inl (cJ, 200, .inr (.inl (fun _ => 0)))), (n + 3, .inl (cZ, 200, .inl (fun _ => bb false))), (n + 4, .inr (2, [.ref (n + 5), .ref (n + 6), .int 0, .int 0])), (n + 5, .inl (cJ, 20, .inr (.inl (fun _ => 0)))), (n + 6, .inl (cZ, 20, .inl (fun _ => bb false))), (n + 7, .inr (3, [.ref (n + 8), .int 0])), (n + 8, .inl (cJ, 40, .inr (.inl (fun _ => 0))))]) [0, 1, 2, 3, 4, 5, 6, 7, 8, 9] rfl
  refine cl_ct (b := n + 9) (h := n + 10) (W.runI (As := [.ref (n), .ref (n + 4), .ref (n + 7)]) (rest := [.ref (n + 9), .ref (a)]) ⟨hx, hb, hml, hown, hts⟩ (kPr_init l D cI cJ cZ (n + 9) (n + 10) n (n + 4) (n + 7)) (cwI 3 hts (gI wm1_89) rfl rfl rfl (hts _ (List.mem_cons_of_mem _ wm1_6)) (hts _ (List.mem_cons_of_mem _ wm1_87)) (hts _ (List.mem_cons_of_mem _ wm1_88)) rfl (by decide +kernel) ⟨Nat.le_of_ble_eq_true rfl, Nat.le_of_ble_eq_true rfl⟩) (nC_pre hK hPb hz) rfl rfl hl.1 rfl (lv_room (Nat.le_of_ble_eq_true rfl)) dDM_init_54 ⟨Nat.le_of_ble_eq_true rfl, Nat.le_of_ble_eq_true rfl⟩) hS hz (.inr (Nat.le_add_right n 9)) hA (fun H locs hz hP hk hS => ?_)
  have hP : va_P D clA [(a, .inr (0, [.ref (n), .ref (n + 4), .ref (n + 7), .null, .null])), (n, .inr (1, [.ref (n + 1), .ref (n + 2), .ref (n + 3)])), (n + 1, .inl (cI, 2000, .inl (fAr_fillX (fun _ => 0) (fDr_codeOf 0)))), (n + 2, .inl (cJ, 200, .inr (.inl (fun _ => 0)))), (n + 3, .inl (cZ, 200, .inl (fun _ => bb false))), (n + 4, .inr (2, [.ref (n + 5), .ref (n + 6), .int 0, .int 0])), (n + 5, .inl (cJ, 20, .inr (.inl (fun _ => 0)))), (n + 6, .inl (cZ, 20, .inl (fun _ => bb false))), (n + 7, .inr (3, [.ref (n + 8), .int 0])), (n + 8, .inl (cJ, 40, .inr (.inl (fun _ => 0)))), (n + 9, .inr (4, [.ref (n), .ref (n + 4), .ref (n + 7), .ref (n + 10), .long 0, .int 0, .int 0, .int 0, .long 0])), (n + 10, .inr (5, [.long 0, .long 0, .int 0, .int 0]))] H := by
    have hP : va_P D clA [(n + 9, .inr (4, [.ref (n), .ref (n + 4), .ref (n + 7), .ref (n + 10), .long 0, .int 0, .int 0, .int 0, .long 0])), (n + 10, .inr (5, [.long 0, .long 0, .int 0, .int 0]))] H := hP
    refine vP_join hPo (by assumption) hk ?_ hP
    simp only [List.mem_cons, List.not_mem_nil, or_false]
    rintro x (rfl | rfl | rfl | rfl | rfl | rfl | rfl | rfl | rfl | rfl)
    · exact an_a han
    · exact an_0 (k := 9) (by decide)
    · exact an_k (i := 1) (k := 9) (by decide)
    · exact an_k (i := 2) (k := 9) (by decide)
    · exact an_k (i := 3) (k := 9) (by decide)
    · exact an_k (i := 4) (k := 9) (by decide)
    · exact an_k (i := 5) (k := 9) (by decide)
    · exact an_k (i := 6) (k := 9) (by decide)
    · exact an_k (i := 7) (k := 9) (by decide)
    · exact an_k (i := 8) (k := 9) (by decide)
  have hD : va_D (nA a n) [(a, .inr (0, [.ref (n), .ref (n + 4), .ref (n + 7), .null, .null])), (n, .inr (1, [.ref (n + 1), .ref (n + 2), .ref (n + 3)])), (n + 1, .inl (cI, 2000, .inl (fAr_fillX (fun _ => 0) (fDr_codeOf 0)))), (n + 2, .inl (cJ, 200, .inr (.inl (fun _ => 0)))), (n + 3, .inl (cZ, 200, .inl (fun _ => bb false))), (n + 4, .inr (2, [.ref (n + 5), .ref (n + 6), .int 0, .int 0])), (n + 5, .inl (cJ, 20, .inr (.inl (fun _ => 0)))), (n + 6, .inl (cZ, 20, .inl (fun _ => bb false))), (n + 7, .inr (3, [.ref (n + 8), .int 0])), (n + 8, .inl (cJ, 40, .inr (.inl (fun _ => 0)))), (n + 9, .inr (4, [.ref (n), .ref (n + 4), .ref (n + 7), .ref (n + 10), .long 0, .int 0, .int 0, .int 0, .long 0])), (n + 10, .inr (5, [.long 0, .long 0, .int 0, .int 0]))] := by
    refine vD_inc ⟨han, ad_0 (k := 1) (by decide), ad_k (i := 1) (k := 2) (by decide), ad_k (i := 2) (k := 3) (by decide), ad_k (i := 3) (k := 4) (by decide), ad_k (i := 4) (k := 5) (by decide), ad_k (i := 5) (k := 6) (by decide), ad_k (i := 6) (k := 7) (by decide), ad_k (i := 7) (k := 8) (by decide), ad_k (i := 8) (k := 9) (by decide), ad_k (i := 9) (k := 10) (by decide), trivial⟩ ?_
    simp only [List.mem_cons, List.not_mem_nil, or_false]
    rintro x (rfl | rfl | rfl | rfl | rfl | rfl | rfl | rfl | rfl | rfl | rfl | rfl)
    · exact .inl rfl
    · exact .inr (Nat.le_refl n)
    · exact .inr (Nat.le_add_right n 1)
    · exact .inr (Nat.le_add_right n 2)
    · exact .inr (Nat.le_add_right n 3)
    · exact .inr (Nat.le_add_right n 4)
    · exact .inr (Nat.le_add_right n 5)
    · exact .inr (Nat.le_add_right n 6)
    · exact .inr (Nat.le_add_right n 7)
    · exact .inr (Nat.le_add_right n 8)
    · exact .inr (Nat.le_add_right n 9)
    · exact .inr (Nat.le_add_right n 10)
  refine va_putF (ci := 0) (v := .ref (n + 9)) (ty := .object "DrumMachine$Processor") (C := RDM) (T := TDM) (N := 5) hx hb hts (fun w h => List.mem_cons_of_mem _ (inADM w h)) tyDM tyDM_ok nmDM hown hK hP hD hS 0 rfl rfl 3 (by decide) (hts _ (List.mem_cons_of_mem _ wm1_182)) (fun _ h9 => h9) rfl hin2 rfl (by decide +kernel) rfl rfl (Nat.le_of_ble_eq_true rfl) dDM_init_57 (fun H locs hP hD hS => ?_)
  have hP : va_P D clA [(a, .inr (0, [.ref (n), .ref (n + 4), .ref (n + 7), .ref (n + 9), .null])), (n, .inr (1, [.ref (n + 1), .ref (n + 2), .ref (n + 3)])), (n + 1, .inl (cI, 2000, .inl (fAr_fillX (fun _ => 0) (fDr_codeOf 0)))), (n + 2, .inl (cJ, 200, .inr (.inl (fun _ => 0)))), (n + 3, .inl (cZ, 200, .inl (fun _ => bb false))), (n + 4, .inr (2, [.ref (n + 5), .ref (n + 6), .int 0, .int 0])), (n + 5, .inl (cJ, 20, .inr (.inl (fun _ => 0)))), (n + 6, .inl (cZ, 20, .inl (fun _ => bb false))), (n + 7, .inr (3, [.ref (n + 8), .int 0])), (n + 8, .inl (cJ, 40, .inr (.inl (fun _ => 0)))), (n + 9, .inr (4, [.ref (n), .ref (n + 4), .ref (n + 7), .ref (n + 10), .long 0, .int 0, .int 0, .int 0, .long 0])), (n + 10, .inr (5, [.long 0, .long 0, .int 0, .int 0]))] H := hP
  have hD : va_D (nA a n) [(a, .inr (0, [.ref (n), .ref (n + 4), .ref (n + 7), .ref (n + 9), .null])), (n, .inr (1, [.ref (n + 1), .ref (n + 2), .ref (n + 3)])), (n + 1, .inl (cI, 2000, .inl (fAr_fillX (fun _ => 0) (fDr_codeOf 0)))), (n + 2, .inl (cJ, 200, .inr (.inl (fun _ => 0)))), (n + 3, .inl (cZ, 200, .inl (fun _ => bb false))), (n + 4, .inr (2, [.ref (n + 5), .ref (n + 6), .int 0, .int 0])), (n + 5, .inl (cJ, 20, .inr (.inl (fun _ => 0)))), (n + 6, .inl (cZ, 20, .inl (fun _ => bb false))), (n + 7, .inr (3, [.ref (n + 8), .int 0])), (n + 8, .inl (cJ, 40, .inr (.inl (fun _ => 0)))), (n + 9, .inr (4, [.ref (n), .ref (n + 4), .ref (n + 7), .ref (n + 10), .long 0, .int 0, .int 0, .int 0, .long 0])), (n + 10, .inr (5, [.long 0, .long 0, .int 0, .int 0]))] := hD
  refine lv_aload_n hx hb dDM_init_60 rfl (lv_at hl 0 rfl) ?_
  refine w_size (fun hle => ?_)
  have hz : H.size = n + 11 := sz_eq (j := 10) hsz hle (hP 11 _ rfl).lt
  clear hle
  refine nw_O (ci := 6) (C := RAs) (T := TAs) (N := 11) tyAs (fs := [.null, .null, .null, .null, .null, .null, .null, .null, .null, .null, .int 0]) hx hb hts (fun w h => List.mem_cons_of_mem _ (inAAs w h)) tyAs_ok hown (hts _ (List.mem_cons_of_mem _ wm1_138)) (hts _ (List.mem_cons_of_mem _ wm1_139)) (hts _ (List.mem_cons_of_mem _ wm1_8)) hK hP hD hS hA hz rfl (fun j hj => blAs j hj) (Nat.le_of_ble_eq_true rfl) (Nat.le_of_ble_eq_true rfl) dDM_init_61 (fun H hz hP hD hS => ?_)
  have hP : va_P D clA [(a, .inr (0, [.ref (n), .ref (n + 4), .ref (n + 7), .ref (n + 9), .null])), (n, .inr (1, [.ref (n + 1), .ref (n + 2), .ref (n + 3)])), (n + 1, .inl (cI, 2000, .inl (fAr_fillX (fun _ => 0) (fDr_codeOf 0)))), (n + 2, .inl (cJ, 200, .inr (.inl (fun _ => 0)))), (n + 3, .inl (cZ, 200, .inl (fun _ => bb false))), (n + 4, .inr (2, [.ref (n + 5), .ref (n + 6), .int 0, .int 0])), (n + 5, .inl (cJ, 20, .inr (.inl (fun _ => 0)))), (n + 6, .inl (cZ, 20, .inl (fun _ => bb false))), (n + 7, .inr (3, [.ref (n + 8), .int 0])), (n + 8, .inl (cJ, 40, .inr (.inl (fun _ => 0)))), (n + 9, .inr (4, [.ref (n), .ref (n + 4), .ref (n + 7), .ref (n + 10), .long 0, .int 0, .int 0, .int 0, .long 0])), (n + 10, .inr (5, [.long 0, .long 0, .int 0, .int 0])), (n + 11, .inr (6, [.null, .null, .null, .null, .null, .null, .null, .null, .null, .null, .int 0]))] H := hP
  have hD : va_D (nA a n) [(a, .inr (0, [.ref (n), .ref (n + 4), .ref (n + 7), .ref (n + 9), .null])), (n, .inr (1, [.ref (n + 1), .ref (n + 2), .ref (n + 3)])), (n + 1, .inl (cI, 2000, .inl (fAr_fillX (fun _ => 0) (fDr_codeOf 0)))), (n + 2, .inl (cJ, 200, .inr (.inl (fun _ => 0)))), (n + 3, .inl (cZ, 200, .inl (fun _ => bb false))), (n + 4, .inr (2, [.ref (n + 5), .ref (n + 6), .int 0, .int 0])), (n + 5, .inl (cJ, 20, .inr (.inl (fun _ => 0)))), (n + 6, .inl (cZ, 20, .inl (fun _ => bb false))), (n + 7, .inr (3, [.ref (n + 8), .int 0])), (n + 8, .inl (cJ, 40, .inr (.inl (fun _ => 0)))), (n + 9, .inr (4, [.ref (n), .ref (n + 4), .ref (n + 7), .ref (n + 10), .long 0, .int 0, .int 0, .int 0, .long 0])), (n + 10, .inr (5, [.long 0, .long 0, .int 0, .int 0])), (n + 11, .inr (6, [.null, .null, .null, .null, .null, .null, .null, .null, .null, .null, .int 0]))] := hD
  refine lv_dup hx hb dDM_init_64 rfl ?_
  refine w_size (fun hle => ?_)
  have hz : H.size = n + 12 := sz_eq (j := 11) hsz hle (hP 12 _ rfl).lt
  clear hle
  have hPb := hP.sub (ws' := [(n + 11, .inr (6, [.null, .null, .null, .null, .null, .null, .null, .null, .null, .null, .int 0]))]) [12] rfl
  have hPo := hP.sub (ws' := [(a, .inr (0, [.ref (n), .ref (n + 4), .ref (n + 7), .ref (n + 9), .null])), (n, .inr (1, [.ref (n + 1), .ref (n + 2), .ref (n + 3)])), (n + 1, .inl (cI, 2000, .inl (fAr_fillX (fun _ => 0) (fDr_codeOf 0)))), (n + 2, .inl (cJ, 200, .inr (.inl (fun _ => 0)))), (n + 3, .inl (cZ, 200, .inl (fun _ => bb false))), (n + 4, .inr (2, [.ref (n + 5), .ref (n + 6), .int 0, .int 0])), (n + 5, .inl (cJ, 20, .inr (.inl (fun _ => 0)))), (n + 6, .inl (cZ, 20, .inl (fun _ => bb false))), (n + 7, .inr (3, [.ref (n + 8), .int 0])), (n + 8, .inl (cJ, 40, .inr (.inl (fun _ => 0)))), (n + 9, .inr (4, [.ref (n), .ref (n + 4), .ref (n + 7), .ref (n + 10), .long 0, .int 0, .int 0, .int 0, .long 0])), (n + 10, .inr (5, [.long 0, .long 0, .int 0, .int 0]))]) [0, 1, 2, 3, 4, 5, 6, 7, 8, 9, 10, 11] rfl
  refine cl_ct (b := n + 11) (h := n + 12) (W.runI (As := []) (rest := [.ref (n + 11), .ref (a)]) ⟨hx, hb, hml, hown, hts⟩ (kAs_init l D cI cJ cZ (n + 11) (n + 12) ) (cwI 0 hts (gI wm1_142) rfl rfl rfl (hts _ (List.mem_cons_of_mem _ wm1_8)) (hts _ (List.mem_cons_of_mem _ wm1_140)) (hts _ (List.mem_cons_of_mem _ wm1_141)) rfl (by decide +kernel) ⟨Nat.le_of_ble_eq_true rfl, Nat.le_of_ble_eq_true rfl⟩) (nC_pre hK hPb hz) rfl rfl hl.1 rfl (lv_room (Nat.le_of_ble_eq_true rfl)) dDM_init_65 ⟨Nat.le_of_ble_eq_true rfl, Nat.le_of_ble_eq_true rfl⟩) hS hz (.inr (Nat.le_add_right n 11)) hA (fun H locs hz hP hk hS => ?_)
  have hP : va_P D clA [(a, .inr (0, [.ref (n), .ref (n + 4), .ref (n + 7), .ref (n + 9), .null])), (n, .inr (1, [.ref (n + 1), .ref (n + 2), .ref (n + 3)])), (n + 1, .inl (cI, 2000, .inl (fAr_fillX (fun _ => 0) (fDr_codeOf 0)))), (n + 2, .inl (cJ, 200, .inr (.inl (fun _ => 0)))), (n + 3, .inl (cZ, 200, .inl (fun _ => bb false))), (n + 4, .inr (2, [.ref (n + 5), .ref (n + 6), .int 0, .int 0])), (n + 5, .inl (cJ, 20, .inr (.inl (fun _ => 0)))), (n + 6, .inl (cZ, 20, .inl (fun _ => bb false))), (n + 7, .inr (3, [.ref (n + 8), .int 0])), (n + 8, .inl (cJ, 40, .inr (.inl (fun _ => 0)))), (n + 9, .inr (4, [.ref (n), .ref (n + 4), .ref (n + 7), .ref (n + 10), .long 0, .int 0, .int 0, .int 0, .long 0])), (n + 10, .inr (5, [.long 0, .long 0, .int 0, .int 0])), (n + 11, .inr (6, [.ref (n + 12), .ref (n + 13), .ref (n + 14), .ref (n + 15), .ref (n + 16), .ref (n + 17), .ref (n + 18), .ref (n + 19), .ref (n + 20), .ref (n + 21), .int 0])), (n + 12, .inl (cI, 40, .inl (fun _ => 0))), (n + 13, .inl (cI, 40, .inl (fun _ => 0))), (n + 14, .inl (cI, 40, .inl (fun _ => 0))), (n + 15, .inl (cI, 40, .inl (fun _ => 0))), (n + 16, .inl (cI, 40, .inl (fun _ => 0))), (n + 17, .inl (cI, 40, .inl (fun _ => 0))), (n + 18, .inl (cI, 40, .inl (fun _ => 0))), (n + 19, .inl (cI, 20, .inl (fAr_fillY (fun _ => 0) ((-1))))), (n + 20, .inl (cZ, 200, .inl (fun _ => bb false))), (n + 21, .inl (cZ, 200, .inl (fun _ => bb false)))] H := by
    have hP : va_P D clA [(n + 11, .inr (6, [.ref (n + 12), .ref (n + 13), .ref (n + 14), .ref (n + 15), .ref (n + 16), .ref (n + 17), .ref (n + 18), .ref (n + 19), .ref (n + 20), .ref (n + 21), .int 0])), (n + 12, .inl (cI, 40, .inl (fun _ => 0))), (n + 13, .inl (cI, 40, .inl (fun _ => 0))), (n + 14, .inl (cI, 40, .inl (fun _ => 0))), (n + 15, .inl (cI, 40, .inl (fun _ => 0))), (n + 16, .inl (cI, 40, .inl (fun _ => 0))), (n + 17, .inl (cI, 40, .inl (fun _ => 0))), (n + 18, .inl (cI, 40, .inl (fun _ => 0))), (n + 19, .inl (cI, 20, .inl (fAr_fillY (fun _ => 0) ((-1))))), (n + 20, .inl (cZ, 200, .inl (fun _ => bb false))), (n + 21, .inl (cZ, 200, .inl (fun _ => bb false)))] H := hP
    refine vP_join hPo (by assumption) hk ?_ hP
    simp only [List.mem_cons, List.not_mem_nil, or_false]
    rintro x (rfl | rfl | rfl | rfl | rfl | rfl | rfl | rfl | rfl | rfl | rfl | rfl)
    · exact an_a han
    · exact an_0 (k := 11) (by decide)
    · exact an_k (i := 1) (k := 11) (by decide)
    · exact an_k (i := 2) (k := 11) (by decide)
    · exact an_k (i := 3) (k := 11) (by decide)
    · exact an_k (i := 4) (k := 11) (by decide)
    · exact an_k (i := 5) (k := 11) (by decide)
    · exact an_k (i := 6) (k := 11) (by decide)
    · exact an_k (i := 7) (k := 11) (by decide)
    · exact an_k (i := 8) (k := 11) (by decide)
    · exact an_k (i := 9) (k := 11) (by decide)
    · exact an_k (i := 10) (k := 11) (by decide)
  have hD : va_D (nA a n) [(a, .inr (0, [.ref (n), .ref (n + 4), .ref (n + 7), .ref (n + 9), .null])), (n, .inr (1, [.ref (n + 1), .ref (n + 2), .ref (n + 3)])), (n + 1, .inl (cI, 2000, .inl (fAr_fillX (fun _ => 0) (fDr_codeOf 0)))), (n + 2, .inl (cJ, 200, .inr (.inl (fun _ => 0)))), (n + 3, .inl (cZ, 200, .inl (fun _ => bb false))), (n + 4, .inr (2, [.ref (n + 5), .ref (n + 6), .int 0, .int 0])), (n + 5, .inl (cJ, 20, .inr (.inl (fun _ => 0)))), (n + 6, .inl (cZ, 20, .inl (fun _ => bb false))), (n + 7, .inr (3, [.ref (n + 8), .int 0])), (n + 8, .inl (cJ, 40, .inr (.inl (fun _ => 0)))), (n + 9, .inr (4, [.ref (n), .ref (n + 4), .ref (n + 7), .ref (n + 10), .long 0, .int 0, .int 0, .int 0, .long 0])), (n + 10, .inr (5, [.long 0, .long 0, .int 0, .int 0])), (n + 11, .inr (6, [.ref (n + 12), .ref (n + 13), .ref (n + 14), .ref (n + 15), .ref (n + 16), .ref (n + 17), .ref (n + 18), .ref (n + 19), .ref (n + 20), .ref (n + 21), .int 0])), (n + 12, .inl (cI, 40, .inl (fun _ => 0))), (n + 13, .inl (cI, 40, .inl (fun _ => 0))), (n + 14, .inl (cI, 40, .inl (fun _ => 0))), (n + 15, .inl (cI, 40, .inl (fun _ => 0))), (n + 16, .inl (cI, 40, .inl (fun _ => 0))), (n + 17, .inl (cI, 40, .inl (fun _ => 0))), (n + 18, .inl (cI, 40, .inl (fun _ => 0))), (n + 19, .inl (cI, 20, .inl (fAr_fillY (fun _ => 0) ((-1))))), (n + 20, .inl (cZ, 200, .inl (fun _ => bb false))), (n + 21, .inl (cZ, 200, .inl (fun _ => bb false)))] := by
    refine vD_inc ⟨han, ad_0 (k := 1) (by decide), ad_k (i := 1) (k := 2) (by decide), ad_k (i := 2) (k := 3) (by decide), ad_k (i := 3) (k := 4) (by decide), ad_k (i := 4) (k := 5) (by decide), ad_k (i := 5) (k := 6) (by decide), ad_k (i := 6) (k := 7) (by decide), ad_k (i := 7) (k := 8) (by decide), ad_k (i := 8) (k := 9) (by decide), ad_k (i := 9) (k := 10) (by decide), ad_k (i := 10) (k := 11) (by decide), ad_k (i := 11) (k := 12) (by decide), ad_k (i := 12) (k := 13) (by decide), ad_k (i := 13) (k := 14) (by decide), ad_k (i := 14) (k := 15) (by decide), ad_k (i := 15) (k := 16) (by decide), ad_k (i := 16) (k := 17) (by decide), ad_k (i := 17) (k := 18) (by decide), ad_k (i := 18) (k := 19) (by decide), ad_k (i := 19) (k := 20) (by decide), ad_k (i := 20) (k := 21) (by decide), trivial⟩ ?_
    simp only [List.mem_cons, List.not_mem_nil, or_false]
    rintro x (rfl | rfl | rfl | rfl | rfl | rfl | rfl | rfl | rfl | rfl | rfl | rfl | rfl | rfl | rfl | rfl | rfl | rfl | rfl | rfl | rfl | rfl | rfl)
    · exact .inl rfl
    · exact .inr (Nat.le_refl n)
    · exact .inr (Nat.le_add_right n 1)
    · exact .inr (Nat.le_add_right n 2)
    · exact .inr (Nat.le_add_right n 3)
    · exact .inr (Nat.le_add_right n 4)
    · exact .inr (Nat.le_add_right n 5)
    · exact .inr (Nat.le_add_right n 6)
    · exact .inr (Nat.le_add_right n 7)
    · exact .inr (Nat.le_add_right n 8)
    · exact .inr (Nat.le_add_right n 9)
    · exact .inr (Nat.le_add_right n 10)
    · exact .inr (Nat.le_add_right n 11)
    · exact .inr (Nat.le_add_right n 12)
    · exact .inr (Nat.le_add_right n 13)
    · exact .inr (Nat.le_add_right n 14)
    · exact .inr (Nat.le_add_right n 15)
    · exact .inr (Nat.le_add_right n 16)
    · exact .inr (Nat.le_add_right n 17)
    · exact .inr (Nat.le_add_right n 18)
    · exact .inr (Nat.le_add_right n 19)
    · exact .inr (Nat.le_add_right n 20)
    · exact .inr (Nat.le_add_right n 21)
  refine va_putF (ci := 0) (v := .ref (n + 11)) (ty := .object "DrumMachine$Assembler") (C := RDM) (T := TDM) (N := 5) hx hb hts (fun w h => List.mem_cons_of_mem _ (inADM w h)) tyDM tyDM_ok nmDM hown hK hP hD hS 0 rfl rfl 4 (by decide) (hts _ (List.mem_cons_of_mem _ wm1_183)) (fun _ h9 => h9) rfl hin2 rfl (by decide +kernel) rfl rfl (Nat.le_of_ble_eq_true rfl) dDM_init_68 (fun H locs hP hD hS => ?_)
  have hP : va_P D clA [(a, .inr (0, [.ref (n), .ref (n + 4), .ref (n + 7), .ref (n + 9), .ref (n + 11)])), (n, .inr (1, [.ref (n + 1), .ref (n + 2), .ref (n + 3)])), (n + 1, .inl (cI, 2000, .inl (fAr_fillX (fun _ => 0) (fDr_codeOf 0)))), (n + 2, .inl (cJ, 200, .inr (.inl (fun _ => 0)))), (n + 3, .inl (cZ, 200, .inl (fun _ => bb false))), (n + 4, .inr (2, [.ref (n + 5), .ref (n + 6), .int 0, .int 0])), (n + 5, .inl (cJ, 20, .inr (.inl (fun _ => 0)))), (n + 6, .inl (cZ, 20, .inl (fun _ => bb false))), (n + 7, .inr (3, [.ref (n + 8), .int 0])), (n + 8, .inl (cJ, 40, .inr (.inl (fun _ => 0)))), (n + 9, .inr (4, [.ref (n), .ref (n + 4), .ref (n + 7), .ref (n + 10), .long 0, .int 0, .int 0, .int 0, .long 0])), (n + 10, .inr (5, [.long 0, .long 0, .int 0, .int 0])), (n + 11, .inr (6, [.ref (n + 12), .ref (n + 13), .ref (n + 14), .ref (n + 15), .ref (n + 16), .ref (n + 17), .ref (n + 18), .ref (n + 19), .ref (n + 20), .ref (n + 21), .int 0])), (n + 12, .inl (cI, 40, .inl (fun _ => 0))), (n + 13, .inl (cI, 40, .inl (fun _ => 0))), (n + 14, .inl (cI, 40, .inl (fun _ => 0))), (n + 15, .inl (cI, 40, .inl (fun _ => 0))), (n + 16, .inl (cI, 40, .inl (fun _ => 0))), (n + 17, .inl (cI, 40, .inl (fun _ => 0))), (n + 18, .inl (cI, 40, .inl (fun _ => 0))), (n + 19, .inl (cI, 20, .inl (fAr_fillY (fun _ => 0) ((-1))))), (n + 20, .inl (cZ, 200, .inl (fun _ => bb false))), (n + 21, .inl (cZ, 200, .inl (fun _ => bb false)))] H := hP
  have hD : va_D (nA a n) [(a, .inr (0, [.ref (n), .ref (n + 4), .ref (n + 7), .ref (n + 9), .ref (n + 11)])), (n, .inr (1, [.ref (n + 1), .ref (n + 2), .ref (n + 3)])), (n + 1, .inl (cI, 2000, .inl (fAr_fillX (fun _ => 0) (fDr_codeOf 0)))), (n + 2, .inl (cJ, 200, .inr (.inl (fun _ => 0)))), (n + 3, .inl (cZ, 200, .inl (fun _ => bb false))), (n + 4, .inr (2, [.ref (n + 5), .ref (n + 6), .int 0, .int 0])), (n + 5, .inl (cJ, 20, .inr (.inl (fun _ => 0)))), (n + 6, .inl (cZ, 20, .inl (fun _ => bb false))), (n + 7, .inr (3, [.ref (n + 8), .int 0])), (n + 8, .inl (cJ, 40, .inr (.inl (fun _ => 0)))), (n + 9, .inr (4, [.ref (n), .ref (n + 4), .ref (n + 7), .ref (n + 10), .long 0, .int 0, .int 0, .int 0, .long 0])), (n + 10, .inr (5, [.long 0, .long 0, .int 0, .int 0])), (n + 11, .inr (6, [.ref (n + 12), .ref (n + 13), .ref (n + 14), .ref (n + 15), .ref (n + 16), .ref (n + 17), .ref (n + 18), .ref (n + 19), .ref (n + 20), .ref (n + 21), .int 0])), (n + 12, .inl (cI, 40, .inl (fun _ => 0))), (n + 13, .inl (cI, 40, .inl (fun _ => 0))), (n + 14, .inl (cI, 40, .inl (fun _ => 0))), (n + 15, .inl (cI, 40, .inl (fun _ => 0))), (n + 16, .inl (cI, 40, .inl (fun _ => 0))), (n + 17, .inl (cI, 40, .inl (fun _ => 0))), (n + 18, .inl (cI, 40, .inl (fun _ => 0))), (n + 19, .inl (cI, 20, .inl (fAr_fillY (fun _ => 0) ((-1))))), (n + 20, .inl (cZ, 200, .inl (fun _ => bb false))), (n + 21, .inl (cZ, 200, .inl (fun _ => bb false)))] := hD
  refine w_size (fun hle => ?_)
  have hz : H.size = n + 22 := sz_eq (j := 21) hsz hle (hP 22 _ rfl).lt
  clear hle
  exact W.vret hx hb hr (fun t ht _ => ⟨rfl, by rw [ht]; exact hz, by rw [ht]; exact hP, hS.F ht⟩) hS.2.2 dDM_init_71
