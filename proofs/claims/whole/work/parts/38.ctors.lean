theorem wm1_96 : Cond.methodLink RAc 1 Lib.objectInit ∈ wsA := memA1 (i := 96) rfl rfl
theorem wm1_26 : Cond.instanceMethod Lib.objectInit ∈ wsA := memA1 (i := 26) rfl rfl
theorem wm1_27 : Cond.code Lib.objectInit ⟨#[0xb1]⟩ 1 none ∈ wsA := memA1 (i := 27) rfl rfl
theorem wm1_33 : Cond.methodLink RDr 1 Lib.objectInit ∈ wsA := memA1 (i := 33) rfl rfl
theorem wm1_50 : Cond.arrayClass .int ∈ wsA := memA1 (i := 50) rfl rfl
theorem wm1_51 : Cond.arrayClass .long ∈ wsA := memA1 (i := 51) rfl rfl
theorem wm1_52 : Cond.arrayClass .boolean ∈ wsA := memA1 (i := 52) rfl rfl
theorem wm1_58 : Cond.methodLink RCd 1 Lib.objectInit ∈ wsA := memA1 (i := 58) rfl rfl
theorem wm1_77 : Cond.methodLink RPu 1 Lib.objectInit ∈ wsA := memA1 (i := 77) rfl rfl
theorem wm1_90 : Cond.methodLink RPr 1 Lib.objectInit ∈ wsA := memA1 (i := 90) rfl rfl
theorem wm1_91 : Cond.classLink RPr 21 RAc ∈ wsA := memA1 (i := 91) rfl rfl
theorem wm1_92 : Cond.instantiable RAc 4 ∈ wsA := memA1 (i := 92) rfl rfl
theorem wm1_143 : Cond.methodLink RAs 1 Lib.objectInit ∈ wsA := memA1 (i := 143) rfl rfl
theorem wm1_25 : Cond.methodLink RDM 1 Lib.objectInit ∈ wsA := memA1 (i := 25) rfl rfl
theorem wm1_28 : Cond.classLink RDM 7 RDr ∈ wsA := memA1 (i := 28) rfl rfl
theorem wm1_29 : Cond.instantiable RDr 3 ∈ wsA := memA1 (i := 29) rfl rfl
theorem wm1_53 : Cond.classLink RDM 16 RCd ∈ wsA := memA1 (i := 53) rfl rfl
theorem wm1_54 : Cond.instantiable RCd 4 ∈ wsA := memA1 (i := 54) rfl rfl
theorem wm1_72 : Cond.classLink RDM 23 RPu ∈ wsA := memA1 (i := 72) rfl rfl
theorem wm1_73 : Cond.instantiable RPu 2 ∈ wsA := memA1 (i := 73) rfl rfl
theorem wm1_85 : Cond.classLink RDM 30 RPr ∈ wsA := memA1 (i := 85) rfl rfl
theorem wm1_86 : Cond.instantiable RPr 9 ∈ wsA := memA1 (i := 86) rfl rfl
theorem wm1_138 : Cond.classLink RDM 39 RAs ∈ wsA := memA1 (i := 138) rfl rfl
theorem wm1_139 : Cond.instantiable RAs 11 ∈ wsA := memA1 (i := 139) rfl rfl
theorem blDM : ∀ j, j < 5 → defaultValue (tyDM j) = vp_V [.null, .null, .null, .null, .null] j := by decide +kernel
theorem blDr : ∀ j, j < 3 → defaultValue (tyDr j) = vp_V [.null, .null, .null] j := by decide +kernel
theorem blCd : ∀ j, j < 4 → defaultValue (tyCd j) = vp_V [.null, .null, .int 0, .int 0] j := by decide +kernel
theorem blPu : ∀ j, j < 2 → defaultValue (tyPu j) = vp_V [.null, .int 0] j := by decide +kernel
theorem blPr : ∀ j, j < 9 → defaultValue (tyPr j) = vp_V [.null, .null, .null, .null, .long 0, .int 0, .int 0, .int 0, .long 0] j := by decide +kernel
theorem blAc : ∀ j, j < 4 → defaultValue (tyAc j) = vp_V [.long 0, .long 0, .int 0, .int 0] j := by decide +kernel
theorem blAs : ∀ j, j < 11 → defaultValue (tyAs j) = vp_V [.null, .null, .null, .null, .null, .null, .null, .null, .null, .null, .int 0] j := by decide +kernel
theorem blMo : ∀ j, j < 28 → defaultValue (tyMo j) = vp_V [.int 0, .null, .null, .long 0, .long 0, .long 0, .int 0, .int 0, .int 0, .int 0, .int 0, .long 0, .int 0, .null, .null, .int 0, .null, .int 0, .null, .null, .null, .null, .null, .null, .null, .null, .null, .int 0] j := by decide +kernel
theorem dAc_init_0 : decode ccAc_init 0 = .ok (.aload_n 0, 1) := by decide +kernel
theorem dAc_init_1 : decode ccAc_init 1 = .ok (.invokespecial 1, 3) := by decide +kernel
theorem dAc_init_4 : decode ccAc_init 4 = .ok (.return_, 1) := by decide +kernel
set_option maxHeartbeats 4000000 in
set_option maxRecDepth 100000 in
theorem kAc_init (l : Launch) (D : va_G) (cI cJ cZ : ClassId) (a n : Nat)  : Met l yAc_init wsAc_init { frames := 1, cells := 0, slots := 0, locals := 20 } (va_Pc [.ref (a)] (nC D cI cJ cZ [(a, .inr (5, [.long 0, .long 0, .int 0, .int 0]))] n)) (nQ D [(a, .inr (5, [.long 0, .long 0, .int 0, .int 0]))] a n 0) 0 0 (nA a n) := by
  refine Met.ofW (cc := ccAc_init) (maxL := 1) (ret := none) (by decide +kernel) rfl ?_
  intro p e s m args below meth c s₁ B hml hv
  obtain ⟨rfl, hsz, hP, hK⟩ := hv
  have hx := B.exec
  have hb := B.bytes
  have hr := B.returns
  have hts := atoms_spec (ws := wsAc_init) B.pre
  have hown : s.vm.findClass RAc = some m.cls := findClass_of_methodNamed B.named
  have hlocks := B.notSynchronized
  have hin2 : meth.name = "<init>" := (name_of_methodNamed B.named B.method).1
  have han : a < n := by have h9 : a < s.heap.size := (hP 0 _ rfl).lt; omega
  have hA : ∀ q, s.heap.size ≤ q → nA a n q := fun q h => .inr (by omega)
  have hS : va_S (nA a n) s.heap s.heap [] := va_S.rf
  have hD : va_D (nA a n) [(a, .inr (5, [.long 0, .long 0, .int 0, .int 0]))] := vD_inc trivial (by simp only [List.mem_cons, List.not_mem_nil, or_false]; rintro x rfl; exact .inl rfl)
  have hl := lv_entry ([.ref (a)]) (n := 1) (Nat.le_of_ble_eq_true rfl)
  rw [lg_entry_eq]
  generalize (lg_sl ([.ref (a)]) ++ List.replicate (1 - (lg_sl ([.ref (a)])).length) Slot.unset).toArray = ls at hl ⊢
  have hl : lv_has ls 1 [(0, .ref (a))] := hl
  refine lv_aload_n hx hb dAc_init_0 rfl (lv_at hl 0 rfl) ?_
  refine W.objInit hx hb hown (hts _ (List.mem_cons_of_mem _ wm1_96)) (hts _ (List.mem_cons_of_mem _ wm1_26)) (hts _ (List.mem_cons_of_mem _ wm1_27)) rfl (by rw [hml]; exact hl.1) rfl dAc_init_1 (Nat.le_of_ble_eq_true rfl) (Nat.le_of_ble_eq_true rfl) ?_
  refine W.eq (g2 := F0 m 4 ls []) rfl ?_
  refine w_size (fun hle => ?_)
  have hz : s.heap.size = n := sz_0 hsz hle hS.1
  clear hle
  exact W.vret hx hb hr (fun t ht _ => ⟨rfl, by rw [ht]; exact hz, by rw [ht]; exact hP, hS.F ht⟩) hS.2.2 dAc_init_4

theorem dDr_init_0 : decode ccDr_init 0 = .ok (.aload_n 0, 1) := by decide +kernel
theorem dDr_init_1 : decode ccDr_init 1 = .ok (.invokespecial 1, 3) := by decide +kernel
theorem dDr_init_4 : decode ccDr_init 4 = .ok (.aload_n 0, 1) := by decide +kernel
theorem dDr_init_5 : decode ccDr_init 5 = .ok (.sipush 2000, 3) := by decide +kernel
theorem dDr_init_8 : decode ccDr_init 8 = .ok (.newarray .int, 2) := by decide +kernel
theorem dDr_init_10 : decode ccDr_init 10 = .ok (.putfield 11, 3) := by decide +kernel
theorem dDr_init_13 : decode ccDr_init 13 = .ok (.aload_n 0, 1) := by decide +kernel
theorem dDr_init_14 : decode ccDr_init 14 = .ok (.sipush 200, 3) := by decide +kernel
theorem dDr_init_17 : decode ccDr_init 17 = .ok (.newarray .long, 2) := by decide +kernel
theorem dDr_init_19 : decode ccDr_init 19 = .ok (.putfield 15, 3) := by decide +kernel
theorem dDr_init_22 : decode ccDr_init 22 = .ok (.aload_n 0, 1) := by decide +kernel
theorem dDr_init_23 : decode ccDr_init 23 = .ok (.sipush 200, 3) := by decide +kernel
theorem dDr_init_26 : decode ccDr_init 26 = .ok (.newarray .boolean, 2) := by decide +kernel
theorem dDr_init_28 : decode ccDr_init 28 = .ok (.putfield 19, 3) := by decide +kernel
theorem dDr_init_31 : decode ccDr_init 31 = .ok (.aload_n 0, 1) := by decide +kernel
theorem dDr_init_32 : decode ccDr_init 32 = .ok (.getfield 11, 3) := by decide +kernel
theorem dDr_init_35 : decode ccDr_init 35 = .ok (.iconst 0, 1) := by decide +kernel
theorem dDr_init_36 : decode ccDr_init 36 = .ok (.invokestatic 23, 3) := by decide +kernel
theorem dDr_init_39 : decode ccDr_init 39 = .ok (.invokestatic 27, 3) := by decide +kernel
theorem dDr_init_42 : decode ccDr_init 42 = .ok (.return_, 1) := by decide +kernel
set_option maxHeartbeats 4000000 in
set_option maxRecDepth 100000 in
theorem kDr_init (l : Launch) (D : va_G) (cI cJ cZ : ClassId) (a n : Nat)  : Met l yDr_init wsDr_init { frames := 1, cells := 3, slots := 2400, locals := 23 } (va_Pc [.ref (a)] (nC D cI cJ cZ [(a, .inr (1, [.null, .null, .null]))] n)) (nQ D [(a, .inr (1, [.ref (n), .ref (n + 1), .ref (n + 2)])), (n, .inl (cI, 2000, .inl (fAr_fillX (fun _ => 0) (fDr_codeOf 0)))), (n + 1, .inl (cJ, 200, .inr (.inl (fun _ => 0)))), (n + 2, .inl (cZ, 200, .inl (fun _ => bb false)))] a n 3) 3 2400 (nA a n) := by
  refine Met.ofW (cc := ccDr_init) (maxL := 1) (ret := none) (by decide +kernel) rfl ?_
  intro p e s m args below meth c s₁ B hml hv
  obtain ⟨rfl, hsz, hP, hK⟩ := hv
  have hx := B.exec
  have hb := B.bytes
  have hr := B.returns
  have hts := atoms_spec (ws := wsDr_init) B.pre
  have hown : s.vm.findClass RDr = some m.cls := findClass_of_methodNamed B.named
  have hlocks := B.notSynchronized
  have hin2 : meth.name = "<init>" := (name_of_methodNamed B.named B.method).1
  have han : a < n := by have h9 : a < s.heap.size := (hP 0 _ rfl).lt; omega
  have hA : ∀ q, s.heap.size ≤ q → nA a n q := fun q h => .inr (by omega)
  have hS : va_S (nA a n) s.heap s.heap [] := va_S.rf
  have hD : va_D (nA a n) [(a, .inr (1, [.null, .null, .null]))] := vD_inc trivial (by simp only [List.mem_cons, List.not_mem_nil, or_false]; rintro x rfl; exact .inl rfl)
  have hl := lv_entry ([.ref (a)]) (n := 1) (Nat.le_of_ble_eq_true rfl)
  rw [lg_entry_eq]
  generalize (lg_sl ([.ref (a)]) ++ List.replicate (1 - (lg_sl ([.ref (a)])).length) Slot.unset).toArray = ls at hl ⊢
  have hl : lv_has ls 1 [(0, .ref (a))] := hl
  refine lv_aload_n hx hb dDr_init_0 rfl (lv_at hl 0 rfl) ?_
  refine W.objInit hx hb hown (hts _ (List.mem_cons_of_mem _ wm1_33)) (hts _ (List.mem_cons_of_mem _ wm1_26)) (hts _ (List.mem_cons_of_mem _ wm1_27)) rfl (by rw [hml]; exact hl.1) rfl dDr_init_1 (Nat.le_of_ble_eq_true rfl) (Nat.le_of_ble_eq_true rfl) ?_
  refine W.eq (g2 := F0 m 4 ls []) rfl ?_
  refine lv_aload_n hx hb dDr_init_4 rfl (lv_at hl 0 rfl) ?_
  refine lv_sipush (v := 2000) hx hb dDr_init_5 (by decide) ?_
  refine w_size (fun hle => ?_)
  have hz : s.heap.size = n := sz_0 hsz hle hS.1
  clear hle
  refine nw_I (N' := 2000) hx hb (hts _ (List.mem_cons_of_mem _ wm1_50)) hK hP hD hS hA hz (by decide) (by decide) (by decide) (Nat.le_of_ble_eq_true rfl) (Nat.le_of_ble_eq_true rfl) dDr_init_8 (fun H hz hP hD hS => ?_)
  have hP : va_P D clA [(a, .inr (1, [.null, .null, .null])), (n, .inl (cI, 2000, .inl (fun _ => 0)))] H := hP
  have hD : va_D (nA a n) [(a, .inr (1, [.null, .null, .null])), (n, .inl (cI, 2000, .inl (fun _ => 0)))] := hD
  refine va_putF (ci := 1) (v := .ref (n)) (ty := .array .int) (C := RDr) (T := TDr) (N := 3) hx hb hts (fun w h => List.mem_cons_of_mem _ (inADr w h)) tyDr tyDr_ok nmDr hown hK hP hD hS 0 rfl rfl 0 (by decide) (hts _ (List.mem_cons_of_mem _ wm1_40)) (fun _ h9 => h9) rfl hin2 rfl (by decide +kernel) rfl rfl (Nat.le_of_ble_eq_true rfl) dDr_init_10 (fun H locs hP hD hS => ?_)
  have hP : va_P D clA [(a, .inr (1, [.ref (n), .null, .null])), (n, .inl (cI, 2000, .inl (fun _ => 0)))] H := hP
  have hD : va_D (nA a n) [(a, .inr (1, [.ref (n), .null, .null])), (n, .inl (cI, 2000, .inl (fun _ => 0)))] := hD
  refine lv_aload_n hx hb dDr_init_13 rfl (lv_at hl 0 rfl) ?_
  refine lv_sipush (v := 200) hx hb dDr_init_14 (by decide) ?_
  refine w_size (fun hle => ?_)
  have hz : H.size = n + 1 := sz_eq (j := 0) hsz hle (hP 1 _ rfl).lt
  clear hle
  refine nw_J (N' := 200) hx hb (hts _ (List.mem_cons_of_mem _ wm1_51)) hK hP hD hS hA hz (by decide) (by decide) (by decide) (Nat.le_of_ble_eq_true rfl) (Nat.le_of_ble_eq_true rfl) dDr_init_17 (fun H hz hP hD hS => ?_)
  have hP : va_P D clA [(a, .inr (1, [.ref (n), .null, .null])), (n, .inl (cI, 2000, .inl (fun _ => 0))), (n + 1, .inl (cJ, 200, .inr (.inl (fun _ => 0))))] H := hP
  have hD : va_D (nA a n) [(a, .inr (1, [.ref (n), .null, .null])), (n, .inl (cI, 2000, .inl (fun _ => 0))), (n + 1, .inl (cJ, 200, .inr (.inl (fun _ => 0))))] := hD
  refine va_putF (ci := 1) (v := .ref (n + 1)) (ty := .array .long) (C := RDr) (T := TDr) (N := 3) hx hb hts (fun w h => List.mem_cons_of_mem _ (inADr w h)) tyDr tyDr_ok nmDr hown hK hP hD hS 0 rfl rfl 1 (by decide) (hts _ (List.mem_cons_of_mem _ wm1_41)) (fun _ h9 => h9) rfl hin2 rfl (by decide +kernel) rfl rfl (Nat.le_of_ble_eq_true rfl) dDr_init_19 (fun H locs hP hD hS => ?_)
  have hP : va_P D clA [(a, .inr (1, [.ref (n), .ref (n + 1), .null])), (n, .inl (cI, 2000, .inl (fun _ => 0))), (n + 1, .inl (cJ, 200, .inr (.inl (fun _ => 0))))] H := hP
  have hD : va_D (nA a n) [(a, .inr (1, [.ref (n), .ref (n + 1), .null])), (n, .inl (cI, 2000, .inl (fun _ => 0))), (n + 1, .inl (cJ, 200, .inr (.inl (fun _ => 0))))] := hD
  refine lv_aload_n hx hb dDr_init_22 rfl (lv_at hl 0 rfl) ?_
  refine lv_sipush (v := 200) hx hb dDr_init_23 (by decide) ?_
  refine w_size (fun hle => ?_)
  have hz : H.size = n + 2 := sz_eq (j := 1) hsz hle (hP 2 _ rfl).lt
  clear hle
  refine nw_Z (N' := 200) hx hb (hts _ (List.mem_cons_of_mem _ wm1_52)) hK hP hD hS hA hz (by decide) (by decide) (by decide) (Nat.le_of_ble_eq_true rfl) (Nat.le_of_ble_eq_true rfl) dDr_init_26 (fun H hz hP hD hS => ?_)
  have hP : va_P D clA [(a, .inr (1, [.ref (n), .ref (n + 1), .null])), (n, .inl (cI, 2000, .inl (fun _ => 0))), (n + 1, .inl (cJ, 200, .inr (.inl (fun _ => 0)))), (n + 2, .inl (cZ, 200, .inl (fun _ => bb false)))] H := hP
  have hD : va_D (nA a n) [(a, .inr (1, [.ref (n), .ref (n + 1), .null])), (n, .inl (cI, 2000, .inl (fun _ => 0))), (n + 1, .inl (cJ, 200, .inr (.inl (fun _ => 0)))), (n + 2, .inl (cZ, 200, .inl (fun _ => bb false)))] := hD
  refine va_putF (ci := 1) (v := .ref (n + 2)) (ty := .array .boolean) (C := RDr) (T := TDr) (N := 3) hx hb hts (fun w h => List.mem_cons_of_mem _ (inADr w h)) tyDr tyDr_ok nmDr hown hK hP hD hS 0 rfl rfl 2 (by decide) (hts _ (List.mem_cons_of_mem _ wm1_42)) (fun _ h9 => h9) rfl hin2 rfl (by decide +kernel) rfl rfl (Nat.le_of_ble_eq_true rfl) dDr_init_28 (fun H locs hP hD hS => ?_)
  have hP : va_P D clA [(a, .inr (1, [.ref (n), .ref (n + 1), .ref (n + 2)])), (n, .inl (cI, 2000, .inl (fun _ => 0))), (n + 1, .inl (cJ, 200, .inr (.inl (fun _ => 0)))), (n + 2, .inl (cZ, 200, .inl (fun _ => bb false)))] H := hP
  have hD : va_D (nA a n) [(a, .inr (1, [.ref (n), .ref (n + 1), .ref (n + 2)])), (n, .inl (cI, 2000, .inl (fun _ => 0))), (n + 1, .inl (cJ, 200, .inr (.inl (fun _ => 0)))), (n + 2, .inl (cZ, 200, .inl (fun _ => bb false)))] := hD
  refine lv_aload_n hx hb dDr_init_31 rfl (lv_at hl 0 rfl) ?_
  refine va_get (ci := 1) (v := .ref (n)) (C := RDr) (T := TDr) (N := 3) hx hb hts (fun w h => List.mem_cons_of_mem _ (inADr w h)) hown hK hP 0 rfl rfl 0 (by decide) (hts _ (List.mem_cons_of_mem _ wm1_40)) (fun _ h => h) rfl dDr_init_32 ?_
  refine lv_iconst (v := 0) hx hb dDr_init_35 (by decide) ?_
  refine cl_rd (W.runS (As := [.int (0)]) (rest := [.ref (n)]) ⟨hx, hb, hml, hown, hts⟩ (kDr_codeOf l 0) (va_cwS 1 hts (gS wm1_34 wm1_35 wm1_2 wm1_36) rfl rfl rfl (by decide +kernel) ⟨Nat.le_of_ble_eq_true rfl, Nat.le_of_ble_eq_true rfl⟩) (preT) rfl rfl hl.1 rfl (lv_room (Nat.le_of_ble_eq_true rfl)) dDr_init_36 ⟨Nat.le_of_ble_eq_true rfl, Nat.le_of_ble_eq_true rfl⟩) ?_
  refine w_size (fun hle => ?_)
  have hz : H.size = n + 3 := sz_eq (j := 2) hsz hle (hP 3 _ rfl).lt
  clear hle
  have hPb : x_W D (fun _ => n) cI cJ cZ (fun _ => 0) H := hP.sub (ws' := [(n, .inl (cI, 2000, .inl (fun _ => 0)))]) [1] rfl
  have hPo := hP.sub (ws' := [(a, .inr (1, [.ref (n), .ref (n + 1), .ref (n + 2)])), (n + 1, .inl (cJ, 200, .inr (.inl (fun _ => 0)))), (n + 2, .inl (cZ, 200, .inl (fun _ => bb false)))]) [0, 2, 3] rfl
  refine cl_w2 (W.runS (As := [.ref (n), .int (fDr_codeOf 0)]) (rest := []) ⟨hx, hb, hml, hown, hts⟩ (kAr_fillX l D (fun _ => n) cI cJ cZ (fun i j hi hj _ => by omega) (fun _ => 0) (fDr_codeOf 0)) (va_cwS 2 hts (gS wm1_37 wm1_38 wm1_3 wm1_39) rfl rfl rfl (by decide +kernel) ⟨Nat.le_of_ble_eq_true rfl, Nat.le_of_ble_eq_true rfl⟩) (x_preS hK hPb) rfl rfl hl.1 rfl (lv_room (Nat.le_of_ble_eq_true rfl)) dDr_init_39 ⟨Nat.le_of_ble_eq_true rfl, Nat.le_of_ble_eq_true rfl⟩) hS (fun q h => by obtain ⟨_, _, h⟩ := h; rw [h]; exact .inr (Nat.le_refl n)) (fun q h => by obtain ⟨_, _, h⟩ := h; rw [h]; exact .inr (Nat.le_refl n)) (fun H locs hP hk hS => ?_)
  have hP : va_P D clA [(a, .inr (1, [.ref (n), .ref (n + 1), .ref (n + 2)])), (n, .inl (cI, 2000, .inl (fAr_fillX (fun _ => 0) (fDr_codeOf 0)))), (n + 1, .inl (cJ, 200, .inr (.inl (fun _ => 0)))), (n + 2, .inl (cZ, 200, .inl (fun _ => bb false)))] H := by
    have hP : va_P D clA [(n, .inl (cI, 2000, .inl (fAr_fillX (fun _ => 0) (fDr_codeOf 0))))] H := hP
    have hJ := vP_join (b := n) hPo (by assumption) (fun q h1 h2 => hk q (by rw [hz]; exact h1) (fun h => by obtain ⟨_, _, h⟩ := h; exact h2 h)) ?_ hP
    · exact hJ.sub [0, 3, 1, 2] rfl
    simp only [List.mem_cons, List.not_mem_nil, or_false]
    rintro x (rfl | rfl | rfl)
    · exact Nat.ne_of_lt han
    · exact an_00 (k := 1) (by decide)
    · exact an_00 (k := 2) (by decide)
  refine w_size (fun hle => ?_)
  have hz : H.size = n + 3 := sz_eq (j := 2) hsz hle (hP 3 _ rfl).lt
  clear hle
  exact W.vret hx hb hr (fun t ht _ => ⟨rfl, by rw [ht]; exact hz, by rw [ht]; exact hP, hS.F ht⟩) hS.2.2 dDr_init_42

theorem dCd_init_0 : decode ccCd_init 0 = .ok (.aload_n 0, 1) := by decide +kernel
theorem dCd_init_1 : decode ccCd_init 1 = .ok (.invokespecial 1, 3) := by decide +kernel
theorem dCd_init_4 : decode ccCd_init 4 = .ok (.aload_n 0, 1) := by decide +kernel
theorem dCd_init_5 : decode ccCd_init 5 = .ok (.bipush 20, 2) := by decide +kernel
theorem dCd_init_7 : decode ccCd_init 7 = .ok (.newarray .long, 2) := by decide +kernel
theorem dCd_init_9 : decode ccCd_init 9 = .ok (.putfield 9, 3) := by decide +kernel
theorem dCd_init_12 : decode ccCd_init 12 = .ok (.aload_n 0, 1) := by decide +kernel
theorem dCd_init_13 : decode ccCd_init 13 = .ok (.bipush 20, 2) := by decide +kernel
theorem dCd_init_15 : decode ccCd_init 15 = .ok (.newarray .boolean, 2) := by decide +kernel
theorem dCd_init_17 : decode ccCd_init 17 = .ok (.putfield 13, 3) := by decide +kernel
theorem dCd_init_20 : decode ccCd_init 20 = .ok (.return_, 1) := by decide +kernel
set_option maxHeartbeats 4000000 in
set_option maxRecDepth 100000 in
theorem kCd_init (l : Launch) (D : va_G) (cI cJ cZ : ClassId) (a n : Nat)  : Met l yCd_init wsCd_init { frames := 1, cells := 2, slots := 40, locals := 20 } (va_Pc [.ref (a)] (nC D cI cJ cZ [(a, .inr (2, [.null, .null, .int 0, .int 0]))] n)) (nQ D [(a, .inr (2, [.ref (n), .ref (n + 1), .int 0, .int 0])), (n, .inl (cJ, 20, .inr (.inl (fun _ => 0)))), (n + 1, .inl (cZ, 20, .inl (fun _ => bb false)))] a n 2) 2 40 (nA a n) := by
  refine Met.ofW (cc := ccCd_init) (maxL := 1) (ret := none) (by decide +kernel) rfl ?_
  intro p e s m args below meth c s₁ B hml hv
  obtain ⟨rfl, hsz, hP, hK⟩ := hv
  have hx := B.exec
  have hb := B.bytes
  have hr := B.returns
  have hts := atoms_spec (ws := wsCd_init) B.pre
  have hown : s.vm.findClass RCd = some m.cls := findClass_of_methodNamed B.named
  have hlocks := B.notSynchronized
  have hin2 : meth.name = "<init>" := (name_of_methodNamed B.named B.method).1
  have han : a < n := by have h9 : a < s.heap.size := (hP 0 _ rfl).lt; omega
  have hA : ∀ q, s.heap.size ≤ q → nA a n q := fun q h => .inr (by omega)
  have hS : va_S (nA a n) s.heap s.heap [] := va_S.rf
  have hD : va_D (nA a n) [(a, .inr (2, [.null, .null, .int 0, .int 0]))] := vD_inc trivial (by simp only [List.mem_cons, List.not_mem_nil, or_false]; rintro x rfl; exact .inl rfl)
  have hl := lv_entry ([.ref (a)]) (n := 1) (Nat.le_of_ble_eq_true rfl)
  rw [lg_entry_eq]
  generalize (lg_sl ([.ref (a)]) ++ List.replicate (1 - (lg_sl ([.ref (a)])).length) Slot.unset).toArray = ls at hl ⊢
  have hl : lv_has ls 1 [(0, .ref (a))] := hl
  refine lv_aload_n hx hb dCd_init_0 rfl (lv_at hl 0 rfl) ?_
  refine W.objInit hx hb hown (hts _ (List.mem_cons_of_mem _ wm1_58)) (hts _ (List.mem_cons_of_mem _ wm1_26)) (hts _ (List.mem_cons_of_mem _ wm1_27)) rfl (by rw [hml]; exact hl.1) rfl dCd_init_1 (Nat.le_of_ble_eq_true rfl) (Nat.le_of_ble_eq_true rfl) ?_
  refine W.eq (g2 := F0 m 4 ls []) rfl ?_
  refine lv_aload_n hx hb dCd_init_4 rfl (lv_at hl 0 rfl) ?_
  refine lv_bipush (v := 20) hx hb dCd_init_5 (by decide) ?_
  refine w_size (fun hle => ?_)
  have hz : s.heap.size = n := sz_0 hsz hle hS.1
  clear hle
  refine nw_J (N' := 20) hx hb (hts _ (List.mem_cons_of_mem _ wm1_51)) hK hP hD hS hA hz (by decide) (by decide) (by decide) (Nat.le_of_ble_eq_true rfl) (Nat.le_of_ble_eq_true rfl) dCd_init_7 (fun H hz hP hD hS => ?_)
  have hP : va_P D clA [(a, .inr (2, [.null, .null, .int 0, .int 0])), (n, .inl (cJ, 20, .inr (.inl (fun _ => 0))))] H := hP
  have hD : va_D (nA a n) [(a, .inr (2, [.null, .null, .int 0, .int 0])), (n, .inl (cJ, 20, .inr (.inl (fun _ => 0))))] := hD
  refine va_putF (ci := 2) (v := .ref (n)) (ty := .array .long) (C := RCd) (T := TCd) (N := 4) hx hb hts (fun w h => List.mem_cons_of_mem _ (inACd w h)) tyCd tyCd_ok nmCd hown hK hP hD hS 0 rfl rfl 0 (by decide) (hts _ (List.mem_cons_of_mem _ wm1_59)) (fun _ h9 => h9) rfl hin2 rfl (by decide +kernel) rfl rfl (Nat.le_of_ble_eq_true rfl) dCd_init_9 (fun H locs hP hD hS => ?_)
  have hP : va_P D clA [(a, .inr (2, [.ref (n), .null, .int 0, .int 0])), (n, .inl (cJ, 20, .inr (.inl (fun _ => 0))))] H := hP
  have hD : va_D (nA a n) [(a, .inr (2, [.ref (n), .null, .int 0, .int 0])), (n, .inl (cJ, 20, .inr (.inl (fun _ => 0))))] := hD
  refine lv_aload_n hx hb dCd_init_12 rfl (lv_at hl 0 rfl) ?_
  refine lv_bipush (v := 20) hx hb dCd_init_13 (by decide) ?_
  refine w_size (fun hle => ?_)
  have hz : H.size = n + 1 := sz_eq (j := 0) hsz hle (hP 1 _ rfl).lt
  clear hle
  refine nw_Z (N' := 20) hx hb (hts _ (List.mem_cons_of_mem _ wm1_52)) hK hP hD hS hA hz (by decide) (by decide) (by decide) (Nat.le_of_ble_eq_true rfl) (Nat.le_of_ble_eq_true rfl) dCd_init_15 (fun H hz hP hD hS => ?_)
  have hP : va_P D clA [(a, .inr (2, [.ref (n), .null, .int 0, .int 0])), (n, .inl (cJ, 20, .inr (.inl (fun _ => 0)))), (n + 1, .inl (cZ, 20, .inl (fun _ => bb false)))] H := hP
  have hD : va_D (nA a n) [(a, .inr (2, [.ref (n), .null, .int 0, .int 0])), (n, .inl (cJ, 20, .inr (.inl (fun _ => 0)))), (n + 1, .inl (cZ, 20, .inl (fun _ => bb false)))] := hD
  refine va_putF (ci := 2) (v := .ref (n + 1)) (ty := .array .boolean) (C := RCd) (T := TCd) (N := 4) hx hb hts (fun w h => List.mem_cons_of_mem _ (inACd w h)) tyCd tyCd_ok nmCd hown hK hP hD hS 0 rfl rfl 1 (by decide) (hts _ (List.mem_cons_of_mem _ wm1_60)) (fun _ h9 => h9) rfl hin2 rfl (by decide +kernel) rfl rfl (Nat.le_of_ble_eq_true rfl) dCd_init_17 (fun H locs hP hD hS => ?_)
  have hP : va_P D clA [(a, .inr (2, [.ref (n), .ref (n + 1), .int 0, .int 0])), (n, .inl (cJ, 20, .inr (.inl (fun _ => 0)))), (n + 1, .inl (cZ, 20, .inl (fun _ => bb false)))] H := hP
  have hD : va_D (nA a n) [(a, .inr (2, [.ref (n), .ref (n + 1), .int 0, .int 0])), (n, .inl (cJ, 20, .inr (.inl (fun _ => 0)))), (n + 1, .inl (cZ, 20, .inl (fun _ => bb false)))] := hD
  refine w_size (fun hle => ?_)
  have hz : H.size = n + 2 := sz_eq (j := 1) hsz hle (hP 2 _ rfl).lt
  clear hle
  exact W.vret hx hb hr (fun t ht _ => ⟨rfl, by rw [ht]; exact hz, by rw [ht]; exact hP, hS.F ht⟩) hS.2.2 dCd_init_20

theorem dPu_init_0 : decode ccPu_init 0 = .ok (.aload_n 0, 1) := by decide +kernel
theorem dPu_init_1 : decode ccPu_init 1 = .ok (.invokespecial 1, 3) := by decide +kernel
theorem dPu_init_4 : decode ccPu_init 4 = .ok (.aload_n 0, 1) := by decide +kernel
theorem dPu_init_5 : decode ccPu_init 5 = .ok (.bipush 40, 2) := by decide +kernel
theorem dPu_init_7 : decode ccPu_init 7 = .ok (.newarray .long, 2) := by decide +kernel
theorem dPu_init_9 : decode ccPu_init 9 = .ok (.putfield 9, 3) := by decide +kernel
theorem dPu_init_12 : decode ccPu_init 12 = .ok (.return_, 1) := by decide +kernel
set_option maxHeartbeats 4000000 in
set_option maxRecDepth 100000 in
theorem kPu_init (l : Launch) (D : va_G) (cI cJ cZ : ClassId) (a n : Nat)  : Met l yPu_init wsPu_init { frames := 1, cells := 1, slots := 40, locals := 20 } (va_Pc [.ref (a)] (nC D cI cJ cZ [(a, .inr (3, [.null, .int 0]))] n)) (nQ D [(a, .inr (3, [.ref (n), .int 0])), (n, .inl (cJ, 40, .inr (.inl (fun _ => 0))))] a n 1) 1 40 (nA a n) := by
  refine Met.ofW (cc := ccPu_init) (maxL := 1) (ret := none) (by decide +kernel) rfl ?_
  intro p e s m args below meth c s₁ B hml hv
  obtain ⟨rfl, hsz, hP, hK⟩ := hv
  have hx := B.exec
  have hb := B.bytes
  have hr := B.returns
  have hts := atoms_spec (ws := wsPu_init) B.pre
  have hown : s.vm.findClass RPu = some m.cls := findClass_of_methodNamed B.named
  have hlocks := B.notSynchronized
  have hin2 : meth.name = "<init>" := (name_of_methodNamed B.named B.method).1
  have han : a < n := by have h9 : a < s.heap.size := (hP 0 _ rfl).lt; omega
  have hA : ∀ q, s.heap.size ≤ q → nA a n q := fun q h => .inr (by omega)
  have hS : va_S (nA a n) s.heap s.heap [] := va_S.rf
  have hD : va_D (nA a n) [(a, .inr (3, [.null, .int 0]))] := vD_inc trivial (by simp only [List.mem_cons, List.not_mem_nil, or_false]; rintro x rfl; exact .inl rfl)
  have hl := lv_entry ([.ref (a)]) (n := 1) (Nat.le_of_ble_eq_true rfl)
  rw [lg_entry_eq]
  generalize (lg_sl ([.ref (a)]) ++ List.replicate (1 - (lg_sl ([.ref (a)])).length) Slot.unset).toArray = ls at hl ⊢
  have hl : lv_has ls 1 [(0, .ref (a))] := hl
  refine lv_aload_n hx hb dPu_init_0 rfl (lv_at hl 0 rfl) ?_
  refine W.objInit hx hb hown (hts _ (List.mem_cons_of_mem _ wm1_77)) (hts _ (List.mem_cons_of_mem _ wm1_26)) (hts _ (List.mem_cons_of_mem _ wm1_27)) rfl (by rw [hml]; exact hl.1) rfl dPu_init_1 (Nat.le_of_ble_eq_true rfl) (Nat.le_of_ble_eq_true rfl) ?_
  refine W.eq (g2 := F0 m 4 ls []) rfl ?_
  refine lv_aload_n hx hb dPu_init_4 rfl (lv_at hl 0 rfl) ?_
  refine lv_bipush (v := 40) hx hb dPu_init_5 (by decide) ?_
  refine w_size (fun hle => ?_)
  have hz : s.heap.size = n := sz_0 hsz hle hS.1
  clear hle
  refine nw_J (N' := 40) hx hb (hts _ (List.mem_cons_of_mem _ wm1_51)) hK hP hD hS hA hz (by decide) (by decide) (by decide) (Nat.le_of_ble_eq_true rfl) (Nat.le_of_ble_eq_true rfl) dPu_init_7 (fun H hz hP hD hS => ?_)
  have hP : va_P D clA [(a, .inr (3, [.null, .int 0])), (n, .inl (cJ, 40, .inr (.inl (fun _ => 0))))] H := hP
  have hD : va_D (nA a n) [(a, .inr (3, [.null, .int 0])), (n, .inl (cJ, 40, .inr (.inl (fun _ => 0))))] := hD
  refine va_putF (ci := 3) (v := .ref (n)) (ty := .array .long) (C := RPu) (T := TPu) (N := 2) hx hb hts (fun w h => List.mem_cons_of_mem _ (inAPu w h)) tyPu tyPu_ok nmPu hown hK hP hD hS 0 rfl rfl 0 (by decide) (hts _ (List.mem_cons_of_mem _ wm1_78)) (fun _ h9 => h9) rfl hin2 rfl (by decide +kernel) rfl rfl (Nat.le_of_ble_eq_true rfl) dPu_init_9 (fun H locs hP hD hS => ?_)
  have hP : va_P D clA [(a, .inr (3, [.ref (n), .int 0])), (n, .inl (cJ, 40, .inr (.inl (fun _ => 0))))] H := hP
  have hD : va_D (nA a n) [(a, .inr (3, [.ref (n), .int 0])), (n, .inl (cJ, 40, .inr (.inl (fun _ => 0))))] := hD
  refine w_size (fun hle => ?_)
  have hz : H.size = n + 1 := sz_eq (j := 0) hsz hle (hP 1 _ rfl).lt
  clear hle
  exact W.vret hx hb hr (fun t ht _ => ⟨rfl, by rw [ht]; exact hz, by rw [ht]; exact hP, hS.F ht⟩) hS.2.2 dPu_init_12

theorem dPr_init_0 : decode ccPr_init 0 = .ok (.aload_n 0, 1) := by decide +kernel
theorem dPr_init_1 : decode ccPr_init 1 = .ok (.invokespecial 1, 3) := by decide +kernel
theorem dPr_init_4 : decode ccPr_init 4 = .ok (.aload_n 0, 1) := by decide +kernel
theorem dPr_init_5 : decode ccPr_init 5 = .ok (.aload_n 1, 1) := by decide +kernel
theorem dPr_init_6 : decode ccPr_init 6 = .ok (.putfield 7, 3) := by decide +kernel
theorem dPr_init_9 : decode ccPr_init 9 = .ok (.aload_n 0, 1) := by decide +kernel
theorem dPr_init_10 : decode ccPr_init 10 = .ok (.aload_n 2, 1) := by decide +kernel
theorem dPr_init_11 : decode ccPr_init 11 = .ok (.putfield 13, 3) := by decide +kernel
theorem dPr_init_14 : decode ccPr_init 14 = .ok (.aload_n 0, 1) := by decide +kernel
theorem dPr_init_15 : decode ccPr_init 15 = .ok (.aload_n 3, 1) := by decide +kernel
theorem dPr_init_16 : decode ccPr_init 16 = .ok (.putfield 17, 3) := by decide +kernel
theorem dPr_init_19 : decode ccPr_init 19 = .ok (.aload_n 0, 1) := by decide +kernel
theorem dPr_init_20 : decode ccPr_init 20 = .ok (.new 21, 3) := by decide +kernel
theorem dPr_init_23 : decode ccPr_init 23 = .ok (.dup, 1) := by decide +kernel
theorem dPr_init_24 : decode ccPr_init 24 = .ok (.invokespecial 23, 3) := by decide +kernel
theorem dPr_init_27 : decode ccPr_init 27 = .ok (.putfield 24, 3) := by decide +kernel
theorem dPr_init_30 : decode ccPr_init 30 = .ok (.aload_n 0, 1) := by decide +kernel
theorem dPr_init_31 : decode ccPr_init 31 = .ok (.iconst 0, 1) := by decide +kernel
theorem dPr_init_32 : decode ccPr_init 32 = .ok (.putfield 28, 3) := by decide +kernel
theorem dPr_init_35 : decode ccPr_init 35 = .ok (.return_, 1) := by decide +kernel
set_option maxHeartbeats 4000000 in
set_option maxRecDepth 100000 in
theorem kPr_init (l : Launch) (D : va_G) (cI cJ cZ : ClassId) (a n : Nat) (r1 : Nat) (r2 : Nat) (r3 : Nat) : Met l yPr_init wsPr_init { frames := 2, cells := 1, slots := 4, locals := 40 } (va_Pc [.ref (a), .ref (r1), .ref (r2), .ref (r3)] (nC D cI cJ cZ [(a, .inr (4, [.null, .null, .null, .null, .long 0, .int 0, .int 0, .int 0, .long 0]))] n)) (nQ D [(a, .inr (4, [.ref (r1), .ref (r2), .ref (r3), .ref (n), .long 0, .int 0, .int 0, .int 0, .long 0])), (n, .inr (5, [.long 0, .long 0, .int 0, .int 0]))] a n 1) 1 4 (nA a n) := by
  refine Met.ofW (cc := ccPr_init) (maxL := 4) (ret := none) (by decide +kernel) rfl ?_
  intro p e s m args below meth c s₁ B hml hv
  obtain ⟨rfl, hsz, hP, hK⟩ := hv
  have hx := B.exec
  have hb := B.bytes
  have hr := B.returns
  have hts := atoms_spec (ws := wsPr_init) B.pre
  have hown : s.vm.findClass RPr = some m.cls := findClass_of_methodNamed B.named
  have hlocks := B.notSynchronized
  have hin2 : meth.name = "<init>" := (name_of_methodNamed B.named B.method).1
  have han : a < n := by have h9 : a < s.heap.size := (hP 0 _ rfl).lt; omega
  have hA : ∀ q, s.heap.size ≤ q → nA a n q := fun q h => .inr (by omega)
  have hS : va_S (nA a n) s.heap s.heap [] := va_S.rf
  have hD : va_D (nA a n) [(a, .inr (4, [.null, .null, .null, .null, .long 0, .int 0, .int 0, .int 0, .long 0]))] := vD_inc trivial (by simp only [List.mem_cons, List.not_mem_nil, or_false]; rintro x rfl; exact .inl rfl)
  have hl := lv_entry ([.ref (a), .ref (r1), .ref (r2), .ref (r3)]) (n := 4) (Nat.le_of_ble_eq_true rfl)
  rw [lg_entry_eq]
  generalize (lg_sl ([.ref (a), .ref (r1), .ref (r2), .ref (r3)]) ++ List.replicate (4 - (lg_sl ([.ref (a), .ref (r1), .ref (r2), .ref (r3)])).length) Slot.unset).toArray = ls at hl ⊢
  have hl : lv_has ls 4 [(0, .ref (a)), (1, .ref (r1)), (2, .ref (r2)), (3, .ref (r3))] := hl
  refine lv_aload_n hx hb dPr_init_0 rfl (lv_at hl 0 rfl) ?_
  refine W.objInit hx hb hown (hts _ (List.mem_cons_of_mem _ wm1_90)) (hts _ (List.mem_cons_of_mem _ wm1_26)) (hts _ (List.mem_cons_of_mem _ wm1_27)) rfl (by rw [hml]; exact hl.1) rfl dPr_init_1 (Nat.le_of_ble_eq_true rfl) (Nat.le_of_ble_eq_true rfl) ?_
  refine W.eq (g2 := F0 m 4 ls []) rfl ?_
  refine lv_aload_n hx hb dPr_init_4 rfl (lv_at hl 0 rfl) ?_
  refine lv_aload_n hx hb dPr_init_5 rfl (lv_at hl 1 rfl) ?_
  refine va_putF (ci := 4) (v := .ref (r1)) (ty := .object "DrumMachine$Drum") (C := RPr) (T := TPr) (N := 9) hx hb hts (fun w h => List.mem_cons_of_mem _ (inAPr w h)) tyPr tyPr_ok nmPr hown hK hP hD hS 0 rfl rfl 0 (by decide) (hts _ (List.mem_cons_of_mem _ wm1_110)) (fun _ h9 => h9) rfl hin2 rfl (by decide +kernel) rfl rfl (Nat.le_of_ble_eq_true rfl) dPr_init_6 (fun H locs hP hD hS => ?_)
  have hP : va_P D clA [(a, .inr (4, [.ref (r1), .null, .null, .null, .long 0, .int 0, .int 0, .int 0, .long 0]))] H := hP
  have hD : va_D (nA a n) [(a, .inr (4, [.ref (r1), .null, .null, .null, .long 0, .int 0, .int 0, .int 0, .long 0]))] := hD
  refine lv_aload_n hx hb dPr_init_9 rfl (lv_at hl 0 rfl) ?_
  refine lv_aload_n hx hb dPr_init_10 rfl (lv_at hl 2 rfl) ?_
  refine va_putF (ci := 4) (v := .ref (r2)) (ty := .object "DrumMachine$CardDeck") (C := RPr) (T := TPr) (N := 9) hx hb hts (fun w h => List.mem_cons_of_mem _ (inAPr w h)) tyPr tyPr_ok nmPr hown hK hP hD hS 0 rfl rfl 1 (by decide) (hts _ (List.mem_cons_of_mem _ wm1_111)) (fun _ h9 => h9) rfl hin2 rfl (by decide +kernel) rfl rfl (Nat.le_of_ble_eq_true rfl) dPr_init_11 (fun H locs hP hD hS => ?_)
  have hP : va_P D clA [(a, .inr (4, [.ref (r1), .ref (r2), .null, .null, .long 0, .int 0, .int 0, .int 0, .long 0]))] H := hP
  have hD : va_D (nA a n) [(a, .inr (4, [.ref (r1), .ref (r2), .null, .null, .long 0, .int 0, .int 0, .int 0, .long 0]))] := hD
  refine lv_aload_n hx hb dPr_init_14 rfl (lv_at hl 0 rfl) ?_
  refine lv_aload_n hx hb dPr_init_15 rfl (lv_at hl 3 rfl) ?_
  refine va_putF (ci := 4) (v := .ref (r3)) (ty := .object "DrumMachine$Punch") (C := RPr) (T := TPr) (N := 9) hx hb hts (fun w h => List.mem_cons_of_mem _ (inAPr w h)) tyPr tyPr_ok nmPr hown hK hP hD hS 0 rfl rfl 2 (by decide) (hts _ (List.mem_cons_of_mem _ wm1_112)) (fun _ h9 => h9) rfl hin2 rfl (by decide +kernel) rfl rfl (Nat.le_of_ble_eq_true rfl) dPr_init_16 (fun H locs hP hD hS => ?_)
  have hP : va_P D clA [(a, .inr (4, [.ref (r1), .ref (r2), .ref (r3), .null, .long 0, .int 0, .int 0, .int 0, .long 0]))] H := hP
  have hD : va_D (nA a n) [(a, .inr (4, [.ref (r1), .ref (r2), .ref (r3), .null, .long 0, .int 0, .int 0, .int 0, .long 0]))] := hD
  refine lv_aload_n hx hb dPr_init_19 rfl (lv_at hl 0 rfl) ?_
  refine w_size (fun hle => ?_)
  have hz : H.size = n := sz_0 hsz hle hS.1
  clear hle
  refine nw_O (ci := 5) (C := RAc) (T := TAc) (N := 4) tyAc (fs := [.long 0, .long 0, .int 0, .int 0]) hx hb hts (fun w h => List.mem_cons_of_mem _ (inAAc w h)) tyAc_ok hown (hts _ (List.mem_cons_of_mem _ wm1_91)) (hts _ (List.mem_cons_of_mem _ wm1_92)) (hts _ (List.mem_cons_of_mem _ wm1_7)) hK hP hD hS hA hz rfl (fun j hj => blAc j hj) (Nat.le_of_ble_eq_true rfl) (Nat.le_of_ble_eq_true rfl) dPr_init_20 (fun H hz hP hD hS => ?_)
  have hP : va_P D clA [(a, .inr (4, [.ref (r1), .ref (r2), .ref (r3), .null, .long 0, .int 0, .int 0, .int 0, .long 0])), (n, .inr (5, [.long 0, .long 0, .int 0, .int 0]))] H := hP
  have hD : va_D (nA a n) [(a, .inr (4, [.ref (r1), .ref (r2), .ref (r3), .null, .long 0, .int 0, .int 0, .int 0, .long 0])), (n, .inr (5, [.long 0, .long 0, .int 0, .int 0]))] := hD
  refine lv_dup hx hb dPr_init_23 rfl ?_
  refine w_size (fun hle => ?_)
  have hz : H.size = n + 1 := sz_eq (j := 0) hsz hle (hP 1 _ rfl).lt
  clear hle
  have hPb := hP.sub (ws' := [(n, .inr (5, [.long 0, .long 0, .int 0, .int 0]))]) [1] rfl
  have hPo := hP.sub (ws' := [(a, .inr (4, [.ref (r1), .ref (r2), .ref (r3), .null, .long 0, .int 0, .int 0, .int 0, .long 0]))]) [0] rfl
  refine cl_ct (b := n) (h := n + 1) (W.runI (As := []) (rest := [.ref (n), .ref (a)]) ⟨hx, hb, hml, hown, hts⟩ (kAc_init l D cI cJ cZ (n) (n + 1) ) (cwI 0 hts (gI wm1_95) rfl rfl rfl (hts _ (List.mem_cons_of_mem _ wm1_7)) (hts _ (List.mem_cons_of_mem _ wm1_93)) (hts _ (List.mem_cons_of_mem _ wm1_94)) rfl (by decide +kernel) ⟨Nat.le_of_ble_eq_true rfl, Nat.le_of_ble_eq_true rfl⟩) (nC_pre hK hPb hz) rfl rfl hl.1 rfl (lv_room (Nat.le_of_ble_eq_true rfl)) dPr_init_24 ⟨Nat.le_of_ble_eq_true rfl, Nat.le_of_ble_eq_true rfl⟩) hS hz (.inr (Nat.le_refl n)) hA (fun H locs hz hP hk hS => ?_)
  have hP : va_P D clA [(a, .inr (4, [.ref (r1), .ref (r2), .ref (r3), .null, .long 0, .int 0, .int 0, .int 0, .long 0])), (n, .inr (5, [.long 0, .long 0, .int 0, .int 0]))] H := by
    have hP : va_P D clA [(n, .inr (5, [.long 0, .long 0, .int 0, .int 0]))] H := hP
    refine vP_join hPo (by assumption) hk ?_ hP
    simp only [List.mem_cons, List.not_mem_nil, or_false]
    rintro x rfl
    · exact Nat.ne_of_lt han
  have hD : va_D (nA a n) [(a, .inr (4, [.ref (r1), .ref (r2), .ref (r3), .null, .long 0, .int 0, .int 0, .int 0, .long 0])), (n, .inr (5, [.long 0, .long 0, .int 0, .int 0]))] := by
    refine vD_inc ⟨han, trivial⟩ ?_
    simp only [List.mem_cons, List.not_mem_nil, or_false]
    rintro x (rfl | rfl)
    · exact .inl rfl
    · exact .inr (Nat.le_refl n)
  refine va_putF (ci := 4) (v := .ref (n)) (ty := .object "DrumMachine$Accumulator") (C := RPr) (T := TPr) (N := 9) hx hb hts (fun w h => List.mem_cons_of_mem _ (inAPr w h)) tyPr tyPr_ok nmPr hown hK hP hD hS 0 rfl rfl 3 (by decide) (hts _ (List.mem_cons_of_mem _ wm1_113)) (fun _ h9 => h9) rfl hin2 rfl (by decide +kernel) rfl rfl (Nat.le_of_ble_eq_true rfl) dPr_init_27 (fun H locs hP hD hS => ?_)
  have hP : va_P D clA [(a, .inr (4, [.ref (r1), .ref (r2), .ref (r3), .ref (n), .long 0, .int 0, .int 0, .int 0, .long 0])), (n, .inr (5, [.long 0, .long 0, .int 0, .int 0]))] H := hP
  have hD : va_D (nA a n) [(a, .inr (4, [.ref (r1), .ref (r2), .ref (r3), .ref (n), .long 0, .int 0, .int 0, .int 0, .long 0])), (n, .inr (5, [.long 0, .long 0, .int 0, .int 0]))] := hD
  refine lv_aload_n hx hb dPr_init_30 rfl (lv_at hl 0 rfl) ?_
  refine lv_iconst (v := 0) hx hb dPr_init_31 (by decide) ?_
  refine va_put (ci := 4) (v := .int 0) (ty := .int) (C := RPr) (T := TPr) (N := 9) hx hb hts (fun w h => List.mem_cons_of_mem _ (inAPr w h)) tyPr tyPr_ok nmPr hown hK hP hD hS 0 rfl rfl 7 (by decide) (hts _ (List.mem_cons_of_mem _ wm1_117)) (fun _ h9 => h9) rfl (by decide +kernel) rfl rfl (Nat.le_of_ble_eq_true rfl) dPr_init_32 (fun H locs hP hD hS => ?_)
  have hP : va_P D clA [(a, .inr (4, [.ref (r1), .ref (r2), .ref (r3), .ref (n), .long 0, .int 0, .int 0, .int 0, .long 0])), (n, .inr (5, [.long 0, .long 0, .int 0, .int 0]))] H := hP
  have hD : va_D (nA a n) [(a, .inr (4, [.ref (r1), .ref (r2), .ref (r3), .ref (n), .long 0, .int 0, .int 0, .int 0, .long 0])), (n, .inr (5, [.long 0, .long 0, .int 0, .int 0]))] := hD
  refine w_size (fun hle => ?_)
  have hz : H.size = n + 1 := sz_eq (j := 0) hsz hle (hP 1 _ rfl).lt
  clear hle
  exact W.vret hx hb hr (fun t ht _ => ⟨rfl, by rw [ht]; exact hz, by rw [ht]; exact hP, hS.F ht⟩) hS.2.2 dPr_init_35

