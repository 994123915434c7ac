theorem dAs_init_0 : decode ccAs_init 0 = .ok (.aload_n 0, 1) := by decide +kernel
theorem dAs_init_1 : decode ccAs_init 1 = .ok (.invokespecial 1, 3) := by decide +kernel
theorem dAs_init_4 : decode ccAs_init 4 = .ok (.aload_n 0, 1) := by decide +kernel
theorem dAs_init_5 : decode ccAs_init 5 = .ok (.bipush 40, 2) := by decide +kernel
theorem dAs_init_7 : decode ccAs_init 7 = .ok (.newarray .int, 2) := by decide +kernel
theorem dAs_init_9 : decode ccAs_init 9 = .ok (.putfield 9, 3) := by decide +kernel
theorem dAs_init_12 : decode ccAs_init 12 = .ok (.aload_n 0, 1) := by decide +kernel
theorem dAs_init_13 : decode ccAs_init 13 = .ok (.bipush 40, 2) := by decide +kernel
theorem dAs_init_15 : decode ccAs_init 15 = .ok (.newarray .int, 2) := by decide +kernel
theorem dAs_init_17 : decode ccAs_init 17 = .ok (.putfield 13, 3) := by decide +kernel
theorem dAs_init_20 : decode ccAs_init 20 = .ok (.aload_n 0, 1) := by decide +kernel
theorem dAs_init_21 : decode ccAs_init 21 = .ok (.bipush 40, 2) := by decide +kernel
theorem dAs_init_23 : decode ccAs_init 23 = .ok (.newarray .int, 2) := by decide +kernel
theorem dAs_init_25 : decode ccAs_init 25 = .ok (.putfield 16, 3) := by decide +kernel
theorem dAs_init_28 : decode ccAs_init 28 = .ok (.aload_n 0, 1) := by decide +kernel
theorem dAs_init_29 : decode ccAs_init 29 = .ok (.bipush 40, 2) := by decide +kernel
theorem dAs_init_31 : decode ccAs_init 31 = .ok (.newarray .int, 2) := by decide +kernel
theorem dAs_init_33 : decode ccAs_init 33 = .ok (.putfield 19, 3) := by decide +kernel
theorem dAs_init_36 : decode ccAs_init 36 = .ok (.aload_n 0, 1) := by decide +kernel
theorem dAs_init_37 : decode ccAs_init 37 = .ok (.bipush 40, 2) := by decide +kernel
theorem dAs_init_39 : decode ccAs_init 39 = .ok (.newarray .int, 2) := by decide +kernel
theorem dAs_init_41 : decode ccAs_init 41 = .ok (.putfield 22, 3) := by decide +kernel
theorem dAs_init_44 : decode ccAs_init 44 = .ok (.aload_n 0, 1) := by decide +kernel
theorem dAs_init_45 : decode ccAs_init 45 = .ok (.bipush 40, 2) := by decide +kernel
theorem dAs_init_47 : decode ccAs_init 47 = .ok (.newarray .int, 2) := by decide +kernel
theorem dAs_init_49 : decode ccAs_init 49 = .ok (.putfield 25, 3) := by decide +kernel
theorem dAs_init_52 : decode ccAs_init 52 = .ok (.aload_n 0, 1) := by decide +kernel
theorem dAs_init_53 : decode ccAs_init 53 = .ok (.bipush 40, 2) := by decide +kernel
theorem dAs_init_55 : decode ccAs_init 55 = .ok (.newarray .int, 2) := by decide +kernel
theorem dAs_init_57 : decode ccAs_init 57 = .ok (.putfield 28, 3) := by decide +kernel
theorem dAs_init_60 : decode ccAs_init 60 = .ok (.aload_n 0, 1) := by decide +kernel
theorem dAs_init_61 : decode ccAs_init 61 = .ok (.bipush 20, 2) := by decide +kernel
theorem dAs_init_63 : decode ccAs_init 63 = .ok (.newarray .int, 2) := by decide +kernel
theorem dAs_init_65 : decode ccAs_init 65 = .ok (.putfield 31, 3) := by decide +kernel
theorem dAs_init_68 : decode ccAs_init 68 = .ok (.aload_n 0, 1) := by decide +kernel
theorem dAs_init_69 : decode ccAs_init 69 = .ok (.sipush 200, 3) := by decide +kernel
theorem dAs_init_72 : decode ccAs_init 72 = .ok (.newarray .boolean, 2) := by decide +kernel
theorem dAs_init_74 : decode ccAs_init 74 = .ok (.putfield 36, 3) := by decide +kernel
theorem dAs_init_77 : decode ccAs_init 77 = .ok (.aload_n 0, 1) := by decide +kernel
theorem dAs_init_78 : decode ccAs_init 78 = .ok (.sipush 200, 3) := by decide +kernel
theorem dAs_init_81 : decode ccAs_init 81 = .ok (.newarray .boolean, 2) := by decide +kernel
theorem dAs_init_83 : decode ccAs_init 83 = .ok (.putfield 40, 3) := by decide +kernel
theorem dAs_init_86 : decode ccAs_init 86 = .ok (.aload_n 0, 1) := by decide +kernel
theorem dAs_init_87 : decode ccAs_init 87 = .ok (.getfield 31, 3) := by decide +kernel
theorem dAs_init_90 : decode ccAs_init 90 = .ok (.iconst (-1), 1) := by decide +kernel
theorem dAs_init_91 : decode ccAs_init 91 = .ok (.invokestatic 43, 3) := by decide +kernel
theorem dAs_init_94 : decode ccAs_init 94 = .ok (.return_, 1) := by decide +kernel
set_option maxHeartbeats 4000000 in
set_option maxRecDepth 100000 in
theorem kAs_init (l : Launch) (D : va_G) (cI cJ cZ : ClassId) (a n : Nat)  : Met l yAs_init wsAs_init { frames := 1, cells := 10, slots := 700, locals := 23 } (va_Pc [.ref (a)] (nC D cI cJ cZ [(a, .inr (6, [.null, .null, .null, .null, .null, .null, .null, .null, .null, .null, .int 0]))] n)) (nQ D [(a, .inr (6, [.ref (n), .ref (n + 1), .ref (n + 2), .ref (n + 3), .ref (n + 4), .ref (n + 5), .ref (n + 6), .ref (n + 7), .ref (n + 8), .ref (n + 9), .int 0])), (n, .inl (cI, 40, .inl (fun _ => 0))), (n + 1, .inl (cI, 40, .inl (fun _ => 0))), (n + 2, .inl (cI, 40, .inl (fun _ => 0))), (n + 3, .inl (cI, 40, .inl (fun _ => 0))), (n + 4, .inl (cI, 40, .inl (fun _ => 0))), (n + 5, .inl (cI, 40, .inl (fun _ => 0))), (n + 6, .inl (cI, 40, .inl (fun _ => 0))), (n + 7, .inl (cI, 20, .inl (fAr_fillY (fun _ => 0) ((-1))))), (n + 8, .inl (cZ, 200, .inl (fun _ => bb false))), (n + 9, .inl (cZ, 200, .inl (fun _ => bb false)))] a n 10) 10 700 (nA a n) := by
  refine Met.ofW (cc := ccAs_init) (maxL := 1) (ret := none) (by decide +kernel) rfl ?_
  intro p e s m args below meth c s₁ B hml hv
  obtain ⟨rfl, hsz, hP, hK⟩ := hv
  have hx := B.exec
  have hb := B.bytes
  have hr := B.returns
  have hts := atoms_spec (ws := wsAs_init) B.pre
  have hown : s.vm.findClass RAs = some m.cls := findClass_of_methodNamed B.named
  have hlocks := B.notSynchronized
  have hin2 : meth.name = "<init>" := (name_of_methodNamed B.named B.method).1
  have han : a < n := by have h9 : a < s.heap.size := (hP 0 _ rfl).lt; omega
  have hA : ∀ q, s.heap.size ≤ q → nA a n q := fun q h => .inr (by omega)
  have hS : va_S (nA a n) s.heap s.heap [] := va_S.rf
  have hD : va_D (nA a n) [(a, .inr (6, [.null, .null, .null, .null, .null, .null, .null, .null, .null, .null, .int 0]))] := vD_inc trivial (by simp only [List.mem_cons, List.not_mem_nil, or_false]; rintro x rfl; exact .inl rfl)
  have hl := lv_entry ([.ref (a)]) (n := 1) (Nat.le_of_ble_eq_true rfl)
  rw [lg_entry_eq]
  generalize (lg_sl ([.ref (a)]) ++ List.replicate (1 - (lg_sl ([.ref (a)])).length) Slot.unset).toArray = ls at hl ⊢
  have hl : lv_has ls 1 [(0, .ref (a))] := hl
  refine lv_aload_n hx hb dAs_init_0 rfl (lv_at hl 0 rfl) ?_
  refine W.objInit hx hb hown (hts _ (List.mem_cons_of_mem _ wm1_143)) (hts _ (List.mem_cons_of_mem _ wm1_26)) (hts _ (List.mem_cons_of_mem _ wm1_27)) rfl (by rw [hml]; exact hl.1) rfl dAs_init_1 (Nat.le_of_ble_eq_true rfl) (Nat.le_of_ble_eq_true rfl) ?_
  refine W.eq (g2 := F0 m 4 ls []) rfl ?_
  refine lv_aload_n hx hb dAs_init_4 rfl (lv_at hl 0 rfl) ?_
  refine lv_bipush (v := 40) hx hb dAs_init_5 (by decide) ?_
  refine w_size (fun hle => ?_)
  have hz : s.heap.size = n := sz_0 hsz hle hS.1
  clear hle
  refine nw_I (N' := 40) hx hb (hts _ (List.mem_cons_of_mem _ wm1_50)) hK hP hD hS hA hz (by decide) (by decide) (by decide) (Nat.le_of_ble_eq_true rfl) (Nat.le_of_ble_eq_true rfl) dAs_init_7 (fun H hz hP hD hS => ?_)
  have hP : va_P D clA [(a, .inr (6, [.null, .null, .null, .null, .null, .null, .null, .null, .null, .null, .int 0])), (n, .inl (cI, 40, .inl (fun _ => 0)))] H := hP
  have hD : va_D (nA a n) [(a, .inr (6, [.null, .null, .null, .null, .null, .null, .null, .null, .null, .null, .int 0])), (n, .inl (cI, 40, .inl (fun _ => 0)))] := hD
  refine va_putF (ci := 6) (v := .ref (n)) (ty := .array .int) (C := RAs) (T := TAs) (N := 11) hx hb hts (fun w h => List.mem_cons_of_mem _ (inAAs w h)) tyAs tyAs_ok nmAs hown hK hP hD hS 0 rfl rfl 0 (by decide) (hts _ (List.mem_cons_of_mem _ wm1_145)) (fun _ h9 => h9) rfl hin2 rfl (by decide +kernel) rfl rfl (Nat.le_of_ble_eq_true rfl) dAs_init_9 (fun H locs hP hD hS => ?_)
  have hP : va_P D clA [(a, .inr (6, [.ref (n), .null, .null, .null, .null, .null, .null, .null, .null, .null, .int 0])), (n, .inl (cI, 40, .inl (fun _ => 0)))] H := hP
  have hD : va_D (nA a n) [(a, .inr (6, [.ref (n), .null, .null, .null, .null, .null, .null, .null, .null, .null, .int 0])), (n, .inl (cI, 40, .inl (fun _ => 0)))] := hD
  refine lv_aload_n hx hb dAs_init_12 rfl (lv_at hl 0 rfl) ?_
  refine lv_bipush (v := 40) hx hb dAs_init_13 (by decide) ?_
  refine w_size (fun hle => ?_)
  have hz : H.size = n + 1 := sz_eq (j := 0) hsz hle (hP 1 _ rfl).lt
  clear hle
  refine nw_I (N' := 40) hx hb (hts _ (List.mem_cons_of_mem _ wm1_50)) hK hP hD hS hA hz (by decide) (by decide) (by decide) (Nat.le_of_ble_eq_true rfl) (Nat.le_of_ble_eq_true rfl) dAs_init_15 (fun H hz hP hD hS => ?_)
  have hP : va_P D clA [(a, .inr (6, [.ref (n), .null, .null, .null, .null, .null, .null, .null, .null, .null, .int 0])), (n, .inl (cI, 40, .inl (fun _ => 0))), (n + 1, .inl (cI, 40, .inl (fun _ => 0)))] H := hP
  have hD : va_D (nA a n) [(a, .inr (6, [.ref (n), .null, .null, .null, .null, .null, .null, .null, .null, .null, .int 0])), (n, .inl (cI, 40, .inl (fun _ => 0))), (n + 1, .inl (cI, 40, .inl (fun _ => 0)))] := hD
  refine va_putF (ci := 6) (v := .ref (n + 1)) (ty := .array .int) (C := RAs) (T := TAs) (N := 11) hx hb hts (fun w h => List.mem_cons_of_mem _ (inAAs w h)) tyAs tyAs_ok nmAs hown hK hP hD hS 0 rfl rfl 1 (by decide) (hts _ (List.mem_cons_of_mem _ wm1_146)) (fun _ h9 => h9) rfl hin2 rfl (by decide +kernel) rfl rfl (Nat.le_of_ble_eq_true rfl) dAs_init_17 (fun H locs hP hD hS => ?_)
  have hP : va_P D clA [(a, .inr (6, [.ref (n), .ref (n + 1), .null, .null, .null, .null, .null, .null, .null, .null, .int 0])), (n, .inl (cI, 40, .inl (fun _ => 0))), (n + 1, .inl (cI, 40, .inl (fun _ => 0)))] H := hP
  have hD : va_D (nA a n) [(a, .inr (6, [.ref (n), .ref (n + 1), .null, .null, .null, .null, .null, .null, .null, .null, .int 0])), (n, .inl (cI, 40, .inl (fun _ => 0))), (n + 1, .inl (cI, 40, .inl (fun _ => 0)))] := hD
  refine lv_aload_n hx hb dAs_init_20 rfl (lv_at hl 0 rfl) ?_
  refine lv_bipush (v := 40) hx hb dAs_init_21 (by decide) ?_
  refine w_size (fun hle => ?_)
  have hz : H.size = n + 2 := sz_eq (j := 1) hsz hle (hP 2 _ rfl).lt
  clear hle
  refine nw_I (N' := 40) hx hb (hts _ (List.mem_cons_of_mem _ wm1_50)) hK hP hD hS hA hz (by decide) (by decide) (by decide) (Nat.le_of_ble_eq_true rfl) (Nat.le_of_ble_eq_true rfl) dAs_init_23 (fun H hz hP hD hS => ?_)
  have hP : va_P D clA [(a, .inr (6, [.ref (n), .ref (n + 1), .null, .null, .null, .null, .null, .null, .null, .null, .int 0])), (n, .inl (cI, 40, .inl (fun _ => 0))), (n + 1, .inl (cI, 40, .inl (fun _ => 0))), (n + 2, .inl (cI, 40, .inl (fun _ => 0)))] H := hP
  have hD : va_D (nA a n) [(a, .inr (6, [.ref (n), .ref (n + 1), .null, .null, .null, .null, .null, .null, .null, .null, .int 0])), (n, .inl (cI, 40, .inl (fun _ => 0))), (n + 1, .inl (cI, 40, .inl (fun _ => 0))), (n + 2, .inl (cI, 40, .inl (fun _ => 0)))] := hD
  refine va_putF (ci := 6) (v := .ref (n + 2)) (ty := .array .int) (C := RAs) (T := TAs) (N := 11) hx hb hts (fun w h => List.mem_cons_of_mem _ (inAAs w h)) tyAs tyAs_ok nmAs hown hK hP hD hS 0 rfl rfl 2 (by decide) (hts _ (List.mem_cons_of_mem _ wm1_147)) (fun _ h9 => h9) rfl hin2 rfl (by decide +kernel) rfl rfl (Nat.le_of_ble_eq_true rfl) dAs_init_25 (fun H locs hP hD hS => ?_)
  have hP : va_P D clA [(a, .inr (6, [.ref (n), .ref (n + 1), .ref (n + 2), .null, .null, .null, .null, .null, .null, .null, .int 0])), (n, .inl (cI, 40, .inl (fun _ => 0))), (n + 1, .inl (cI, 40, .inl (fun _ => 0))), (n + 2, .inl (cI, 40, .inl (fun _ => 0)))] H := hP
  have hD : va_D (nA a n) [(a, .inr (6, [.ref (n), .ref (n + 1), .ref (n + 2), .null, .null, .null, .null, .null, .null, .null, .int 0])), (n, .inl (cI, 40, .inl (fun _ => 0))), (n + 1, .inl (cI, 40, .inl (fun _ => 0))), (n + 2, .inl (cI, 40, .inl (fun _ => 0)))] := hD
  refine lv_aload_n hx hb dAs_init_28 rfl (lv_at hl 0 rfl) ?_
  refine lv_bipush (v := 40) hx hb dAs_init_29 (by decide) ?_
  refine w_size (fun hle => ?_)
  have hz : H.size = n + 3 := sz_eq (j := 2) hsz hle (hP 3 _ rfl).lt
  clear hle
  refine nw_I (N' := 40) hx hb (hts _ (List.mem_cons_of_mem _ wm1_50)) hK hP hD hS hA hz (by decide) (by decide) (by decide) (Nat.le_of_ble_eq_true rfl) (Nat.le_of_ble_eq_true rfl) dAs_init_31 (fun H hz hP hD hS => ?_)
  have hP : va_P D clA [(a, .inr (6, [.ref (n), .ref (n + 1), .ref (n + 2), .null, .null, .null, .null, .null, .null, .null, .int 0])), (n, .inl (cI, 40, .inl (fun _ => 0))), (n + 1, .inl (cI, 40, .inl (fun _ => 0))), (n + 2, .inl (cI, 40, .inl (fun _ => 0))), (n + 3, .inl (cI, 40, .inl (fun _ => 0)))] H := hP
  have hD : va_D (nA a n) [(a, .inr (6, [.ref (n), .ref (n + 1), .ref (n + 2), .null, .null, .null, .null, .null, .null, .null, .int 0])), (n, .inl (cI, 40, .inl (fun _ => 0))), (n + 1, .inl (cI, 40, .inl (fun _ => 0))), (n + 2, .inl (cI, 40, .inl (fun _ => 0))), (n + 3, .inl (cI, 40, .inl (fun _ => 0)))] := hD
  refine va_putF (ci := 6) (v := .ref (n + 3)) (ty := .array .int) (C := RAs) (T := TAs) (N := 11) hx hb hts (fun w h => List.mem_cons_of_mem _ (inAAs w h)) tyAs tyAs_ok nmAs hown hK hP hD hS 0 rfl rfl 3 (by decide) (hts _ (List.mem_cons_of_mem _ wm1_148)) (fun _ h9 => h9) rfl hin2 rfl (by decide +kernel) rfl rfl (Nat.le_of_ble_eq_true rfl) dAs_init_33 (fun H locs hP hD hS => ?_)
  have hP : va_P D clA [(a, .inr (6, [.ref (n), .ref (n + 1), .ref (n + 2), .ref (n + 3), .null, .null, .null, .null, .null, .null, .int 0])), (n, .inl (cI, 40, .inl (fun _ => 0))), (n + 1, .inl (cI, 40, .inl (fun _ => 0))), (n + 2, .inl (cI, 40, .inl (fun _ => 0))), (n + 3, .inl (cI, 40, .inl (fun _ => 0)))] H := hP
  have hD : va_D (nA a n) [(a, .inr (6, [.ref (n), .ref (n + 1), .ref (n + 2), .ref (n + 3), .null, .null, .null, .null, .null, .null, .int 0])), (n, .inl (cI, 40, .inl (fun _ => 0))), (n + 1, .inl (cI, 40, .inl (fun _ => 0))), (n + 2, .inl (cI, 40, .inl (fun _ => 0))), (n + 3, .inl (cI, 40, .inl (fun _ => 0)))] := hD
  refine lv_aload_n hx hb dAs_init_36 rfl (lv_at hl 0 rfl) ?_
  refine lv_bipush (v := 40) hx hb dAs_init_37 (by decide) ?_
  refine w_size (fun hle => ?_)
  have hz : H.size = n + 4 := sz_eq (j := 3) hsz hle (hP 4 _ rfl).lt
  clear hle
  refine nw_I (N' := 40) hx hb (hts _ (List.mem_cons_of_mem _ wm1_50)) hK hP hD hS hA hz (by decide) (by decide) (by decide) (Nat.le_of_ble_eq_true rfl) (Nat.le_of_ble_eq_true rfl) dAs_init_39 (fun H hz hP hD hS => ?_)
  have hP : va_P D clA [(a, .inr (6, [.ref (n), .ref (n + 1), .ref (n + 2), .ref (n + 3), .null, .null, .null, .null, .null, .null, .int 0])), (n, .inl (cI, 40, .inl (fun _ => 0))), (n + 1, .inl (cI, 40, .inl (fun _ => 0))), (n + 2, .inl (cI, 40, .inl (fun _ => 0))), (n + 3, .inl (cI, 40, .inl (fun _ => 0))), (n + 4, .inl (cI, 40, .inl (fun _ => 0)))] H := hP
  have hD : va_D (nA a n) [(a, .inr (6, [.ref (n), .ref (n + 1), .ref (n + 2), .ref (n + 3), .null, .null, .null, .null, .null, .null, .int 0])), (n, .inl (cI, 40, .inl (fun _ => 0))), (n + 1, .inl (cI, 40, .inl (fun _ => 0))), (n + 2, .inl (cI, 40, .inl (fun _ => 0))), (n + 3, .inl (cI, 40, .inl (fun _ => 0))), (n + 4, .inl (cI, 40, .inl (fun _ => 0)))] := hD
  refine va_putF (ci := 6) (v := .ref (n + 4)) (ty := .array .int) (C := RAs) (T := TAs) (N := 11) hx hb hts (fun w h => List.mem_cons_of_mem _ (inAAs w h)) tyAs tyAs_ok nmAs hown hK hP hD hS 0 rfl rfl 4 (by decide) (hts _ (List.mem_cons_of_mem _ wm1_149)) (fun _ h9 => h9) rfl hin2 rfl (by decide +kernel) rfl rfl (Nat.le_of_ble_eq_true rfl) dAs_init_41 (fun H locs hP hD hS => ?_)
  have hP : va_P D clA [(a, .inr (6, [.ref (n), .ref (n + 1), .ref (n + 2), .ref (n + 3), .ref (n + 4), .null, .null, .null, .null, .null, .int 0])), (n, .inl (cI, 40, .inl (fun _ => 0))), (n + 1, .inl (cI, 40, .inl (fun _ => 0))), (n + 2, .inl (cI, 40, .inl (fun _ => 0))), (n + 3, .inl (cI, 40, .inl (fun _ => 0))), (n + 4, .inl (cI, 40, .inl (fun _ => 0)))] H := hP
  have hD : va_D (nA a n) [(a, .inr (6, [.ref (n), .ref (n + 1), .ref (n + 2), .ref (n + 3), .ref (n + 4), .null, .null, .null, .null, .null, .int 0])), (n, .inl (cI, 40, .inl (fun _ => 0))), (n + 1, .inl (cI, 40, .inl (fun _ => 0))), (n + 2, .inl (cI, 40, .inl (fun _ => 0))), (n + 3, .inl (cI, 40, .inl (fun _ => 0))), (n + 4, .inl (cI, 40, .inl (fun _ => 0)))] := hD
  refine lv_aload_n hx hb dAs_init_44 rfl (lv_at hl 0 rfl) ?_
  refine lv_bipush (v := 40) hx hb dAs_init_45 (by decide) ?_
  refine w_size (fun hle => ?_)
  have hz : H.size = n + 5 := sz_eq (j := 4) hsz hle (hP 5 _ rfl).lt
  clear hle
  refine nw_I (N' := 40) hx hb (hts _ (List.mem_cons_of_mem _ wm1_50)) hK hP hD hS hA hz (by decide) (by decide) (by decide) (Nat.le_of_ble_eq_true rfl) (Nat.le_of_ble_eq_true rfl) dAs_init_47 (fun H hz hP hD hS => ?_)
  have hP : va_P D clA [(a, .inr (6, [.ref (n), .ref (n + 1), .ref (n + 2), .ref (n + 3), .ref (n + 4), .null, .null, .null, .null, .null, .int 0])), (n, .inl (cI, 40, .inl (fun _ => 0))), (n + 1, .inl (cI, 40, .inl (fun _ => 0))), (n + 2, .inl (cI, 40, .inl (fun _ => 0))), (n + 3, .inl (cI, 40, .inl (fun _ => 0))), (n + 4, .inl (cI, 40, .inl (fun _ => 0))), (n + 5, .inl (cI, 40, .inl (fun _ => 0)))] H := hP
  have hD : va_D (nA a n) [(a, .inr (6, [.ref (n), .ref (n + 1), .ref (n + 2), .ref (n + 3), .ref (n + 4), .null, .null, .null, .null, .null, .int 0])), (n, .inl (cI, 40, .inl (fun _ => 0))), (n + 1, .inl (cI, 40, .inl (fun _ => 0))), (n + 2, .inl (cI, 40, .inl (fun _ => 0))), (n + 3, .inl (cI, 40, .inl (fun _ => 0))), (n + 4, .inl (cI, 40, .inl (fun _ => 0))), (n + 5, .inl (cI, 40, .inl (fun _ => 0)))] := hD
  refine va_putF (ci := 6) (v := .ref (n + 5)) (ty := .array .int) (C := RAs) (T := TAs) (N := 11) hx hb hts (fun w h => List.mem_cons_of_mem _ (inAAs w h)) tyAs tyAs_ok nmAs hown hK hP hD hS 0 rfl rfl 5 (by decide) (hts _ (List.mem_cons_of_mem _ wm1_150)) (fun _ h9 => h9) rfl hin2 rfl (by decide +kernel) rfl rfl (Nat.le_of_ble_eq_true rfl) dAs_init_49 (fun H locs hP hD hS => ?_)
  have hP : va_P D clA [(a, .inr (6, [.ref (n), .ref (n + 1), .ref (n + 2), .ref (n + 3), .ref (n + 4), .ref (n + 5), .null, .null, .null, .null, .int 0])), (n, .inl (cI, 40, .inl (fun _ => 0))), (n + 1, .inl (cI, 40, .inl (fun _ => 0))), (n + 2, .inl (cI, 40, .inl (fun _ => 0))), (n + 3, .inl (cI, 40, .inl (fun _ => 0))), (n + 4, .inl (cI, 40, .inl (fun _ => 0))), (n + 5, .inl (cI, 40, .inl (fun _ => 0)))] H := hP
  have hD : va_D (nA a n) [(a, .inr (6, [.ref (n), .ref (n + 1), .ref (n + 2), .ref (n + 3), .ref (n + 4), .ref (n + 5), .null, .null, .null, .null, .int 0])), (n, .inl (cI, 40, .inl (fun _ => 0))), (n + 1, .inl (cI, 40, .inl (fun _ => 0))), (n + 2, .inl (cI, 40, .inl (fun _ => 0))), (n + 3, .inl (cI, 40, .inl (fun _ => 0))), (n + 4, .inl (cI, 40, .inl (fun _ => 0))), (n + 5, .inl (cI, 40, .inl (fun _ => 0)))] := hD
  refine lv_aload_n hx hb dAs_init_52 rfl (lv_at hl 0 rfl) ?_
  refine lv_bipush (v := 40) hx hb dAs_init_53 (by decide) ?_
  refine w_size (fun hle => ?_)
  have hz : H.size = n + 6 := sz_eq (j := 5) hsz hle (hP 6 _ rfl).lt
  clear hle
  refine nw_I (N' := 40) hx hb (hts _ (List.mem_cons_of_mem _ wm1_50)) hK hP hD hS hA hz (by decide) (by decide) (by decide) (Nat.le_of_ble_eq_true rfl) (Nat.le_of_ble_eq_true rfl) dAs_init_55 (fun H hz hP hD hS => ?_)
  have hP : va_P D clA [(a, .inr (6, [.ref (n), .ref (n + 1), .ref (n + 2), .ref (n + 3), .ref (n + 4), .ref (n + 5), .null, .null, .null, .null, .int 0])), (n, .inl (cI, 40, .inl (fun _ => 0))), (n + 1, .inl (cI, 40, .inl (fun _ => 0))), (n + 2, .inl (cI, 40, .inl (fun _ => 0))), (n + 3, .inl (cI, 40, .inl (fun _ => 0))), (n + 4, .inl (cI, 40, .inl (fun _ => 0))), (n + 5, .inl (cI, 40, .inl (fun _ => 0))), (n + 6, .inl (cI, 40, .inl (fun _ => 0)))] H := hP
  have hD : va_D (nA a n) [(a, .inr (6, [.ref (n), .ref (n + 1), .ref (n + 2), .ref (n + 3), .ref (n + 4), .ref (n + 5), .null, .null, .null, .null, .int 0])), (n, .inl (cI, 40, .inl (fun _ => 0))), (n + 1, .inl (cI, 40, .inl (fun _ => 0))), (n + 2, .inl (cI, 40, .inl (fun _ => 0))), (n + 3, .inl (cI, 40, .inl (fun _ => 0))), (n + 4, .inl (cI, 40, .inl (fun _ => 0))), (n + 5, .inl (cI, 40, .inl (fun _ => 0))), (n + 6, .inl (cI, 40, .inl (fun _ => 0)))] := hD
  refine va_putF (ci := 6) (v := .ref (n + 6)) (ty := .array .int) (C := RAs) (T := TAs) (N := 11) hx hb hts (fun w h => List.mem_cons_of_mem _ (inAAs w h)) tyAs tyAs_ok nmAs hown hK hP hD hS 0 rfl rfl 6 (by decide) (hts _ (List.mem_cons_of_mem _ wm1_151)) (fun _ h9 => h9) rfl hin2 rfl (by decide +kernel) rfl rfl (Nat.le_of_ble_eq_true rfl) dAs_init_57 (fun H locs hP hD hS => ?_)
  have hP : va_P D clA [(a, .inr (6, [.ref (n), .ref (n + 1), .ref (n + 2), .ref (n + 3), .ref (n + 4), .ref (n + 5), .ref (n + 6), .null, .null, .null, .int 0])), (n, .inl (cI, 40, .inl (fun _ => 0))), (n + 1, .inl (cI, 40, .inl (fun _ => 0))), (n + 2, .inl (cI, 40, .inl (fun _ => 0))), (n + 3, .inl (cI, 40, .inl (fun _ => 0))), (n + 4, .inl (cI, 40, .inl (fun _ => 0))), (n + 5, .inl (cI, 40, .inl (fun _ => 0))), (n + 6, .inl (cI, 40, .inl (fun _ => 0)))] H := hP
  have hD : va_D (nA a n) [(a, .inr (6, [.ref (n), .ref (n + 1), .ref (n + 2), .ref (n + 3), .ref (n + 4), .ref (n + 5), .ref (n + 6), .null, .null, .null, .int 0])), (n, .inl (cI, 40, .inl (fun _ => 0))), (n + 1, .inl (cI, 40, .inl (fun _ => 0))), (n + 2, .inl (cI, 40, .inl (fun _ => 0))), (n + 3, .inl (cI, 40, .inl (fun _ => 0))), (n + 4, .inl (cI, 40, .inl (fun _ => 0))), (n + 5, .inl (cI, 40, .inl (fun _ => 0))), (n + 6, .inl (cI, 40, .inl (fun _ => 0)))] := hD
  refine lv_aload_n hx hb dAs_init_60 rfl (lv_at hl 0 rfl) ?_
  refine lv_bipush (v := 20) hx hb dAs_init_61 (by decide) ?_
  refine w_size (fun hle => ?_)
  have hz : H.size = n + 7 := sz_eq (j := 6) hsz hle (hP 7 _ rfl).lt
  clear hle
  refine nw_I (N' := 20) hx hb (hts _ (List.mem_cons_of_mem _ wm1_50)) hK hP hD hS hA hz (by decide) (by decide) (by decide) (Nat.le_of_ble_eq_true rfl) (Nat.le_of_ble_eq_true rfl) dAs_init_63 (fun H hz hP hD hS => ?_)
  have hP : va_P D clA [(a, .inr (6, [.ref (n), .ref (n + 1), .ref (n + 2), .ref (n + 3), .ref (n + 4), .ref (n + 5), .ref (n + 6), .null, .null, .null, .int 0])), (n, .inl (cI, 40, .inl (fun _ => 0))), (n + 1, .inl (cI, 40, .inl (fun _ => 0))), (n + 2, .inl (cI, 40, .inl (fun _ => 0))), (n + 3, .inl (cI, 40, .inl (fun _ => 0))), (n + 4, .inl (cI, 40, .inl (fun _ => 0))), (n + 5, .inl (cI, 40, .inl (fun _ => 0))), (n + 6, .inl (cI, 40, .inl (fun _ => 0))), (n + 7, .inl (cI, 20, .inl (fun _ => 0)))] H := hP
  have hD : va_D (nA a n) [(a, .inr (6, [.ref (n), .ref (n + 1), .ref (n + 2), .ref (n + 3), .ref (n + 4), .ref (n + 5), .ref (n + 6), .null, .null, .null, .int 0])), (n, .inl (cI, 40, .inl (fun _ => 0))), (n + 1, .inl (cI, 40, .inl (fun _ => 0))), (n + 2, .inl (cI, 40, .inl (fun _ => 0))), (n + 3, .inl (cI, 40, .inl (fun _ => 0))), (n + 4, .inl (cI, 40, .inl (fun _ => 0))), (n + 5, .inl (cI, 40, .inl (fun _ => 0))), (n + 6, .inl (cI, 40, .inl (fun _ => 0))), (n + 7, .inl (cI, 20, .inl (fun _ => 0)))] := hD
  refine va_putF (ci := 6) (v := .ref (n + 7)) (ty := .array .int) (C := RAs) (T := TAs) (N := 11) hx hb hts (fun w h => List.mem_cons_of_mem _ (inAAs w h)) tyAs tyAs_ok nmAs hown hK hP hD hS 0 rfl rfl 7 (by decide) (hts _ (List.mem_cons_of_mem _ wm1_152)) (fun _ h9 => h9) rfl hin2 rfl (by decide +kernel) rfl rfl (Nat.le_of_ble_eq_true rfl) dAs_init_65 (fun H locs hP hD hS => ?_)
  have hP : va_P D clA [(a, .inr (6, [.ref (n), .ref (n + 1), .ref (n + 2), .ref (n + 3), .ref (n + 4), .ref (n + 5), .ref (n + 6), .ref (n + 7), .null, .null, .int 0])), (n, .inl (cI, 40, .inl (fun _ => 0))), (n + 1, .inl (cI, 40, .inl (fun _ => 0))), (n + 2, .inl (cI, 40, .inl (fun _ => 0))), (n + 3, .inl (cI, 40, .inl (fun _ => 0))), (n + 4, .inl (cI, 40, .inl (fun _ => 0))), (n + 5, .inl (cI, 40, .inl (fun _ => 0))), (n + 6, .inl (cI, 40, .inl (fun _ => 0))), (n + 7, .inl (cI, 20, .inl (fun _ => 0)))] H := hP
  have hD : va_D (nA a n) [(a, .inr (6, [.ref (n), .ref (n + 1), .ref (n + 2), .ref (n + 3), .ref (n + 4), .ref (n + 5), .ref (n + 6), .ref (n + 7), .null, .null, .int 0])), (n, .inl (cI, 40, .inl (fun _ => 0))), (n + 1, .inl (cI, 40, .inl (fun _ => 0))), (n + 2, .inl (cI, 40, .inl (fun _ => 0))), (n + 3, .inl (cI, 40, .inl (fun _ => 0))), (n + 4, .inl (cI, 40, .inl (fun _ => 0))), (n + 5, .inl (cI, 40, .inl (fun _ => 0))), (n + 6, .inl (cI, 40, .inl (fun _ => 0))), (n + 7, .inl (cI, 20, .inl (fun _ => 0)))] := hD
  refine lv_aload_n hx hb dAs_init_68 rfl (lv_at hl 0 rfl) ?_
  refine lv_sipush (v := 200) hx hb dAs_init_69 (by decide) ?_
  refine w_size (fun hle => ?_)
  have hz : H.size = n + 8 := sz_eq (j := 7) hsz hle (hP 8 _ rfl).lt
  clear hle
  refine nw_Z (N' := 200) hx hb (hts _ (List.mem_cons_of_mem _ wm1_52)) hK hP hD hS hA hz (by decide) (by decide) (by decide) (Nat.le_of_ble_eq_true rfl) (Nat.le_of_ble_eq_true rfl) dAs_init_72 (fun H hz hP hD hS => ?_)
  have hP : va_P D clA [(a, .inr (6, [.ref (n), .ref (n + 1), .ref (n + 2), .ref (n + 3), .ref (n + 4), .ref (n + 5), .ref (n + 6), .ref (n + 7), .null, .null, .int 0])), (n, .inl (cI, 40, .inl (fun _ => 0))), (n + 1, .inl (cI, 40, .inl (fun _ => 0))), (n + 2, .inl (cI, 40, .inl (fun _ => 0))), (n + 3, .inl (cI, 40, .inl (fun _ => 0))), (n + 4, .inl (cI, 40, .inl (fun _ => 0))), (n + 5, .inl (cI, 40, .inl (fun _ => 0))), (n + 6, .inl (cI, 40, .inl (fun _ => 0))), (n + 7, .inl (cI, 20, .inl (fun _ => 0))), (n + 8, .inl (cZ, 200, .inl (fun _ => bb false)))] H := hP
  have hD : va_D (nA a n) [(a, .inr (6, [.ref (n), .ref (n + 1), .ref (n + 2), .ref (n + 3), .ref (n + 4), .ref (n + 5), .ref (n + 6), .ref (n + 7), .null, .null, .int 0])), (n, .inl (cI, 40, .inl (fun _ => 0))), (n + 1, .inl (cI, 40, .inl (fun _ => 0))), (n + 2, .inl (cI, 40, .inl (fun _ => 0))), (n + 3, .inl (cI, 40, .inl (fun _ => 0))), (n + 4, .inl (cI, 40, .inl (fun _ => 0))), (n + 5, .inl (cI, 40, .inl (fun _ => 0))), (n + 6, .inl (cI, 40, .inl (fun _ => 0))), (n + 7, .inl (cI, 20, .inl (fun _ => 0))), (n + 8, .inl (cZ, 200, .inl (fun _ => bb false)))] := hD
  refine va_putF (ci := 6) (v := .ref (n + 8)) (ty := .array .boolean) (C := RAs) (T := TAs) (N := 11) hx hb hts (fun w h => List.mem_cons_of_mem _ (inAAs w h)) tyAs tyAs_ok nmAs hown hK hP hD hS 0 rfl rfl 8 (by decide) (hts _ (List.mem_cons_of_mem _ wm1_153)) (fun _ h9 => h9) rfl hin2 rfl (by decide +kernel) rfl rfl (Nat.le_of_ble_eq_true rfl) dAs_init_74 (fun H locs hP hD hS => ?_)
  have hP : va_P D clA [(a, .inr (6, [.ref (n), .ref (n + 1), .ref (n + 2), .ref (n + 3), .ref (n + 4), .ref (n + 5), .ref (n + 6), .ref (n + 7), .ref (n + 8), .null, .int 0])), (n, .inl (cI, 40, .inl (fun _ => 0))), (n + 1, .inl (cI, 40, .inl (fun _ => 0))), (n + 2, .inl (cI, 40, .inl (fun _ => 0))), (n + 3, .inl (cI, 40, .inl (fun _ => 0))), (n + 4, .inl (cI, 40, .inl (fun _ => 0))), (n + 5, .inl (cI, 40, .inl (fun _ => 0))), (n + 6, .inl (cI, 40, .inl (fun _ => 0))), (n + 7, .inl (cI, 20, .inl (fun _ => 0))), (n + 8, .inl (cZ, 200, .inl (fun _ => bb false)))] H := hP
  have hD : va_D (nA a n) [(a, .inr (6, [.ref (n), .ref (n + 1), .ref (n + 2), .ref (n + 3), .ref (n + 4), .ref (n + 5), .ref (n + 6), .ref (n + 7), .ref (n + 8), .null, .int 0])), (n, .inl (cI, 40, .inl (fun _ => 0))), (n + 1, .inl (cI, 40, .inl (fun _ => 0))), (n + 2, .inl (cI, 40, .inl (fun _ => 0))), (n + 3, .inl (cI, 40, .inl (fun _ => 0))), (n + 4, .inl (cI, 40, .inl (fun _ => 0))), (n + 5, .inl (cI, 40, .inl (fun _ => 0))), (n + 6, .inl (cI, 40, .inl (fun _ => 0))), (n + 7, .inl (cI, 20, .inl (fun _ => 0))), (n + 8, .inl (cZ, 200, .inl (fun _ => bb false)))] := hD
  refine lv_aload_n hx hb dAs_init_77 rfl (lv_at hl 0 rfl) ?_
  refine lv_sipush (v := 200) hx hb dAs_init_78 (by decide) ?_
  refine w_size (fun hle => ?_)
  have hz : H.size = n + 9 := sz_eq (j := 8) hsz hle (hP 9 _ rfl).lt
  clear hle
  refine nw_Z (N' := 200) hx hb (hts _ (List.mem_cons_of_mem _ wm1_52)) hK hP hD hS hA hz (by decide) (by decide) (by decide) (Nat.le_of_ble_eq_true rfl) (Nat.le_of_ble_eq_true rfl) dAs_init_81 (fun H hz hP hD hS => ?_)
  have hP : va_P D clA [(a, .inr (6, [.ref (n), .ref (n + 1), .ref (n + 2), .ref (n + 3), .ref (n + 4), .ref (n + 5), .ref (n + 6), .ref (n + 7), .ref (n + 8), .null, .int 0])), (n, .inl (cI, 40, .inl (fun _ => 0))), (n + 1, .inl (cI, 40, .inl (fun _ => 0))), (n + 2, .inl (cI, 40, .inl (fun _ => 0))), (n + 3, .inl (cI, 40, .inl (fun _ => 0))), (n + 4, .inl (cI, 40, .inl (fun _ => 0))), (n + 5, .inl (cI, 40, .inl (fun _ => 0))), (n + 6, .inl (cI, 40, .inl (fun _ => 0))), (n + 7, .inl (cI, 20, .inl (fun _ => 0))), (n + 8, .inl (cZ, 200, .inl (fun _ => bb false))), (n + 9, .inl (cZ, 200, .inl (fun _ => bb false)))] H := hP
  have hD : va_D (nA a n) [(a, .inr (6, [.ref (n), .ref (n + 1), .ref (n + 2), .ref (n + 3), .ref (n + 4), .ref (n + 5), .ref (n + 6), .ref (n + 7), .ref (n + 8), .null, .int 0])), (n, .inl (cI, 40, .inl (fun _ => 0))), (n + 1, .inl (cI, 40, .inl (fun _ => 0))), (n + 2, .inl (cI, 40, .inl (fun _ => 0))), (n + 3, .inl (cI, 40, .inl (fun _ => 0))), (n + 4, .inl (cI, 40, .inl (fun _ => 0))), (n + 5, .inl (cI, 40, .inl (fun _ => 0))), (n + 6, .inl (cI, 40, .inl (fun _ => 0))), (n + 7, .inl (cI, 20, .inl (fun _ => 0))), (n + 8, .inl (cZ, 200, .inl (fun _ => bb false))), (n + 9, .inl (cZ, 200, .inl (fun _ => bb false)))] := hD
  refine va_putF (ci := 6) (v := .ref (n + 9)) (ty := .array .boolean) (C := RAs) (T := TAs) (N := 11) hx hb hts (fun w h => List.mem_cons_of_mem _ (inAAs w h)) tyAs tyAs_ok nmAs hown hK hP hD hS 0 rfl rfl 9 (by decide) (hts _ (List.mem_cons_of_mem _ wm1_154)) (fun _ h9 => h9) rfl hin2 rfl (by decide +kernel) rfl rfl (Nat.le_of_ble_eq_true rfl) dAs_init_83 (fun H locs hP hD hS => ?_)
  have hP : va_P D clA [(a, .inr (6, [.ref (n), .ref (n + 1), .ref (n + 2), .ref (n + 3), .ref (n + 4), .ref (n + 5), .ref (n + 6), .ref (n + 7), .ref (n + 8), .ref (n + 9), .int 0])), (n, .inl (cI, 40, .inl (fun _ => 0))), (n + 1, .inl (cI, 40, .inl (fun _ => 0))), (n + 2, .inl (cI, 40, .inl (fun _ => 0))), (n + 3, .inl (cI, 40, .inl (fun _ => 0))), (n + 4, .inl (cI, 40, .inl (fun _ => 0))), (n + 5, .inl (cI, 40, .inl (fun _ => 0))), (n + 6, .inl (cI, 40, .inl (fun _ => 0))), (n + 7, .inl (cI, 20, .inl (fun _ => 0))), (n + 8, .inl (cZ, 200, .inl (fun _ => bb false))), (n + 9, .inl (cZ, 200, .inl (fun _ => bb false)))] H := hP
  have hD : va_D (nA a n) [(a, .inr (6, [.ref (n), .ref (n + 1), .ref (n + 2), .ref (n + 3), .ref (n + 4), .ref (n + 5), .ref (n + 6), .ref (n + 7), .ref (n + 8), .ref (n + 9), .int 0])), (n, .inl (cI, 40, .inl (fun _ => 0))), (n + 1, .inl (cI, 40, .inl (fun _ => 0))), (n + 2, .inl (cI, 40, .inl (fun _ => 0))), (n + 3, .inl (cI, 40, .inl (fun _ => 0))), (n + 4, .inl (cI, 40, .inl (fun _ => 0))), (n + 5, .inl (cI, 40, .inl (fun _ => 0))), (n + 6, .inl (cI, 40, .inl (fun _ => 0))), (n + 7, .inl (cI, 20, .inl (fun _ => 0))), (n + 8, .inl (cZ, 200, .inl (fun _ => bb false))), (n + 9, .inl (cZ, 200, .inl (fun _ => bb false)))] := hD
  refine lv_aload_n hx hb dAs_init_86 rfl (lv_at hl 0 rfl) ?_
  refine va_get (ci := 6) (v := .ref (n + 7)) (C := RAs) (T := TAs) (N := 11) hx hb hts (fun w h => List.mem_cons_of_mem _ (inAAs w h)) hown hK hP 0 rfl rfl 7 (by decide) (hts _ (List.mem_cons_of_mem _ wm1_152)) (fun _ h => h) rfl dAs_init_87 ?_
  refine lv_iconst (v := (-1)) hx hb dAs_init_90 (by decide) ?_
  refine w_size (fun hle => ?_)
  have hz : H.size = n + 10 := sz_eq (j := 9) hsz hle (hP 10 _ rfl).lt
  clear hle
  have hPb : y_W D (fun _ => n + 7) cI cJ cZ (fun _ => 0) H := hP.sub (ws' := [(n + 7, .inl (cI, 20, .inl (fun _ => 0)))]) [8] rfl
  have hPo := hP.sub (ws' := [(a, .inr (6, [.ref (n), .ref (n + 1), .ref (n + 2), .ref (n + 3), .ref (n + 4), .ref (n + 5), .ref (n + 6), .ref (n + 7), .ref (n + 8), .ref (n + 9), .int 0])), (n, .inl (cI, 40, .inl (fun _ => 0))), (n + 1, .inl (cI, 40, .inl (fun _ => 0))), (n + 2, .inl (cI, 40, .inl (fun _ => 0))), (n + 3, .inl (cI, 40, .inl (fun _ => 0))), (n + 4, .inl (cI, 40, .inl (fun _ => 0))), (n + 5, .inl (cI, 40, .inl (fun _ => 0))), (n + 6, .inl (cI, 40, .inl (fun _ => 0))), (n + 8, .inl (cZ, 200, .inl (fun _ => bb false))), (n + 9, .inl (cZ, 200, .inl (fun _ => bb false)))]) [0, 1, 2, 3, 4, 5, 6, 7, 9, 10] rfl
  refine cl_w2 (W.runS (As := [.ref (n + 7), .int ((-1))]) (rest := []) ⟨hx, hb, hml, hown, hts⟩ (kAr_fillY l D (fun _ => n + 7) cI cJ cZ (fun i j hi hj _ => by omega) (fun _ => 0) ((-1))) (va_cwS 2 hts (gS wm1_144 wm1_38 wm1_3 wm1_39) rfl rfl rfl (by decide +kernel) ⟨Nat.le_of_ble_eq_true rfl, Nat.le_of_ble_eq_true rfl⟩) (y_preS hK hPb) rfl rfl hl.1 rfl (lv_room (Nat.le_of_ble_eq_true rfl)) dAs_init_91 ⟨Nat.le_of_ble_eq_true rfl, Nat.le_of_ble_eq_true rfl⟩) hS (fun q h => by obtain ⟨_, _, h⟩ := h; rw [h]; exact .inr (Nat.le_add_right n 7)) (fun q h => by obtain ⟨_, _, h⟩ := h; rw [h]; exact .inr (Nat.le_add_right n 7)) (fun H locs hP hk hS => ?_)
  have hP : va_P D clA [(a, .inr (6, [.ref (n), .ref (n + 1), .ref (n + 2), .ref (n + 3), .ref (n + 4), .ref (n + 5), .ref (n + 6), .ref (n + 7), .ref (n + 8), .ref (n + 9), .int 0])), (n, .inl (cI, 40, .inl (fun _ => 0))), (n + 1, .inl (cI, 40, .inl (fun _ => 0))), (n + 2, .inl (cI, 40, .inl (fun _ => 0))), (n + 3, .inl (cI, 40, .inl (fun _ => 0))), (n + 4, .inl (cI, 40, .inl (fun _ => 0))), (n + 5, .inl (cI, 40, .inl (fun _ => 0))), (n + 6, .inl (cI, 40, .inl (fun _ => 0))), (n + 7, .inl (cI, 20, .inl (fAr_fillY (fun _ => 0) ((-1))))), (n + 8, .inl (cZ, 200, .inl (fun _ => bb false))), (n + 9, .inl (cZ, 200, .inl (fun _ => bb false)))] H := by
    have hP : va_P D clA [(n + 7, .inl (cI, 20, .inl (fAr_fillY (fun _ => 0) ((-1)))))] H := hP
    have hJ := vP_join (b := n + 7) hPo (by assumption) (fun q h1 h2 => hk q (by rw [hz]; exact h1) (fun h => by obtain ⟨_, _, h⟩ := h; exact h2 h)) ?_ hP
    · exact hJ.sub [0, 1, 2, 3, 4, 5, 6, 7, 10, 8, 9] rfl
    simp only [List.mem_cons, List.not_mem_nil, or_false]
    rintro x (rfl | rfl | rfl | rfl | rfl | rfl | rfl | rfl | rfl | rfl)
    · exact an_a han
    · exact an_0 (k := 7) (by decide)
    · exact an_k (i := 1) (k := 7) (by decide)
    · exact an_k (i := 2) (k := 7) (by decide)
    · exact an_k (i := 3) (k := 7) (by decide)
    · exact an_k (i := 4) (k := 7) (by decide)
    · exact an_k (i := 5) (k := 7) (by decide)
    · exact an_k (i := 6) (k := 7) (by decide)
    · exact an_k (i := 8) (k := 7) (by decide)
    · exact an_k (i := 9) (k := 7) (by decide)
  refine w_size (fun hle => ?_)
  have hz : H.size = n + 10 := sz_eq (j := 9) hsz hle (hP 10 _ rfl).lt
  clear hle
  exact W.vret hx hb hr (fun t ht _ => ⟨rfl, by rw [ht]; exact hz, by rw [ht]; exact hP, hS.F ht⟩) hS.2.2 dAs_init_94
