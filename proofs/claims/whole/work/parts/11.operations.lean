theorem dOp_branchesOnEight_0 : decode ccOp_branchesOnEight 0 = .ok (.iload_n 0, 1) := by decide +kernel
theorem dOp_branchesOnEight_1 : decode ccOp_branchesOnEight 1 = .ok (.bipush 90, 2) := by decide +kernel
theorem dOp_branchesOnEight_3 : decode ccOp_branchesOnEight 3 = .ok (.if_icmp .lt 13, 3) := by decide +kernel
theorem dOp_branchesOnEight_6 : decode ccOp_branchesOnEight 6 = .ok (.iload_n 0, 1) := by decide +kernel
theorem dOp_branchesOnEight_7 : decode ccOp_branchesOnEight 7 = .ok (.bipush 99, 2) := by decide +kernel
theorem dOp_branchesOnEight_9 : decode ccOp_branchesOnEight 9 = .ok (.if_icmp .gt 7, 3) := by decide +kernel
theorem dOp_branchesOnEight_12 : decode ccOp_branchesOnEight 12 = .ok (.iconst 1, 1) := by decide +kernel
theorem dOp_branchesOnEight_13 : decode ccOp_branchesOnEight 13 = .ok (.goto 4, 3) := by decide +kernel
theorem dOp_branchesOnEight_16 : decode ccOp_branchesOnEight 16 = .ok (.iconst 0, 1) := by decide +kernel
theorem dOp_branchesOnEight_17 : decode ccOp_branchesOnEight 17 = .ok (.ireturn, 1) := by decide +kernel
def fOp_branchesOnEight (o : Int32) : Bool :=
  (if o < (90 : Int32) then false else (if (99 : Int32) < o then false else true))
set_option maxHeartbeats 4000000 in
set_option maxRecDepth 100000 in
theorem kOp_branchesOnEight (l : Launch) (o : Int32)  : Met l yOp_branchesOnEight wsOp_branchesOnEight { frames := 0, cells := 0, slots := 0, locals := 0 } (va_Pc [.int (o)] (fun _ => True)) (cQr (some (.int (bb (fOp_branchesOnEight o))))) 0 0 (fun _ => False) := by
  refine Met.ofW (cc := ccOp_branchesOnEight) (maxL := 1) (ret := (some .boolean)) (by decide +kernel) rfl ?_
  intro p e s m args below meth c s₁ B hml hv
  obtain ⟨rfl, -⟩ := hv
  have hx := B.exec
  have hb := B.bytes
  have hr := B.returns
  have hts := atoms_spec (ws := wsOp_branchesOnEight) B.pre
  have hown : s.vm.findClass ROp = some m.cls := findClass_of_methodNamed B.named
  have hlocks := B.notSynchronized
  have hl := lv_entry ([.int (o)]) (n := 1) (Nat.le_of_ble_eq_true rfl)
  rw [lg_entry_eq]
  generalize (lg_sl ([.int (o)]) ++ List.replicate (1 - (lg_sl ([.int (o)])).length) Slot.unset).toArray = ls at hl ⊢
  have hl : lv_has ls 1 [(0, .int (o))] := hl
  have hR := fOp_branchesOnEight.eq_1 o
  refine lv_iload_n hx hb dOp_branchesOnEight_0 rfl (lv_at hl 0 rfl) ?_
  refine lv_bipush (v := 90) hx hb dOp_branchesOnEight_1 (by decide) ?_
  refine lv_icmp_lt hx hb dOp_branchesOnEight_3 rfl (fun h3 => ?_) (fun h3 => ?_)
  · have hR := hR.trans (if_pos h3)
    refine lv_iconst (v := 0) hx hb dOp_branchesOnEight_16 (by decide) ?_
    exact W.zret hx hb hr rfl (fun t ht _ => ⟨by rw [hR]; first | done | rfl, ht⟩) (fun _ h => absurd h List.not_mem_nil) dOp_branchesOnEight_17
  · have hR := hR.trans (if_neg h3)
    refine lv_iload_n hx hb dOp_branchesOnEight_6 rfl (lv_at hl 0 rfl) ?_
    refine lv_bipush (v := 99) hx hb dOp_branchesOnEight_7 (by decide) ?_
    refine lv_icmp_gt hx hb dOp_branchesOnEight_9 rfl (fun h9 => ?_) (fun h9 => ?_)
    · have hR := hR.trans (if_pos h9)
      refine lv_iconst (v := 0) hx hb dOp_branchesOnEight_16 (by decide) ?_
      exact W.zret hx hb hr rfl (fun t ht _ => ⟨by rw [hR]; first | done | rfl, ht⟩) (fun _ h => absurd h List.not_mem_nil) dOp_branchesOnEight_17
    · have hR := hR.trans (if_neg h9)
      refine lv_iconst (v := 1) hx hb dOp_branchesOnEight_12 (by decide) ?_
      refine lv_goto hx hb dOp_branchesOnEight_13 rfl ?_
      exact W.zret hx hb hr rfl (fun t ht _ => ⟨by rw [hR]; first | done | rfl, ht⟩) (fun _ h => absurd h List.not_mem_nil) dOp_branchesOnEight_17
theorem dOp_kindOf_0 : decode ccOp_kindOf 0 = .ok (.iload_n 0, 1) := by decide +kernel
theorem dOp_kindOf_1 : decode ccOp_kindOf 1 = .ok (.tableswitch 368 0 84 #[355, 355, 368, 368, 368, 368, 368, 368, 368, 368, 361, 361, 368, 368, 363, 361, 361, 368, 368, 363, 365, 365, 365, 368, 365, 368, 368, 368, 368, 368, 357, 357, 368, 368, 368, 357, 368, 368, 368, 368, 368, 368, 368, 368, 359, 359, 359, 359, 368, 368, 368, 368, 368, 368, 368, 368, 368, 368, 368, 368, 361, 361, 368, 368, 368, 361, 361, 361, 368, 363, 365, 363, 368, 368, 368, 368, 368, 368, 368, 368, 368, 368, 368, 368, 363], 355) := by decide +kernel
theorem dOp_kindOf_356 : decode ccOp_kindOf 356 = .ok (.iconst 1, 1) := by decide +kernel
theorem dOp_kindOf_357 : decode ccOp_kindOf 357 = .ok (.ireturn, 1) := by decide +kernel
theorem dOp_kindOf_358 : decode ccOp_kindOf 358 = .ok (.iconst 2, 1) := by decide +kernel
theorem dOp_kindOf_359 : decode ccOp_kindOf 359 = .ok (.ireturn, 1) := by decide +kernel
theorem dOp_kindOf_360 : decode ccOp_kindOf 360 = .ok (.iconst 3, 1) := by decide +kernel
theorem dOp_kindOf_361 : decode ccOp_kindOf 361 = .ok (.ireturn, 1) := by decide +kernel
theorem dOp_kindOf_362 : decode ccOp_kindOf 362 = .ok (.iconst 4, 1) := by decide +kernel
theorem dOp_kindOf_363 : decode ccOp_kindOf 363 = .ok (.ireturn, 1) := by decide +kernel
theorem dOp_kindOf_364 : decode ccOp_kindOf 364 = .ok (.iconst 5, 1) := by decide +kernel
theorem dOp_kindOf_365 : decode ccOp_kindOf 365 = .ok (.ireturn, 1) := by decide +kernel
theorem dOp_kindOf_366 : decode ccOp_kindOf 366 = .ok (.bipush 6, 2) := by decide +kernel
theorem dOp_kindOf_368 : decode ccOp_kindOf 368 = .ok (.ireturn, 1) := by decide +kernel
theorem dOp_kindOf_369 : decode ccOp_kindOf 369 = .ok (.iload_n 0, 1) := by decide +kernel
theorem dOp_kindOf_370 : decode ccOp_kindOf 370 = .ok (.invokestatic 9, 3) := by decide +kernel
theorem dOp_kindOf_373 : decode ccOp_kindOf 373 = .ok (.ifCond .eq 7, 3) := by decide +kernel
theorem dOp_kindOf_376 : decode ccOp_kindOf 376 = .ok (.iconst 3, 1) := by decide +kernel
theorem dOp_kindOf_377 : decode ccOp_kindOf 377 = .ok (.goto 4, 3) := by decide +kernel
theorem dOp_kindOf_380 : decode ccOp_kindOf 380 = .ok (.iconst 0, 1) := by decide +kernel
theorem dOp_kindOf_381 : decode ccOp_kindOf 381 = .ok (.ireturn, 1) := by decide +kernel
set_option maxRecDepth 20000 in
theorem hole_fOp_kindOf_1 : ∀ i : Fin 85, i.val ∈ ([0, 1, 10, 11, 14, 15, 16, 19, 20, 21, 22, 24, 30, 31, 35, 44, 45, 46, 47, 60, 61, 65, 66, 67, 69, 70, 71, 84] : List Nat) ∨ (#[355, 355, 368, 368, 368, 368, 368, 368, 368, 368, 361, 361, 368, 368, 363, 361, 361, 368, 368, 363, 365, 365, 365, 368, 365, 368, 368, 368, 368, 368, 357, 357, 368, 368, 368, 357, 368, 368, 368, 368, 368, 368, 368, 368, 359, 359, 359, 359, 368, 368, 368, 368, 368, 368, 368, 368, 368, 368, 368, 368, 361, 361, 368, 368, 368, 361, 361, 361, 368, 363, 365, 363, 368, 368, 368, 368, 368, 368, 368, 368, 368, 368, 368, 368, 363] : Array Int)[i.val]? = some 368 := by decide
def fOp_kindOf (o : Int32) : Int32 :=
  (if o = 0 then 1 else (if o = 1 then 1 else (if o = 10 then 4 else (if o = 11 then 4 else (if o = 14 then 5 else (if o = 15 then 4 else (if o = 16 then 4 else (if o = 19 then 5 else (if o = 20 then 6 else (if o = 21 then 6 else (if o = 22 then 6 else (if o = 24 then 6 else (if o = 30 then 2 else (if o = 31 then 2 else (if o = 35 then 2 else (if o = 44 then 3 else (if o = 45 then 3 else (if o = 46 then 3 else (if o = 47 then 3 else (if o = 60 then 4 else (if o = 61 then 4 else (if o = 65 then 4 else (if o = 66 then 4 else (if o = 67 then 4 else (if o = 69 then 5 else (if o = 70 then 6 else (if o = 71 then 5 else (if o = 84 then 5 else (if (fOp_branchesOnEight o) = true then 3 else 0)))))))))))))))))))))))))))))
set_option maxHeartbeats 4000000 in
set_option maxRecDepth 100000 in
theorem kOp_kindOf (l : Launch) (o : Int32)  : Met l yOp_kindOf wsOp_kindOf { frames := 1, cells := 0, slots := 0, locals := 20 } (va_Pc [.int (o)] (fun _ => True)) (cQr (some (.int (fOp_kindOf o)))) 0 0 (fun _ => False) := by
  refine Met.ofW (cc := ccOp_kindOf) (maxL := 1) (ret := (some .int)) (by decide +kernel) rfl ?_
  intro p e s m args below meth c s₁ B hml hv
  obtain ⟨rfl, -⟩ := hv
  have hx := B.exec
  have hb := B.bytes
  have hr := B.returns
  have hts := atoms_spec (ws := wsOp_kindOf) B.pre
  have hown : s.vm.findClass ROp = some m.cls := findClass_of_methodNamed B.named
  have hlocks := B.notSynchronized
  have hl := lv_entry ([.int (o)]) (n := 1) (Nat.le_of_ble_eq_true rfl)
  rw [lg_entry_eq]
  generalize (lg_sl ([.int (o)]) ++ List.replicate (1 - (lg_sl ([.int (o)])).length) Slot.unset).toArray = ls at hl ⊢
  have hl : lv_has ls 1 [(0, .int (o))] := hl
  have hR := fOp_kindOf.eq_1 o
  refine lv_iload_n hx hb dOp_kindOf_0 rfl (lv_at hl 0 rfl) ?_
  by_cases h1_0 : o = 0
  · have hR := hR.trans (if_pos h1_0)
    refine lv_tableIn (off := 355) (tgt := 356) hx hb dOp_kindOf_1 (by rw [h1_0]; decide) (by rw [h1_0]; decide) (by rw [h1_0]; decide) rfl ?_
    refine lv_iconst (v := 1) hx hb dOp_kindOf_356 (by decide) ?_
    exact W.iret hx hb hr (fun t ht _ => ⟨by rw [hR]; first | done | rfl, ht⟩) (fun _ h => absurd h List.not_mem_nil) dOp_kindOf_357
  · have hR := hR.trans (if_neg h1_0)
    by_cases h1_1 : o = 1
    · have hR := hR.trans (if_pos h1_1)
      refine lv_tableIn (off := 355) (tgt := 356) hx hb dOp_kindOf_1 (by rw [h1_1]; decide) (by rw [h1_1]; decide) (by rw [h1_1]; decide) rfl ?_
      refine lv_iconst (v := 1) hx hb dOp_kindOf_356 (by decide) ?_
      exact W.iret hx hb hr (fun t ht _ => ⟨by rw [hR]; first | done | rfl, ht⟩) (fun _ h => absurd h List.not_mem_nil) dOp_kindOf_357
    · have hR := hR.trans (if_neg h1_1)
      by_cases h1_10 : o = 10
      · have hR := hR.trans (if_pos h1_10)
        refine lv_tableIn (off := 361) (tgt := 362) hx hb dOp_kindOf_1 (by rw [h1_10]; decide) (by rw [h1_10]; decide) (by rw [h1_10]; decide) rfl ?_
        refine lv_iconst (v := 4) hx hb dOp_kindOf_362 (by decide) ?_
        exact W.iret hx hb hr (fun t ht _ => ⟨by rw [hR]; first | done | rfl, ht⟩) (fun _ h => absurd h List.not_mem_nil) dOp_kindOf_363
      · have hR := hR.trans (if_neg h1_10)
        by_cases h1_11 : o = 11
        · have hR := hR.trans (if_pos h1_11)
          refine lv_tableIn (off := 361) (tgt := 362) hx hb dOp_kindOf_1 (by rw [h1_11]; decide) (by rw [h1_11]; decide) (by rw [h1_11]; decide) rfl ?_
          refine lv_iconst (v := 4) hx hb dOp_kindOf_362 (by decide) ?_
          exact W.iret hx hb hr (fun t ht _ => ⟨by rw [hR]; first | done | rfl, ht⟩) (fun _ h => absurd h List.not_mem_nil) dOp_kindOf_363
        · have hR := hR.trans (if_neg h1_11)
          by_cases h1_14 : o = 14
          · have hR := hR.trans (if_pos h1_14)
            refine lv_tableIn (off := 363) (tgt := 364) hx hb dOp_kindOf_1 (by rw [h1_14]; decide) (by rw [h1_14]; decide) (by rw [h1_14]; decide) rfl ?_
            refine lv_iconst (v := 5) hx hb dOp_kindOf_364 (by decide) ?_
            exact W.iret hx hb hr (fun t ht _ => ⟨by rw [hR]; first | done | rfl, ht⟩) (fun _ h => absurd h List.not_mem_nil) dOp_kindOf_365
          · have hR := hR.trans (if_neg h1_14)
            by_cases h1_15 : o = 15
            · have hR := hR.trans (if_pos h1_15)
              refine lv_tableIn (off := 361) (tgt := 362) hx hb dOp_kindOf_1 (by rw [h1_15]; decide) (by rw [h1_15]; decide) (by rw [h1_15]; decide) rfl ?_
              refine lv_iconst (v := 4) hx hb dOp_kindOf_362 (by decide) ?_
              exact W.iret hx hb hr (fun t ht _ => ⟨by rw [hR]; first | done | rfl, ht⟩) (fun _ h => absurd h List.not_mem_nil) dOp_kindOf_363
            · have hR := hR.trans (if_neg h1_15)
              by_cases h1_16 : o = 16
              · have hR := hR.trans (if_pos h1_16)
                refine lv_tableIn (off := 361) (tgt := 362) hx hb dOp_kindOf_1 (by rw [h1_16]; decide) (by rw [h1_16]; decide) (by rw [h1_16]; decide) rfl ?_
                refine lv_iconst (v := 4) hx hb dOp_kindOf_362 (by decide) ?_
                exact W.iret hx hb hr (fun t ht _ => ⟨by rw [hR]; first | done | rfl, ht⟩) (fun _ h => absurd h List.not_mem_nil) dOp_kindOf_363
              · have hR := hR.trans (if_neg h1_16)
                by_cases h1_19 : o = 19
                · have hR := hR.trans (if_pos h1_19)
                  refine lv_tableIn (off := 363) (tgt := 364) hx hb dOp_kindOf_1 (by rw [h1_19]; decide) (by rw [h1_19]; decide) (by rw [h1_19]; decide) rfl ?_
                  refine lv_iconst (v := 5) hx hb dOp_kindOf_364 (by decide) ?_
                  exact W.iret hx hb hr (fun t ht _ => ⟨by rw [hR]; first | done | rfl, ht⟩) (fun _ h => absurd h List.not_mem_nil) dOp_kindOf_365
                · have hR := hR.trans (if_neg h1_19)
                  by_cases h1_20 : o = 20
                  · have hR := hR.trans (if_pos h1_20)
                    refine lv_tableIn (off := 365) (tgt := 366) hx hb dOp_kindOf_1 (by rw [h1_20]; decide) (by rw [h1_20]; decide) (by rw [h1_20]; decide) rfl ?_
                    refine lv_bipush (v := 6) hx hb dOp_kindOf_366 (by decide) ?_
                    exact W.iret hx hb hr (fun t ht _ => ⟨by rw [hR]; first | done | rfl, ht⟩) (fun _ h => absurd h List.not_mem_nil) dOp_kindOf_368
                  · have hR := hR.trans (if_neg h1_20)
                    by_cases h1_21 : o = 21
                    · have hR := hR.trans (if_pos h1_21)
                      refine lv_tableIn (off := 365) (tgt := 366) hx hb dOp_kindOf_1 (by rw [h1_21]; decide) (by rw [h1_21]; decide) (by rw [h1_21]; decide) rfl ?_
                      refine lv_bipush (v := 6) hx hb dOp_kindOf_366 (by decide) ?_
                      exact W.iret hx hb hr (fun t ht _ => ⟨by rw [hR]; first | done | rfl, ht⟩) (fun _ h => absurd h List.not_mem_nil) dOp_kindOf_368
                    · have hR := hR.trans (if_neg h1_21)
                      by_cases h1_22 : o = 22
                      · have hR := hR.trans (if_pos h1_22)
                        refine lv_tableIn (off := 365) (tgt := 366) hx hb dOp_kindOf_1 (by rw [h1_22]; decide) (by rw [h1_22]; decide) (by rw [h1_22]; decide) rfl ?_
                        refine lv_bipush (v := 6) hx hb dOp_kindOf_366 (by decide) ?_
                        exact W.iret hx hb hr (fun t ht _ => ⟨by rw [hR]; first | done | rfl, ht⟩) (fun _ h => absurd h List.not_mem_nil) dOp_kindOf_368
                      · have hR := hR.trans (if_neg h1_22)
                        by_cases h1_24 : o = 24
                        · have hR := hR.trans (if_pos h1_24)
                          refine lv_tableIn (off := 365) (tgt := 366) hx hb dOp_kindOf_1 (by rw [h1_24]; decide) (by rw [h1_24]; decide) (by rw [h1_24]; decide) rfl ?_
                          refine lv_bipush (v := 6) hx hb dOp_kindOf_366 (by decide) ?_
                          exact W.iret hx hb hr (fun t ht _ => ⟨by rw [hR]; first | done | rfl, ht⟩) (fun _ h => absurd h List.not_mem_nil) dOp_kindOf_368
                        · have hR := hR.trans (if_neg h1_24)
                          by_cases h1_30 : o = 30
                          · have hR := hR.trans (if_pos h1_30)
                            refine lv_tableIn (off := 357) (tgt := 358) hx hb dOp_kindOf_1 (by rw [h1_30]; decide) (by rw [h1_30]; decide) (by rw [h1_30]; decide) rfl ?_
                            refine lv_iconst (v := 2) hx hb dOp_kindOf_358 (by decide) ?_
                            exact W.iret hx hb hr (fun t ht _ => ⟨by rw [hR]; first | done | rfl, ht⟩) (fun _ h => absurd h List.not_mem_nil) dOp_kindOf_359
                          · have hR := hR.trans (if_neg h1_30)
                            by_cases h1_31 : o = 31
                            · have hR := hR.trans (if_pos h1_31)
                              refine lv_tableIn (off := 357) (tgt := 358) hx hb dOp_kindOf_1 (by rw [h1_31]; decide) (by rw [h1_31]; decide) (by rw [h1_31]; decide) rfl ?_
                              refine lv_iconst (v := 2) hx hb dOp_kindOf_358 (by decide) ?_
                              exact W.iret hx hb hr (fun t ht _ => ⟨by rw [hR]; first | done | rfl, ht⟩) (fun _ h => absurd h List.not_mem_nil) dOp_kindOf_359
                            · have hR := hR.trans (if_neg h1_31)
                              by_cases h1_35 : o = 35
                              · have hR := hR.trans (if_pos h1_35)
                                refine lv_tableIn (off := 357) (tgt := 358) hx hb dOp_kindOf_1 (by rw [h1_35]; decide) (by rw [h1_35]; decide) (by rw [h1_35]; decide) rfl ?_
                                refine lv_iconst (v := 2) hx hb dOp_kindOf_358 (by decide) ?_
                                exact W.iret hx hb hr (fun t ht _ => ⟨by rw [hR]; first | done | rfl, ht⟩) (fun _ h => absurd h List.not_mem_nil) dOp_kindOf_359
                              · have hR := hR.trans (if_neg h1_35)
                                by_cases h1_44 : o = 44
                                · have hR := hR.trans (if_pos h1_44)
                                  refine lv_tableIn (off := 359) (tgt := 360) hx hb dOp_kindOf_1 (by rw [h1_44]; decide) (by rw [h1_44]; decide) (by rw [h1_44]; decide) rfl ?_
                                  refine lv_iconst (v := 3) hx hb dOp_kindOf_360 (by decide) ?_
                                  exact W.iret hx hb hr (fun t ht _ => ⟨by rw [hR]; first | done | rfl, ht⟩) (fun _ h => absurd h List.not_mem_nil) dOp_kindOf_361
                                · have hR := hR.trans (if_neg h1_44)
                                  by_cases h1_45 : o = 45
                                  · have hR := hR.trans (if_pos h1_45)
                                    refine lv_tableIn (off := 359) (tgt := 360) hx hb dOp_kindOf_1 (by rw [h1_45]; decide) (by rw [h1_45]; decide) (by rw [h1_45]; decide) rfl ?_
                                    refine lv_iconst (v := 3) hx hb dOp_kindOf_360 (by decide) ?_
                                    exact W.iret hx hb hr (fun t ht _ => ⟨by rw [hR]; first | done | rfl, ht⟩) (fun _ h => absurd h List.not_mem_nil) dOp_kindOf_361
                                  · have hR := hR.trans (if_neg h1_45)
                                    by_cases h1_46 : o = 46
                                    · have hR := hR.trans (if_pos h1_46)
                                      refine lv_tableIn (off := 359) (tgt := 360) hx hb dOp_kindOf_1 (by rw [h1_46]; decide) (by rw [h1_46]; decide) (by rw [h1_46]; decide) rfl ?_
                                      refine lv_iconst (v := 3) hx hb dOp_kindOf_360 (by decide) ?_
                                      exact W.iret hx hb hr (fun t ht _ => ⟨by rw [hR]; first | done | rfl, ht⟩) (fun _ h => absurd h List.not_mem_nil) dOp_kindOf_361
                                    · have hR := hR.trans (if_neg h1_46)
                                      by_cases h1_47 : o = 47
                                      · have hR := hR.trans (if_pos h1_47)
                                        refine lv_tableIn (off := 359) (tgt := 360) hx hb dOp_kindOf_1 (by rw [h1_47]; decide) (by rw [h1_47]; decide) (by rw [h1_47]; decide) rfl ?_
                                        refine lv_iconst (v := 3) hx hb dOp_kindOf_360 (by decide) ?_
                                        exact W.iret hx hb hr (fun t ht _ => ⟨by rw [hR]; first | done | rfl, ht⟩) (fun _ h => absurd h List.not_mem_nil) dOp_kindOf_361
                                      · have hR := hR.trans (if_neg h1_47)
                                        by_cases h1_60 : o = 60
                                        · have hR := hR.trans (if_pos h1_60)
                                          refine lv_tableIn (off := 361) (tgt := 362) hx hb dOp_kindOf_1 (by rw [h1_60]; decide) (by rw [h1_60]; decide) (by rw [h1_60]; decide) rfl ?_
                                          refine lv_iconst (v := 4) hx hb dOp_kindOf_362 (by decide) ?_
                                          exact W.iret hx hb hr (fun t ht _ => ⟨by rw [hR]; first | done | rfl, ht⟩) (fun _ h => absurd h List.not_mem_nil) dOp_kindOf_363
                                        · have hR := hR.trans (if_neg h1_60)
                                          by_cases h1_61 : o = 61
                                          · have hR := hR.trans (if_pos h1_61)
                                            refine lv_tableIn (off := 361) (tgt := 362) hx hb dOp_kindOf_1 (by rw [h1_61]; decide) (by rw [h1_61]; decide) (by rw [h1_61]; decide) rfl ?_
                                            refine lv_iconst (v := 4) hx hb dOp_kindOf_362 (by decide) ?_
                                            exact W.iret hx hb hr (fun t ht _ => ⟨by rw [hR]; first | done | rfl, ht⟩) (fun _ h => absurd h List.not_mem_nil) dOp_kindOf_363
                                          · have hR := hR.trans (if_neg h1_61)
                                            by_cases h1_65 : o = 65
                                            · have hR := hR.trans (if_pos h1_65)
                                              refine lv_tableIn (off := 361) (tgt := 362) hx hb dOp_kindOf_1 (by rw [h1_65]; decide) (by rw [h1_65]; decide) (by rw [h1_65]; decide) rfl ?_
                                              refine lv_iconst (v := 4) hx hb dOp_kindOf_362 (by decide) ?_
                                              exact W.iret hx hb hr (fun t ht _ => ⟨by rw [hR]; first | done | rfl, ht⟩) (fun _ h => absurd h List.not_mem_nil) dOp_kindOf_363
                                            · have hR := hR.trans (if_neg h1_65)
                                              by_cases h1_66 : o = 66
                                              · have hR := hR.trans (if_pos h1_66)
                                                refine lv_tableIn (off := 361) (tgt := 362) hx hb dOp_kindOf_1 (by rw [h1_66]; decide) (by rw [h1_66]; decide) (by rw [h1_66]; decide) rfl ?_
                                                refine lv_iconst (v := 4) hx hb dOp_kindOf_362 (by decide) ?_
                                                exact W.iret hx hb hr (fun t ht _ => ⟨by rw [hR]; first | done | rfl, ht⟩) (fun _ h => absurd h List.not_mem_nil) dOp_kindOf_363
                                              · have hR := hR.trans (if_neg h1_66)
                                                by_cases h1_67 : o = 67
                                                · have hR := hR.trans (if_pos h1_67)
                                                  refine lv_tableIn (off := 361) (tgt := 362) hx hb dOp_kindOf_1 (by rw [h1_67]; decide) (by rw [h1_67]; decide) (by rw [h1_67]; decide) rfl ?_
                                                  refine lv_iconst (v := 4) hx hb dOp_kindOf_362 (by decide) ?_
                                                  exact W.iret hx hb hr (fun t ht _ => ⟨by rw [hR]; first | done | rfl, ht⟩) (fun _ h => absurd h List.not_mem_nil) dOp_kindOf_363
                                                · have hR := hR.trans (if_neg h1_67)
                                                  by_cases h1_69 : o = 69
                                                  · have hR := hR.trans (if_pos h1_69)
                                                    refine lv_tableIn (off := 363) (tgt := 364) hx hb dOp_kindOf_1 (by rw [h1_69]; decide) (by rw [h1_69]; decide) (by rw [h1_69]; decide) rfl ?_
                                                    refine lv_iconst (v := 5) hx hb dOp_kindOf_364 (by decide) ?_
                                                    exact W.iret hx hb hr (fun t ht _ => ⟨by rw [hR]; first | done | rfl, ht⟩) (fun _ h => absurd h List.not_mem_nil) dOp_kindOf_365
                                                  · have hR := hR.trans (if_neg h1_69)
                                                    by_cases h1_70 : o = 70
                                                    · have hR := hR.trans (if_pos h1_70)
                                                      refine lv_tableIn (off := 365) (tgt := 366) hx hb dOp_kindOf_1 (by rw [h1_70]; decide) (by rw [h1_70]; decide) (by rw [h1_70]; decide) rfl ?_
                                                      refine lv_bipush (v := 6) hx hb dOp_kindOf_366 (by decide) ?_
                                                      exact W.iret hx hb hr (fun t ht _ => ⟨by rw [hR]; first | done | rfl, ht⟩) (fun _ h => absurd h List.not_mem_nil) dOp_kindOf_368
                                                    · have hR := hR.trans (if_neg h1_70)
                                                      by_cases h1_71 : o = 71
                                                      · have hR := hR.trans (if_pos h1_71)
                                                        refine lv_tableIn (off := 363) (tgt := 364) hx hb dOp_kindOf_1 (by rw [h1_71]; decide) (by rw [h1_71]; decide) (by rw [h1_71]; decide) rfl ?_
                                                        refine lv_iconst (v := 5) hx hb dOp_kindOf_364 (by decide) ?_
                                                        exact W.iret hx hb hr (fun t ht _ => ⟨by rw [hR]; first | done | rfl, ht⟩) (fun _ h => absurd h List.not_mem_nil) dOp_kindOf_365
                                                      · have hR := hR.trans (if_neg h1_71)
                                                        by_cases h1_84 : o = 84
                                                        · have hR := hR.trans (if_pos h1_84)
                                                          refine lv_tableIn (off := 363) (tgt := 364) hx hb dOp_kindOf_1 (by rw [h1_84]; decide) (by rw [h1_84]; decide) (by rw [h1_84]; decide) rfl ?_
                                                          refine lv_iconst (v := 5) hx hb dOp_kindOf_364 (by decide) ?_
                                                          exact W.iret hx hb hr (fun t ht _ => ⟨by rw [hR]; first | done | rfl, ht⟩) (fun _ h => absurd h List.not_mem_nil) dOp_kindOf_365
                                                        · have hR := hR.trans (if_neg h1_84)
                                                          have nh1_0 := lv_neT (k := 0) (a := 0) h1_0 (by decide)
                                                          have nh1_1 := lv_neT (k := 1) (a := 1) h1_1 (by decide)
                                                          have nh1_10 := lv_neT (k := 10) (a := 10) h1_10 (by decide)
                                                          have nh1_11 := lv_neT (k := 11) (a := 11) h1_11 (by decide)
                                                          have nh1_14 := lv_neT (k := 14) (a := 14) h1_14 (by decide)
                                                          have nh1_15 := lv_neT (k := 15) (a := 15) h1_15 (by decide)
                                                          have nh1_16 := lv_neT (k := 16) (a := 16) h1_16 (by decide)
                                                          have nh1_19 := lv_neT (k := 19) (a := 19) h1_19 (by decide)
                                                          have nh1_20 := lv_neT (k := 20) (a := 20) h1_20 (by decide)
                                                          have nh1_21 := lv_neT (k := 21) (a := 21) h1_21 (by decide)
                                                          have nh1_22 := lv_neT (k := 22) (a := 22) h1_22 (by decide)
                                                          have nh1_24 := lv_neT (k := 24) (a := 24) h1_24 (by decide)
                                                          have nh1_30 := lv_neT (k := 30) (a := 30) h1_30 (by decide)
                                                          have nh1_31 := lv_neT (k := 31) (a := 31) h1_31 (by decide)
                                                          have nh1_35 := lv_neT (k := 35) (a := 35) h1_35 (by decide)
                                                          have nh1_44 := lv_neT (k := 44) (a := 44) h1_44 (by decide)
                                                          have nh1_45 := lv_neT (k := 45) (a := 45) h1_45 (by decide)
                                                          have nh1_46 := lv_neT (k := 46) (a := 46) h1_46 (by decide)
                                                          have nh1_47 := lv_neT (k := 47) (a := 47) h1_47 (by decide)
                                                          have nh1_60 := lv_neT (k := 60) (a := 60) h1_60 (by decide)
                                                          have nh1_61 := lv_neT (k := 61) (a := 61) h1_61 (by decide)
                                                          have nh1_65 := lv_neT (k := 65) (a := 65) h1_65 (by decide)
                                                          have nh1_66 := lv_neT (k := 66) (a := 66) h1_66 (by decide)
                                                          have nh1_67 := lv_neT (k := 67) (a := 67) h1_67 (by decide)
                                                          have nh1_69 := lv_neT (k := 69) (a := 69) h1_69 (by decide)
                                                          have nh1_70 := lv_neT (k := 70) (a := 70) h1_70 (by decide)
                                                          have nh1_71 := lv_neT (k := 71) (a := 71) h1_71 (by decide)
                                                          have nh1_84 := lv_neT (k := 84) (a := 84) h1_84 (by decide)
                                                          by_cases hO : o.toInt < 0 ∨ 84 < o.toInt
                                                          · refine lv_tableOut (tgt := 369) hx hb dOp_kindOf_1 hO rfl ?_
                                                            refine lv_iload_n hx hb dOp_kindOf_369 rfl (lv_at hl 0 rfl) ?_
                                                            refine cl_rd (W.runS (As := [.int (o)]) (rest := []) ⟨hx, hb, hml, hown, hts⟩ (kOp_branchesOnEight l o) (va_cwS 1 hts (gS wm2_183 wm2_184 wm1_17 wm2_185) rfl rfl rfl (by decide +kernel) ⟨Nat.le_of_ble_eq_true rfl, Nat.le_of_ble_eq_true rfl⟩) (preT) rfl rfl hl.1 rfl (lv_room (Nat.le_of_ble_eq_true rfl)) dOp_kindOf_370 ⟨Nat.le_refl _, Nat.le_refl _⟩) ?_
                                                            refine wz_ifeq hx hb dOp_kindOf_373 rfl (fun h373 => ?_) (fun h373 => ?_)
                                                            · have hR := hR.trans (if_neg h373)
                                                              refine lv_iconst (v := 0) hx hb dOp_kindOf_380 (by decide) ?_
                                                              exact W.iret hx hb hr (fun t ht _ => ⟨by rw [hR]; first | done | rfl, ht⟩) (fun _ h => absurd h List.not_mem_nil) dOp_kindOf_381
                                                            · have hR := hR.trans (if_pos h373)
                                                              refine lv_iconst (v := 3) hx hb dOp_kindOf_376 (by decide) ?_
                                                              refine lv_goto hx hb dOp_kindOf_377 rfl ?_
                                                              exact W.iret hx hb hr (fun t ht _ => ⟨by rw [hR]; first | done | rfl, ht⟩) (fun _ h => absurd h List.not_mem_nil) dOp_kindOf_381
                                                          · have hi : (o.toInt - 0).toNat < 85 := by omega
                                                            rcases hole_fOp_kindOf_1 ⟨(o.toInt - 0).toNat, hi⟩ with hm | hm
                                                            · exfalso
                                                              simp only [List.mem_cons, List.not_mem_nil, or_false] at hm
                                                              omega
                                                            · refine lv_tableIn (off := 368) (tgt := 369) hx hb dOp_kindOf_1 (by omega) (by omega) hm rfl ?_
                                                              refine lv_iload_n hx hb dOp_kindOf_369 rfl (lv_at hl 0 rfl) ?_
                                                              refine cl_rd (W.runS (As := [.int (o)]) (rest := []) ⟨hx, hb, hml, hown, hts⟩ (kOp_branchesOnEight l o) (va_cwS 1 hts (gS wm2_183 wm2_184 wm1_17 wm2_185) rfl rfl rfl (by decide +kernel) ⟨Nat.le_of_ble_eq_true rfl, Nat.le_of_ble_eq_true rfl⟩) (preT) rfl rfl hl.1 rfl (lv_room (Nat.le_of_ble_eq_true rfl)) dOp_kindOf_370 ⟨Nat.le_refl _, Nat.le_refl _⟩) ?_
                                                              refine wz_ifeq hx hb dOp_kindOf_373 rfl (fun h373 => ?_) (fun h373 => ?_)
                                                              · have hR := hR.trans (if_neg h373)
                                                                refine lv_iconst (v := 0) hx hb dOp_kindOf_380 (by decide) ?_
                                                                exact W.iret hx hb hr (fun t ht _ => ⟨by rw [hR]; first | done | rfl, ht⟩) (fun _ h => absurd h List.not_mem_nil) dOp_kindOf_381
                                                              · have hR := hR.trans (if_pos h373)
                                                                refine lv_iconst (v := 3) hx hb dOp_kindOf_376 (by decide) ?_
                                                                refine lv_goto hx hb dOp_kindOf_377 rfl ?_
                                                                exact W.iret hx hb hr (fun t ht _ => ⟨by rw [hR]; first | done | rfl, ht⟩) (fun _ h => absurd h List.not_mem_nil) dOp_kindOf_381
theorem dOp_exists_0 : decode ccOp_exists 0 = .ok (.iload_n 0, 1) := by decide +kernel
theorem dOp_exists_1 : decode ccOp_exists 1 = .ok (.invokestatic 13, 3) := by decide +kernel
theorem dOp_exists_4 : decode ccOp_exists 4 = .ok (.ifCond .eq 7, 3) := by decide +kernel
theorem dOp_exists_7 : decode ccOp_exists 7 = .ok (.iconst 1, 1) := by decide +kernel
theorem dOp_exists_8 : decode ccOp_exists 8 = .ok (.goto 4, 3) := by decide +kernel
theorem dOp_exists_11 : decode ccOp_exists 11 = .ok (.iconst 0, 1) := by decide +kernel
theorem dOp_exists_12 : decode ccOp_exists 12 = .ok (.ireturn, 1) := by decide +kernel
def fOp_exists (o : Int32) : Bool :=
  (if (fOp_kindOf o) = 0 then false else true)
set_option maxHeartbeats 4000000 in
set_option maxRecDepth 100000 in
theorem kOp_exists (l : Launch) (o : Int32)  : Met l yOp_exists wsOp_exists { frames := 2, cells := 0, slots := 0, locals := 40 } (va_Pc [.int (o)] (fun _ => True)) (cQr (some (.int (bb (fOp_exists o))))) 0 0 (fun _ => False) := by
  refine Met.ofW (cc := ccOp_exists) (maxL := 1) (ret := (some .boolean)) (by decide +kernel) rfl ?_
  intro p e s m args below meth c s₁ B hml hv
  obtain ⟨rfl, -⟩ := hv
  have hx := B.exec
  have hb := B.bytes
  have hr := B.returns
  have hts := atoms_spec (ws := wsOp_exists) B.pre
  have hown : s.vm.findClass ROp = some m.cls := findClass_of_methodNamed B.named
  have hlocks := B.notSynchronized
  have hl := lv_entry ([.int (o)]) (n := 1) (Nat.le_of_ble_eq_true rfl)
  rw [lg_entry_eq]
  generalize (lg_sl ([.int (o)]) ++ List.replicate (1 - (lg_sl ([.int (o)])).length) Slot.unset).toArray = ls at hl ⊢
  have hl : lv_has ls 1 [(0, .int (o))] := hl
  have hR := fOp_exists.eq_1 o
  refine lv_iload_n hx hb dOp_exists_0 rfl (lv_at hl 0 rfl) ?_
  refine cl_rd (W.runS (As := [.int (o)]) (rest := []) ⟨hx, hb, hml, hown, hts⟩ (kOp_kindOf l o) (va_cwS 1 hts (gS wm2_180 wm2_181 wm1_17 wm2_182) rfl rfl rfl (by decide +kernel) ⟨Nat.le_of_ble_eq_true rfl, Nat.le_of_ble_eq_true rfl⟩) (preT) rfl rfl hl.1 rfl (lv_room (Nat.le_of_ble_eq_true rfl)) dOp_exists_1 ⟨Nat.le_refl _, Nat.le_refl _⟩) ?_
  refine lv_if_eq hx hb dOp_exists_4 rfl (fun h4 => ?_) (fun h4 => ?_)
  · have hR := hR.trans (if_pos h4)
    refine lv_iconst (v := 0) hx hb dOp_exists_11 (by decide) ?_
    exact W.zret hx hb hr rfl (fun t ht _ => ⟨by rw [hR]; first | done | rfl, ht⟩) (fun _ h => absurd h List.not_mem_nil) dOp_exists_12
  · have hR := hR.trans (if_neg h4)
    refine lv_iconst (v := 1) hx hb dOp_exists_7 (by decide) ?_
    refine lv_goto hx hb dOp_exists_8 rfl ?_
    exact W.zret hx hb hr rfl (fun t ht _ => ⟨by rw [hR]; first | done | rfl, ht⟩) (fun _ h => absurd h List.not_mem_nil) dOp_exists_12
theorem dOp_shifts_0 : decode ccOp_shifts 0 = .ok (.iload_n 0, 1) := by decide +kernel
theorem dOp_shifts_1 : decode ccOp_shifts 1 = .ok (.invokestatic 13, 3) := by decide +kernel
theorem dOp_shifts_4 : decode ccOp_shifts 4 = .ok (.iconst 2, 1) := by decide +kernel
theorem dOp_shifts_5 : decode ccOp_shifts 5 = .ok (.if_icmp .ne 7, 3) := by decide +kernel
theorem dOp_shifts_8 : decode ccOp_shifts 8 = .ok (.iconst 1, 1) := by decide +kernel
theorem dOp_shifts_9 : decode ccOp_shifts 9 = .ok (.goto 4, 3) := by decide +kernel
theorem dOp_shifts_12 : decode ccOp_shifts 12 = .ok (.iconst 0, 1) := by decide +kernel
theorem dOp_shifts_13 : decode ccOp_shifts 13 = .ok (.ireturn, 1) := by decide +kernel
def fOp_shifts (o : Int32) : Bool :=
  (if (fOp_kindOf o) = (2 : Int32) then true else false)
set_option maxHeartbeats 4000000 in
set_option maxRecDepth 100000 in
theorem kOp_shifts (l : Launch) (o : Int32)  : Met l yOp_shifts wsOp_shifts { frames := 2, cells := 0, slots := 0, locals := 40 } (va_Pc [.int (o)] (fun _ => True)) (cQr (some (.int (bb (fOp_shifts o))))) 0 0 (fun _ => False) := by
  refine Met.ofW (cc := ccOp_shifts) (maxL := 1) (ret := (some .boolean)) (by decide +kernel) rfl ?_
  intro p e s m args below meth c s₁ B hml hv
  obtain ⟨rfl, -⟩ := hv
  have hx := B.exec
  have hb := B.bytes
  have hr := B.returns
  have hts := atoms_spec (ws := wsOp_shifts) B.pre
  have hown : s.vm.findClass ROp = some m.cls := findClass_of_methodNamed B.named
  have hlocks := B.notSynchronized
  have hl := lv_entry ([.int (o)]) (n := 1) (Nat.le_of_ble_eq_true rfl)
  rw [lg_entry_eq]
  generalize (lg_sl ([.int (o)]) ++ List.replicate (1 - (lg_sl ([.int (o)])).length) Slot.unset).toArray = ls at hl ⊢
  have hl : lv_has ls 1 [(0, .int (o))] := hl
  have hR := fOp_shifts.eq_1 o
  refine lv_iload_n hx hb dOp_shifts_0 rfl (lv_at hl 0 rfl) ?_
  refine cl_rd (W.runS (As := [.int (o)]) (rest := []) ⟨hx, hb, hml, hown, hts⟩ (kOp_kindOf l o) (va_cwS 1 hts (gS wm2_180 wm2_181 wm1_17 wm2_182) rfl rfl rfl (by decide +kernel) ⟨Nat.le_of_ble_eq_true rfl, Nat.le_of_ble_eq_true rfl⟩) (preT) rfl rfl hl.1 rfl (lv_room (Nat.le_of_ble_eq_true rfl)) dOp_shifts_1 ⟨Nat.le_refl _, Nat.le_refl _⟩) ?_
  refine lv_iconst (v := 2) hx hb dOp_shifts_4 (by decide) ?_
  refine lv_icmp_ne hx hb dOp_shifts_5 rfl (fun h5 => ?_) (fun h5 => ?_)
  · have hR := hR.trans (if_neg h5)
    refine lv_iconst (v := 0) hx hb dOp_shifts_12 (by decide) ?_
    exact W.zret hx hb hr rfl (fun t ht _ => ⟨by rw [hR]; first | done | rfl, ht⟩) (fun _ h => absurd h List.not_mem_nil) dOp_shifts_13
  · have hR := hR.trans (if_pos h5)
    refine lv_iconst (v := 1) hx hb dOp_shifts_8 (by decide) ?_
    refine lv_goto hx hb dOp_shifts_9 rfl ?_
    exact W.zret hx hb hr rfl (fun t ht _ => ⟨by rw [hR]; first | done | rfl, ht⟩) (fun _ h => absurd h List.not_mem_nil) dOp_shifts_13
theorem dOp_adds_0 : decode ccOp_adds 0 = .ok (.iload_n 0, 1) := by decide +kernel
theorem dOp_adds_1 : decode ccOp_adds 1 = .ok (.invokestatic 13, 3) := by decide +kernel
theorem dOp_adds_4 : decode ccOp_adds 4 = .ok (.iconst 4, 1) := by decide +kernel
theorem dOp_adds_5 : decode ccOp_adds 5 = .ok (.if_icmp .ne 7, 3) := by decide +kernel
theorem dOp_adds_8 : decode ccOp_adds 8 = .ok (.iconst 1, 1) := by decide +kernel
theorem dOp_adds_9 : decode ccOp_adds 9 = .ok (.goto 4, 3) := by decide +kernel
theorem dOp_adds_12 : decode ccOp_adds 12 = .ok (.iconst 0, 1) := by decide +kernel
theorem dOp_adds_13 : decode ccOp_adds 13 = .ok (.ireturn, 1) := by decide +kernel
def fOp_adds (o : Int32) : Bool :=
  (if (fOp_kindOf o) = (4 : Int32) then true else false)
set_option maxHeartbeats 4000000 in
set_option maxRecDepth 100000 in
theorem kOp_adds (l : Launch) (o : Int32)  : Met l yOp_adds wsOp_adds { frames := 2, cells := 0, slots := 0, locals := 40 } (va_Pc [.int (o)] (fun _ => True)) (cQr (some (.int (bb (fOp_adds o))))) 0 0 (fun _ => False) := by
  refine Met.ofW (cc := ccOp_adds) (maxL := 1) (ret := (some .boolean)) (by decide +kernel) rfl ?_
  intro p e s m args below meth c s₁ B hml hv
  obtain ⟨rfl, -⟩ := hv
  have hx := B.exec
  have hb := B.bytes
  have hr := B.returns
  have hts := atoms_spec (ws := wsOp_adds) B.pre
  have hown : s.vm.findClass ROp = some m.cls := findClass_of_methodNamed B.named
  have hlocks := B.notSynchronized
  have hl := lv_entry ([.int (o)]) (n := 1) (Nat.le_of_ble_eq_true rfl)
  rw [lg_entry_eq]
  generalize (lg_sl ([.int (o)]) ++ List.replicate (1 - (lg_sl ([.int (o)])).length) Slot.unset).toArray = ls at hl ⊢
  have hl : lv_has ls 1 [(0, .int (o))] := hl
  have hR := fOp_adds.eq_1 o
  refine lv_iload_n hx hb dOp_adds_0 rfl (lv_at hl 0 rfl) ?_
  refine cl_rd (W.runS (As := [.int (o)]) (rest := []) ⟨hx, hb, hml, hown, hts⟩ (kOp_kindOf l o) (va_cwS 1 hts (gS wm2_180 wm2_181 wm1_17 wm2_182) rfl rfl rfl (by decide +kernel) ⟨Nat.le_of_ble_eq_true rfl, Nat.le_of_ble_eq_true rfl⟩) (preT) rfl rfl hl.1 rfl (lv_room (Nat.le_of_ble_eq_true rfl)) dOp_adds_1 ⟨Nat.le_refl _, Nat.le_refl _⟩) ?_
  refine lv_iconst (v := 4) hx hb dOp_adds_4 (by decide) ?_
  refine lv_icmp_ne hx hb dOp_adds_5 rfl (fun h5 => ?_) (fun h5 => ?_)
  · have hR := hR.trans (if_neg h5)
    refine lv_iconst (v := 0) hx hb dOp_adds_12 (by decide) ?_
    exact W.zret hx hb hr rfl (fun t ht _ => ⟨by rw [hR]; first | done | rfl, ht⟩) (fun _ h => absurd h List.not_mem_nil) dOp_adds_13
  · have hR := hR.trans (if_pos h5)
    refine lv_iconst (v := 1) hx hb dOp_adds_8 (by decide) ?_
    refine lv_goto hx hb dOp_adds_9 rfl ?_
    exact W.zret hx hb hr rfl (fun t ht _ => ⟨by rw [hR]; first | done | rfl, ht⟩) (fun _ h => absurd h List.not_mem_nil) dOp_adds_13
theorem dOp_writes_0 : decode ccOp_writes 0 = .ok (.iload_n 0, 1) := by decide +kernel
theorem dOp_writes_1 : decode ccOp_writes 1 = .ok (.invokestatic 13, 3) := by decide +kernel
theorem dOp_writes_4 : decode ccOp_writes 4 = .ok (.bipush 6, 2) := by decide +kernel
theorem dOp_writes_6 : decode ccOp_writes 6 = .ok (.if_icmp .ne 7, 3) := by decide +kernel
theorem dOp_writes_9 : decode ccOp_writes 9 = .ok (.iconst 1, 1) := by decide +kernel
theorem dOp_writes_10 : decode ccOp_writes 10 = .ok (.goto 4, 3) := by decide +kernel
theorem dOp_writes_13 : decode ccOp_writes 13 = .ok (.iconst 0, 1) := by decide +kernel
theorem dOp_writes_14 : decode ccOp_writes 14 = .ok (.ireturn, 1) := by decide +kernel
def fOp_writes (o : Int32) : Bool :=
  (if (fOp_kindOf o) = (6 : Int32) then true else false)
set_option maxHeartbeats 4000000 in
set_option maxRecDepth 100000 in
theorem kOp_writes (l : Launch) (o : Int32)  : Met l yOp_writes wsOp_writes { frames := 2, cells := 0, slots := 0, locals := 40 } (va_Pc [.int (o)] (fun _ => True)) (cQr (some (.int (bb (fOp_writes o))))) 0 0 (fun _ => False) := by
  refine Met.ofW (cc := ccOp_writes) (maxL := 1) (ret := (some .boolean)) (by decide +kernel) rfl ?_
  intro p e s m args below meth c s₁ B hml hv
  obtain ⟨rfl, -⟩ := hv
  have hx := B.exec
  have hb := B.bytes
  have hr := B.returns
  have hts := atoms_spec (ws := wsOp_writes) B.pre
  have hown : s.vm.findClass ROp = some m.cls := findClass_of_methodNamed B.named
  have hlocks := B.notSynchronized
  have hl := lv_entry ([.int (o)]) (n := 1) (Nat.le_of_ble_eq_true rfl)
  rw [lg_entry_eq]
  generalize (lg_sl ([.int (o)]) ++ List.replicate (1 - (lg_sl ([.int (o)])).length) Slot.unset).toArray = ls at hl ⊢
  have hl : lv_has ls 1 [(0, .int (o))] := hl
  have hR := fOp_writes.eq_1 o
  refine lv_iload_n hx hb dOp_writes_0 rfl (lv_at hl 0 rfl) ?_
  refine cl_rd (W.runS (As := [.int (o)]) (rest := []) ⟨hx, hb, hml, hown, hts⟩ (kOp_kindOf l o) (va_cwS 1 hts (gS wm2_180 wm2_181 wm1_17 wm2_182) rfl rfl rfl (by decide +kernel) ⟨Nat.le_of_ble_eq_true rfl, Nat.le_of_ble_eq_true rfl⟩) (preT) rfl rfl hl.1 rfl (lv_room (Nat.le_of_ble_eq_true rfl)) dOp_writes_1 ⟨Nat.le_refl _, Nat.le_refl _⟩) ?_
  refine lv_bipush (v := 6) hx hb dOp_writes_4 (by decide) ?_
  refine lv_icmp_ne hx hb dOp_writes_6 rfl (fun h6 => ?_) (fun h6 => ?_)
  · have hR := hR.trans (if_neg h6)
    refine lv_iconst (v := 0) hx hb dOp_writes_13 (by decide) ?_
    exact W.zret hx hb hr rfl (fun t ht _ => ⟨by rw [hR]; first | done | rfl, ht⟩) (fun _ h => absurd h List.not_mem_nil) dOp_writes_14
  · have hR := hR.trans (if_pos h6)
    refine lv_iconst (v := 1) hx hb dOp_writes_9 (by decide) ?_
    refine lv_goto hx hb dOp_writes_10 rfl ?_
    exact W.zret hx hb hr rfl (fun t ht _ => ⟨by rw [hR]; first | done | rfl, ht⟩) (fun _ h => absurd h List.not_mem_nil) dOp_writes_14
theorem dOp_accessesData_0 : decode ccOp_accessesData 0 = .ok (.iload_n 0, 1) := by decide +kernel
theorem dOp_accessesData_1 : decode ccOp_accessesData 1 = .ok (.invokestatic 13, 3) := by decide +kernel
theorem dOp_accessesData_4 : decode ccOp_accessesData 4 = .ok (.istore_n 1, 1) := by decide +kernel
theorem dOp_accessesData_5 : decode ccOp_accessesData 5 = .ok (.iload_n 1, 1) := by decide +kernel
theorem dOp_accessesData_6 : decode ccOp_accessesData 6 = .ok (.iconst 4, 1) := by decide +kernel
theorem dOp_accessesData_7 : decode ccOp_accessesData 7 = .ok (.if_icmp .eq 14, 3) := by decide +kernel
theorem dOp_accessesData_10 : decode ccOp_accessesData 10 = .ok (.iload_n 1, 1) := by decide +kernel
theorem dOp_accessesData_11 : decode ccOp_accessesData 11 = .ok (.iconst 5, 1) := by decide +kernel
theorem dOp_accessesData_12 : decode ccOp_accessesData 12 = .ok (.if_icmp .eq 9, 3) := by decide +kernel
theorem dOp_accessesData_15 : decode ccOp_accessesData 15 = .ok (.iload_n 1, 1) := by decide +kernel
theorem dOp_accessesData_16 : decode ccOp_accessesData 16 = .ok (.bipush 6, 2) := by decide +kernel
theorem dOp_accessesData_18 : decode ccOp_accessesData 18 = .ok (.if_icmp .ne 7, 3) := by decide +kernel
theorem dOp_accessesData_21 : decode ccOp_accessesData 21 = .ok (.iconst 1, 1) := by decide +kernel
theorem dOp_accessesData_22 : decode ccOp_accessesData 22 = .ok (.goto 4, 3) := by decide +kernel
theorem dOp_accessesData_25 : decode ccOp_accessesData 25 = .ok (.iconst 0, 1) := by decide +kernel
theorem dOp_accessesData_26 : decode ccOp_accessesData 26 = .ok (.ireturn, 1) := by decide +kernel
def fOp_accessesData (o : Int32) : Bool :=
  (if (fOp_kindOf o) = (4 : Int32) then true else (if (fOp_kindOf o) = (5 : Int32) then true else (if (fOp_kindOf o) = (6 : Int32) then true else false)))
set_option maxHeartbeats 4000000 in
set_option maxRecDepth 100000 in
theorem kOp_accessesData (l : Launch) (o : Int32)  : Met l yOp_accessesData wsOp_accessesData { frames := 2, cells := 0, slots := 0, locals := 40 } (va_Pc [.int (o)] (fun _ => True)) (cQr (some (.int (bb (fOp_accessesData o))))) 0 0 (fun _ => False) := by
  refine Met.ofW (cc := ccOp_accessesData) (maxL := 2) (ret := (some .boolean)) (by decide +kernel) rfl ?_
  intro p e s m args below meth c s₁ B hml hv
  obtain ⟨rfl, -⟩ := hv
  have hx := B.exec
  have hb := B.bytes
  have hr := B.returns
  have hts := atoms_spec (ws := wsOp_accessesData) B.pre
  have hown : s.vm.findClass ROp = some m.cls := findClass_of_methodNamed B.named
  have hlocks := B.notSynchronized
  have hl := lv_entry ([.int (o)]) (n := 2) (Nat.le_of_ble_eq_true rfl)
  rw [lg_entry_eq]
  generalize (lg_sl ([.int (o)]) ++ List.replicate (2 - (lg_sl ([.int (o)])).length) Slot.unset).toArray = ls at hl ⊢
  have hl : lv_has ls 2 [(0, .int (o))] := hl
  have hR := fOp_accessesData.eq_1 o
  refine lv_iload_n hx hb dOp_accessesData_0 rfl (lv_at hl 0 rfl) ?_
  refine cl_rd (W.runS (As := [.int (o)]) (rest := []) ⟨hx, hb, hml, hown, hts⟩ (kOp_kindOf l o) (va_cwS 1 hts (gS wm2_180 wm2_181 wm1_17 wm2_182) rfl rfl rfl (by decide +kernel) ⟨Nat.le_of_ble_eq_true rfl, Nat.le_of_ble_eq_true rfl⟩) (preT) rfl rfl hl.1 rfl (lv_room (Nat.le_of_ble_eq_true rfl)) dOp_accessesData_1 ⟨Nat.le_refl _, Nat.le_refl _⟩) ?_
  refine lv_istore_n (lv' := [(1, .int (fOp_kindOf o)), (0, .int (o))]) hx hb dOp_accessesData_4 rfl hl (by decide) rfl (fun ls hl => ?_)
  refine lv_iload_n hx hb dOp_accessesData_5 rfl (lv_at hl 0 rfl) ?_
  refine lv_iconst (v := 4) hx hb dOp_accessesData_6 (by decide) ?_
  refine lv_icmp_eq hx hb dOp_accessesData_7 rfl (fun h7 => ?_) (fun h7 => ?_)
  · have hR := hR.trans (if_pos h7)
    refine lv_iconst (v := 1) hx hb dOp_accessesData_21 (by decide) ?_
    refine lv_goto hx hb dOp_accessesData_22 rfl ?_
    exact W.zret hx hb hr rfl (fun t ht _ => ⟨by rw [hR]; first | done | rfl, ht⟩) (fun _ h => absurd h List.not_mem_nil) dOp_accessesData_26
  · have hR := hR.trans (if_neg h7)
    refine lv_iload_n hx hb dOp_accessesData_10 rfl (lv_at hl 0 rfl) ?_
    refine lv_iconst (v := 5) hx hb dOp_accessesData_11 (by decide) ?_
    refine lv_icmp_eq hx hb dOp_accessesData_12 rfl (fun h12 => ?_) (fun h12 => ?_)
    · have hR := hR.trans (if_pos h12)
      refine lv_iconst (v := 1) hx hb dOp_accessesData_21 (by decide) ?_
      refine lv_goto hx hb dOp_accessesData_22 rfl ?_
      exact W.zret hx hb hr rfl (fun t ht _ => ⟨by rw [hR]; first | done | rfl, ht⟩) (fun _ h => absurd h List.not_mem_nil) dOp_accessesData_26
    · have hR := hR.trans (if_neg h12)
      refine lv_iload_n hx hb dOp_accessesData_15 rfl (lv_at hl 0 rfl) ?_
      refine lv_bipush (v := 6) hx hb dOp_accessesData_16 (by decide) ?_
      refine lv_icmp_ne hx hb dOp_accessesData_18 rfl (fun h18 => ?_) (fun h18 => ?_)
      · have hR := hR.trans (if_neg h18)
        refine lv_iconst (v := 0) hx hb dOp_accessesData_25 (by decide) ?_
        exact W.zret hx hb hr rfl (fun t ht _ => ⟨by rw [hR]; first | done | rfl, ht⟩) (fun _ h => absurd h List.not_mem_nil) dOp_accessesData_26
      · have hR := hR.trans (if_pos h18)
        refine lv_iconst (v := 1) hx hb dOp_accessesData_21 (by decide) ?_
        refine lv_goto hx hb dOp_accessesData_22 rfl ?_
        exact W.zret hx hb hr rfl (fun t ht _ => ⟨by rw [hR]; first | done | rfl, ht⟩) (fun _ h => absurd h List.not_mem_nil) dOp_accessesData_26
theorem dOp_addsToUpper_0 : decode ccOp_addsToUpper 0 = .ok (.iload_n 0, 1) := by decide +kernel
theorem dOp_addsToUpper_1 : decode ccOp_addsToUpper 1 = .ok (.bipush 10, 2) := by decide +kernel
theorem dOp_addsToUpper_3 : decode ccOp_addsToUpper 3 = .ok (.if_icmp .eq 21, 3) := by decide +kernel
theorem dOp_addsToUpper_6 : decode ccOp_addsToUpper 6 = .ok (.iload_n 0, 1) := by decide +kernel
theorem dOp_addsToUpper_7 : decode ccOp_addsToUpper 7 = .ok (.bipush 11, 2) := by decide +kernel
theorem dOp_addsToUpper_9 : decode ccOp_addsToUpper 9 = .ok (.if_icmp .eq 15, 3) := by decide +kernel
theorem dOp_addsToUpper_12 : decode ccOp_addsToUpper 12 = .ok (.iload_n 0, 1) := by decide +kernel
theorem dOp_addsToUpper_13 : decode ccOp_addsToUpper 13 = .ok (.bipush 60, 2) := by decide +kernel
theorem dOp_addsToUpper_15 : decode ccOp_addsToUpper 15 = .ok (.if_icmp .eq 9, 3) := by decide +kernel
theorem dOp_addsToUpper_18 : decode ccOp_addsToUpper 18 = .ok (.iload_n 0, 1) := by decide +kernel
theorem dOp_addsToUpper_19 : decode ccOp_addsToUpper 19 = .ok (.bipush 61, 2) := by decide +kernel
theorem dOp_addsToUpper_21 : decode ccOp_addsToUpper 21 = .ok (.if_icmp .ne 7, 3) := by decide +kernel
theorem dOp_addsToUpper_24 : decode ccOp_addsToUpper 24 = .ok (.iconst 1, 1) := by decide +kernel
theorem dOp_addsToUpper_25 : decode ccOp_addsToUpper 25 = .ok (.goto 4, 3) := by decide +kernel
theorem dOp_addsToUpper_28 : decode ccOp_addsToUpper 28 = .ok (.iconst 0, 1) := by decide +kernel
theorem dOp_addsToUpper_29 : decode ccOp_addsToUpper 29 = .ok (.ireturn, 1) := by decide +kernel
def fOp_addsToUpper (o : Int32) : Bool :=
  (if o = (10 : Int32) then true else (if o = (11 : Int32) then true else (if o = (60 : Int32) then true else (if o = (61 : Int32) then true else false))))
set_option maxHeartbeats 4000000 in
set_option maxRecDepth 100000 in
theorem kOp_addsToUpper (l : Launch) (o : Int32)  : Met l yOp_addsToUpper wsOp_addsToUpper { frames := 0, cells := 0, slots := 0, locals := 0 } (va_Pc [.int (o)] (fun _ => True)) (cQr (some (.int (bb (fOp_addsToUpper o))))) 0 0 (fun _ => False) := by
  refine Met.ofW (cc := ccOp_addsToUpper) (maxL := 1) (ret := (some .boolean)) (by decide +kernel) rfl ?_
  intro p e s m args below meth c s₁ B hml hv
  obtain ⟨rfl, -⟩ := hv
  have hx := B.exec
  have hb := B.bytes
  have hr := B.returns
  have hts := atoms_spec (ws := wsOp_addsToUpper) B.pre
  have hown : s.vm.findClass ROp = some m.cls := findClass_of_methodNamed B.named
  have hlocks := B.notSynchronized
  have hl := lv_entry ([.int (o)]) (n := 1) (Nat.le_of_ble_eq_true rfl)
  rw [lg_entry_eq]
  generalize (lg_sl ([.int (o)]) ++ List.replicate (1 - (lg_sl ([.int (o)])).length) Slot.unset).toArray = ls at hl ⊢
  have hl : lv_has ls 1 [(0, .int (o))] := hl
  have hR := fOp_addsToUpper.eq_1 o
  refine lv_iload_n hx hb dOp_addsToUpper_0 rfl (lv_at hl 0 rfl) ?_
  refine lv_bipush (v := 10) hx hb dOp_addsToUpper_1 (by decide) ?_
  refine lv_icmp_eq hx hb dOp_addsToUpper_3 rfl (fun h3 => ?_) (fun h3 => ?_)
  · have hR := hR.trans (if_pos h3)
    refine lv_iconst (v := 1) hx hb dOp_addsToUpper_24 (by decide) ?_
    refine lv_goto hx hb dOp_addsToUpper_25 rfl ?_
    exact W.zret hx hb hr rfl (fun t ht _ => ⟨by rw [hR]; first | done | rfl, ht⟩) (fun _ h => absurd h List.not_mem_nil) dOp_addsToUpper_29
  · have hR := hR.trans (if_neg h3)
    refine lv_iload_n hx hb dOp_addsToUpper_6 rfl (lv_at hl 0 rfl) ?_
    refine lv_bipush (v := 11) hx hb dOp_addsToUpper_7 (by decide) ?_
    refine lv_icmp_eq hx hb dOp_addsToUpper_9 rfl (fun h9 => ?_) (fun h9 => ?_)
    · have hR := hR.trans (if_pos h9)
      refine lv_iconst (v := 1) hx hb dOp_addsToUpper_24 (by decide) ?_
      refine lv_goto hx hb dOp_addsToUpper_25 rfl ?_
      exact W.zret hx hb hr rfl (fun t ht _ => ⟨by rw [hR]; first | done | rfl, ht⟩) (fun _ h => absurd h List.not_mem_nil) dOp_addsToUpper_29
    · have hR := hR.trans (if_neg h9)
      refine lv_iload_n hx hb dOp_addsToUpper_12 rfl (lv_at hl 0 rfl) ?_
      refine lv_bipush (v := 60) hx hb dOp_addsToUpper_13 (by decide) ?_
      refine lv_icmp_eq hx hb dOp_addsToUpper_15 rfl (fun h15 => ?_) (fun h15 => ?_)
      · have hR := hR.trans (if_pos h15)
        refine lv_iconst (v := 1) hx hb dOp_addsToUpper_24 (by decide) ?_
        refine lv_goto hx hb dOp_addsToUpper_25 rfl ?_
        exact W.zret hx hb hr rfl (fun t ht _ => ⟨by rw [hR]; first | done | rfl, ht⟩) (fun _ h => absurd h List.not_mem_nil) dOp_addsToUpper_29
      · have hR := hR.trans (if_neg h15)
        refine lv_iload_n hx hb dOp_addsToUpper_18 rfl (lv_at hl 0 rfl) ?_
        refine lv_bipush (v := 61) hx hb dOp_addsToUpper_19 (by decide) ?_
        refine lv_icmp_ne hx hb dOp_addsToUpper_21 rfl (fun h21 => ?_) (fun h21 => ?_)
        · have hR := hR.trans (if_neg h21)
          refine lv_iconst (v := 0) hx hb dOp_addsToUpper_28 (by decide) ?_
          exact W.zret hx hb hr rfl (fun t ht _ => ⟨by rw [hR]; first | done | rfl, ht⟩) (fun _ h => absurd h List.not_mem_nil) dOp_addsToUpper_29
        · have hR := hR.trans (if_pos h21)
          refine lv_iconst (v := 1) hx hb dOp_addsToUpper_24 (by decide) ?_
          refine lv_goto hx hb dOp_addsToUpper_25 rfl ?_
          exact W.zret hx hb hr rfl (fun t ht _ => ⟨by rw [hR]; first | done | rfl, ht⟩) (fun _ h => absurd h List.not_mem_nil) dOp_addsToUpper_29
theorem dOp_subtracts_0 : decode ccOp_subtracts 0 = .ok (.iload_n 0, 1) := by decide +kernel
theorem dOp_subtracts_1 : decode ccOp_subtracts 1 = .ok (.bipush 11, 2) := by decide +kernel
theorem dOp_subtracts_3 : decode ccOp_subtracts 3 = .ok (.if_icmp .eq 21, 3) := by decide +kernel
theorem dOp_subtracts_6 : decode ccOp_subtracts 6 = .ok (.iload_n 0, 1) := by decide +kernel
theorem dOp_subtracts_7 : decode ccOp_subtracts 7 = .ok (.bipush 16, 2) := by decide +kernel
theorem dOp_subtracts_9 : decode ccOp_subtracts 9 = .ok (.if_icmp .eq 15, 3) := by decide +kernel
theorem dOp_subtracts_12 : decode ccOp_subtracts 12 = .ok (.iload_n 0, 1) := by decide +kernel
theorem dOp_subtracts_13 : decode ccOp_subtracts 13 = .ok (.bipush 61, 2) := by decide +kernel
theorem dOp_subtracts_15 : decode ccOp_subtracts 15 = .ok (.if_icmp .eq 9, 3) := by decide +kernel
theorem dOp_subtracts_18 : decode ccOp_subtracts 18 = .ok (.iload_n 0, 1) := by decide +kernel
theorem dOp_subtracts_19 : decode ccOp_subtracts 19 = .ok (.bipush 66, 2) := by decide +kernel
theorem dOp_subtracts_21 : decode ccOp_subtracts 21 = .ok (.if_icmp .ne 7, 3) := by decide +kernel
theorem dOp_subtracts_24 : decode ccOp_subtracts 24 = .ok (.iconst 1, 1) := by decide +kernel
theorem dOp_subtracts_25 : decode ccOp_subtracts 25 = .ok (.goto 4, 3) := by decide +kernel
theorem dOp_subtracts_28 : decode ccOp_subtracts 28 = .ok (.iconst 0, 1) := by decide +kernel
theorem dOp_subtracts_29 : decode ccOp_subtracts 29 = .ok (.ireturn, 1) := by decide +kernel
def fOp_subtracts (o : Int32) : Bool :=
  (if o = (11 : Int32) then true else (if o = (16 : Int32) then true else (if o = (61 : Int32) then true else (if o = (66 : Int32) then true else false))))
set_option maxHeartbeats 4000000 in
set_option maxRecDepth 100000 in
theorem kOp_subtracts (l : Launch) (o : Int32)  : Met l yOp_subtracts wsOp_subtracts { frames := 0, cells := 0, slots := 0, locals := 0 } (va_Pc [.int (o)] (fun _ => True)) (cQr (some (.int (bb (fOp_subtracts o))))) 0 0 (fun _ => False) := by
  refine Met.ofW (cc := ccOp_subtracts) (maxL := 1) (ret := (some .boolean)) (by decide +kernel) rfl ?_
  intro p e s m args below meth c s₁ B hml hv
  obtain ⟨rfl, -⟩ := hv
  have hx := B.exec
  have hb := B.bytes
  have hr := B.returns
  have hts := atoms_spec (ws := wsOp_subtracts) B.pre
  have hown : s.vm.findClass ROp = some m.cls := findClass_of_methodNamed B.named
  have hlocks := B.notSynchronized
  have hl := lv_entry ([.int (o)]) (n := 1) (Nat.le_of_ble_eq_true rfl)
  rw [lg_entry_eq]
  generalize (lg_sl ([.int (o)]) ++ List.replicate (1 - (lg_sl ([.int (o)])).length) Slot.unset).toArray = ls at hl ⊢
  have hl : lv_has ls 1 [(0, .int (o))] := hl
  have hR := fOp_subtracts.eq_1 o
  refine lv_iload_n hx hb dOp_subtracts_0 rfl (lv_at hl 0 rfl) ?_
  refine lv_bipush (v := 11) hx hb dOp_subtracts_1 (by decide) ?_
  refine lv_icmp_eq hx hb dOp_subtracts_3 rfl (fun h3 => ?_) (fun h3 => ?_)
  · have hR := hR.trans (if_pos h3)
    refine lv_iconst (v := 1) hx hb dOp_subtracts_24 (by decide) ?_
    refine lv_goto hx hb dOp_subtracts_25 rfl ?_
    exact W.zret hx hb hr rfl (fun t ht _ => ⟨by rw [hR]; first | done | rfl, ht⟩) (fun _ h => absurd h List.not_mem_nil) dOp_subtracts_29
  · have hR := hR.trans (if_neg h3)
    refine lv_iload_n hx hb dOp_subtracts_6 rfl (lv_at hl 0 rfl) ?_
    refine lv_bipush (v := 16) hx hb dOp_subtracts_7 (by decide) ?_
    refine lv_icmp_eq hx hb dOp_subtracts_9 rfl (fun h9 => ?_) (fun h9 => ?_)
    · have hR := hR.trans (if_pos h9)
      refine lv_iconst (v := 1) hx hb dOp_subtracts_24 (by decide) ?_
      refine lv_goto hx hb dOp_subtracts_25 rfl ?_
      exact W.zret hx hb hr rfl (fun t ht _ => ⟨by rw [hR]; first | done | rfl, ht⟩) (fun _ h => absurd h List.not_mem_nil) dOp_subtracts_29
    · have hR := hR.trans (if_neg h9)
      refine lv_iload_n hx hb dOp_subtracts_12 rfl (lv_at hl 0 rfl) ?_
      refine lv_bipush (v := 61) hx hb dOp_subtracts_13 (by decide) ?_
      refine lv_icmp_eq hx hb dOp_subtracts_15 rfl (fun h15 => ?_) (fun h15 => ?_)
      · have hR := hR.trans (if_pos h15)
        refine lv_iconst (v := 1) hx hb dOp_subtracts_24 (by decide) ?_
        refine lv_goto hx hb dOp_subtracts_25 rfl ?_
        exact W.zret hx hb hr rfl (fun t ht _ => ⟨by rw [hR]; first | done | rfl, ht⟩) (fun _ h => absurd h List.not_mem_nil) dOp_subtracts_29
      · have hR := hR.trans (if_neg h15)
        refine lv_iload_n hx hb dOp_subtracts_18 rfl (lv_at hl 0 rfl) ?_
        refine lv_bipush (v := 66) hx hb dOp_subtracts_19 (by decide) ?_
        refine lv_icmp_ne hx hb dOp_subtracts_21 rfl (fun h21 => ?_) (fun h21 => ?_)
        · have hR := hR.trans (if_neg h21)
          refine lv_iconst (v := 0) hx hb dOp_subtracts_28 (by decide) ?_
          exact W.zret hx hb hr rfl (fun t ht _ => ⟨by rw [hR]; first | done | rfl, ht⟩) (fun _ h => absurd h List.not_mem_nil) dOp_subtracts_29
        · have hR := hR.trans (if_pos h21)
          refine lv_iconst (v := 1) hx hb dOp_subtracts_24 (by decide) ?_
          refine lv_goto hx hb dOp_subtracts_25 rfl ?_
          exact W.zret hx hb hr rfl (fun t ht _ => ⟨by rw [hR]; first | done | rfl, ht⟩) (fun _ h => absurd h List.not_mem_nil) dOp_subtracts_29
theorem dOp_resetsFirst_0 : decode ccOp_resetsFirst 0 = .ok (.iload_n 0, 1) := by decide +kernel
theorem dOp_resetsFirst_1 : decode ccOp_resetsFirst 1 = .ok (.bipush 60, 2) := by decide +kernel
theorem dOp_resetsFirst_3 : decode ccOp_resetsFirst 3 = .ok (.if_icmp .eq 27, 3) := by decide +kernel
theorem dOp_resetsFirst_6 : decode ccOp_resetsFirst 6 = .ok (.iload_n 0, 1) := by decide +kernel
theorem dOp_resetsFirst_7 : decode ccOp_resetsFirst 7 = .ok (.bipush 61, 2) := by decide +kernel
theorem dOp_resetsFirst_9 : decode ccOp_resetsFirst 9 = .ok (.if_icmp .eq 21, 3) := by decide +kernel
theorem dOp_resetsFirst_12 : decode ccOp_resetsFirst 12 = .ok (.iload_n 0, 1) := by decide +kernel
theorem dOp_resetsFirst_13 : decode ccOp_resetsFirst 13 = .ok (.bipush 65, 2) := by decide +kernel
theorem dOp_resetsFirst_15 : decode ccOp_resetsFirst 15 = .ok (.if_icmp .eq 15, 3) := by decide +kernel
theorem dOp_resetsFirst_18 : decode ccOp_resetsFirst 18 = .ok (.iload_n 0, 1) := by decide +kernel
theorem dOp_resetsFirst_19 : decode ccOp_resetsFirst 19 = .ok (.bipush 66, 2) := by decide +kernel
theorem dOp_resetsFirst_21 : decode ccOp_resetsFirst 21 = .ok (.if_icmp .eq 9, 3) := by decide +kernel
theorem dOp_resetsFirst_24 : decode ccOp_resetsFirst 24 = .ok (.iload_n 0, 1) := by decide +kernel
theorem dOp_resetsFirst_25 : decode ccOp_resetsFirst 25 = .ok (.bipush 67, 2) := by decide +kernel
theorem dOp_resetsFirst_27 : decode ccOp_resetsFirst 27 = .ok (.if_icmp .ne 7, 3) := by decide +kernel
theorem dOp_resetsFirst_30 : decode ccOp_resetsFirst 30 = .ok (.iconst 1, 1) := by decide +kernel
theorem dOp_resetsFirst_31 : decode ccOp_resetsFirst 31 = .ok (.goto 4, 3) := by decide +kernel
theorem dOp_resetsFirst_34 : decode ccOp_resetsFirst 34 = .ok (.iconst 0, 1) := by decide +kernel
theorem dOp_resetsFirst_35 : decode ccOp_resetsFirst 35 = .ok (.ireturn, 1) := by decide +kernel
def fOp_resetsFirst (o : Int32) : Bool :=
  (if o = (60 : Int32) then true else (if o = (61 : Int32) then true else (if o = (65 : Int32) then true else (if o = (66 : Int32) then true else (if o = (67 : Int32) then true else false)))))
set_option maxHeartbeats 4000000 in
set_option maxRecDepth 100000 in
theorem kOp_resetsFirst (l : Launch) (o : Int32)  : Met l yOp_resetsFirst wsOp_resetsFirst { frames := 0, cells := 0, slots := 0, locals := 0 } (va_Pc [.int (o)] (fun _ => True)) (cQr (some (.int (bb (fOp_resetsFirst o))))) 0 0 (fun _ => False) := by
  refine Met.ofW (cc := ccOp_resetsFirst) (maxL := 1) (ret := (some .boolean)) (by decide +kernel) rfl ?_
  intro p e s m args below meth c s₁ B hml hv
  obtain ⟨rfl, -⟩ := hv
  have hx := B.exec
  have hb := B.bytes
  have hr := B.returns
  have hts := atoms_spec (ws := wsOp_resetsFirst) B.pre
  have hown : s.vm.findClass ROp = some m.cls := findClass_of_methodNamed B.named
  have hlocks := B.notSynchronized
  have hl := lv_entry ([.int (o)]) (n := 1) (Nat.le_of_ble_eq_true rfl)
  rw [lg_entry_eq]
  generalize (lg_sl ([.int (o)]) ++ List.replicate (1 - (lg_sl ([.int (o)])).length) Slot.unset).toArray = ls at hl ⊢
  have hl : lv_has ls 1 [(0, .int (o))] := hl
  have hR := fOp_resetsFirst.eq_1 o
  refine lv_iload_n hx hb dOp_resetsFirst_0 rfl (lv_at hl 0 rfl) ?_
  refine lv_bipush (v := 60) hx hb dOp_resetsFirst_1 (by decide) ?_
  refine lv_icmp_eq hx hb dOp_resetsFirst_3 rfl (fun h3 => ?_) (fun h3 => ?_)
  · have hR := hR.trans (if_pos h3)
    refine lv_iconst (v := 1) hx hb dOp_resetsFirst_30 (by decide) ?_
    refine lv_goto hx hb dOp_resetsFirst_31 rfl ?_
    exact W.zret hx hb hr rfl (fun t ht _ => ⟨by rw [hR]; first | done | rfl, ht⟩) (fun _ h => absurd h List.not_mem_nil) dOp_resetsFirst_35
  · have hR := hR.trans (if_neg h3)
    refine lv_iload_n hx hb dOp_resetsFirst_6 rfl (lv_at hl 0 rfl) ?_
    refine lv_bipush (v := 61) hx hb dOp_resetsFirst_7 (by decide) ?_
    refine lv_icmp_eq hx hb dOp_resetsFirst_9 rfl (fun h9 => ?_) (fun h9 => ?_)
    · have hR := hR.trans (if_pos h9)
      refine lv_iconst (v := 1) hx hb dOp_resetsFirst_30 (by decide) ?_
      refine lv_goto hx hb dOp_resetsFirst_31 rfl ?_
      exact W.zret hx hb hr rfl (fun t ht _ => ⟨by rw [hR]; first | done | rfl, ht⟩) (fun _ h => absurd h List.not_mem_nil) dOp_resetsFirst_35
    · have hR := hR.trans (if_neg h9)
      refine lv_iload_n hx hb dOp_resetsFirst_12 rfl (lv_at hl 0 rfl) ?_
      refine lv_bipush (v := 65) hx hb dOp_resetsFirst_13 (by decide) ?_
      refine lv_icmp_eq hx hb dOp_resetsFirst_15 rfl (fun h15 => ?_) (fun h15 => ?_)
      · have hR := hR.trans (if_pos h15)
        refine lv_iconst (v := 1) hx hb dOp_resetsFirst_30 (by decide) ?_
        refine lv_goto hx hb dOp_resetsFirst_31 rfl ?_
        exact W.zret hx hb hr rfl (fun t ht _ => ⟨by rw [hR]; first | done | rfl, ht⟩) (fun _ h => absurd h List.not_mem_nil) dOp_resetsFirst_35
      · have hR := hR.trans (if_neg h15)
        refine lv_iload_n hx hb dOp_resetsFirst_18 rfl (lv_at hl 0 rfl) ?_
        refine lv_bipush (v := 66) hx hb dOp_resetsFirst_19 (by decide) ?_
        refine lv_icmp_eq hx hb dOp_resetsFirst_21 rfl (fun h21 => ?_) (fun h21 => ?_)
        · have hR := hR.trans (if_pos h21)
          refine lv_iconst (v := 1) hx hb dOp_resetsFirst_30 (by decide) ?_
          refine lv_goto hx hb dOp_resetsFirst_31 rfl ?_
          exact W.zret hx hb hr rfl (fun t ht _ => ⟨by rw [hR]; first | done | rfl, ht⟩) (fun _ h => absurd h List.not_mem_nil) dOp_resetsFirst_35
        · have hR := hR.trans (if_neg h21)
          refine lv_iload_n hx hb dOp_resetsFirst_24 rfl (lv_at hl 0 rfl) ?_
          refine lv_bipush (v := 67) hx hb dOp_resetsFirst_25 (by decide) ?_
          refine lv_icmp_ne hx hb dOp_resetsFirst_27 rfl (fun h27 => ?_) (fun h27 => ?_)
          · have hR := hR.trans (if_neg h27)
            refine lv_iconst (v := 0) hx hb dOp_resetsFirst_34 (by decide) ?_
            exact W.zret hx hb hr rfl (fun t ht _ => ⟨by rw [hR]; first | done | rfl, ht⟩) (fun _ h => absurd h List.not_mem_nil) dOp_resetsFirst_35
          · have hR := hR.trans (if_pos h27)
            refine lv_iconst (v := 1) hx hb dOp_resetsFirst_30 (by decide) ?_
            refine lv_goto hx hb dOp_resetsFirst_31 rfl ?_
            exact W.zret hx hb hr rfl (fun t ht _ => ⟨by rw [hR]; first | done | rfl, ht⟩) (fun _ h => absurd h List.not_mem_nil) dOp_resetsFirst_35
theorem dOp_shiftLength_0 : decode ccOp_shiftLength 0 = .ok (.iload_n 1, 1) := by decide +kernel
theorem dOp_shiftLength_1 : decode ccOp_shiftLength 1 = .ok (.bipush 10, 2) := by decide +kernel
theorem dOp_shiftLength_3 : decode ccOp_shiftLength 3 = .ok (.irem, 1) := by decide +kernel
theorem dOp_shiftLength_4 : decode ccOp_shiftLength 4 = .ok (.istore_n 2, 1) := by decide +kernel
theorem dOp_shiftLength_5 : decode ccOp_shiftLength 5 = .ok (.iload_n 0, 1) := by decide +kernel
theorem dOp_shiftLength_6 : decode ccOp_shiftLength 6 = .ok (.bipush 31, 2) := by decide +kernel
theorem dOp_shiftLength_8 : decode ccOp_shiftLength 8 = .ok (.if_icmp .ne 12, 3) := by decide +kernel
theorem dOp_shiftLength_11 : decode ccOp_shiftLength 11 = .ok (.iload_n 2, 1) := by decide +kernel
theorem dOp_shiftLength_12 : decode ccOp_shiftLength 12 = .ok (.ifCond .ne 8, 3) := by decide +kernel
theorem dOp_shiftLength_15 : decode ccOp_shiftLength 15 = .ok (.bipush 10, 2) := by decide +kernel
theorem dOp_shiftLength_17 : decode ccOp_shiftLength 17 = .ok (.goto 4, 3) := by decide +kernel
theorem dOp_shiftLength_20 : decode ccOp_shiftLength 20 = .ok (.iload_n 2, 1) := by decide +kernel
theorem dOp_shiftLength_21 : decode ccOp_shiftLength 21 = .ok (.ireturn, 1) := by decide +kernel
def fOp_shiftLength (o : Int32) (d : Int32) : Int32 :=
  (if o = (31 : Int32) then (if (d % 10) = 0 then 10 else d % 10) else d % 10)
set_option maxHeartbeats 4000000 in
set_option maxRecDepth 100000 in
theorem kOp_shiftLength (l : Launch) (o : Int32) (d : Int32)  : Met l yOp_shiftLength wsOp_shiftLength { frames := 0, cells := 0, slots := 0, locals := 0 } (va_Pc [.int (o), .int (d)] (fun _ => True)) (cQr (some (.int (fOp_shiftLength o d)))) 0 0 (fun _ => False) := by
  refine Met.ofW (cc := ccOp_shiftLength) (maxL := 3) (ret := (some .int)) (by decide +kernel) rfl ?_
  intro p e s m args below meth c s₁ B hml hv
  obtain ⟨rfl, -⟩ := hv
  have hx := B.exec
  have hb := B.bytes
  have hr := B.returns
  have hts := atoms_spec (ws := wsOp_shiftLength) B.pre
  have hown : s.vm.findClass ROp = some m.cls := findClass_of_methodNamed B.named
  have hlocks := B.notSynchronized
  have hl := lv_entry ([.int (o), .int (d)]) (n := 3) (Nat.le_of_ble_eq_true rfl)
  rw [lg_entry_eq]
  generalize (lg_sl ([.int (o), .int (d)]) ++ List.replicate (3 - (lg_sl ([.int (o), .int (d)])).length) Slot.unset).toArray = ls at hl ⊢
  have hl : lv_has ls 3 [(0, .int (o)), (1, .int (d))] := hl
  have hR := fOp_shiftLength.eq_1 o d
  refine lv_iload_n hx hb dOp_shiftLength_0 rfl (lv_at hl 1 rfl) ?_
  refine lv_bipush (v := 10) hx hb dOp_shiftLength_1 (by decide) ?_
  refine lm_irem hx hb dOp_shiftLength_3 (by decide) ?_
  refine lv_istore_n (lv' := [(2, .int (d % 10)), (0, .int (o)), (1, .int (d))]) hx hb dOp_shiftLength_4 rfl hl (by decide) rfl (fun ls hl => ?_)
  refine lv_iload_n hx hb dOp_shiftLength_5 rfl (lv_at hl 1 rfl) ?_
  refine lv_bipush (v := 31) hx hb dOp_shiftLength_6 (by decide) ?_
  refine lv_icmp_ne hx hb dOp_shiftLength_8 rfl (fun h8 => ?_) (fun h8 => ?_)
  · have hR := hR.trans (if_neg h8)
    refine lv_iload_n hx hb dOp_shiftLength_20 rfl (lv_at hl 0 rfl) ?_
    exact W.iret hx hb hr (fun t ht _ => ⟨by rw [hR]; first | done | rfl, ht⟩) (fun _ h => absurd h List.not_mem_nil) dOp_shiftLength_21
  · have hR := hR.trans (if_pos h8)
    refine lv_iload_n hx hb dOp_shiftLength_11 rfl (lv_at hl 0 rfl) ?_
    refine lv_if_ne hx hb dOp_shiftLength_12 rfl (fun h12 => ?_) (fun h12 => ?_)
    · have hR := hR.trans (if_neg h12)
      refine lv_iload_n hx hb dOp_shiftLength_20 rfl (lv_at hl 0 rfl) ?_
      exact W.iret hx hb hr (fun t ht _ => ⟨by rw [hR]; first | done | rfl, ht⟩) (fun _ h => absurd h List.not_mem_nil) dOp_shiftLength_21
    · have hR := hR.trans (if_pos h12)
      refine lv_bipush (v := 10) hx hb dOp_shiftLength_15 (by decide) ?_
      refine lv_goto hx hb dOp_shiftLength_17 rfl ?_
      exact W.iret hx hb hr (fun t ht _ => ⟨by rw [hR]; first | done | rfl, ht⟩) (fun _ h => absurd h List.not_mem_nil) dOp_shiftLength_21
theorem dOp_fixedTime_0 : decode ccOp_fixedTime 0 = .ok (.iload_n 0, 1) := by decide +kernel
theorem dOp_fixedTime_1 : decode ccOp_fixedTime 1 = .ok (.invokestatic 13, 3) := by decide +kernel
theorem dOp_fixedTime_4 : decode ccOp_fixedTime 4 = .ok (.istore_n 2, 1) := by decide +kernel
theorem dOp_fixedTime_5 : decode ccOp_fixedTime 5 = .ok (.iload_n 2, 1) := by decide +kernel
theorem dOp_fixedTime_6 : decode ccOp_fixedTime 6 = .ok (.iconst 4, 1) := by decide +kernel
theorem dOp_fixedTime_7 : decode ccOp_fixedTime 7 = .ok (.if_icmp .ne 5, 3) := by decide +kernel
theorem dOp_fixedTime_10 : decode ccOp_fixedTime 10 = .ok (.iconst 2, 1) := by decide +kernel
theorem dOp_fixedTime_11 : decode ccOp_fixedTime 11 = .ok (.ireturn, 1) := by decide +kernel
theorem dOp_fixedTime_12 : decode ccOp_fixedTime 12 = .ok (.iload_n 2, 1) := by decide +kernel
theorem dOp_fixedTime_13 : decode ccOp_fixedTime 13 = .ok (.iconst 2, 1) := by decide +kernel
theorem dOp_fixedTime_14 : decode ccOp_fixedTime 14 = .ok (.if_icmp .ne 23, 3) := by decide +kernel
theorem dOp_fixedTime_17 : decode ccOp_fixedTime 17 = .ok (.iload_n 0, 1) := by decide +kernel
theorem dOp_fixedTime_18 : decode ccOp_fixedTime 18 = .ok (.bipush 31, 2) := by decide +kernel
theorem dOp_fixedTime_20 : decode ccOp_fixedTime 20 = .ok (.if_icmp .ne 7, 3) := by decide +kernel
theorem dOp_fixedTime_23 : decode ccOp_fixedTime 23 = .ok (.iconst 1, 1) := by decide +kernel
theorem dOp_fixedTime_24 : decode ccOp_fixedTime 24 = .ok (.goto 4, 3) := by decide +kernel
theorem dOp_fixedTime_27 : decode ccOp_fixedTime 27 = .ok (.iconst 0, 1) := by decide +kernel
theorem dOp_fixedTime_28 : decode ccOp_fixedTime 28 = .ok (.istore_n 3, 1) := by decide +kernel
theorem dOp_fixedTime_29 : decode ccOp_fixedTime 29 = .ok (.iload_n 0, 1) := by decide +kernel
theorem dOp_fixedTime_30 : decode ccOp_fixedTime 30 = .ok (.iload_n 1, 1) := by decide +kernel
theorem dOp_fixedTime_31 : decode ccOp_fixedTime 31 = .ok (.invokestatic 17, 3) := by decide +kernel
theorem dOp_fixedTime_34 : decode ccOp_fixedTime 34 = .ok (.iload_n 3, 1) := by decide +kernel
theorem dOp_fixedTime_35 : decode ccOp_fixedTime 35 = .ok (.iadd, 1) := by decide +kernel
theorem dOp_fixedTime_36 : decode ccOp_fixedTime 36 = .ok (.ireturn, 1) := by decide +kernel
theorem dOp_fixedTime_37 : decode ccOp_fixedTime 37 = .ok (.iload_n 0, 1) := by decide +kernel
theorem dOp_fixedTime_38 : decode ccOp_fixedTime 38 = .ok (.lookupswitch 48 #[(14, 42), (19, 42), (70, 45), (71, 45)], 42) := by decide +kernel
theorem dOp_fixedTime_80 : decode ccOp_fixedTime 80 = .ok (.bipush 20, 2) := by decide +kernel
theorem dOp_fixedTime_82 : decode ccOp_fixedTime 82 = .ok (.ireturn, 1) := by decide +kernel
theorem dOp_fixedTime_83 : decode ccOp_fixedTime 83 = .ok (.bipush 10, 2) := by decide +kernel
theorem dOp_fixedTime_85 : decode ccOp_fixedTime 85 = .ok (.ireturn, 1) := by decide +kernel
theorem dOp_fixedTime_86 : decode ccOp_fixedTime 86 = .ok (.iconst 0, 1) := by decide +kernel
theorem dOp_fixedTime_87 : decode ccOp_fixedTime 87 = .ok (.ireturn, 1) := by decide +kernel
def fOp_fixedTime_28  (s0 : Bool) (o : Int32) (d : Int32) : Int32 :=
  (fOp_shiftLength o d) + (bb (s0))
def fOp_fixedTime (o : Int32) (d : Int32) : Int32 :=
  (if (fOp_kindOf o) = (4 : Int32) then 2 else (if (fOp_kindOf o) = (2 : Int32) then (if o = (31 : Int32) then fOp_fixedTime_28 true o d else fOp_fixedTime_28 false o d) else (if o = 14 then 20 else (if o = 19 then 20 else (if o = 70 then 10 else (if o = 71 then 10 else 0))))))
set_option maxHeartbeats 4000000 in
set_option maxRecDepth 100000 in
theorem kOp_fixedTime (l : Launch) (o : Int32) (d : Int32)  : Met l yOp_fixedTime wsOp_fixedTime { frames := 2, cells := 0, slots := 0, locals := 40 } (va_Pc [.int (o), .int (d)] (fun _ => True)) (cQr (some (.int (fOp_fixedTime o d)))) 0 0 (fun _ => False) := by
  refine Met.ofW (cc := ccOp_fixedTime) (maxL := 4) (ret := (some .int)) (by decide +kernel) rfl ?_
  intro p e s m args below meth c s₁ B hml hv
  obtain ⟨rfl, -⟩ := hv
  have hx := B.exec
  have hb := B.bytes
  have hr := B.returns
  have hts := atoms_spec (ws := wsOp_fixedTime) B.pre
  have hown : s.vm.findClass ROp = some m.cls := findClass_of_methodNamed B.named
  have hlocks := B.notSynchronized
  have hl := lv_entry ([.int (o), .int (d)]) (n := 4) (Nat.le_of_ble_eq_true rfl)
  rw [lg_entry_eq]
  generalize (lg_sl ([.int (o), .int (d)]) ++ List.replicate (4 - (lg_sl ([.int (o), .int (d)])).length) Slot.unset).toArray = ls at hl ⊢
  have hl : lv_has ls 4 [(0, .int (o)), (1, .int (d))] := hl
  have hB28 : ∀ (ls : Array Slot) (s0 : Bool), fOp_fixedTime o d = fOp_fixedTime_28 s0 o d → lv_has ls 4 [(0, .int (o)), (1, .int (d))] → W p l e (headSpec wsOp_fixedTime { frames := 2, cells := 0, slots := 0, locals := 40 }).room s m ([.int (o), .int (d)] : List Value).toArray below meth c s.heap [] 0 0 (MQ below (cQr (some (.int (fOp_fixedTime o d)))) ([.int (o), .int (d)] : List Value).toArray s 0 0 (fun _ => False)) (F0 m 28 ls [.int (bb (s0))]) := by
    intro ls s0 hR hl
    rw [fOp_fixedTime_28.eq_1] at hR
    refine lv_istore_n (lv' := [(3, .int (bb (s0))), (0, .int (o)), (1, .int (d))]) hx hb dOp_fixedTime_28 rfl hl (by decide) rfl (fun ls hl => ?_)
    refine lv_iload_n hx hb dOp_fixedTime_29 rfl (lv_at hl 1 rfl) ?_
    refine lv_iload_n hx hb dOp_fixedTime_30 rfl (lv_at hl 2 rfl) ?_
    refine cl_rd (W.runS (As := [.int (o), .int (d)]) (rest := []) ⟨hx, hb, hml, hown, hts⟩ (kOp_shiftLength l o d) (va_cwS 2 hts (gS wm3_49 wm3_50 wm1_17 wm3_51) rfl rfl rfl (by decide +kernel) ⟨Nat.le_of_ble_eq_true rfl, Nat.le_of_ble_eq_true rfl⟩) (preT) rfl rfl hl.1 rfl (lv_room (Nat.le_of_ble_eq_true rfl)) dOp_fixedTime_31 ⟨Nat.le_refl _, Nat.le_refl _⟩) ?_
    refine lv_iload_n hx hb dOp_fixedTime_34 rfl (lv_at hl 0 rfl) ?_
    refine lv_iadd hx hb dOp_fixedTime_35 ?_
    exact W.iret hx hb hr (fun t ht _ => ⟨by rw [hR]; first | done | rfl, ht⟩) (fun _ h => absurd h List.not_mem_nil) dOp_fixedTime_36
  have hR := fOp_fixedTime.eq_1 o d
  refine lv_iload_n hx hb dOp_fixedTime_0 rfl (lv_at hl 0 rfl) ?_
  refine cl_rd (W.runS (As := [.int (o)]) (rest := []) ⟨hx, hb, hml, hown, hts⟩ (kOp_kindOf l o) (va_cwS 1 hts (gS wm2_180 wm2_181 wm1_17 wm2_182) rfl rfl rfl (by decide +kernel) ⟨Nat.le_of_ble_eq_true rfl, Nat.le_of_ble_eq_true rfl⟩) (preT) rfl rfl hl.1 rfl (lv_room (Nat.le_of_ble_eq_true rfl)) dOp_fixedTime_1 ⟨Nat.le_refl _, Nat.le_refl _⟩) ?_
  refine lv_istore_n (lv' := [(2, .int (fOp_kindOf o)), (0, .int (o)), (1, .int (d))]) hx hb dOp_fixedTime_4 rfl hl (by decide) rfl (fun ls hl => ?_)
  refine lv_iload_n hx hb dOp_fixedTime_5 rfl (lv_at hl 0 rfl) ?_
  refine lv_iconst (v := 4) hx hb dOp_fixedTime_6 (by decide) ?_
  refine lv_icmp_ne hx hb dOp_fixedTime_7 rfl (fun h7 => ?_) (fun h7 => ?_)
  · have hR := hR.trans (if_neg h7)
    refine lv_iload_n hx hb dOp_fixedTime_12 rfl (lv_at hl 0 rfl) ?_
    refine lv_iconst (v := 2) hx hb dOp_fixedTime_13 (by decide) ?_
    refine lv_icmp_ne hx hb dOp_fixedTime_14 rfl (fun h14 => ?_) (fun h14 => ?_)
    · have hR := hR.trans (if_neg h14)
      refine lv_iload_n hx hb dOp_fixedTime_37 rfl (lv_at hl 1 rfl) ?_
      by_cases h38_14 : o = 14
      · have hR := hR.trans (if_pos h38_14)
        refine lv_lookup (off := 42) (tgt := 80) hx hb dOp_fixedTime_38 (by decide) (by rw [h38_14]; decide) rfl ?_
        refine lv_bipush (v := 20) hx hb dOp_fixedTime_80 (by decide) ?_
        exact W.iret hx hb hr (fun t ht _ => ⟨by rw [hR]; first | done | rfl, ht⟩) (fun _ h => absurd h List.not_mem_nil) dOp_fixedTime_82
      · have hR := hR.trans (if_neg h38_14)
        by_cases h38_19 : o = 19
        · have hR := hR.trans (if_pos h38_19)
          refine lv_lookup (off := 42) (tgt := 80) hx hb dOp_fixedTime_38 (by decide) (by rw [h38_19]; decide) rfl ?_
          refine lv_bipush (v := 20) hx hb dOp_fixedTime_80 (by decide) ?_
          exact W.iret hx hb hr (fun t ht _ => ⟨by rw [hR]; first | done | rfl, ht⟩) (fun _ h => absurd h List.not_mem_nil) dOp_fixedTime_82
        · have hR := hR.trans (if_neg h38_19)
          by_cases h38_70 : o = 70
          · have hR := hR.trans (if_pos h38_70)
            refine lv_lookup (off := 45) (tgt := 83) hx hb dOp_fixedTime_38 (by decide) (by rw [h38_70]; decide) rfl ?_
            refine lv_bipush (v := 10) hx hb dOp_fixedTime_83 (by decide) ?_
            exact W.iret hx hb hr (fun t ht _ => ⟨by rw [hR]; first | done | rfl, ht⟩) (fun _ h => absurd h List.not_mem_nil) dOp_fixedTime_85
          · have hR := hR.trans (if_neg h38_70)
            by_cases h38_71 : o = 71
            · have hR := hR.trans (if_pos h38_71)
              refine lv_lookup (off := 45) (tgt := 83) hx hb dOp_fixedTime_38 (by decide) (by rw [h38_71]; decide) rfl ?_
              refine lv_bipush (v := 10) hx hb dOp_fixedTime_83 (by decide) ?_
              exact W.iret hx hb hr (fun t ht _ => ⟨by rw [hR]; first | done | rfl, ht⟩) (fun _ h => absurd h List.not_mem_nil) dOp_fixedTime_85
            · have hR := hR.trans (if_neg h38_71)
              refine lv_lookup (off := 48) (tgt := 86) hx hb dOp_fixedTime_38 (by decide) ((lv_osw (k := 14) h38_14 (by decide)).trans ((lv_osw (k := 19) h38_19 (by decide)).trans ((lv_osw (k := 70) h38_70 (by decide)).trans ((lv_osw (k := 71) h38_71 (by decide)).trans (rfl))))) rfl ?_
              refine lv_iconst (v := 0) hx hb dOp_fixedTime_86 (by decide) ?_
              exact W.iret hx hb hr (fun t ht _ => ⟨by rw [hR]; first | done | rfl, ht⟩) (fun _ h => absurd h List.not_mem_nil) dOp_fixedTime_87
    · have hR := hR.trans (if_pos h14)
      refine lv_iload_n hx hb dOp_fixedTime_17 rfl (lv_at hl 1 rfl) ?_
      refine lv_bipush (v := 31) hx hb dOp_fixedTime_18 (by decide) ?_
      refine lv_icmp_ne hx hb dOp_fixedTime_20 rfl (fun h20 => ?_) (fun h20 => ?_)
      · have hR := hR.trans (if_neg h20)
        refine lv_iconst (v := 0) hx hb dOp_fixedTime_27 (by decide) ?_
        exact hB28 ls false hR (lv_sub hl [1, 2] rfl)
      · have hR := hR.trans (if_pos h20)
        refine lv_iconst (v := 1) hx hb dOp_fixedTime_23 (by decide) ?_
        refine lv_goto hx hb dOp_fixedTime_24 rfl ?_
        exact hB28 ls true hR (lv_sub hl [1, 2] rfl)
  · have hR := hR.trans (if_pos h7)
    refine lv_iconst (v := 2) hx hb dOp_fixedTime_10 (by decide) ?_
    exact W.iret hx hb hr (fun t ht _ => ⟨by rw [hR]; first | done | rfl, ht⟩) (fun _ h => absurd h List.not_mem_nil) dOp_fixedTime_11
