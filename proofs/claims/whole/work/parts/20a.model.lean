theorem dMo_isAddress_0 : decode ccMo_isAddress 0 = .ok (.iload_n 0, 1) := by decide +kernel
theorem dMo_isAddress_1 : decode ccMo_isAddress 1 = .ok (.ifCond .lt 14, 3) := by decide +kernel
theorem dMo_isAddress_4 : decode ccMo_isAddress 4 = .ok (.iload_n 0, 1) := by decide +kernel
theorem dMo_isAddress_5 : decode ccMo_isAddress 5 = .ok (.sipush 200, 3) := by decide +kernel
theorem dMo_isAddress_8 : decode ccMo_isAddress 8 = .ok (.if_icmp .ge 7, 3) := by decide +kernel
theorem dMo_isAddress_11 : decode ccMo_isAddress 11 = .ok (.iconst 1, 1) := by decide +kernel
theorem dMo_isAddress_12 : decode ccMo_isAddress 12 = .ok (.goto 4, 3) := by decide +kernel
theorem dMo_isAddress_15 : decode ccMo_isAddress 15 = .ok (.iconst 0, 1) := by decide +kernel
theorem dMo_isAddress_16 : decode ccMo_isAddress 16 = .ok (.ireturn, 1) := by decide +kernel
def fMo_isAddress (a : Int32) : Bool :=
  (if a < 0 then false else (if (200 : Int32) ≤ a then false else true))
set_option maxHeartbeats 4000000 in
set_option maxRecDepth 100000 in
theorem kMo_isAddress (l : Launch) (a : Int32)  : Met l yMo_isAddress wsMo_isAddress { frames := 0, cells := 0, slots := 0, locals := 0 } (va_Pc [.int (a)] (fun _ => True)) (cQr (some (.int (bb (fMo_isAddress a))))) 0 0 (fun _ => False) := by
  refine Met.ofW (cc := ccMo_isAddress) (maxL := 1) (ret := (some .boolean)) (by decide +kernel) rfl ?_
  intro p e s m args below meth c s₁ B hml hv
  obtain ⟨rfl, -⟩ := hv
  have hx := B.exec
  have hb := B.bytes
  have hr := B.returns
  have hts := atoms_spec (ws := wsMo_isAddress) B.pre
  have hown : s.vm.findClass RMo = some m.cls := findClass_of_methodNamed B.named
  have hlocks := B.notSynchronized
  have hl := lv_entry ([.int (a)]) (n := 1) (Nat.le_of_ble_eq_true rfl)
  rw [lg_entry_eq]
  generalize (lg_sl ([.int (a)]) ++ List.replicate (1 - (lg_sl ([.int (a)])).length) Slot.unset).toArray = ls at hl ⊢
  have hl : lv_has ls 1 [(0, .int (a))] := hl
  have hR := fMo_isAddress.eq_1 a
  refine lv_iload_n hx hb dMo_isAddress_0 rfl (lv_at hl 0 rfl) ?_
  refine lv_if_lt hx hb dMo_isAddress_1 rfl (fun h1 => ?_) (fun h1 => ?_)
  · have hR := hR.trans (if_pos h1)
    refine lv_iconst (v := 0) hx hb dMo_isAddress_15 (by decide) ?_
    exact W.zret hx hb hr rfl (fun t ht _ => ⟨by rw [hR]; first | done | rfl, ht⟩) (fun _ h => absurd h List.not_mem_nil) dMo_isAddress_16
  · have hR := hR.trans (if_neg h1)
    refine lv_iload_n hx hb dMo_isAddress_4 rfl (lv_at hl 0 rfl) ?_
    refine lv_sipush (v := 200) hx hb dMo_isAddress_5 (by decide) ?_
    refine lv_icmp_ge hx hb dMo_isAddress_8 rfl (fun h8 => ?_) (fun h8 => ?_)
    · have hR := hR.trans (if_pos h8)
      refine lv_iconst (v := 0) hx hb dMo_isAddress_15 (by decide) ?_
      exact W.zret hx hb hr rfl (fun t ht _ => ⟨by rw [hR]; first | done | rfl, ht⟩) (fun _ h => absurd h List.not_mem_nil) dMo_isAddress_16
    · have hR := hR.trans (if_neg h8)
      refine lv_iconst (v := 1) hx hb dMo_isAddress_11 (by decide) ?_
      refine lv_goto hx hb dMo_isAddress_12 rfl ?_
      exact W.zret hx hb hr rfl (fun t ht _ => ⟨by rw [hR]; first | done | rfl, ht⟩) (fun _ h => absurd h List.not_mem_nil) dMo_isAddress_16
theorem dMo_reads_0 : decode ccMo_reads 0 = .ok (.iload_n 0, 1) := by decide +kernel
theorem dMo_reads_1 : decode ccMo_reads 1 = .ok (.bipush 10, 2) := by decide +kernel
theorem dMo_reads_3 : decode ccMo_reads 3 = .ok (.if_icmp .eq 75, 3) := by decide +kernel
theorem dMo_reads_6 : decode ccMo_reads 6 = .ok (.iload_n 0, 1) := by decide +kernel
theorem dMo_reads_7 : decode ccMo_reads 7 = .ok (.bipush 11, 2) := by decide +kernel
theorem dMo_reads_9 : decode ccMo_reads 9 = .ok (.if_icmp .eq 69, 3) := by decide +kernel
theorem dMo_reads_12 : decode ccMo_reads 12 = .ok (.iload_n 0, 1) := by decide +kernel
theorem dMo_reads_13 : decode ccMo_reads 13 = .ok (.bipush 14, 2) := by decide +kernel
theorem dMo_reads_15 : decode ccMo_reads 15 = .ok (.if_icmp .eq 63, 3) := by decide +kernel
theorem dMo_reads_18 : decode ccMo_reads 18 = .ok (.iload_n 0, 1) := by decide +kernel
theorem dMo_reads_19 : decode ccMo_reads 19 = .ok (.bipush 15, 2) := by decide +kernel
theorem dMo_reads_21 : decode ccMo_reads 21 = .ok (.if_icmp .eq 57, 3) := by decide +kernel
theorem dMo_reads_24 : decode ccMo_reads 24 = .ok (.iload_n 0, 1) := by decide +kernel
theorem dMo_reads_25 : decode ccMo_reads 25 = .ok (.bipush 16, 2) := by decide +kernel
theorem dMo_reads_27 : decode ccMo_reads 27 = .ok (.if_icmp .eq 51, 3) := by decide +kernel
theorem dMo_reads_30 : decode ccMo_reads 30 = .ok (.iload_n 0, 1) := by decide +kernel
theorem dMo_reads_31 : decode ccMo_reads 31 = .ok (.bipush 19, 2) := by decide +kernel
theorem dMo_reads_33 : decode ccMo_reads 33 = .ok (.if_icmp .eq 45, 3) := by decide +kernel
theorem dMo_reads_36 : decode ccMo_reads 36 = .ok (.iload_n 0, 1) := by decide +kernel
theorem dMo_reads_37 : decode ccMo_reads 37 = .ok (.bipush 60, 2) := by decide +kernel
theorem dMo_reads_39 : decode ccMo_reads 39 = .ok (.if_icmp .eq 39, 3) := by decide +kernel
theorem dMo_reads_42 : decode ccMo_reads 42 = .ok (.iload_n 0, 1) := by decide +kernel
theorem dMo_reads_43 : decode ccMo_reads 43 = .ok (.bipush 61, 2) := by decide +kernel
theorem dMo_reads_45 : decode ccMo_reads 45 = .ok (.if_icmp .eq 33, 3) := by decide +kernel
theorem dMo_reads_48 : decode ccMo_reads 48 = .ok (.iload_n 0, 1) := by decide +kernel
theorem dMo_reads_49 : decode ccMo_reads 49 = .ok (.bipush 65, 2) := by decide +kernel
theorem dMo_reads_51 : decode ccMo_reads 51 = .ok (.if_icmp .lt 9, 3) := by decide +kernel
theorem dMo_reads_54 : decode ccMo_reads 54 = .ok (.iload_n 0, 1) := by decide +kernel
theorem dMo_reads_55 : decode ccMo_reads 55 = .ok (.bipush 67, 2) := by decide +kernel
theorem dMo_reads_57 : decode ccMo_reads 57 = .ok (.if_icmp .le 21, 3) := by decide +kernel
theorem dMo_reads_60 : decode ccMo_reads 60 = .ok (.iload_n 0, 1) := by decide +kernel
theorem dMo_reads_61 : decode ccMo_reads 61 = .ok (.bipush 69, 2) := by decide +kernel
theorem dMo_reads_63 : decode ccMo_reads 63 = .ok (.if_icmp .eq 15, 3) := by decide +kernel
theorem dMo_reads_66 : decode ccMo_reads 66 = .ok (.iload_n 0, 1) := by decide +kernel
theorem dMo_reads_67 : decode ccMo_reads 67 = .ok (.bipush 71, 2) := by decide +kernel
theorem dMo_reads_69 : decode ccMo_reads 69 = .ok (.if_icmp .eq 9, 3) := by decide +kernel
theorem dMo_reads_72 : decode ccMo_reads 72 = .ok (.iload_n 0, 1) := by decide +kernel
theorem dMo_reads_73 : decode ccMo_reads 73 = .ok (.bipush 84, 2) := by decide +kernel
theorem dMo_reads_75 : decode ccMo_reads 75 = .ok (.if_icmp .ne 7, 3) := by decide +kernel
theorem dMo_reads_78 : decode ccMo_reads 78 = .ok (.iconst 1, 1) := by decide +kernel
theorem dMo_reads_79 : decode ccMo_reads 79 = .ok (.goto 4, 3) := by decide +kernel
theorem dMo_reads_82 : decode ccMo_reads 82 = .ok (.iconst 0, 1) := by decide +kernel
theorem dMo_reads_83 : decode ccMo_reads 83 = .ok (.ireturn, 1) := by decide +kernel
def fMo_reads_60  (a : Int32) : Bool :=
  (if a = (69 : Int32) then true else (if a = (71 : Int32) then true else (if a = (84 : Int32) then true else false)))
def fMo_reads (a : Int32) : Bool :=
  (if a = (10 : Int32) then true else (if a = (11 : Int32) then true else (if a = (14 : Int32) then true else (if a = (15 : Int32) then true else (if a = (16 : Int32) then true else (if a = (19 : Int32) then true else (if a = (60 : Int32) then true else (if a = (61 : Int32) then true else (if a < (65 : Int32) then fMo_reads_60 a else (if a ≤ (67 : Int32) then true else fMo_reads_60 a))))))))))
set_option maxHeartbeats 4000000 in
set_option maxRecDepth 100000 in
theorem kMo_reads (l : Launch) (a : Int32)  : Met l yMo_reads wsMo_reads { frames := 0, cells := 0, slots := 0, locals := 0 } (va_Pc [.int (a)] (fun _ => True)) (cQr (some (.int (bb (fMo_reads a))))) 0 0 (fun _ => False) := by
  refine Met.ofW (cc := ccMo_reads) (maxL := 1) (ret := (some .boolean)) (by decide +kernel) rfl ?_
  intro p e s m args below meth c s₁ B hml hv
  obtain ⟨rfl, -⟩ := hv
  have hx := B.exec
  have hb := B.bytes
  have hr := B.returns
  have hts := atoms_spec (ws := wsMo_reads) B.pre
  have hown : s.vm.findClass RMo = some m.cls := findClass_of_methodNamed B.named
  have hlocks := B.notSynchronized
  have hl := lv_entry ([.int (a)]) (n := 1) (Nat.le_of_ble_eq_true rfl)
  rw [lg_entry_eq]
  generalize (lg_sl ([.int (a)]) ++ List.replicate (1 - (lg_sl ([.int (a)])).length) Slot.unset).toArray = ls at hl ⊢
  have hl : lv_has ls 1 [(0, .int (a))] := hl
  have hB60 : ∀ (ls : Array Slot), fMo_reads a = fMo_reads_60 a → lv_has ls 1 [(0, .int (a))] → W p l e (headSpec wsMo_reads { frames := 0, cells := 0, slots := 0, locals := 0 }).room s m ([.int (a)] : List Value).toArray below meth c s.heap [] 0 0 (MQ below (cQr (some (.int (bb (fMo_reads a))))) ([.int (a)] : List Value).toArray s 0 0 (fun _ => False)) (F0 m 60 ls []) := by
    intro ls hR hl
    rw [fMo_reads_60.eq_1] at hR
    refine lv_iload_n hx hb dMo_reads_60 rfl (lv_at hl 0 rfl) ?_
    refine lv_bipush (v := 69) hx hb dMo_reads_61 (by decide) ?_
    refine lv_icmp_eq hx hb dMo_reads_63 rfl (fun h63 => ?_) (fun h63 => ?_)
    · have hR := hR.trans (if_pos h63)
      refine lv_iconst (v := 1) hx hb dMo_reads_78 (by decide) ?_
      refine lv_goto hx hb dMo_reads_79 rfl ?_
      exact W.zret hx hb hr rfl (fun t ht _ => ⟨by rw [hR]; first | done | rfl, ht⟩) (fun _ h => absurd h List.not_mem_nil) dMo_reads_83
    · have hR := hR.trans (if_neg h63)
      refine lv_iload_n hx hb dMo_reads_66 rfl (lv_at hl 0 rfl) ?_
      refine lv_bipush (v := 71) hx hb dMo_reads_67 (by decide) ?_
      refine lv_icmp_eq hx hb dMo_reads_69 rfl (fun h69 => ?_) (fun h69 => ?_)
      · have hR := hR.trans (if_pos h69)
        refine lv_iconst (v := 1) hx hb dMo_reads_78 (by decide) ?_
        refine lv_goto hx hb dMo_reads_79 rfl ?_
        exact W.zret hx hb hr rfl (fun t ht _ => ⟨by rw [hR]; first | done | rfl, ht⟩) (fun _ h => absurd h List.not_mem_nil) dMo_reads_83
      · have hR := hR.trans (if_neg h69)
        refine lv_iload_n hx hb dMo_reads_72 rfl (lv_at hl 0 rfl) ?_
        refine lv_bipush (v := 84) hx hb dMo_reads_73 (by decide) ?_
        refine lv_icmp_ne hx hb dMo_reads_75 rfl (fun h75 => ?_) (fun h75 => ?_)
        · have hR := hR.trans (if_neg h75)
          refine lv_iconst (v := 0) hx hb dMo_reads_82 (by decide) ?_
          exact W.zret hx hb hr rfl (fun t ht _ => ⟨by rw [hR]; first | done | rfl, ht⟩) (fun _ h => absurd h List.not_mem_nil) dMo_reads_83
        · have hR := hR.trans (if_pos h75)
          refine lv_iconst (v := 1) hx hb dMo_reads_78 (by decide) ?_
          refine lv_goto hx hb dMo_reads_79 rfl ?_
          exact W.zret hx hb hr rfl (fun t ht _ => ⟨by rw [hR]; first | done | rfl, ht⟩) (fun _ h => absurd h List.not_mem_nil) dMo_reads_83
  have hR := fMo_reads.eq_1 a
  refine lv_iload_n hx hb dMo_reads_0 rfl (lv_at hl 0 rfl) ?_
  refine lv_bipush (v := 10) hx hb dMo_reads_1 (by decide) ?_
  refine lv_icmp_eq hx hb dMo_reads_3 rfl (fun h3 => ?_) (fun h3 => ?_)
  · have hR := hR.trans (if_pos h3)
    refine lv_iconst (v := 1) hx hb dMo_reads_78 (by decide) ?_
    refine lv_goto hx hb dMo_reads_79 rfl ?_
    exact W.zret hx hb hr rfl (fun t ht _ => ⟨by rw [hR]; first | done | rfl, ht⟩) (fun _ h => absurd h List.not_mem_nil) dMo_reads_83
  · have hR := hR.trans (if_neg h3)
    refine lv_iload_n hx hb dMo_reads_6 rfl (lv_at hl 0 rfl) ?_
    refine lv_bipush (v := 11) hx hb dMo_reads_7 (by decide) ?_
    refine lv_icmp_eq hx hb dMo_reads_9 rfl (fun h9 => ?_) (fun h9 => ?_)
    · have hR := hR.trans (if_pos h9)
      refine lv_iconst (v := 1) hx hb dMo_reads_78 (by decide) ?_
      refine lv_goto hx hb dMo_reads_79 rfl ?_
      exact W.zret hx hb hr rfl (fun t ht _ => ⟨by rw [hR]; first | done | rfl, ht⟩) (fun _ h => absurd h List.not_mem_nil) dMo_reads_83
    · have hR := hR.trans (if_neg h9)
      refine lv_iload_n hx hb dMo_reads_12 rfl (lv_at hl 0 rfl) ?_
      refine lv_bipush (v := 14) hx hb dMo_reads_13 (by decide) ?_
      refine lv_icmp_eq hx hb dMo_reads_15 rfl (fun h15 => ?_) (fun h15 => ?_)
      · have hR := hR.trans (if_pos h15)
        refine lv_iconst (v := 1) hx hb dMo_reads_78 (by decide) ?_
        refine lv_goto hx hb dMo_reads_79 rfl ?_
        exact W.zret hx hb hr rfl (fun t ht _ => ⟨by rw [hR]; first | done | rfl, ht⟩) (fun _ h => absurd h List.not_mem_nil) dMo_reads_83
      · have hR := hR.trans (if_neg h15)
        refine lv_iload_n hx hb dMo_reads_18 rfl (lv_at hl 0 rfl) ?_
        refine lv_bipush (v := 15) hx hb dMo_reads_19 (by decide) ?_
        refine lv_icmp_eq hx hb dMo_reads_21 rfl (fun h21 => ?_) (fun h21 => ?_)
        · have hR := hR.trans (if_pos h21)
          refine lv_iconst (v := 1) hx hb dMo_reads_78 (by decide) ?_
          refine lv_goto hx hb dMo_reads_79 rfl ?_
          exact W.zret hx hb hr rfl (fun t ht _ => ⟨by rw [hR]; first | done | rfl, ht⟩) (fun _ h => absurd h List.not_mem_nil) dMo_reads_83
        · have hR := hR.trans (if_neg h21)
          refine lv_iload_n hx hb dMo_reads_24 rfl (lv_at hl 0 rfl) ?_
          refine lv_bipush (v := 16) hx hb dMo_reads_25 (by decide) ?_
          refine lv_icmp_eq hx hb dMo_reads_27 rfl (fun h27 => ?_) (fun h27 => ?_)
          · have hR := hR.trans (if_pos h27)
            refine lv_iconst (v := 1) hx hb dMo_reads_78 (by decide) ?_
            refine lv_goto hx hb dMo_reads_79 rfl ?_
            exact W.zret hx hb hr rfl (fun t ht _ => ⟨by rw [hR]; first | done | rfl, ht⟩) (fun _ h => absurd h List.not_mem_nil) dMo_reads_83
          · have hR := hR.trans (if_neg h27)
            refine lv_iload_n hx hb dMo_reads_30 rfl (lv_at hl 0 rfl) ?_
            refine lv_bipush (v := 19) hx hb dMo_reads_31 (by decide) ?_
            refine lv_icmp_eq hx hb dMo_reads_33 rfl (fun h33 => ?_) (fun h33 => ?_)
            · have hR := hR.trans (if_pos h33)
              refine lv_iconst (v := 1) hx hb dMo_reads_78 (by decide) ?_
              refine lv_goto hx hb dMo_reads_79 rfl ?_
              exact W.zret hx hb hr rfl (fun t ht _ => ⟨by rw [hR]; first | done | rfl, ht⟩) (fun _ h => absurd h List.not_mem_nil) dMo_reads_83
            · have hR := hR.trans (if_neg h33)
              refine lv_iload_n hx hb dMo_reads_36 rfl (lv_at hl 0 rfl) ?_
              refine lv_bipush (v := 60) hx hb dMo_reads_37 (by decide) ?_
              refine lv_icmp_eq hx hb dMo_reads_39 rfl (fun h39 => ?_) (fun h39 => ?_)
              · have hR := hR.trans (if_pos h39)
                refine lv_iconst (v := 1) hx hb dMo_reads_78 (by decide) ?_
                refine lv_goto hx hb dMo_reads_79 rfl ?_
                exact W.zret hx hb hr rfl (fun t ht _ => ⟨by rw [hR]; first | done | rfl, ht⟩) (fun _ h => absurd h List.not_mem_nil) dMo_reads_83
              · have hR := hR.trans (if_neg h39)
                refine lv_iload_n hx hb dMo_reads_42 rfl (lv_at hl 0 rfl) ?_
                refine lv_bipush (v := 61) hx hb dMo_reads_43 (by decide) ?_
                refine lv_icmp_eq hx hb dMo_reads_45 rfl (fun h45 => ?_) (fun h45 => ?_)
                · have hR := hR.trans (if_pos h45)
                  refine lv_iconst (v := 1) hx hb dMo_reads_78 (by decide) ?_
                  refine lv_goto hx hb dMo_reads_79 rfl ?_
                  exact W.zret hx hb hr rfl (fun t ht _ => ⟨by rw [hR]; first | done | rfl, ht⟩) (fun _ h => absurd h List.not_mem_nil) dMo_reads_83
                · have hR := hR.trans (if_neg h45)
                  refine lv_iload_n hx hb dMo_reads_48 rfl (lv_at hl 0 rfl) ?_
                  refine lv_bipush (v := 65) hx hb dMo_reads_49 (by decide) ?_
                  refine lv_icmp_lt hx hb dMo_reads_51 rfl (fun h51 => ?_) (fun h51 => ?_)
                  · have hR := hR.trans (if_pos h51)
                    exact hB60 ls hR (lv_sub hl [0] rfl)
                  · have hR := hR.trans (if_neg h51)
                    refine lv_iload_n hx hb dMo_reads_54 rfl (lv_at hl 0 rfl) ?_
                    refine lv_bipush (v := 67) hx hb dMo_reads_55 (by decide) ?_
                    refine lv_icmp_le hx hb dMo_reads_57 rfl (fun h57 => ?_) (fun h57 => ?_)
                    · have hR := hR.trans (if_pos h57)
                      refine lv_iconst (v := 1) hx hb dMo_reads_78 (by decide) ?_
                      refine lv_goto hx hb dMo_reads_79 rfl ?_
                      exact W.zret hx hb hr rfl (fun t ht _ => ⟨by rw [hR]; first | done | rfl, ht⟩) (fun _ h => absurd h List.not_mem_nil) dMo_reads_83
                    · have hR := hR.trans (if_neg h57)
                      exact hB60 ls hR (lv_sub hl [0] rfl)
theorem dMo_writes_0 : decode ccMo_writes 0 = .ok (.iload_n 0, 1) := by decide +kernel
theorem dMo_writes_1 : decode ccMo_writes 1 = .ok (.bipush 20, 2) := by decide +kernel
theorem dMo_writes_3 : decode ccMo_writes 3 = .ok (.if_icmp .lt 9, 3) := by decide +kernel
theorem dMo_writes_6 : decode ccMo_writes 6 = .ok (.iload_n 0, 1) := by decide +kernel
theorem dMo_writes_7 : decode ccMo_writes 7 = .ok (.bipush 22, 2) := by decide +kernel
theorem dMo_writes_9 : decode ccMo_writes 9 = .ok (.if_icmp .le 15, 3) := by decide +kernel
theorem dMo_writes_12 : decode ccMo_writes 12 = .ok (.iload_n 0, 1) := by decide +kernel
theorem dMo_writes_13 : decode ccMo_writes 13 = .ok (.bipush 24, 2) := by decide +kernel
theorem dMo_writes_15 : decode ccMo_writes 15 = .ok (.if_icmp .eq 9, 3) := by decide +kernel
theorem dMo_writes_18 : decode ccMo_writes 18 = .ok (.iload_n 0, 1) := by decide +kernel
theorem dMo_writes_19 : decode ccMo_writes 19 = .ok (.bipush 70, 2) := by decide +kernel
theorem dMo_writes_21 : decode ccMo_writes 21 = .ok (.if_icmp .ne 7, 3) := by decide +kernel
theorem dMo_writes_24 : decode ccMo_writes 24 = .ok (.iconst 1, 1) := by decide +kernel
theorem dMo_writes_25 : decode ccMo_writes 25 = .ok (.goto 4, 3) := by decide +kernel
theorem dMo_writes_28 : decode ccMo_writes 28 = .ok (.iconst 0, 1) := by decide +kernel
theorem dMo_writes_29 : decode ccMo_writes 29 = .ok (.ireturn, 1) := by decide +kernel
def fMo_writes_12  (a : Int32) : Bool :=
  (if a = (24 : Int32) then true else (if a = (70 : Int32) then true else false))
def fMo_writes (a : Int32) : Bool :=
  (if a < (20 : Int32) then fMo_writes_12 a else (if a ≤ (22 : Int32) then true else fMo_writes_12 a))
set_option maxHeartbeats 4000000 in
set_option maxRecDepth 100000 in
theorem kMo_writes (l : Launch) (a : Int32)  : Met l yMo_writes wsMo_writes { frames := 0, cells := 0, slots := 0, locals := 0 } (va_Pc [.int (a)] (fun _ => True)) (cQr (some (.int (bb (fMo_writes a))))) 0 0 (fun _ => False) := by
  refine Met.ofW (cc := ccMo_writes) (maxL := 1) (ret := (some .boolean)) (by decide +kernel) rfl ?_
  intro p e s m args below meth c s₁ B hml hv
  obtain ⟨rfl, -⟩ := hv
  have hx := B.exec
  have hb := B.bytes
  have hr := B.returns
  have hts := atoms_spec (ws := wsMo_writes) B.pre
  have hown : s.vm.findClass RMo = some m.cls := findClass_of_methodNamed B.named
  have hlocks := B.notSynchronized
  have hl := lv_entry ([.int (a)]) (n := 1) (Nat.le_of_ble_eq_true rfl)
  rw [lg_entry_eq]
  generalize (lg_sl ([.int (a)]) ++ List.replicate (1 - (lg_sl ([.int (a)])).length) Slot.unset).toArray = ls at hl ⊢
  have hl : lv_has ls 1 [(0, .int (a))] := hl
  have hB12 : ∀ (ls : Array Slot), fMo_writes a = fMo_writes_12 a → lv_has ls 1 [(0, .int (a))] → W p l e (headSpec wsMo_writes { frames := 0, cells := 0, slots := 0, locals := 0 }).room s m ([.int (a)] : List Value).toArray below meth c s.heap [] 0 0 (MQ below (cQr (some (.int (bb (fMo_writes a))))) ([.int (a)] : List Value).toArray s 0 0 (fun _ => False)) (F0 m 12 ls []) := by
    intro ls hR hl
    rw [fMo_writes_12.eq_1] at hR
    refine lv_iload_n hx hb dMo_writes_12 rfl (lv_at hl 0 rfl) ?_
    refine lv_bipush (v := 24) hx hb dMo_writes_13 (by decide) ?_
    refine lv_icmp_eq hx hb dMo_writes_15 rfl (fun h15 => ?_) (fun h15 => ?_)
    · have hR := hR.trans (if_pos h15)
      refine lv_iconst (v := 1) hx hb dMo_writes_24 (by decide) ?_
      refine lv_goto hx hb dMo_writes_25 rfl ?_
      exact W.zret hx hb hr rfl (fun t ht _ => ⟨by rw [hR]; first | done | rfl, ht⟩) (fun _ h => absurd h List.not_mem_nil) dMo_writes_29
    · have hR := hR.trans (if_neg h15)
      refine lv_iload_n hx hb dMo_writes_18 rfl (lv_at hl 0 rfl) ?_
      refine lv_bipush (v := 70) hx hb dMo_writes_19 (by decide) ?_
      refine lv_icmp_ne hx hb dMo_writes_21 rfl (fun h21 => ?_) (fun h21 => ?_)
      · have hR := hR.trans (if_neg h21)
        refine lv_iconst (v := 0) hx hb dMo_writes_28 (by decide) ?_
        exact W.zret hx hb hr rfl (fun t ht _ => ⟨by rw [hR]; first | done | rfl, ht⟩) (fun _ h => absurd h List.not_mem_nil) dMo_writes_29
      · have hR := hR.trans (if_pos h21)
        refine lv_iconst (v := 1) hx hb dMo_writes_24 (by decide) ?_
        refine lv_goto hx hb dMo_writes_25 rfl ?_
        exact W.zret hx hb hr rfl (fun t ht _ => ⟨by rw [hR]; first | done | rfl, ht⟩) (fun _ h => absurd h List.not_mem_nil) dMo_writes_29
  have hR := fMo_writes.eq_1 a
  refine lv_iload_n hx hb dMo_writes_0 rfl (lv_at hl 0 rfl) ?_
  refine lv_bipush (v := 20) hx hb dMo_writes_1 (by decide) ?_
  refine lv_icmp_lt hx hb dMo_writes_3 rfl (fun h3 => ?_) (fun h3 => ?_)
  · have hR := hR.trans (if_pos h3)
    exact hB12 ls hR (lv_sub hl [0] rfl)
  · have hR := hR.trans (if_neg h3)
    refine lv_iload_n hx hb dMo_writes_6 rfl (lv_at hl 0 rfl) ?_
    refine lv_bipush (v := 22) hx hb dMo_writes_7 (by decide) ?_
    refine lv_icmp_le hx hb dMo_writes_9 rfl (fun h9 => ?_) (fun h9 => ?_)
    · have hR := hR.trans (if_pos h9)
      refine lv_iconst (v := 1) hx hb dMo_writes_24 (by decide) ?_
      refine lv_goto hx hb dMo_writes_25 rfl ?_
      exact W.zret hx hb hr rfl (fun t ht _ => ⟨by rw [hR]; first | done | rfl, ht⟩) (fun _ h => absurd h List.not_mem_nil) dMo_writes_29
    · have hR := hR.trans (if_neg h9)
      exact hB12 ls hR (lv_sub hl [0] rfl)
theorem dMo_shifts_0 : decode ccMo_shifts 0 = .ok (.iload_n 0, 1) := by decide +kernel
theorem dMo_shifts_1 : decode ccMo_shifts 1 = .ok (.bipush 30, 2) := by decide +kernel
theorem dMo_shifts_3 : decode ccMo_shifts 3 = .ok (.if_icmp .eq 15, 3) := by decide +kernel
theorem dMo_shifts_6 : decode ccMo_shifts 6 = .ok (.iload_n 0, 1) := by decide +kernel
theorem dMo_shifts_7 : decode ccMo_shifts 7 = .ok (.bipush 31, 2) := by decide +kernel
theorem dMo_shifts_9 : decode ccMo_shifts 9 = .ok (.if_icmp .eq 9, 3) := by decide +kernel
theorem dMo_shifts_12 : decode ccMo_shifts 12 = .ok (.iload_n 0, 1) := by decide +kernel
theorem dMo_shifts_13 : decode ccMo_shifts 13 = .ok (.bipush 35, 2) := by decide +kernel
theorem dMo_shifts_15 : decode ccMo_shifts 15 = .ok (.if_icmp .ne 7, 3) := by decide +kernel
theorem dMo_shifts_18 : decode ccMo_shifts 18 = .ok (.iconst 1, 1) := by decide +kernel
theorem dMo_shifts_19 : decode ccMo_shifts 19 = .ok (.goto 4, 3) := by decide +kernel
theorem dMo_shifts_22 : decode ccMo_shifts 22 = .ok (.iconst 0, 1) := by decide +kernel
theorem dMo_shifts_23 : decode ccMo_shifts 23 = .ok (.ireturn, 1) := by decide +kernel
def fMo_shifts (a : Int32) : Bool :=
  (if a = (30 : Int32) then true else (if a = (31 : Int32) then true else (if a = (35 : Int32) then true else false)))
set_option maxHeartbeats 4000000 in
set_option maxRecDepth 100000 in
theorem kMo_shifts (l : Launch) (a : Int32)  : Met l yMo_shifts wsMo_shifts { frames := 0, cells := 0, slots := 0, locals := 0 } (va_Pc [.int (a)] (fun _ => True)) (cQr (some (.int (bb (fMo_shifts a))))) 0 0 (fun _ => False) := by
  refine Met.ofW (cc := ccMo_shifts) (maxL := 1) (ret := (some .boolean)) (by decide +kernel) rfl ?_
  intro p e s m args below meth c s₁ B hml hv
  obtain ⟨rfl, -⟩ := hv
  have hx := B.exec
  have hb := B.bytes
  have hr := B.returns
  have hts := atoms_spec (ws := wsMo_shifts) B.pre
  have hown : s.vm.findClass RMo = some m.cls := findClass_of_methodNamed B.named
  have hlocks := B.notSynchronized
  have hl := lv_entry ([.int (a)]) (n := 1) (Nat.le_of_ble_eq_true rfl)
  rw [lg_entry_eq]
  generalize (lg_sl ([.int (a)]) ++ List.replicate (1 - (lg_sl ([.int (a)])).length) Slot.unset).toArray = ls at hl ⊢
  have hl : lv_has ls 1 [(0, .int (a))] := hl
  have hR := fMo_shifts.eq_1 a
  refine lv_iload_n hx hb dMo_shifts_0 rfl (lv_at hl 0 rfl) ?_
  refine lv_bipush (v := 30) hx hb dMo_shifts_1 (by decide) ?_
  refine lv_icmp_eq hx hb dMo_shifts_3 rfl (fun h3 => ?_) (fun h3 => ?_)
  · have hR := hR.trans (if_pos h3)
    refine lv_iconst (v := 1) hx hb dMo_shifts_18 (by decide) ?_
    refine lv_goto hx hb dMo_shifts_19 rfl ?_
    exact W.zret hx hb hr rfl (fun t ht _ => ⟨by rw [hR]; first | done | rfl, ht⟩) (fun _ h => absurd h List.not_mem_nil) dMo_shifts_23
  · have hR := hR.trans (if_neg h3)
    refine lv_iload_n hx hb dMo_shifts_6 rfl (lv_at hl 0 rfl) ?_
    refine lv_bipush (v := 31) hx hb dMo_shifts_7 (by decide) ?_
    refine lv_icmp_eq hx hb dMo_shifts_9 rfl (fun h9 => ?_) (fun h9 => ?_)
    · have hR := hR.trans (if_pos h9)
      refine lv_iconst (v := 1) hx hb dMo_shifts_18 (by decide) ?_
      refine lv_goto hx hb dMo_shifts_19 rfl ?_
      exact W.zret hx hb hr rfl (fun t ht _ => ⟨by rw [hR]; first | done | rfl, ht⟩) (fun _ h => absurd h List.not_mem_nil) dMo_shifts_23
    · have hR := hR.trans (if_neg h9)
      refine lv_iload_n hx hb dMo_shifts_12 rfl (lv_at hl 0 rfl) ?_
      refine lv_bipush (v := 35) hx hb dMo_shifts_13 (by decide) ?_
      refine lv_icmp_ne hx hb dMo_shifts_15 rfl (fun h15 => ?_) (fun h15 => ?_)
      · have hR := hR.trans (if_neg h15)
        refine lv_iconst (v := 0) hx hb dMo_shifts_22 (by decide) ?_
        exact W.zret hx hb hr rfl (fun t ht _ => ⟨by rw [hR]; first | done | rfl, ht⟩) (fun _ h => absurd h List.not_mem_nil) dMo_shifts_23
      · have hR := hR.trans (if_pos h15)
        refine lv_iconst (v := 1) hx hb dMo_shifts_18 (by decide) ?_
        refine lv_goto hx hb dMo_shifts_19 rfl ?_
        exact W.zret hx hb hr rfl (fun t ht _ => ⟨by rw [hR]; first | done | rfl, ht⟩) (fun _ h => absurd h List.not_mem_nil) dMo_shifts_23
theorem dMo_isOperation_0 : decode ccMo_isOperation 0 = .ok (.iload_n 0, 1) := by decide +kernel
theorem dMo_isOperation_1 : decode ccMo_isOperation 1 = .ok (.invokestatic 90, 3) := by decide +kernel
theorem dMo_isOperation_4 : decode ccMo_isOperation 4 = .ok (.ifCond .ne 50, 3) := by decide +kernel
theorem dMo_isOperation_7 : decode ccMo_isOperation 7 = .ok (.iload_n 0, 1) := by decide +kernel
theorem dMo_isOperation_8 : decode ccMo_isOperation 8 = .ok (.invokestatic 93, 3) := by decide +kernel
theorem dMo_isOperation_11 : decode ccMo_isOperation 11 = .ok (.ifCond .ne 43, 3) := by decide +kernel
theorem dMo_isOperation_14 : decode ccMo_isOperation 14 = .ok (.iload_n 0, 1) := by decide +kernel
theorem dMo_isOperation_15 : decode ccMo_isOperation 15 = .ok (.invokestatic 96, 3) := by decide +kernel
theorem dMo_isOperation_18 : decode ccMo_isOperation 18 = .ok (.ifCond .ne 36, 3) := by decide +kernel
theorem dMo_isOperation_21 : decode ccMo_isOperation 21 = .ok (.iload_n 0, 1) := by decide +kernel
theorem dMo_isOperation_22 : decode ccMo_isOperation 22 = .ok (.ifCond .eq 32, 3) := by decide +kernel
theorem dMo_isOperation_25 : decode ccMo_isOperation 25 = .ok (.iload_n 0, 1) := by decide +kernel
theorem dMo_isOperation_26 : decode ccMo_isOperation 26 = .ok (.iconst 1, 1) := by decide +kernel
theorem dMo_isOperation_27 : decode ccMo_isOperation 27 = .ok (.if_icmp .eq 27, 3) := by decide +kernel
theorem dMo_isOperation_30 : decode ccMo_isOperation 30 = .ok (.iload_n 0, 1) := by decide +kernel
theorem dMo_isOperation_31 : decode ccMo_isOperation 31 = .ok (.bipush 44, 2) := by decide +kernel
theorem dMo_isOperation_33 : decode ccMo_isOperation 33 = .ok (.if_icmp .lt 9, 3) := by decide +kernel
theorem dMo_isOperation_36 : decode ccMo_isOperation 36 = .ok (.iload_n 0, 1) := by decide +kernel
theorem dMo_isOperation_37 : decode ccMo_isOperation 37 = .ok (.bipush 47, 2) := by decide +kernel
theorem dMo_isOperation_39 : decode ccMo_isOperation 39 = .ok (.if_icmp .le 15, 3) := by decide +kernel
theorem dMo_isOperation_42 : decode ccMo_isOperation 42 = .ok (.iload_n 0, 1) := by decide +kernel
theorem dMo_isOperation_43 : decode ccMo_isOperation 43 = .ok (.bipush 90, 2) := by decide +kernel
theorem dMo_isOperation_45 : decode ccMo_isOperation 45 = .ok (.if_icmp .lt 13, 3) := by decide +kernel
theorem dMo_isOperation_48 : decode ccMo_isOperation 48 = .ok (.iload_n 0, 1) := by decide +kernel
theorem dMo_isOperation_49 : decode ccMo_isOperation 49 = .ok (.bipush 99, 2) := by decide +kernel
theorem dMo_isOperation_51 : decode ccMo_isOperation 51 = .ok (.if_icmp .gt 7, 3) := by decide +kernel
theorem dMo_isOperation_54 : decode ccMo_isOperation 54 = .ok (.iconst 1, 1) := by decide +kernel
theorem dMo_isOperation_55 : decode ccMo_isOperation 55 = .ok (.goto 4, 3) := by decide +kernel
theorem dMo_isOperation_58 : decode ccMo_isOperation 58 = .ok (.iconst 0, 1) := by decide +kernel
theorem dMo_isOperation_59 : decode ccMo_isOperation 59 = .ok (.ireturn, 1) := by decide +kernel
def fMo_isOperation_42  (a : Int32) : Bool :=
  (if a < (90 : Int32) then false else (if (99 : Int32) < a then false else true))
def fMo_isOperation (a : Int32) : Bool :=
  (if (fMo_reads a) = true then true else (if (fMo_writes a) = true then true else (if (fMo_shifts a) = true then true else (if a = 0 then true else (if a = (1 : Int32) then true else (if a < (44 : Int32) then fMo_isOperation_42 a else (if a ≤ (47 : Int32) then true else fMo_isOperation_42 a)))))))
set_option maxHeartbeats 4000000 in
set_option maxRecDepth 100000 in
theorem kMo_isOperation (l : Launch) (a : Int32)  : Met l yMo_isOperation wsMo_isOperation { frames := 1, cells := 0, slots := 0, locals := 20 } (va_Pc [.int (a)] (fun _ => True)) (cQr (some (.int (bb (fMo_isOperation a))))) 0 0 (fun _ => False) := by
  refine Met.ofW (cc := ccMo_isOperation) (maxL := 1) (ret := (some .boolean)) (by decide +kernel) rfl ?_
  intro p e s m args below meth c s₁ B hml hv
  obtain ⟨rfl, -⟩ := hv
  have hx := B.exec
  have hb := B.bytes
  have hr := B.returns
  have hts := atoms_spec (ws := wsMo_isOperation) B.pre
  have hown : s.vm.findClass RMo = some m.cls := findClass_of_methodNamed B.named
  have hlocks := B.notSynchronized
  have hl := lv_entry ([.int (a)]) (n := 1) (Nat.le_of_ble_eq_true rfl)
  rw [lg_entry_eq]
  generalize (lg_sl ([.int (a)]) ++ List.replicate (1 - (lg_sl ([.int (a)])).length) Slot.unset).toArray = ls at hl ⊢
  have hl : lv_has ls 1 [(0, .int (a))] := hl
  have hB42 : ∀ (ls : Array Slot), fMo_isOperation a = fMo_isOperation_42 a → lv_has ls 1 [(0, .int (a))] → W p l e (headSpec wsMo_isOperation { frames := 1, cells := 0, slots := 0, locals := 20 }).room s m ([.int (a)] : List Value).toArray below meth c s.heap [] 0 0 (MQ below (cQr (some (.int (bb (fMo_isOperation a))))) ([.int (a)] : List Value).toArray s 0 0 (fun _ => False)) (F0 m 42 ls []) := by
    intro ls hR hl
    rw [fMo_isOperation_42.eq_1] at hR
    refine lv_iload_n hx hb dMo_isOperation_42 rfl (lv_at hl 0 rfl) ?_
    refine lv_bipush (v := 90) hx hb dMo_isOperation_43 (by decide) ?_
    refine lv_icmp_lt hx hb dMo_isOperation_45 rfl (fun h45 => ?_) (fun h45 => ?_)
    · have hR := hR.trans (if_pos h45)
      refine lv_iconst (v := 0) hx hb dMo_isOperation_58 (by decide) ?_
      exact W.zret hx hb hr rfl (fun t ht _ => ⟨by rw [hR]; first | done | rfl, ht⟩) (fun _ h => absurd h List.not_mem_nil) dMo_isOperation_59
    · have hR := hR.trans (if_neg h45)
      refine lv_iload_n hx hb dMo_isOperation_48 rfl (lv_at hl 0 rfl) ?_
      refine lv_bipush (v := 99) hx hb dMo_isOperation_49 (by decide) ?_
      refine lv_icmp_gt hx hb dMo_isOperation_51 rfl (fun h51 => ?_) (fun h51 => ?_)
      · have hR := hR.trans (if_pos h51)
        refine lv_iconst (v := 0) hx hb dMo_isOperation_58 (by decide) ?_
        exact W.zret hx hb hr rfl (fun t ht _ => ⟨by rw [hR]; first | done | rfl, ht⟩) (fun _ h => absurd h List.not_mem_nil) dMo_isOperation_59
      · have hR := hR.trans (if_neg h51)
        refine lv_iconst (v := 1) hx hb dMo_isOperation_54 (by decide) ?_
        refine lv_goto hx hb dMo_isOperation_55 rfl ?_
        exact W.zret hx hb hr rfl (fun t ht _ => ⟨by rw [hR]; first | done | rfl, ht⟩) (fun _ h => absurd h List.not_mem_nil) dMo_isOperation_59
  have hR := fMo_isOperation.eq_1 a
  refine lv_iload_n hx hb dMo_isOperation_0 rfl (lv_at hl 0 rfl) ?_
  refine cl_rd (W.runS (As := [.int (a)]) (rest := []) ⟨hx, hb, hml, hown, hts⟩ (kMo_reads l a) (va_cwS 1 hts (gS wm5_90 wm5_91 wm1_9 wm5_92) rfl rfl rfl (by decide +kernel) ⟨Nat.le_of_ble_eq_true rfl, Nat.le_of_ble_eq_true rfl⟩) (preT) rfl rfl hl.1 rfl (lv_room (Nat.le_of_ble_eq_true rfl)) dMo_isOperation_1 ⟨Nat.le_refl _, Nat.le_refl _⟩) ?_
  refine wz_ifne hx hb dMo_isOperation_4 rfl (fun h4 => ?_) (fun h4 => ?_)
  · have hR := hR.trans (if_pos h4)
    refine lv_iconst (v := 1) hx hb dMo_isOperation_54 (by decide) ?_
    refine lv_goto hx hb dMo_isOperation_55 rfl ?_
    exact W.zret hx hb hr rfl (fun t ht _ => ⟨by rw [hR]; first | done | rfl, ht⟩) (fun _ h => absurd h List.not_mem_nil) dMo_isOperation_59
  · have hR := hR.trans (if_neg h4)
    refine lv_iload_n hx hb dMo_isOperation_7 rfl (lv_at hl 0 rfl) ?_
    refine cl_rd (W.runS (As := [.int (a)]) (rest := []) ⟨hx, hb, hml, hown, hts⟩ (kMo_writes l a) (va_cwS 1 hts (gS wm5_93 wm5_94 wm1_9 wm5_95) rfl rfl rfl (by decide +kernel) ⟨Nat.le_of_ble_eq_true rfl, Nat.le_of_ble_eq_true rfl⟩) (preT) rfl rfl hl.1 rfl (lv_room (Nat.le_of_ble_eq_true rfl)) dMo_isOperation_8 ⟨Nat.le_refl _, Nat.le_refl _⟩) ?_
    refine wz_ifne hx hb dMo_isOperation_11 rfl (fun h11 => ?_) (fun h11 => ?_)
    · have hR := hR.trans (if_pos h11)
      refine lv_iconst (v := 1) hx hb dMo_isOperation_54 (by decide) ?_
      refine lv_goto hx hb dMo_isOperation_55 rfl ?_
      exact W.zret hx hb hr rfl (fun t ht _ => ⟨by rw [hR]; first | done | rfl, ht⟩) (fun _ h => absurd h List.not_mem_nil) dMo_isOperation_59
    · have hR := hR.trans (if_neg h11)
      refine lv_iload_n hx hb dMo_isOperation_14 rfl (lv_at hl 0 rfl) ?_
      refine cl_rd (W.runS (As := [.int (a)]) (rest := []) ⟨hx, hb, hml, hown, hts⟩ (kMo_shifts l a) (va_cwS 1 hts (gS wm5_96 wm5_97 wm1_9 wm5_98) rfl rfl rfl (by decide +kernel) ⟨Nat.le_of_ble_eq_true rfl, Nat.le_of_ble_eq_true rfl⟩) (preT) rfl rfl hl.1 rfl (lv_room (Nat.le_of_ble_eq_true rfl)) dMo_isOperation_15 ⟨Nat.le_refl _, Nat.le_refl _⟩) ?_
      refine wz_ifne hx hb dMo_isOperation_18 rfl (fun h18 => ?_) (fun h18 => ?_)
      · have hR := hR.trans (if_pos h18)
        refine lv_iconst (v := 1) hx hb dMo_isOperation_54 (by decide) ?_
        refine lv_goto hx hb dMo_isOperation_55 rfl ?_
        exact W.zret hx hb hr rfl (fun t ht _ => ⟨by rw [hR]; first | done | rfl, ht⟩) (fun _ h => absurd h List.not_mem_nil) dMo_isOperation_59
      · have hR := hR.trans (if_neg h18)
        refine lv_iload_n hx hb dMo_isOperation_21 rfl (lv_at hl 0 rfl) ?_
        refine lv_if_eq hx hb dMo_isOperation_22 rfl (fun h22 => ?_) (fun h22 => ?_)
        · have hR := hR.trans (if_pos h22)
          refine lv_iconst (v := 1) hx hb dMo_isOperation_54 (by decide) ?_
          refine lv_goto hx hb dMo_isOperation_55 rfl ?_
          exact W.zret hx hb hr rfl (fun t ht _ => ⟨by rw [hR]; first | done | rfl, ht⟩) (fun _ h => absurd h List.not_mem_nil) dMo_isOperation_59
        · have hR := hR.trans (if_neg h22)
          refine lv_iload_n hx hb dMo_isOperation_25 rfl (lv_at hl 0 rfl) ?_
          refine lv_iconst (v := 1) hx hb dMo_isOperation_26 (by decide) ?_
          refine lv_icmp_eq hx hb dMo_isOperation_27 rfl (fun h27 => ?_) (fun h27 => ?_)
          · have hR := hR.trans (if_pos h27)
            refine lv_iconst (v := 1) hx hb dMo_isOperation_54 (by decide) ?_
            refine lv_goto hx hb dMo_isOperation_55 rfl ?_
            exact W.zret hx hb hr rfl (fun t ht _ => ⟨by rw [hR]; first | done | rfl, ht⟩) (fun _ h => absurd h List.not_mem_nil) dMo_isOperation_59
          · have hR := hR.trans (if_neg h27)
            refine lv_iload_n hx hb dMo_isOperation_30 rfl (lv_at hl 0 rfl) ?_
            refine lv_bipush (v := 44) hx hb dMo_isOperation_31 (by decide) ?_
            refine lv_icmp_lt hx hb dMo_isOperation_33 rfl (fun h33 => ?_) (fun h33 => ?_)
            · have hR := hR.trans (if_pos h33)
              exact hB42 ls hR (lv_sub hl [0] rfl)
            · have hR := hR.trans (if_neg h33)
              refine lv_iload_n hx hb dMo_isOperation_36 rfl (lv_at hl 0 rfl) ?_
              refine lv_bipush (v := 47) hx hb dMo_isOperation_37 (by decide) ?_
              refine lv_icmp_le hx hb dMo_isOperation_39 rfl (fun h39 => ?_) (fun h39 => ?_)
              · have hR := hR.trans (if_pos h39)
                refine lv_iconst (v := 1) hx hb dMo_isOperation_54 (by decide) ?_
                refine lv_goto hx hb dMo_isOperation_55 rfl ?_
                exact W.zret hx hb hr rfl (fun t ht _ => ⟨by rw [hR]; first | done | rfl, ht⟩) (fun _ h => absurd h List.not_mem_nil) dMo_isOperation_59
              · have hR := hR.trans (if_neg h39)
                exact hB42 ls hR (lv_sub hl [0] rfl)
theorem dMo_isPart_0 : decode ccMo_isPart 0 = .ok (.iload_n 0, 1) := by decide +kernel
theorem dMo_isPart_1 : decode ccMo_isPart 1 = .ok (.iconst (-1), 1) := by decide +kernel
theorem dMo_isPart_2 : decode ccMo_isPart 2 = .ok (.if_icmp .lt 10, 3) := by decide +kernel
theorem dMo_isPart_5 : decode ccMo_isPart 5 = .ok (.iload_n 0, 1) := by decide +kernel
theorem dMo_isPart_6 : decode ccMo_isPart 6 = .ok (.sipush 200, 3) := by decide +kernel
theorem dMo_isPart_9 : decode ccMo_isPart 9 = .ok (.if_icmp .lt 17, 3) := by decide +kernel
theorem dMo_isPart_12 : decode ccMo_isPart 12 = .ok (.iload_n 0, 1) := by decide +kernel
theorem dMo_isPart_13 : decode ccMo_isPart 13 = .ok (.sipush 1000, 3) := by decide +kernel
theorem dMo_isPart_16 : decode ccMo_isPart 16 = .ok (.if_icmp .lt 14, 3) := by decide +kernel
theorem dMo_isPart_19 : decode ccMo_isPart 19 = .ok (.iload_n 0, 1) := by decide +kernel
theorem dMo_isPart_20 : decode ccMo_isPart 20 = .ok (.sipush 1020, 3) := by decide +kernel
theorem dMo_isPart_23 : decode ccMo_isPart 23 = .ok (.if_icmp .ge 7, 3) := by decide +kernel
theorem dMo_isPart_26 : decode ccMo_isPart 26 = .ok (.iconst 1, 1) := by decide +kernel
theorem dMo_isPart_27 : decode ccMo_isPart 27 = .ok (.goto 4, 3) := by decide +kernel
theorem dMo_isPart_30 : decode ccMo_isPart 30 = .ok (.iconst 0, 1) := by decide +kernel
theorem dMo_isPart_31 : decode ccMo_isPart 31 = .ok (.ireturn, 1) := by decide +kernel
def fMo_isPart_12  (a : Int32) : Bool :=
  (if a < (1000 : Int32) then false else (if (1020 : Int32) ≤ a then false else true))
def fMo_isPart (a : Int32) : Bool :=
  (if a < ((-1) : Int32) then fMo_isPart_12 a else (if a < (200 : Int32) then true else fMo_isPart_12 a))
set_option maxHeartbeats 4000000 in
set_option maxRecDepth 100000 in
theorem kMo_isPart (l : Launch) (a : Int32)  : Met l yMo_isPart wsMo_isPart { frames := 0, cells := 0, slots := 0, locals := 0 } (va_Pc [.int (a)] (fun _ => True)) (cQr (some (.int (bb (fMo_isPart a))))) 0 0 (fun _ => False) := by
  refine Met.ofW (cc := ccMo_isPart) (maxL := 1) (ret := (some .boolean)) (by decide +kernel) rfl ?_
  intro p e s m args below meth c s₁ B hml hv
  obtain ⟨rfl, -⟩ := hv
  have hx := B.exec
  have hb := B.bytes
  have hr := B.returns
  have hts := atoms_spec (ws := wsMo_isPart) B.pre
  have hown : s.vm.findClass RMo = some m.cls := findClass_of_methodNamed B.named
  have hlocks := B.notSynchronized
  have hl := lv_entry ([.int (a)]) (n := 1) (Nat.le_of_ble_eq_true rfl)
  rw [lg_entry_eq]
  generalize (lg_sl ([.int (a)]) ++ List.replicate (1 - (lg_sl ([.int (a)])).length) Slot.unset).toArray = ls at hl ⊢
  have hl : lv_has ls 1 [(0, .int (a))] := hl
  have hB12 : ∀ (ls : Array Slot), fMo_isPart a = fMo_isPart_12 a → lv_has ls 1 [(0, .int (a))] → W p l e (headSpec wsMo_isPart { frames := 0, cells := 0, slots := 0, locals := 0 }).room s m ([.int (a)] : List Value).toArray below meth c s.heap [] 0 0 (MQ below (cQr (some (.int (bb (fMo_isPart a))))) ([.int (a)] : List Value).toArray s 0 0 (fun _ => False)) (F0 m 12 ls []) := by
    intro ls hR hl
    rw [fMo_isPart_12.eq_1] at hR
    refine lv_iload_n hx hb dMo_isPart_12 rfl (lv_at hl 0 rfl) ?_
    refine lv_sipush (v := 1000) hx hb dMo_isPart_13 (by decide) ?_
    refine lv_icmp_lt hx hb dMo_isPart_16 rfl (fun h16 => ?_) (fun h16 => ?_)
    · have hR := hR.trans (if_pos h16)
      refine lv_iconst (v := 0) hx hb dMo_isPart_30 (by decide) ?_
      exact W.zret hx hb hr rfl (fun t ht _ => ⟨by rw [hR]; first | done | rfl, ht⟩) (fun _ h => absurd h List.not_mem_nil) dMo_isPart_31
    · have hR := hR.trans (if_neg h16)
      refine lv_iload_n hx hb dMo_isPart_19 rfl (lv_at hl 0 rfl) ?_
      refine lv_sipush (v := 1020) hx hb dMo_isPart_20 (by decide) ?_
      refine lv_icmp_ge hx hb dMo_isPart_23 rfl (fun h23 => ?_) (fun h23 => ?_)
      · have hR := hR.trans (if_pos h23)
        refine lv_iconst (v := 0) hx hb dMo_isPart_30 (by decide) ?_
        exact W.zret hx hb hr rfl (fun t ht _ => ⟨by rw [hR]; first | done | rfl, ht⟩) (fun _ h => absurd h List.not_mem_nil) dMo_isPart_31
      · have hR := hR.trans (if_neg h23)
        refine lv_iconst (v := 1) hx hb dMo_isPart_26 (by decide) ?_
        refine lv_goto hx hb dMo_isPart_27 rfl ?_
        exact W.zret hx hb hr rfl (fun t ht _ => ⟨by rw [hR]; first | done | rfl, ht⟩) (fun _ h => absurd h List.not_mem_nil) dMo_isPart_31
  have hR := fMo_isPart.eq_1 a
  refine lv_iload_n hx hb dMo_isPart_0 rfl (lv_at hl 0 rfl) ?_
  refine lv_iconst (v := (-1)) hx hb dMo_isPart_1 (by decide) ?_
  refine lv_icmp_lt hx hb dMo_isPart_2 rfl (fun h2 => ?_) (fun h2 => ?_)
  · have hR := hR.trans (if_pos h2)
    exact hB12 ls hR (lv_sub hl [0] rfl)
  · have hR := hR.trans (if_neg h2)
    refine lv_iload_n hx hb dMo_isPart_5 rfl (lv_at hl 0 rfl) ?_
    refine lv_sipush (v := 200) hx hb dMo_isPart_6 (by decide) ?_
    refine lv_icmp_lt hx hb dMo_isPart_9 rfl (fun h9 => ?_) (fun h9 => ?_)
    · have hR := hR.trans (if_pos h9)
      refine lv_iconst (v := 1) hx hb dMo_isPart_26 (by decide) ?_
      refine lv_goto hx hb dMo_isPart_27 rfl ?_
      exact W.zret hx hb hr rfl (fun t ht _ => ⟨by rw [hR]; first | done | rfl, ht⟩) (fun _ h => absurd h List.not_mem_nil) dMo_isPart_31
    · have hR := hR.trans (if_neg h9)
      exact hB12 ls hR (lv_sub hl [0] rfl)
theorem dMo_isWord_0 : decode ccMo_isWord 0 = .ok (.lload_n 0, 1) := by decide +kernel
theorem dMo_isWord_1 : decode ccMo_isWord 1 = .ok (.lconst 0, 1) := by decide +kernel
theorem dMo_isWord_2 : decode ccMo_isWord 2 = .ok (.lcmp, 1) := by decide +kernel
theorem dMo_isWord_3 : decode ccMo_isWord 3 = .ok (.ifCond .lt 15, 3) := by decide +kernel
theorem dMo_isWord_6 : decode ccMo_isWord 6 = .ok (.lload_n 0, 1) := by decide +kernel
theorem dMo_isWord_7 : decode ccMo_isWord 7 = .ok (.ldc2_w 65, 3) := by decide +kernel
theorem dMo_isWord_10 : decode ccMo_isWord 10 = .ok (.lcmp, 1) := by decide +kernel
theorem dMo_isWord_11 : decode ccMo_isWord 11 = .ok (.ifCond .ge 7, 3) := by decide +kernel
theorem dMo_isWord_14 : decode ccMo_isWord 14 = .ok (.iconst 1, 1) := by decide +kernel
theorem dMo_isWord_15 : decode ccMo_isWord 15 = .ok (.goto 4, 3) := by decide +kernel
theorem dMo_isWord_18 : decode ccMo_isWord 18 = .ok (.iconst 0, 1) := by decide +kernel
theorem dMo_isWord_19 : decode ccMo_isWord 19 = .ok (.ireturn, 1) := by decide +kernel
def fMo_isWord (v : Int64) : Bool :=
  (if v < 0 then false else (if 10000000000 ≤ v then false else true))
set_option maxHeartbeats 4000000 in
set_option maxRecDepth 100000 in
theorem kMo_isWord (l : Launch) (v : Int64)  : Met l yMo_isWord wsMo_isWord { frames := 0, cells := 0, slots := 0, locals := 0 } (va_Pc [.long (v)] (fun _ => True)) (cQr (some (.int (bb (fMo_isWord v))))) 0 0 (fun _ => False) := by
  refine Met.ofW (cc := ccMo_isWord) (maxL := 2) (ret := (some .boolean)) (by decide +kernel) rfl ?_
  intro p e s m args below meth c s₁ B hml hv
  obtain ⟨rfl, -⟩ := hv
  have hx := B.exec
  have hb := B.bytes
  have hr := B.returns
  have hts := atoms_spec (ws := wsMo_isWord) B.pre
  have hown : s.vm.findClass RMo = some m.cls := findClass_of_methodNamed B.named
  have hlocks := B.notSynchronized
  have w0 := hts (.constantLong RMo 65 (10000000000)) (List.mem_cons_of_mem _ wm5_47)
  have hl := lv_entry ([.long (v)]) (n := 2) (Nat.le_of_ble_eq_true rfl)
  rw [lg_entry_eq]
  generalize (lg_sl ([.long (v)]) ++ List.replicate (2 - (lg_sl ([.long (v)])).length) Slot.unset).toArray = ls at hl ⊢
  have hl : lv_has ls 2 [(0, .long (v))] := hl
  have hR := fMo_isWord.eq_1 v
  refine lv_lload_n hx hb dMo_isWord_0 rfl (lv_at hl 0 rfl) ?_
  refine lv_lconst (v := 0) hx hb dMo_isWord_1 (by decide) ?_
  refine lc_lt hx hb dMo_isWord_2 dMo_isWord_3 rfl (fun h2 => ?_) (fun h2 => ?_)
  · have hR := hR.trans (if_pos h2)
    refine lv_iconst (v := 0) hx hb dMo_isWord_18 (by decide) ?_
    exact W.zret hx hb hr rfl (fun t ht _ => ⟨by rw [hR]; first | done | rfl, ht⟩) (fun _ h => absurd h List.not_mem_nil) dMo_isWord_19
  · have hR := hR.trans (if_neg h2)
    refine lv_lload_n hx hb dMo_isWord_6 rfl (lv_at hl 0 rfl) ?_
    refine lv_ldc2 (v := 10000000000) hx hb hown w0 dMo_isWord_7 ?_
    refine lc_ge hx hb dMo_isWord_10 dMo_isWord_11 rfl (fun h10 => ?_) (fun h10 => ?_)
    · have hR := hR.trans (if_pos h10)
      refine lv_iconst (v := 0) hx hb dMo_isWord_18 (by decide) ?_
      exact W.zret hx hb hr rfl (fun t ht _ => ⟨by rw [hR]; first | done | rfl, ht⟩) (fun _ h => absurd h List.not_mem_nil) dMo_isWord_19
    · have hR := hR.trans (if_neg h10)
      refine lv_iconst (v := 1) hx hb dMo_isWord_14 (by decide) ?_
      refine lv_goto hx hb dMo_isWord_15 rfl ?_
      exact W.zret hx hb hr rfl (fun t ht _ => ⟨by rw [hR]; first | done | rfl, ht⟩) (fun _ h => absurd h List.not_mem_nil) dMo_isWord_19
theorem dMo_digitOf_0 : decode ccMo_digitOf 0 = .ok (.iload_n 0, 1) := by decide +kernel
theorem dMo_digitOf_1 : decode ccMo_digitOf 1 = .ok (.iconst 5, 1) := by decide +kernel
theorem dMo_digitOf_2 : decode ccMo_digitOf 2 = .ok (.ishr, 1) := by decide +kernel
theorem dMo_digitOf_3 : decode ccMo_digitOf 3 = .ok (.istore_n 1, 1) := by decide +kernel
theorem dMo_digitOf_4 : decode ccMo_digitOf 4 = .ok (.iconst (-1), 1) := by decide +kernel
theorem dMo_digitOf_5 : decode ccMo_digitOf 5 = .ok (.istore_n 2, 1) := by decide +kernel
theorem dMo_digitOf_6 : decode ccMo_digitOf 6 = .ok (.iconst 0, 1) := by decide +kernel
theorem dMo_digitOf_7 : decode ccMo_digitOf 7 = .ok (.istore_n 3, 1) := by decide +kernel
theorem dMo_digitOf_8 : decode ccMo_digitOf 8 = .ok (.iload_n 3, 1) := by decide +kernel
theorem dMo_digitOf_9 : decode ccMo_digitOf 9 = .ok (.iconst 5, 1) := by decide +kernel
theorem dMo_digitOf_10 : decode ccMo_digitOf 10 = .ok (.if_icmp .ge 21, 3) := by decide +kernel
theorem dMo_digitOf_13 : decode ccMo_digitOf 13 = .ok (.iload_n 0, 1) := by decide +kernel
theorem dMo_digitOf_14 : decode ccMo_digitOf 14 = .ok (.bipush 31, 2) := by decide +kernel
theorem dMo_digitOf_16 : decode ccMo_digitOf 16 = .ok (.iand, 1) := by decide +kernel
theorem dMo_digitOf_17 : decode ccMo_digitOf 17 = .ok (.iconst 1, 1) := by decide +kernel
theorem dMo_digitOf_18 : decode ccMo_digitOf 18 = .ok (.iload_n 3, 1) := by decide +kernel
theorem dMo_digitOf_19 : decode ccMo_digitOf 19 = .ok (.ishl, 1) := by decide +kernel
theorem dMo_digitOf_20 : decode ccMo_digitOf 20 = .ok (.if_icmp .ne 5, 3) := by decide +kernel
theorem dMo_digitOf_23 : decode ccMo_digitOf 23 = .ok (.iload_n 3, 1) := by decide +kernel
theorem dMo_digitOf_24 : decode ccMo_digitOf 24 = .ok (.istore_n 2, 1) := by decide +kernel
theorem dMo_digitOf_25 : decode ccMo_digitOf 25 = .ok (.iinc 3 1, 3) := by decide +kernel
theorem dMo_digitOf_28 : decode ccMo_digitOf 28 = .ok (.goto (-20), 3) := by decide +kernel
theorem dMo_digitOf_31 : decode ccMo_digitOf 31 = .ok (.iload_n 2, 1) := by decide +kernel
theorem dMo_digitOf_32 : decode ccMo_digitOf 32 = .ok (.iconst (-1), 1) := by decide +kernel
theorem dMo_digitOf_33 : decode ccMo_digitOf 33 = .ok (.if_icmp .eq 13, 3) := by decide +kernel
theorem dMo_digitOf_36 : decode ccMo_digitOf 36 = .ok (.iload_n 1, 1) := by decide +kernel
theorem dMo_digitOf_37 : decode ccMo_digitOf 37 = .ok (.iconst 1, 1) := by decide +kernel
theorem dMo_digitOf_38 : decode ccMo_digitOf 38 = .ok (.if_icmp .eq 10, 3) := by decide +kernel
theorem dMo_digitOf_41 : decode ccMo_digitOf 41 = .ok (.iload_n 1, 1) := by decide +kernel
theorem dMo_digitOf_42 : decode ccMo_digitOf 42 = .ok (.iconst 2, 1) := by decide +kernel
theorem dMo_digitOf_43 : decode ccMo_digitOf 43 = .ok (.if_icmp .eq 5, 3) := by decide +kernel
theorem dMo_digitOf_46 : decode ccMo_digitOf 46 = .ok (.iconst (-1), 1) := by decide +kernel
theorem dMo_digitOf_47 : decode ccMo_digitOf 47 = .ok (.ireturn, 1) := by decide +kernel
theorem dMo_digitOf_48 : decode ccMo_digitOf 48 = .ok (.iload_n 1, 1) := by decide +kernel
theorem dMo_digitOf_49 : decode ccMo_digitOf 49 = .ok (.iconst 1, 1) := by decide +kernel
theorem dMo_digitOf_50 : decode ccMo_digitOf 50 = .ok (.if_icmp .ne 7, 3) := by decide +kernel
theorem dMo_digitOf_53 : decode ccMo_digitOf 53 = .ok (.iload_n 2, 1) := by decide +kernel
theorem dMo_digitOf_54 : decode ccMo_digitOf 54 = .ok (.goto 6, 3) := by decide +kernel
theorem dMo_digitOf_57 : decode ccMo_digitOf 57 = .ok (.iload_n 2, 1) := by decide +kernel
theorem dMo_digitOf_58 : decode ccMo_digitOf 58 = .ok (.iconst 5, 1) := by decide +kernel
theorem dMo_digitOf_59 : decode ccMo_digitOf 59 = .ok (.iadd, 1) := by decide +kernel
theorem dMo_digitOf_60 : decode ccMo_digitOf 60 = .ok (.ireturn, 1) := by decide +kernel
def fMo_digitOf_48  (v1 : Int32) (v2 : Int32) : Int32 :=
  (if v1 = (1 : Int32) then v2 else v2 + 5)
def fMo_digitOf_8  : Nat → Int32 → Int32 → Int32 → Nat → Int32
  | 0, w, v1, v2, v3 => 0
  | fu + 1, w, v1, v2, v3 => (if 5 ≤ v3 then (if v2 = ((-1) : Int32) then (-1) else (if v1 = (1 : Int32) then fMo_digitOf_48 v1 v2 else (if v1 = (2 : Int32) then fMo_digitOf_48 v1 v2 else (-1)))) else (if (w &&& 31) = ((1 : Int32) <<< ((nI (v3)) &&& 31)) then fMo_digitOf_8 fu w v1 (nI (v3)) (v3 + 1) else fMo_digitOf_8 fu w v1 v2 (v3 + 1)))
def fMo_digitOf (w : Int32) : Int32 :=
  fMo_digitOf_8 6 w (w >>> ((5 : Int32) &&& 31)) ((-1)) 0
set_option maxHeartbeats 4000000 in
set_option maxRecDepth 100000 in
theorem kMo_digitOf (l : Launch) (w : Int32)  : Met l yMo_digitOf wsMo_digitOf { frames := 0, cells := 0, slots := 0, locals := 0 } (va_Pc [.int (w)] (fun _ => True)) (cQr (some (.int (fMo_digitOf w)))) 0 0 (fun _ => False) := by
  refine Met.ofW (cc := ccMo_digitOf) (maxL := 4) (ret := (some .int)) (by decide +kernel) rfl ?_
  intro p e s m args below meth c s₁ B hml hv
  obtain ⟨rfl, -⟩ := hv
  have hx := B.exec
  have hb := B.bytes
  have hr := B.returns
  have hts := atoms_spec (ws := wsMo_digitOf) B.pre
  have hown : s.vm.findClass RMo = some m.cls := findClass_of_methodNamed B.named
  have hlocks := B.notSynchronized
  have hl := lv_entry ([.int (w)]) (n := 4) (Nat.le_of_ble_eq_true rfl)
  rw [lg_entry_eq]
  generalize (lg_sl ([.int (w)]) ++ List.replicate (4 - (lg_sl ([.int (w)])).length) Slot.unset).toArray = ls at hl ⊢
  have hl : lv_has ls 4 [(0, .int (w))] := hl
  have hB48 : ∀ (ls : Array Slot) (v1 : Int32) (v2 : Int32), fMo_digitOf w = fMo_digitOf_48 v1 v2 → lv_has ls 4 [(1, .int (v1)), (2, .int (v2))] → W p l e (headSpec wsMo_digitOf { frames := 0, cells := 0, slots := 0, locals := 0 }).room s m ([.int (w)] : List Value).toArray below meth c s.heap [] 0 0 (MQ below (cQr (some (.int (fMo_digitOf w)))) ([.int (w)] : List Value).toArray s 0 0 (fun _ => False)) (F0 m 48 ls []) := by
    intro ls v1 v2 hR hl
    rw [fMo_digitOf_48.eq_1] at hR
    refine lv_iload_n hx hb dMo_digitOf_48 rfl (lv_at hl 0 rfl) ?_
    refine lv_iconst (v := 1) hx hb dMo_digitOf_49 (by decide) ?_
    refine lv_icmp_ne hx hb dMo_digitOf_50 rfl (fun h50 => ?_) (fun h50 => ?_)
    · have hR := hR.trans (if_neg h50)
      refine lv_iload_n hx hb dMo_digitOf_57 rfl (lv_at hl 1 rfl) ?_
      refine lv_iconst (v := 5) hx hb dMo_digitOf_58 (by decide) ?_
      refine lv_iadd hx hb dMo_digitOf_59 ?_
      exact W.iret hx hb hr (fun t ht _ => ⟨by rw [hR]; first | done | rfl, ht⟩) (fun _ h => absurd h List.not_mem_nil) dMo_digitOf_60
    · have hR := hR.trans (if_pos h50)
      refine lv_iload_n hx hb dMo_digitOf_53 rfl (lv_at hl 1 rfl) ?_
      refine lv_goto hx hb dMo_digitOf_54 rfl ?_
      exact W.iret hx hb hr (fun t ht _ => ⟨by rw [hR]; first | done | rfl, ht⟩) (fun _ h => absurd h List.not_mem_nil) dMo_digitOf_60
  have hB8 : ∀ (n8 : Nat) (ls : Array Slot) (v1 : Int32) (v2 : Int32) (v3 : Nat), 5 - v3 < n8 → fMo_digitOf w = fMo_digitOf_8 n8 w v1 v2 v3 → (v3 ≤ 5) → lv_has ls 4 [(0, .int (w)), (1, .int (v1)), (2, .int (v2)), (3, .int (nI (v3)))] → W p l e (headSpec wsMo_digitOf { frames := 0, cells := 0, slots := 0, locals := 0 }).room s m ([.int (w)] : List Value).toArray below meth c s.heap [] 0 0 (MQ below (cQr (some (.int (fMo_digitOf w)))) ([.int (w)] : List Value).toArray s 0 0 (fun _ => False)) (F0 m 8 ls []) := by
    intro n8
    induction n8 with
    | zero => intro ls v1 v2 v3 hn8; exact absurd hn8 (Nat.not_lt_zero _)
    | succ n8 ih8 =>
      intro ls v1 v2 v3 hn8 hR h3 hl
      rw [fMo_digitOf_8.eq_2] at hR
      refine lv_iload_n hx hb dMo_digitOf_8 rfl (lv_at hl 3 rfl) ?_
      refine lv_iconst (v := 5) hx hb dMo_digitOf_9 (by decide) ?_
      refine wn_ge (x := v3) (y := 5) hx hb (by omega) (by omega) dMo_digitOf_10 rfl (fun h10 => ?_) (fun h10 => ?_)
      · have hR := hR.trans (if_pos h10)
        refine lv_iload_n hx hb dMo_digitOf_31 rfl (lv_at hl 2 rfl) ?_
        refine lv_iconst (v := (-1)) hx hb dMo_digitOf_32 (by decide) ?_
        refine lv_icmp_eq hx hb dMo_digitOf_33 rfl (fun h33 => ?_) (fun h33 => ?_)
        · have hR := hR.trans (if_pos h33)
          refine lv_iconst (v := (-1)) hx hb dMo_digitOf_46 (by decide) ?_
          exact W.iret hx hb hr (fun t ht _ => ⟨by rw [hR]; first | done | rfl, ht⟩) (fun _ h => absurd h List.not_mem_nil) dMo_digitOf_47
        · have hR := hR.trans (if_neg h33)
          refine lv_iload_n hx hb dMo_digitOf_36 rfl (lv_at hl 1 rfl) ?_
          refine lv_iconst (v := 1) hx hb dMo_digitOf_37 (by decide) ?_
          refine lv_icmp_eq hx hb dMo_digitOf_38 rfl (fun h38 => ?_) (fun h38 => ?_)
          · have hR := hR.trans (if_pos h38)
            exact hB48 ls v1 v2 hR (lv_sub hl [1, 2] rfl)
          · have hR := hR.trans (if_neg h38)
            refine lv_iload_n hx hb dMo_digitOf_41 rfl (lv_at hl 1 rfl) ?_
            refine lv_iconst (v := 2) hx hb dMo_digitOf_42 (by decide) ?_
            refine lv_icmp_eq hx hb dMo_digitOf_43 rfl (fun h43 => ?_) (fun h43 => ?_)
            · have hR := hR.trans (if_pos h43)
              exact hB48 ls v1 v2 hR (lv_sub hl [1, 2] rfl)
            · have hR := hR.trans (if_neg h43)
              refine lv_iconst (v := (-1)) hx hb dMo_digitOf_46 (by decide) ?_
              exact W.iret hx hb hr (fun t ht _ => ⟨by rw [hR]; first | done | rfl, ht⟩) (fun _ h => absurd h List.not_mem_nil) dMo_digitOf_47
      · have hR := hR.trans (if_neg h10)
        refine lv_iload_n hx hb dMo_digitOf_13 rfl (lv_at hl 0 rfl) ?_
        refine lv_bipush (v := 31) hx hb dMo_digitOf_14 (by decide) ?_
        refine lv_iand hx hb dMo_digitOf_16 ?_
        refine lv_iconst (v := 1) hx hb dMo_digitOf_17 (by decide) ?_
        refine lv_iload_n hx hb dMo_digitOf_18 rfl (lv_at hl 3 rfl) ?_
        refine lv_ishl hx hb dMo_digitOf_19 ?_
        refine lv_icmp_ne hx hb dMo_digitOf_20 rfl (fun h20 => ?_) (fun h20 => ?_)
        · have hR := hR.trans (if_neg h20)
          refine lv_iinc (k := 3) (lv' := [(3, .int (nI (v3 + 1))), (0, .int (w)), (1, .int (v1)), (2, .int (v2))]) hx hb dMo_digitOf_25 hl rfl (nI_1 _) (by decide) rfl (fun ls hl => ?_)
          refine lv_goto hx hb dMo_digitOf_28 rfl ?_
          exact ih8 ls v1 v2 (v3 + 1) (by omega) hR (by first | assumption | omega) (lv_sub hl [1, 2, 3, 0] rfl)
        · have hR := hR.trans (if_pos h20)
          refine lv_iload_n hx hb dMo_digitOf_23 rfl (lv_at hl 3 rfl) ?_
          refine lv_istore_n (lv' := [(2, .int (nI (v3))), (0, .int (w)), (1, .int (v1)), (3, .int (nI (v3)))]) hx hb dMo_digitOf_24 rfl hl (by decide) rfl (fun ls hl => ?_)
          refine lv_iinc (k := 3) (lv' := [(3, .int (nI (v3 + 1))), (2, .int (nI (v3))), (0, .int (w)), (1, .int (v1))]) hx hb dMo_digitOf_25 hl rfl (nI_1 _) (by decide) rfl (fun ls hl => ?_)
          refine lv_goto hx hb dMo_digitOf_28 rfl ?_
          exact ih8 ls v1 (nI (v3)) (v3 + 1) (by omega) hR (by first | assumption | omega) (lv_sub hl [2, 3, 1, 0] rfl)
  have hR := fMo_digitOf.eq_1 w
  refine lv_iload_n hx hb dMo_digitOf_0 rfl (lv_at hl 0 rfl) ?_
  refine lv_iconst (v := 5) hx hb dMo_digitOf_1 (by decide) ?_
  refine lv_ishr hx hb dMo_digitOf_2 ?_
  refine lv_istore_n (lv' := [(1, .int (w >>> ((5 : Int32) &&& 31))), (0, .int (w))]) hx hb dMo_digitOf_3 rfl hl (by decide) rfl (fun ls hl => ?_)
  refine lv_iconst (v := (-1)) hx hb dMo_digitOf_4 (by decide) ?_
  refine lv_istore_n (lv' := [(2, .int ((-1))), (1, .int (w >>> ((5 : Int32) &&& 31))), (0, .int (w))]) hx hb dMo_digitOf_5 rfl hl (by decide) rfl (fun ls hl => ?_)
  refine lv_iconst (v := 0) hx hb dMo_digitOf_6 (by decide) ?_
  refine lv_istore_n (lv' := [(3, .int (nI (0))), (2, .int ((-1))), (1, .int (w >>> ((5 : Int32) &&& 31))), (0, .int (w))]) hx hb dMo_digitOf_7 rfl hl (by decide) rfl (fun ls hl => ?_)
  exact hB8 6 ls (w >>> ((5 : Int32) &&& 31)) ((-1)) 0 (by omega) hR (by first | assumption | omega) (lv_sub hl [3, 2, 1, 0] rfl)
theorem dMo_fixed_0 : decode ccMo_fixed 0 = .ok (.iload_n 0, 1) := by decide +kernel
theorem dMo_fixed_1 : decode ccMo_fixed 1 = .ok (.bipush 30, 2) := by decide +kernel
theorem dMo_fixed_3 : decode ccMo_fixed 3 = .ok (.if_icmp .eq 9, 3) := by decide +kernel
theorem dMo_fixed_6 : decode ccMo_fixed 6 = .ok (.iload_n 0, 1) := by decide +kernel
theorem dMo_fixed_7 : decode ccMo_fixed 7 = .ok (.bipush 35, 2) := by decide +kernel
theorem dMo_fixed_9 : decode ccMo_fixed 9 = .ok (.if_icmp .ne 8, 3) := by decide +kernel
theorem dMo_fixed_12 : decode ccMo_fixed 12 = .ok (.iload_n 1, 1) := by decide +kernel
theorem dMo_fixed_13 : decode ccMo_fixed 13 = .ok (.bipush 10, 2) := by decide +kernel
theorem dMo_fixed_15 : decode ccMo_fixed 15 = .ok (.irem, 1) := by decide +kernel
theorem dMo_fixed_16 : decode ccMo_fixed 16 = .ok (.ireturn, 1) := by decide +kernel
theorem dMo_fixed_17 : decode ccMo_fixed 17 = .ok (.iload_n 0, 1) := by decide +kernel
theorem dMo_fixed_18 : decode ccMo_fixed 18 = .ok (.bipush 31, 2) := by decide +kernel
theorem dMo_fixed_20 : decode ccMo_fixed 20 = .ok (.if_icmp .ne 22, 3) := by decide +kernel
theorem dMo_fixed_23 : decode ccMo_fixed 23 = .ok (.iload_n 1, 1) := by decide +kernel
theorem dMo_fixed_24 : decode ccMo_fixed 24 = .ok (.bipush 10, 2) := by decide +kernel
theorem dMo_fixed_26 : decode ccMo_fixed 26 = .ok (.irem, 1) := by decide +kernel
theorem dMo_fixed_27 : decode ccMo_fixed 27 = .ok (.ifCond .ne 8, 3) := by decide +kernel
theorem dMo_fixed_30 : decode ccMo_fixed 30 = .ok (.bipush 11, 2) := by decide +kernel
theorem dMo_fixed_32 : decode ccMo_fixed 32 = .ok (.goto 9, 3) := by decide +kernel
theorem dMo_fixed_35 : decode ccMo_fixed 35 = .ok (.iload_n 1, 1) := by decide +kernel
theorem dMo_fixed_36 : decode ccMo_fixed 36 = .ok (.bipush 10, 2) := by decide +kernel
theorem dMo_fixed_38 : decode ccMo_fixed 38 = .ok (.irem, 1) := by decide +kernel
theorem dMo_fixed_39 : decode ccMo_fixed 39 = .ok (.iconst 1, 1) := by decide +kernel
theorem dMo_fixed_40 : decode ccMo_fixed 40 = .ok (.iadd, 1) := by decide +kernel
theorem dMo_fixed_41 : decode ccMo_fixed 41 = .ok (.ireturn, 1) := by decide +kernel
theorem dMo_fixed_42 : decode ccMo_fixed 42 = .ok (.iload_n 0, 1) := by decide +kernel
theorem dMo_fixed_43 : decode ccMo_fixed 43 = .ok (.bipush 14, 2) := by decide +kernel
theorem dMo_fixed_45 : decode ccMo_fixed 45 = .ok (.if_icmp .eq 9, 3) := by decide +kernel
theorem dMo_fixed_48 : decode ccMo_fixed 48 = .ok (.iload_n 0, 1) := by decide +kernel
theorem dMo_fixed_49 : decode ccMo_fixed 49 = .ok (.bipush 19, 2) := by decide +kernel
theorem dMo_fixed_51 : decode ccMo_fixed 51 = .ok (.if_icmp .ne 6, 3) := by decide +kernel
theorem dMo_fixed_54 : decode ccMo_fixed 54 = .ok (.bipush 20, 2) := by decide +kernel
theorem dMo_fixed_56 : decode ccMo_fixed 56 = .ok (.ireturn, 1) := by decide +kernel
theorem dMo_fixed_57 : decode ccMo_fixed 57 = .ok (.iload_n 0, 1) := by decide +kernel
theorem dMo_fixed_58 : decode ccMo_fixed 58 = .ok (.bipush 70, 2) := by decide +kernel
theorem dMo_fixed_60 : decode ccMo_fixed 60 = .ok (.if_icmp .eq 9, 3) := by decide +kernel
theorem dMo_fixed_63 : decode ccMo_fixed 63 = .ok (.iload_n 0, 1) := by decide +kernel
theorem dMo_fixed_64 : decode ccMo_fixed 64 = .ok (.bipush 71, 2) := by decide +kernel
theorem dMo_fixed_66 : decode ccMo_fixed 66 = .ok (.if_icmp .ne 6, 3) := by decide +kernel
theorem dMo_fixed_69 : decode ccMo_fixed 69 = .ok (.bipush 10, 2) := by decide +kernel
theorem dMo_fixed_71 : decode ccMo_fixed 71 = .ok (.ireturn, 1) := by decide +kernel
theorem dMo_fixed_72 : decode ccMo_fixed 72 = .ok (.iload_n 0, 1) := by decide +kernel
theorem dMo_fixed_73 : decode ccMo_fixed 73 = .ok (.bipush 69, 2) := by decide +kernel
theorem dMo_fixed_75 : decode ccMo_fixed 75 = .ok (.if_icmp .eq 16, 3) := by decide +kernel
theorem dMo_fixed_78 : decode ccMo_fixed 78 = .ok (.iload_n 0, 1) := by decide +kernel
theorem dMo_fixed_79 : decode ccMo_fixed 79 = .ok (.bipush 84, 2) := by decide +kernel
theorem dMo_fixed_81 : decode ccMo_fixed 81 = .ok (.if_icmp .eq 10, 3) := by decide +kernel
theorem dMo_fixed_84 : decode ccMo_fixed 84 = .ok (.iload_n 0, 1) := by decide +kernel
theorem dMo_fixed_85 : decode ccMo_fixed 85 = .ok (.invokestatic 90, 3) := by decide +kernel
theorem dMo_fixed_88 : decode ccMo_fixed 88 = .ok (.ifCond .ne 7, 3) := by decide +kernel
theorem dMo_fixed_91 : decode ccMo_fixed 91 = .ok (.iconst 0, 1) := by decide +kernel
theorem dMo_fixed_92 : decode ccMo_fixed 92 = .ok (.goto 4, 3) := by decide +kernel
theorem dMo_fixed_95 : decode ccMo_fixed 95 = .ok (.iconst 2, 1) := by decide +kernel
theorem dMo_fixed_96 : decode ccMo_fixed 96 = .ok (.ireturn, 1) := by decide +kernel
def fMo_fixed (o : Int32) (d : Int32) : Int32 :=
  (if o = (30 : Int32) then d % 10 else (if o = (35 : Int32) then d % 10 else (if o = (31 : Int32) then (if (d % 10) = 0 then 11 else (d % 10) + 1) else (if o = (14 : Int32) then 20 else (if o = (19 : Int32) then 20 else (if o = (70 : Int32) then 10 else (if o = (71 : Int32) then 10 else (if o = (69 : Int32) then 0 else (if o = (84 : Int32) then 0 else (if (fMo_reads o) = true then 2 else 0))))))))))
set_option maxHeartbeats 4000000 in
set_option maxRecDepth 100000 in
theorem kMo_fixed (l : Launch) (o : Int32) (d : Int32)  : Met l yMo_fixed wsMo_fixed { frames := 1, cells := 0, slots := 0, locals := 20 } (va_Pc [.int (o), .int (d)] (fun _ => True)) (cQr (some (.int (fMo_fixed o d)))) 0 0 (fun _ => False) := by
  refine Met.ofW (cc := ccMo_fixed) (maxL := 2) (ret := (some .int)) (by decide +kernel) rfl ?_
  intro p e s m args below meth c s₁ B hml hv
  obtain ⟨rfl, -⟩ := hv
  have hx := B.exec
  have hb := B.bytes
  have hr := B.returns
  have hts := atoms_spec (ws := wsMo_fixed) B.pre
  have hown : s.vm.findClass RMo = some m.cls := findClass_of_methodNamed B.named
  have hlocks := B.notSynchronized
  have hl := lv_entry ([.int (o), .int (d)]) (n := 2) (Nat.le_of_ble_eq_true rfl)
  rw [lg_entry_eq]
  generalize (lg_sl ([.int (o), .int (d)]) ++ List.replicate (2 - (lg_sl ([.int (o), .int (d)])).length) Slot.unset).toArray = ls at hl ⊢
  have hl : lv_has ls 2 [(0, .int (o)), (1, .int (d))] := hl
  have hR := fMo_fixed.eq_1 o d
  refine lv_iload_n hx hb dMo_fixed_0 rfl (lv_at hl 0 rfl) ?_
  refine lv_bipush (v := 30) hx hb dMo_fixed_1 (by decide) ?_
  refine lv_icmp_eq hx hb dMo_fixed_3 rfl (fun h3 => ?_) (fun h3 => ?_)
  · have hR := hR.trans (if_pos h3)
    refine lv_iload_n hx hb dMo_fixed_12 rfl (lv_at hl 1 rfl) ?_
    refine lv_bipush (v := 10) hx hb dMo_fixed_13 (by decide) ?_
    refine lm_irem hx hb dMo_fixed_15 (by decide) ?_
    exact W.iret hx hb hr (fun t ht _ => ⟨by rw [hR]; first | done | rfl, ht⟩) (fun _ h => absurd h List.not_mem_nil) dMo_fixed_16
  · have hR := hR.trans (if_neg h3)
    refine lv_iload_n hx hb dMo_fixed_6 rfl (lv_at hl 0 rfl) ?_
    refine lv_bipush (v := 35) hx hb dMo_fixed_7 (by decide) ?_
    refine lv_icmp_ne hx hb dMo_fixed_9 rfl (fun h9 => ?_) (fun h9 => ?_)
    · have hR := hR.trans (if_neg h9)
      refine lv_iload_n hx hb dMo_fixed_17 rfl (lv_at hl 0 rfl) ?_
      refine lv_bipush (v := 31) hx hb dMo_fixed_18 (by decide) ?_
      refine lv_icmp_ne hx hb dMo_fixed_20 rfl (fun h20 => ?_) (fun h20 => ?_)
      · have hR := hR.trans (if_neg h20)
        refine lv_iload_n hx hb dMo_fixed_42 rfl (lv_at hl 0 rfl) ?_
        refine lv_bipush (v := 14) hx hb dMo_fixed_43 (by decide) ?_
        refine lv_icmp_eq hx hb dMo_fixed_45 rfl (fun h45 => ?_) (fun h45 => ?_)
        · have hR := hR.trans (if_pos h45)
          refine lv_bipush (v := 20) hx hb dMo_fixed_54 (by decide) ?_
          exact W.iret hx hb hr (fun t ht _ => ⟨by rw [hR]; first | done | rfl, ht⟩) (fun _ h => absurd h List.not_mem_nil) dMo_fixed_56
        · have hR := hR.trans (if_neg h45)
          refine lv_iload_n hx hb dMo_fixed_48 rfl (lv_at hl 0 rfl) ?_
          refine lv_bipush (v := 19) hx hb dMo_fixed_49 (by decide) ?_
          refine lv_icmp_ne hx hb dMo_fixed_51 rfl (fun h51 => ?_) (fun h51 => ?_)
          · have hR := hR.trans (if_neg h51)
            refine lv_iload_n hx hb dMo_fixed_57 rfl (lv_at hl 0 rfl) ?_
            refine lv_bipush (v := 70) hx hb dMo_fixed_58 (by decide) ?_
            refine lv_icmp_eq hx hb dMo_fixed_60 rfl (fun h60 => ?_) (fun h60 => ?_)
            · have hR := hR.trans (if_pos h60)
              refine lv_bipush (v := 10) hx hb dMo_fixed_69 (by decide) ?_
              exact W.iret hx hb hr (fun t ht _ => ⟨by rw [hR]; first | done | rfl, ht⟩) (fun _ h => absurd h List.not_mem_nil) dMo_fixed_71
            · have hR := hR.trans (if_neg h60)
              refine lv_iload_n hx hb dMo_fixed_63 rfl (lv_at hl 0 rfl) ?_
              refine lv_bipush (v := 71) hx hb dMo_fixed_64 (by decide) ?_
              refine lv_icmp_ne hx hb dMo_fixed_66 rfl (fun h66 => ?_) (fun h66 => ?_)
              · have hR := hR.trans (if_neg h66)
                refine lv_iload_n hx hb dMo_fixed_72 rfl (lv_at hl 0 rfl) ?_
                refine lv_bipush (v := 69) hx hb dMo_fixed_73 (by decide) ?_
                refine lv_icmp_eq hx hb dMo_fixed_75 rfl (fun h75 => ?_) (fun h75 => ?_)
                · have hR := hR.trans (if_pos h75)
                  refine lv_iconst (v := 0) hx hb dMo_fixed_91 (by decide) ?_
                  refine lv_goto hx hb dMo_fixed_92 rfl ?_
                  exact W.iret hx hb hr (fun t ht _ => ⟨by rw [hR]; first | done | rfl, ht⟩) (fun _ h => absurd h List.not_mem_nil) dMo_fixed_96
                · have hR := hR.trans (if_neg h75)
                  refine lv_iload_n hx hb dMo_fixed_78 rfl (lv_at hl 0 rfl) ?_
                  refine lv_bipush (v := 84) hx hb dMo_fixed_79 (by decide) ?_
                  refine lv_icmp_eq hx hb dMo_fixed_81 rfl (fun h81 => ?_) (fun h81 => ?_)
                  · have hR := hR.trans (if_pos h81)
                    refine lv_iconst (v := 0) hx hb dMo_fixed_91 (by decide) ?_
                    refine lv_goto hx hb dMo_fixed_92 rfl ?_
                    exact W.iret hx hb hr (fun t ht _ => ⟨by rw [hR]; first | done | rfl, ht⟩) (fun _ h => absurd h List.not_mem_nil) dMo_fixed_96
                  · have hR := hR.trans (if_neg h81)
                    refine lv_iload_n hx hb dMo_fixed_84 rfl (lv_at hl 0 rfl) ?_
                    refine cl_rd (W.runS (As := [.int (o)]) (rest := []) ⟨hx, hb, hml, hown, hts⟩ (kMo_reads l o) (va_cwS 1 hts (gS wm5_90 wm5_91 wm1_9 wm5_92) rfl rfl rfl (by decide +kernel) ⟨Nat.le_of_ble_eq_true rfl, Nat.le_of_ble_eq_true rfl⟩) (preT) rfl rfl hl.1 rfl (lv_room (Nat.le_of_ble_eq_true rfl)) dMo_fixed_85 ⟨Nat.le_refl _, Nat.le_refl _⟩) ?_
                    refine wz_ifne hx hb dMo_fixed_88 rfl (fun h88 => ?_) (fun h88 => ?_)
                    · have hR := hR.trans (if_pos h88)
                      refine lv_iconst (v := 2) hx hb dMo_fixed_95 (by decide) ?_
                      exact W.iret hx hb hr (fun t ht _ => ⟨by rw [hR]; first | done | rfl, ht⟩) (fun _ h => absurd h List.not_mem_nil) dMo_fixed_96
                    · have hR := hR.trans (if_neg h88)
                      refine lv_iconst (v := 0) hx hb dMo_fixed_91 (by decide) ?_
                      refine lv_goto hx hb dMo_fixed_92 rfl ?_
                      exact W.iret hx hb hr (fun t ht _ => ⟨by rw [hR]; first | done | rfl, ht⟩) (fun _ h => absurd h List.not_mem_nil) dMo_fixed_96
              · have hR := hR.trans (if_pos h66)
                refine lv_bipush (v := 10) hx hb dMo_fixed_69 (by decide) ?_
                exact W.iret hx hb hr (fun t ht _ => ⟨by rw [hR]; first | done | rfl, ht⟩) (fun _ h => absurd h List.not_mem_nil) dMo_fixed_71
          · have hR := hR.trans (if_pos h51)
            refine lv_bipush (v := 20) hx hb dMo_fixed_54 (by decide) ?_
            exact W.iret hx hb hr (fun t ht _ => ⟨by rw [hR]; first | done | rfl, ht⟩) (fun _ h => absurd h List.not_mem_nil) dMo_fixed_56
      · have hR := hR.trans (if_pos h20)
        refine lv_iload_n hx hb dMo_fixed_23 rfl (lv_at hl 1 rfl) ?_
        refine lv_bipush (v := 10) hx hb dMo_fixed_24 (by decide) ?_
        refine lm_irem hx hb dMo_fixed_26 (by decide) ?_
        refine lv_if_ne hx hb dMo_fixed_27 rfl (fun h27 => ?_) (fun h27 => ?_)
        · have hR := hR.trans (if_neg h27)
          refine lv_iload_n hx hb dMo_fixed_35 rfl (lv_at hl 1 rfl) ?_
          refine lv_bipush (v := 10) hx hb dMo_fixed_36 (by decide) ?_
          refine lm_irem hx hb dMo_fixed_38 (by decide) ?_
          refine lv_iconst (v := 1) hx hb dMo_fixed_39 (by decide) ?_
          refine lv_iadd hx hb dMo_fixed_40 ?_
          exact W.iret hx hb hr (fun t ht _ => ⟨by rw [hR]; first | done | rfl, ht⟩) (fun _ h => absurd h List.not_mem_nil) dMo_fixed_41
        · have hR := hR.trans (if_pos h27)
          refine lv_bipush (v := 11) hx hb dMo_fixed_30 (by decide) ?_
          refine lv_goto hx hb dMo_fixed_32 rfl ?_
          exact W.iret hx hb hr (fun t ht _ => ⟨by rw [hR]; first | done | rfl, ht⟩) (fun _ h => absurd h List.not_mem_nil) dMo_fixed_41
    · have hR := hR.trans (if_pos h9)
      refine lv_iload_n hx hb dMo_fixed_12 rfl (lv_at hl 1 rfl) ?_
      refine lv_bipush (v := 10) hx hb dMo_fixed_13 (by decide) ?_
      refine lm_irem hx hb dMo_fixed_15 (by decide) ?_
      exact W.iret hx hb hr (fun t ht _ => ⟨by rw [hR]; first | done | rfl, ht⟩) (fun _ h => absurd h List.not_mem_nil) dMo_fixed_16
theorem sd_m {x : Int64} {n : Nat} (h : ¬ x ≤ 0) (hn : x.toInt.toNat < n + 1) : (x / 10).toInt.toNat < n := by
  have e : (10 : Int64).toInt = 10 := by decide
  have e0 : (0 : Int64).toInt = 0 := by decide
  rw [Int64.le_iff_toInt_le, e0] at h
  rw [Kit.i64_div (by rw [e]; omega), e, Int.tdiv_eq_ediv_of_nonneg (by omega)]
  omega
theorem dMo_sumOfDigits_0 : decode ccMo_sumOfDigits 0 = .ok (.iconst 0, 1) := by decide +kernel
theorem dMo_sumOfDigits_1 : decode ccMo_sumOfDigits 1 = .ok (.istore_n 2, 1) := by decide +kernel
theorem dMo_sumOfDigits_2 : decode ccMo_sumOfDigits 2 = .ok (.lload_n 0, 1) := by decide +kernel
theorem dMo_sumOfDigits_3 : decode ccMo_sumOfDigits 3 = .ok (.lstore_n 3, 1) := by decide +kernel
theorem dMo_sumOfDigits_4 : decode ccMo_sumOfDigits 4 = .ok (.lload_n 3, 1) := by decide +kernel
theorem dMo_sumOfDigits_5 : decode ccMo_sumOfDigits 5 = .ok (.lconst 0, 1) := by decide +kernel
theorem dMo_sumOfDigits_6 : decode ccMo_sumOfDigits 6 = .ok (.lcmp, 1) := by decide +kernel
theorem dMo_sumOfDigits_7 : decode ccMo_sumOfDigits 7 = .ok (.ifCond .le 21, 3) := by decide +kernel
theorem dMo_sumOfDigits_10 : decode ccMo_sumOfDigits 10 = .ok (.iload_n 2, 1) := by decide +kernel
theorem dMo_sumOfDigits_11 : decode ccMo_sumOfDigits 11 = .ok (.lload_n 3, 1) := by decide +kernel
theorem dMo_sumOfDigits_12 : decode ccMo_sumOfDigits 12 = .ok (.ldc2_w 67, 3) := by decide +kernel
theorem dMo_sumOfDigits_15 : decode ccMo_sumOfDigits 15 = .ok (.lrem, 1) := by decide +kernel
theorem dMo_sumOfDigits_16 : decode ccMo_sumOfDigits 16 = .ok (.l2i, 1) := by decide +kernel
theorem dMo_sumOfDigits_17 : decode ccMo_sumOfDigits 17 = .ok (.iadd, 1) := by decide +kernel
theorem dMo_sumOfDigits_18 : decode ccMo_sumOfDigits 18 = .ok (.istore_n 2, 1) := by decide +kernel
theorem dMo_sumOfDigits_19 : decode ccMo_sumOfDigits 19 = .ok (.lload_n 3, 1) := by decide +kernel
theorem dMo_sumOfDigits_20 : decode ccMo_sumOfDigits 20 = .ok (.ldc2_w 67, 3) := by decide +kernel
theorem dMo_sumOfDigits_23 : decode ccMo_sumOfDigits 23 = .ok (.ldiv, 1) := by decide +kernel
theorem dMo_sumOfDigits_24 : decode ccMo_sumOfDigits 24 = .ok (.lstore_n 3, 1) := by decide +kernel
theorem dMo_sumOfDigits_25 : decode ccMo_sumOfDigits 25 = .ok (.goto (-21), 3) := by decide +kernel
theorem dMo_sumOfDigits_28 : decode ccMo_sumOfDigits 28 = .ok (.iload_n 2, 1) := by decide +kernel
theorem dMo_sumOfDigits_29 : decode ccMo_sumOfDigits 29 = .ok (.ireturn, 1) := by decide +kernel
def fMo_sumOfDigits_4  : Nat → Int32 → Int64 → Int32
  | 0, v2, v3 => 0
  | fu + 1, v2, v3 => (if v3 ≤ 0 then v2 else fMo_sumOfDigits_4 fu (v2 + ((v3 % 10).toInt32)) (v3 / 10))
def fMo_sumOfDigits (v : Int64) : Int32 :=
  fMo_sumOfDigits_4 (v.toInt.toNat + 1) 0 v
set_option maxHeartbeats 4000000 in
set_option maxRecDepth 100000 in
theorem kMo_sumOfDigits (l : Launch) (v : Int64)  : Met l yMo_sumOfDigits wsMo_sumOfDigits { frames := 0, cells := 0, slots := 0, locals := 0 } (va_Pc [.long (v)] (fun _ => True)) (cQr (some (.int (fMo_sumOfDigits v)))) 0 0 (fun _ => False) := by
  refine Met.ofW (cc := ccMo_sumOfDigits) (maxL := 5) (ret := (some .int)) (by decide +kernel) rfl ?_
  intro p e s m args below meth c s₁ B hml hv
  obtain ⟨rfl, -⟩ := hv
  have hx := B.exec
  have hb := B.bytes
  have hr := B.returns
  have hts := atoms_spec (ws := wsMo_sumOfDigits) B.pre
  have hown : s.vm.findClass RMo = some m.cls := findClass_of_methodNamed B.named
  have hlocks := B.notSynchronized
  have w0 := hts (.constantLong RMo 67 (10)) (List.mem_cons_of_mem _ wm4_183)
  have hl := lv_entry ([.long (v)]) (n := 5) (Nat.le_of_ble_eq_true rfl)
  rw [lg_entry_eq]
  generalize (lg_sl ([.long (v)]) ++ List.replicate (5 - (lg_sl ([.long (v)])).length) Slot.unset).toArray = ls at hl ⊢
  have hl : lv_has ls 5 [(0, .long (v))] := hl
  have hB4 : ∀ (n4 : Nat) (ls : Array Slot) (v2 : Int32) (v3 : Int64), v3.toInt.toNat < n4 → fMo_sumOfDigits v = fMo_sumOfDigits_4 n4 v2 v3 → lv_has ls 5 [(2, .int (v2)), (3, .long (v3))] → W p l e (headSpec wsMo_sumOfDigits { frames := 0, cells := 0, slots := 0, locals := 0 }).room s m ([.long (v)] : List Value).toArray below meth c s.heap [] 0 0 (MQ below (cQr (some (.int (fMo_sumOfDigits v)))) ([.long (v)] : List Value).toArray s 0 0 (fun _ => False)) (F0 m 4 ls []) := by
    intro n4
    induction n4 with
    | zero => intro ls v2 v3 hn4; exact absurd hn4 (Nat.not_lt_zero _)
    | succ n4 ih4 =>
      intro ls v2 v3 hn4 hR hl
      rw [fMo_sumOfDigits_4.eq_2] at hR
      refine lv_lload_n hx hb dMo_sumOfDigits_4 rfl (lv_at hl 1 rfl) ?_
      refine lv_lconst (v := 0) hx hb dMo_sumOfDigits_5 (by decide) ?_
      refine lc_le hx hb dMo_sumOfDigits_6 dMo_sumOfDigits_7 rfl (fun h6 => ?_) (fun h6 => ?_)
      · have hR := hR.trans (if_pos h6)
        refine lv_iload_n hx hb dMo_sumOfDigits_28 rfl (lv_at hl 0 rfl) ?_
        exact W.iret hx hb hr (fun t ht _ => ⟨by rw [hR]; first | done | rfl, ht⟩) (fun _ h => absurd h List.not_mem_nil) dMo_sumOfDigits_29
      · have hR := hR.trans (if_neg h6)
        refine lv_iload_n hx hb dMo_sumOfDigits_10 rfl (lv_at hl 0 rfl) ?_
        refine lv_lload_n hx hb dMo_sumOfDigits_11 rfl (lv_at hl 1 rfl) ?_
        refine lv_ldc2 (v := 10) hx hb hown w0 dMo_sumOfDigits_12 ?_
        refine lm_lrem hx hb dMo_sumOfDigits_15 (by decide) ?_
        refine lv_l2i hx hb dMo_sumOfDigits_16 rfl ?_
        refine lv_iadd hx hb dMo_sumOfDigits_17 ?_
        refine lv_istore_n (lv' := [(2, .int (v2 + ((v3 % 10).toInt32))), (3, .long (v3))]) hx hb dMo_sumOfDigits_18 rfl hl (by decide) rfl (fun ls hl => ?_)
        refine lv_lload_n hx hb dMo_sumOfDigits_19 rfl (lv_at hl 1 rfl) ?_
        refine lv_ldc2 (v := 10) hx hb hown w0 dMo_sumOfDigits_20 ?_
        refine lv_ldiv hx hb dMo_sumOfDigits_23 (by decide) ?_
        refine lv_lstore_n (lv' := [(3, .long (v3 / 10)), (2, .int (v2 + ((v3 % 10).toInt32)))]) hx hb dMo_sumOfDigits_24 rfl hl (by decide) rfl (fun ls hl => ?_)
        refine lv_goto hx hb dMo_sumOfDigits_25 rfl ?_
        exact ih4 ls (v2 + ((v3 % 10).toInt32)) (v3 / 10) (sd_m h6 hn4) hR (lv_sub hl [1, 0] rfl)
  have hR := fMo_sumOfDigits.eq_1 v
  refine lv_iconst (v := 0) hx hb dMo_sumOfDigits_0 (by decide) ?_
  refine lv_istore_n (lv' := [(2, .int (0)), (0, .long (v))]) hx hb dMo_sumOfDigits_1 rfl hl (by decide) rfl (fun ls hl => ?_)
  refine lv_lload_n hx hb dMo_sumOfDigits_2 rfl (lv_at hl 1 rfl) ?_
  refine lv_lstore_n (lv' := [(3, .long (v)), (2, .int (0)), (0, .long (v))]) hx hb dMo_sumOfDigits_3 rfl hl (by decide) rfl (fun ls hl => ?_)
  exact hB4 (v.toInt.toNat + 1) ls 0 v (Nat.lt_succ_self _) hR (lv_sub hl [1, 0] rfl)
theorem mha {a : Int32} (h : fMo_isAddress a = true) : vp_in a 200 := by
  rw [fMo_isAddress.eq_1] at h
  by_cases h1 : a < 0
  · rw [if_pos h1] at h; cases h
  · rw [if_neg h1] at h
    by_cases h2 : (200 : Int32) ≤ a
    · rw [if_pos h2] at h; cases h
    · rw [Int32.le_iff_toInt_le] at h2
      have e : (200 : Int32).toInt = 200 := by decide
      exact vp_in_iff.mpr ⟨i_nn h1, by omega⟩
theorem in10m {a d : Int32} (ha : vp_in a 200) (hd : vp_in d 10) : vp_in (10 * a + d) 2000 := by
  obtain ⟨a1, a2⟩ := vp_in_iff.mp ha
  obtain ⟨d1, d2⟩ := vp_in_iff.mp hd
  have e : (10 : Int32).toInt = 10 := by decide
  have hm : (10 * a).toInt = 10 * a.toInt := by
    rw [Kit.i32_mul (by rw [e]; omega) (by rw [e]; omega), e]
  rw [vp_in_iff, Kit.i32_add (by rw [hm]; omega) (by rw [hm]; omega), hm]
  omega
theorem bb_z {b : Bool} (h : bb b = 0) : b = false := by
  cases b
  · rfl
  · exact absurd h (by decide)
theorem bb_le {b : Bool} (h : bb b ≤ 0) : b = false := by
  cases b
  · rfl
  · exact absurd h (by decide)
theorem dMo_write_0 : decode ccMo_write 0 = .ok (.lload_n 2, 1) := by decide +kernel
theorem dMo_write_1 : decode ccMo_write 1 = .ok (.lstore 5, 2) := by decide +kernel
theorem dMo_write_3 : decode ccMo_write 3 = .ok (.iconst 0, 1) := by decide +kernel
theorem dMo_write_4 : decode ccMo_write 4 = .ok (.istore 7, 2) := by decide +kernel
theorem dMo_write_6 : decode ccMo_write 6 = .ok (.iload 7, 2) := by decide +kernel
theorem dMo_write_8 : decode ccMo_write 8 = .ok (.bipush 10, 2) := by decide +kernel
theorem dMo_write_10 : decode ccMo_write 10 = .ok (.if_icmp .ge 58, 3) := by decide +kernel
theorem dMo_write_13 : decode ccMo_write 13 = .ok (.lload 5, 2) := by decide +kernel
theorem dMo_write_15 : decode ccMo_write 15 = .ok (.ldc2_w 67, 3) := by decide +kernel
theorem dMo_write_18 : decode ccMo_write 18 = .ok (.lrem, 1) := by decide +kernel
theorem dMo_write_19 : decode ccMo_write 19 = .ok (.l2i, 1) := by decide +kernel
theorem dMo_write_20 : decode ccMo_write 20 = .ok (.istore 8, 2) := by decide +kernel
theorem dMo_write_22 : decode ccMo_write 22 = .ok (.aload_n 0, 1) := by decide +kernel
theorem dMo_write_23 : decode ccMo_write 23 = .ok (.getfield 7, 3) := by decide +kernel
theorem dMo_write_26 : decode ccMo_write 26 = .ok (.bipush 10, 2) := by decide +kernel
theorem dMo_write_28 : decode ccMo_write 28 = .ok (.iload_n 1, 1) := by decide +kernel
theorem dMo_write_29 : decode ccMo_write 29 = .ok (.imul, 1) := by decide +kernel
theorem dMo_write_30 : decode ccMo_write 30 = .ok (.iload 7, 2) := by decide +kernel
theorem dMo_write_32 : decode ccMo_write 32 = .ok (.iadd, 1) := by decide +kernel
theorem dMo_write_33 : decode ccMo_write 33 = .ok (.iconst 1, 1) := by decide +kernel
theorem dMo_write_34 : decode ccMo_write 34 = .ok (.iload 8, 2) := by decide +kernel
theorem dMo_write_36 : decode ccMo_write 36 = .ok (.iconst 5, 1) := by decide +kernel
theorem dMo_write_37 : decode ccMo_write 37 = .ok (.irem, 1) := by decide +kernel
theorem dMo_write_38 : decode ccMo_write 38 = .ok (.ishl, 1) := by decide +kernel
theorem dMo_write_39 : decode ccMo_write 39 = .ok (.iload 8, 2) := by decide +kernel
theorem dMo_write_41 : decode ccMo_write 41 = .ok (.iconst 5, 1) := by decide +kernel
theorem dMo_write_42 : decode ccMo_write 42 = .ok (.if_icmp .ge 8, 3) := by decide +kernel
theorem dMo_write_45 : decode ccMo_write 45 = .ok (.bipush 32, 2) := by decide +kernel
theorem dMo_write_47 : decode ccMo_write 47 = .ok (.goto 5, 3) := by decide +kernel
theorem dMo_write_50 : decode ccMo_write 50 = .ok (.bipush 64, 2) := by decide +kernel
theorem dMo_write_52 : decode ccMo_write 52 = .ok (.ior, 1) := by decide +kernel
theorem dMo_write_53 : decode ccMo_write 53 = .ok (.iastore, 1) := by decide +kernel
theorem dMo_write_54 : decode ccMo_write 54 = .ok (.lload 5, 2) := by decide +kernel
theorem dMo_write_56 : decode ccMo_write 56 = .ok (.ldc2_w 67, 3) := by decide +kernel
theorem dMo_write_59 : decode ccMo_write 59 = .ok (.ldiv, 1) := by decide +kernel
theorem dMo_write_60 : decode ccMo_write 60 = .ok (.lstore 5, 2) := by decide +kernel
theorem dMo_write_62 : decode ccMo_write 62 = .ok (.iinc 7 1, 3) := by decide +kernel
theorem dMo_write_65 : decode ccMo_write 65 = .ok (.goto (-59), 3) := by decide +kernel
theorem dMo_write_68 : decode ccMo_write 68 = .ok (.aload_n 0, 1) := by decide +kernel
theorem dMo_write_69 : decode ccMo_write 69 = .ok (.getfield 13, 3) := by decide +kernel
theorem dMo_write_72 : decode ccMo_write 72 = .ok (.iload_n 1, 1) := by decide +kernel
theorem dMo_write_73 : decode ccMo_write 73 = .ok (.iload 4, 2) := by decide +kernel
theorem dMo_write_75 : decode ccMo_write 75 = .ok (.bastore, 1) := by decide +kernel
theorem dMo_write_76 : decode ccMo_write 76 = .ok (.return_, 1) := by decide +kernel
def fMo_write_6  : Nat → SM → Int32 → Bool → Int64 → Nat → SM
  | 0, z, a, b, v5, v7 => z
  | fu + 1, z, a, b, v5, v7 => (if 10 ≤ v7 then m_dmin_s z (updB (m_dmin z) a.toNatClampNeg b) else (if (5 : Int32) ≤ ((v5 % 10).toInt32) then fMo_write_6 fu (m_codes_s z (upd (m_codes z) (((10 * a) + (nI (v7))).toNatClampNeg) (((1 : Int32) <<< ((((v5 % 10).toInt32) % 5) &&& 31)) ||| 64))) a b (v5 / 10) (v7 + 1) else fMo_write_6 fu (m_codes_s z (upd (m_codes z) (((10 * a) + (nI (v7))).toNatClampNeg) (((1 : Int32) <<< ((((v5 % 10).toInt32) % 5) &&& 31)) ||| 32))) a b (v5 / 10) (v7 + 1)))
def fMo_write (z0 : SM) (a : Int32) (v : Int64) (b : Bool) : SM :=
  fMo_write_6 11 z0 a b v 0
set_option maxHeartbeats 4000000 in
set_option maxRecDepth 100000 in
theorem kMo_write (l : Launch) (D : va_G) (q : Nat → Nat) (cI cJ cZ : ClassId) (hq : m_inj q) (z0 : SM) (a : Int32) (v : Int64) (b : Bool) (ha : vp_in a 200) : Met l yMo_write wsMo_write { frames := 0, cells := 0, slots := 0, locals := 0 } (va_Pc [.ref (q 0), .int (a), .long (v), .int (bb (b))] (m_C D q cI cJ cZ z0)) (cQw none (m_W D q cI cJ cZ (fMo_write z0 a v b)) (m_qs q)) 0 0 (m_qs q) := by
  refine Met.ofW (cc := ccMo_write) (maxL := 9) (ret := none) (by decide +kernel) rfl ?_
  intro p e s m args below meth c s₁ B hml hv
  obtain ⟨rfl, hP, hK⟩ := hv
  have hx := B.exec
  have hb := B.bytes
  have hr := B.returns
  have hts := atoms_spec (ws := wsMo_write) B.pre
  have hown : s.vm.findClass RMo = some m.cls := findClass_of_methodNamed B.named
  have hlocks := B.notSynchronized
  have w0 := hts (.fieldLink RMo 13 "DrumMachineModel" "minus" "[Z") (List.mem_cons_of_mem _ wm4_190)
  have w1 := hts (.constantLong RMo 67 (10)) (List.mem_cons_of_mem _ wm4_183)
  have w2 := hts (.fieldLink RMo 7 "DrumMachineModel" "digits" "[I") (List.mem_cons_of_mem _ wm4_189)
  have i0 : ∀ w ∈ u_ws RMo TMo 28, w ∈ wsMo_write := fun w h => List.mem_cons_of_mem _ (inAMo w h)
  have hS : va_S (m_qs q) s.heap s.heap [] := va_S.rf
  have hl := lv_entry ([.ref (q 0), .int (a), .long (v), .int (bb (b))]) (n := 9) (Nat.le_of_ble_eq_true rfl)
  rw [lg_entry_eq]
  generalize (lg_sl ([.ref (q 0), .int (a), .long (v), .int (bb (b))]) ++ List.replicate (9 - (lg_sl ([.ref (q 0), .int (a), .long (v), .int (bb (b))])).length) Slot.unset).toArray = ls at hl ⊢
  have hl : lv_has ls 9 [(0, .ref (q 0)), (1, .int (a)), (2, .long (v)), (4, .int (bb (b)))] := hl
  have hB6 : ∀ (n6 : Nat) (H : Heap) (locs : List Loc) (ls : Array Slot) (z : SM) (v5 : Int64) (v7 : Nat), 10 - v7 < n6 → fMo_write z0 a v b = fMo_write_6 n6 z a b v5 v7 → (v7 ≤ 10) → m_W D q cI cJ cZ z H → va_S (m_qs q) s.heap H locs → lv_has ls 9 [(0, .ref (q 0)), (1, .int (a)), (4, .int (bb (b))), (5, .long (v5)), (7, .int (nI (v7)))] → W p l e (headSpec wsMo_write { frames := 0, cells := 0, slots := 0, locals := 0 }).room s m ([.ref (q 0), .int (a), .long (v), .int (bb (b))] : List Value).toArray below meth c H locs 0 0 (MQ below (cQw none (m_W D q cI cJ cZ (fMo_write z0 a v b)) (m_qs q)) ([.ref (q 0), .int (a), .long (v), .int (bb (b))] : List Value).toArray s 0 0 (m_qs q)) (F0 m 6 ls []) := by
    intro n6
    induction n6 with
    | zero => intro H locs ls z v5 v7 hn6; exact absurd hn6 (Nat.not_lt_zero _)
    | succ n6 ih6 =>
      intro H locs ls z v5 v7 hn6 hR h7 hP hS hl
      rw [fMo_write_6.eq_2] at hR
      refine lv_iload hx hb dMo_write_6 (lv_at hl 4 rfl) ?_
      refine lv_bipush (v := 10) hx hb dMo_write_8 (by decide) ?_
      refine wn_ge (x := v7) (y := 10) hx hb (by omega) (by omega) dMo_write_10 rfl (fun h10 => ?_) (fun h10 => ?_)
      · have hR := hR.trans (if_pos h10)
        refine lv_aload_n hx hb dMo_write_68 rfl (lv_at hl 0 rfl) ?_
        refine mg0_minus hx hb hts i0 hown hK hP w0 dMo_write_69 ?_
        refine lv_iload_n hx hb dMo_write_72 rfl (lv_at hl 1 rfl) ?_
        refine lv_iload hx hb dMo_write_73 (lv_at hl 2 rfl) ?_
        refine ms_dmin b hq hS hx hb hK hP ha dMo_write_75 (fun H locs hP hS => ?_)
        exact W.vret hx hb hr (fun t ht _ => ⟨rfl, by rw [hR, ht]; exact hP, hS.F ht⟩) hS.2.2 dMo_write_76
      · have hR := hR.trans (if_neg h10)
        refine lv_lload hx hb dMo_write_13 (lv_at hl 3 rfl) ?_
        refine lv_ldc2 (v := 10) hx hb hown w1 dMo_write_15 ?_
        refine lm_lrem hx hb dMo_write_18 (by decide) ?_
        refine lv_l2i hx hb dMo_write_19 rfl ?_
        refine lv_istore (lv' := [(8, .int ((v5 % 10).toInt32)), (0, .ref (q 0)), (1, .int (a)), (4, .int (bb (b))), (5, .long (v5)), (7, .int (nI (v7)))]) hx hb dMo_write_20 hl (by decide) rfl (fun ls hl => ?_)
        refine lv_aload_n hx hb dMo_write_22 rfl (lv_at hl 1 rfl) ?_
        refine mg0_digits hx hb hts i0 hown hK hP w2 dMo_write_23 ?_
        refine lv_bipush (v := 10) hx hb dMo_write_26 (by decide) ?_
        refine lv_iload_n hx hb dMo_write_28 rfl (lv_at hl 2 rfl) ?_
        refine lv_imul hx hb dMo_write_29 ?_
        refine lv_iload hx hb dMo_write_30 (lv_at hl 5 rfl) ?_
        refine lv_iadd hx hb dMo_write_32 ?_
        refine lv_iconst (v := 1) hx hb dMo_write_33 (by decide) ?_
        refine lv_iload hx hb dMo_write_34 (lv_at hl 0 rfl) ?_
        refine lv_iconst (v := 5) hx hb dMo_write_36 (by decide) ?_
        refine lm_irem hx hb dMo_write_37 (by decide) ?_
        refine lv_ishl hx hb dMo_write_38 ?_
        refine lv_iload hx hb dMo_write_39 (lv_at hl 0 rfl) ?_
        refine lv_iconst (v := 5) hx hb dMo_write_41 (by decide) ?_
        refine lv_icmp_ge hx hb dMo_write_42 rfl (fun h42 => ?_) (fun h42 => ?_)
        · have hR := hR.trans (if_pos h42)
          refine lv_bipush (v := 64) hx hb dMo_write_50 (by decide) ?_
          refine lv_ior hx hb dMo_write_52 ?_
          refine ms_codes (((1 : Int32) <<< ((((v5 % 10).toInt32) % 5) &&& 31)) ||| 64) hq hS hx hb hK hP (in10m ha (vp_in_nI (by omega) (by decide))) dMo_write_53 (fun H locs hP hS => ?_)
          refine lv_lload hx hb dMo_write_54 (lv_at hl 4 rfl) ?_
          refine lv_ldc2 (v := 10) hx hb hown w1 dMo_write_56 ?_
          refine lv_ldiv hx hb dMo_write_59 (by decide) ?_
          refine lv_lstore (lv' := [(5, .long (v5 / 10)), (8, .int ((v5 % 10).toInt32)), (0, .ref (q 0)), (1, .int (a)), (4, .int (bb (b))), (7, .int (nI (v7)))]) hx hb dMo_write_60 hl (by decide) rfl (fun ls hl => ?_)
          refine lv_iinc (k := 5) (lv' := [(7, .int (nI (v7 + 1))), (5, .long (v5 / 10)), (8, .int ((v5 % 10).toInt32)), (0, .ref (q 0)), (1, .int (a)), (4, .int (bb (b)))]) hx hb dMo_write_62 hl rfl (nI_1 _) (by decide) rfl (fun ls hl => ?_)
          refine lv_goto hx hb dMo_write_65 rfl ?_
          exact ih6 H locs ls (m_codes_s z (upd (m_codes z) (((10 * a) + (nI (v7))).toNatClampNeg) (((1 : Int32) <<< ((((v5 % 10).toInt32) % 5) &&& 31)) ||| 64))) (v5 / 10) (v7 + 1) (by omega) hR (by first | assumption | omega) hP hS (lv_sub hl [3, 4, 5, 1, 0] rfl)
        · have hR := hR.trans (if_neg h42)
          refine lv_bipush (v := 32) hx hb dMo_write_45 (by decide) ?_
          refine lv_goto hx hb dMo_write_47 rfl ?_
          refine lv_ior hx hb dMo_write_52 ?_
          refine ms_codes (((1 : Int32) <<< ((((v5 % 10).toInt32) % 5) &&& 31)) ||| 32) hq hS hx hb hK hP (in10m ha (vp_in_nI (by omega) (by decide))) dMo_write_53 (fun H locs hP hS => ?_)
          refine lv_lload hx hb dMo_write_54 (lv_at hl 4 rfl) ?_
          refine lv_ldc2 (v := 10) hx hb hown w1 dMo_write_56 ?_
          refine lv_ldiv hx hb dMo_write_59 (by decide) ?_
          refine lv_lstore (lv' := [(5, .long (v5 / 10)), (8, .int ((v5 % 10).toInt32)), (0, .ref (q 0)), (1, .int (a)), (4, .int (bb (b))), (7, .int (nI (v7)))]) hx hb dMo_write_60 hl (by decide) rfl (fun ls hl => ?_)
          refine lv_iinc (k := 5) (lv' := [(7, .int (nI (v7 + 1))), (5, .long (v5 / 10)), (8, .int ((v5 % 10).toInt32)), (0, .ref (q 0)), (1, .int (a)), (4, .int (bb (b)))]) hx hb dMo_write_62 hl rfl (nI_1 _) (by decide) rfl (fun ls hl => ?_)
          refine lv_goto hx hb dMo_write_65 rfl ?_
          exact ih6 H locs ls (m_codes_s z (upd (m_codes z) (((10 * a) + (nI (v7))).toNatClampNeg) (((1 : Int32) <<< ((((v5 % 10).toInt32) % 5) &&& 31)) ||| 32))) (v5 / 10) (v7 + 1) (by omega) hR (by first | assumption | omega) hP hS (lv_sub hl [3, 4, 5, 1, 0] rfl)
  have hR := fMo_write.eq_1 z0 a v b
  refine lv_lload_n hx hb dMo_write_0 rfl (lv_at hl 2 rfl) ?_
  refine lv_lstore (lv' := [(5, .long (v)), (0, .ref (q 0)), (1, .int (a)), (2, .long (v)), (4, .int (bb (b)))]) hx hb dMo_write_1 hl (by decide) rfl (fun ls hl => ?_)
  refine lv_iconst (v := 0) hx hb dMo_write_3 (by decide) ?_
  refine lv_istore (lv' := [(7, .int (nI (0))), (5, .long (v)), (0, .ref (q 0)), (1, .int (a)), (2, .long (v)), (4, .int (bb (b)))]) hx hb dMo_write_4 hl (by decide) rfl (fun ls hl => ?_)
  exact hB6 11 s.heap [] ls z0 v 0 (by omega) hR (by first | assumption | omega) hP hS (lv_sub hl [2, 3, 5, 1, 0] rfl)
theorem dMo_value_0 : decode ccMo_value 0 = .ok (.lconst 0, 1) := by decide +kernel
theorem dMo_value_1 : decode ccMo_value 1 = .ok (.lstore_n 2, 1) := by decide +kernel
theorem dMo_value_2 : decode ccMo_value 2 = .ok (.iconst 1, 1) := by decide +kernel
theorem dMo_value_3 : decode ccMo_value 3 = .ok (.istore 4, 2) := by decide +kernel
theorem dMo_value_5 : decode ccMo_value 5 = .ok (.bipush 9, 2) := by decide +kernel
theorem dMo_value_7 : decode ccMo_value 7 = .ok (.istore 5, 2) := by decide +kernel
theorem dMo_value_9 : decode ccMo_value 9 = .ok (.iload 5, 2) := by decide +kernel
theorem dMo_value_11 : decode ccMo_value 11 = .ok (.ifCond .lt 53, 3) := by decide +kernel
theorem dMo_value_14 : decode ccMo_value 14 = .ok (.aload_n 0, 1) := by decide +kernel
theorem dMo_value_15 : decode ccMo_value 15 = .ok (.getfield 7, 3) := by decide +kernel
theorem dMo_value_18 : decode ccMo_value 18 = .ok (.bipush 10, 2) := by decide +kernel
theorem dMo_value_20 : decode ccMo_value 20 = .ok (.iload_n 1, 1) := by decide +kernel
theorem dMo_value_21 : decode ccMo_value 21 = .ok (.imul, 1) := by decide +kernel
theorem dMo_value_22 : decode ccMo_value 22 = .ok (.iload 5, 2) := by decide +kernel
theorem dMo_value_24 : decode ccMo_value 24 = .ok (.iadd, 1) := by decide +kernel
theorem dMo_value_25 : decode ccMo_value 25 = .ok (.iaload, 1) := by decide +kernel
theorem dMo_value_26 : decode ccMo_value 26 = .ok (.invokestatic 69, 3) := by decide +kernel
theorem dMo_value_29 : decode ccMo_value 29 = .ok (.istore 6, 2) := by decide +kernel
theorem dMo_value_31 : decode ccMo_value 31 = .ok (.iload 4, 2) := by decide +kernel
theorem dMo_value_33 : decode ccMo_value 33 = .ok (.ifCond .eq 12, 3) := by decide +kernel
theorem dMo_value_36 : decode ccMo_value 36 = .ok (.iload 6, 2) := by decide +kernel
theorem dMo_value_38 : decode ccMo_value 38 = .ok (.ifCond .lt 7, 3) := by decide +kernel
theorem dMo_value_41 : decode ccMo_value 41 = .ok (.iconst 1, 1) := by decide +kernel
theorem dMo_value_42 : decode ccMo_value 42 = .ok (.goto 4, 3) := by decide +kernel
theorem dMo_value_45 : decode ccMo_value 45 = .ok (.iconst 0, 1) := by decide +kernel
theorem dMo_value_46 : decode ccMo_value 46 = .ok (.istore 4, 2) := by decide +kernel
theorem dMo_value_48 : decode ccMo_value 48 = .ok (.ldc2_w 67, 3) := by decide +kernel
theorem dMo_value_51 : decode ccMo_value 51 = .ok (.lload_n 2, 1) := by decide +kernel
theorem dMo_value_52 : decode ccMo_value 52 = .ok (.lmul, 1) := by decide +kernel
theorem dMo_value_53 : decode ccMo_value 53 = .ok (.iload 6, 2) := by decide +kernel
theorem dMo_value_55 : decode ccMo_value 55 = .ok (.i2l, 1) := by decide +kernel
theorem dMo_value_56 : decode ccMo_value 56 = .ok (.ladd, 1) := by decide +kernel
theorem dMo_value_57 : decode ccMo_value 57 = .ok (.lstore_n 2, 1) := by decide +kernel
theorem dMo_value_58 : decode ccMo_value 58 = .ok (.iinc 5 (-1), 3) := by decide +kernel
theorem dMo_value_61 : decode ccMo_value 61 = .ok (.goto (-52), 3) := by decide +kernel
theorem dMo_value_64 : decode ccMo_value 64 = .ok (.iload 4, 2) := by decide +kernel
theorem dMo_value_66 : decode ccMo_value 66 = .ok (.ifCond .eq 7, 3) := by decide +kernel
theorem dMo_value_69 : decode ccMo_value 69 = .ok (.lload_n 2, 1) := by decide +kernel
theorem dMo_value_70 : decode ccMo_value 70 = .ok (.goto 6, 3) := by decide +kernel
theorem dMo_value_73 : decode ccMo_value 73 = .ok (.ldc2_w 73, 3) := by decide +kernel
theorem dMo_value_76 : decode ccMo_value 76 = .ok (.lreturn, 1) := by decide +kernel
def fMo_value_9  : Nat → SM → Int32 → Int64 → Bool → Int32 → Int64
  | 0, z0, a, v2, v4, v5 => 0
  | fu + 1, z0, a, v2, v4, v5 => (if v5 < 0 then (if v4 = true then v2 else (-1)) else (if v4 = true then (if (fMo_digitOf (m_codes z0 (((10 * a) + v5).toNatClampNeg))) < 0 then fMo_value_9 fu z0 a ((10 * v2) + ((fMo_digitOf (m_codes z0 (((10 * a) + v5).toNatClampNeg))).toInt64)) false (v5 + (-1)) else fMo_value_9 fu z0 a ((10 * v2) + ((fMo_digitOf (m_codes z0 (((10 * a) + v5).toNatClampNeg))).toInt64)) true (v5 + (-1))) else fMo_value_9 fu z0 a ((10 * v2) + ((fMo_digitOf (m_codes z0 (((10 * a) + v5).toNatClampNeg))).toInt64)) false (v5 + (-1))))
def fMo_value (z0 : SM) (a : Int32) : Int64 :=
  fMo_value_9 11 z0 a 0 true 9
set_option maxHeartbeats 4000000 in
set_option maxRecDepth 100000 in
theorem kMo_value (l : Launch) (D : va_G) (q : Nat → Nat) (cI cJ cZ : ClassId) (hq : m_inj q) (z0 : SM) (a : Int32) (ha : vp_in a 200) : Met l yMo_value wsMo_value { frames := 1, cells := 0, slots := 0, locals := 23 } (va_Pc [.ref (q 0), .int (a)] (m_C D q cI cJ cZ z0)) (cQr (some (.long (fMo_value z0 a)))) 0 0 (fun _ => False) := by
  refine Met.ofW (cc := ccMo_value) (maxL := 7) (ret := (some .long)) (by decide +kernel) rfl ?_
  intro p e s m args below meth c s₁ B hml hv
  obtain ⟨rfl, hP, hK⟩ := hv
  have hx := B.exec
  have hb := B.bytes
  have hr := B.returns
  have hts := atoms_spec (ws := wsMo_value) B.pre
  have hown : s.vm.findClass RMo = some m.cls := findClass_of_methodNamed B.named
  have hlocks := B.notSynchronized
  have w0 := hts (.constantLong RMo 73 (-1)) (List.mem_cons_of_mem _ wm5_59)
  have w1 := hts (.fieldLink RMo 7 "DrumMachineModel" "digits" "[I") (List.mem_cons_of_mem _ wm4_189)
  have w2 := hts (.constantLong RMo 67 (10)) (List.mem_cons_of_mem _ wm4_183)
  have i0 : ∀ w ∈ u_ws RMo TMo 28, w ∈ wsMo_value := fun w h => List.mem_cons_of_mem _ (inAMo w h)
  have hl := lv_entry ([.ref (q 0), .int (a)]) (n := 7) (Nat.le_of_ble_eq_true rfl)
  rw [lg_entry_eq]
  generalize (lg_sl ([.ref (q 0), .int (a)]) ++ List.replicate (7 - (lg_sl ([.ref (q 0), .int (a)])).length) Slot.unset).toArray = ls at hl ⊢
  have hl : lv_has ls 7 [(0, .ref (q 0)), (1, .int (a))] := hl
  have hB9 : ∀ (n9 : Nat) (ls : Array Slot) (v2 : Int64) (v4 : Bool) (v5 : Int32), (v5.toInt + 1).toNat < n9 → fMo_value z0 a = fMo_value_9 n9 z0 a v2 v4 v5 → (-1 ≤ v5.toInt ∧ v5.toInt ≤ 9) → lv_has ls 7 [(0, .ref (q 0)), (1, .int (a)), (2, .long (v2)), (4, .int (bb (v4))), (5, .int (v5))] → W p l e (headSpec wsMo_value { frames := 1, cells := 0, slots := 0, locals := 23 }).room s m ([.ref (q 0), .int (a)] : List Value).toArray below meth c s.heap [] 0 0 (MQ below (cQr (some (.long (fMo_value z0 a)))) ([.ref (q 0), .int (a)] : List Value).toArray s 0 0 (fun _ => False)) (F0 m 9 ls []) := by
    intro n9
    induction n9 with
    | zero => intro ls v2 v4 v5 hn9; exact absurd hn9 (Nat.not_lt_zero _)
    | succ n9 ih9 =>
      intro ls v2 v4 v5 hn9 hR h5 hl
      rw [fMo_value_9.eq_2] at hR
      refine lv_iload hx hb dMo_value_9 (lv_at hl 4 rfl) ?_
      refine lv_if_lt hx hb dMo_value_11 rfl (fun h11 => ?_) (fun h11 => ?_)
      · have hR := hR.trans (if_pos h11)
        refine lv_iload hx hb dMo_value_64 (lv_at hl 3 rfl) ?_
        refine wz_ifeq hx hb dMo_value_66 rfl (fun h66 => ?_) (fun h66 => ?_)
        · have hR := hR.trans (if_neg h66)
          refine lv_ldc2 (v := (-1)) hx hb hown w0 dMo_value_73 ?_
          exact W.lret hx hb hr (fun t ht _ => ⟨by rw [hR]; first | done | rfl, ht⟩) (fun _ h => absurd h List.not_mem_nil) dMo_value_76
        · have hR := hR.trans (if_pos h66)
          refine lv_lload_n hx hb dMo_value_69 rfl (lv_at hl 2 rfl) ?_
          refine lv_goto hx hb dMo_value_70 rfl ?_
          exact W.lret hx hb hr (fun t ht _ => ⟨by rw [hR]; first | done | rfl, ht⟩) (fun _ h => absurd h List.not_mem_nil) dMo_value_76
      · have hR := hR.trans (if_neg h11)
        refine lv_aload_n hx hb dMo_value_14 rfl (lv_at hl 0 rfl) ?_
        refine mg0_digits hx hb hts i0 hown hK hP w1 dMo_value_15 ?_
        refine lv_bipush (v := 10) hx hb dMo_value_18 (by decide) ?_
        refine lv_iload_n hx hb dMo_value_20 rfl (lv_at hl 1 rfl) ?_
        refine lv_imul hx hb dMo_value_21 ?_
        refine lv_iload hx hb dMo_value_22 (lv_at hl 4 rfl) ?_
        refine lv_iadd hx hb dMo_value_24 ?_
        refine ml_codes hx hb hK hP (in10m ha (vp_in_iff.mpr ⟨i_nn h11, by omega⟩)) dMo_value_25 ?_
        refine cl_rd (W.runS (As := [.int ((m_codes z0 (((10 * a) + v5).toNatClampNeg)))]) (rest := []) ⟨hx, hb, hml, hown, hts⟩ (kMo_digitOf l (m_codes z0 (((10 * a) + v5).toNatClampNeg))) (va_cwS 1 hts (gS wm5_56 wm5_57 wm1_9 wm5_58) rfl rfl rfl (by decide +kernel) ⟨Nat.le_of_ble_eq_true rfl, Nat.le_of_ble_eq_true rfl⟩) (preT) rfl rfl hl.1 rfl (lv_room (Nat.le_of_ble_eq_true rfl)) dMo_value_26 ⟨Nat.le_refl _, Nat.le_refl _⟩) ?_
        refine lv_istore (lv' := [(6, .int (fMo_digitOf (m_codes z0 (((10 * a) + v5).toNatClampNeg)))), (0, .ref (q 0)), (1, .int (a)), (2, .long (v2)), (4, .int (bb (v4))), (5, .int (v5))]) hx hb dMo_value_29 hl (by decide) rfl (fun ls hl => ?_)
        refine lv_iload hx hb dMo_value_31 (lv_at hl 4 rfl) ?_
        refine wz_ifeq hx hb dMo_value_33 rfl (fun h33 => ?_) (fun h33 => ?_)
        · have hR := hR.trans (if_neg h33)
          refine lv_iconst (v := 0) hx hb dMo_value_45 (by decide) ?_
          refine lv_istore (lv' := [(4, .int (0)), (6, .int (fMo_digitOf (m_codes z0 (((10 * a) + v5).toNatClampNeg)))), (0, .ref (q 0)), (1, .int (a)), (2, .long (v2)), (5, .int (v5))]) hx hb dMo_value_46 hl (by decide) rfl (fun ls hl => ?_)
          refine lv_ldc2 (v := 10) hx hb hown w2 dMo_value_48 ?_
          refine lv_lload_n hx hb dMo_value_51 rfl (lv_at hl 4 rfl) ?_
          refine lv_lmul hx hb dMo_value_52 ?_
          refine lv_iload hx hb dMo_value_53 (lv_at hl 1 rfl) ?_
          refine lv_i2l hx hb dMo_value_55 rfl ?_
          refine lv_ladd hx hb dMo_value_56 ?_
          refine lv_lstore_n (lv' := [(2, .long ((10 * v2) + ((fMo_digitOf (m_codes z0 (((10 * a) + v5).toNatClampNeg))).toInt64))), (4, .int (0)), (6, .int (fMo_digitOf (m_codes z0 (((10 * a) + v5).toNatClampNeg)))), (0, .ref (q 0)), (1, .int (a)), (5, .int (v5))]) hx hb dMo_value_57 rfl hl (by decide) rfl (fun ls hl => ?_)
          refine lv_iinc (k := 5) (lv' := [(5, .int (v5 + (-1))), (2, .long ((10 * v2) + ((fMo_digitOf (m_codes z0 (((10 * a) + v5).toNatClampNeg))).toInt64))), (4, .int (0)), (6, .int (fMo_digitOf (m_codes z0 (((10 * a) + v5).toNatClampNeg)))), (0, .ref (q 0)), (1, .int (a))]) hx hb dMo_value_58 hl rfl rfl (by decide) rfl (fun ls hl => ?_)
          refine lv_goto hx hb dMo_value_61 rfl ?_
          exact ih9 ls ((10 * v2) + ((fMo_digitOf (m_codes z0 (((10 * a) + v5).toNatClampNeg))).toInt64)) false (v5 + (-1)) (dec_m h11 h5 hn9) hR (dec_b h11 h5) (lv_sub hl [4, 5, 1, 2, 0] rfl)
        · have hR := hR.trans (if_pos h33)
          refine lv_iload hx hb dMo_value_36 (lv_at hl 0 rfl) ?_
          refine lv_if_lt hx hb dMo_value_38 rfl (fun h38 => ?_) (fun h38 => ?_)
          · have hR := hR.trans (if_pos h38)
            refine lv_iconst (v := 0) hx hb dMo_value_45 (by decide) ?_
            refine lv_istore (lv' := [(4, .int (0)), (6, .int (fMo_digitOf (m_codes z0 (((10 * a) + v5).toNatClampNeg)))), (0, .ref (q 0)), (1, .int (a)), (2, .long (v2)), (5, .int (v5))]) hx hb dMo_value_46 hl (by decide) rfl (fun ls hl => ?_)
            refine lv_ldc2 (v := 10) hx hb hown w2 dMo_value_48 ?_
            refine lv_lload_n hx hb dMo_value_51 rfl (lv_at hl 4 rfl) ?_
            refine lv_lmul hx hb dMo_value_52 ?_
            refine lv_iload hx hb dMo_value_53 (lv_at hl 1 rfl) ?_
            refine lv_i2l hx hb dMo_value_55 rfl ?_
            refine lv_ladd hx hb dMo_value_56 ?_
            refine lv_lstore_n (lv' := [(2, .long ((10 * v2) + ((fMo_digitOf (m_codes z0 (((10 * a) + v5).toNatClampNeg))).toInt64))), (4, .int (0)), (6, .int (fMo_digitOf (m_codes z0 (((10 * a) + v5).toNatClampNeg)))), (0, .ref (q 0)), (1, .int (a)), (5, .int (v5))]) hx hb dMo_value_57 rfl hl (by decide) rfl (fun ls hl => ?_)
            refine lv_iinc (k := 5) (lv' := [(5, .int (v5 + (-1))), (2, .long ((10 * v2) + ((fMo_digitOf (m_codes z0 (((10 * a) + v5).toNatClampNeg))).toInt64))), (4, .int (0)), (6, .int (fMo_digitOf (m_codes z0 (((10 * a) + v5).toNatClampNeg)))), (0, .ref (q 0)), (1, .int (a))]) hx hb dMo_value_58 hl rfl rfl (by decide) rfl (fun ls hl => ?_)
            refine lv_goto hx hb dMo_value_61 rfl ?_
            exact ih9 ls ((10 * v2) + ((fMo_digitOf (m_codes z0 (((10 * a) + v5).toNatClampNeg))).toInt64)) false (v5 + (-1)) (dec_m h11 h5 hn9) hR (dec_b h11 h5) (lv_sub hl [4, 5, 1, 2, 0] rfl)
          · have hR := hR.trans (if_neg h38)
            refine lv_iconst (v := 1) hx hb dMo_value_41 (by decide) ?_
            refine lv_goto hx hb dMo_value_42 rfl ?_
            refine lv_istore (lv' := [(4, .int (1)), (6, .int (fMo_digitOf (m_codes z0 (((10 * a) + v5).toNatClampNeg)))), (0, .ref (q 0)), (1, .int (a)), (2, .long (v2)), (5, .int (v5))]) hx hb dMo_value_46 hl (by decide) rfl (fun ls hl => ?_)
            refine lv_ldc2 (v := 10) hx hb hown w2 dMo_value_48 ?_
            refine lv_lload_n hx hb dMo_value_51 rfl (lv_at hl 4 rfl) ?_
            refine lv_lmul hx hb dMo_value_52 ?_
            refine lv_iload hx hb dMo_value_53 (lv_at hl 1 rfl) ?_
            refine lv_i2l hx hb dMo_value_55 rfl ?_
            refine lv_ladd hx hb dMo_value_56 ?_
            refine lv_lstore_n (lv' := [(2, .long ((10 * v2) + ((fMo_digitOf (m_codes z0 (((10 * a) + v5).toNatClampNeg))).toInt64))), (4, .int (1)), (6, .int (fMo_digitOf (m_codes z0 (((10 * a) + v5).toNatClampNeg)))), (0, .ref (q 0)), (1, .int (a)), (5, .int (v5))]) hx hb dMo_value_57 rfl hl (by decide) rfl (fun ls hl => ?_)
            refine lv_iinc (k := 5) (lv' := [(5, .int (v5 + (-1))), (2, .long ((10 * v2) + ((fMo_digitOf (m_codes z0 (((10 * a) + v5).toNatClampNeg))).toInt64))), (4, .int (1)), (6, .int (fMo_digitOf (m_codes z0 (((10 * a) + v5).toNatClampNeg)))), (0, .ref (q 0)), (1, .int (a))]) hx hb dMo_value_58 hl rfl rfl (by decide) rfl (fun ls hl => ?_)
            refine lv_goto hx hb dMo_value_61 rfl ?_
            exact ih9 ls ((10 * v2) + ((fMo_digitOf (m_codes z0 (((10 * a) + v5).toNatClampNeg))).toInt64)) true (v5 + (-1)) (dec_m h11 h5 hn9) hR (dec_b h11 h5) (lv_sub hl [4, 5, 1, 2, 0] rfl)
  have hR := fMo_value.eq_1 z0 a
  refine lv_lconst (v := 0) hx hb dMo_value_0 (by decide) ?_
  refine lv_lstore_n (lv' := [(2, .long (0)), (0, .ref (q 0)), (1, .int (a))]) hx hb dMo_value_1 rfl hl (by decide) rfl (fun ls hl => ?_)
  refine lv_iconst (v := 1) hx hb dMo_value_2 (by decide) ?_
  refine lv_istore (lv' := [(4, .int (1)), (2, .long (0)), (0, .ref (q 0)), (1, .int (a))]) hx hb dMo_value_3 hl (by decide) rfl (fun ls hl => ?_)
  refine lv_bipush (v := 9) hx hb dMo_value_5 (by decide) ?_
  refine lv_istore (lv' := [(5, .int (9)), (4, .int (1)), (2, .long (0)), (0, .ref (q 0)), (1, .int (a))]) hx hb dMo_value_7 hl (by decide) rfl (fun ls hl => ?_)
  exact hB9 11 ls 0 true 9 (by decide) hR (by decide) (lv_sub hl [3, 4, 2, 1, 0] rfl)
theorem dMo_thrown_0 : decode ccMo_thrown 0 = .ok (.aload_n 0, 1) := by decide +kernel
theorem dMo_thrown_1 : decode ccMo_thrown 1 = .ok (.getfield 61, 3) := by decide +kernel
theorem dMo_thrown_4 : decode ccMo_thrown 4 = .ok (.ireturn, 1) := by decide +kernel
def fMo_thrown (z0 : SM)  : Int32 :=
  m_code z0
set_option maxHeartbeats 4000000 in
set_option maxRecDepth 100000 in
theorem kMo_thrown (l : Launch) (D : va_G) (q : Nat → Nat) (cI cJ cZ : ClassId) (hq : m_inj q) (z0 : SM)   : Met l yMo_thrown wsMo_thrown { frames := 0, cells := 0, slots := 0, locals := 0 } (va_Pc [.ref (q 0)] (m_C D q cI cJ cZ z0)) (cQr (some (.int (fMo_thrown z0)))) 0 0 (fun _ => False) := by
  refine Met.ofW (cc := ccMo_thrown) (maxL := 1) (ret := (some .int)) (by decide +kernel) rfl ?_
  intro p e s m args below meth c s₁ B hml hv
  obtain ⟨rfl, hP, hK⟩ := hv
  have hx := B.exec
  have hb := B.bytes
  have hr := B.returns
  have hts := atoms_spec (ws := wsMo_thrown) B.pre
  have hown : s.vm.findClass RMo = some m.cls := findClass_of_methodNamed B.named
  have hlocks := B.notSynchronized
  have w0 := hts (.fieldLink RMo 61 "DrumMachineModel" "code" "I") (List.mem_cons_of_mem _ wm4_188)
  have i0 : ∀ w ∈ u_ws RMo TMo 28, w ∈ wsMo_thrown := fun w h => List.mem_cons_of_mem _ (inAMo w h)
  have hl := lv_entry ([.ref (q 0)]) (n := 1) (Nat.le_of_ble_eq_true rfl)
  rw [lg_entry_eq]
  generalize (lg_sl ([.ref (q 0)]) ++ List.replicate (1 - (lg_sl ([.ref (q 0)])).length) Slot.unset).toArray = ls at hl ⊢
  have hl : lv_has ls 1 [(0, .ref (q 0))] := hl
  have hR := fMo_thrown.eq_1 z0
  refine lv_aload_n hx hb dMo_thrown_0 rfl (lv_at hl 0 rfl) ?_
  refine mg0_code hx hb hts i0 hown hK hP w0 dMo_thrown_1 ?_
  exact W.iret hx hb hr (fun t ht _ => ⟨by rw [hR]; first | done | rfl, ht⟩) (fun _ h => absurd h List.not_mem_nil) dMo_thrown_4
theorem dMo_fail_0 : decode ccMo_fail 0 = .ok (.aload_n 0, 1) := by decide +kernel
theorem dMo_fail_1 : decode ccMo_fail 1 = .ok (.iload_n 1, 1) := by decide +kernel
theorem dMo_fail_2 : decode ccMo_fail 2 = .ok (.putfield 61, 3) := by decide +kernel
theorem dMo_fail_5 : decode ccMo_fail 5 = .ok (.iconst 0, 1) := by decide +kernel
theorem dMo_fail_6 : decode ccMo_fail 6 = .ok (.ireturn, 1) := by decide +kernel
def fMo_fail (z0 : SM) (a : Int32) : Int32 × SM :=
  (0, m_code_s z0 a)
set_option maxHeartbeats 4000000 in
set_option maxRecDepth 100000 in
theorem kMo_fail (l : Launch) (D : va_G) (q : Nat → Nat) (cI cJ cZ : ClassId) (hq : m_inj q) (z0 : SM) (a : Int32)  : Met l yMo_fail wsMo_fail { frames := 0, cells := 0, slots := 0, locals := 0 } (va_Pc [.ref (q 0), .int (a)] (m_C D q cI cJ cZ z0)) (cQw (some (.int ((fMo_fail z0 a).1))) (m_W D q cI cJ cZ (fMo_fail z0 a).2) (m_qs q)) 0 0 (m_qs q) := by
  refine Met.ofW (cc := ccMo_fail) (maxL := 2) (ret := (some .int)) (by decide +kernel) rfl ?_
  intro p e s m args below meth c s₁ B hml hv
  obtain ⟨rfl, hP, hK⟩ := hv
  have hx := B.exec
  have hb := B.bytes
  have hr := B.returns
  have hts := atoms_spec (ws := wsMo_fail) B.pre
  have hown : s.vm.findClass RMo = some m.cls := findClass_of_methodNamed B.named
  have hlocks := B.notSynchronized
  have w0 := hts (.fieldLink RMo 61 "DrumMachineModel" "code" "I") (List.mem_cons_of_mem _ wm4_188)
  have i0 : ∀ w ∈ u_ws RMo TMo 28, w ∈ wsMo_fail := fun w h => List.mem_cons_of_mem _ (inAMo w h)
  have hS : va_S (m_qs q) s.heap s.heap [] := va_S.rf
  have hl := lv_entry ([.ref (q 0), .int (a)]) (n := 2) (Nat.le_of_ble_eq_true rfl)
  rw [lg_entry_eq]
  generalize (lg_sl ([.ref (q 0), .int (a)]) ++ List.replicate (2 - (lg_sl ([.ref (q 0), .int (a)])).length) Slot.unset).toArray = ls at hl ⊢
  have hl : lv_has ls 2 [(0, .ref (q 0)), (1, .int (a))] := hl
  have hR := fMo_fail.eq_1 z0 a
  refine lv_aload_n hx hb dMo_fail_0 rfl (lv_at hl 0 rfl) ?_
  refine lv_iload_n hx hb dMo_fail_1 rfl (lv_at hl 1 rfl) ?_
  refine mp0_code a hq hS hx hb hts i0 hown hK hP w0 dMo_fail_2 (fun H locs hP hS => ?_)
  refine lv_iconst (v := 0) hx hb dMo_fail_5 (by decide) ?_
  exact W.iret hx hb hr (fun t ht _ => ⟨by rw [hR]; first | done | rfl, by rw [hR, ht]; exact hP, hS.F ht⟩) hS.2.2 dMo_fail_6
theorem dMo_word_0 : decode ccMo_word 0 = .ok (.aload_n 0, 1) := by decide +kernel
theorem dMo_word_1 : decode ccMo_word 1 = .ok (.iload_n 1, 1) := by decide +kernel
theorem dMo_word_2 : decode ccMo_word 2 = .ok (.invokestatic 75, 3) := by decide +kernel
theorem dMo_word_5 : decode ccMo_word 5 = .ok (.ifCond .ne 7, 3) := by decide +kernel
theorem dMo_word_8 : decode ccMo_word 8 = .ok (.iconst 1, 1) := by decide +kernel
theorem dMo_word_9 : decode ccMo_word 9 = .ok (.goto 15, 3) := by decide +kernel
theorem dMo_word_12 : decode ccMo_word 12 = .ok (.lload_n 2, 1) := by decide +kernel
theorem dMo_word_13 : decode ccMo_word 13 = .ok (.invokestatic 79, 3) := by decide +kernel
theorem dMo_word_16 : decode ccMo_word 16 = .ok (.ifCond .eq 7, 3) := by decide +kernel
theorem dMo_word_19 : decode ccMo_word 19 = .ok (.iconst 0, 1) := by decide +kernel
theorem dMo_word_20 : decode ccMo_word 20 = .ok (.goto 4, 3) := by decide +kernel
theorem dMo_word_23 : decode ccMo_word 23 = .ok (.iconst 2, 1) := by decide +kernel
theorem dMo_word_24 : decode ccMo_word 24 = .ok (.putfield 61, 3) := by decide +kernel
theorem dMo_word_27 : decode ccMo_word 27 = .ok (.aload_n 0, 1) := by decide +kernel
theorem dMo_word_28 : decode ccMo_word 28 = .ok (.getfield 61, 3) := by decide +kernel
theorem dMo_word_31 : decode ccMo_word 31 = .ok (.ifCond .ne 11, 3) := by decide +kernel
theorem dMo_word_34 : decode ccMo_word 34 = .ok (.aload_n 0, 1) := by decide +kernel
theorem dMo_word_35 : decode ccMo_word 35 = .ok (.iload_n 1, 1) := by decide +kernel
theorem dMo_word_36 : decode ccMo_word 36 = .ok (.lload_n 2, 1) := by decide +kernel
theorem dMo_word_37 : decode ccMo_word 37 = .ok (.iload 4, 2) := by decide +kernel
theorem dMo_word_39 : decode ccMo_word 39 = .ok (.invokevirtual 54, 3) := by decide +kernel
theorem dMo_word_42 : decode ccMo_word 42 = .ok (.return_, 1) := by decide +kernel
def fMo_word_24  (z : SM) (s1 : Int32) (a : Int32) (v : Int64) (b : Bool) : SM :=
  (if s1 = 0 then fMo_write (m_code_s z s1) a v b else m_code_s z s1)
def fMo_word (z0 : SM) (a : Int32) (v : Int64) (b : Bool) : SM :=
  (if (fMo_isAddress a) = true then (if (fMo_isWord v) = true then fMo_word_24 z0 0 a v b else fMo_word_24 z0 2 a v b) else fMo_word_24 z0 1 a v b)
set_option maxHeartbeats 4000000 in
set_option maxRecDepth 100000 in
theorem kMo_word (l : Launch) (D : va_G) (q : Nat → Nat) (cI cJ cZ : ClassId) (hq : m_inj q) (z0 : SM) (a : Int32) (v : Int64) (b : Bool)  : Met l yMo_word wsMo_word { frames := 1, cells := 0, slots := 0, locals := 28 } (va_Pc [.ref (q 0), .int (a), .long (v), .int (bb (b))] (m_C D q cI cJ cZ z0)) (cQw none (m_W D q cI cJ cZ (fMo_word z0 a v b)) (m_qs q)) 0 0 (m_qs q) := by
  refine Met.ofW (cc := ccMo_word) (maxL := 5) (ret := none) (by decide +kernel) rfl ?_
  intro p e s m args below meth c s₁ B hml hv
  obtain ⟨rfl, hP, hK⟩ := hv
  have hx := B.exec
  have hb := B.bytes
  have hr := B.returns
  have hts := atoms_spec (ws := wsMo_word) B.pre
  have hown : s.vm.findClass RMo = some m.cls := findClass_of_methodNamed B.named
  have hlocks := B.notSynchronized
  have w0 := hts (.fieldLink RMo 61 "DrumMachineModel" "code" "I") (List.mem_cons_of_mem _ wm4_188)
  have i0 : ∀ w ∈ u_ws RMo TMo 28, w ∈ wsMo_word := fun w h => List.mem_cons_of_mem _ (inAMo w h)
  have hS : va_S (m_qs q) s.heap s.heap [] := va_S.rf
  have hl := lv_entry ([.ref (q 0), .int (a), .long (v), .int (bb (b))]) (n := 5) (Nat.le_of_ble_eq_true rfl)
  rw [lg_entry_eq]
  generalize (lg_sl ([.ref (q 0), .int (a), .long (v), .int (bb (b))]) ++ List.replicate (5 - (lg_sl ([.ref (q 0), .int (a), .long (v), .int (bb (b))])).length) Slot.unset).toArray = ls at hl ⊢
  have hl : lv_has ls 5 [(0, .ref (q 0)), (1, .int (a)), (2, .long (v)), (4, .int (bb (b)))] := hl
  have hB24 : ∀ (H : Heap) (locs : List Loc) (ls : Array Slot) (z : SM) (s1 : Int32), fMo_word z0 a v b = fMo_word_24 z s1 a v b → (s1 = 0 → vp_in a 200) → m_W D q cI cJ cZ z H → va_S (m_qs q) s.heap H locs → lv_has ls 5 [(0, .ref (q 0)), (1, .int (a)), (2, .long (v)), (4, .int (bb (b)))] → W p l e (headSpec wsMo_word { frames := 1, cells := 0, slots := 0, locals := 28 }).room s m ([.ref (q 0), .int (a), .long (v), .int (bb (b))] : List Value).toArray below meth c H locs 0 0 (MQ below (cQw none (m_W D q cI cJ cZ (fMo_word z0 a v b)) (m_qs q)) ([.ref (q 0), .int (a), .long (v), .int (bb (b))] : List Value).toArray s 0 0 (m_qs q)) (F0 m 24 ls [.int (s1), .ref (q 0)]) := by
    intro H locs ls z s1 hR hs hP hS hl
    rw [fMo_word_24.eq_1] at hR
    refine mp0_code s1 hq hS hx hb hts i0 hown hK hP w0 dMo_word_24 (fun H locs hP hS => ?_)
    refine lv_aload_n hx hb dMo_word_27 rfl (lv_at hl 0 rfl) ?_
    refine mg0_code_e (v := s1) (m_code_code _ _) hx hb hts i0 hown hK hP w0 dMo_word_28 ?_
    refine lv_if_ne hx hb dMo_word_31 rfl (fun h31 => ?_) (fun h31 => ?_)
    · have hR := hR.trans (if_neg h31)
      exact W.vret hx hb hr (fun t ht _ => ⟨rfl, by rw [hR, ht]; exact hP, hS.F ht⟩) hS.2.2 dMo_word_42
    · have hR := hR.trans (if_pos h31)
      refine lv_aload_n hx hb dMo_word_34 rfl (lv_at hl 0 rfl) ?_
      refine lv_iload_n hx hb dMo_word_35 rfl (lv_at hl 1 rfl) ?_
      refine lv_lload_n hx hb dMo_word_36 rfl (lv_at hl 2 rfl) ?_
      refine lv_iload hx hb dMo_word_37 (lv_at hl 3 rfl) ?_
      refine cl_wr (W.runV (As := [.int (a), .long (v), .int (bb (b))]) (rest := []) ⟨hx, hb, hml, hown, hts⟩ (kMo_write l D q cI cJ cZ hq (m_code_s z s1) a v b (hs h31)) (cwV 3 hts (gV wm4_179 wm4_181 ws2_13 wm1_9 wm4_182) rfl rfl rfl (by decide +kernel) ⟨Nat.le_of_ble_eq_true rfl, Nat.le_of_ble_eq_true rfl⟩) (m_preV0 hK hP) rfl rfl hl.1 rfl (lv_room (Nat.le_of_ble_eq_true rfl)) dMo_word_39 ⟨Nat.le_refl _, Nat.le_refl _⟩) hS (fun _ h => h) (fun _ h => h) (fun H locs hP hS => ?_)
      exact W.vret hx hb hr (fun t ht _ => ⟨rfl, by rw [hR, ht]; exact hP, hS.F ht⟩) hS.2.2 dMo_word_42
  have hR := fMo_word.eq_1 z0 a v b
  refine lv_aload_n hx hb dMo_word_0 rfl (lv_at hl 0 rfl) ?_
  refine lv_iload_n hx hb dMo_word_1 rfl (lv_at hl 1 rfl) ?_
  refine cl_rd (W.runS (As := [.int (a)]) (rest := [.ref (q 0)]) ⟨hx, hb, hml, hown, hts⟩ (kMo_isAddress l a) (va_cwS 1 hts (gS wm5_41 wm5_42 wm1_9 wm5_43) rfl rfl rfl (by decide +kernel) ⟨Nat.le_of_ble_eq_true rfl, Nat.le_of_ble_eq_true rfl⟩) (preT) rfl rfl hl.1 rfl (lv_room (Nat.le_of_ble_eq_true rfl)) dMo_word_2 ⟨Nat.le_refl _, Nat.le_refl _⟩) ?_
  refine wz_ifne hx hb dMo_word_5 rfl (fun h5 => ?_) (fun h5 => ?_)
  · have hR := hR.trans (if_pos h5)
    refine lv_lload_n hx hb dMo_word_12 rfl (lv_at hl 2 rfl) ?_
    refine cl_rd (W.runS (As := [.long (v)]) (rest := [.ref (q 0)]) ⟨hx, hb, hml, hown, hts⟩ (kMo_isWord l v) (va_cwS 1 hts (gS wm5_44 wm5_45 wm1_9 wm5_46) rfl rfl rfl (by decide +kernel) ⟨Nat.le_of_ble_eq_true rfl, Nat.le_of_ble_eq_true rfl⟩) (preT) rfl rfl hl.1 rfl (lv_room (Nat.le_of_ble_eq_true rfl)) dMo_word_13 ⟨Nat.le_refl _, Nat.le_refl _⟩) ?_
    refine wz_ifeq hx hb dMo_word_16 rfl (fun h16 => ?_) (fun h16 => ?_)
    · have hR := hR.trans (if_neg h16)
      refine lv_iconst (v := 2) hx hb dMo_word_23 (by decide) ?_
      exact hB24 s.heap [] ls z0 2 hR (fun h => absurd h (by decide)) hP hS (lv_sub hl [0, 1, 2, 3] rfl)
    · have hR := hR.trans (if_pos h16)
      refine lv_iconst (v := 0) hx hb dMo_word_19 (by decide) ?_
      refine lv_goto hx hb dMo_word_20 rfl ?_
      exact hB24 s.heap [] ls z0 0 hR (fun _ => mha h5) hP hS (lv_sub hl [0, 1, 2, 3] rfl)
  · have hR := hR.trans (if_neg h5)
    refine lv_iconst (v := 1) hx hb dMo_word_8 (by decide) ?_
    refine lv_goto hx hb dMo_word_9 rfl ?_
    exact hB24 s.heap [] ls z0 1 hR (fun h => absurd h (by decide)) hP hS (lv_sub hl [0, 1, 2, 3] rfl)
theorem d9_in {d : Int32} (h1 : ¬ d < 0) (h2 : ¬ (9 : Int32) < d) : vp_in d 10 := by
  rw [Int32.lt_iff_toInt_lt] at h2
  have e : (9 : Int32).toInt = 9 := by decide
  exact vp_in_iff.mpr ⟨i_nn h1, by omega⟩
theorem dMo_flip_0 : decode ccMo_flip 0 = .ok (.aload_n 0, 1) := by decide +kernel
theorem dMo_flip_1 : decode ccMo_flip 1 = .ok (.iload_n 1, 1) := by decide +kernel
theorem dMo_flip_2 : decode ccMo_flip 2 = .ok (.invokestatic 75, 3) := by decide +kernel
theorem dMo_flip_5 : decode ccMo_flip 5 = .ok (.ifCond .eq 27, 3) := by decide +kernel
theorem dMo_flip_8 : decode ccMo_flip 8 = .ok (.iload_n 2, 1) := by decide +kernel
theorem dMo_flip_9 : decode ccMo_flip 9 = .ok (.ifCond .lt 23, 3) := by decide +kernel
theorem dMo_flip_12 : decode ccMo_flip 12 = .ok (.iload_n 2, 1) := by decide +kernel
theorem dMo_flip_13 : decode ccMo_flip 13 = .ok (.bipush 9, 2) := by decide +kernel
theorem dMo_flip_15 : decode ccMo_flip 15 = .ok (.if_icmp .gt 17, 3) := by decide +kernel
theorem dMo_flip_18 : decode ccMo_flip 18 = .ok (.iload_n 3, 1) := by decide +kernel
theorem dMo_flip_19 : decode ccMo_flip 19 = .ok (.ifCond .lt 13, 3) := by decide +kernel
theorem dMo_flip_22 : decode ccMo_flip 22 = .ok (.iload_n 3, 1) := by decide +kernel
theorem dMo_flip_23 : decode ccMo_flip 23 = .ok (.bipush 6, 2) := by decide +kernel
theorem dMo_flip_25 : decode ccMo_flip 25 = .ok (.if_icmp .gt 7, 3) := by decide +kernel
theorem dMo_flip_28 : decode ccMo_flip 28 = .ok (.iconst 0, 1) := by decide +kernel
theorem dMo_flip_29 : decode ccMo_flip 29 = .ok (.goto 4, 3) := by decide +kernel
theorem dMo_flip_32 : decode ccMo_flip 32 = .ok (.iconst 1, 1) := by decide +kernel
theorem dMo_flip_33 : decode ccMo_flip 33 = .ok (.putfield 61, 3) := by decide +kernel
theorem dMo_flip_36 : decode ccMo_flip 36 = .ok (.aload_n 0, 1) := by decide +kernel
theorem dMo_flip_37 : decode ccMo_flip 37 = .ok (.getfield 61, 3) := by decide +kernel
theorem dMo_flip_40 : decode ccMo_flip 40 = .ok (.ifCond .le 5, 3) := by decide +kernel
theorem dMo_flip_43 : decode ccMo_flip 43 = .ok (.iconst 0, 1) := by decide +kernel
theorem dMo_flip_44 : decode ccMo_flip 44 = .ok (.ireturn, 1) := by decide +kernel
theorem dMo_flip_45 : decode ccMo_flip 45 = .ok (.aload_n 0, 1) := by decide +kernel
theorem dMo_flip_46 : decode ccMo_flip 46 = .ok (.getfield 7, 3) := by decide +kernel
theorem dMo_flip_49 : decode ccMo_flip 49 = .ok (.bipush 10, 2) := by decide +kernel
theorem dMo_flip_51 : decode ccMo_flip 51 = .ok (.iload_n 1, 1) := by decide +kernel
theorem dMo_flip_52 : decode ccMo_flip 52 = .ok (.imul, 1) := by decide +kernel
theorem dMo_flip_53 : decode ccMo_flip 53 = .ok (.iload_n 2, 1) := by decide +kernel
theorem dMo_flip_54 : decode ccMo_flip 54 = .ok (.iadd, 1) := by decide +kernel
theorem dMo_flip_55 : decode ccMo_flip 55 = .ok (.dup2, 1) := by decide +kernel
theorem dMo_flip_56 : decode ccMo_flip 56 = .ok (.iaload, 1) := by decide +kernel
theorem dMo_flip_57 : decode ccMo_flip 57 = .ok (.iconst 1, 1) := by decide +kernel
theorem dMo_flip_58 : decode ccMo_flip 58 = .ok (.iload_n 3, 1) := by decide +kernel
theorem dMo_flip_59 : decode ccMo_flip 59 = .ok (.ishl, 1) := by decide +kernel
theorem dMo_flip_60 : decode ccMo_flip 60 = .ok (.ixor, 1) := by decide +kernel
theorem dMo_flip_61 : decode ccMo_flip 61 = .ok (.iastore, 1) := by decide +kernel
theorem dMo_flip_62 : decode ccMo_flip 62 = .ok (.aload_n 0, 1) := by decide +kernel
theorem dMo_flip_63 : decode ccMo_flip 63 = .ok (.iload_n 1, 1) := by decide +kernel
theorem dMo_flip_64 : decode ccMo_flip 64 = .ok (.invokevirtual 83, 3) := by decide +kernel
theorem dMo_flip_67 : decode ccMo_flip 67 = .ok (.lconst 0, 1) := by decide +kernel
theorem dMo_flip_68 : decode ccMo_flip 68 = .ok (.lcmp, 1) := by decide +kernel
theorem dMo_flip_69 : decode ccMo_flip 69 = .ok (.ifCond .lt 7, 3) := by decide +kernel
theorem dMo_flip_72 : decode ccMo_flip 72 = .ok (.iconst 1, 1) := by decide +kernel
theorem dMo_flip_73 : decode ccMo_flip 73 = .ok (.goto 4, 3) := by decide +kernel
theorem dMo_flip_76 : decode ccMo_flip 76 = .ok (.iconst 0, 1) := by decide +kernel
theorem dMo_flip_77 : decode ccMo_flip 77 = .ok (.ireturn, 1) := by decide +kernel
def fMo_flip_33  (z : SM) (s1 : Bool) (a : Int32) (d : Int32) (b : Int32) : Bool × SM :=
  (if (bb (s1)) ≤ 0 then (if (fMo_value (m_codes_s (m_code_s z (bb (s1))) (upd (m_codes z) (((10 * a) + d).toNatClampNeg) ((m_codes z (((10 * a) + d).toNatClampNeg)) ^^^ ((1 : Int32) <<< (b &&& 31))))) a) < 0 then (false, m_codes_s (m_code_s z (bb (s1))) (upd (m_codes z) (((10 * a) + d).toNatClampNeg) ((m_codes z (((10 * a) + d).toNatClampNeg)) ^^^ ((1 : Int32) <<< (b &&& 31))))) else (true, m_codes_s (m_code_s z (bb (s1))) (upd (m_codes z) (((10 * a) + d).toNatClampNeg) ((m_codes z (((10 * a) + d).toNatClampNeg)) ^^^ ((1 : Int32) <<< (b &&& 31)))))) else (false, m_code_s z (bb (s1))))
def fMo_flip_32  (z : SM) (a : Int32) (d : Int32) (b : Int32) : Bool × SM :=
  fMo_flip_33 z true a d b
def fMo_flip (z0 : SM) (a : Int32) (d : Int32) (b : Int32) : Bool × SM :=
  (if (fMo_isAddress a) = true then (if d < 0 then fMo_flip_32 z0 a d b else (if (9 : Int32) < d then fMo_flip_32 z0 a d b else (if b < 0 then fMo_flip_32 z0 a d b else (if (6 : Int32) < b then fMo_flip_32 z0 a d b else fMo_flip_33 z0 false a d b)))) else fMo_flip_32 z0 a d b)
set_option maxHeartbeats 4000000 in
set_option maxRecDepth 100000 in
theorem kMo_flip (l : Launch) (D : va_G) (q : Nat → Nat) (cI cJ cZ : ClassId) (hq : m_inj q) (z0 : SM) (a : Int32) (d : Int32) (b : Int32)  : Met l yMo_flip wsMo_flip { frames := 2, cells := 0, slots := 0, locals := 49 } (va_Pc [.ref (q 0), .int (a), .int (d), .int (b)] (m_C D q cI cJ cZ z0)) (cQw (some (.int (bb ((fMo_flip z0 a d b).1)))) (m_W D q cI cJ cZ (fMo_flip z0 a d b).2) (m_qs q)) 0 0 (m_qs q) := by
  refine Met.ofW (cc := ccMo_flip) (maxL := 4) (ret := (some .boolean)) (by decide +kernel) rfl ?_
  intro p e s m args below meth c s₁ B hml hv
  obtain ⟨rfl, hP, hK⟩ := hv
  have hx := B.exec
  have hb := B.bytes
  have hr := B.returns
  have hts := atoms_spec (ws := wsMo_flip) B.pre
  have hown : s.vm.findClass RMo = some m.cls := findClass_of_methodNamed B.named
  have hlocks := B.notSynchronized
  have w0 := hts (.fieldLink RMo 61 "DrumMachineModel" "code" "I") (List.mem_cons_of_mem _ wm4_188)
  have w1 := hts (.fieldLink RMo 7 "DrumMachineModel" "digits" "[I") (List.mem_cons_of_mem _ wm4_189)
  have i0 : ∀ w ∈ u_ws RMo TMo 28, w ∈ wsMo_flip := fun w h => List.mem_cons_of_mem _ (inAMo w h)
  have hS : va_S (m_qs q) s.heap s.heap [] := va_S.rf
  have hl := lv_entry ([.ref (q 0), .int (a), .int (d), .int (b)]) (n := 4) (Nat.le_of_ble_eq_true rfl)
  rw [lg_entry_eq]
  generalize (lg_sl ([.ref (q 0), .int (a), .int (d), .int (b)]) ++ List.replicate (4 - (lg_sl ([.ref (q 0), .int (a), .int (d), .int (b)])).length) Slot.unset).toArray = ls at hl ⊢
  have hl : lv_has ls 4 [(0, .ref (q 0)), (1, .int (a)), (2, .int (d)), (3, .int (b))] := hl
  have hB33 : ∀ (H : Heap) (locs : List Loc) (ls : Array Slot) (z : SM) (s1 : Bool), fMo_flip z0 a d b = fMo_flip_33 z s1 a d b → (s1 = false → vp_in a 200 ∧ vp_in d 10) → m_W D q cI cJ cZ z H → va_S (m_qs q) s.heap H locs → lv_has ls 4 [(0, .ref (q 0)), (1, .int (a)), (2, .int (d)), (3, .int (b))] → W p l e (headSpec wsMo_flip { frames := 2, cells := 0, slots := 0, locals := 49 }).room s m ([.ref (q 0), .int (a), .int (d), .int (b)] : List Value).toArray below meth c H locs 0 0 (MQ below (cQw (some (.int (bb ((fMo_flip z0 a d b).1)))) (m_W D q cI cJ cZ (fMo_flip z0 a d b).2) (m_qs q)) ([.ref (q 0), .int (a), .int (d), .int (b)] : List Value).toArray s 0 0 (m_qs q)) (F0 m 33 ls [.int (bb (s1)), .ref (q 0)]) := by
    intro H locs ls z s1 hR hs hP hS hl
    rw [fMo_flip_33.eq_1] at hR
    refine mp0_code (bb (s1)) hq hS hx hb hts i0 hown hK hP w0 dMo_flip_33 (fun H locs hP hS => ?_)
    refine lv_aload_n hx hb dMo_flip_36 rfl (lv_at hl 0 rfl) ?_
    refine mg0_code_e (v := bb (s1)) (m_code_code _ _) hx hb hts i0 hown hK hP w0 dMo_flip_37 ?_
    refine lv_if_le hx hb dMo_flip_40 rfl (fun h40 => ?_) (fun h40 => ?_)
    · have hR := hR.trans (if_pos h40)
      refine lv_aload_n hx hb dMo_flip_45 rfl (lv_at hl 0 rfl) ?_
      refine mg0_digits hx hb hts i0 hown hK hP w1 dMo_flip_46 ?_
      refine lv_bipush (v := 10) hx hb dMo_flip_49 (by decide) ?_
      refine lv_iload_n hx hb dMo_flip_51 rfl (lv_at hl 1 rfl) ?_
      refine lv_imul hx hb dMo_flip_52 ?_
      refine lv_iload_n hx hb dMo_flip_53 rfl (lv_at hl 2 rfl) ?_
      refine lv_iadd hx hb dMo_flip_54 ?_
      refine lv_dup2_11 hx hb dMo_flip_55 rfl rfl ?_
      refine ml_codes_e (f := m_codes z) ((m_codes_code _ _).trans (rfl)) hx hb hK hP (in10m (hs (bb_le h40)).1 (hs (bb_le h40)).2) dMo_flip_56 ?_
      refine lv_iconst (v := 1) hx hb dMo_flip_57 (by decide) ?_
      refine lv_iload_n hx hb dMo_flip_58 rfl (lv_at hl 3 rfl) ?_
      refine lv_ishl hx hb dMo_flip_59 ?_
      refine lv_ixor hx hb dMo_flip_60 ?_
      refine ms_codes_e ((m_codes z (((10 * a) + d).toNatClampNeg)) ^^^ ((1 : Int32) <<< (b &&& 31))) (f := m_codes z) ((m_codes_code _ _).trans (rfl)) hq hS hx hb hK hP (in10m (hs (bb_le h40)).1 (hs (bb_le h40)).2) dMo_flip_61 (fun H locs hP hS => ?_)
      refine lv_aload_n hx hb dMo_flip_62 rfl (lv_at hl 0 rfl) ?_
      refine lv_iload_n hx hb dMo_flip_63 rfl (lv_at hl 1 rfl) ?_
      refine cl_rd (W.runV (As := [.int (a)]) (rest := []) ⟨hx, hb, hml, hown, hts⟩ (kMo_value l D q cI cJ cZ hq (m_codes_s (m_code_s z (bb (s1))) (upd (m_codes z) (((10 * a) + d).toNatClampNeg) ((m_codes z (((10 * a) + d).toNatClampNeg)) ^^^ ((1 : Int32) <<< (b &&& 31))))) a (hs (bb_le h40)).1) (cwV 1 hts (gV wm5_52 wm5_54 ws2_15 wm1_9 wm5_55) rfl rfl rfl (by decide +kernel) ⟨Nat.le_of_ble_eq_true rfl, Nat.le_of_ble_eq_true rfl⟩) (m_preV0 hK hP) rfl rfl hl.1 rfl (lv_room (Nat.le_of_ble_eq_true rfl)) dMo_flip_64 ⟨Nat.le_refl _, Nat.le_refl _⟩) ?_
      refine lv_lconst (v := 0) hx hb dMo_flip_67 (by decide) ?_
      refine lc_lt hx hb dMo_flip_68 dMo_flip_69 rfl (fun h68 => ?_) (fun h68 => ?_)
      · have hR := hR.trans (if_pos h68)
        refine lv_iconst (v := 0) hx hb dMo_flip_76 (by decide) ?_
        exact W.zret hx hb hr rfl (fun t ht _ => ⟨by rw [hR]; first | done | rfl, by rw [hR, ht]; exact hP, hS.F ht⟩) hS.2.2 dMo_flip_77
      · have hR := hR.trans (if_neg h68)
        refine lv_iconst (v := 1) hx hb dMo_flip_72 (by decide) ?_
        refine lv_goto hx hb dMo_flip_73 rfl ?_
        exact W.zret hx hb hr rfl (fun t ht _ => ⟨by rw [hR]; first | done | rfl, by rw [hR, ht]; exact hP, hS.F ht⟩) hS.2.2 dMo_flip_77
    · have hR := hR.trans (if_neg h40)
      refine lv_iconst (v := 0) hx hb dMo_flip_43 (by decide) ?_
      exact W.zret hx hb hr rfl (fun t ht _ => ⟨by rw [hR]; first | done | rfl, by rw [hR, ht]; exact hP, hS.F ht⟩) hS.2.2 dMo_flip_44
  have hB32 : ∀ (H : Heap) (locs : List Loc) (ls : Array Slot) (z : SM), fMo_flip z0 a d b = fMo_flip_32 z a d b → m_W D q cI cJ cZ z H → va_S (m_qs q) s.heap H locs → lv_has ls 4 [(0, .ref (q 0)), (1, .int (a)), (2, .int (d)), (3, .int (b))] → W p l e (headSpec wsMo_flip { frames := 2, cells := 0, slots := 0, locals := 49 }).room s m ([.ref (q 0), .int (a), .int (d), .int (b)] : List Value).toArray below meth c H locs 0 0 (MQ below (cQw (some (.int (bb ((fMo_flip z0 a d b).1)))) (m_W D q cI cJ cZ (fMo_flip z0 a d b).2) (m_qs q)) ([.ref (q 0), .int (a), .int (d), .int (b)] : List Value).toArray s 0 0 (m_qs q)) (F0 m 32 ls [.ref (q 0)]) := by
    intro H locs ls z hR hP hS hl
    rw [fMo_flip_32.eq_1] at hR
    refine lv_iconst (v := 1) hx hb dMo_flip_32 (by decide) ?_
    exact hB33 H locs ls z true hR (fun h => absurd h (by decide)) hP hS (lv_sub hl [0, 1, 2, 3] rfl)
  have hR := fMo_flip.eq_1 z0 a d b
  refine lv_aload_n hx hb dMo_flip_0 rfl (lv_at hl 0 rfl) ?_
  refine lv_iload_n hx hb dMo_flip_1 rfl (lv_at hl 1 rfl) ?_
  refine cl_rd (W.runS (As := [.int (a)]) (rest := [.ref (q 0)]) ⟨hx, hb, hml, hown, hts⟩ (kMo_isAddress l a) (va_cwS 1 hts (gS wm5_41 wm5_42 wm1_9 wm5_43) rfl rfl rfl (by decide +kernel) ⟨Nat.le_of_ble_eq_true rfl, Nat.le_of_ble_eq_true rfl⟩) (preT) rfl rfl hl.1 rfl (lv_room (Nat.le_of_ble_eq_true rfl)) dMo_flip_2 ⟨Nat.le_refl _, Nat.le_refl _⟩) ?_
  refine wz_ifeq hx hb dMo_flip_5 rfl (fun h5 => ?_) (fun h5 => ?_)
  · have hR := hR.trans (if_neg h5)
    exact hB32 s.heap [] ls z0 hR hP hS (lv_sub hl [0, 1, 2, 3] rfl)
  · have hR := hR.trans (if_pos h5)
    refine lv_iload_n hx hb dMo_flip_8 rfl (lv_at hl 2 rfl) ?_
    refine lv_if_lt hx hb dMo_flip_9 rfl (fun h9 => ?_) (fun h9 => ?_)
    · have hR := hR.trans (if_pos h9)
      exact hB32 s.heap [] ls z0 hR hP hS (lv_sub hl [0, 1, 2, 3] rfl)
    · have hR := hR.trans (if_neg h9)
      refine lv_iload_n hx hb dMo_flip_12 rfl (lv_at hl 2 rfl) ?_
      refine lv_bipush (v := 9) hx hb dMo_flip_13 (by decide) ?_
      refine lv_icmp_gt hx hb dMo_flip_15 rfl (fun h15 => ?_) (fun h15 => ?_)
      · have hR := hR.trans (if_pos h15)
        exact hB32 s.heap [] ls z0 hR hP hS (lv_sub hl [0, 1, 2, 3] rfl)
      · have hR := hR.trans (if_neg h15)
        refine lv_iload_n hx hb dMo_flip_18 rfl (lv_at hl 3 rfl) ?_
        refine lv_if_lt hx hb dMo_flip_19 rfl (fun h19 => ?_) (fun h19 => ?_)
        · have hR := hR.trans (if_pos h19)
          exact hB32 s.heap [] ls z0 hR hP hS (lv_sub hl [0, 1, 2, 3] rfl)
        · have hR := hR.trans (if_neg h19)
          refine lv_iload_n hx hb dMo_flip_22 rfl (lv_at hl 3 rfl) ?_
          refine lv_bipush (v := 6) hx hb dMo_flip_23 (by decide) ?_
          refine lv_icmp_gt hx hb dMo_flip_25 rfl (fun h25 => ?_) (fun h25 => ?_)
          · have hR := hR.trans (if_pos h25)
            exact hB32 s.heap [] ls z0 hR hP hS (lv_sub hl [0, 1, 2, 3] rfl)
          · have hR := hR.trans (if_neg h25)
            refine lv_iconst (v := 0) hx hb dMo_flip_28 (by decide) ?_
            refine lv_goto hx hb dMo_flip_29 rfl ?_
            exact hB33 s.heap [] ls z0 false hR (fun _ => ⟨mha h5, d9_in h9 h15⟩) hP hS (lv_sub hl [0, 1, 2, 3] rfl)
theorem cd_in {x : Int32} (hc : 0 ≤ x.toInt ∧ x.toInt ≤ 20) (h : ¬ x = 20) : vp_in x 20 := by
  have e : (20 : Int32).toInt = 20 := by decide
  have h1 : ¬ x.toInt = 20 := fun q => h (Int32.toInt_inj.mp (by rw [q, e]))
  exact vp_in_iff.mpr ⟨hc.1, by omega⟩
theorem dMo_card_0 : decode ccMo_card 0 = .ok (.aload_n 0, 1) := by decide +kernel
theorem dMo_card_1 : decode ccMo_card 1 = .ok (.lload_n 1, 1) := by decide +kernel
theorem dMo_card_2 : decode ccMo_card 2 = .ok (.invokestatic 79, 3) := by decide +kernel
theorem dMo_card_5 : decode ccMo_card 5 = .ok (.ifCond .ne 7, 3) := by decide +kernel
theorem dMo_card_8 : decode ccMo_card 8 = .ok (.iconst 1, 1) := by decide +kernel
theorem dMo_card_9 : decode ccMo_card 9 = .ok (.goto 17, 3) := by decide +kernel
theorem dMo_card_12 : decode ccMo_card 12 = .ok (.aload_n 0, 1) := by decide +kernel
theorem dMo_card_13 : decode ccMo_card 13 = .ok (.getfield 87, 3) := by decide +kernel
theorem dMo_card_16 : decode ccMo_card 16 = .ok (.bipush 20, 2) := by decide +kernel
theorem dMo_card_18 : decode ccMo_card 18 = .ok (.if_icmp .ne 7, 3) := by decide +kernel
theorem dMo_card_21 : decode ccMo_card 21 = .ok (.iconst 2, 1) := by decide +kernel
theorem dMo_card_22 : decode ccMo_card 22 = .ok (.goto 4, 3) := by decide +kernel
theorem dMo_card_25 : decode ccMo_card 25 = .ok (.iconst 0, 1) := by decide +kernel
theorem dMo_card_26 : decode ccMo_card 26 = .ok (.putfield 61, 3) := by decide +kernel
theorem dMo_card_29 : decode ccMo_card 29 = .ok (.aload_n 0, 1) := by decide +kernel
theorem dMo_card_30 : decode ccMo_card 30 = .ok (.getfield 61, 3) := by decide +kernel
theorem dMo_card_33 : decode ccMo_card 33 = .ok (.ifCond .le 5, 3) := by decide +kernel
theorem dMo_card_36 : decode ccMo_card 36 = .ok (.iconst 0, 1) := by decide +kernel
theorem dMo_card_37 : decode ccMo_card 37 = .ok (.ireturn, 1) := by decide +kernel
theorem dMo_card_38 : decode ccMo_card 38 = .ok (.aload_n 0, 1) := by decide +kernel
theorem dMo_card_39 : decode ccMo_card 39 = .ok (.getfield 17, 3) := by decide +kernel
theorem dMo_card_42 : decode ccMo_card 42 = .ok (.aload_n 0, 1) := by decide +kernel
theorem dMo_card_43 : decode ccMo_card 43 = .ok (.getfield 87, 3) := by decide +kernel
theorem dMo_card_46 : decode ccMo_card 46 = .ok (.lload_n 1, 1) := by decide +kernel
theorem dMo_card_47 : decode ccMo_card 47 = .ok (.lastore, 1) := by decide +kernel
theorem dMo_card_48 : decode ccMo_card 48 = .ok (.aload_n 0, 1) := by decide +kernel
theorem dMo_card_49 : decode ccMo_card 49 = .ok (.getfield 21, 3) := by decide +kernel
theorem dMo_card_52 : decode ccMo_card 52 = .ok (.aload_n 0, 1) := by decide +kernel
theorem dMo_card_53 : decode ccMo_card 53 = .ok (.getfield 87, 3) := by decide +kernel
theorem dMo_card_56 : decode ccMo_card 56 = .ok (.iload_n 3, 1) := by decide +kernel
theorem dMo_card_57 : decode ccMo_card 57 = .ok (.bastore, 1) := by decide +kernel
theorem dMo_card_58 : decode ccMo_card 58 = .ok (.aload_n 0, 1) := by decide +kernel
theorem dMo_card_59 : decode ccMo_card 59 = .ok (.dup, 1) := by decide +kernel
theorem dMo_card_60 : decode ccMo_card 60 = .ok (.getfield 87, 3) := by decide +kernel
theorem dMo_card_63 : decode ccMo_card 63 = .ok (.iconst 1, 1) := by decide +kernel
theorem dMo_card_64 : decode ccMo_card 64 = .ok (.iadd, 1) := by decide +kernel
theorem dMo_card_65 : decode ccMo_card 65 = .ok (.putfield 87, 3) := by decide +kernel
theorem dMo_card_68 : decode ccMo_card 68 = .ok (.aload_n 0, 1) := by decide +kernel
theorem dMo_card_69 : decode ccMo_card 69 = .ok (.getfield 87, 3) := by decide +kernel
theorem dMo_card_72 : decode ccMo_card 72 = .ok (.ireturn, 1) := by decide +kernel
def fMo_card_26  (z : SM) (s1 : Int32) (v : Int64) (b : Bool) : Int32 × SM :=
  (if s1 ≤ 0 then ((m_cards z) + 1, m_cards_s (m_cmin_s (m_card_s (m_code_s z s1) (vp_updL (m_card z) ((m_cards z).toNatClampNeg) v)) (updB (m_cmin z) ((m_cards z).toNatClampNeg) b)) ((m_cards z) + 1)) else (0, m_code_s z s1))
def fMo_card (z0 : SM) (v : Int64) (b : Bool) : Int32 × SM :=
  (if (fMo_isWord v) = true then (if (m_cards z0) = (20 : Int32) then fMo_card_26 z0 2 v b else fMo_card_26 z0 0 v b) else fMo_card_26 z0 1 v b)
set_option maxHeartbeats 4000000 in
set_option maxRecDepth 100000 in
theorem kMo_card (l : Launch) (D : va_G) (q : Nat → Nat) (cI cJ cZ : ClassId) (hq : m_inj q) (z0 : SM) (v : Int64) (b : Bool) (hc : 0 ≤ (m_cards z0).toInt ∧ (m_cards z0).toInt ≤ 20) : Met l yMo_card wsMo_card { frames := 1, cells := 0, slots := 0, locals := 21 } (va_Pc [.ref (q 0), .long (v), .int (bb (b))] (m_C D q cI cJ cZ z0)) (cQw (some (.int ((fMo_card z0 v b).1))) (m_W D q cI cJ cZ (fMo_card z0 v b).2) (m_qs q)) 0 0 (m_qs q) := by
  refine Met.ofW (cc := ccMo_card) (maxL := 4) (ret := (some .int)) (by decide +kernel) rfl ?_
  intro p e s m args below meth c s₁ B hml hv
  obtain ⟨rfl, hP, hK⟩ := hv
  have hx := B.exec
  have hb := B.bytes
  have hr := B.returns
  have hts := atoms_spec (ws := wsMo_card) B.pre
  have hown : s.vm.findClass RMo = some m.cls := findClass_of_methodNamed B.named
  have hlocks := B.notSynchronized
  have w0 := hts (.fieldLink RMo 61 "DrumMachineModel" "code" "I") (List.mem_cons_of_mem _ wm4_188)
  have w1 := hts (.fieldLink RMo 17 "DrumMachineModel" "card" "[J") (List.mem_cons_of_mem _ wm4_201)
  have w2 := hts (.fieldLink RMo 87 "DrumMachineModel" "cards" "I") (List.mem_cons_of_mem _ wm4_200)
  have w3 := hts (.fieldLink RMo 21 "DrumMachineModel" "cardMinus" "[Z") (List.mem_cons_of_mem _ wm4_202)
  have i0 : ∀ w ∈ u_ws RMo TMo 28, w ∈ wsMo_card := fun w h => List.mem_cons_of_mem _ (inAMo w h)
  have hS : va_S (m_qs q) s.heap s.heap [] := va_S.rf
  have hl := lv_entry ([.ref (q 0), .long (v), .int (bb (b))]) (n := 4) (Nat.le_of_ble_eq_true rfl)
  rw [lg_entry_eq]
  generalize (lg_sl ([.ref (q 0), .long (v), .int (bb (b))]) ++ List.replicate (4 - (lg_sl ([.ref (q 0), .long (v), .int (bb (b))])).length) Slot.unset).toArray = ls at hl ⊢
  have hl : lv_has ls 4 [(0, .ref (q 0)), (1, .long (v)), (3, .int (bb (b)))] := hl
  have hB26 : ∀ (H : Heap) (locs : List Loc) (ls : Array Slot) (z : SM) (s1 : Int32), fMo_card z0 v b = fMo_card_26 z s1 v b → (s1 ≤ 0 → vp_in (m_cards z) 20) → m_W D q cI cJ cZ z H → va_S (m_qs q) s.heap H locs → lv_has ls 4 [(0, .ref (q 0)), (1, .long (v)), (3, .int (bb (b)))] → W p l e (headSpec wsMo_card { frames := 1, cells := 0, slots := 0, locals := 21 }).room s m ([.ref (q 0), .long (v), .int (bb (b))] : List Value).toArray below meth c H locs 0 0 (MQ below (cQw (some (.int ((fMo_card z0 v b).1))) (m_W D q cI cJ cZ (fMo_card z0 v b).2) (m_qs q)) ([.ref (q 0), .long (v), .int (bb (b))] : List Value).toArray s 0 0 (m_qs q)) (F0 m 26 ls [.int (s1), .ref (q 0)]) := by
    intro H locs ls z s1 hR hs hP hS hl
    rw [fMo_card_26.eq_1] at hR
    refine mp0_code s1 hq hS hx hb hts i0 hown hK hP w0 dMo_card_26 (fun H locs hP hS => ?_)
    refine lv_aload_n hx hb dMo_card_29 rfl (lv_at hl 0 rfl) ?_
    refine mg0_code_e (v := s1) (m_code_code _ _) hx hb hts i0 hown hK hP w0 dMo_card_30 ?_
    refine lv_if_le hx hb dMo_card_33 rfl (fun h33 => ?_) (fun h33 => ?_)
    · have hR := hR.trans (if_pos h33)
      refine lv_aload_n hx hb dMo_card_38 rfl (lv_at hl 0 rfl) ?_
      refine mg0_card hx hb hts i0 hown hK hP w1 dMo_card_39 ?_
      refine lv_aload_n hx hb dMo_card_42 rfl (lv_at hl 0 rfl) ?_
      refine mg0_cards_e (v := m_cards z) ((m_cards_code _ _).trans (rfl)) hx hb hts i0 hown hK hP w2 dMo_card_43 ?_
      refine lv_lload_n hx hb dMo_card_46 rfl (lv_at hl 1 rfl) ?_
      refine ms_card_e v (f := m_card z) ((m_card_code _ _).trans (rfl)) hq hS hx hb hK hP (hs h33) dMo_card_47 (fun H locs hP hS => ?_)
      refine lv_aload_n hx hb dMo_card_48 rfl (lv_at hl 0 rfl) ?_
      refine mg0_cardMinus hx hb hts i0 hown hK hP w3 dMo_card_49 ?_
      refine lv_aload_n hx hb dMo_card_52 rfl (lv_at hl 0 rfl) ?_
      refine mg0_cards_e (v := m_cards z) ((m_cards_card _ _).trans ((m_cards_code _ _).trans (rfl))) hx hb hts i0 hown hK hP w2 dMo_card_53 ?_
      refine lv_iload_n hx hb dMo_card_56 rfl (lv_at hl 2 rfl) ?_
      refine ms_cmin_e b (f := m_cmin z) ((m_cmin_card _ _).trans ((m_cmin_code _ _).trans (rfl))) hq hS hx hb hK hP (hs h33) dMo_card_57 (fun H locs hP hS => ?_)
      refine lv_aload_n hx hb dMo_card_58 rfl (lv_at hl 0 rfl) ?_
      refine lv_dup hx hb dMo_card_59 rfl ?_
      refine mg0_cards_e (v := m_cards z) ((m_cards_cmin _ _).trans ((m_cards_card _ _).trans ((m_cards_code _ _).trans (rfl)))) hx hb hts i0 hown hK hP w2 dMo_card_60 ?_
      refine lv_iconst (v := 1) hx hb dMo_card_63 (by decide) ?_
      refine lv_iadd hx hb dMo_card_64 ?_
      refine mp0_cards ((m_cards z) + 1) hq hS hx hb hts i0 hown hK hP w2 dMo_card_65 (fun H locs hP hS => ?_)
      refine lv_aload_n hx hb dMo_card_68 rfl (lv_at hl 0 rfl) ?_
      refine mg0_cards_e (v := (m_cards z) + 1) (m_cards_cards _ _) hx hb hts i0 hown hK hP w2 dMo_card_69 ?_
      exact W.iret hx hb hr (fun t ht _ => ⟨by rw [hR]; first | done | rfl, by rw [hR, ht]; exact hP, hS.F ht⟩) hS.2.2 dMo_card_72
    · have hR := hR.trans (if_neg h33)
      refine lv_iconst (v := 0) hx hb dMo_card_36 (by decide) ?_
      exact W.iret hx hb hr (fun t ht _ => ⟨by rw [hR]; first | done | rfl, by rw [hR, ht]; exact hP, hS.F ht⟩) hS.2.2 dMo_card_37
  have hR := fMo_card.eq_1 z0 v b
  refine lv_aload_n hx hb dMo_card_0 rfl (lv_at hl 0 rfl) ?_
  refine lv_lload_n hx hb dMo_card_1 rfl (lv_at hl 1 rfl) ?_
  refine cl_rd (W.runS (As := [.long (v)]) (rest := [.ref (q 0)]) ⟨hx, hb, hml, hown, hts⟩ (kMo_isWord l v) (va_cwS 1 hts (gS wm5_44 wm5_45 wm1_9 wm5_46) rfl rfl rfl (by decide +kernel) ⟨Nat.le_of_ble_eq_true rfl, Nat.le_of_ble_eq_true rfl⟩) (preT) rfl rfl hl.1 rfl (lv_room (Nat.le_of_ble_eq_true rfl)) dMo_card_2 ⟨Nat.le_refl _, Nat.le_refl _⟩) ?_
  refine wz_ifne hx hb dMo_card_5 rfl (fun h5 => ?_) (fun h5 => ?_)
  · have hR := hR.trans (if_pos h5)
    refine lv_aload_n hx hb dMo_card_12 rfl (lv_at hl 0 rfl) ?_
    refine mg0_cards hx hb hts i0 hown hK hP w2 dMo_card_13 ?_
    refine lv_bipush (v := 20) hx hb dMo_card_16 (by decide) ?_
    refine lv_icmp_ne hx hb dMo_card_18 rfl (fun h18 => ?_) (fun h18 => ?_)
    · have hR := hR.trans (if_neg h18)
      refine lv_iconst (v := 0) hx hb dMo_card_25 (by decide) ?_
      exact hB26 s.heap [] ls z0 0 hR (fun _ => cd_in hc h18) hP hS (lv_sub hl [0, 1, 2] rfl)
    · have hR := hR.trans (if_pos h18)
      refine lv_iconst (v := 2) hx hb dMo_card_21 (by decide) ?_
      refine lv_goto hx hb dMo_card_22 rfl ?_
      exact hB26 s.heap [] ls z0 2 hR (fun h => absurd h (by decide)) hP hS (lv_sub hl [0, 1, 2] rfl)
  · have hR := hR.trans (if_neg h5)
    refine lv_iconst (v := 1) hx hb dMo_card_8 (by decide) ?_
    refine lv_goto hx hb dMo_card_9 rfl ?_
    exact hB26 s.heap [] ls z0 1 hR (fun h => absurd h (by decide)) hP hS (lv_sub hl [0, 1, 2] rfl)
theorem dMo_access_0 : decode ccMo_access 0 = .ok (.aload_n 0, 1) := by decide +kernel
theorem dMo_access_1 : decode ccMo_access 1 = .ok (.dup, 1) := by decide +kernel
theorem dMo_access_2 : decode ccMo_access 2 = .ok (.getfield 99, 3) := by decide +kernel
theorem dMo_access_5 : decode ccMo_access 5 = .ok (.iload_n 1, 1) := by decide +kernel
theorem dMo_access_6 : decode ccMo_access 6 = .ok (.i2l, 1) := by decide +kernel
theorem dMo_access_7 : decode ccMo_access 7 = .ok (.aload_n 0, 1) := by decide +kernel
theorem dMo_access_8 : decode ccMo_access 8 = .ok (.getfield 99, 3) := by decide +kernel
theorem dMo_access_11 : decode ccMo_access 11 = .ok (.lsub, 1) := by decide +kernel
theorem dMo_access_12 : decode ccMo_access 12 = .ok (.ldc2_w 103, 3) := by decide +kernel
theorem dMo_access_15 : decode ccMo_access 15 = .ok (.lrem, 1) := by decide +kernel
theorem dMo_access_16 : decode ccMo_access 16 = .ok (.ldc2_w 103, 3) := by decide +kernel
theorem dMo_access_19 : decode ccMo_access 19 = .ok (.ladd, 1) := by decide +kernel
theorem dMo_access_20 : decode ccMo_access 20 = .ok (.ldc2_w 103, 3) := by decide +kernel
theorem dMo_access_23 : decode ccMo_access 23 = .ok (.lrem, 1) := by decide +kernel
theorem dMo_access_24 : decode ccMo_access 24 = .ok (.ladd, 1) := by decide +kernel
theorem dMo_access_25 : decode ccMo_access 25 = .ok (.putfield 99, 3) := by decide +kernel
theorem dMo_access_28 : decode ccMo_access 28 = .ok (.aload_n 0, 1) := by decide +kernel
theorem dMo_access_29 : decode ccMo_access 29 = .ok (.dup, 1) := by decide +kernel
theorem dMo_access_30 : decode ccMo_access 30 = .ok (.getfield 99, 3) := by decide +kernel
theorem dMo_access_33 : decode ccMo_access 33 = .ok (.lconst 1, 1) := by decide +kernel
theorem dMo_access_34 : decode ccMo_access 34 = .ok (.ladd, 1) := by decide +kernel
theorem dMo_access_35 : decode ccMo_access 35 = .ok (.putfield 99, 3) := by decide +kernel
theorem dMo_access_38 : decode ccMo_access 38 = .ok (.return_, 1) := by decide +kernel
def fMo_access (z0 : SM) (a : Int32) : SM :=
  m_time_s (m_time_s z0 ((m_time z0) + ((((a.toInt64 - (m_time z0)) % 50) + 50) % 50))) (((m_time z0) + ((((a.toInt64 - (m_time z0)) % 50) + 50) % 50)) + 1)
set_option maxHeartbeats 4000000 in
set_option maxRecDepth 100000 in
theorem kMo_access (l : Launch) (D : va_G) (q : Nat → Nat) (cI cJ cZ : ClassId) (hq : m_inj q) (z0 : SM) (a : Int32)  : Met l yMo_access wsMo_access { frames := 0, cells := 0, slots := 0, locals := 0 } (va_Pc [.ref (q 0), .int (a)] (m_C D q cI cJ cZ z0)) (cQw none (m_W D q cI cJ cZ (fMo_access z0 a)) (m_qs q)) 0 0 (m_qs q) := by
  refine Met.ofW (cc := ccMo_access) (maxL := 2) (ret := none) (by decide +kernel) rfl ?_
  intro p e s m args below meth c s₁ B hml hv
  obtain ⟨rfl, hP, hK⟩ := hv
  have hx := B.exec
  have hb := B.bytes
  have hr := B.returns
  have hts := atoms_spec (ws := wsMo_access) B.pre
  have hown : s.vm.findClass RMo = some m.cls := findClass_of_methodNamed B.named
  have hlocks := B.notSynchronized
  have w0 := hts (.fieldLink RMo 99 "DrumMachineModel" "time" "J") (List.mem_cons_of_mem _ wm4_199)
  have w1 := hts (.constantLong RMo 103 (50)) (List.mem_cons_of_mem _ wm5_84)
  have i0 : ∀ w ∈ u_ws RMo TMo 28, w ∈ wsMo_access := fun w h => List.mem_cons_of_mem _ (inAMo w h)
  have hS : va_S (m_qs q) s.heap s.heap [] := va_S.rf
  have hl := lv_entry ([.ref (q 0), .int (a)]) (n := 2) (Nat.le_of_ble_eq_true rfl)
  rw [lg_entry_eq]
  generalize (lg_sl ([.ref (q 0), .int (a)]) ++ List.replicate (2 - (lg_sl ([.ref (q 0), .int (a)])).length) Slot.unset).toArray = ls at hl ⊢
  have hl : lv_has ls 2 [(0, .ref (q 0)), (1, .int (a))] := hl
  have hR := fMo_access.eq_1 z0 a
  refine lv_aload_n hx hb dMo_access_0 rfl (lv_at hl 0 rfl) ?_
  refine lv_dup hx hb dMo_access_1 rfl ?_
  refine mg0_time hx hb hts i0 hown hK hP w0 dMo_access_2 ?_
  refine lv_iload_n hx hb dMo_access_5 rfl (lv_at hl 1 rfl) ?_
  refine lv_i2l hx hb dMo_access_6 rfl ?_
  refine lv_aload_n hx hb dMo_access_7 rfl (lv_at hl 0 rfl) ?_
  refine mg0_time hx hb hts i0 hown hK hP w0 dMo_access_8 ?_
  refine lv_lsub hx hb dMo_access_11 ?_
  refine lv_ldc2 (v := 50) hx hb hown w1 dMo_access_12 ?_
  refine lm_lrem hx hb dMo_access_15 (by decide) ?_
  refine lv_ldc2 (v := 50) hx hb hown w1 dMo_access_16 ?_
  refine lv_ladd hx hb dMo_access_19 ?_
  refine lv_ldc2 (v := 50) hx hb hown w1 dMo_access_20 ?_
  refine lm_lrem hx hb dMo_access_23 (by decide) ?_
  refine lv_ladd hx hb dMo_access_24 ?_
  refine mp0_time ((m_time z0) + ((((a.toInt64 - (m_time z0)) % 50) + 50) % 50)) hq hS hx hb hts i0 hown hK hP w0 dMo_access_25 (fun H locs hP hS => ?_)
  refine lv_aload_n hx hb dMo_access_28 rfl (lv_at hl 0 rfl) ?_
  refine lv_dup hx hb dMo_access_29 rfl ?_
  refine mg0_time_e (v := (m_time z0) + ((((a.toInt64 - (m_time z0)) % 50) + 50) % 50)) (m_time_time _ _) hx hb hts i0 hown hK hP w0 dMo_access_30 ?_
  refine lv_lconst (v := 1) hx hb dMo_access_33 (by decide) ?_
  refine lv_ladd hx hb dMo_access_34 ?_
  refine mp0_time (((m_time z0) + ((((a.toInt64 - (m_time z0)) % 50) + 50) % 50)) + 1) hq hS hx hb hts i0 hown hK hP w0 dMo_access_35 (fun H locs hP hS => ?_)
  exact W.vret hx hb hr (fun t ht _ => ⟨rfl, by rw [hR, ht]; exact hP, hS.F ht⟩) hS.2.2 dMo_access_38
theorem dMo_stop_0 : decode ccMo_stop 0 = .ok (.aload_n 0, 1) := by decide +kernel
theorem dMo_stop_1 : decode ccMo_stop 1 = .ok (.iload_n 1, 1) := by decide +kernel
theorem dMo_stop_2 : decode ccMo_stop 2 = .ok (.putfield 105, 3) := by decide +kernel
theorem dMo_stop_5 : decode ccMo_stop 5 = .ok (.aload_n 0, 1) := by decide +kernel
theorem dMo_stop_6 : decode ccMo_stop 6 = .ok (.iload_n 2, 1) := by decide +kernel
theorem dMo_stop_7 : decode ccMo_stop 7 = .ok (.putfield 108, 3) := by decide +kernel
theorem dMo_stop_10 : decode ccMo_stop 10 = .ok (.iconst 0, 1) := by decide +kernel
theorem dMo_stop_11 : decode ccMo_stop 11 = .ok (.ireturn, 1) := by decide +kernel
def fMo_stop (z0 : SM) (a : Int32) (w : Int32) : Bool × SM :=
  (false, m_nxt_s (m_fault_s z0 a) w)
set_option maxHeartbeats 4000000 in
set_option maxRecDepth 100000 in
theorem kMo_stop (l : Launch) (D : va_G) (q : Nat → Nat) (cI cJ cZ : ClassId) (hq : m_inj q) (z0 : SM) (a : Int32) (w : Int32)  : Met l yMo_stop wsMo_stop { frames := 0, cells := 0, slots := 0, locals := 0 } (va_Pc [.ref (q 0), .int (a), .int (w)] (m_C D q cI cJ cZ z0)) (cQw (some (.int (bb ((fMo_stop z0 a w).1)))) (m_W D q cI cJ cZ (fMo_stop z0 a w).2) (m_qs q)) 0 0 (m_qs q) := by
  refine Met.ofW (cc := ccMo_stop) (maxL := 3) (ret := (some .boolean)) (by decide +kernel) rfl ?_
  intro p e s m args below meth c s₁ B hml hv
  obtain ⟨rfl, hP, hK⟩ := hv
  have hx := B.exec
  have hb := B.bytes
  have hr := B.returns
  have hts := atoms_spec (ws := wsMo_stop) B.pre
  have hown : s.vm.findClass RMo = some m.cls := findClass_of_methodNamed B.named
  have hlocks := B.notSynchronized
  have w0 := hts (.fieldLink RMo 105 "DrumMachineModel" "fault" "I") (List.mem_cons_of_mem _ wm4_198)
  have w1 := hts (.fieldLink RMo 108 "DrumMachineModel" "next" "I") (List.mem_cons_of_mem _ wm4_197)
  have i0 : ∀ w ∈ u_ws RMo TMo 28, w ∈ wsMo_stop := fun w h => List.mem_cons_of_mem _ (inAMo w h)
  have hS : va_S (m_qs q) s.heap s.heap [] := va_S.rf
  have hl := lv_entry ([.ref (q 0), .int (a), .int (w)]) (n := 3) (Nat.le_of_ble_eq_true rfl)
  rw [lg_entry_eq]
  generalize (lg_sl ([.ref (q 0), .int (a), .int (w)]) ++ List.replicate (3 - (lg_sl ([.ref (q 0), .int (a), .int (w)])).length) Slot.unset).toArray = ls at hl ⊢
  have hl : lv_has ls 3 [(0, .ref (q 0)), (1, .int (a)), (2, .int (w))] := hl
  have hR := fMo_stop.eq_1 z0 a w
  refine lv_aload_n hx hb dMo_stop_0 rfl (lv_at hl 0 rfl) ?_
  refine lv_iload_n hx hb dMo_stop_1 rfl (lv_at hl 1 rfl) ?_
  refine mp0_fault a hq hS hx hb hts i0 hown hK hP w0 dMo_stop_2 (fun H locs hP hS => ?_)
  refine lv_aload_n hx hb dMo_stop_5 rfl (lv_at hl 0 rfl) ?_
  refine lv_iload_n hx hb dMo_stop_6 rfl (lv_at hl 2 rfl) ?_
  refine mp0_next w hq hS hx hb hts i0 hown hK hP w1 dMo_stop_7 (fun H locs hP hS => ?_)
  refine lv_iconst (v := 0) hx hb dMo_stop_10 (by decide) ?_
  exact W.zret hx hb hr rfl (fun t ht _ => ⟨by rw [hR]; first | done | rfl, by rw [hR, ht]; exact hP, hS.F ht⟩) hS.2.2 dMo_stop_11
