theorem dDr_codeOf_0 : decode ccDr_codeOf 0 = .ok (.iconst 1, 1) := by decide +kernel
theorem dDr_codeOf_1 : decode ccDr_codeOf 1 = .ok (.iload_n 0, 1) := by decide +kernel
theorem dDr_codeOf_2 : decode ccDr_codeOf 2 = .ok (.iconst 5, 1) := by decide +kernel
theorem dDr_codeOf_3 : decode ccDr_codeOf 3 = .ok (.irem, 1) := by decide +kernel
theorem dDr_codeOf_4 : decode ccDr_codeOf 4 = .ok (.ishl, 1) := by decide +kernel
theorem dDr_codeOf_5 : decode ccDr_codeOf 5 = .ok (.iload_n 0, 1) := by decide +kernel
theorem dDr_codeOf_6 : decode ccDr_codeOf 6 = .ok (.iconst 5, 1) := by decide +kernel
theorem dDr_codeOf_7 : decode ccDr_codeOf 7 = .ok (.if_icmp .ge 8, 3) := by decide +kernel
theorem dDr_codeOf_10 : decode ccDr_codeOf 10 = .ok (.bipush 32, 2) := by decide +kernel
theorem dDr_codeOf_12 : decode ccDr_codeOf 12 = .ok (.goto 5, 3) := by decide +kernel
theorem dDr_codeOf_15 : decode ccDr_codeOf 15 = .ok (.bipush 64, 2) := by decide +kernel
theorem dDr_codeOf_17 : decode ccDr_codeOf 17 = .ok (.ior, 1) := by decide +kernel
theorem dDr_codeOf_18 : decode ccDr_codeOf 18 = .ok (.ireturn, 1) := by decide +kernel
def fDr_codeOf (d : Int32) : Int32 :=
  (if (5 : Int32) ≤ d then ((1 : Int32) <<< ((d % 5) &&& 31)) ||| 64 else ((1 : Int32) <<< ((d % 5) &&& 31)) ||| 32)
set_option maxHeartbeats 4000000 in
set_option maxRecDepth 100000 in
theorem kDr_codeOf (l : Launch) (d : Int32)  : Met l yDr_codeOf wsDr_codeOf { frames := 0, cells := 0, slots := 0, locals := 0 } (va_Pc [.int (d)] (fun _ => True)) (cQr (some (.int (fDr_codeOf d)))) 0 0 (fun _ => False) := by
  refine Met.ofW (cc := ccDr_codeOf) (maxL := 1) (ret := (some .int)) (by decide +kernel) rfl ?_
  intro p e s m args below meth c s₁ B hml hv
  obtain ⟨rfl, -⟩ := hv
  have hx := B.exec
  have hb := B.bytes
  have hr := B.returns
  have hts := atoms_spec (ws := wsDr_codeOf) B.pre
  have hown : s.vm.findClass RDr = some m.cls := findClass_of_methodNamed B.named
  have hlocks := B.notSynchronized
  have hl := lv_entry ([.int (d)]) (n := 1) (Nat.le_of_ble_eq_true rfl)
  rw [lg_entry_eq]
  generalize (lg_sl ([.int (d)]) ++ List.replicate (1 - (lg_sl ([.int (d)])).length) Slot.unset).toArray = ls at hl ⊢
  have hl : lv_has ls 1 [(0, .int (d))] := hl
  have hR := fDr_codeOf.eq_1 d
  refine lv_iconst (v := 1) hx hb dDr_codeOf_0 (by decide) ?_
  refine lv_iload_n hx hb dDr_codeOf_1 rfl (lv_at hl 0 rfl) ?_
  refine lv_iconst (v := 5) hx hb dDr_codeOf_2 (by decide) ?_
  refine lm_irem hx hb dDr_codeOf_3 (by decide) ?_
  refine lv_ishl hx hb dDr_codeOf_4 ?_
  refine lv_iload_n hx hb dDr_codeOf_5 rfl (lv_at hl 0 rfl) ?_
  refine lv_iconst (v := 5) hx hb dDr_codeOf_6 (by decide) ?_
  refine lv_icmp_ge hx hb dDr_codeOf_7 rfl (fun h7 => ?_) (fun h7 => ?_)
  · have hR := hR.trans (if_pos h7)
    refine lv_bipush (v := 64) hx hb dDr_codeOf_15 (by decide) ?_
    refine lv_ior hx hb dDr_codeOf_17 ?_
    exact W.iret hx hb hr (fun t ht _ => ⟨by rw [hR]; first | done | rfl, ht⟩) (fun _ h => absurd h List.not_mem_nil) dDr_codeOf_18
  · have hR := hR.trans (if_neg h7)
    refine lv_bipush (v := 32) hx hb dDr_codeOf_10 (by decide) ?_
    refine lv_goto hx hb dDr_codeOf_12 rfl ?_
    refine lv_ior hx hb dDr_codeOf_17 ?_
    exact W.iret hx hb hr (fun t ht _ => ⟨by rw [hR]; first | done | rfl, ht⟩) (fun _ h => absurd h List.not_mem_nil) dDr_codeOf_18
theorem dDr_digitOf_0 : decode ccDr_digitOf 0 = .ok (.iconst 0, 1) := by decide +kernel
theorem dDr_digitOf_1 : decode ccDr_digitOf 1 = .ok (.istore_n 1, 1) := by decide +kernel
theorem dDr_digitOf_2 : decode ccDr_digitOf 2 = .ok (.iload_n 1, 1) := by decide +kernel
theorem dDr_digitOf_3 : decode ccDr_digitOf 3 = .ok (.bipush 10, 2) := by decide +kernel
theorem dDr_digitOf_5 : decode ccDr_digitOf 5 = .ok (.if_icmp .ge 19, 3) := by decide +kernel
theorem dDr_digitOf_8 : decode ccDr_digitOf 8 = .ok (.iload_n 1, 1) := by decide +kernel
theorem dDr_digitOf_9 : decode ccDr_digitOf 9 = .ok (.invokestatic 23, 3) := by decide +kernel
theorem dDr_digitOf_12 : decode ccDr_digitOf 12 = .ok (.iload_n 0, 1) := by decide +kernel
theorem dDr_digitOf_13 : decode ccDr_digitOf 13 = .ok (.if_icmp .ne 5, 3) := by decide +kernel
theorem dDr_digitOf_16 : decode ccDr_digitOf 16 = .ok (.iload_n 1, 1) := by decide +kernel
theorem dDr_digitOf_17 : decode ccDr_digitOf 17 = .ok (.ireturn, 1) := by decide +kernel
theorem dDr_digitOf_18 : decode ccDr_digitOf 18 = .ok (.iinc 1 1, 3) := by decide +kernel
theorem dDr_digitOf_21 : decode ccDr_digitOf 21 = .ok (.goto (-19), 3) := by decide +kernel
theorem dDr_digitOf_24 : decode ccDr_digitOf 24 = .ok (.iconst (-1), 1) := by decide +kernel
theorem dDr_digitOf_25 : decode ccDr_digitOf 25 = .ok (.ireturn, 1) := by decide +kernel
def fDr_digitOf_2  : Nat → Int32 → Nat → Int32
  | 0, w, v1 => 0
  | fu + 1, w, v1 => (if 10 ≤ v1 then (-1) else (if (fDr_codeOf (nI (v1))) = w then nI (v1) else fDr_digitOf_2 fu w (v1 + 1)))
def fDr_digitOf (w : Int32) : Int32 :=
  fDr_digitOf_2 11 w 0
set_option maxHeartbeats 4000000 in
set_option maxRecDepth 100000 in
theorem kDr_digitOf (l : Launch) (w : Int32)  : Met l yDr_digitOf wsDr_digitOf { frames := 1, cells := 0, slots := 0, locals := 20 } (va_Pc [.int (w)] (fun _ => True)) (cQr (some (.int (fDr_digitOf w)))) 0 0 (fun _ => False) := by
  refine Met.ofW (cc := ccDr_digitOf) (maxL := 2) (ret := (some .int)) (by decide +kernel) rfl ?_
  intro p e s m args below meth c s₁ B hml hv
  obtain ⟨rfl, -⟩ := hv
  have hx := B.exec
  have hb := B.bytes
  have hr := B.returns
  have hts := atoms_spec (ws := wsDr_digitOf) B.pre
  have hown : s.vm.findClass RDr = some m.cls := findClass_of_methodNamed B.named
  have hlocks := B.notSynchronized
  have hl := lv_entry ([.int (w)]) (n := 2) (Nat.le_of_ble_eq_true rfl)
  rw [lg_entry_eq]
  generalize (lg_sl ([.int (w)]) ++ List.replicate (2 - (lg_sl ([.int (w)])).length) Slot.unset).toArray = ls at hl ⊢
  have hl : lv_has ls 2 [(0, .int (w))] := hl
  have hB2 : ∀ (n2 : Nat) (ls : Array Slot) (v1 : Nat), 10 - v1 < n2 → fDr_digitOf w = fDr_digitOf_2 n2 w v1 → (v1 ≤ 10) → lv_has ls 2 [(0, .int (w)), (1, .int (nI (v1)))] → W p l e (headSpec wsDr_digitOf { frames := 1, cells := 0, slots := 0, locals := 20 }).room s m ([.int (w)] : List Value).toArray below meth c s.heap [] 0 0 (MQ below (cQr (some (.int (fDr_digitOf w)))) ([.int (w)] : List Value).toArray s 0 0 (fun _ => False)) (F0 m 2 ls []) := by
    intro n2
    induction n2 with
    | zero => intro ls v1 hn2; exact absurd hn2 (Nat.not_lt_zero _)
    | succ n2 ih2 =>
      intro ls v1 hn2 hR h1 hl
      rw [fDr_digitOf_2.eq_2] at hR
      refine lv_iload_n hx hb dDr_digitOf_2 rfl (lv_at hl 1 rfl) ?_
      refine lv_bipush (v := 10) hx hb dDr_digitOf_3 (by decide) ?_
      refine wn_ge (x := v1) (y := 10) hx hb (by omega) (by omega) dDr_digitOf_5 rfl (fun h5 => ?_) (fun h5 => ?_)
      · have hR := hR.trans (if_pos h5)
        refine lv_iconst (v := (-1)) hx hb dDr_digitOf_24 (by decide) ?_
        exact W.iret hx hb hr (fun t ht _ => ⟨by rw [hR]; first | done | rfl, ht⟩) (fun _ h => absurd h List.not_mem_nil) dDr_digitOf_25
      · have hR := hR.trans (if_neg h5)
        refine lv_iload_n hx hb dDr_digitOf_8 rfl (lv_at hl 1 rfl) ?_
        refine cl_rd (W.runS (As := [.int ((nI (v1)))]) (rest := []) ⟨hx, hb, hml, hown, hts⟩ (kDr_codeOf l (nI (v1))) (va_cwS 1 hts (gS wm1_34 wm1_35 wm1_2 wm1_36) rfl rfl rfl (by decide +kernel) ⟨Nat.le_of_ble_eq_true rfl, Nat.le_of_ble_eq_true rfl⟩) (preT) rfl rfl hl.1 rfl (lv_room (Nat.le_of_ble_eq_true rfl)) dDr_digitOf_9 ⟨Nat.le_refl _, Nat.le_refl _⟩) ?_
        refine lv_iload_n hx hb dDr_digitOf_12 rfl (lv_at hl 0 rfl) ?_
        refine lv_icmp_ne hx hb dDr_digitOf_13 rfl (fun h13 => ?_) (fun h13 => ?_)
        · have hR := hR.trans (if_neg h13)
          refine lv_iinc (k := 1) (lv' := [(1, .int (nI (v1 + 1))), (0, .int (w))]) hx hb dDr_digitOf_18 hl rfl (nI_1 _) (by decide) rfl (fun ls hl => ?_)
          refine lv_goto hx hb dDr_digitOf_21 rfl ?_
          exact ih2 ls (v1 + 1) (by omega) hR (by first | assumption | omega) (lv_sub hl [1, 0] rfl)
        · have hR := hR.trans (if_pos h13)
          refine lv_iload_n hx hb dDr_digitOf_16 rfl (lv_at hl 1 rfl) ?_
          exact W.iret hx hb hr (fun t ht _ => ⟨by rw [hR]; first | done | rfl, ht⟩) (fun _ h => absurd h List.not_mem_nil) dDr_digitOf_17
  have hR := fDr_digitOf.eq_1 w
  refine lv_iconst (v := 0) hx hb dDr_digitOf_0 (by decide) ?_
  refine lv_istore_n (lv' := [(1, .int (nI (0))), (0, .int (w))]) hx hb dDr_digitOf_1 rfl hl (by decide) rfl (fun ls hl => ?_)
  exact hB2 11 ls 0 (by omega) hR (by first | assumption | omega) (lv_sub hl [1, 0] rfl)
theorem dDr_hasAddress_0 : decode ccDr_hasAddress 0 = .ok (.iload_n 0, 1) := by decide +kernel
theorem dDr_hasAddress_1 : decode ccDr_hasAddress 1 = .ok (.ifCond .lt 14, 3) := by decide +kernel
theorem dDr_hasAddress_4 : decode ccDr_hasAddress 4 = .ok (.iload_n 0, 1) := by decide +kernel
theorem dDr_hasAddress_5 : decode ccDr_hasAddress 5 = .ok (.sipush 200, 3) := by decide +kernel
theorem dDr_hasAddress_8 : decode ccDr_hasAddress 8 = .ok (.if_icmp .ge 7, 3) := by decide +kernel
theorem dDr_hasAddress_11 : decode ccDr_hasAddress 11 = .ok (.iconst 1, 1) := by decide +kernel
theorem dDr_hasAddress_12 : decode ccDr_hasAddress 12 = .ok (.goto 4, 3) := by decide +kernel
theorem dDr_hasAddress_15 : decode ccDr_hasAddress 15 = .ok (.iconst 0, 1) := by decide +kernel
theorem dDr_hasAddress_16 : decode ccDr_hasAddress 16 = .ok (.ireturn, 1) := by decide +kernel
def fDr_hasAddress (a : Int32) : Bool :=
  (if a < 0 then false else (if (200 : Int32) ≤ a then false else true))
set_option maxHeartbeats 4000000 in
set_option maxRecDepth 100000 in
theorem kDr_hasAddress (l : Launch) (a : Int32)  : Met l yDr_hasAddress wsDr_hasAddress { frames := 0, cells := 0, slots := 0, locals := 0 } (va_Pc [.int (a)] (fun _ => True)) (cQr (some (.int (bb (fDr_hasAddress a))))) 0 0 (fun _ => False) := by
  refine Met.ofW (cc := ccDr_hasAddress) (maxL := 1) (ret := (some .boolean)) (by decide +kernel) rfl ?_
  intro p e s m args below meth c s₁ B hml hv
  obtain ⟨rfl, -⟩ := hv
  have hx := B.exec
  have hb := B.bytes
  have hr := B.returns
  have hts := atoms_spec (ws := wsDr_hasAddress) B.pre
  have hown : s.vm.findClass RDr = some m.cls := findClass_of_methodNamed B.named
  have hlocks := B.notSynchronized
  have hl := lv_entry ([.int (a)]) (n := 1) (Nat.le_of_ble_eq_true rfl)
  rw [lg_entry_eq]
  generalize (lg_sl ([.int (a)]) ++ List.replicate (1 - (lg_sl ([.int (a)])).length) Slot.unset).toArray = ls at hl ⊢
  have hl : lv_has ls 1 [(0, .int (a))] := hl
  have hR := fDr_hasAddress.eq_1 a
  refine lv_iload_n hx hb dDr_hasAddress_0 rfl (lv_at hl 0 rfl) ?_
  refine lv_if_lt hx hb dDr_hasAddress_1 rfl (fun h1 => ?_) (fun h1 => ?_)
  · have hR := hR.trans (if_pos h1)
    refine lv_iconst (v := 0) hx hb dDr_hasAddress_15 (by decide) ?_
    exact W.zret hx hb hr rfl (fun t ht _ => ⟨by rw [hR]; first | done | rfl, ht⟩) (fun _ h => absurd h List.not_mem_nil) dDr_hasAddress_16
  · have hR := hR.trans (if_neg h1)
    refine lv_iload_n hx hb dDr_hasAddress_4 rfl (lv_at hl 0 rfl) ?_
    refine lv_sipush (v := 200) hx hb dDr_hasAddress_5 (by decide) ?_
    refine lv_icmp_ge hx hb dDr_hasAddress_8 rfl (fun h8 => ?_) (fun h8 => ?_)
    · have hR := hR.trans (if_pos h8)
      refine lv_iconst (v := 0) hx hb dDr_hasAddress_15 (by decide) ?_
      exact W.zret hx hb hr rfl (fun t ht _ => ⟨by rw [hR]; first | done | rfl, ht⟩) (fun _ h => absurd h List.not_mem_nil) dDr_hasAddress_16
    · have hR := hR.trans (if_neg h8)
      refine lv_iconst (v := 1) hx hb dDr_hasAddress_11 (by decide) ?_
      refine lv_goto hx hb dDr_hasAddress_12 rfl ?_
      exact W.zret hx hb hr rfl (fun t ht _ => ⟨by rw [hR]; first | done | rfl, ht⟩) (fun _ h => absurd h List.not_mem_nil) dDr_hasAddress_16
theorem has_in {a : Int32} (h : fDr_hasAddress a = true) : vp_in a 200 := by
  rw [fDr_hasAddress.eq_1] at h
  by_cases h1 : a < 0
  · rw [if_pos h1] at h; cases h
  · rw [if_neg h1] at h
    by_cases h2 : (200 : Int32) ≤ a
    · rw [if_pos h2] at h; cases h
    · rw [Int32.le_iff_toInt_le] at h2
      have e : (200 : Int32).toInt = 200 := by decide
      exact vp_in_iff.mpr ⟨i_nn h1, by omega⟩
theorem dDr_hasBit_0 : decode ccDr_hasBit 0 = .ok (.iload_n 0, 1) := by decide +kernel
theorem dDr_hasBit_1 : decode ccDr_hasBit 1 = .ok (.invokestatic 33, 3) := by decide +kernel
theorem dDr_hasBit_4 : decode ccDr_hasBit 4 = .ok (.ifCond .eq 27, 3) := by decide +kernel
theorem dDr_hasBit_7 : decode ccDr_hasBit 7 = .ok (.iload_n 1, 1) := by decide +kernel
theorem dDr_hasBit_8 : decode ccDr_hasBit 8 = .ok (.ifCond .lt 23, 3) := by decide +kernel
theorem dDr_hasBit_11 : decode ccDr_hasBit 11 = .ok (.iload_n 1, 1) := by decide +kernel
theorem dDr_hasBit_12 : decode ccDr_hasBit 12 = .ok (.bipush 10, 2) := by decide +kernel
theorem dDr_hasBit_14 : decode ccDr_hasBit 14 = .ok (.if_icmp .ge 17, 3) := by decide +kernel
theorem dDr_hasBit_17 : decode ccDr_hasBit 17 = .ok (.iload_n 2, 1) := by decide +kernel
theorem dDr_hasBit_18 : decode ccDr_hasBit 18 = .ok (.ifCond .lt 13, 3) := by decide +kernel
theorem dDr_hasBit_21 : decode ccDr_hasBit 21 = .ok (.iload_n 2, 1) := by decide +kernel
theorem dDr_hasBit_22 : decode ccDr_hasBit 22 = .ok (.bipush 7, 2) := by decide +kernel
theorem dDr_hasBit_24 : decode ccDr_hasBit 24 = .ok (.if_icmp .ge 7, 3) := by decide +kernel
theorem dDr_hasBit_27 : decode ccDr_hasBit 27 = .ok (.iconst 1, 1) := by decide +kernel
theorem dDr_hasBit_28 : decode ccDr_hasBit 28 = .ok (.goto 4, 3) := by decide +kernel
theorem dDr_hasBit_31 : decode ccDr_hasBit 31 = .ok (.iconst 0, 1) := by decide +kernel
theorem dDr_hasBit_32 : decode ccDr_hasBit 32 = .ok (.ireturn, 1) := by decide +kernel
def fDr_hasBit (a : Int32) (d : Int32) (b : Int32) : Bool :=
  (if (fDr_hasAddress a) = true then (if d < 0 then false else (if (10 : Int32) ≤ d then false else (if b < 0 then false else (if (7 : Int32) ≤ b then false else true)))) else false)
set_option maxHeartbeats 4000000 in
set_option maxRecDepth 100000 in
theorem kDr_hasBit (l : Launch) (a : Int32) (d : Int32) (b : Int32)  : Met l yDr_hasBit wsDr_hasBit { frames := 1, cells := 0, slots := 0, locals := 20 } (va_Pc [.int (a), .int (d), .int (b)] (fun _ => True)) (cQr (some (.int (bb (fDr_hasBit a d b))))) 0 0 (fun _ => False) := by
  refine Met.ofW (cc := ccDr_hasBit) (maxL := 3) (ret := (some .boolean)) (by decide +kernel) rfl ?_
  intro p e s m args below meth c s₁ B hml hv
  obtain ⟨rfl, -⟩ := hv
  have hx := B.exec
  have hb := B.bytes
  have hr := B.returns
  have hts := atoms_spec (ws := wsDr_hasBit) B.pre
  have hown : s.vm.findClass RDr = some m.cls := findClass_of_methodNamed B.named
  have hlocks := B.notSynchronized
  have hl := lv_entry ([.int (a), .int (d), .int (b)]) (n := 3) (Nat.le_of_ble_eq_true rfl)
  rw [lg_entry_eq]
  generalize (lg_sl ([.int (a), .int (d), .int (b)]) ++ List.replicate (3 - (lg_sl ([.int (a), .int (d), .int (b)])).length) Slot.unset).toArray = ls at hl ⊢
  have hl : lv_has ls 3 [(0, .int (a)), (1, .int (d)), (2, .int (b))] := hl
  have hR := fDr_hasBit.eq_1 a d b
  refine lv_iload_n hx hb dDr_hasBit_0 rfl (lv_at hl 0 rfl) ?_
  refine cl_rd (W.runS (As := [.int (a)]) (rest := []) ⟨hx, hb, hml, hown, hts⟩ (kDr_hasAddress l a) (va_cwS 1 hts (gS wm2_115 wm2_9 wm1_2 wm2_10) rfl rfl rfl (by decide +kernel) ⟨Nat.le_of_ble_eq_true rfl, Nat.le_of_ble_eq_true rfl⟩) (preT) rfl rfl hl.1 rfl (lv_room (Nat.le_of_ble_eq_true rfl)) dDr_hasBit_1 ⟨Nat.le_refl _, Nat.le_refl _⟩) ?_
  refine wz_ifeq hx hb dDr_hasBit_4 rfl (fun h4 => ?_) (fun h4 => ?_)
  · have hR := hR.trans (if_neg h4)
    refine lv_iconst (v := 0) hx hb dDr_hasBit_31 (by decide) ?_
    exact W.zret hx hb hr rfl (fun t ht _ => ⟨by rw [hR]; first | done | rfl, ht⟩) (fun _ h => absurd h List.not_mem_nil) dDr_hasBit_32
  · have hR := hR.trans (if_pos h4)
    refine lv_iload_n hx hb dDr_hasBit_7 rfl (lv_at hl 1 rfl) ?_
    refine lv_if_lt hx hb dDr_hasBit_8 rfl (fun h8 => ?_) (fun h8 => ?_)
    · have hR := hR.trans (if_pos h8)
      refine lv_iconst (v := 0) hx hb dDr_hasBit_31 (by decide) ?_
      exact W.zret hx hb hr rfl (fun t ht _ => ⟨by rw [hR]; first | done | rfl, ht⟩) (fun _ h => absurd h List.not_mem_nil) dDr_hasBit_32
    · have hR := hR.trans (if_neg h8)
      refine lv_iload_n hx hb dDr_hasBit_11 rfl (lv_at hl 1 rfl) ?_
      refine lv_bipush (v := 10) hx hb dDr_hasBit_12 (by decide) ?_
      refine lv_icmp_ge hx hb dDr_hasBit_14 rfl (fun h14 => ?_) (fun h14 => ?_)
      · have hR := hR.trans (if_pos h14)
        refine lv_iconst (v := 0) hx hb dDr_hasBit_31 (by decide) ?_
        exact W.zret hx hb hr rfl (fun t ht _ => ⟨by rw [hR]; first | done | rfl, ht⟩) (fun _ h => absurd h List.not_mem_nil) dDr_hasBit_32
      · have hR := hR.trans (if_neg h14)
        refine lv_iload_n hx hb dDr_hasBit_17 rfl (lv_at hl 2 rfl) ?_
        refine lv_if_lt hx hb dDr_hasBit_18 rfl (fun h18 => ?_) (fun h18 => ?_)
        · have hR := hR.trans (if_pos h18)
          refine lv_iconst (v := 0) hx hb dDr_hasBit_31 (by decide) ?_
          exact W.zret hx hb hr rfl (fun t ht _ => ⟨by rw [hR]; first | done | rfl, ht⟩) (fun _ h => absurd h List.not_mem_nil) dDr_hasBit_32
        · have hR := hR.trans (if_neg h18)
          refine lv_iload_n hx hb dDr_hasBit_21 rfl (lv_at hl 2 rfl) ?_
          refine lv_bipush (v := 7) hx hb dDr_hasBit_22 (by decide) ?_
          refine lv_icmp_ge hx hb dDr_hasBit_24 rfl (fun h24 => ?_) (fun h24 => ?_)
          · have hR := hR.trans (if_pos h24)
            refine lv_iconst (v := 0) hx hb dDr_hasBit_31 (by decide) ?_
            exact W.zret hx hb hr rfl (fun t ht _ => ⟨by rw [hR]; first | done | rfl, ht⟩) (fun _ h => absurd h List.not_mem_nil) dDr_hasBit_32
          · have hR := hR.trans (if_neg h24)
            refine lv_iconst (v := 1) hx hb dDr_hasBit_27 (by decide) ?_
            refine lv_goto hx hb dDr_hasBit_28 rfl ?_
            exact W.zret hx hb hr rfl (fun t ht _ => ⟨by rw [hR]; first | done | rfl, ht⟩) (fun _ h => absurd h List.not_mem_nil) dDr_hasBit_32
theorem dDr_angleOf_0 : decode ccDr_angleOf 0 = .ok (.iload_n 0, 1) := by decide +kernel
theorem dDr_angleOf_1 : decode ccDr_angleOf 1 = .ok (.bipush 50, 2) := by decide +kernel
theorem dDr_angleOf_3 : decode ccDr_angleOf 3 = .ok (.irem, 1) := by decide +kernel
theorem dDr_angleOf_4 : decode ccDr_angleOf 4 = .ok (.ireturn, 1) := by decide +kernel
def fDr_angleOf (a : Int32) : Int32 :=
  a % 50
set_option maxHeartbeats 4000000 in
set_option maxRecDepth 100000 in
theorem kDr_angleOf (l : Launch) (a : Int32)  : Met l yDr_angleOf wsDr_angleOf { frames := 0, cells := 0, slots := 0, locals := 0 } (va_Pc [.int (a)] (fun _ => True)) (cQr (some (.int (fDr_angleOf a)))) 0 0 (fun _ => False) := by
  refine Met.ofW (cc := ccDr_angleOf) (maxL := 1) (ret := (some .int)) (by decide +kernel) rfl ?_
  intro p e s m args below meth c s₁ B hml hv
  obtain ⟨rfl, -⟩ := hv
  have hx := B.exec
  have hb := B.bytes
  have hr := B.returns
  have hts := atoms_spec (ws := wsDr_angleOf) B.pre
  have hown : s.vm.findClass RDr = some m.cls := findClass_of_methodNamed B.named
  have hlocks := B.notSynchronized
  have hl := lv_entry ([.int (a)]) (n := 1) (Nat.le_of_ble_eq_true rfl)
  rw [lg_entry_eq]
  generalize (lg_sl ([.int (a)]) ++ List.replicate (1 - (lg_sl ([.int (a)])).length) Slot.unset).toArray = ls at hl ⊢
  have hl : lv_has ls 1 [(0, .int (a))] := hl
  have hR := fDr_angleOf.eq_1 a
  refine lv_iload_n hx hb dDr_angleOf_0 rfl (lv_at hl 0 rfl) ?_
  refine lv_bipush (v := 50) hx hb dDr_angleOf_1 (by decide) ?_
  refine lm_irem hx hb dDr_angleOf_3 (by decide) ?_
  exact W.iret hx hb hr (fun t ht _ => ⟨by rw [hR]; first | done | rfl, ht⟩) (fun _ h => absurd h List.not_mem_nil) dDr_angleOf_4
theorem dDr_store_0 : decode ccDr_store 0 = .ok (.lload_n 2, 1) := by decide +kernel
theorem dDr_store_1 : decode ccDr_store 1 = .ok (.lstore 5, 2) := by decide +kernel
theorem dDr_store_3 : decode ccDr_store 3 = .ok (.iconst 0, 1) := by decide +kernel
theorem dDr_store_4 : decode ccDr_store 4 = .ok (.istore 7, 2) := by decide +kernel
theorem dDr_store_6 : decode ccDr_store 6 = .ok (.iload 7, 2) := by decide +kernel
theorem dDr_store_8 : decode ccDr_store 8 = .ok (.bipush 10, 2) := by decide +kernel
theorem dDr_store_10 : decode ccDr_store 10 = .ok (.if_icmp .ge 39, 3) := by decide +kernel
theorem dDr_store_13 : decode ccDr_store 13 = .ok (.aload_n 0, 1) := by decide +kernel
theorem dDr_store_14 : decode ccDr_store 14 = .ok (.getfield 11, 3) := by decide +kernel
theorem dDr_store_17 : decode ccDr_store 17 = .ok (.iload_n 1, 1) := by decide +kernel
theorem dDr_store_18 : decode ccDr_store 18 = .ok (.bipush 10, 2) := by decide +kernel
theorem dDr_store_20 : decode ccDr_store 20 = .ok (.imul, 1) := by decide +kernel
theorem dDr_store_21 : decode ccDr_store 21 = .ok (.iload 7, 2) := by decide +kernel
theorem dDr_store_23 : decode ccDr_store 23 = .ok (.iadd, 1) := by decide +kernel
theorem dDr_store_24 : decode ccDr_store 24 = .ok (.lload 5, 2) := by decide +kernel
theorem dDr_store_26 : decode ccDr_store 26 = .ok (.ldc2_w 37, 3) := by decide +kernel
theorem dDr_store_29 : decode ccDr_store 29 = .ok (.lrem, 1) := by decide +kernel
theorem dDr_store_30 : decode ccDr_store 30 = .ok (.l2i, 1) := by decide +kernel
theorem dDr_store_31 : decode ccDr_store 31 = .ok (.invokestatic 23, 3) := by decide +kernel
theorem dDr_store_34 : decode ccDr_store 34 = .ok (.iastore, 1) := by decide +kernel
theorem dDr_store_35 : decode ccDr_store 35 = .ok (.lload 5, 2) := by decide +kernel
theorem dDr_store_37 : decode ccDr_store 37 = .ok (.ldc2_w 37, 3) := by decide +kernel
theorem dDr_store_40 : decode ccDr_store 40 = .ok (.ldiv, 1) := by decide +kernel
theorem dDr_store_41 : decode ccDr_store 41 = .ok (.lstore 5, 2) := by decide +kernel
theorem dDr_store_43 : decode ccDr_store 43 = .ok (.iinc 7 1, 3) := by decide +kernel
theorem dDr_store_46 : decode ccDr_store 46 = .ok (.goto (-40), 3) := by decide +kernel
theorem dDr_store_49 : decode ccDr_store 49 = .ok (.aload_n 0, 1) := by decide +kernel
theorem dDr_store_50 : decode ccDr_store 50 = .ok (.getfield 15, 3) := by decide +kernel
theorem dDr_store_53 : decode ccDr_store 53 = .ok (.iload_n 1, 1) := by decide +kernel
theorem dDr_store_54 : decode ccDr_store 54 = .ok (.lload_n 2, 1) := by decide +kernel
theorem dDr_store_55 : decode ccDr_store 55 = .ok (.lastore, 1) := by decide +kernel
theorem dDr_store_56 : decode ccDr_store 56 = .ok (.aload_n 0, 1) := by decide +kernel
theorem dDr_store_57 : decode ccDr_store 57 = .ok (.getfield 19, 3) := by decide +kernel
theorem dDr_store_60 : decode ccDr_store 60 = .ok (.iload_n 1, 1) := by decide +kernel
theorem dDr_store_61 : decode ccDr_store 61 = .ok (.iload 4, 2) := by decide +kernel
theorem dDr_store_63 : decode ccDr_store 63 = .ok (.bastore, 1) := by decide +kernel
theorem dDr_store_64 : decode ccDr_store 64 = .ok (.return_, 1) := by decide +kernel
def fDr_store_6  : Nat → SC → Int32 → Int64 → Bool → Int64 → Nat → SC
  | 0, z, a, v, b, v5, v7 => z
  | fu + 1, z, a, v, b, v5, v7 => (if 10 ≤ v7 then c_dmin_s (c_vals_s z (vp_updL (c_vals z) a.toNatClampNeg v)) (updB (c_dmin z) a.toNatClampNeg b) else fDr_store_6 fu (c_codes_s z (upd (c_codes z) (((a * 10) + (nI (v7))).toNatClampNeg) (fDr_codeOf ((v5 % 10).toInt32)))) a v b (v5 / 10) (v7 + 1))
def fDr_store (z0 : SC) (a : Int32) (v : Int64) (b : Bool) : SC :=
  fDr_store_6 11 z0 a v b v 0
set_option maxHeartbeats 4000000 in
set_option maxRecDepth 100000 in
theorem kDr_store (l : Launch) (D : va_G) (q : Nat → Nat) (cI cJ cZ : ClassId) (hq : c_inj q) (z0 : SC) (a : Int32) (v : Int64) (b : Bool) (ha : vp_in a 200) : Met l yDr_store wsDr_store { frames := 1, cells := 0, slots := 0, locals := 20 } (va_Pc [.ref (q 1), .int (a), .long (v), .int (bb (b))] (c_C D q cI cJ cZ z0)) (cQw none (c_W D q cI cJ cZ (fDr_store z0 a v b)) (c_qs q)) 0 0 (c_qs q) := by
  refine Met.ofW (cc := ccDr_store) (maxL := 8) (ret := none) (by decide +kernel) rfl ?_
  intro p e s m args below meth c s₁ B hml hv
  obtain ⟨rfl, hP, hK⟩ := hv
  have hx := B.exec
  have hb := B.bytes
  have hr := B.returns
  have hts := atoms_spec (ws := wsDr_store) B.pre
  have hown : s.vm.findClass RDr = some m.cls := findClass_of_methodNamed B.named
  have hlocks := B.notSynchronized
  have w0 := hts (.fieldLink RDr 15 "DrumMachine$Drum" "values" "[J") (List.mem_cons_of_mem _ wm1_41)
  have w1 := hts (.fieldLink RDr 19 "DrumMachine$Drum" "minus" "[Z") (List.mem_cons_of_mem _ wm1_42)
  have w2 := hts (.fieldLink RDr 11 "DrumMachine$Drum" "codes" "[I") (List.mem_cons_of_mem _ wm1_40)
  have w3 := hts (.constantLong RDr 37 (10)) (List.mem_cons_of_mem _ wm2_104)
  have i0 : ∀ w ∈ u_ws RDr TDr 3, w ∈ wsDr_store := fun w h => List.mem_cons_of_mem _ (inADr w h)
  have hS : va_S (c_qs q) s.heap s.heap [] := va_S.rf
  have hl := lv_entry ([.ref (q 1), .int (a), .long (v), .int (bb (b))]) (n := 8) (Nat.le_of_ble_eq_true rfl)
  rw [lg_entry_eq]
  generalize (lg_sl ([.ref (q 1), .int (a), .long (v), .int (bb (b))]) ++ List.replicate (8 - (lg_sl ([.ref (q 1), .int (a), .long (v), .int (bb (b))])).length) Slot.unset).toArray = ls at hl ⊢
  have hl : lv_has ls 8 [(0, .ref (q 1)), (1, .int (a)), (2, .long (v)), (4, .int (bb (b)))] := hl
  have hB6 : ∀ (n6 : Nat) (H : Heap) (locs : List Loc) (ls : Array Slot) (z : SC) (v5 : Int64) (v7 : Nat), 10 - v7 < n6 → fDr_store z0 a v b = fDr_store_6 n6 z a v b v5 v7 → (v7 ≤ 10) → c_W D q cI cJ cZ z H → va_S (c_qs q) s.heap H locs → lv_has ls 8 [(0, .ref (q 1)), (1, .int (a)), (2, .long (v)), (4, .int (bb (b))), (5, .long (v5)), (7, .int (nI (v7)))] → W p l e (headSpec wsDr_store { frames := 1, cells := 0, slots := 0, locals := 20 }).room s m ([.ref (q 1), .int (a), .long (v), .int (bb (b))] : List Value).toArray below meth c H locs 0 0 (MQ below (cQw none (c_W D q cI cJ cZ (fDr_store z0 a v b)) (c_qs q)) ([.ref (q 1), .int (a), .long (v), .int (bb (b))] : List Value).toArray s 0 0 (c_qs q)) (F0 m 6 ls []) := by
    intro n6
    induction n6 with
    | zero => intro H locs ls z v5 v7 hn6; exact absurd hn6 (Nat.not_lt_zero _)
    | succ n6 ih6 =>
      intro H locs ls z v5 v7 hn6 hR h7 hP hS hl
      rw [fDr_store_6.eq_2] at hR
      refine lv_iload hx hb dDr_store_6 (lv_at hl 5 rfl) ?_
      refine lv_bipush (v := 10) hx hb dDr_store_8 (by decide) ?_
      refine wn_ge (x := v7) (y := 10) hx hb (by omega) (by omega) dDr_store_10 rfl (fun h10 => ?_) (fun h10 => ?_)
      · have hR := hR.trans (if_pos h10)
        refine lv_aload_n hx hb dDr_store_49 rfl (lv_at hl 0 rfl) ?_
        refine cg1_values hx hb hts i0 hown hK hP w0 dDr_store_50 ?_
        refine lv_iload_n hx hb dDr_store_53 rfl (lv_at hl 1 rfl) ?_
        refine lv_lload_n hx hb dDr_store_54 rfl (lv_at hl 2 rfl) ?_
        refine cs_vals v hq hS hx hb hK hP ha dDr_store_55 (fun H locs hP hS => ?_)
        refine lv_aload_n hx hb dDr_store_56 rfl (lv_at hl 0 rfl) ?_
        refine cg1_minus hx hb hts i0 hown hK hP w1 dDr_store_57 ?_
        refine lv_iload_n hx hb dDr_store_60 rfl (lv_at hl 1 rfl) ?_
        refine lv_iload hx hb dDr_store_61 (lv_at hl 3 rfl) ?_
        refine cs_dmin_e b (f := c_dmin z) ((c_dmin_vals _ _).trans (rfl)) hq hS hx hb hK hP ha dDr_store_63 (fun H locs hP hS => ?_)
        exact W.vret hx hb hr (fun t ht _ => ⟨rfl, by rw [hR, ht]; exact hP, hS.F ht⟩) hS.2.2 dDr_store_64
      · have hR := hR.trans (if_neg h10)
        refine lv_aload_n hx hb dDr_store_13 rfl (lv_at hl 0 rfl) ?_
        refine cg1_codes hx hb hts i0 hown hK hP w2 dDr_store_14 ?_
        refine lv_iload_n hx hb dDr_store_17 rfl (lv_at hl 1 rfl) ?_
        refine lv_bipush (v := 10) hx hb dDr_store_18 (by decide) ?_
        refine lv_imul hx hb dDr_store_20 ?_
        refine lv_iload hx hb dDr_store_21 (lv_at hl 5 rfl) ?_
        refine lv_iadd hx hb dDr_store_23 ?_
        refine lv_lload hx hb dDr_store_24 (lv_at hl 4 rfl) ?_
        refine lv_ldc2 (v := 10) hx hb hown w3 dDr_store_26 ?_
        refine lm_lrem hx hb dDr_store_29 (by decide) ?_
        refine lv_l2i hx hb dDr_store_30 rfl ?_
        refine cl_rd (W.runS (As := [.int (((v5 % 10).toInt32))]) (rest := [.int ((a * 10) + (nI (v7))), .ref (q 7)]) ⟨hx, hb, hml, hown, hts⟩ (kDr_codeOf l ((v5 % 10).toInt32)) (va_cwS 1 hts (gS wm1_34 wm1_35 wm1_2 wm1_36) rfl rfl rfl (by decide +kernel) ⟨Nat.le_of_ble_eq_true rfl, Nat.le_of_ble_eq_true rfl⟩) (preT) rfl rfl hl.1 rfl (lv_room (Nat.le_of_ble_eq_true rfl)) dDr_store_31 ⟨Nat.le_refl _, Nat.le_refl _⟩) ?_
        refine cs_codes (fDr_codeOf ((v5 % 10).toInt32)) hq hS hx hb hK hP (in10 ha (vp_in_nI (by omega) (by decide))) dDr_store_34 (fun H locs hP hS => ?_)
        refine lv_lload hx hb dDr_store_35 (lv_at hl 4 rfl) ?_
        refine lv_ldc2 (v := 10) hx hb hown w3 dDr_store_37 ?_
        refine lv_ldiv hx hb dDr_store_40 (by decide) ?_
        refine lv_lstore (lv' := [(5, .long (v5 / 10)), (0, .ref (q 1)), (1, .int (a)), (2, .long (v)), (4, .int (bb (b))), (7, .int (nI (v7)))]) hx hb dDr_store_41 hl (by decide) rfl (fun ls hl => ?_)
        refine lv_iinc (k := 5) (lv' := [(7, .int (nI (v7 + 1))), (5, .long (v5 / 10)), (0, .ref (q 1)), (1, .int (a)), (2, .long (v)), (4, .int (bb (b)))]) hx hb dDr_store_43 hl rfl (nI_1 _) (by decide) rfl (fun ls hl => ?_)
        refine lv_goto hx hb dDr_store_46 rfl ?_
        exact ih6 H locs ls (c_codes_s z (upd (c_codes z) (((a * 10) + (nI (v7))).toNatClampNeg) (fDr_codeOf ((v5 % 10).toInt32)))) (v5 / 10) (v7 + 1) (by omega) hR (by first | assumption | omega) hP hS (lv_sub hl [2, 3, 4, 5, 1, 0] rfl)
  have hR := fDr_store.eq_1 z0 a v b
  refine lv_lload_n hx hb dDr_store_0 rfl (lv_at hl 2 rfl) ?_
  refine lv_lstore (lv' := [(5, .long (v)), (0, .ref (q 1)), (1, .int (a)), (2, .long (v)), (4, .int (bb (b)))]) hx hb dDr_store_1 hl (by decide) rfl (fun ls hl => ?_)
  refine lv_iconst (v := 0) hx hb dDr_store_3 (by decide) ?_
  refine lv_istore (lv' := [(7, .int (nI (0))), (5, .long (v)), (0, .ref (q 1)), (1, .int (a)), (2, .long (v)), (4, .int (bb (b)))]) hx hb dDr_store_4 hl (by decide) rfl (fun ls hl => ?_)
  exact hB6 11 s.heap [] ls z0 v 0 (by omega) hR (by first | assumption | omega) hP hS (lv_sub hl [2, 3, 4, 5, 1, 0] rfl)
theorem dDr_valueOfCodes_0 : decode ccDr_valueOfCodes 0 = .ok (.lconst 0, 1) := by decide +kernel
theorem dDr_valueOfCodes_1 : decode ccDr_valueOfCodes 1 = .ok (.lstore_n 2, 1) := by decide +kernel
theorem dDr_valueOfCodes_2 : decode ccDr_valueOfCodes 2 = .ok (.bipush 9, 2) := by decide +kernel
theorem dDr_valueOfCodes_4 : decode ccDr_valueOfCodes 4 = .ok (.istore 4, 2) := by decide +kernel
theorem dDr_valueOfCodes_6 : decode ccDr_valueOfCodes 6 = .ok (.iload 4, 2) := by decide +kernel
theorem dDr_valueOfCodes_8 : decode ccDr_valueOfCodes 8 = .ok (.ifCond .lt 45, 3) := by decide +kernel
theorem dDr_valueOfCodes_11 : decode ccDr_valueOfCodes 11 = .ok (.aload_n 0, 1) := by decide +kernel
theorem dDr_valueOfCodes_12 : decode ccDr_valueOfCodes 12 = .ok (.getfield 11, 3) := by decide +kernel
theorem dDr_valueOfCodes_15 : decode ccDr_valueOfCodes 15 = .ok (.iload_n 1, 1) := by decide +kernel
theorem dDr_valueOfCodes_16 : decode ccDr_valueOfCodes 16 = .ok (.bipush 10, 2) := by decide +kernel
theorem dDr_valueOfCodes_18 : decode ccDr_valueOfCodes 18 = .ok (.imul, 1) := by decide +kernel
theorem dDr_valueOfCodes_19 : decode ccDr_valueOfCodes 19 = .ok (.iload 4, 2) := by decide +kernel
theorem dDr_valueOfCodes_21 : decode ccDr_valueOfCodes 21 = .ok (.iadd, 1) := by decide +kernel
theorem dDr_valueOfCodes_22 : decode ccDr_valueOfCodes 22 = .ok (.iaload, 1) := by decide +kernel
theorem dDr_valueOfCodes_23 : decode ccDr_valueOfCodes 23 = .ok (.invokestatic 45, 3) := by decide +kernel
theorem dDr_valueOfCodes_26 : decode ccDr_valueOfCodes 26 = .ok (.istore 5, 2) := by decide +kernel
theorem dDr_valueOfCodes_28 : decode ccDr_valueOfCodes 28 = .ok (.iload 5, 2) := by decide +kernel
theorem dDr_valueOfCodes_30 : decode ccDr_valueOfCodes 30 = .ok (.ifCond .ge 7, 3) := by decide +kernel
theorem dDr_valueOfCodes_33 : decode ccDr_valueOfCodes 33 = .ok (.ldc2_w 43, 3) := by decide +kernel
theorem dDr_valueOfCodes_36 : decode ccDr_valueOfCodes 36 = .ok (.lreturn, 1) := by decide +kernel
theorem dDr_valueOfCodes_37 : decode ccDr_valueOfCodes 37 = .ok (.lload_n 2, 1) := by decide +kernel
theorem dDr_valueOfCodes_38 : decode ccDr_valueOfCodes 38 = .ok (.ldc2_w 37, 3) := by decide +kernel
theorem dDr_valueOfCodes_41 : decode ccDr_valueOfCodes 41 = .ok (.lmul, 1) := by decide +kernel
theorem dDr_valueOfCodes_42 : decode ccDr_valueOfCodes 42 = .ok (.iload 5, 2) := by decide +kernel
theorem dDr_valueOfCodes_44 : decode ccDr_valueOfCodes 44 = .ok (.i2l, 1) := by decide +kernel
theorem dDr_valueOfCodes_45 : decode ccDr_valueOfCodes 45 = .ok (.ladd, 1) := by decide +kernel
theorem dDr_valueOfCodes_46 : decode ccDr_valueOfCodes 46 = .ok (.lstore_n 2, 1) := by decide +kernel
theorem dDr_valueOfCodes_47 : decode ccDr_valueOfCodes 47 = .ok (.iinc 4 (-1), 3) := by decide +kernel
theorem dDr_valueOfCodes_50 : decode ccDr_valueOfCodes 50 = .ok (.goto (-44), 3) := by decide +kernel
theorem dDr_valueOfCodes_53 : decode ccDr_valueOfCodes 53 = .ok (.lload_n 2, 1) := by decide +kernel
theorem dDr_valueOfCodes_54 : decode ccDr_valueOfCodes 54 = .ok (.lreturn, 1) := by decide +kernel
def fDr_valueOfCodes_6  : Nat → SC → Int32 → Int64 → Int32 → Int64
  | 0, z0, a, v2, v4 => 0
  | fu + 1, z0, a, v2, v4 => (if v4 < 0 then v2 else (if 0 ≤ (fDr_digitOf (c_codes z0 (((a * 10) + v4).toNatClampNeg))) then fDr_valueOfCodes_6 fu z0 a ((v2 * 10) + ((fDr_digitOf (c_codes z0 (((a * 10) + v4).toNatClampNeg))).toInt64)) (v4 + (-1)) else (-1)))
def fDr_valueOfCodes (z0 : SC) (a : Int32) : Int64 :=
  fDr_valueOfCodes_6 11 z0 a 0 9
set_option maxHeartbeats 4000000 in
set_option maxRecDepth 100000 in
theorem kDr_valueOfCodes (l : Launch) (D : va_G) (q : Nat → Nat) (cI cJ cZ : ClassId) (hq : c_inj q) (z0 : SC) (a : Int32) (ha : vp_in a 200) : Met l yDr_valueOfCodes wsDr_valueOfCodes { frames := 2, cells := 0, slots := 0, locals := 41 } (va_Pc [.ref (q 1), .int (a)] (c_C D q cI cJ cZ z0)) (cQr (some (.long (fDr_valueOfCodes z0 a)))) 0 0 (fun _ => False) := by
  refine Met.ofW (cc := ccDr_valueOfCodes) (maxL := 6) (ret := (some .long)) (by decide +kernel) rfl ?_
  intro p e s m args below meth c s₁ B hml hv
  obtain ⟨rfl, hP, hK⟩ := hv
  have hx := B.exec
  have hb := B.bytes
  have hr := B.returns
  have hts := atoms_spec (ws := wsDr_valueOfCodes) B.pre
  have hown : s.vm.findClass RDr = some m.cls := findClass_of_methodNamed B.named
  have hlocks := B.notSynchronized
  have w0 := hts (.fieldLink RDr 11 "DrumMachine$Drum" "codes" "[I") (List.mem_cons_of_mem _ wm1_40)
  have w1 := hts (.constantLong RDr 37 (10)) (List.mem_cons_of_mem _ wm2_104)
  have w2 := hts (.constantLong RDr 43 (-1)) (List.mem_cons_of_mem _ wm2_128)
  have i0 : ∀ w ∈ u_ws RDr TDr 3, w ∈ wsDr_valueOfCodes := fun w h => List.mem_cons_of_mem _ (inADr w h)
  have hl := lv_entry ([.ref (q 1), .int (a)]) (n := 6) (Nat.le_of_ble_eq_true rfl)
  rw [lg_entry_eq]
  generalize (lg_sl ([.ref (q 1), .int (a)]) ++ List.replicate (6 - (lg_sl ([.ref (q 1), .int (a)])).length) Slot.unset).toArray = ls at hl ⊢
  have hl : lv_has ls 6 [(0, .ref (q 1)), (1, .int (a))] := hl
  have hB6 : ∀ (n6 : Nat) (ls : Array Slot) (v2 : Int64) (v4 : Int32), (v4.toInt + 1).toNat < n6 → fDr_valueOfCodes z0 a = fDr_valueOfCodes_6 n6 z0 a v2 v4 → (-1 ≤ v4.toInt ∧ v4.toInt ≤ 9) → lv_has ls 6 [(0, .ref (q 1)), (1, .int (a)), (2, .long (v2)), (4, .int (v4))] → W p l e (headSpec wsDr_valueOfCodes { frames := 2, cells := 0, slots := 0, locals := 41 }).room s m ([.ref (q 1), .int (a)] : List Value).toArray below meth c s.heap [] 0 0 (MQ below (cQr (some (.long (fDr_valueOfCodes z0 a)))) ([.ref (q 1), .int (a)] : List Value).toArray s 0 0 (fun _ => False)) (F0 m 6 ls []) := by
    intro n6
    induction n6 with
    | zero => intro ls v2 v4 hn6; exact absurd hn6 (Nat.not_lt_zero _)
    | succ n6 ih6 =>
      intro ls v2 v4 hn6 hR h4 hl
      rw [fDr_valueOfCodes_6.eq_2] at hR
      refine lv_iload hx hb dDr_valueOfCodes_6 (lv_at hl 3 rfl) ?_
      refine lv_if_lt hx hb dDr_valueOfCodes_8 rfl (fun h8 => ?_) (fun h8 => ?_)
      · have hR := hR.trans (if_pos h8)
        refine lv_lload_n hx hb dDr_valueOfCodes_53 rfl (lv_at hl 2 rfl) ?_
        exact W.lret hx hb hr (fun t ht _ => ⟨by rw [hR]; first | done | rfl, ht⟩) (fun _ h => absurd h List.not_mem_nil) dDr_valueOfCodes_54
      · have hR := hR.trans (if_neg h8)
        refine lv_aload_n hx hb dDr_valueOfCodes_11 rfl (lv_at hl 0 rfl) ?_
        refine cg1_codes hx hb hts i0 hown hK hP w0 dDr_valueOfCodes_12 ?_
        refine lv_iload_n hx hb dDr_valueOfCodes_15 rfl (lv_at hl 1 rfl) ?_
        refine lv_bipush (v := 10) hx hb dDr_valueOfCodes_16 (by decide) ?_
        refine lv_imul hx hb dDr_valueOfCodes_18 ?_
        refine lv_iload hx hb dDr_valueOfCodes_19 (lv_at hl 3 rfl) ?_
        refine lv_iadd hx hb dDr_valueOfCodes_21 ?_
        refine cl_codes hx hb hK hP (in10 ha (vp_in_iff.mpr ⟨i_nn h8, by omega⟩)) dDr_valueOfCodes_22 ?_
        refine cl_rd (W.runS (As := [.int ((c_codes z0 (((a * 10) + v4).toNatClampNeg)))]) (rest := []) ⟨hx, hb, hml, hown, hts⟩ (kDr_digitOf l (c_codes z0 (((a * 10) + v4).toNatClampNeg))) (va_cwS 1 hts (gS wm2_125 wm2_126 wm1_2 wm2_127) rfl rfl rfl (by decide +kernel) ⟨Nat.le_of_ble_eq_true rfl, Nat.le_of_ble_eq_true rfl⟩) (preT) rfl rfl hl.1 rfl (lv_room (Nat.le_of_ble_eq_true rfl)) dDr_valueOfCodes_23 ⟨Nat.le_refl _, Nat.le_refl _⟩) ?_
        refine lv_istore (lv' := [(5, .int (fDr_digitOf (c_codes z0 (((a * 10) + v4).toNatClampNeg)))), (0, .ref (q 1)), (1, .int (a)), (2, .long (v2)), (4, .int (v4))]) hx hb dDr_valueOfCodes_26 hl (by decide) rfl (fun ls hl => ?_)
        refine lv_iload hx hb dDr_valueOfCodes_28 (lv_at hl 0 rfl) ?_
        refine lv_if_ge hx hb dDr_valueOfCodes_30 rfl (fun h30 => ?_) (fun h30 => ?_)
        · have hR := hR.trans (if_pos h30)
          refine lv_lload_n hx hb dDr_valueOfCodes_37 rfl (lv_at hl 3 rfl) ?_
          refine lv_ldc2 (v := 10) hx hb hown w1 dDr_valueOfCodes_38 ?_
          refine lv_lmul hx hb dDr_valueOfCodes_41 ?_
          refine lv_iload hx hb dDr_valueOfCodes_42 (lv_at hl 0 rfl) ?_
          refine lv_i2l hx hb dDr_valueOfCodes_44 rfl ?_
          refine lv_ladd hx hb dDr_valueOfCodes_45 ?_
          refine lv_lstore_n (lv' := [(2, .long ((v2 * 10) + ((fDr_digitOf (c_codes z0 (((a * 10) + v4).toNatClampNeg))).toInt64))), (5, .int (fDr_digitOf (c_codes z0 (((a * 10) + v4).toNatClampNeg)))), (0, .ref (q 1)), (1, .int (a)), (4, .int (v4))]) hx hb dDr_valueOfCodes_46 rfl hl (by decide) rfl (fun ls hl => ?_)
          refine lv_iinc (k := 4) (lv' := [(4, .int (v4 + (-1))), (2, .long ((v2 * 10) + ((fDr_digitOf (c_codes z0 (((a * 10) + v4).toNatClampNeg))).toInt64))), (5, .int (fDr_digitOf (c_codes z0 (((a * 10) + v4).toNatClampNeg)))), (0, .ref (q 1)), (1, .int (a))]) hx hb dDr_valueOfCodes_47 hl rfl rfl (by decide) rfl (fun ls hl => ?_)
          refine lv_goto hx hb dDr_valueOfCodes_50 rfl ?_
          exact ih6 ls ((v2 * 10) + ((fDr_digitOf (c_codes z0 (((a * 10) + v4).toNatClampNeg))).toInt64)) (v4 + (-1)) (dec_m h8 h4 hn6) hR (dec_b h8 h4) (lv_sub hl [3, 4, 1, 0] rfl)
        · have hR := hR.trans (if_neg h30)
          refine lv_ldc2 (v := (-1)) hx hb hown w2 dDr_valueOfCodes_33 ?_
          exact W.lret hx hb hr (fun t ht _ => ⟨by rw [hR]; first | done | rfl, ht⟩) (fun _ h => absurd h List.not_mem_nil) dDr_valueOfCodes_36
  have hR := fDr_valueOfCodes.eq_1 z0 a
  refine lv_lconst (v := 0) hx hb dDr_valueOfCodes_0 (by decide) ?_
  refine lv_lstore_n (lv' := [(2, .long (0)), (0, .ref (q 1)), (1, .int (a))]) hx hb dDr_valueOfCodes_1 rfl hl (by decide) rfl (fun ls hl => ?_)
  refine lv_bipush (v := 9) hx hb dDr_valueOfCodes_2 (by decide) ?_
  refine lv_istore (lv' := [(4, .int (9)), (2, .long (0)), (0, .ref (q 1)), (1, .int (a))]) hx hb dDr_valueOfCodes_4 hl (by decide) rfl (fun ls hl => ?_)
  exact hB6 11 ls 0 9 (by decide) hR (by decide) (lv_sub hl [2, 3, 1, 0] rfl)
theorem dDr_turnBitOver_0 : decode ccDr_turnBitOver 0 = .ok (.aload_n 0, 1) := by decide +kernel
theorem dDr_turnBitOver_1 : decode ccDr_turnBitOver 1 = .ok (.getfield 11, 3) := by decide +kernel
theorem dDr_turnBitOver_4 : decode ccDr_turnBitOver 4 = .ok (.iload_n 1, 1) := by decide +kernel
theorem dDr_turnBitOver_5 : decode ccDr_turnBitOver 5 = .ok (.bipush 10, 2) := by decide +kernel
theorem dDr_turnBitOver_7 : decode ccDr_turnBitOver 7 = .ok (.imul, 1) := by decide +kernel
theorem dDr_turnBitOver_8 : decode ccDr_turnBitOver 8 = .ok (.iload_n 2, 1) := by decide +kernel
theorem dDr_turnBitOver_9 : decode ccDr_turnBitOver 9 = .ok (.iadd, 1) := by decide +kernel
theorem dDr_turnBitOver_10 : decode ccDr_turnBitOver 10 = .ok (.dup2, 1) := by decide +kernel
theorem dDr_turnBitOver_11 : decode ccDr_turnBitOver 11 = .ok (.iaload, 1) := by decide +kernel
theorem dDr_turnBitOver_12 : decode ccDr_turnBitOver 12 = .ok (.iconst 1, 1) := by decide +kernel
theorem dDr_turnBitOver_13 : decode ccDr_turnBitOver 13 = .ok (.iload_n 3, 1) := by decide +kernel
theorem dDr_turnBitOver_14 : decode ccDr_turnBitOver 14 = .ok (.ishl, 1) := by decide +kernel
theorem dDr_turnBitOver_15 : decode ccDr_turnBitOver 15 = .ok (.ixor, 1) := by decide +kernel
theorem dDr_turnBitOver_16 : decode ccDr_turnBitOver 16 = .ok (.iastore, 1) := by decide +kernel
theorem dDr_turnBitOver_17 : decode ccDr_turnBitOver 17 = .ok (.aload_n 0, 1) := by decide +kernel
theorem dDr_turnBitOver_18 : decode ccDr_turnBitOver 18 = .ok (.getfield 15, 3) := by decide +kernel
theorem dDr_turnBitOver_21 : decode ccDr_turnBitOver 21 = .ok (.iload_n 1, 1) := by decide +kernel
theorem dDr_turnBitOver_22 : decode ccDr_turnBitOver 22 = .ok (.aload_n 0, 1) := by decide +kernel
theorem dDr_turnBitOver_23 : decode ccDr_turnBitOver 23 = .ok (.iload_n 1, 1) := by decide +kernel
theorem dDr_turnBitOver_24 : decode ccDr_turnBitOver 24 = .ok (.invokevirtual 39, 3) := by decide +kernel
theorem dDr_turnBitOver_27 : decode ccDr_turnBitOver 27 = .ok (.lastore, 1) := by decide +kernel
theorem dDr_turnBitOver_28 : decode ccDr_turnBitOver 28 = .ok (.return_, 1) := by decide +kernel
def fDr_turnBitOver (z0 : SC) (a : Int32) (d : Int32) (b : Int32) : SC :=
  c_vals_s (c_codes_s z0 (upd (c_codes z0) (((a * 10) + d).toNatClampNeg) ((c_codes z0 (((a * 10) + d).toNatClampNeg)) ^^^ ((1 : Int32) <<< (b &&& 31))))) (vp_updL (c_vals z0) a.toNatClampNeg (fDr_valueOfCodes (c_codes_s z0 (upd (c_codes z0) (((a * 10) + d).toNatClampNeg) ((c_codes z0 (((a * 10) + d).toNatClampNeg)) ^^^ ((1 : Int32) <<< (b &&& 31))))) a))
set_option maxHeartbeats 4000000 in
set_option maxRecDepth 100000 in
theorem kDr_turnBitOver (l : Launch) (D : va_G) (q : Nat → Nat) (cI cJ cZ : ClassId) (hq : c_inj q) (z0 : SC) (a : Int32) (d : Int32) (b : Int32) (ha : vp_in a 200) (hd : vp_in d 10) : Met l yDr_turnBitOver wsDr_turnBitOver { frames := 3, cells := 0, slots := 0, locals := 66 } (va_Pc [.ref (q 1), .int (a), .int (d), .int (b)] (c_C D q cI cJ cZ z0)) (cQw none (c_W D q cI cJ cZ (fDr_turnBitOver z0 a d b)) (c_qs q)) 0 0 (c_qs q) := by
  refine Met.ofW (cc := ccDr_turnBitOver) (maxL := 4) (ret := none) (by decide +kernel) rfl ?_
  intro p e s m args below meth c s₁ B hml hv
  obtain ⟨rfl, hP, hK⟩ := hv
  have hx := B.exec
  have hb := B.bytes
  have hr := B.returns
  have hts := atoms_spec (ws := wsDr_turnBitOver) B.pre
  have hown : s.vm.findClass RDr = some m.cls := findClass_of_methodNamed B.named
  have hlocks := B.notSynchronized
  have w0 := hts (.fieldLink RDr 11 "DrumMachine$Drum" "codes" "[I") (List.mem_cons_of_mem _ wm1_40)
  have w1 := hts (.fieldLink RDr 15 "DrumMachine$Drum" "values" "[J") (List.mem_cons_of_mem _ wm1_41)
  have i0 : ∀ w ∈ u_ws RDr TDr 3, w ∈ wsDr_turnBitOver := fun w h => List.mem_cons_of_mem _ (inADr w h)
  have hS : va_S (c_qs q) s.heap s.heap [] := va_S.rf
  have hl := lv_entry ([.ref (q 1), .int (a), .int (d), .int (b)]) (n := 4) (Nat.le_of_ble_eq_true rfl)
  rw [lg_entry_eq]
  generalize (lg_sl ([.ref (q 1), .int (a), .int (d), .int (b)]) ++ List.replicate (4 - (lg_sl ([.ref (q 1), .int (a), .int (d), .int (b)])).length) Slot.unset).toArray = ls at hl ⊢
  have hl : lv_has ls 4 [(0, .ref (q 1)), (1, .int (a)), (2, .int (d)), (3, .int (b))] := hl
  have hR := fDr_turnBitOver.eq_1 z0 a d b
  refine lv_aload_n hx hb dDr_turnBitOver_0 rfl (lv_at hl 0 rfl) ?_
  refine cg1_codes hx hb hts i0 hown hK hP w0 dDr_turnBitOver_1 ?_
  refine lv_iload_n hx hb dDr_turnBitOver_4 rfl (lv_at hl 1 rfl) ?_
  refine lv_bipush (v := 10) hx hb dDr_turnBitOver_5 (by decide) ?_
  refine lv_imul hx hb dDr_turnBitOver_7 ?_
  refine lv_iload_n hx hb dDr_turnBitOver_8 rfl (lv_at hl 2 rfl) ?_
  refine lv_iadd hx hb dDr_turnBitOver_9 ?_
  refine lv_dup2_11 hx hb dDr_turnBitOver_10 rfl rfl ?_
  refine cl_codes hx hb hK hP (in10 ha hd) dDr_turnBitOver_11 ?_
  refine lv_iconst (v := 1) hx hb dDr_turnBitOver_12 (by decide) ?_
  refine lv_iload_n hx hb dDr_turnBitOver_13 rfl (lv_at hl 3 rfl) ?_
  refine lv_ishl hx hb dDr_turnBitOver_14 ?_
  refine lv_ixor hx hb dDr_turnBitOver_15 ?_
  refine cs_codes ((c_codes z0 (((a * 10) + d).toNatClampNeg)) ^^^ ((1 : Int32) <<< (b &&& 31))) hq hS hx hb hK hP (in10 ha hd) dDr_turnBitOver_16 (fun H locs hP hS => ?_)
  refine lv_aload_n hx hb dDr_turnBitOver_17 rfl (lv_at hl 0 rfl) ?_
  refine cg1_values hx hb hts i0 hown hK hP w1 dDr_turnBitOver_18 ?_
  refine lv_iload_n hx hb dDr_turnBitOver_21 rfl (lv_at hl 1 rfl) ?_
  refine lv_aload_n hx hb dDr_turnBitOver_22 rfl (lv_at hl 0 rfl) ?_
  refine lv_iload_n hx hb dDr_turnBitOver_23 rfl (lv_at hl 1 rfl) ?_
  refine cl_rd (W.runV (As := [.int (a)]) (rest := [.int (a), .ref (q 8)]) ⟨hx, hb, hml, hown, hts⟩ (kDr_valueOfCodes l D q cI cJ cZ hq (c_codes_s z0 (upd (c_codes z0) (((a * 10) + d).toNatClampNeg) ((c_codes z0 (((a * 10) + d).toNatClampNeg)) ^^^ ((1 : Int32) <<< (b &&& 31))))) a ha) (cwV 1 hts (gV wm2_121 wm2_123 ws1_2 wm1_2 wm2_124) rfl rfl rfl (by decide +kernel) ⟨Nat.le_of_ble_eq_true rfl, Nat.le_of_ble_eq_true rfl⟩) (c_preV1 hK hP) rfl rfl hl.1 rfl (lv_room (Nat.le_of_ble_eq_true rfl)) dDr_turnBitOver_24 ⟨Nat.le_refl _, Nat.le_refl _⟩) ?_
  refine cs_vals_e (fDr_valueOfCodes (c_codes_s z0 (upd (c_codes z0) (((a * 10) + d).toNatClampNeg) ((c_codes z0 (((a * 10) + d).toNatClampNeg)) ^^^ ((1 : Int32) <<< (b &&& 31))))) a) (f := c_vals z0) ((c_vals_codes _ _).trans (rfl)) hq hS hx hb hK hP ha dDr_turnBitOver_27 (fun H locs hP hS => ?_)
  exact W.vret hx hb hr (fun t ht _ => ⟨rfl, by rw [hR, ht]; exact hP, hS.F ht⟩) hS.2.2 dDr_turnBitOver_28
theorem dDr_isValid_0 : decode ccDr_isValid 0 = .ok (.aload_n 0, 1) := by decide +kernel
theorem dDr_isValid_1 : decode ccDr_isValid 1 = .ok (.getfield 15, 3) := by decide +kernel
theorem dDr_isValid_4 : decode ccDr_isValid 4 = .ok (.iload_n 1, 1) := by decide +kernel
theorem dDr_isValid_5 : decode ccDr_isValid 5 = .ok (.laload, 1) := by decide +kernel
theorem dDr_isValid_6 : decode ccDr_isValid 6 = .ok (.ldc2_w 43, 3) := by decide +kernel
theorem dDr_isValid_9 : decode ccDr_isValid 9 = .ok (.lcmp, 1) := by decide +kernel
theorem dDr_isValid_10 : decode ccDr_isValid 10 = .ok (.ifCond .eq 7, 3) := by decide +kernel
theorem dDr_isValid_13 : decode ccDr_isValid 13 = .ok (.iconst 1, 1) := by decide +kernel
theorem dDr_isValid_14 : decode ccDr_isValid 14 = .ok (.goto 4, 3) := by decide +kernel
theorem dDr_isValid_17 : decode ccDr_isValid 17 = .ok (.iconst 0, 1) := by decide +kernel
theorem dDr_isValid_18 : decode ccDr_isValid 18 = .ok (.ireturn, 1) := by decide +kernel
def fDr_isValid (z0 : SC) (a : Int32) : Bool :=
  (if (c_vals z0 a.toNatClampNeg) = ((-1)) then false else true)
set_option maxHeartbeats 4000000 in
set_option maxRecDepth 100000 in
theorem kDr_isValid (l : Launch) (D : va_G) (q : Nat → Nat) (cI cJ cZ : ClassId) (hq : c_inj q) (z0 : SC) (a : Int32) (ha : vp_in a 200) : Met l yDr_isValid wsDr_isValid { frames := 0, cells := 0, slots := 0, locals := 0 } (va_Pc [.ref (q 1), .int (a)] (c_C D q cI cJ cZ z0)) (cQr (some (.int (bb (fDr_isValid z0 a))))) 0 0 (fun _ => False) := by
  refine Met.ofW (cc := ccDr_isValid) (maxL := 2) (ret := (some .boolean)) (by decide +kernel) rfl ?_
  intro p e s m args below meth c s₁ B hml hv
  obtain ⟨rfl, hP, hK⟩ := hv
  have hx := B.exec
  have hb := B.bytes
  have hr := B.returns
  have hts := atoms_spec (ws := wsDr_isValid) B.pre
  have hown : s.vm.findClass RDr = some m.cls := findClass_of_methodNamed B.named
  have hlocks := B.notSynchronized
  have w0 := hts (.fieldLink RDr 15 "DrumMachine$Drum" "values" "[J") (List.mem_cons_of_mem _ wm1_41)
  have w1 := hts (.constantLong RDr 43 (-1)) (List.mem_cons_of_mem _ wm2_128)
  have i0 : ∀ w ∈ u_ws RDr TDr 3, w ∈ wsDr_isValid := fun w h => List.mem_cons_of_mem _ (inADr w h)
  have hl := lv_entry ([.ref (q 1), .int (a)]) (n := 2) (Nat.le_of_ble_eq_true rfl)
  rw [lg_entry_eq]
  generalize (lg_sl ([.ref (q 1), .int (a)]) ++ List.replicate (2 - (lg_sl ([.ref (q 1), .int (a)])).length) Slot.unset).toArray = ls at hl ⊢
  have hl : lv_has ls 2 [(0, .ref (q 1)), (1, .int (a))] := hl
  have hR := fDr_isValid.eq_1 z0 a
  refine lv_aload_n hx hb dDr_isValid_0 rfl (lv_at hl 0 rfl) ?_
  refine cg1_values hx hb hts i0 hown hK hP w0 dDr_isValid_1 ?_
  refine lv_iload_n hx hb dDr_isValid_4 rfl (lv_at hl 1 rfl) ?_
  refine cl_vals hx hb hK hP ha dDr_isValid_5 ?_
  refine lv_ldc2 (v := (-1)) hx hb hown w1 dDr_isValid_6 ?_
  refine lc_eq hx hb dDr_isValid_9 dDr_isValid_10 rfl (fun h9 => ?_) (fun h9 => ?_)
  · have hR := hR.trans (if_pos h9)
    refine lv_iconst (v := 0) hx hb dDr_isValid_17 (by decide) ?_
    exact W.zret hx hb hr rfl (fun t ht _ => ⟨by rw [hR]; first | done | rfl, ht⟩) (fun _ h => absurd h List.not_mem_nil) dDr_isValid_18
  · have hR := hR.trans (if_neg h9)
    refine lv_iconst (v := 1) hx hb dDr_isValid_13 (by decide) ?_
    refine lv_goto hx hb dDr_isValid_14 rfl ?_
    exact W.zret hx hb hr rfl (fun t ht _ => ⟨by rw [hR]; first | done | rfl, ht⟩) (fun _ h => absurd h List.not_mem_nil) dDr_isValid_18
theorem dDr_valueAt_0 : decode ccDr_valueAt 0 = .ok (.aload_n 0, 1) := by decide +kernel
theorem dDr_valueAt_1 : decode ccDr_valueAt 1 = .ok (.getfield 15, 3) := by decide +kernel
theorem dDr_valueAt_4 : decode ccDr_valueAt 4 = .ok (.iload_n 1, 1) := by decide +kernel
theorem dDr_valueAt_5 : decode ccDr_valueAt 5 = .ok (.laload, 1) := by decide +kernel
theorem dDr_valueAt_6 : decode ccDr_valueAt 6 = .ok (.lreturn, 1) := by decide +kernel
def fDr_valueAt (z0 : SC) (a : Int32) : Int64 :=
  c_vals z0 a.toNatClampNeg
set_option maxHeartbeats 4000000 in
set_option maxRecDepth 100000 in
theorem kDr_valueAt (l : Launch) (D : va_G) (q : Nat → Nat) (cI cJ cZ : ClassId) (hq : c_inj q) (z0 : SC) (a : Int32) (ha : vp_in a 200) : Met l yDr_valueAt wsDr_valueAt { frames := 0, cells := 0, slots := 0, locals := 0 } (va_Pc [.ref (q 1), .int (a)] (c_C D q cI cJ cZ z0)) (cQr (some (.long (fDr_valueAt z0 a)))) 0 0 (fun _ => False) := by
  refine Met.ofW (cc := ccDr_valueAt) (maxL := 2) (ret := (some .long)) (by decide +kernel) rfl ?_
  intro p e s m args below meth c s₁ B hml hv
  obtain ⟨rfl, hP, hK⟩ := hv
  have hx := B.exec
  have hb := B.bytes
  have hr := B.returns
  have hts := atoms_spec (ws := wsDr_valueAt) B.pre
  have hown : s.vm.findClass RDr = some m.cls := findClass_of_methodNamed B.named
  have hlocks := B.notSynchronized
  have w0 := hts (.fieldLink RDr 15 "DrumMachine$Drum" "values" "[J") (List.mem_cons_of_mem _ wm1_41)
  have i0 : ∀ w ∈ u_ws RDr TDr 3, w ∈ wsDr_valueAt := fun w h => List.mem_cons_of_mem _ (inADr w h)
  have hl := lv_entry ([.ref (q 1), .int (a)]) (n := 2) (Nat.le_of_ble_eq_true rfl)
  rw [lg_entry_eq]
  generalize (lg_sl ([.ref (q 1), .int (a)]) ++ List.replicate (2 - (lg_sl ([.ref (q 1), .int (a)])).length) Slot.unset).toArray = ls at hl ⊢
  have hl : lv_has ls 2 [(0, .ref (q 1)), (1, .int (a))] := hl
  have hR := fDr_valueAt.eq_1 z0 a
  refine lv_aload_n hx hb dDr_valueAt_0 rfl (lv_at hl 0 rfl) ?_
  refine cg1_values hx hb hts i0 hown hK hP w0 dDr_valueAt_1 ?_
  refine lv_iload_n hx hb dDr_valueAt_4 rfl (lv_at hl 1 rfl) ?_
  refine cl_vals hx hb hK hP ha dDr_valueAt_5 ?_
  exact W.lret hx hb hr (fun t ht _ => ⟨by rw [hR]; first | done | rfl, ht⟩) (fun _ h => absurd h List.not_mem_nil) dDr_valueAt_6
theorem dDr_isMinus_0 : decode ccDr_isMinus 0 = .ok (.aload_n 0, 1) := by decide +kernel
theorem dDr_isMinus_1 : decode ccDr_isMinus 1 = .ok (.getfield 19, 3) := by decide +kernel
theorem dDr_isMinus_4 : decode ccDr_isMinus 4 = .ok (.iload_n 1, 1) := by decide +kernel
theorem dDr_isMinus_5 : decode ccDr_isMinus 5 = .ok (.baload, 1) := by decide +kernel
theorem dDr_isMinus_6 : decode ccDr_isMinus 6 = .ok (.ireturn, 1) := by decide +kernel
def fDr_isMinus (z0 : SC) (a : Int32) : Bool :=
  c_dmin z0 a.toNatClampNeg
set_option maxHeartbeats 4000000 in
set_option maxRecDepth 100000 in
theorem kDr_isMinus (l : Launch) (D : va_G) (q : Nat → Nat) (cI cJ cZ : ClassId) (hq : c_inj q) (z0 : SC) (a : Int32) (ha : vp_in a 200) : Met l yDr_isMinus wsDr_isMinus { frames := 0, cells := 0, slots := 0, locals := 0 } (va_Pc [.ref (q 1), .int (a)] (c_C D q cI cJ cZ z0)) (cQr (some (.int (bb (fDr_isMinus z0 a))))) 0 0 (fun _ => False) := by
  refine Met.ofW (cc := ccDr_isMinus) (maxL := 2) (ret := (some .boolean)) (by decide +kernel) rfl ?_
  intro p e s m args below meth c s₁ B hml hv
  obtain ⟨rfl, hP, hK⟩ := hv
  have hx := B.exec
  have hb := B.bytes
  have hr := B.returns
  have hts := atoms_spec (ws := wsDr_isMinus) B.pre
  have hown : s.vm.findClass RDr = some m.cls := findClass_of_methodNamed B.named
  have hlocks := B.notSynchronized
  have w0 := hts (.fieldLink RDr 19 "DrumMachine$Drum" "minus" "[Z") (List.mem_cons_of_mem _ wm1_42)
  have i0 : ∀ w ∈ u_ws RDr TDr 3, w ∈ wsDr_isMinus := fun w h => List.mem_cons_of_mem _ (inADr w h)
  have hl := lv_entry ([.ref (q 1), .int (a)]) (n := 2) (Nat.le_of_ble_eq_true rfl)
  rw [lg_entry_eq]
  generalize (lg_sl ([.ref (q 1), .int (a)]) ++ List.replicate (2 - (lg_sl ([.ref (q 1), .int (a)])).length) Slot.unset).toArray = ls at hl ⊢
  have hl : lv_has ls 2 [(0, .ref (q 1)), (1, .int (a))] := hl
  have hR := fDr_isMinus.eq_1 z0 a
  refine lv_aload_n hx hb dDr_isMinus_0 rfl (lv_at hl 0 rfl) ?_
  refine cg1_minus hx hb hts i0 hown hK hP w0 dDr_isMinus_1 ?_
  refine lv_iload_n hx hb dDr_isMinus_4 rfl (lv_at hl 1 rfl) ?_
  refine cl_dmin hx hb hK hP ha dDr_isMinus_5 ?_
  exact W.zret hx hb hr (nz_b _) (fun t ht _ => ⟨by rw [hR]; first | done | rfl, ht⟩) (fun _ h => absurd h List.not_mem_nil) dDr_isMinus_6
