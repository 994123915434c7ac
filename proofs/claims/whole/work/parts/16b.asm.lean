theorem pl_0 : pl 0 := by
  have e : (0 : Int32).toInt = 0 := by decide
  unfold pl
  omega
theorem ff18_pl (z : SC) (a : Int32) (k : SC → Int32 → Nat → Int32) (hk : ∀ v, pl (k z a v)) : ∀ (n v2 : Nat) (v4 : Int32), (0 ≤ v4.toInt ∧ v4.toInt ≤ 249) → pl (fAs_firstFreeFromAngle_18 k n z a v2 v4) := by
  intro n
  induction n with
  | zero => intro v2 v4 _; exact pl_0
  | succ n ih =>
    intro v2 v4 h4
    rw [fAs_firstFreeFromAngle_18.eq_2]
    by_cases h : (200 : Int32) ≤ v4
    · rw [if_pos h]; exact hk _
    · rw [if_neg h]
      by_cases h1 : c_taken z v4.toNatClampNeg = true
      · rw [if_pos h1]; exact ih _ _ (ff_s h4 h)
      · rw [if_neg h1]; exact pl_of (ff_in h4 h)
theorem ff2_pl (z : SC) (a : Int32) (ha : 0 ≤ a.toInt ∧ a.toInt ≤ 10000) : ∀ (n v2 : Nat), pl (fAs_firstFreeFromAngle_2 n z a v2) := by
  intro n
  induction n with
  | zero => intro v2; exact pl_0
  | succ n ih =>
    intro v2
    rw [fAs_firstFreeFromAngle_2.eq_2]
    by_cases h : 50 ≤ v2
    · rw [if_pos h]; exact pl_m1
    · rw [if_neg h]; exact ff18_pl z a _ ih _ _ _ (ff_b ha (by omega))
theorem ff_pl {z : SC} {a : Int32} (ha : 0 ≤ a.toInt ∧ a.toInt ≤ 10000) : pl (fAs_firstFreeFromAngle z a) := ff2_pl z a ha _ _
theorem lf2_pl (z : SC) : ∀ (n v1 : Nat), pl (fAs_leastFree_2 n z v1) := by
  intro n
  induction n with
  | zero => intro v1; exact pl_0
  | succ n ih =>
    intro v1
    rw [fAs_leastFree_2.eq_2]
    by_cases h : 200 ≤ v1
    · rw [if_pos h]; exact pl_m1
    · rw [if_neg h]
      by_cases h1 : c_taken z ((nI v1).toNatClampNeg) = true
      · rw [if_pos h1]; exact ih _
      · rw [if_neg h1]; exact pl_of (vp_in_nI (by omega) (by decide))
theorem lf_pl {z : SC} : pl (fAs_leastFree z) := lf2_pl z _ _
theorem dAs_newPlace_0 : decode ccAs_newPlace 0 = .ok (.iload_n 2, 1) := by decide +kernel
theorem dAs_newPlace_1 : decode ccAs_newPlace 1 = .ok (.ifCond .eq 11, 3) := by decide +kernel
theorem dAs_newPlace_4 : decode ccAs_newPlace 4 = .ok (.aload_n 0, 1) := by decide +kernel
theorem dAs_newPlace_5 : decode ccAs_newPlace 5 = .ok (.iload_n 1, 1) := by decide +kernel
theorem dAs_newPlace_6 : decode ccAs_newPlace 6 = .ok (.invokevirtual 123, 3) := by decide +kernel
theorem dAs_newPlace_9 : decode ccAs_newPlace 9 = .ok (.goto 7, 3) := by decide +kernel
theorem dAs_newPlace_12 : decode ccAs_newPlace 12 = .ok (.aload_n 0, 1) := by decide +kernel
theorem dAs_newPlace_13 : decode ccAs_newPlace 13 = .ok (.invokevirtual 126, 3) := by decide +kernel
theorem dAs_newPlace_16 : decode ccAs_newPlace 16 = .ok (.istore_n 3, 1) := by decide +kernel
theorem dAs_newPlace_17 : decode ccAs_newPlace 17 = .ok (.iload_n 3, 1) := by decide +kernel
theorem dAs_newPlace_18 : decode ccAs_newPlace 18 = .ok (.iconst (-1), 1) := by decide +kernel
theorem dAs_newPlace_19 : decode ccAs_newPlace 19 = .ok (.if_icmp .eq 10, 3) := by decide +kernel
theorem dAs_newPlace_22 : decode ccAs_newPlace 22 = .ok (.aload_n 0, 1) := by decide +kernel
theorem dAs_newPlace_23 : decode ccAs_newPlace 23 = .ok (.getfield 40, 3) := by decide +kernel
theorem dAs_newPlace_26 : decode ccAs_newPlace 26 = .ok (.iload_n 3, 1) := by decide +kernel
theorem dAs_newPlace_27 : decode ccAs_newPlace 27 = .ok (.iconst 1, 1) := by decide +kernel
theorem dAs_newPlace_28 : decode ccAs_newPlace 28 = .ok (.bastore, 1) := by decide +kernel
theorem dAs_newPlace_29 : decode ccAs_newPlace 29 = .ok (.iload_n 3, 1) := by decide +kernel
theorem dAs_newPlace_30 : decode ccAs_newPlace 30 = .ok (.ireturn, 1) := by decide +kernel
def fAs_newPlace_16  (z : SC) (s0 : Int32) : Int32 × SC :=
  (if s0 = ((-1) : Int32) then (s0, z) else (s0, c_taken_s z (updB (c_taken z) s0.toNatClampNeg true)))
def fAs_newPlace (z0 : SC) (a : Int32) (b : Bool) : Int32 × SC :=
  (if b = true then fAs_newPlace_16 z0 (fAs_firstFreeFromAngle z0 a) else fAs_newPlace_16 z0 (fAs_leastFree z0))
set_option maxHeartbeats 4000000 in
set_option maxRecDepth 100000 in
theorem kAs_newPlace (l : Launch) (D : va_G) (q : Nat → Nat) (cI cJ cZ : ClassId) (hq : c_inj q) (z0 : SC) (a : Int32) (b : Bool) (ha : 0 ≤ a.toInt ∧ a.toInt ≤ 10000) : Met l yAs_newPlace wsAs_newPlace { frames := 1, cells := 0, slots := 0, locals := 24 } (va_Pc [.ref (q 6), .int (a), .int (bb (b))] (c_C D q cI cJ cZ z0)) (cQw (some (.int ((fAs_newPlace z0 a b).1))) (c_W D q cI cJ cZ (fAs_newPlace z0 a b).2) (c_qs q)) 0 0 (c_qs q) := by
  refine Met.ofW (cc := ccAs_newPlace) (maxL := 4) (ret := (some .int)) (by decide +kernel) rfl ?_
  intro p e s m args below meth c s₁ B hml hv
  obtain ⟨rfl, hP, hK⟩ := hv
  have hx := B.exec
  have hb := B.bytes
  have hr := B.returns
  have hts := atoms_spec (ws := wsAs_newPlace) B.pre
  have hown : s.vm.findClass RAs = some m.cls := findClass_of_methodNamed B.named
  have hlocks := B.notSynchronized
  have w0 := hts (.fieldLink RAs 40 "DrumMachine$Assembler" "taken" "[Z") (List.mem_cons_of_mem _ wm1_154)
  have i0 : ∀ w ∈ u_ws RAs TAs 11, w ∈ wsAs_newPlace := fun w h => List.mem_cons_of_mem _ (inAAs w h)
  have hS : va_S (c_qs q) s.heap s.heap [] := va_S.rf
  have hl := lv_entry ([.ref (q 6), .int (a), .int (bb (b))]) (n := 4) (Nat.le_of_ble_eq_true rfl)
  rw [lg_entry_eq]
  generalize (lg_sl ([.ref (q 6), .int (a), .int (bb (b))]) ++ List.replicate (4 - (lg_sl ([.ref (q 6), .int (a), .int (bb (b))])).length) Slot.unset).toArray = ls at hl ⊢
  have hl : lv_has ls 4 [(0, .ref (q 6)), (1, .int (a)), (2, .int (bb (b)))] := hl
  have hB16 : ∀ (H : Heap) (locs : List Loc) (ls : Array Slot) (z : SC) (s0 : Int32), fAs_newPlace z0 a b = fAs_newPlace_16 z s0 → (pl s0) → c_W D q cI cJ cZ z H → va_S (c_qs q) s.heap H locs → lv_has ls 4 [(0, .ref (q 6))] → W p l e (headSpec wsAs_newPlace { frames := 1, cells := 0, slots := 0, locals := 24 }).room s m ([.ref (q 6), .int (a), .int (bb (b))] : List Value).toArray below meth c H locs 0 0 (MQ below (cQw (some (.int ((fAs_newPlace z0 a b).1))) (c_W D q cI cJ cZ (fAs_newPlace z0 a b).2) (c_qs q)) ([.ref (q 6), .int (a), .int (bb (b))] : List Value).toArray s 0 0 (c_qs q)) (F0 m 16 ls [.int (s0)]) := by
    intro H locs ls z s0 hR hp hP hS hl
    rw [fAs_newPlace_16.eq_1] at hR
    refine lv_istore_n (lv' := [(3, .int (s0)), (0, .ref (q 6))]) hx hb dAs_newPlace_16 rfl hl (by decide) rfl (fun ls hl => ?_)
    refine lv_iload_n hx hb dAs_newPlace_17 rfl (lv_at hl 0 rfl) ?_
    refine lv_iconst (v := (-1)) hx hb dAs_newPlace_18 (by decide) ?_
    refine lv_icmp_eq hx hb dAs_newPlace_19 rfl (fun h19 => ?_) (fun h19 => ?_)
    · have hR := hR.trans (if_pos h19)
      refine lv_iload_n hx hb dAs_newPlace_29 rfl (lv_at hl 0 rfl) ?_
      exact W.iret hx hb hr (fun t ht _ => ⟨by rw [hR]; first | done | rfl, by rw [hR, ht]; exact hP, hS.F ht⟩) hS.2.2 dAs_newPlace_30
    · have hR := hR.trans (if_neg h19)
      refine lv_aload_n hx hb dAs_newPlace_22 rfl (lv_at hl 1 rfl) ?_
      refine cg6_taken hx hb hts i0 hown hK hP w0 dAs_newPlace_23 ?_
      refine lv_iload_n hx hb dAs_newPlace_26 rfl (lv_at hl 0 rfl) ?_
      refine lv_iconst (v := 1) hx hb dAs_newPlace_27 (by decide) ?_
      refine cs_taken true hq hS hx hb hK hP (pl_in hp h19) dAs_newPlace_28 (fun H locs hP hS => ?_)
      refine lv_iload_n hx hb dAs_newPlace_29 rfl (lv_at hl 0 rfl) ?_
      exact W.iret hx hb hr (fun t ht _ => ⟨by rw [hR]; first | done | rfl, by rw [hR, ht]; exact hP, hS.F ht⟩) hS.2.2 dAs_newPlace_30
  have hR := fAs_newPlace.eq_1 z0 a b
  refine lv_iload_n hx hb dAs_newPlace_0 rfl (lv_at hl 2 rfl) ?_
  refine wz_ifeq hx hb dAs_newPlace_1 rfl (fun h1 => ?_) (fun h1 => ?_)
  · have hR := hR.trans (if_neg h1)
    refine lv_aload_n hx hb dAs_newPlace_12 rfl (lv_at hl 0 rfl) ?_
    refine cl_rd (W.runV (As := []) (rest := []) ⟨hx, hb, hml, hown, hts⟩ (kAs_leastFree l D q cI cJ cZ hq z0) (cwV 0 hts (gV wm3_27 wm3_29 ws1_10 wm1_8 wm3_30) rfl rfl rfl (by decide +kernel) ⟨Nat.le_of_ble_eq_true rfl, Nat.le_of_ble_eq_true rfl⟩) (c_preV6 hK hP) rfl rfl hl.1 rfl (lv_room (Nat.le_of_ble_eq_true rfl)) dAs_newPlace_13 ⟨Nat.le_refl _, Nat.le_refl _⟩) ?_
    exact hB16 s.heap [] ls z0 (fAs_leastFree z0) hR lf_pl hP hS (lv_sub hl [0] rfl)
  · have hR := hR.trans (if_pos h1)
    refine lv_aload_n hx hb dAs_newPlace_4 rfl (lv_at hl 0 rfl) ?_
    refine lv_iload_n hx hb dAs_newPlace_5 rfl (lv_at hl 1 rfl) ?_
    refine cl_rd (W.runV (As := [.int (a)]) (rest := []) ⟨hx, hb, hml, hown, hts⟩ (kAs_firstFreeFromAngle l D q cI cJ cZ hq z0 a ha) (cwV 1 hts (gV wm3_23 wm3_25 ws1_9 wm1_8 wm3_26) rfl rfl rfl (by decide +kernel) ⟨Nat.le_of_ble_eq_true rfl, Nat.le_of_ble_eq_true rfl⟩) (c_preV6 hK hP) rfl rfl hl.1 rfl (lv_room (Nat.le_of_ble_eq_true rfl)) dAs_newPlace_6 ⟨Nat.le_refl _, Nat.le_refl _⟩) ?_
    refine lv_goto hx hb dAs_newPlace_9 rfl ?_
    exact hB16 s.heap [] ls z0 (fAs_firstFreeFromAngle z0 a) hR (ff_pl ha) hP hS (lv_sub hl [0] rfl)
theorem dAs_placePart_0 : decode ccAs_placePart 0 = .ok (.iload_n 1, 1) := by decide +kernel
theorem dAs_placePart_1 : decode ccAs_placePart 1 = .ok (.invokestatic 53, 3) := by decide +kernel
theorem dAs_placePart_4 : decode ccAs_placePart 4 = .ok (.ifCond .ne 5, 3) := by decide +kernel
theorem dAs_placePart_7 : decode ccAs_placePart 7 = .ok (.iload_n 1, 1) := by decide +kernel
theorem dAs_placePart_8 : decode ccAs_placePart 8 = .ok (.ireturn, 1) := by decide +kernel
theorem dAs_placePart_9 : decode ccAs_placePart 9 = .ok (.iload_n 1, 1) := by decide +kernel
theorem dAs_placePart_10 : decode ccAs_placePart 10 = .ok (.sipush 1000, 3) := by decide +kernel
theorem dAs_placePart_13 : decode ccAs_placePart 13 = .ok (.isub, 1) := by decide +kernel
theorem dAs_placePart_14 : decode ccAs_placePart 14 = .ok (.istore 4, 2) := by decide +kernel
theorem dAs_placePart_16 : decode ccAs_placePart 16 = .ok (.aload_n 0, 1) := by decide +kernel
theorem dAs_placePart_17 : decode ccAs_placePart 17 = .ok (.getfield 31, 3) := by decide +kernel
theorem dAs_placePart_20 : decode ccAs_placePart 20 = .ok (.iload 4, 2) := by decide +kernel
theorem dAs_placePart_22 : decode ccAs_placePart 22 = .ok (.iaload, 1) := by decide +kernel
theorem dAs_placePart_23 : decode ccAs_placePart 23 = .ok (.iconst (-1), 1) := by decide +kernel
theorem dAs_placePart_24 : decode ccAs_placePart 24 = .ok (.if_icmp .ne 16, 3) := by decide +kernel
theorem dAs_placePart_27 : decode ccAs_placePart 27 = .ok (.aload_n 0, 1) := by decide +kernel
theorem dAs_placePart_28 : decode ccAs_placePart 28 = .ok (.getfield 31, 3) := by decide +kernel
theorem dAs_placePart_31 : decode ccAs_placePart 31 = .ok (.iload 4, 2) := by decide +kernel
theorem dAs_placePart_33 : decode ccAs_placePart 33 = .ok (.aload_n 0, 1) := by decide +kernel
theorem dAs_placePart_34 : decode ccAs_placePart 34 = .ok (.iload_n 2, 1) := by decide +kernel
theorem dAs_placePart_35 : decode ccAs_placePart 35 = .ok (.iload_n 3, 1) := by decide +kernel
theorem dAs_placePart_36 : decode ccAs_placePart 36 = .ok (.invokevirtual 109, 3) := by decide +kernel
theorem dAs_placePart_39 : decode ccAs_placePart 39 = .ok (.iastore, 1) := by decide +kernel
theorem dAs_placePart_40 : decode ccAs_placePart 40 = .ok (.aload_n 0, 1) := by decide +kernel
theorem dAs_placePart_41 : decode ccAs_placePart 41 = .ok (.getfield 31, 3) := by decide +kernel
theorem dAs_placePart_44 : decode ccAs_placePart 44 = .ok (.iload 4, 2) := by decide +kernel
theorem dAs_placePart_46 : decode ccAs_placePart 46 = .ok (.iaload, 1) := by decide +kernel
theorem dAs_placePart_47 : decode ccAs_placePart 47 = .ok (.ireturn, 1) := by decide +kernel
def fAs_placePart_40  (z : SC) (v4 : Int32) : Int32 × SC :=
  (c_syms z v4.toNatClampNeg, z)
def fAs_placePart_16  (z : SC) (x : Int32) (b : Bool) (v4 : Int32) : Int32 × SC :=
  (if (c_syms z v4.toNatClampNeg) = ((-1) : Int32) then fAs_placePart_40 (c_syms_s ((fAs_newPlace z x b).2) (upd (c_syms ((fAs_newPlace z x b).2)) v4.toNatClampNeg ((fAs_newPlace z x b).1))) v4 else fAs_placePart_40 z v4)
def fAs_placePart (z0 : SC) (a : Int32) (x : Int32) (b : Bool) : Int32 × SC :=
  (if (fAs_isSymbol a) = true then fAs_placePart_16 z0 x b (a - 1000) else (a, z0))
set_option maxHeartbeats 4000000 in
set_option maxRecDepth 100000 in
theorem kAs_placePart (l : Launch) (D : va_G) (q : Nat → Nat) (cI cJ cZ : ClassId) (hq : c_inj q) (z0 : SC) (a : Int32) (x : Int32) (b : Bool) (hx9 : 0 ≤ x.toInt ∧ x.toInt ≤ 10000) : Met l yAs_placePart wsAs_placePart { frames := 2, cells := 0, slots := 0, locals := 47 } (va_Pc [.ref (q 6), .int (a), .int (x), .int (bb (b))] (c_C D q cI cJ cZ z0)) (cQw (some (.int ((fAs_placePart z0 a x b).1))) (c_W D q cI cJ cZ (fAs_placePart z0 a x b).2) (c_qs q)) 0 0 (c_qs q) := by
  refine Met.ofW (cc := ccAs_placePart) (maxL := 5) (ret := (some .int)) (by decide +kernel) rfl ?_
  intro p e s m args below meth c s₁ B hml hv
  obtain ⟨rfl, hP, hK⟩ := hv
  have hx := B.exec
  have hb := B.bytes
  have hr := B.returns
  have hts := atoms_spec (ws := wsAs_placePart) B.pre
  have hown : s.vm.findClass RAs = some m.cls := findClass_of_methodNamed B.named
  have hlocks := B.notSynchronized
  have w0 := hts (.fieldLink RAs 31 "DrumMachine$Assembler" "symbolPlaces" "[I") (List.mem_cons_of_mem _ wm1_152)
  have i0 : ∀ w ∈ u_ws RAs TAs 11, w ∈ wsAs_placePart := fun w h => List.mem_cons_of_mem _ (inAAs w h)
  have hS : va_S (c_qs q) s.heap s.heap [] := va_S.rf
  have hl := lv_entry ([.ref (q 6), .int (a), .int (x), .int (bb (b))]) (n := 5) (Nat.le_of_ble_eq_true rfl)
  rw [lg_entry_eq]
  generalize (lg_sl ([.ref (q 6), .int (a), .int (x), .int (bb (b))]) ++ List.replicate (5 - (lg_sl ([.ref (q 6), .int (a), .int (x), .int (bb (b))])).length) Slot.unset).toArray = ls at hl ⊢
  have hl : lv_has ls 5 [(0, .ref (q 6)), (1, .int (a)), (2, .int (x)), (3, .int (bb (b)))] := hl
  have hB40 : ∀ (H : Heap) (locs : List Loc) (ls : Array Slot) (z : SC) (v4 : Int32), fAs_placePart z0 a x b = fAs_placePart_40 z v4 → (vp_in v4 20) → c_W D q cI cJ cZ z H → va_S (c_qs q) s.heap H locs → lv_has ls 5 [(0, .ref (q 6)), (4, .int (v4))] → W p l e (headSpec wsAs_placePart { frames := 2, cells := 0, slots := 0, locals := 47 }).room s m ([.ref (q 6), .int (a), .int (x), .int (bb (b))] : List Value).toArray below meth c H locs 0 0 (MQ below (cQw (some (.int ((fAs_placePart z0 a x b).1))) (c_W D q cI cJ cZ (fAs_placePart z0 a x b).2) (c_qs q)) ([.ref (q 6), .int (a), .int (x), .int (bb (b))] : List Value).toArray s 0 0 (c_qs q)) (F0 m 40 ls []) := by
    intro H locs ls z v4 hR hs hP hS hl
    rw [fAs_placePart_40.eq_1] at hR
    refine lv_aload_n hx hb dAs_placePart_40 rfl (lv_at hl 0 rfl) ?_
    refine cg6_symbolPlaces hx hb hts i0 hown hK hP w0 dAs_placePart_41 ?_
    refine lv_iload hx hb dAs_placePart_44 (lv_at hl 1 rfl) ?_
    refine cl_syms hx hb hK hP hs dAs_placePart_46 ?_
    exact W.iret hx hb hr (fun t ht _ => ⟨by rw [hR]; first | done | rfl, by rw [hR, ht]; exact hP, hS.F ht⟩) hS.2.2 dAs_placePart_47
  have hB16 : ∀ (H : Heap) (locs : List Loc) (ls : Array Slot) (z : SC) (v4 : Int32), fAs_placePart z0 a x b = fAs_placePart_16 z x b v4 → (vp_in v4 20) → c_W D q cI cJ cZ z H → va_S (c_qs q) s.heap H locs → lv_has ls 5 [(0, .ref (q 6)), (2, .int (x)), (3, .int (bb (b))), (4, .int (v4))] → W p l e (headSpec wsAs_placePart { frames := 2, cells := 0, slots := 0, locals := 47 }).room s m ([.ref (q 6), .int (a), .int (x), .int (bb (b))] : List Value).toArray below meth c H locs 0 0 (MQ below (cQw (some (.int ((fAs_placePart z0 a x b).1))) (c_W D q cI cJ cZ (fAs_placePart z0 a x b).2) (c_qs q)) ([.ref (q 6), .int (a), .int (x), .int (bb (b))] : List Value).toArray s 0 0 (c_qs q)) (F0 m 16 ls []) := by
    intro H locs ls z v4 hR hs hP hS hl
    rw [fAs_placePart_16.eq_1] at hR
    refine lv_aload_n hx hb dAs_placePart_16 rfl (lv_at hl 0 rfl) ?_
    refine cg6_symbolPlaces hx hb hts i0 hown hK hP w0 dAs_placePart_17 ?_
    refine lv_iload hx hb dAs_placePart_20 (lv_at hl 3 rfl) ?_
    refine cl_syms hx hb hK hP hs dAs_placePart_22 ?_
    refine lv_iconst (v := (-1)) hx hb dAs_placePart_23 (by decide) ?_
    refine lv_icmp_ne hx hb dAs_placePart_24 rfl (fun h24 => ?_) (fun h24 => ?_)
    · have hR := hR.trans (if_neg h24)
      exact hB40 H locs ls z v4 hR (by first | assumption | omega) hP hS (lv_sub hl [0, 3] rfl)
    · have hR := hR.trans (if_pos h24)
      refine lv_aload_n hx hb dAs_placePart_27 rfl (lv_at hl 0 rfl) ?_
      refine cg6_symbolPlaces hx hb hts i0 hown hK hP w0 dAs_placePart_28 ?_
      refine lv_iload hx hb dAs_placePart_31 (lv_at hl 3 rfl) ?_
      refine lv_aload_n hx hb dAs_placePart_33 rfl (lv_at hl 0 rfl) ?_
      refine lv_iload_n hx hb dAs_placePart_34 rfl (lv_at hl 1 rfl) ?_
      refine lv_iload_n hx hb dAs_placePart_35 rfl (lv_at hl 2 rfl) ?_
      refine cl_wr (W.runV (As := [.int (x), .int (bb (b))]) (rest := [.int (v4), .ref (q 20)]) ⟨hx, hb, hml, hown, hts⟩ (kAs_newPlace l D q cI cJ cZ hq z x b hx9) (cwV 2 hts (gV wm3_19 wm3_21 ws1_8 wm1_8 wm3_22) rfl rfl rfl (by decide +kernel) ⟨Nat.le_of_ble_eq_true rfl, Nat.le_of_ble_eq_true rfl⟩) (c_preV6 hK hP) rfl rfl hl.1 rfl (lv_room (Nat.le_of_ble_eq_true rfl)) dAs_placePart_36 ⟨Nat.le_refl _, Nat.le_refl _⟩) hS (fun _ h => h) (fun _ h => h) (fun H locs hP hS => ?_)
      refine cs_syms ((fAs_newPlace z x b).1) hq hS hx hb hK hP hs dAs_placePart_39 (fun H locs hP hS => ?_)
      exact hB40 H locs ls (c_syms_s ((fAs_newPlace z x b).2) (upd (c_syms ((fAs_newPlace z x b).2)) v4.toNatClampNeg ((fAs_newPlace z x b).1))) v4 hR (by first | assumption | omega) hP hS (lv_sub hl [0, 3] rfl)
  have hR := fAs_placePart.eq_1 z0 a x b
  refine lv_iload_n hx hb dAs_placePart_0 rfl (lv_at hl 1 rfl) ?_
  refine cl_rd (W.runS (As := [.int (a)]) (rest := []) ⟨hx, hb, hml, hown, hts⟩ (kAs_isSymbol l a) (va_cwS 1 hts (gS wm2_191 wm2_192 wm1_8 wm2_193) rfl rfl rfl (by decide +kernel) ⟨Nat.le_of_ble_eq_true rfl, Nat.le_of_ble_eq_true rfl⟩) (preT) rfl rfl hl.1 rfl (lv_room (Nat.le_of_ble_eq_true rfl)) dAs_placePart_1 ⟨Nat.le_refl _, Nat.le_refl _⟩) ?_
  refine wz_ifne hx hb dAs_placePart_4 rfl (fun h4 => ?_) (fun h4 => ?_)
  · have hR := hR.trans (if_pos h4)
    refine lv_iload_n hx hb dAs_placePart_9 rfl (lv_at hl 1 rfl) ?_
    refine lv_sipush (v := 1000) hx hb dAs_placePart_10 (by decide) ?_
    refine lv_isub hx hb dAs_placePart_13 ?_
    refine lv_istore (lv' := [(4, .int (a - 1000)), (0, .ref (q 6)), (1, .int (a)), (2, .int (x)), (3, .int (bb (b)))]) hx hb dAs_placePart_14 hl (by decide) rfl (fun ls hl => ?_)
    exact hB16 s.heap [] ls z0 (a - 1000) hR (sy_in h4) hP hS (lv_sub hl [1, 3, 4, 0] rfl)
  · have hR := hR.trans (if_neg h4)
    refine lv_iload_n hx hb dAs_placePart_7 rfl (lv_at hl 1 rfl) ?_
    exact W.iret hx hb hr (fun t ht _ => ⟨by rw [hR]; first | done | rfl, by rw [hR, ht]; exact hP, hS.F ht⟩) hS.2.2 dAs_placePart_8
theorem dAs_bestForNext_0 : decode ccAs_bestForNext 0 = .ok (.aload_n 0, 1) := by decide +kernel
theorem dAs_bestForNext_1 : decode ccAs_bestForNext 1 = .ok (.getfield 13, 3) := by decide +kernel
theorem dAs_bestForNext_4 : decode ccAs_bestForNext 4 = .ok (.iload_n 1, 1) := by decide +kernel
theorem dAs_bestForNext_5 : decode ccAs_bestForNext 5 = .ok (.iaload, 1) := by decide +kernel
theorem dAs_bestForNext_6 : decode ccAs_bestForNext 6 = .ok (.istore_n 2, 1) := by decide +kernel
theorem dAs_bestForNext_7 : decode ccAs_bestForNext 7 = .ok (.iload_n 2, 1) := by decide +kernel
theorem dAs_bestForNext_8 : decode ccAs_bestForNext 8 = .ok (.invokestatic 116, 3) := by decide +kernel
theorem dAs_bestForNext_11 : decode ccAs_bestForNext 11 = .ok (.ifCond .eq 12, 3) := by decide +kernel
theorem dAs_bestForNext_14 : decode ccAs_bestForNext 14 = .ok (.aload_n 0, 1) := by decide +kernel
theorem dAs_bestForNext_15 : decode ccAs_bestForNext 15 = .ok (.getfield 25, 3) := by decide +kernel
theorem dAs_bestForNext_18 : decode ccAs_bestForNext 18 = .ok (.iload_n 1, 1) := by decide +kernel
theorem dAs_bestForNext_19 : decode ccAs_bestForNext 19 = .ok (.iaload, 1) := by decide +kernel
theorem dAs_bestForNext_20 : decode ccAs_bestForNext 20 = .ok (.goto 9, 3) := by decide +kernel
theorem dAs_bestForNext_23 : decode ccAs_bestForNext 23 = .ok (.aload_n 0, 1) := by decide +kernel
theorem dAs_bestForNext_24 : decode ccAs_bestForNext 24 = .ok (.getfield 22, 3) := by decide +kernel
theorem dAs_bestForNext_27 : decode ccAs_bestForNext 27 = .ok (.iload_n 1, 1) := by decide +kernel
theorem dAs_bestForNext_28 : decode ccAs_bestForNext 28 = .ok (.iaload, 1) := by decide +kernel
theorem dAs_bestForNext_29 : decode ccAs_bestForNext 29 = .ok (.istore_n 3, 1) := by decide +kernel
theorem dAs_bestForNext_30 : decode ccAs_bestForNext 30 = .ok (.iload_n 3, 1) := by decide +kernel
theorem dAs_bestForNext_31 : decode ccAs_bestForNext 31 = .ok (.iconst 1, 1) := by decide +kernel
theorem dAs_bestForNext_32 : decode ccAs_bestForNext 32 = .ok (.iadd, 1) := by decide +kernel
theorem dAs_bestForNext_33 : decode ccAs_bestForNext 33 = .ok (.iload_n 2, 1) := by decide +kernel
theorem dAs_bestForNext_34 : decode ccAs_bestForNext 34 = .ok (.aload_n 0, 1) := by decide +kernel
theorem dAs_bestForNext_35 : decode ccAs_bestForNext 35 = .ok (.getfield 25, 3) := by decide +kernel
theorem dAs_bestForNext_38 : decode ccAs_bestForNext 38 = .ok (.iload_n 1, 1) := by decide +kernel
theorem dAs_bestForNext_39 : decode ccAs_bestForNext 39 = .ok (.iaload, 1) := by decide +kernel
theorem dAs_bestForNext_40 : decode ccAs_bestForNext 40 = .ok (.invokestatic 119, 3) := by decide +kernel
theorem dAs_bestForNext_43 : decode ccAs_bestForNext 43 = .ok (.iadd, 1) := by decide +kernel
theorem dAs_bestForNext_44 : decode ccAs_bestForNext 44 = .ok (.ireturn, 1) := by decide +kernel
def fAs_bestForNext_29  (z0 : SC) (s0 : Int32) (a : Int32) (v2 : Int32) : Int32 :=
  (s0 + 1) + (fOp_fixedTime v2 (c_dat z0 a.toNatClampNeg))
def fAs_bestForNext (z0 : SC) (a : Int32) : Int32 :=
  (if (fOp_accessesData (c_ops z0 a.toNatClampNeg)) = true then fAs_bestForNext_29 z0 (c_dat z0 a.toNatClampNeg) a (c_ops z0 a.toNatClampNeg) else fAs_bestForNext_29 z0 (c_locs z0 a.toNatClampNeg) a (c_ops z0 a.toNatClampNeg))
set_option maxHeartbeats 4000000 in
set_option maxRecDepth 100000 in
theorem kAs_bestForNext (l : Launch) (D : va_G) (q : Nat → Nat) (cI cJ cZ : ClassId) (hq : c_inj q) (z0 : SC) (a : Int32) (ha : vp_in a 40) : Met l yAs_bestForNext wsAs_bestForNext { frames := 3, cells := 0, slots := 0, locals := 63 } (va_Pc [.ref (q 6), .int (a)] (c_C D q cI cJ cZ z0)) (cQr (some (.int (fAs_bestForNext z0 a)))) 0 0 (fun _ => False) := by
  refine Met.ofW (cc := ccAs_bestForNext) (maxL := 4) (ret := (some .int)) (by decide +kernel) rfl ?_
  intro p e s m args below meth c s₁ B hml hv
  obtain ⟨rfl, hP, hK⟩ := hv
  have hx := B.exec
  have hb := B.bytes
  have hr := B.returns
  have hts := atoms_spec (ws := wsAs_bestForNext) B.pre
  have hown : s.vm.findClass RAs = some m.cls := findClass_of_methodNamed B.named
  have hlocks := B.notSynchronized
  have w0 := hts (.fieldLink RAs 25 "DrumMachine$Assembler" "data" "[I") (List.mem_cons_of_mem _ wm1_150)
  have w1 := hts (.fieldLink RAs 13 "DrumMachine$Assembler" "operations" "[I") (List.mem_cons_of_mem _ wm1_146)
  have w2 := hts (.fieldLink RAs 22 "DrumMachine$Assembler" "locations" "[I") (List.mem_cons_of_mem _ wm1_149)
  have i0 : ∀ w ∈ u_ws RAs TAs 11, w ∈ wsAs_bestForNext := fun w h => List.mem_cons_of_mem _ (inAAs w h)
  have hl := lv_entry ([.ref (q 6), .int (a)]) (n := 4) (Nat.le_of_ble_eq_true rfl)
  rw [lg_entry_eq]
  generalize (lg_sl ([.ref (q 6), .int (a)]) ++ List.replicate (4 - (lg_sl ([.ref (q 6), .int (a)])).length) Slot.unset).toArray = ls at hl ⊢
  have hl : lv_has ls 4 [(0, .ref (q 6)), (1, .int (a))] := hl
  have hB29 : ∀ (ls : Array Slot) (s0 : Int32) (v2 : Int32), fAs_bestForNext z0 a = fAs_bestForNext_29 z0 s0 a v2 → lv_has ls 4 [(0, .ref (q 6)), (1, .int (a)), (2, .int (v2))] → W p l e (headSpec wsAs_bestForNext { frames := 3, cells := 0, slots := 0, locals := 63 }).room s m ([.ref (q 6), .int (a)] : List Value).toArray below meth c s.heap [] 0 0 (MQ below (cQr (some (.int (fAs_bestForNext z0 a)))) ([.ref (q 6), .int (a)] : List Value).toArray s 0 0 (fun _ => False)) (F0 m 29 ls [.int (s0)]) := by
    intro ls s0 v2 hR hl
    rw [fAs_bestForNext_29.eq_1] at hR
    refine lv_istore_n (lv' := [(3, .int (s0)), (0, .ref (q 6)), (1, .int (a)), (2, .int (v2))]) hx hb dAs_bestForNext_29 rfl hl (by decide) rfl (fun ls hl => ?_)
    refine lv_iload_n hx hb dAs_bestForNext_30 rfl (lv_at hl 0 rfl) ?_
    refine lv_iconst (v := 1) hx hb dAs_bestForNext_31 (by decide) ?_
    refine lv_iadd hx hb dAs_bestForNext_32 ?_
    refine lv_iload_n hx hb dAs_bestForNext_33 rfl (lv_at hl 3 rfl) ?_
    refine lv_aload_n hx hb dAs_bestForNext_34 rfl (lv_at hl 1 rfl) ?_
    refine cg6_data hx hb hts i0 hown hK hP w0 dAs_bestForNext_35 ?_
    refine lv_iload_n hx hb dAs_bestForNext_38 rfl (lv_at hl 2 rfl) ?_
    refine cl_dat hx hb hK hP ha dAs_bestForNext_39 ?_
    refine cl_rd (W.runS (As := [.int (v2), .int ((c_dat z0 a.toNatClampNeg))]) (rest := [.int (s0 + 1)]) ⟨hx, hb, hml, hown, hts⟩ (kOp_fixedTime l v2 (c_dat z0 a.toNatClampNeg)) (va_cwS 2 hts (gS wm3_46 wm3_47 wm1_17 wm3_48) rfl rfl rfl (by decide +kernel) ⟨Nat.le_of_ble_eq_true rfl, Nat.le_of_ble_eq_true rfl⟩) (preT) rfl rfl hl.1 rfl (lv_room (Nat.le_of_ble_eq_true rfl)) dAs_bestForNext_40 ⟨Nat.le_refl _, Nat.le_refl _⟩) ?_
    refine lv_iadd hx hb dAs_bestForNext_43 ?_
    exact W.iret hx hb hr (fun t ht _ => ⟨by rw [hR]; first | done | rfl, ht⟩) (fun _ h => absurd h List.not_mem_nil) dAs_bestForNext_44
  have hR := fAs_bestForNext.eq_1 z0 a
  refine lv_aload_n hx hb dAs_bestForNext_0 rfl (lv_at hl 0 rfl) ?_
  refine cg6_operations hx hb hts i0 hown hK hP w1 dAs_bestForNext_1 ?_
  refine lv_iload_n hx hb dAs_bestForNext_4 rfl (lv_at hl 1 rfl) ?_
  refine cl_ops hx hb hK hP ha dAs_bestForNext_5 ?_
  refine lv_istore_n (lv' := [(2, .int (c_ops z0 a.toNatClampNeg)), (0, .ref (q 6)), (1, .int (a))]) hx hb dAs_bestForNext_6 rfl hl (by decide) rfl (fun ls hl => ?_)
  refine lv_iload_n hx hb dAs_bestForNext_7 rfl (lv_at hl 0 rfl) ?_
  refine cl_rd (W.runS (As := [.int ((c_ops z0 a.toNatClampNeg))]) (rest := []) ⟨hx, hb, hml, hown, hts⟩ (kOp_accessesData l (c_ops z0 a.toNatClampNeg)) (va_cwS 1 hts (gS wm3_43 wm3_44 wm1_17 wm3_45) rfl rfl rfl (by decide +kernel) ⟨Nat.le_of_ble_eq_true rfl, Nat.le_of_ble_eq_true rfl⟩) (preT) rfl rfl hl.1 rfl (lv_room (Nat.le_of_ble_eq_true rfl)) dAs_bestForNext_8 ⟨Nat.le_refl _, Nat.le_refl _⟩) ?_
  refine wz_ifeq hx hb dAs_bestForNext_11 rfl (fun h11 => ?_) (fun h11 => ?_)
  · have hR := hR.trans (if_neg h11)
    refine lv_aload_n hx hb dAs_bestForNext_23 rfl (lv_at hl 1 rfl) ?_
    refine cg6_locations hx hb hts i0 hown hK hP w2 dAs_bestForNext_24 ?_
    refine lv_iload_n hx hb dAs_bestForNext_27 rfl (lv_at hl 2 rfl) ?_
    refine cl_locs hx hb hK hP ha dAs_bestForNext_28 ?_
    exact hB29 ls (c_locs z0 a.toNatClampNeg) (c_ops z0 a.toNatClampNeg) hR (lv_sub hl [1, 2, 0] rfl)
  · have hR := hR.trans (if_pos h11)
    refine lv_aload_n hx hb dAs_bestForNext_14 rfl (lv_at hl 1 rfl) ?_
    refine cg6_data hx hb hts i0 hown hK hP w0 dAs_bestForNext_15 ?_
    refine lv_iload_n hx hb dAs_bestForNext_18 rfl (lv_at hl 2 rfl) ?_
    refine cl_dat hx hb hK hP ha dAs_bestForNext_19 ?_
    refine lv_goto hx hb dAs_bestForNext_20 rfl ?_
    exact hB29 ls (c_dat z0 a.toNatClampNeg) (c_ops z0 a.toNatClampNeg) hR (lv_sub hl [1, 2, 0] rfl)
theorem dAs_placeLocation_0 : decode ccAs_placeLocation 0 = .ok (.aload_n 0, 1) := by decide +kernel
theorem dAs_placeLocation_1 : decode ccAs_placeLocation 1 = .ok (.getfield 9, 3) := by decide +kernel
theorem dAs_placeLocation_4 : decode ccAs_placeLocation 4 = .ok (.iload_n 1, 1) := by decide +kernel
theorem dAs_placeLocation_5 : decode ccAs_placeLocation 5 = .ok (.iaload, 1) := by decide +kernel
theorem dAs_placeLocation_6 : decode ccAs_placeLocation 6 = .ok (.istore_n 3, 1) := by decide +kernel
theorem dAs_placeLocation_7 : decode ccAs_placeLocation 7 = .ok (.iload_n 3, 1) := by decide +kernel
theorem dAs_placeLocation_8 : decode ccAs_placeLocation 8 = .ok (.iconst (-1), 1) := by decide +kernel
theorem dAs_placeLocation_9 : decode ccAs_placeLocation 9 = .ok (.if_icmp .eq 11, 3) := by decide +kernel
theorem dAs_placeLocation_12 : decode ccAs_placeLocation 12 = .ok (.aload_n 0, 1) := by decide +kernel
theorem dAs_placeLocation_13 : decode ccAs_placeLocation 13 = .ok (.iload_n 3, 1) := by decide +kernel
theorem dAs_placeLocation_14 : decode ccAs_placeLocation 14 = .ok (.iconst 0, 1) := by decide +kernel
theorem dAs_placeLocation_15 : decode ccAs_placeLocation 15 = .ok (.iload_n 2, 1) := by decide +kernel
theorem dAs_placeLocation_16 : decode ccAs_placeLocation 16 = .ok (.invokevirtual 105, 3) := by decide +kernel
theorem dAs_placeLocation_19 : decode ccAs_placeLocation 19 = .ok (.ireturn, 1) := by decide +kernel
theorem dAs_placeLocation_20 : decode ccAs_placeLocation 20 = .ok (.iload_n 1, 1) := by decide +kernel
theorem dAs_placeLocation_21 : decode ccAs_placeLocation 21 = .ok (.ifCond .le 24, 3) := by decide +kernel
theorem dAs_placeLocation_24 : decode ccAs_placeLocation 24 = .ok (.aload_n 0, 1) := by decide +kernel
theorem dAs_placeLocation_25 : decode ccAs_placeLocation 25 = .ok (.getfield 19, 3) := by decide +kernel
theorem dAs_placeLocation_28 : decode ccAs_placeLocation 28 = .ok (.iload_n 1, 1) := by decide +kernel
theorem dAs_placeLocation_29 : decode ccAs_placeLocation 29 = .ok (.iconst 1, 1) := by decide +kernel
theorem dAs_placeLocation_30 : decode ccAs_placeLocation 30 = .ok (.isub, 1) := by decide +kernel
theorem dAs_placeLocation_31 : decode ccAs_placeLocation 31 = .ok (.iaload, 1) := by decide +kernel
theorem dAs_placeLocation_32 : decode ccAs_placeLocation 32 = .ok (.iconst (-1), 1) := by decide +kernel
theorem dAs_placeLocation_33 : decode ccAs_placeLocation 33 = .ok (.if_icmp .ne 12, 3) := by decide +kernel
theorem dAs_placeLocation_36 : decode ccAs_placeLocation 36 = .ok (.aload_n 0, 1) := by decide +kernel
theorem dAs_placeLocation_37 : decode ccAs_placeLocation 37 = .ok (.getfield 28, 3) := by decide +kernel
theorem dAs_placeLocation_40 : decode ccAs_placeLocation 40 = .ok (.iload_n 1, 1) := by decide +kernel
theorem dAs_placeLocation_41 : decode ccAs_placeLocation 41 = .ok (.iconst 1, 1) := by decide +kernel
theorem dAs_placeLocation_42 : decode ccAs_placeLocation 42 = .ok (.isub, 1) := by decide +kernel
theorem dAs_placeLocation_43 : decode ccAs_placeLocation 43 = .ok (.iaload, 1) := by decide +kernel
theorem dAs_placeLocation_44 : decode ccAs_placeLocation 44 = .ok (.ireturn, 1) := by decide +kernel
theorem dAs_placeLocation_45 : decode ccAs_placeLocation 45 = .ok (.aload_n 0, 1) := by decide +kernel
theorem dAs_placeLocation_46 : decode ccAs_placeLocation 46 = .ok (.iconst 0, 1) := by decide +kernel
theorem dAs_placeLocation_47 : decode ccAs_placeLocation 47 = .ok (.iload_n 2, 1) := by decide +kernel
theorem dAs_placeLocation_48 : decode ccAs_placeLocation 48 = .ok (.invokevirtual 109, 3) := by decide +kernel
theorem dAs_placeLocation_51 : decode ccAs_placeLocation 51 = .ok (.ireturn, 1) := by decide +kernel
def fAs_placeLocation (z0 : SC) (a : Int32) (b : Bool) : Int32 × SC :=
  (if (c_lparts z0 a.toNatClampNeg) = ((-1) : Int32) then (if a ≤ 0 then ((fAs_newPlace z0 0 b).1, (fAs_newPlace z0 0 b).2) else (if (c_nparts z0 ((a - 1).toNatClampNeg)) = ((-1) : Int32) then (c_nexts z0 ((a - 1).toNatClampNeg), z0) else ((fAs_newPlace z0 0 b).1, (fAs_newPlace z0 0 b).2))) else ((fAs_placePart z0 (c_lparts z0 a.toNatClampNeg) 0 b).1, (fAs_placePart z0 (c_lparts z0 a.toNatClampNeg) 0 b).2))
set_option maxHeartbeats 4000000 in
set_option maxRecDepth 100000 in
theorem kAs_placeLocation (l : Launch) (D : va_G) (q : Nat → Nat) (cI cJ cZ : ClassId) (hq : c_inj q) (z0 : SC) (a : Int32) (b : Bool) (ha : vp_in a 40) : Met l yAs_placeLocation wsAs_placeLocation { frames := 3, cells := 0, slots := 0, locals := 71 } (va_Pc [.ref (q 6), .int (a), .int (bb (b))] (c_C D q cI cJ cZ z0)) (cQw (some (.int ((fAs_placeLocation z0 a b).1))) (c_W D q cI cJ cZ (fAs_placeLocation z0 a b).2) (c_qs q)) 0 0 (c_qs q) := by
  refine Met.ofW (cc := ccAs_placeLocation) (maxL := 4) (ret := (some .int)) (by decide +kernel) rfl ?_
  intro p e s m args below meth c s₁ B hml hv
  obtain ⟨rfl, hP, hK⟩ := hv
  have hx := B.exec
  have hb := B.bytes
  have hr := B.returns
  have hts := atoms_spec (ws := wsAs_placeLocation) B.pre
  have hown : s.vm.findClass RAs = some m.cls := findClass_of_methodNamed B.named
  have hlocks := B.notSynchronized
  have w0 := hts (.fieldLink RAs 9 "DrumMachine$Assembler" "locationParts" "[I") (List.mem_cons_of_mem _ wm1_145)
  have w1 := hts (.fieldLink RAs 19 "DrumMachine$Assembler" "nextParts" "[I") (List.mem_cons_of_mem _ wm1_148)
  have w2 := hts (.fieldLink RAs 28 "DrumMachine$Assembler" "nexts" "[I") (List.mem_cons_of_mem _ wm1_151)
  have i0 : ∀ w ∈ u_ws RAs TAs 11, w ∈ wsAs_placeLocation := fun w h => List.mem_cons_of_mem _ (inAAs w h)
  have hS : va_S (c_qs q) s.heap s.heap [] := va_S.rf
  have hl := lv_entry ([.ref (q 6), .int (a), .int (bb (b))]) (n := 4) (Nat.le_of_ble_eq_true rfl)
  rw [lg_entry_eq]
  generalize (lg_sl ([.ref (q 6), .int (a), .int (bb (b))]) ++ List.replicate (4 - (lg_sl ([.ref (q 6), .int (a), .int (bb (b))])).length) Slot.unset).toArray = ls at hl ⊢
  have hl : lv_has ls 4 [(0, .ref (q 6)), (1, .int (a)), (2, .int (bb (b)))] := hl
  have hR := fAs_placeLocation.eq_1 z0 a b
  refine lv_aload_n hx hb dAs_placeLocation_0 rfl (lv_at hl 0 rfl) ?_
  refine cg6_locationParts hx hb hts i0 hown hK hP w0 dAs_placeLocation_1 ?_
  refine lv_iload_n hx hb dAs_placeLocation_4 rfl (lv_at hl 1 rfl) ?_
  refine cl_lparts hx hb hK hP ha dAs_placeLocation_5 ?_
  refine lv_istore_n (lv' := [(3, .int (c_lparts z0 a.toNatClampNeg)), (0, .ref (q 6)), (1, .int (a)), (2, .int (bb (b)))]) hx hb dAs_placeLocation_6 rfl hl (by decide) rfl (fun ls hl => ?_)
  refine lv_iload_n hx hb dAs_placeLocation_7 rfl (lv_at hl 0 rfl) ?_
  refine lv_iconst (v := (-1)) hx hb dAs_placeLocation_8 (by decide) ?_
  refine lv_icmp_eq hx hb dAs_placeLocation_9 rfl (fun h9 => ?_) (fun h9 => ?_)
  · have hR := hR.trans (if_pos h9)
    refine lv_iload_n hx hb dAs_placeLocation_20 rfl (lv_at hl 2 rfl) ?_
    refine lv_if_le hx hb dAs_placeLocation_21 rfl (fun h21 => ?_) (fun h21 => ?_)
    · have hR := hR.trans (if_pos h21)
      refine lv_aload_n hx hb dAs_placeLocation_45 rfl (lv_at hl 1 rfl) ?_
      refine lv_iconst (v := 0) hx hb dAs_placeLocation_46 (by decide) ?_
      refine lv_iload_n hx hb dAs_placeLocation_47 rfl (lv_at hl 3 rfl) ?_
      refine cl_wr (W.runV (As := [.int (0), .int (bb (b))]) (rest := []) ⟨hx, hb, hml, hown, hts⟩ (kAs_newPlace l D q cI cJ cZ hq z0 0 b (by decide)) (cwV 2 hts (gV wm3_19 wm3_21 ws1_8 wm1_8 wm3_22) rfl rfl rfl (by decide +kernel) ⟨Nat.le_of_ble_eq_true rfl, Nat.le_of_ble_eq_true rfl⟩) (c_preV6 hK hP) rfl rfl hl.1 rfl (lv_room (Nat.le_of_ble_eq_true rfl)) dAs_placeLocation_48 ⟨Nat.le_refl _, Nat.le_refl _⟩) hS (fun _ h => h) (fun _ h => h) (fun H locs hP hS => ?_)
      exact W.iret hx hb hr (fun t ht _ => ⟨by rw [hR]; first | done | rfl, by rw [hR, ht]; exact hP, hS.F ht⟩) hS.2.2 dAs_placeLocation_51
    · have hR := hR.trans (if_neg h21)
      refine lv_aload_n hx hb dAs_placeLocation_24 rfl (lv_at hl 1 rfl) ?_
      refine cg6_nextParts hx hb hts i0 hown hK hP w1 dAs_placeLocation_25 ?_
      refine lv_iload_n hx hb dAs_placeLocation_28 rfl (lv_at hl 2 rfl) ?_
      refine lv_iconst (v := 1) hx hb dAs_placeLocation_29 (by decide) ?_
      refine lv_isub hx hb dAs_placeLocation_30 ?_
      refine cl_nparts hx hb hK hP (pr_in ha h21) dAs_placeLocation_31 ?_
      refine lv_iconst (v := (-1)) hx hb dAs_placeLocation_32 (by decide) ?_
      refine lv_icmp_ne hx hb dAs_placeLocation_33 rfl (fun h33 => ?_) (fun h33 => ?_)
      · have hR := hR.trans (if_neg h33)
        refine lv_aload_n hx hb dAs_placeLocation_45 rfl (lv_at hl 1 rfl) ?_
        refine lv_iconst (v := 0) hx hb dAs_placeLocation_46 (by decide) ?_
        refine lv_iload_n hx hb dAs_placeLocation_47 rfl (lv_at hl 3 rfl) ?_
        refine cl_wr (W.runV (As := [.int (0), .int (bb (b))]) (rest := []) ⟨hx, hb, hml, hown, hts⟩ (kAs_newPlace l D q cI cJ cZ hq z0 0 b (by decide)) (cwV 2 hts (gV wm3_19 wm3_21 ws1_8 wm1_8 wm3_22) rfl rfl rfl (by decide +kernel) ⟨Nat.le_of_ble_eq_true rfl, Nat.le_of_ble_eq_true rfl⟩) (c_preV6 hK hP) rfl rfl hl.1 rfl (lv_room (Nat.le_of_ble_eq_true rfl)) dAs_placeLocation_48 ⟨Nat.le_refl _, Nat.le_refl _⟩) hS (fun _ h => h) (fun _ h => h) (fun H locs hP hS => ?_)
        exact W.iret hx hb hr (fun t ht _ => ⟨by rw [hR]; first | done | rfl, by rw [hR, ht]; exact hP, hS.F ht⟩) hS.2.2 dAs_placeLocation_51
      · have hR := hR.trans (if_pos h33)
        refine lv_aload_n hx hb dAs_placeLocation_36 rfl (lv_at hl 1 rfl) ?_
        refine cg6_nexts hx hb hts i0 hown hK hP w2 dAs_placeLocation_37 ?_
        refine lv_iload_n hx hb dAs_placeLocation_40 rfl (lv_at hl 2 rfl) ?_
        refine lv_iconst (v := 1) hx hb dAs_placeLocation_41 (by decide) ?_
        refine lv_isub hx hb dAs_placeLocation_42 ?_
        refine cl_nexts hx hb hK hP (pr_in ha h21) dAs_placeLocation_43 ?_
        exact W.iret hx hb hr (fun t ht _ => ⟨by rw [hR]; first | done | rfl, by rw [hR, ht]; exact hP, hS.F ht⟩) hS.2.2 dAs_placeLocation_44
  · have hR := hR.trans (if_neg h9)
    refine lv_aload_n hx hb dAs_placeLocation_12 rfl (lv_at hl 1 rfl) ?_
    refine lv_iload_n hx hb dAs_placeLocation_13 rfl (lv_at hl 0 rfl) ?_
    refine lv_iconst (v := 0) hx hb dAs_placeLocation_14 (by decide) ?_
    refine lv_iload_n hx hb dAs_placeLocation_15 rfl (lv_at hl 3 rfl) ?_
    refine cl_wr (W.runV (As := [.int ((c_lparts z0 a.toNatClampNeg)), .int (0), .int (bb (b))]) (rest := []) ⟨hx, hb, hml, hown, hts⟩ (kAs_placePart l D q cI cJ cZ hq z0 (c_lparts z0 a.toNatClampNeg) 0 b (by decide)) (cwV 3 hts (gV wm3_15 wm3_17 ws1_7 wm1_8 wm3_18) rfl rfl rfl (by decide +kernel) ⟨Nat.le_of_ble_eq_true rfl, Nat.le_of_ble_eq_true rfl⟩) (c_preV6 hK hP) rfl rfl hl.1 rfl (lv_room (Nat.le_of_ble_eq_true rfl)) dAs_placeLocation_16 ⟨Nat.le_refl _, Nat.le_refl _⟩) hS (fun _ h => h) (fun _ h => h) (fun H locs hP hS => ?_)
    exact W.iret hx hb hr (fun t ht _ => ⟨by rw [hR]; first | done | rfl, by rw [hR, ht]; exact hP, hS.F ht⟩) hS.2.2 dAs_placeLocation_19
