theorem s20_in {a : Int32} (h1 : ¬ a < 0) (h2 : a < (20 : Int32)) : vp_in a 20 := by
  have e : (20 : Int32).toInt = 20 := by decide
  rw [Int32.lt_iff_toInt_lt] at h2
  exact vp_in_iff.mpr ⟨i_nn h1, by omega⟩
theorem o40_in {a x : Int32} (h1 : ¬ a < 0) (h2 : ¬ x ≤ a) (hx : x.toInt ≤ 40) : vp_in a 40 := by
  have h3 := lk_lt h2
  exact vp_in_iff.mpr ⟨i_nn h1, by omega⟩
theorem dMo_place_0 : decode ccMo_place 0 = .ok (.aload_n 0, 1) := by decide +kernel
theorem dMo_place_1 : decode ccMo_place 1 = .ok (.iload_n 1, 1) := by decide +kernel
theorem dMo_place_2 : decode ccMo_place 2 = .ok (.ifCond .lt 9, 3) := by decide +kernel
theorem dMo_place_5 : decode ccMo_place 5 = .ok (.iload_n 1, 1) := by decide +kernel
theorem dMo_place_6 : decode ccMo_place 6 = .ok (.bipush 20, 2) := by decide +kernel
theorem dMo_place_8 : decode ccMo_place 8 = .ok (.if_icmp .lt 7, 3) := by decide +kernel
theorem dMo_place_11 : decode ccMo_place 11 = .ok (.iconst 1, 1) := by decide +kernel
theorem dMo_place_12 : decode ccMo_place 12 = .ok (.goto 4, 3) := by decide +kernel
theorem dMo_place_15 : decode ccMo_place 15 = .ok (.iconst 0, 1) := by decide +kernel
theorem dMo_place_16 : decode ccMo_place 16 = .ok (.putfield 61, 3) := by decide +kernel
theorem dMo_place_19 : decode ccMo_place 19 = .ok (.aload_n 0, 1) := by decide +kernel
theorem dMo_place_20 : decode ccMo_place 20 = .ok (.getfield 61, 3) := by decide +kernel
theorem dMo_place_23 : decode ccMo_place 23 = .ok (.ifCond .le 7, 3) := by decide +kernel
theorem dMo_place_26 : decode ccMo_place 26 = .ok (.iconst 0, 1) := by decide +kernel
theorem dMo_place_27 : decode ccMo_place 27 = .ok (.goto 9, 3) := by decide +kernel
theorem dMo_place_30 : decode ccMo_place 30 = .ok (.aload_n 0, 1) := by decide +kernel
theorem dMo_place_31 : decode ccMo_place 31 = .ok (.getfield 42, 3) := by decide +kernel
theorem dMo_place_34 : decode ccMo_place 34 = .ok (.iload_n 1, 1) := by decide +kernel
theorem dMo_place_35 : decode ccMo_place 35 = .ok (.iaload, 1) := by decide +kernel
theorem dMo_place_36 : decode ccMo_place 36 = .ok (.ireturn, 1) := by decide +kernel
def fMo_place_16  (z : SM) (s1 : Bool) (a : Int32) : Int32 × SM :=
  (if (bb (s1)) ≤ 0 then (m_plc z a.toNatClampNeg, m_code_s z (bb (s1))) else (0, m_code_s z (bb (s1))))
def fMo_place_11  (z : SM) (a : Int32) : Int32 × SM :=
  fMo_place_16 z true a
def fMo_place (z0 : SM) (a : Int32) : Int32 × SM :=
  (if a < 0 then fMo_place_11 z0 a else (if a < (20 : Int32) then fMo_place_16 z0 false a else fMo_place_11 z0 a))
set_option maxHeartbeats 4000000 in
set_option maxRecDepth 100000 in
theorem kMo_place (l : Launch) (D : va_G) (q : Nat → Nat) (cI cJ cZ : ClassId) (hq : m_inj q) (z0 : SM) (a : Int32)  : Met l yMo_place wsMo_place { frames := 0, cells := 0, slots := 0, locals := 0 } (va_Pc [.ref (q 0), .int (a)] (m_C D q cI cJ cZ z0)) (cQw (some (.int ((fMo_place z0 a).1))) (m_W D q cI cJ cZ (fMo_place z0 a).2) (m_qs q)) 0 0 (m_qs q) := by
  refine Met.ofW (cc := ccMo_place) (maxL := 2) (ret := (some .int)) (by decide +kernel) rfl ?_
  intro p e s m args below meth c s₁ B hml hv
  obtain ⟨rfl, hP, hK⟩ := hv
  have hx := B.exec
  have hb := B.bytes
  have hr := B.returns
  have hts := atoms_spec (ws := wsMo_place) B.pre
  have hown : s.vm.findClass RMo = some m.cls := findClass_of_methodNamed B.named
  have hlocks := B.notSynchronized
  have w0 := hts (.fieldLink RMo 61 "DrumMachineModel" "code" "I") (List.mem_cons_of_mem _ wm4_188)
  have w1 := hts (.fieldLink RMo 42 "DrumMachineModel" "places" "[I") (List.mem_cons_of_mem _ wm4_211)
  have i0 : ∀ w ∈ u_ws RMo TMo 28, w ∈ wsMo_place := fun w h => List.mem_cons_of_mem _ (inAMo w h)
  have hS : va_S (m_qs q) s.heap s.heap [] := va_S.rf
  have hl := lv_entry ([.ref (q 0), .int (a)]) (n := 2) (Nat.le_of_ble_eq_true rfl)
  rw [lg_entry_eq]
  generalize (lg_sl ([.ref (q 0), .int (a)]) ++ List.replicate (2 - (lg_sl ([.ref (q 0), .int (a)])).length) Slot.unset).toArray = ls at hl ⊢
  have hl : lv_has ls 2 [(0, .ref (q 0)), (1, .int (a))] := hl
  have hB16 : ∀ (H : Heap) (locs : List Loc) (ls : Array Slot) (z : SM) (s1 : Bool), fMo_place z0 a = fMo_place_16 z s1 a → (s1 = false → vp_in a 20) → m_W D q cI cJ cZ z H → va_S (m_qs q) s.heap H locs → lv_has ls 2 [(0, .ref (q 0)), (1, .int (a))] → W p l e (headSpec wsMo_place { frames := 0, cells := 0, slots := 0, locals := 0 }).room s m ([.ref (q 0), .int (a)] : List Value).toArray below meth c H locs 0 0 (MQ below (cQw (some (.int ((fMo_place z0 a).1))) (m_W D q cI cJ cZ (fMo_place z0 a).2) (m_qs q)) ([.ref (q 0), .int (a)] : List Value).toArray s 0 0 (m_qs q)) (F0 m 16 ls [.int (bb (s1)), .ref (q 0)]) := by
    intro H locs ls z s1 hR hs hP hS hl
    rw [fMo_place_16.eq_1] at hR
    refine mp0_code (bb (s1)) hq hS hx hb hts i0 hown hK hP w0 dMo_place_16 (fun H locs hP hS => ?_)
    refine lv_aload_n hx hb dMo_place_19 rfl (lv_at hl 0 rfl) ?_
    refine mg0_code_e (v := bb (s1)) (m_code_code _ _) hx hb hts i0 hown hK hP w0 dMo_place_20 ?_
    refine lv_if_le hx hb dMo_place_23 rfl (fun h23 => ?_) (fun h23 => ?_)
    · have hR := hR.trans (if_pos h23)
      refine lv_aload_n hx hb dMo_place_30 rfl (lv_at hl 0 rfl) ?_
      refine mg0_places hx hb hts i0 hown hK hP w1 dMo_place_31 ?_
      refine lv_iload_n hx hb dMo_place_34 rfl (lv_at hl 1 rfl) ?_
      refine ml_plc_e (f := m_plc z) ((m_plc_code _ _).trans (rfl)) hx hb hK hP (hs (bb_le h23)) dMo_place_35 ?_
      exact W.iret hx hb hr (fun t ht _ => ⟨by rw [hR]; first | done | rfl, by rw [hR, ht]; exact hP, hS.F ht⟩) hS.2.2 dMo_place_36
    · have hR := hR.trans (if_neg h23)
      refine lv_iconst (v := 0) hx hb dMo_place_26 (by decide) ?_
      refine lv_goto hx hb dMo_place_27 rfl ?_
      exact W.iret hx hb hr (fun t ht _ => ⟨by rw [hR]; first | done | rfl, by rw [hR, ht]; exact hP, hS.F ht⟩) hS.2.2 dMo_place_36
  have hB11 : ∀ (H : Heap) (locs : List Loc) (ls : Array Slot) (z : SM), fMo_place z0 a = fMo_place_11 z a → m_W D q cI cJ cZ z H → va_S (m_qs q) s.heap H locs → lv_has ls 2 [(0, .ref (q 0)), (1, .int (a))] → W p l e (headSpec wsMo_place { frames := 0, cells := 0, slots := 0, locals := 0 }).room s m ([.ref (q 0), .int (a)] : List Value).toArray below meth c H locs 0 0 (MQ below (cQw (some (.int ((fMo_place z0 a).1))) (m_W D q cI cJ cZ (fMo_place z0 a).2) (m_qs q)) ([.ref (q 0), .int (a)] : List Value).toArray s 0 0 (m_qs q)) (F0 m 11 ls [.ref (q 0)]) := by
    intro H locs ls z hR hP hS hl
    rw [fMo_place_11.eq_1] at hR
    refine lv_iconst (v := 1) hx hb dMo_place_11 (by decide) ?_
    refine lv_goto hx hb dMo_place_12 rfl ?_
    exact hB16 H locs ls z true hR (fun h => absurd h (by decide)) hP hS (lv_sub hl [0, 1] rfl)
  have hR := fMo_place.eq_1 z0 a
  refine lv_aload_n hx hb dMo_place_0 rfl (lv_at hl 0 rfl) ?_
  refine lv_iload_n hx hb dMo_place_1 rfl (lv_at hl 1 rfl) ?_
  refine lv_if_lt hx hb dMo_place_2 rfl (fun h2 => ?_) (fun h2 => ?_)
  · have hR := hR.trans (if_pos h2)
    exact hB11 s.heap [] ls z0 hR hP hS (lv_sub hl [0, 1] rfl)
  · have hR := hR.trans (if_neg h2)
    refine lv_iload_n hx hb dMo_place_5 rfl (lv_at hl 1 rfl) ?_
    refine lv_bipush (v := 20) hx hb dMo_place_6 (by decide) ?_
    refine lv_icmp_lt hx hb dMo_place_8 rfl (fun h8 => ?_) (fun h8 => ?_)
    · have hR := hR.trans (if_pos h8)
      refine lv_iconst (v := 0) hx hb dMo_place_15 (by decide) ?_
      exact hB16 s.heap [] ls z0 false hR (fun _ => s20_in h2 h8) hP hS (lv_sub hl [0, 1] rfl)
    · have hR := hR.trans (if_neg h8)
      exact hB11 s.heap [] ls z0 hR hP hS (lv_sub hl [0, 1] rfl)
theorem dMo_get_0 : decode ccMo_get 0 = .ok (.aload_n 0, 1) := by decide +kernel
theorem dMo_get_1 : decode ccMo_get 1 = .ok (.iload_n 1, 1) := by decide +kernel
theorem dMo_get_2 : decode ccMo_get 2 = .ok (.invokestatic 75, 3) := by decide +kernel
theorem dMo_get_5 : decode ccMo_get 5 = .ok (.ifCond .eq 7, 3) := by decide +kernel
theorem dMo_get_8 : decode ccMo_get 8 = .ok (.iconst 0, 1) := by decide +kernel
theorem dMo_get_9 : decode ccMo_get 9 = .ok (.goto 4, 3) := by decide +kernel
theorem dMo_get_12 : decode ccMo_get 12 = .ok (.iconst 1, 1) := by decide +kernel
theorem dMo_get_13 : decode ccMo_get 13 = .ok (.putfield 61, 3) := by decide +kernel
theorem dMo_get_16 : decode ccMo_get 16 = .ok (.aload_n 0, 1) := by decide +kernel
theorem dMo_get_17 : decode ccMo_get 17 = .ok (.getfield 61, 3) := by decide +kernel
theorem dMo_get_20 : decode ccMo_get 20 = .ok (.ifCond .le 5, 3) := by decide +kernel
theorem dMo_get_23 : decode ccMo_get 23 = .ok (.lconst 0, 1) := by decide +kernel
theorem dMo_get_24 : decode ccMo_get 24 = .ok (.lreturn, 1) := by decide +kernel
theorem dMo_get_25 : decode ccMo_get 25 = .ok (.aload_n 0, 1) := by decide +kernel
theorem dMo_get_26 : decode ccMo_get 26 = .ok (.iload_n 1, 1) := by decide +kernel
theorem dMo_get_27 : decode ccMo_get 27 = .ok (.invokevirtual 83, 3) := by decide +kernel
theorem dMo_get_30 : decode ccMo_get 30 = .ok (.lstore_n 2, 1) := by decide +kernel
theorem dMo_get_31 : decode ccMo_get 31 = .ok (.lload_n 2, 1) := by decide +kernel
theorem dMo_get_32 : decode ccMo_get 32 = .ok (.lconst 0, 1) := by decide +kernel
theorem dMo_get_33 : decode ccMo_get 33 = .ok (.lcmp, 1) := by decide +kernel
theorem dMo_get_34 : decode ccMo_get 34 = .ok (.ifCond .ge 9, 3) := by decide +kernel
theorem dMo_get_37 : decode ccMo_get 37 = .ok (.ldc2_w 226, 3) := by decide +kernel
theorem dMo_get_40 : decode ccMo_get 40 = .ok (.goto 18, 3) := by decide +kernel
theorem dMo_get_43 : decode ccMo_get 43 = .ok (.aload_n 0, 1) := by decide +kernel
theorem dMo_get_44 : decode ccMo_get 44 = .ok (.getfield 13, 3) := by decide +kernel
theorem dMo_get_47 : decode ccMo_get 47 = .ok (.iload_n 1, 1) := by decide +kernel
theorem dMo_get_48 : decode ccMo_get 48 = .ok (.baload, 1) := by decide +kernel
theorem dMo_get_49 : decode ccMo_get 49 = .ok (.ifCond .eq 8, 3) := by decide +kernel
theorem dMo_get_52 : decode ccMo_get 52 = .ok (.lload_n 2, 1) := by decide +kernel
theorem dMo_get_53 : decode ccMo_get 53 = .ok (.lneg, 1) := by decide +kernel
theorem dMo_get_54 : decode ccMo_get 54 = .ok (.goto 4, 3) := by decide +kernel
theorem dMo_get_57 : decode ccMo_get 57 = .ok (.lload_n 2, 1) := by decide +kernel
theorem dMo_get_58 : decode ccMo_get 58 = .ok (.lreturn, 1) := by decide +kernel
def fMo_get_13  (z : SM) (s1 : Bool) (a : Int32) : Int64 × SM :=
  (if (bb (s1)) ≤ 0 then (if 0 ≤ (fMo_value (m_code_s z (bb (s1))) a) then (if (m_dmin z a.toNatClampNeg) = true then (-(fMo_value (m_code_s z (bb (s1))) a), m_code_s z (bb (s1))) else (fMo_value (m_code_s z (bb (s1))) a, m_code_s z (bb (s1)))) else ((-10000000000), m_code_s z (bb (s1)))) else (0, m_code_s z (bb (s1))))
def fMo_get (z0 : SM) (a : Int32) : Int64 × SM :=
  (if (fMo_isAddress a) = true then fMo_get_13 z0 false a else fMo_get_13 z0 true a)
set_option maxHeartbeats 4000000 in
set_option maxRecDepth 100000 in
theorem kMo_get (l : Launch) (D : va_G) (q : Nat → Nat) (cI cJ cZ : ClassId) (hq : m_inj q) (z0 : SM) (a : Int32)  : Met l yMo_get wsMo_get { frames := 2, cells := 0, slots := 0, locals := 49 } (va_Pc [.ref (q 0), .int (a)] (m_C D q cI cJ cZ z0)) (cQw (some (.long ((fMo_get z0 a).1))) (m_W D q cI cJ cZ (fMo_get z0 a).2) (m_qs q)) 0 0 (m_qs q) := by
  refine Met.ofW (cc := ccMo_get) (maxL := 4) (ret := (some .long)) (by decide +kernel) rfl ?_
  intro p e s m args below meth c s₁ B hml hv
  obtain ⟨rfl, hP, hK⟩ := hv
  have hx := B.exec
  have hb := B.bytes
  have hr := B.returns
  have hts := atoms_spec (ws := wsMo_get) B.pre
  have hown : s.vm.findClass RMo = some m.cls := findClass_of_methodNamed B.named
  have hlocks := B.notSynchronized
  have w0 := hts (.fieldLink RMo 61 "DrumMachineModel" "code" "I") (List.mem_cons_of_mem _ wm4_188)
  have w1 := hts (.fieldLink RMo 13 "DrumMachineModel" "minus" "[Z") (List.mem_cons_of_mem _ wm4_190)
  have w2 := hts (.constantLong RMo 226 (-10000000000)) (List.mem_cons_of_mem _ wm5_214)
  have i0 : ∀ w ∈ u_ws RMo TMo 28, w ∈ wsMo_get := fun w h => List.mem_cons_of_mem _ (inAMo w h)
  have hS : va_S (m_qs q) s.heap s.heap [] := va_S.rf
  have hl := lv_entry ([.ref (q 0), .int (a)]) (n := 4) (Nat.le_of_ble_eq_true rfl)
  rw [lg_entry_eq]
  generalize (lg_sl ([.ref (q 0), .int (a)]) ++ List.replicate (4 - (lg_sl ([.ref (q 0), .int (a)])).length) Slot.unset).toArray = ls at hl ⊢
  have hl : lv_has ls 4 [(0, .ref (q 0)), (1, .int (a))] := hl
  have hB13 : ∀ (H : Heap) (locs : List Loc) (ls : Array Slot) (z : SM) (s1 : Bool), fMo_get z0 a = fMo_get_13 z s1 a → (s1 = false → vp_in a 200) → m_W D q cI cJ cZ z H → va_S (m_qs q) s.heap H locs → lv_has ls 4 [(0, .ref (q 0)), (1, .int (a))] → W p l e (headSpec wsMo_get { frames := 2, cells := 0, slots := 0, locals := 49 }).room s m ([.ref (q 0), .int (a)] : List Value).toArray below meth c H locs 0 0 (MQ below (cQw (some (.long ((fMo_get z0 a).1))) (m_W D q cI cJ cZ (fMo_get z0 a).2) (m_qs q)) ([.ref (q 0), .int (a)] : List Value).toArray s 0 0 (m_qs q)) (F0 m 13 ls [.int (bb (s1)), .ref (q 0)]) := by
    intro H locs ls z s1 hR hs hP hS hl
    rw [fMo_get_13.eq_1] at hR
    refine mp0_code (bb (s1)) hq hS hx hb hts i0 hown hK hP w0 dMo_get_13 (fun H locs hP hS => ?_)
    refine lv_aload_n hx hb dMo_get_16 rfl (lv_at hl 0 rfl) ?_
    refine mg0_code_e (v := bb (s1)) (m_code_code _ _) hx hb hts i0 hown hK hP w0 dMo_get_17 ?_
    refine lv_if_le hx hb dMo_get_20 rfl (fun h20 => ?_) (fun h20 => ?_)
    · have hR := hR.trans (if_pos h20)
      refine lv_aload_n hx hb dMo_get_25 rfl (lv_at hl 0 rfl) ?_
      refine lv_iload_n hx hb dMo_get_26 rfl (lv_at hl 1 rfl) ?_
      refine cl_rd (W.runV (As := [.int (a)]) (rest := []) ⟨hx, hb, hml, hown, hts⟩ (kMo_value l D q cI cJ cZ hq (m_code_s z (bb (s1))) a (hs (bb_le h20))) (cwV 1 hts (gV wm5_52 wm5_54 ws2_15 wm1_9 wm5_55) rfl rfl rfl (by decide +kernel) ⟨Nat.le_of_ble_eq_true rfl, Nat.le_of_ble_eq_true rfl⟩) (m_preV0 hK hP) rfl rfl hl.1 rfl (lv_room (Nat.le_of_ble_eq_true rfl)) dMo_get_27 ⟨Nat.le_refl _, Nat.le_refl _⟩) ?_
      refine lv_lstore_n (lv' := [(2, .long (fMo_value (m_code_s z (bb (s1))) a)), (0, .ref (q 0)), (1, .int (a))]) hx hb dMo_get_30 rfl hl (by decide) rfl (fun ls hl => ?_)
      refine lv_lload_n hx hb dMo_get_31 rfl (lv_at hl 0 rfl) ?_
      refine lv_lconst (v := 0) hx hb dMo_get_32 (by decide) ?_
      refine lc_ge hx hb dMo_get_33 dMo_get_34 rfl (fun h33 => ?_) (fun h33 => ?_)
      · have hR := hR.trans (if_pos h33)
        refine lv_aload_n hx hb dMo_get_43 rfl (lv_at hl 1 rfl) ?_
        refine mg0_minus hx hb hts i0 hown hK hP w1 dMo_get_44 ?_
        refine lv_iload_n hx hb dMo_get_47 rfl (lv_at hl 2 rfl) ?_
        refine ml_dmin_e (f := m_dmin z) ((m_dmin_code _ _).trans (rfl)) hx hb hK hP (hs (bb_le h20)) dMo_get_48 ?_
        refine wz_ifeq hx hb dMo_get_49 rfl (fun h49 => ?_) (fun h49 => ?_)
        · have hR := hR.trans (if_neg h49)
          refine lv_lload_n hx hb dMo_get_57 rfl (lv_at hl 0 rfl) ?_
          exact W.lret hx hb hr (fun t ht _ => ⟨by rw [hR]; first | done | rfl, by rw [hR, ht]; exact hP, hS.F ht⟩) hS.2.2 dMo_get_58
        · have hR := hR.trans (if_pos h49)
          refine lv_lload_n hx hb dMo_get_52 rfl (lv_at hl 0 rfl) ?_
          refine lv_lneg hx hb dMo_get_53 ?_
          refine lv_goto hx hb dMo_get_54 rfl ?_
          exact W.lret hx hb hr (fun t ht _ => ⟨by rw [hR]; first | done | rfl, by rw [hR, ht]; exact hP, hS.F ht⟩) hS.2.2 dMo_get_58
      · have hR := hR.trans (if_neg h33)
        refine lv_ldc2 (v := (-10000000000)) hx hb hown w2 dMo_get_37 ?_
        refine lv_goto hx hb dMo_get_40 rfl ?_
        exact W.lret hx hb hr (fun t ht _ => ⟨by rw [hR]; first | done | rfl, by rw [hR, ht]; exact hP, hS.F ht⟩) hS.2.2 dMo_get_58
    · have hR := hR.trans (if_neg h20)
      refine lv_lconst (v := 0) hx hb dMo_get_23 (by decide) ?_
      exact W.lret hx hb hr (fun t ht _ => ⟨by rw [hR]; first | done | rfl, by rw [hR, ht]; exact hP, hS.F ht⟩) hS.2.2 dMo_get_24
  have hR := fMo_get.eq_1 z0 a
  refine lv_aload_n hx hb dMo_get_0 rfl (lv_at hl 0 rfl) ?_
  refine lv_iload_n hx hb dMo_get_1 rfl (lv_at hl 1 rfl) ?_
  refine cl_rd (W.runS (As := [.int (a)]) (rest := [.ref (q 0)]) ⟨hx, hb, hml, hown, hts⟩ (kMo_isAddress l a) (va_cwS 1 hts (gS wm5_41 wm5_42 wm1_9 wm5_43) rfl rfl rfl (by decide +kernel) ⟨Nat.le_of_ble_eq_true rfl, Nat.le_of_ble_eq_true rfl⟩) (preT) rfl rfl hl.1 rfl (lv_room (Nat.le_of_ble_eq_true rfl)) dMo_get_2 ⟨Nat.le_refl _, Nat.le_refl _⟩) ?_
  refine wz_ifeq hx hb dMo_get_5 rfl (fun h5 => ?_) (fun h5 => ?_)
  · have hR := hR.trans (if_neg h5)
    refine lv_iconst (v := 1) hx hb dMo_get_12 (by decide) ?_
    exact hB13 s.heap [] ls z0 true hR (fun h => absurd h (by decide)) hP hS (lv_sub hl [0, 1] rfl)
  · have hR := hR.trans (if_pos h5)
    refine lv_iconst (v := 0) hx hb dMo_get_8 (by decide) ?_
    refine lv_goto hx hb dMo_get_9 rfl ?_
    exact hB13 s.heap [] ls z0 false hR (fun _ => mha h5) hP hS (lv_sub hl [0, 1] rfl)
theorem dMo_output_0 : decode ccMo_output 0 = .ok (.aload_n 0, 1) := by decide +kernel
theorem dMo_output_1 : decode ccMo_output 1 = .ok (.iload_n 1, 1) := by decide +kernel
theorem dMo_output_2 : decode ccMo_output 2 = .ok (.ifCond .lt 15, 3) := by decide +kernel
theorem dMo_output_5 : decode ccMo_output 5 = .ok (.iload_n 1, 1) := by decide +kernel
theorem dMo_output_6 : decode ccMo_output 6 = .ok (.aload_n 0, 1) := by decide +kernel
theorem dMo_output_7 : decode ccMo_output 7 = .ok (.getfield 137, 3) := by decide +kernel
theorem dMo_output_10 : decode ccMo_output 10 = .ok (.if_icmp .ge 7, 3) := by decide +kernel
theorem dMo_output_13 : decode ccMo_output 13 = .ok (.iconst 0, 1) := by decide +kernel
theorem dMo_output_14 : decode ccMo_output 14 = .ok (.goto 4, 3) := by decide +kernel
theorem dMo_output_17 : decode ccMo_output 17 = .ok (.iconst 1, 1) := by decide +kernel
theorem dMo_output_18 : decode ccMo_output 18 = .ok (.putfield 61, 3) := by decide +kernel
theorem dMo_output_21 : decode ccMo_output 21 = .ok (.aload_n 0, 1) := by decide +kernel
theorem dMo_output_22 : decode ccMo_output 22 = .ok (.getfield 61, 3) := by decide +kernel
theorem dMo_output_25 : decode ccMo_output 25 = .ok (.ifCond .le 7, 3) := by decide +kernel
theorem dMo_output_28 : decode ccMo_output 28 = .ok (.lconst 0, 1) := by decide +kernel
theorem dMo_output_29 : decode ccMo_output 29 = .ok (.goto 9, 3) := by decide +kernel
theorem dMo_output_32 : decode ccMo_output 32 = .ok (.aload_n 0, 1) := by decide +kernel
theorem dMo_output_33 : decode ccMo_output 33 = .ok (.getfield 24, 3) := by decide +kernel
theorem dMo_output_36 : decode ccMo_output 36 = .ok (.iload_n 1, 1) := by decide +kernel
theorem dMo_output_37 : decode ccMo_output 37 = .ok (.laload, 1) := by decide +kernel
theorem dMo_output_38 : decode ccMo_output 38 = .ok (.lreturn, 1) := by decide +kernel
def fMo_output_18  (z : SM) (s1 : Bool) (a : Int32) : Int64 × SM :=
  (if (bb (s1)) ≤ 0 then (m_outp z a.toNatClampNeg, m_code_s z (bb (s1))) else (0, m_code_s z (bb (s1))))
def fMo_output_17  (z : SM) (a : Int32) : Int64 × SM :=
  fMo_output_18 z true a
def fMo_output (z0 : SM) (a : Int32) : Int64 × SM :=
  (if a < 0 then fMo_output_17 z0 a else (if (m_outs z0) ≤ a then fMo_output_17 z0 a else fMo_output_18 z0 false a))
set_option maxHeartbeats 4000000 in
set_option maxRecDepth 100000 in
theorem kMo_output (l : Launch) (D : va_G) (q : Nat → Nat) (cI cJ cZ : ClassId) (hq : m_inj q) (z0 : SM) (a : Int32) (hou : 0 ≤ (m_outs z0).toInt ∧ (m_outs z0).toInt ≤ 40) : Met l yMo_output wsMo_output { frames := 0, cells := 0, slots := 0, locals := 0 } (va_Pc [.ref (q 0), .int (a)] (m_C D q cI cJ cZ z0)) (cQw (some (.long ((fMo_output z0 a).1))) (m_W D q cI cJ cZ (fMo_output z0 a).2) (m_qs q)) 0 0 (m_qs q) := by
  refine Met.ofW (cc := ccMo_output) (maxL := 2) (ret := (some .long)) (by decide +kernel) rfl ?_
  intro p e s m args below meth c s₁ B hml hv
  obtain ⟨rfl, hP, hK⟩ := hv
  have hx := B.exec
  have hb := B.bytes
  have hr := B.returns
  have hts := atoms_spec (ws := wsMo_output) B.pre
  have hown : s.vm.findClass RMo = some m.cls := findClass_of_methodNamed B.named
  have hlocks := B.notSynchronized
  have w0 := hts (.fieldLink RMo 61 "DrumMachineModel" "code" "I") (List.mem_cons_of_mem _ wm4_188)
  have w1 := hts (.fieldLink RMo 24 "DrumMachineModel" "output" "[J") (List.mem_cons_of_mem _ wm4_204)
  have w2 := hts (.fieldLink RMo 137 "DrumMachineModel" "outputs" "I") (List.mem_cons_of_mem _ wm4_203)
  have i0 : ∀ w ∈ u_ws RMo TMo 28, w ∈ wsMo_output := fun w h => List.mem_cons_of_mem _ (inAMo w h)
  have hS : va_S (m_qs q) s.heap s.heap [] := va_S.rf
  have hl := lv_entry ([.ref (q 0), .int (a)]) (n := 2) (Nat.le_of_ble_eq_true rfl)
  rw [lg_entry_eq]
  generalize (lg_sl ([.ref (q 0), .int (a)]) ++ List.replicate (2 - (lg_sl ([.ref (q 0), .int (a)])).length) Slot.unset).toArray = ls at hl ⊢
  have hl : lv_has ls 2 [(0, .ref (q 0)), (1, .int (a))] := hl
  have hB18 : ∀ (H : Heap) (locs : List Loc) (ls : Array Slot) (z : SM) (s1 : Bool), fMo_output z0 a = fMo_output_18 z s1 a → (s1 = false → vp_in a 40) → m_W D q cI cJ cZ z H → va_S (m_qs q) s.heap H locs → lv_has ls 2 [(0, .ref (q 0)), (1, .int (a))] → W p l e (headSpec wsMo_output { frames := 0, cells := 0, slots := 0, locals := 0 }).room s m ([.ref (q 0), .int (a)] : List Value).toArray below meth c H locs 0 0 (MQ below (cQw (some (.long ((fMo_output z0 a).1))) (m_W D q cI cJ cZ (fMo_output z0 a).2) (m_qs q)) ([.ref (q 0), .int (a)] : List Value).toArray s 0 0 (m_qs q)) (F0 m 18 ls [.int (bb (s1)), .ref (q 0)]) := by
    intro H locs ls z s1 hR hs hP hS hl
    rw [fMo_output_18.eq_1] at hR
    refine mp0_code (bb (s1)) hq hS hx hb hts i0 hown hK hP w0 dMo_output_18 (fun H locs hP hS => ?_)
    refine lv_aload_n hx hb dMo_output_21 rfl (lv_at hl 0 rfl) ?_
    refine mg0_code_e (v := bb (s1)) (m_code_code _ _) hx hb hts i0 hown hK hP w0 dMo_output_22 ?_
    refine lv_if_le hx hb dMo_output_25 rfl (fun h25 => ?_) (fun h25 => ?_)
    · have hR := hR.trans (if_pos h25)
      refine lv_aload_n hx hb dMo_output_32 rfl (lv_at hl 0 rfl) ?_
      refine mg0_output hx hb hts i0 hown hK hP w1 dMo_output_33 ?_
      refine lv_iload_n hx hb dMo_output_36 rfl (lv_at hl 1 rfl) ?_
      refine ml_outp_e (f := m_outp z) ((m_outp_code _ _).trans (rfl)) hx hb hK hP (hs (bb_le h25)) dMo_output_37 ?_
      exact W.lret hx hb hr (fun t ht _ => ⟨by rw [hR]; first | done | rfl, by rw [hR, ht]; exact hP, hS.F ht⟩) hS.2.2 dMo_output_38
    · have hR := hR.trans (if_neg h25)
      refine lv_lconst (v := 0) hx hb dMo_output_28 (by decide) ?_
      refine lv_goto hx hb dMo_output_29 rfl ?_
      exact W.lret hx hb hr (fun t ht _ => ⟨by rw [hR]; first | done | rfl, by rw [hR, ht]; exact hP, hS.F ht⟩) hS.2.2 dMo_output_38
  have hB17 : ∀ (H : Heap) (locs : List Loc) (ls : Array Slot) (z : SM), fMo_output z0 a = fMo_output_17 z a → m_W D q cI cJ cZ z H → va_S (m_qs q) s.heap H locs → lv_has ls 2 [(0, .ref (q 0)), (1, .int (a))] → W p l e (headSpec wsMo_output { frames := 0, cells := 0, slots := 0, locals := 0 }).room s m ([.ref (q 0), .int (a)] : List Value).toArray below meth c H locs 0 0 (MQ below (cQw (some (.long ((fMo_output z0 a).1))) (m_W D q cI cJ cZ (fMo_output z0 a).2) (m_qs q)) ([.ref (q 0), .int (a)] : List Value).toArray s 0 0 (m_qs q)) (F0 m 17 ls [.ref (q 0)]) := by
    intro H locs ls z hR hP hS hl
    rw [fMo_output_17.eq_1] at hR
    refine lv_iconst (v := 1) hx hb dMo_output_17 (by decide) ?_
    exact hB18 H locs ls z true hR (fun h => absurd h (by decide)) hP hS (lv_sub hl [0, 1] rfl)
  have hR := fMo_output.eq_1 z0 a
  refine lv_aload_n hx hb dMo_output_0 rfl (lv_at hl 0 rfl) ?_
  refine lv_iload_n hx hb dMo_output_1 rfl (lv_at hl 1 rfl) ?_
  refine lv_if_lt hx hb dMo_output_2 rfl (fun h2 => ?_) (fun h2 => ?_)
  · have hR := hR.trans (if_pos h2)
    exact hB17 s.heap [] ls z0 hR hP hS (lv_sub hl [0, 1] rfl)
  · have hR := hR.trans (if_neg h2)
    refine lv_iload_n hx hb dMo_output_5 rfl (lv_at hl 1 rfl) ?_
    refine lv_aload_n hx hb dMo_output_6 rfl (lv_at hl 0 rfl) ?_
    refine mg0_outputs hx hb hts i0 hown hK hP w2 dMo_output_7 ?_
    refine lv_icmp_ge hx hb dMo_output_10 rfl (fun h10 => ?_) (fun h10 => ?_)
    · have hR := hR.trans (if_pos h10)
      exact hB17 s.heap [] ls z0 hR hP hS (lv_sub hl [0, 1] rfl)
    · have hR := hR.trans (if_neg h10)
      refine lv_iconst (v := 0) hx hb dMo_output_13 (by decide) ?_
      refine lv_goto hx hb dMo_output_14 rfl ?_
      exact hB18 s.heap [] ls z0 false hR (fun _ => o40_in h2 h10 hou.2) hP hS (lv_sub hl [0, 1] rfl)
theorem dMo_line_0 : decode ccMo_line 0 = .ok (.aload_n 0, 1) := by decide +kernel
theorem dMo_line_1 : decode ccMo_line 1 = .ok (.iconst 0, 1) := by decide +kernel
theorem dMo_line_2 : decode ccMo_line 2 = .ok (.putfield 61, 3) := by decide +kernel
theorem dMo_line_5 : decode ccMo_line 5 = .ok (.iload_n 2, 1) := by decide +kernel
theorem dMo_line_6 : decode ccMo_line 6 = .ok (.invokestatic 174, 3) := by decide +kernel
theorem dMo_line_9 : decode ccMo_line 9 = .ok (.ifCond .eq 50, 3) := by decide +kernel
theorem dMo_line_12 : decode ccMo_line 12 = .ok (.iload_n 1, 1) := by decide +kernel
theorem dMo_line_13 : decode ccMo_line 13 = .ok (.invokestatic 199, 3) := by decide +kernel
theorem dMo_line_16 : decode ccMo_line 16 = .ok (.ifCond .eq 43, 3) := by decide +kernel
theorem dMo_line_19 : decode ccMo_line 19 = .ok (.iload 4, 2) := by decide +kernel
theorem dMo_line_21 : decode ccMo_line 21 = .ok (.invokestatic 199, 3) := by decide +kernel
theorem dMo_line_24 : decode ccMo_line 24 = .ok (.ifCond .eq 35, 3) := by decide +kernel
theorem dMo_line_27 : decode ccMo_line 27 = .ok (.iload_n 2, 1) := by decide +kernel
theorem dMo_line_28 : decode ccMo_line 28 = .ok (.invokestatic 96, 3) := by decide +kernel
theorem dMo_line_31 : decode ccMo_line 31 = .ok (.ifCond .eq 17, 3) := by decide +kernel
theorem dMo_line_34 : decode ccMo_line 34 = .ok (.iload_n 3, 1) := by decide +kernel
theorem dMo_line_35 : decode ccMo_line 35 = .ok (.iconst (-1), 1) := by decide +kernel
theorem dMo_line_36 : decode ccMo_line 36 = .ok (.if_icmp .lt 23, 3) := by decide +kernel
theorem dMo_line_39 : decode ccMo_line 39 = .ok (.iload_n 3, 1) := by decide +kernel
theorem dMo_line_40 : decode ccMo_line 40 = .ok (.bipush 9, 2) := by decide +kernel
theorem dMo_line_42 : decode ccMo_line 42 = .ok (.if_icmp .gt 17, 3) := by decide +kernel
theorem dMo_line_45 : decode ccMo_line 45 = .ok (.goto 10, 3) := by decide +kernel
theorem dMo_line_48 : decode ccMo_line 48 = .ok (.iload_n 3, 1) := by decide +kernel
theorem dMo_line_49 : decode ccMo_line 49 = .ok (.invokestatic 199, 3) := by decide +kernel
theorem dMo_line_52 : decode ccMo_line 52 = .ok (.ifCond .eq 7, 3) := by decide +kernel
theorem dMo_line_55 : decode ccMo_line 55 = .ok (.iconst 1, 1) := by decide +kernel
theorem dMo_line_56 : decode ccMo_line 56 = .ok (.goto 4, 3) := by decide +kernel
theorem dMo_line_59 : decode ccMo_line 59 = .ok (.iconst 0, 1) := by decide +kernel
theorem dMo_line_60 : decode ccMo_line 60 = .ok (.istore 5, 2) := by decide +kernel
theorem dMo_line_62 : decode ccMo_line 62 = .ok (.iload 5, 2) := by decide +kernel
theorem dMo_line_64 : decode ccMo_line 64 = .ok (.ifCond .ne 9, 3) := by decide +kernel
theorem dMo_line_67 : decode ccMo_line 67 = .ok (.aload_n 0, 1) := by decide +kernel
theorem dMo_line_68 : decode ccMo_line 68 = .ok (.iconst 1, 1) := by decide +kernel
theorem dMo_line_69 : decode ccMo_line 69 = .ok (.invokevirtual 202, 3) := by decide +kernel
theorem dMo_line_72 : decode ccMo_line 72 = .ok (.ireturn, 1) := by decide +kernel
theorem dMo_line_73 : decode ccMo_line 73 = .ok (.aload_n 0, 1) := by decide +kernel
theorem dMo_line_74 : decode ccMo_line 74 = .ok (.getfield 205, 3) := by decide +kernel
theorem dMo_line_77 : decode ccMo_line 77 = .ok (.bipush 40, 2) := by decide +kernel
theorem dMo_line_79 : decode ccMo_line 79 = .ok (.if_icmp .ne 9, 3) := by decide +kernel
theorem dMo_line_82 : decode ccMo_line 82 = .ok (.aload_n 0, 1) := by decide +kernel
theorem dMo_line_83 : decode ccMo_line 83 = .ok (.iconst 2, 1) := by decide +kernel
theorem dMo_line_84 : decode ccMo_line 84 = .ok (.invokevirtual 202, 3) := by decide +kernel
theorem dMo_line_87 : decode ccMo_line 87 = .ok (.ireturn, 1) := by decide +kernel
theorem dMo_line_88 : decode ccMo_line 88 = .ok (.aload_n 0, 1) := by decide +kernel
theorem dMo_line_89 : decode ccMo_line 89 = .ok (.getfield 27, 3) := by decide +kernel
theorem dMo_line_92 : decode ccMo_line 92 = .ok (.aload_n 0, 1) := by decide +kernel
theorem dMo_line_93 : decode ccMo_line 93 = .ok (.getfield 205, 3) := by decide +kernel
theorem dMo_line_96 : decode ccMo_line 96 = .ok (.iload_n 1, 1) := by decide +kernel
theorem dMo_line_97 : decode ccMo_line 97 = .ok (.iastore, 1) := by decide +kernel
theorem dMo_line_98 : decode ccMo_line 98 = .ok (.aload_n 0, 1) := by decide +kernel
theorem dMo_line_99 : decode ccMo_line 99 = .ok (.getfield 30, 3) := by decide +kernel
theorem dMo_line_102 : decode ccMo_line 102 = .ok (.aload_n 0, 1) := by decide +kernel
theorem dMo_line_103 : decode ccMo_line 103 = .ok (.getfield 205, 3) := by decide +kernel
theorem dMo_line_106 : decode ccMo_line 106 = .ok (.iload_n 2, 1) := by decide +kernel
theorem dMo_line_107 : decode ccMo_line 107 = .ok (.iastore, 1) := by decide +kernel
theorem dMo_line_108 : decode ccMo_line 108 = .ok (.aload_n 0, 1) := by decide +kernel
theorem dMo_line_109 : decode ccMo_line 109 = .ok (.getfield 33, 3) := by decide +kernel
theorem dMo_line_112 : decode ccMo_line 112 = .ok (.aload_n 0, 1) := by decide +kernel
theorem dMo_line_113 : decode ccMo_line 113 = .ok (.getfield 205, 3) := by decide +kernel
theorem dMo_line_116 : decode ccMo_line 116 = .ok (.iload_n 3, 1) := by decide +kernel
theorem dMo_line_117 : decode ccMo_line 117 = .ok (.iastore, 1) := by decide +kernel
theorem dMo_line_118 : decode ccMo_line 118 = .ok (.aload_n 0, 1) := by decide +kernel
theorem dMo_line_119 : decode ccMo_line 119 = .ok (.getfield 36, 3) := by decide +kernel
theorem dMo_line_122 : decode ccMo_line 122 = .ok (.aload_n 0, 1) := by decide +kernel
theorem dMo_line_123 : decode ccMo_line 123 = .ok (.getfield 205, 3) := by decide +kernel
theorem dMo_line_126 : decode ccMo_line 126 = .ok (.iload 4, 2) := by decide +kernel
theorem dMo_line_128 : decode ccMo_line 128 = .ok (.iastore, 1) := by decide +kernel
theorem dMo_line_129 : decode ccMo_line 129 = .ok (.aload_n 0, 1) := by decide +kernel
theorem dMo_line_130 : decode ccMo_line 130 = .ok (.dup, 1) := by decide +kernel
theorem dMo_line_131 : decode ccMo_line 131 = .ok (.getfield 205, 3) := by decide +kernel
theorem dMo_line_134 : decode ccMo_line 134 = .ok (.iconst 1, 1) := by decide +kernel
theorem dMo_line_135 : decode ccMo_line 135 = .ok (.iadd, 1) := by decide +kernel
theorem dMo_line_136 : decode ccMo_line 136 = .ok (.putfield 205, 3) := by decide +kernel
theorem dMo_line_139 : decode ccMo_line 139 = .ok (.aload_n 0, 1) := by decide +kernel
theorem dMo_line_140 : decode ccMo_line 140 = .ok (.getfield 205, 3) := by decide +kernel
theorem dMo_line_143 : decode ccMo_line 143 = .ok (.iconst 1, 1) := by decide +kernel
theorem dMo_line_144 : decode ccMo_line 144 = .ok (.isub, 1) := by decide +kernel
theorem dMo_line_145 : decode ccMo_line 145 = .ok (.ireturn, 1) := by decide +kernel
def fMo_line_62  (z : SM) (a : Int32) (o : Int32) (d : Int32) (x : Int32) (v5 : Bool) : Int32 × SM :=
  (if v5 = true then (if (m_lines z) = (40 : Int32) then ((fMo_fail z 2).1, (fMo_fail z 2).2) else (((m_lines z) + 1) - 1, m_lines_s (m_foll_s (m_dat_s (m_ops_s (m_loc_s z (upd (m_loc z) ((m_lines z).toNatClampNeg) a)) (upd (m_ops z) ((m_lines z).toNatClampNeg) o)) (upd (m_dat z) ((m_lines z).toNatClampNeg) d)) (upd (m_foll z) ((m_lines z).toNatClampNeg) x)) ((m_lines z) + 1))) else ((fMo_fail z 1).1, (fMo_fail z 1).2))
def fMo_line_60  (z : SM) (s0 : Bool) (a : Int32) (o : Int32) (d : Int32) (x : Int32) : Int32 × SM :=
  fMo_line_62 z a o d x s0
def fMo_line_59  (z : SM) (a : Int32) (o : Int32) (d : Int32) (x : Int32) : Int32 × SM :=
  fMo_line_60 z false a o d x
def fMo_line_55  (z : SM) (a : Int32) (o : Int32) (d : Int32) (x : Int32) : Int32 × SM :=
  fMo_line_60 z true a o d x
def fMo_line (z0 : SM) (a : Int32) (o : Int32) (d : Int32) (x : Int32) : Int32 × SM :=
  (if (fMo_isOperation o) = true then (if (fMo_isPart a) = true then (if (fMo_isPart x) = true then (if (fMo_shifts o) = true then (if d < ((-1) : Int32) then fMo_line_59 (m_code_s z0 0) a o d x else (if (9 : Int32) < d then fMo_line_59 (m_code_s z0 0) a o d x else fMo_line_55 (m_code_s z0 0) a o d x)) else (if (fMo_isPart d) = true then fMo_line_55 (m_code_s z0 0) a o d x else fMo_line_59 (m_code_s z0 0) a o d x)) else fMo_line_59 (m_code_s z0 0) a o d x) else fMo_line_59 (m_code_s z0 0) a o d x) else fMo_line_59 (m_code_s z0 0) a o d x)
set_option maxHeartbeats 4000000 in
set_option maxRecDepth 100000 in
theorem kMo_line (l : Launch) (D : va_G) (q : Nat → Nat) (cI cJ cZ : ClassId) (hq : m_inj q) (z0 : SM) (a : Int32) (o : Int32) (d : Int32) (x : Int32) (hl9 : 0 ≤ (m_lines z0).toInt ∧ (m_lines z0).toInt ≤ 40) : Met l yMo_line wsMo_line { frames := 2, cells := 0, slots := 0, locals := 40 } (va_Pc [.ref (q 0), .int (a), .int (o), .int (d), .int (x)] (m_C D q cI cJ cZ z0)) (cQw (some (.int ((fMo_line z0 a o d x).1))) (m_W D q cI cJ cZ (fMo_line z0 a o d x).2) (m_qs q)) 0 0 (m_qs q) := by
  refine Met.ofW (cc := ccMo_line) (maxL := 6) (ret := (some .int)) (by decide +kernel) rfl ?_
  intro p e s m args below meth c s₁ B hml hv
  obtain ⟨rfl, hP, hK⟩ := hv
  have hx := B.exec
  have hb := B.bytes
  have hr := B.returns
  have hts := atoms_spec (ws := wsMo_line) B.pre
  have hown : s.vm.findClass RMo = some m.cls := findClass_of_methodNamed B.named
  have hlocks := B.notSynchronized
  have w0 := hts (.fieldLink RMo 205 "DrumMachineModel" "lines" "I") (List.mem_cons_of_mem _ wm4_205)
  have w1 := hts (.fieldLink RMo 27 "DrumMachineModel" "location" "[I") (List.mem_cons_of_mem _ wm4_206)
  have w2 := hts (.fieldLink RMo 30 "DrumMachineModel" "operation" "[I") (List.mem_cons_of_mem _ wm4_207)
  have w3 := hts (.fieldLink RMo 33 "DrumMachineModel" "data" "[I") (List.mem_cons_of_mem _ wm4_208)
  have w4 := hts (.fieldLink RMo 36 "DrumMachineModel" "following" "[I") (List.mem_cons_of_mem _ wm4_209)
  have w5 := hts (.fieldLink RMo 61 "DrumMachineModel" "code" "I") (List.mem_cons_of_mem _ wm4_188)
  have i0 : ∀ w ∈ u_ws RMo TMo 28, w ∈ wsMo_line := fun w h => List.mem_cons_of_mem _ (inAMo w h)
  have hS : va_S (m_qs q) s.heap s.heap [] := va_S.rf
  have hl := lv_entry ([.ref (q 0), .int (a), .int (o), .int (d), .int (x)]) (n := 6) (Nat.le_of_ble_eq_true rfl)
  rw [lg_entry_eq]
  generalize (lg_sl ([.ref (q 0), .int (a), .int (o), .int (d), .int (x)]) ++ List.replicate (6 - (lg_sl ([.ref (q 0), .int (a), .int (o), .int (d), .int (x)])).length) Slot.unset).toArray = ls at hl ⊢
  have hl : lv_has ls 6 [(0, .ref (q 0)), (1, .int (a)), (2, .int (o)), (3, .int (d)), (4, .int (x))] := hl
  have hB62 : ∀ (H : Heap) (locs : List Loc) (ls : Array Slot) (z : SM) (v5 : Bool), fMo_line z0 a o d x = fMo_line_62 z a o d x v5 → (0 ≤ (m_lines z).toInt ∧ (m_lines z).toInt ≤ 40) → m_W D q cI cJ cZ z H → va_S (m_qs q) s.heap H locs → lv_has ls 6 [(0, .ref (q 0)), (1, .int (a)), (2, .int (o)), (3, .int (d)), (4, .int (x)), (5, .int (bb (v5)))] → W p l e (headSpec wsMo_line { frames := 2, cells := 0, slots := 0, locals := 40 }).room s m ([.ref (q 0), .int (a), .int (o), .int (d), .int (x)] : List Value).toArray below meth c H locs 0 0 (MQ below (cQw (some (.int ((fMo_line z0 a o d x).1))) (m_W D q cI cJ cZ (fMo_line z0 a o d x).2) (m_qs q)) ([.ref (q 0), .int (a), .int (o), .int (d), .int (x)] : List Value).toArray s 0 0 (m_qs q)) (F0 m 62 ls []) := by
    intro H locs ls z v5 hR hl9 hP hS hl
    rw [fMo_line_62.eq_1] at hR
    refine lv_iload hx hb dMo_line_62 (lv_at hl 5 rfl) ?_
    refine wz_ifne hx hb dMo_line_64 rfl (fun h64 => ?_) (fun h64 => ?_)
    · have hR := hR.trans (if_pos h64)
      refine lv_aload_n hx hb dMo_line_73 rfl (lv_at hl 0 rfl) ?_
      refine mg0_lines hx hb hts i0 hown hK hP w0 dMo_line_74 ?_
      refine lv_bipush (v := 40) hx hb dMo_line_77 (by decide) ?_
      refine lv_icmp_ne hx hb dMo_line_79 rfl (fun h79 => ?_) (fun h79 => ?_)
      · have hR := hR.trans (if_neg h79)
        refine lv_aload_n hx hb dMo_line_88 rfl (lv_at hl 0 rfl) ?_
        refine mg0_location hx hb hts i0 hown hK hP w1 dMo_line_89 ?_
        refine lv_aload_n hx hb dMo_line_92 rfl (lv_at hl 0 rfl) ?_
        refine mg0_lines hx hb hts i0 hown hK hP w0 dMo_line_93 ?_
        refine lv_iload_n hx hb dMo_line_96 rfl (lv_at hl 1 rfl) ?_
        refine ms_loc a hq hS hx hb hK hP (ou_in hl9 h79) dMo_line_97 (fun H locs hP hS => ?_)
        refine lv_aload_n hx hb dMo_line_98 rfl (lv_at hl 0 rfl) ?_
        refine mg0_operation hx hb hts i0 hown hK hP w2 dMo_line_99 ?_
        refine lv_aload_n hx hb dMo_line_102 rfl (lv_at hl 0 rfl) ?_
        refine mg0_lines_e (v := m_lines z) ((m_lines_loc _ _).trans (rfl)) hx hb hts i0 hown hK hP w0 dMo_line_103 ?_
        refine lv_iload_n hx hb dMo_line_106 rfl (lv_at hl 2 rfl) ?_
        refine ms_ops_e o (f := m_ops z) ((m_ops_loc _ _).trans (rfl)) hq hS hx hb hK hP (ou_in hl9 h79) dMo_line_107 (fun H locs hP hS => ?_)
        refine lv_aload_n hx hb dMo_line_108 rfl (lv_at hl 0 rfl) ?_
        refine mg0_data hx hb hts i0 hown hK hP w3 dMo_line_109 ?_
        refine lv_aload_n hx hb dMo_line_112 rfl (lv_at hl 0 rfl) ?_
        refine mg0_lines_e (v := m_lines z) ((m_lines_ops _ _).trans ((m_lines_loc _ _).trans (rfl))) hx hb hts i0 hown hK hP w0 dMo_line_113 ?_
        refine lv_iload_n hx hb dMo_line_116 rfl (lv_at hl 3 rfl) ?_
        refine ms_dat_e d (f := m_dat z) ((m_dat_ops _ _).trans ((m_dat_loc _ _).trans (rfl))) hq hS hx hb hK hP (ou_in hl9 h79) dMo_line_117 (fun H locs hP hS => ?_)
        refine lv_aload_n hx hb dMo_line_118 rfl (lv_at hl 0 rfl) ?_
        refine mg0_following hx hb hts i0 hown hK hP w4 dMo_line_119 ?_
        refine lv_aload_n hx hb dMo_line_122 rfl (lv_at hl 0 rfl) ?_
        refine mg0_lines_e (v := m_lines z) ((m_lines_dat _ _).trans ((m_lines_ops _ _).trans ((m_lines_loc _ _).trans (rfl)))) hx hb hts i0 hown hK hP w0 dMo_line_123 ?_
        refine lv_iload hx hb dMo_line_126 (lv_at hl 4 rfl) ?_
        refine ms_foll_e x (f := m_foll z) ((m_foll_dat _ _).trans ((m_foll_ops _ _).trans ((m_foll_loc _ _).trans (rfl)))) hq hS hx hb hK hP (ou_in hl9 h79) dMo_line_128 (fun H locs hP hS => ?_)
        refine lv_aload_n hx hb dMo_line_129 rfl (lv_at hl 0 rfl) ?_
        refine lv_dup hx hb dMo_line_130 rfl ?_
        refine mg0_lines_e (v := m_lines z) ((m_lines_foll _ _).trans ((m_lines_dat _ _).trans ((m_lines_ops _ _).trans ((m_lines_loc _ _).trans (rfl))))) hx hb hts i0 hown hK hP w0 dMo_line_131 ?_
        refine lv_iconst (v := 1) hx hb dMo_line_134 (by decide) ?_
        refine lv_iadd hx hb dMo_line_135 ?_
        refine mp0_lines ((m_lines z) + 1) hq hS hx hb hts i0 hown hK hP w0 dMo_line_136 (fun H locs hP hS => ?_)
        refine lv_aload_n hx hb dMo_line_139 rfl (lv_at hl 0 rfl) ?_
        refine mg0_lines_e (v := (m_lines z) + 1) (m_lines_lines _ _) hx hb hts i0 hown hK hP w0 dMo_line_140 ?_
        refine lv_iconst (v := 1) hx hb dMo_line_143 (by decide) ?_
        refine lv_isub hx hb dMo_line_144 ?_
        exact W.iret hx hb hr (fun t ht _ => ⟨by rw [hR]; first | done | rfl, by rw [hR, ht]; exact hP, hS.F ht⟩) hS.2.2 dMo_line_145
      · have hR := hR.trans (if_pos h79)
        refine lv_aload_n hx hb dMo_line_82 rfl (lv_at hl 0 rfl) ?_
        refine lv_iconst (v := 2) hx hb dMo_line_83 (by decide) ?_
        refine cl_wr (W.runV (As := [.int (2)]) (rest := []) ⟨hx, hb, hml, hown, hts⟩ (kMo_fail l D q cI cJ cZ hq z 2) (cwV 1 hts (gV wm5_154 wm5_156 ws3_13 wm1_9 wm5_157) rfl rfl rfl (by decide +kernel) ⟨Nat.le_of_ble_eq_true rfl, Nat.le_of_ble_eq_true rfl⟩) (m_preV0 hK hP) rfl rfl hl.1 rfl (lv_room (Nat.le_of_ble_eq_true rfl)) dMo_line_84 ⟨Nat.le_refl _, Nat.le_refl _⟩) hS (fun _ h => h) (fun _ h => h) (fun H locs hP hS => ?_)
        exact W.iret hx hb hr (fun t ht _ => ⟨by rw [hR]; first | done | rfl, by rw [hR, ht]; exact hP, hS.F ht⟩) hS.2.2 dMo_line_87
    · have hR := hR.trans (if_neg h64)
      refine lv_aload_n hx hb dMo_line_67 rfl (lv_at hl 0 rfl) ?_
      refine lv_iconst (v := 1) hx hb dMo_line_68 (by decide) ?_
      refine cl_wr (W.runV (As := [.int (1)]) (rest := []) ⟨hx, hb, hml, hown, hts⟩ (kMo_fail l D q cI cJ cZ hq z 1) (cwV 1 hts (gV wm5_154 wm5_156 ws3_13 wm1_9 wm5_157) rfl rfl rfl (by decide +kernel) ⟨Nat.le_of_ble_eq_true rfl, Nat.le_of_ble_eq_true rfl⟩) (m_preV0 hK hP) rfl rfl hl.1 rfl (lv_room (Nat.le_of_ble_eq_true rfl)) dMo_line_69 ⟨Nat.le_refl _, Nat.le_refl _⟩) hS (fun _ h => h) (fun _ h => h) (fun H locs hP hS => ?_)
      exact W.iret hx hb hr (fun t ht _ => ⟨by rw [hR]; first | done | rfl, by rw [hR, ht]; exact hP, hS.F ht⟩) hS.2.2 dMo_line_72
  have hB60 : ∀ (H : Heap) (locs : List Loc) (ls : Array Slot) (z : SM) (s0 : Bool), fMo_line z0 a o d x = fMo_line_60 z s0 a o d x → (0 ≤ (m_lines z).toInt ∧ (m_lines z).toInt ≤ 40) → m_W D q cI cJ cZ z H → va_S (m_qs q) s.heap H locs → lv_has ls 6 [(0, .ref (q 0)), (1, .int (a)), (2, .int (o)), (3, .int (d)), (4, .int (x))] → W p l e (headSpec wsMo_line { frames := 2, cells := 0, slots := 0, locals := 40 }).room s m ([.ref (q 0), .int (a), .int (o), .int (d), .int (x)] : List Value).toArray below meth c H locs 0 0 (MQ below (cQw (some (.int ((fMo_line z0 a o d x).1))) (m_W D q cI cJ cZ (fMo_line z0 a o d x).2) (m_qs q)) ([.ref (q 0), .int (a), .int (o), .int (d), .int (x)] : List Value).toArray s 0 0 (m_qs q)) (F0 m 60 ls [.int (bb (s0))]) := by
    intro H locs ls z s0 hR hl9 hP hS hl
    rw [fMo_line_60.eq_1] at hR
    refine lv_istore (lv' := [(5, .int (bb (s0))), (0, .ref (q 0)), (1, .int (a)), (2, .int (o)), (3, .int (d)), (4, .int (x))]) hx hb dMo_line_60 hl (by decide) rfl (fun ls hl => ?_)
    exact hB62 H locs ls z s0 hR (by first | assumption | omega) hP hS (lv_sub hl [1, 2, 3, 4, 5, 0] rfl)
  have hB59 : ∀ (H : Heap) (locs : List Loc) (ls : Array Slot) (z : SM), fMo_line z0 a o d x = fMo_line_59 z a o d x → (0 ≤ (m_lines z).toInt ∧ (m_lines z).toInt ≤ 40) → m_W D q cI cJ cZ z H → va_S (m_qs q) s.heap H locs → lv_has ls 6 [(0, .ref (q 0)), (1, .int (a)), (2, .int (o)), (3, .int (d)), (4, .int (x))] → W p l e (headSpec wsMo_line { frames := 2, cells := 0, slots := 0, locals := 40 }).room s m ([.ref (q 0), .int (a), .int (o), .int (d), .int (x)] : List Value).toArray below meth c H locs 0 0 (MQ below (cQw (some (.int ((fMo_line z0 a o d x).1))) (m_W D q cI cJ cZ (fMo_line z0 a o d x).2) (m_qs q)) ([.ref (q 0), .int (a), .int (o), .int (d), .int (x)] : List Value).toArray s 0 0 (m_qs q)) (F0 m 59 ls []) := by
    intro H locs ls z hR hl9 hP hS hl
    rw [fMo_line_59.eq_1] at hR
    refine lv_iconst (v := 0) hx hb dMo_line_59 (by decide) ?_
    exact hB60 H locs ls z false hR (by first | assumption | omega) hP hS (lv_sub hl [0, 1, 2, 3, 4] rfl)
  have hB55 : ∀ (H : Heap) (locs : List Loc) (ls : Array Slot) (z : SM), fMo_line z0 a o d x = fMo_line_55 z a o d x → (0 ≤ (m_lines z).toInt ∧ (m_lines z).toInt ≤ 40) → m_W D q cI cJ cZ z H → va_S (m_qs q) s.heap H locs → lv_has ls 6 [(0, .ref (q 0)), (1, .int (a)), (2, .int (o)), (3, .int (d)), (4, .int (x))] → W p l e (headSpec wsMo_line { frames := 2, cells := 0, slots := 0, locals := 40 }).room s m ([.ref (q 0), .int (a), .int (o), .int (d), .int (x)] : List Value).toArray below meth c H locs 0 0 (MQ below (cQw (some (.int ((fMo_line z0 a o d x).1))) (m_W D q cI cJ cZ (fMo_line z0 a o d x).2) (m_qs q)) ([.ref (q 0), .int (a), .int (o), .int (d), .int (x)] : List Value).toArray s 0 0 (m_qs q)) (F0 m 55 ls []) := by
    intro H locs ls z hR hl9 hP hS hl
    rw [fMo_line_55.eq_1] at hR
    refine lv_iconst (v := 1) hx hb dMo_line_55 (by decide) ?_
    refine lv_goto hx hb dMo_line_56 rfl ?_
    exact hB60 H locs ls z true hR (by first | assumption | omega) hP hS (lv_sub hl [0, 1, 2, 3, 4] rfl)
  have hR := fMo_line.eq_1 z0 a o d x
  refine lv_aload_n hx hb dMo_line_0 rfl (lv_at hl 0 rfl) ?_
  refine lv_iconst (v := 0) hx hb dMo_line_1 (by decide) ?_
  refine mp0_code 0 hq hS hx hb hts i0 hown hK hP w5 dMo_line_2 (fun H locs hP hS => ?_)
  refine lv_iload_n hx hb dMo_line_5 rfl (lv_at hl 2 rfl) ?_
  refine cl_rd (W.runS (As := [.int (o)]) (rest := []) ⟨hx, hb, hml, hown, hts⟩ (kMo_isOperation l o) (va_cwS 1 hts (gS wm5_87 wm5_88 wm1_9 wm5_89) rfl rfl rfl (by decide +kernel) ⟨Nat.le_of_ble_eq_true rfl, Nat.le_of_ble_eq_true rfl⟩) (preT) rfl rfl hl.1 rfl (lv_room (Nat.le_of_ble_eq_true rfl)) dMo_line_6 ⟨Nat.le_refl _, Nat.le_refl _⟩) ?_
  refine wz_ifeq hx hb dMo_line_9 rfl (fun h9 => ?_) (fun h9 => ?_)
  · have hR := hR.trans (if_neg h9)
    exact hB59 H locs ls (m_code_s z0 0) hR (by first | assumption | omega) hP hS (lv_sub hl [0, 1, 2, 3, 4] rfl)
  · have hR := hR.trans (if_pos h9)
    refine lv_iload_n hx hb dMo_line_12 rfl (lv_at hl 1 rfl) ?_
    refine cl_rd (W.runS (As := [.int (a)]) (rest := []) ⟨hx, hb, hml, hown, hts⟩ (kMo_isPart l a) (va_cwS 1 hts (gS wm5_151 wm5_152 wm1_9 wm5_153) rfl rfl rfl (by decide +kernel) ⟨Nat.le_of_ble_eq_true rfl, Nat.le_of_ble_eq_true rfl⟩) (preT) rfl rfl hl.1 rfl (lv_room (Nat.le_of_ble_eq_true rfl)) dMo_line_13 ⟨Nat.le_refl _, Nat.le_refl _⟩) ?_
    refine wz_ifeq hx hb dMo_line_16 rfl (fun h16 => ?_) (fun h16 => ?_)
    · have hR := hR.trans (if_neg h16)
      exact hB59 H locs ls (m_code_s z0 0) hR (by first | assumption | omega) hP hS (lv_sub hl [0, 1, 2, 3, 4] rfl)
    · have hR := hR.trans (if_pos h16)
      refine lv_iload hx hb dMo_line_19 (lv_at hl 4 rfl) ?_
      refine cl_rd (W.runS (As := [.int (x)]) (rest := []) ⟨hx, hb, hml, hown, hts⟩ (kMo_isPart l x) (va_cwS 1 hts (gS wm5_151 wm5_152 wm1_9 wm5_153) rfl rfl rfl (by decide +kernel) ⟨Nat.le_of_ble_eq_true rfl, Nat.le_of_ble_eq_true rfl⟩) (preT) rfl rfl hl.1 rfl (lv_room (Nat.le_of_ble_eq_true rfl)) dMo_line_21 ⟨Nat.le_refl _, Nat.le_refl _⟩) ?_
      refine wz_ifeq hx hb dMo_line_24 rfl (fun h24 => ?_) (fun h24 => ?_)
      · have hR := hR.trans (if_neg h24)
        exact hB59 H locs ls (m_code_s z0 0) hR (by first | assumption | omega) hP hS (lv_sub hl [0, 1, 2, 3, 4] rfl)
      · have hR := hR.trans (if_pos h24)
        refine lv_iload_n hx hb dMo_line_27 rfl (lv_at hl 2 rfl) ?_
        refine cl_rd (W.runS (As := [.int (o)]) (rest := []) ⟨hx, hb, hml, hown, hts⟩ (kMo_shifts l o) (va_cwS 1 hts (gS wm5_96 wm5_97 wm1_9 wm5_98) rfl rfl rfl (by decide +kernel) ⟨Nat.le_of_ble_eq_true rfl, Nat.le_of_ble_eq_true rfl⟩) (preT) rfl rfl hl.1 rfl (lv_room (Nat.le_of_ble_eq_true rfl)) dMo_line_28 ⟨Nat.le_refl _, Nat.le_refl _⟩) ?_
        refine wz_ifeq hx hb dMo_line_31 rfl (fun h31 => ?_) (fun h31 => ?_)
        · have hR := hR.trans (if_neg h31)
          refine lv_iload_n hx hb dMo_line_48 rfl (lv_at hl 3 rfl) ?_
          refine cl_rd (W.runS (As := [.int (d)]) (rest := []) ⟨hx, hb, hml, hown, hts⟩ (kMo_isPart l d) (va_cwS 1 hts (gS wm5_151 wm5_152 wm1_9 wm5_153) rfl rfl rfl (by decide +kernel) ⟨Nat.le_of_ble_eq_true rfl, Nat.le_of_ble_eq_true rfl⟩) (preT) rfl rfl hl.1 rfl (lv_room (Nat.le_of_ble_eq_true rfl)) dMo_line_49 ⟨Nat.le_refl _, Nat.le_refl _⟩) ?_
          refine wz_ifeq hx hb dMo_line_52 rfl (fun h52 => ?_) (fun h52 => ?_)
          · have hR := hR.trans (if_neg h52)
            exact hB59 H locs ls (m_code_s z0 0) hR (by first | assumption | omega) hP hS (lv_sub hl [0, 1, 2, 3, 4] rfl)
          · have hR := hR.trans (if_pos h52)
            exact hB55 H locs ls (m_code_s z0 0) hR (by first | assumption | omega) hP hS (lv_sub hl [0, 1, 2, 3, 4] rfl)
        · have hR := hR.trans (if_pos h31)
          refine lv_iload_n hx hb dMo_line_34 rfl (lv_at hl 3 rfl) ?_
          refine lv_iconst (v := (-1)) hx hb dMo_line_35 (by decide) ?_
          refine lv_icmp_lt hx hb dMo_line_36 rfl (fun h36 => ?_) (fun h36 => ?_)
          · have hR := hR.trans (if_pos h36)
            exact hB59 H locs ls (m_code_s z0 0) hR (by first | assumption | omega) hP hS (lv_sub hl [0, 1, 2, 3, 4] rfl)
          · have hR := hR.trans (if_neg h36)
            refine lv_iload_n hx hb dMo_line_39 rfl (lv_at hl 3 rfl) ?_
            refine lv_bipush (v := 9) hx hb dMo_line_40 (by decide) ?_
            refine lv_icmp_gt hx hb dMo_line_42 rfl (fun h42 => ?_) (fun h42 => ?_)
            · have hR := hR.trans (if_pos h42)
              exact hB59 H locs ls (m_code_s z0 0) hR (by first | assumption | omega) hP hS (lv_sub hl [0, 1, 2, 3, 4] rfl)
            · have hR := hR.trans (if_neg h42)
              refine lv_goto hx hb dMo_line_45 rfl ?_
              exact hB55 H locs ls (m_code_s z0 0) hR (by first | assumption | omega) hP hS (lv_sub hl [0, 1, 2, 3, 4] rfl)
