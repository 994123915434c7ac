theorem endm_v {a : Int32} (ha : vp_in a 200) : (((a / 50) * 50) + 50).toInt = a.toInt / 50 * 50 + 50 := by
  obtain ⟨a1, a2⟩ := vp_in_iff.mp ha
  have e : (50 : Int32).toInt = 50 := by decide
  have hm : (a / 50).toInt = a.toInt / 50 := by
    rw [Kit.i32_div (by rw [e]; omega), e, Int.tdiv_eq_ediv_of_nonneg a1]
  have hs : (a / 50 * 50).toInt = a.toInt / 50 * 50 := by
    rw [Kit.i32_mul (by rw [hm, e]; omega) (by rw [hm, e]; omega), hm, e]
  rw [Kit.i32_add (by rw [hs, e]; omega) (by rw [hs, e]; omega), hs, e]
theorem endm_b {a : Int32} (ha : vp_in a 200) : 0 ≤ a.toInt ∧ a.toInt ≤ (((a / 50) * 50) + 50).toInt ∧ (((a / 50) * 50) + 50).toInt ≤ 200 := by
  have h := endm_v ha
  obtain ⟨a1, a2⟩ := vp_in_iff.mp ha
  omega
theorem endm_m {a : Int32} (ha : vp_in a 200) : ((((a / 50) * 50) + 50).toInt - a.toInt).toNat < 51 := by
  have h := endm_v ha
  obtain ⟨a1, a2⟩ := vp_in_iff.mp ha
  omega
theorem z20 : vp_in 0 20 := vp_in_nI (n := 0) (by decide) (by decide)
theorem cm_in {x : Int32} {k : Nat} (hc : 0 ≤ x.toInt ∧ x.toInt ≤ 19) (h : ¬ x ≤ nI k) (hk : k ≤ 19) : vp_in (nI k) 20 := by
  have h1 := lk_lt h
  rw [nI_toInt (by omega)] at h1
  exact vp_in_nI (by omega) (by decide)
theorem cm_in1 {x : Int32} {k : Nat} (hc : 0 ≤ x.toInt ∧ x.toInt ≤ 19) (h : ¬ x ≤ nI k) (hk : k ≤ 19) : vp_in (nI k + 1) 20 := by
  have h1 := lk_lt h
  rw [nI_toInt (by omega)] at h1
  rw [nI_1]
  exact vp_in_nI (by omega) (by decide)
theorem cm_b {x : Int32} {k : Nat} (hc : 0 ≤ x.toInt ∧ x.toInt ≤ 19) (h : ¬ x ≤ nI k) (hk : k ≤ 19) : k + 1 ≤ 19 := by
  have h1 := lk_lt h
  rw [nI_toInt (by omega)] at h1
  omega
theorem cm_m {x : Int32} {k n : Nat} (hc : 0 ≤ x.toInt ∧ x.toInt ≤ 19) (h : ¬ x ≤ nI k) (hk : k ≤ 19) (hm : 19 - k < n + 1) : 19 - (k + 1) < n := by
  have h1 := lk_lt h
  rw [nI_toInt (by omega)] at h1
  omega
theorem cm_0 {x y : Int32} (e : y = x) (hc : 0 ≤ x.toInt ∧ x.toInt ≤ 20) (h : ¬ x = 0) : 0 ≤ (y - 1).toInt ∧ (y - 1).toInt ≤ 19 := by
  subst e
  have e0 : (0 : Int32).toInt = 0 := by decide
  have e1 : (1 : Int32).toInt = 1 := by decide
  have h1 : ¬ y.toInt = 0 := fun q => h (Int32.toInt_inj.mp (by rw [q, e0]))
  rw [Kit.i32_sub (by omega) (by omega), e1]
  omega
/-- only the drum, the accumulator, the distributor, the time change -/
def mS (z z' : SM) : Prop := m_cards z' = m_cards z ∧ m_outs z' = m_outs z ∧ m_code z' = m_code z ∧ m_lines z' = m_lines z
theorem mS_rf (z : SM) : mS z z := ⟨rfl, rfl, rfl, rfl⟩
theorem mS_tr {x y z : SM} (h1 : mS x y) (h2 : mS y z) : mS x z := ⟨h2.1.trans h1.1, h2.2.1.trans h1.2.1, h2.2.2.1.trans h1.2.2.1, h2.2.2.2.trans h1.2.2.2⟩
theorem mw6 : ∀ (n : Nat) (z : SM) (a : Int32) (b : Bool) (v5 : Int64) (v7 : Nat), mS z (fMo_write_6 n z a b v5 v7) ∧ m_upper (fMo_write_6 n z a b v5 v7) = m_upper z := by
  intro n
  induction n with
  | zero => intro z a b v5 v7; exact ⟨mS_rf z, rfl⟩
  | succ n ih =>
    intro z a b v5 v7
    rw [fMo_write_6.eq_2]
    split
    · exact ⟨⟨rfl, rfl, rfl, rfl⟩, rfl⟩
    · split
      · have h := ih (m_codes_s z (upd (m_codes z) ((10 * a + nI v7).toNatClampNeg) ((1 : Int32) <<< (((v5 % 10).toInt32 % 5) &&& 31) ||| 64))) a b (v5 / 10) (v7 + 1)
        exact h
      · have h := ih (m_codes_s z (upd (m_codes z) ((10 * a + nI v7).toNatClampNeg) ((1 : Int32) <<< (((v5 % 10).toInt32 % 5) &&& 31) ||| 32))) a b (v5 / 10) (v7 + 1)
        exact h
theorem mw (z : SM) (a : Int32) (v : Int64) (b : Bool) : mS z (fMo_write z a v b) ∧ m_upper (fMo_write z a v b) = m_upper z := mw6 _ _ _ _ _ _
theorem mw_cards (z : SM) (a : Int32) (v : Int64) (b : Bool) : m_cards (fMo_write z a v b) = m_cards z := (mw z a v b).1.1
theorem dMo_lookUp_0 : decode ccMo_lookUp 0 = .ok (.iload_n 1, 1) := by decide +kernel
theorem dMo_lookUp_1 : decode ccMo_lookUp 1 = .ok (.bipush 50, 2) := by decide +kernel
theorem dMo_lookUp_3 : decode ccMo_lookUp 3 = .ok (.idiv, 1) := by decide +kernel
theorem dMo_lookUp_4 : decode ccMo_lookUp 4 = .ok (.bipush 50, 2) := by decide +kernel
theorem dMo_lookUp_6 : decode ccMo_lookUp 6 = .ok (.imul, 1) := by decide +kernel
theorem dMo_lookUp_7 : decode ccMo_lookUp 7 = .ok (.bipush 50, 2) := by decide +kernel
theorem dMo_lookUp_9 : decode ccMo_lookUp 9 = .ok (.iadd, 1) := by decide +kernel
theorem dMo_lookUp_10 : decode ccMo_lookUp 10 = .ok (.istore_n 3, 1) := by decide +kernel
theorem dMo_lookUp_11 : decode ccMo_lookUp 11 = .ok (.iload_n 1, 1) := by decide +kernel
theorem dMo_lookUp_12 : decode ccMo_lookUp 12 = .ok (.istore 4, 2) := by decide +kernel
theorem dMo_lookUp_14 : decode ccMo_lookUp 14 = .ok (.iload 4, 2) := by decide +kernel
theorem dMo_lookUp_16 : decode ccMo_lookUp 16 = .ok (.iload_n 3, 1) := by decide +kernel
theorem dMo_lookUp_17 : decode ccMo_lookUp 17 = .ok (.if_icmp .ge 95, 3) := by decide +kernel
theorem dMo_lookUp_20 : decode ccMo_lookUp 20 = .ok (.iload 4, 2) := by decide +kernel
theorem dMo_lookUp_22 : decode ccMo_lookUp 22 = .ok (.iload_n 1, 1) := by decide +kernel
theorem dMo_lookUp_23 : decode ccMo_lookUp 23 = .ok (.if_icmp .le 13, 3) := by decide +kernel
theorem dMo_lookUp_26 : decode ccMo_lookUp 26 = .ok (.aload_n 0, 1) := by decide +kernel
theorem dMo_lookUp_27 : decode ccMo_lookUp 27 = .ok (.dup, 1) := by decide +kernel
theorem dMo_lookUp_28 : decode ccMo_lookUp 28 = .ok (.getfield 99, 3) := by decide +kernel
theorem dMo_lookUp_31 : decode ccMo_lookUp 31 = .ok (.lconst 1, 1) := by decide +kernel
theorem dMo_lookUp_32 : decode ccMo_lookUp 32 = .ok (.ladd, 1) := by decide +kernel
theorem dMo_lookUp_33 : decode ccMo_lookUp 33 = .ok (.putfield 99, 3) := by decide +kernel
theorem dMo_lookUp_36 : decode ccMo_lookUp 36 = .ok (.aload_n 0, 1) := by decide +kernel
theorem dMo_lookUp_37 : decode ccMo_lookUp 37 = .ok (.iload 4, 2) := by decide +kernel
theorem dMo_lookUp_39 : decode ccMo_lookUp 39 = .ok (.invokevirtual 83, 3) := by decide +kernel
theorem dMo_lookUp_42 : decode ccMo_lookUp 42 = .ok (.lstore 5, 2) := by decide +kernel
theorem dMo_lookUp_44 : decode ccMo_lookUp 44 = .ok (.lload 5, 2) := by decide +kernel
theorem dMo_lookUp_46 : decode ccMo_lookUp 46 = .ok (.lconst 0, 1) := by decide +kernel
theorem dMo_lookUp_47 : decode ccMo_lookUp 47 = .ok (.lcmp, 1) := by decide +kernel
theorem dMo_lookUp_48 : decode ccMo_lookUp 48 = .ok (.ifCond .ge 10, 3) := by decide +kernel
theorem dMo_lookUp_51 : decode ccMo_lookUp 51 = .ok (.aload_n 0, 1) := by decide +kernel
theorem dMo_lookUp_52 : decode ccMo_lookUp 52 = .ok (.iconst 1, 1) := by decide +kernel
theorem dMo_lookUp_53 : decode ccMo_lookUp 53 = .ok (.iload_n 2, 1) := by decide +kernel
theorem dMo_lookUp_54 : decode ccMo_lookUp 54 = .ok (.invokevirtual 134, 3) := by decide +kernel
theorem dMo_lookUp_57 : decode ccMo_lookUp 57 = .ok (.ireturn, 1) := by decide +kernel
theorem dMo_lookUp_58 : decode ccMo_lookUp 58 = .ok (.lload 5, 2) := by decide +kernel
theorem dMo_lookUp_60 : decode ccMo_lookUp 60 = .ok (.aload_n 0, 1) := by decide +kernel
theorem dMo_lookUp_61 : decode ccMo_lookUp 61 = .ok (.getfield 140, 3) := by decide +kernel
theorem dMo_lookUp_64 : decode ccMo_lookUp 64 = .ok (.lcmp, 1) := by decide +kernel
theorem dMo_lookUp_65 : decode ccMo_lookUp 65 = .ok (.ifCond .ge 6, 3) := by decide +kernel
theorem dMo_lookUp_68 : decode ccMo_lookUp 68 = .ok (.goto 38, 3) := by decide +kernel
theorem dMo_lookUp_71 : decode ccMo_lookUp 71 = .ok (.aload_n 0, 1) := by decide +kernel
theorem dMo_lookUp_72 : decode ccMo_lookUp 72 = .ok (.aload_n 0, 1) := by decide +kernel
theorem dMo_lookUp_73 : decode ccMo_lookUp 73 = .ok (.getfield 115, 3) := by decide +kernel
theorem dMo_lookUp_76 : decode ccMo_lookUp 76 = .ok (.ldc2_w 164, 3) := by decide +kernel
theorem dMo_lookUp_79 : decode ccMo_lookUp 79 = .ok (.lrem, 1) := by decide +kernel
theorem dMo_lookUp_80 : decode ccMo_lookUp 80 = .ok (.ldc2_w 164, 3) := by decide +kernel
theorem dMo_lookUp_83 : decode ccMo_lookUp 83 = .ok (.iload 4, 2) := by decide +kernel
theorem dMo_lookUp_85 : decode ccMo_lookUp 85 = .ok (.i2l, 1) := by decide +kernel
theorem dMo_lookUp_86 : decode ccMo_lookUp 86 = .ok (.lmul, 1) := by decide +kernel
theorem dMo_lookUp_87 : decode ccMo_lookUp 87 = .ok (.ladd, 1) := by decide +kernel
theorem dMo_lookUp_88 : decode ccMo_lookUp 88 = .ok (.aload_n 0, 1) := by decide +kernel
theorem dMo_lookUp_89 : decode ccMo_lookUp 89 = .ok (.getfield 115, 3) := by decide +kernel
theorem dMo_lookUp_92 : decode ccMo_lookUp 92 = .ok (.ldc2_w 166, 3) := by decide +kernel
theorem dMo_lookUp_95 : decode ccMo_lookUp 95 = .ok (.ldiv, 1) := by decide +kernel
theorem dMo_lookUp_96 : decode ccMo_lookUp 96 = .ok (.ldc2_w 166, 3) := by decide +kernel
theorem dMo_lookUp_99 : decode ccMo_lookUp 99 = .ok (.lmul, 1) := by decide +kernel
theorem dMo_lookUp_100 : decode ccMo_lookUp 100 = .ok (.ladd, 1) := by decide +kernel
theorem dMo_lookUp_101 : decode ccMo_lookUp 101 = .ok (.putfield 115, 3) := by decide +kernel
theorem dMo_lookUp_104 : decode ccMo_lookUp 104 = .ok (.iconst 1, 1) := by decide +kernel
theorem dMo_lookUp_105 : decode ccMo_lookUp 105 = .ok (.ireturn, 1) := by decide +kernel
theorem dMo_lookUp_106 : decode ccMo_lookUp 106 = .ok (.iinc 4 1, 3) := by decide +kernel
theorem dMo_lookUp_109 : decode ccMo_lookUp 109 = .ok (.goto (-95), 3) := by decide +kernel
theorem dMo_lookUp_112 : decode ccMo_lookUp 112 = .ok (.aload_n 0, 1) := by decide +kernel
theorem dMo_lookUp_113 : decode ccMo_lookUp 113 = .ok (.iconst 5, 1) := by decide +kernel
theorem dMo_lookUp_114 : decode ccMo_lookUp 114 = .ok (.iload_n 2, 1) := by decide +kernel
theorem dMo_lookUp_115 : decode ccMo_lookUp 115 = .ok (.invokevirtual 134, 3) := by decide +kernel
theorem dMo_lookUp_118 : decode ccMo_lookUp 118 = .ok (.ireturn, 1) := by decide +kernel
def fMo_lookUp_14  : Nat → SM → Int32 → Int32 → Int32 → Int32 → Bool × SM
  | 0, z, a, w, v3, v4 => (false, z)
  | fu + 1, z, a, w, v3, v4 => (if v3 ≤ v4 then ((fMo_stop z 5 w).1, (fMo_stop z 5 w).2) else (if v4 ≤ a then (if 0 ≤ (fMo_value z v4) then (if (m_dist z) ≤ (fMo_value z v4) then (true, m_lower_s z ((((m_lower z) % 10000) + (10000 * v4.toInt64)) + (((m_lower z) / 100000000) * 100000000))) else fMo_lookUp_14 fu z a w v3 (v4 + 1)) else ((fMo_stop z 1 w).1, (fMo_stop z 1 w).2)) else (if 0 ≤ (fMo_value (m_time_s z ((m_time z) + 1)) v4) then (if (m_dist z) ≤ (fMo_value (m_time_s z ((m_time z) + 1)) v4) then (true, m_lower_s (m_time_s z ((m_time z) + 1)) ((((m_lower z) % 10000) + (10000 * v4.toInt64)) + (((m_lower z) / 100000000) * 100000000))) else fMo_lookUp_14 fu (m_time_s z ((m_time z) + 1)) a w v3 (v4 + 1)) else ((fMo_stop (m_time_s z ((m_time z) + 1)) 1 w).1, (fMo_stop (m_time_s z ((m_time z) + 1)) 1 w).2))))
def fMo_lookUp (z0 : SM) (a : Int32) (w : Int32) : Bool × SM :=
  fMo_lookUp_14 51 z0 a w (((a / 50) * 50) + 50) a
set_option maxHeartbeats 4000000 in
set_option maxRecDepth 100000 in
theorem kMo_lookUp (l : Launch) (D : va_G) (q : Nat → Nat) (cI cJ cZ : ClassId) (hq : m_inj q) (z0 : SM) (a : Int32) (w : Int32) (ha : vp_in a 200) : Met l yMo_lookUp wsMo_lookUp { frames := 2, cells := 0, slots := 0, locals := 49 } (va_Pc [.ref (q 0), .int (a), .int (w)] (m_C D q cI cJ cZ z0)) (cQw (some (.int (bb ((fMo_lookUp z0 a w).1)))) (m_W D q cI cJ cZ (fMo_lookUp z0 a w).2) (m_qs q)) 0 0 (m_qs q) := by
  refine Met.ofW (cc := ccMo_lookUp) (maxL := 7) (ret := (some .boolean)) (by decide +kernel) rfl ?_
  intro p e s m args below meth c s₁ B hml hv
  obtain ⟨rfl, hP, hK⟩ := hv
  have hx := B.exec
  have hb := B.bytes
  have hr := B.returns
  have hts := atoms_spec (ws := wsMo_lookUp) B.pre
  have hown : s.vm.findClass RMo = some m.cls := findClass_of_methodNamed B.named
  have hlocks := B.notSynchronized
  have w0 := hts (.fieldLink RMo 140 "DrumMachineModel" "distributor" "J") (List.mem_cons_of_mem _ wm4_193)
  have w1 := hts (.fieldLink RMo 115 "DrumMachineModel" "lower" "J") (List.mem_cons_of_mem _ wm4_192)
  have w2 := hts (.constantLong RMo 164 (10000)) (List.mem_cons_of_mem _ wm5_86)
  have w3 := hts (.constantLong RMo 166 (100000000)) (List.mem_cons_of_mem _ wm5_85)
  have w4 := hts (.fieldLink RMo 99 "DrumMachineModel" "time" "J") (List.mem_cons_of_mem _ wm4_199)
  have i0 : ∀ w ∈ u_ws RMo TMo 28, w ∈ wsMo_lookUp := fun w h => List.mem_cons_of_mem _ (inAMo w h)
  have hS : va_S (m_qs q) s.heap s.heap [] := va_S.rf
  have hl := lv_entry ([.ref (q 0), .int (a), .int (w)]) (n := 7) (Nat.le_of_ble_eq_true rfl)
  rw [lg_entry_eq]
  generalize (lg_sl ([.ref (q 0), .int (a), .int (w)]) ++ List.replicate (7 - (lg_sl ([.ref (q 0), .int (a), .int (w)])).length) Slot.unset).toArray = ls at hl ⊢
  have hl : lv_has ls 7 [(0, .ref (q 0)), (1, .int (a)), (2, .int (w))] := hl
  have hB14 : ∀ (n14 : Nat) (H : Heap) (locs : List Loc) (ls : Array Slot) (z : SM) (v3 : Int32) (v4 : Int32), (v3.toInt - v4.toInt).toNat < n14 → fMo_lookUp z0 a w = fMo_lookUp_14 n14 z a w v3 v4 → (0 ≤ v4.toInt ∧ v4.toInt ≤ v3.toInt ∧ v3.toInt ≤ 200) → m_W D q cI cJ cZ z H → va_S (m_qs q) s.heap H locs → lv_has ls 7 [(0, .ref (q 0)), (1, .int (a)), (2, .int (w)), (3, .int (v3)), (4, .int (v4))] → W p l e (headSpec wsMo_lookUp { frames := 2, cells := 0, slots := 0, locals := 49 }).room s m ([.ref (q 0), .int (a), .int (w)] : List Value).toArray below meth c H locs 0 0 (MQ below (cQw (some (.int (bb ((fMo_lookUp z0 a w).1)))) (m_W D q cI cJ cZ (fMo_lookUp z0 a w).2) (m_qs q)) ([.ref (q 0), .int (a), .int (w)] : List Value).toArray s 0 0 (m_qs q)) (F0 m 14 ls []) := by
    intro n14
    induction n14 with
    | zero => intro H locs ls z v3 v4 hn14; exact absurd hn14 (Nat.not_lt_zero _)
    | succ n14 ih14 =>
      intro H locs ls z v3 v4 hn14 hR h4 hP hS hl
      rw [fMo_lookUp_14.eq_2] at hR
      refine lv_iload hx hb dMo_lookUp_14 (lv_at hl 4 rfl) ?_
      refine lv_iload_n hx hb dMo_lookUp_16 rfl (lv_at hl 3 rfl) ?_
      refine lv_icmp_ge hx hb dMo_lookUp_17 rfl (fun h17 => ?_) (fun h17 => ?_)
      · have hR := hR.trans (if_pos h17)
        refine lv_aload_n hx hb dMo_lookUp_112 rfl (lv_at hl 0 rfl) ?_
        refine lv_iconst (v := 5) hx hb dMo_lookUp_113 (by decide) ?_
        refine lv_iload_n hx hb dMo_lookUp_114 rfl (lv_at hl 2 rfl) ?_
        refine cl_wr (W.runV (As := [.int (5), .int (w)]) (rest := []) ⟨hx, hb, hml, hown, hts⟩ (kMo_stop l D q cI cJ cZ hq z 5 w) (cwV 2 hts (gV wm5_76 wm5_78 ws3_1 wm1_9 wm5_79) rfl rfl rfl (by decide +kernel) ⟨Nat.le_of_ble_eq_true rfl, Nat.le_of_ble_eq_true rfl⟩) (m_preV0 hK hP) rfl rfl hl.1 rfl (lv_room (Nat.le_of_ble_eq_true rfl)) dMo_lookUp_115 ⟨Nat.le_refl _, Nat.le_refl _⟩) hS (fun _ h => h) (fun _ h => h) (fun H locs hP hS => ?_)
        exact W.zret hx hb hr (nz_b _) (fun t ht _ => ⟨by rw [hR]; first | done | rfl, by rw [hR, ht]; exact hP, hS.F ht⟩) hS.2.2 dMo_lookUp_118
      · have hR := hR.trans (if_neg h17)
        refine lv_iload hx hb dMo_lookUp_20 (lv_at hl 4 rfl) ?_
        refine lv_iload_n hx hb dMo_lookUp_22 rfl (lv_at hl 1 rfl) ?_
        refine lv_icmp_le hx hb dMo_lookUp_23 rfl (fun h23 => ?_) (fun h23 => ?_)
        · have hR := hR.trans (if_pos h23)
          refine lv_aload_n hx hb dMo_lookUp_36 rfl (lv_at hl 0 rfl) ?_
          refine lv_iload hx hb dMo_lookUp_37 (lv_at hl 4 rfl) ?_
          refine cl_rd (W.runV (As := [.int (v4)]) (rest := []) ⟨hx, hb, hml, hown, hts⟩ (kMo_value l D q cI cJ cZ hq z v4 (lk_in h4 h17)) (cwV 1 hts (gV wm5_52 wm5_54 ws2_15 wm1_9 wm5_55) rfl rfl rfl (by decide +kernel) ⟨Nat.le_of_ble_eq_true rfl, Nat.le_of_ble_eq_true rfl⟩) (m_preV0 hK hP) rfl rfl hl.1 rfl (lv_room (Nat.le_of_ble_eq_true rfl)) dMo_lookUp_39 ⟨Nat.le_refl _, Nat.le_refl _⟩) ?_
          refine lv_lstore (lv' := [(5, .long (fMo_value z v4)), (0, .ref (q 0)), (1, .int (a)), (2, .int (w)), (3, .int (v3)), (4, .int (v4))]) hx hb dMo_lookUp_42 hl (by decide) rfl (fun ls hl => ?_)
          refine lv_lload hx hb dMo_lookUp_44 (lv_at hl 0 rfl) ?_
          refine lv_lconst (v := 0) hx hb dMo_lookUp_46 (by decide) ?_
          refine lc_ge hx hb dMo_lookUp_47 dMo_lookUp_48 rfl (fun h47 => ?_) (fun h47 => ?_)
          · have hR := hR.trans (if_pos h47)
            refine lv_lload hx hb dMo_lookUp_58 (lv_at hl 0 rfl) ?_
            refine lv_aload_n hx hb dMo_lookUp_60 rfl (lv_at hl 1 rfl) ?_
            refine mg0_distributor hx hb hts i0 hown hK hP w0 dMo_lookUp_61 ?_
            refine lc_ge hx hb dMo_lookUp_64 dMo_lookUp_65 rfl (fun h64 => ?_) (fun h64 => ?_)
            · have hR := hR.trans (if_pos h64)
              refine lv_aload_n hx hb dMo_lookUp_71 rfl (lv_at hl 1 rfl) ?_
              refine lv_aload_n hx hb dMo_lookUp_72 rfl (lv_at hl 1 rfl) ?_
              refine mg0_lower hx hb hts i0 hown hK hP w1 dMo_lookUp_73 ?_
              refine lv_ldc2 (v := 10000) hx hb hown w2 dMo_lookUp_76 ?_
              refine lm_lrem hx hb dMo_lookUp_79 (by decide) ?_
              refine lv_ldc2 (v := 10000) hx hb hown w2 dMo_lookUp_80 ?_
              refine lv_iload hx hb dMo_lookUp_83 (lv_at hl 5 rfl) ?_
              refine lv_i2l hx hb dMo_lookUp_85 rfl ?_
              refine lv_lmul hx hb dMo_lookUp_86 ?_
              refine lv_ladd hx hb dMo_lookUp_87 ?_
              refine lv_aload_n hx hb dMo_lookUp_88 rfl (lv_at hl 1 rfl) ?_
              refine mg0_lower hx hb hts i0 hown hK hP w1 dMo_lookUp_89 ?_
              refine lv_ldc2 (v := 100000000) hx hb hown w3 dMo_lookUp_92 ?_
              refine lv_ldiv hx hb dMo_lookUp_95 (by decide) ?_
              refine lv_ldc2 (v := 100000000) hx hb hown w3 dMo_lookUp_96 ?_
              refine lv_lmul hx hb dMo_lookUp_99 ?_
              refine lv_ladd hx hb dMo_lookUp_100 ?_
              refine mp0_lower ((((m_lower z) % 10000) + (10000 * v4.toInt64)) + (((m_lower z) / 100000000) * 100000000)) hq hS hx hb hts i0 hown hK hP w1 dMo_lookUp_101 (fun H locs hP hS => ?_)
              refine lv_iconst (v := 1) hx hb dMo_lookUp_104 (by decide) ?_
              exact W.zret hx hb hr rfl (fun t ht _ => ⟨by rw [hR]; first | done | rfl, by rw [hR, ht]; exact hP, hS.F ht⟩) hS.2.2 dMo_lookUp_105
            · have hR := hR.trans (if_neg h64)
              refine lv_goto hx hb dMo_lookUp_68 rfl ?_
              refine lv_iinc (k := 5) (lv' := [(4, .int (v4 + 1)), (5, .long (fMo_value z v4)), (0, .ref (q 0)), (1, .int (a)), (2, .int (w)), (3, .int (v3))]) hx hb dMo_lookUp_106 hl rfl rfl (by decide) rfl (fun ls hl => ?_)
              refine lv_goto hx hb dMo_lookUp_109 rfl ?_
              exact ih14 H locs ls z v3 (v4 + 1) (lk_m h4 h17 hn14) hR (lk_s h4 h17) hP hS (lv_sub hl [2, 3, 4, 5, 0] rfl)
          · have hR := hR.trans (if_neg h47)
            refine lv_aload_n hx hb dMo_lookUp_51 rfl (lv_at hl 1 rfl) ?_
            refine lv_iconst (v := 1) hx hb dMo_lookUp_52 (by decide) ?_
            refine lv_iload_n hx hb dMo_lookUp_53 rfl (lv_at hl 3 rfl) ?_
            refine cl_wr (W.runV (As := [.int (1), .int (w)]) (rest := []) ⟨hx, hb, hml, hown, hts⟩ (kMo_stop l D q cI cJ cZ hq z 1 w) (cwV 2 hts (gV wm5_76 wm5_78 ws3_1 wm1_9 wm5_79) rfl rfl rfl (by decide +kernel) ⟨Nat.le_of_ble_eq_true rfl, Nat.le_of_ble_eq_true rfl⟩) (m_preV0 hK hP) rfl rfl hl.1 rfl (lv_room (Nat.le_of_ble_eq_true rfl)) dMo_lookUp_54 ⟨Nat.le_refl _, Nat.le_refl _⟩) hS (fun _ h => h) (fun _ h => h) (fun H locs hP hS => ?_)
            exact W.zret hx hb hr (nz_b _) (fun t ht _ => ⟨by rw [hR]; first | done | rfl, by rw [hR, ht]; exact hP, hS.F ht⟩) hS.2.2 dMo_lookUp_57
        · have hR := hR.trans (if_neg h23)
          refine lv_aload_n hx hb dMo_lookUp_26 rfl (lv_at hl 0 rfl) ?_
          refine lv_dup hx hb dMo_lookUp_27 rfl ?_
          refine mg0_time hx hb hts i0 hown hK hP w4 dMo_lookUp_28 ?_
          refine lv_lconst (v := 1) hx hb dMo_lookUp_31 (by decide) ?_
          refine lv_ladd hx hb dMo_lookUp_32 ?_
          refine mp0_time ((m_time z) + 1) hq hS hx hb hts i0 hown hK hP w4 dMo_lookUp_33 (fun H locs hP hS => ?_)
          refine lv_aload_n hx hb dMo_lookUp_36 rfl (lv_at hl 0 rfl) ?_
          refine lv_iload hx hb dMo_lookUp_37 (lv_at hl 4 rfl) ?_
          refine cl_rd (W.runV (As := [.int (v4)]) (rest := []) ⟨hx, hb, hml, hown, hts⟩ (kMo_value l D q cI cJ cZ hq (m_time_s z ((m_time z) + 1)) v4 (lk_in h4 h17)) (cwV 1 hts (gV wm5_52 wm5_54 ws2_15 wm1_9 wm5_55) rfl rfl rfl (by decide +kernel) ⟨Nat.le_of_ble_eq_true rfl, Nat.le_of_ble_eq_true rfl⟩) (m_preV0 hK hP) rfl rfl hl.1 rfl (lv_room (Nat.le_of_ble_eq_true rfl)) dMo_lookUp_39 ⟨Nat.le_refl _, Nat.le_refl _⟩) ?_
          refine lv_lstore (lv' := [(5, .long (fMo_value (m_time_s z ((m_time z) + 1)) v4)), (0, .ref (q 0)), (1, .int (a)), (2, .int (w)), (3, .int (v3)), (4, .int (v4))]) hx hb dMo_lookUp_42 hl (by decide) rfl (fun ls hl => ?_)
          refine lv_lload hx hb dMo_lookUp_44 (lv_at hl 0 rfl) ?_
          refine lv_lconst (v := 0) hx hb dMo_lookUp_46 (by decide) ?_
          refine lc_ge hx hb dMo_lookUp_47 dMo_lookUp_48 rfl (fun h47 => ?_) (fun h47 => ?_)
          · have hR := hR.trans (if_pos h47)
            refine lv_lload hx hb dMo_lookUp_58 (lv_at hl 0 rfl) ?_
            refine lv_aload_n hx hb dMo_lookUp_60 rfl (lv_at hl 1 rfl) ?_
            refine mg0_distributor_e (v := m_dist z) ((m_dist_time _ _).trans (rfl)) hx hb hts i0 hown hK hP w0 dMo_lookUp_61 ?_
            refine lc_ge hx hb dMo_lookUp_64 dMo_lookUp_65 rfl (fun h64 => ?_) (fun h64 => ?_)
            · have hR := hR.trans (if_pos h64)
              refine lv_aload_n hx hb dMo_lookUp_71 rfl (lv_at hl 1 rfl) ?_
              refine lv_aload_n hx hb dMo_lookUp_72 rfl (lv_at hl 1 rfl) ?_
              refine mg0_lower_e (v := m_lower z) ((m_lower_time _ _).trans (rfl)) hx hb hts i0 hown hK hP w1 dMo_lookUp_73 ?_
              refine lv_ldc2 (v := 10000) hx hb hown w2 dMo_lookUp_76 ?_
              refine lm_lrem hx hb dMo_lookUp_79 (by decide) ?_
              refine lv_ldc2 (v := 10000) hx hb hown w2 dMo_lookUp_80 ?_
              refine lv_iload hx hb dMo_lookUp_83 (lv_at hl 5 rfl) ?_
              refine lv_i2l hx hb dMo_lookUp_85 rfl ?_
              refine lv_lmul hx hb dMo_lookUp_86 ?_
              refine lv_ladd hx hb dMo_lookUp_87 ?_
              refine lv_aload_n hx hb dMo_lookUp_88 rfl (lv_at hl 1 rfl) ?_
              refine mg0_lower_e (v := m_lower z) ((m_lower_time _ _).trans (rfl)) hx hb hts i0 hown hK hP w1 dMo_lookUp_89 ?_
              refine lv_ldc2 (v := 100000000) hx hb hown w3 dMo_lookUp_92 ?_
              refine lv_ldiv hx hb dMo_lookUp_95 (by decide) ?_
              refine lv_ldc2 (v := 100000000) hx hb hown w3 dMo_lookUp_96 ?_
              refine lv_lmul hx hb dMo_lookUp_99 ?_
              refine lv_ladd hx hb dMo_lookUp_100 ?_
              refine mp0_lower ((((m_lower z) % 10000) + (10000 * v4.toInt64)) + (((m_lower z) / 100000000) * 100000000)) hq hS hx hb hts i0 hown hK hP w1 dMo_lookUp_101 (fun H locs hP hS => ?_)
              refine lv_iconst (v := 1) hx hb dMo_lookUp_104 (by decide) ?_
              exact W.zret hx hb hr rfl (fun t ht _ => ⟨by rw [hR]; first | done | rfl, by rw [hR, ht]; exact hP, hS.F ht⟩) hS.2.2 dMo_lookUp_105
            · have hR := hR.trans (if_neg h64)
              refine lv_goto hx hb dMo_lookUp_68 rfl ?_
              refine lv_iinc (k := 5) (lv' := [(4, .int (v4 + 1)), (5, .long (fMo_value (m_time_s z ((m_time z) + 1)) v4)), (0, .ref (q 0)), (1, .int (a)), (2, .int (w)), (3, .int (v3))]) hx hb dMo_lookUp_106 hl rfl rfl (by decide) rfl (fun ls hl => ?_)
              refine lv_goto hx hb dMo_lookUp_109 rfl ?_
              exact ih14 H locs ls (m_time_s z ((m_time z) + 1)) v3 (v4 + 1) (lk_m h4 h17 hn14) hR (lk_s h4 h17) hP hS (lv_sub hl [2, 3, 4, 5, 0] rfl)
          · have hR := hR.trans (if_neg h47)
            refine lv_aload_n hx hb dMo_lookUp_51 rfl (lv_at hl 1 rfl) ?_
            refine lv_iconst (v := 1) hx hb dMo_lookUp_52 (by decide) ?_
            refine lv_iload_n hx hb dMo_lookUp_53 rfl (lv_at hl 3 rfl) ?_
            refine cl_wr (W.runV (As := [.int (1), .int (w)]) (rest := []) ⟨hx, hb, hml, hown, hts⟩ (kMo_stop l D q cI cJ cZ hq (m_time_s z ((m_time z) + 1)) 1 w) (cwV 2 hts (gV wm5_76 wm5_78 ws3_1 wm1_9 wm5_79) rfl rfl rfl (by decide +kernel) ⟨Nat.le_of_ble_eq_true rfl, Nat.le_of_ble_eq_true rfl⟩) (m_preV0 hK hP) rfl rfl hl.1 rfl (lv_room (Nat.le_of_ble_eq_true rfl)) dMo_lookUp_54 ⟨Nat.le_refl _, Nat.le_refl _⟩) hS (fun _ h => h) (fun _ h => h) (fun H locs hP hS => ?_)
            exact W.zret hx hb hr (nz_b _) (fun t ht _ => ⟨by rw [hR]; first | done | rfl, by rw [hR, ht]; exact hP, hS.F ht⟩) hS.2.2 dMo_lookUp_57
  have hR := fMo_lookUp.eq_1 z0 a w
  refine lv_iload_n hx hb dMo_lookUp_0 rfl (lv_at hl 1 rfl) ?_
  refine lv_bipush (v := 50) hx hb dMo_lookUp_1 (by decide) ?_
  refine lv_idiv hx hb dMo_lookUp_3 (by decide) ?_
  refine lv_bipush (v := 50) hx hb dMo_lookUp_4 (by decide) ?_
  refine lv_imul hx hb dMo_lookUp_6 ?_
  refine lv_bipush (v := 50) hx hb dMo_lookUp_7 (by decide) ?_
  refine lv_iadd hx hb dMo_lookUp_9 ?_
  refine lv_istore_n (lv' := [(3, .int (((a / 50) * 50) + 50)), (0, .ref (q 0)), (1, .int (a)), (2, .int (w))]) hx hb dMo_lookUp_10 rfl hl (by decide) rfl (fun ls hl => ?_)
  refine lv_iload_n hx hb dMo_lookUp_11 rfl (lv_at hl 2 rfl) ?_
  refine lv_istore (lv' := [(4, .int (a)), (3, .int (((a / 50) * 50) + 50)), (0, .ref (q 0)), (1, .int (a)), (2, .int (w))]) hx hb dMo_lookUp_12 hl (by decide) rfl (fun ls hl => ?_)
  exact hB14 51 s.heap [] ls z0 (((a / 50) * 50) + 50) a (endm_m ha) hR (endm_b ha) hP hS (lv_sub hl [2, 3, 4, 1, 0] rfl)
theorem dMo_branches_0 : decode ccMo_branches 0 = .ok (.iload_n 1, 1) := by decide +kernel
theorem dMo_branches_1 : decode ccMo_branches 1 = .ok (.tableswitch 80 44 47 #[31, 46, 70, 75], 31) := by decide +kernel
theorem dMo_branches_32 : decode ccMo_branches 32 = .ok (.aload_n 0, 1) := by decide +kernel
theorem dMo_branches_33 : decode ccMo_branches 33 = .ok (.getfield 118, 3) := by decide +kernel
theorem dMo_branches_36 : decode ccMo_branches 36 = .ok (.lconst 0, 1) := by decide +kernel
theorem dMo_branches_37 : decode ccMo_branches 37 = .ok (.lcmp, 1) := by decide +kernel
theorem dMo_branches_38 : decode ccMo_branches 38 = .ok (.ifCond .eq 7, 3) := by decide +kernel
theorem dMo_branches_41 : decode ccMo_branches 41 = .ok (.iconst 1, 1) := by decide +kernel
theorem dMo_branches_42 : decode ccMo_branches 42 = .ok (.goto 4, 3) := by decide +kernel
theorem dMo_branches_45 : decode ccMo_branches 45 = .ok (.iconst 0, 1) := by decide +kernel
theorem dMo_branches_46 : decode ccMo_branches 46 = .ok (.ireturn, 1) := by decide +kernel
theorem dMo_branches_47 : decode ccMo_branches 47 = .ok (.aload_n 0, 1) := by decide +kernel
theorem dMo_branches_48 : decode ccMo_branches 48 = .ok (.getfield 118, 3) := by decide +kernel
theorem dMo_branches_51 : decode ccMo_branches 51 = .ok (.lconst 0, 1) := by decide +kernel
theorem dMo_branches_52 : decode ccMo_branches 52 = .ok (.lcmp, 1) := by decide +kernel
theorem dMo_branches_53 : decode ccMo_branches 53 = .ok (.ifCond .ne 12, 3) := by decide +kernel
theorem dMo_branches_56 : decode ccMo_branches 56 = .ok (.aload_n 0, 1) := by decide +kernel
theorem dMo_branches_57 : decode ccMo_branches 57 = .ok (.getfield 115, 3) := by decide +kernel
theorem dMo_branches_60 : decode ccMo_branches 60 = .ok (.lconst 0, 1) := by decide +kernel
theorem dMo_branches_61 : decode ccMo_branches 61 = .ok (.lcmp, 1) := by decide +kernel
theorem dMo_branches_62 : decode ccMo_branches 62 = .ok (.ifCond .eq 7, 3) := by decide +kernel
theorem dMo_branches_65 : decode ccMo_branches 65 = .ok (.iconst 1, 1) := by decide +kernel
theorem dMo_branches_66 : decode ccMo_branches 66 = .ok (.goto 4, 3) := by decide +kernel
theorem dMo_branches_69 : decode ccMo_branches 69 = .ok (.iconst 0, 1) := by decide +kernel
theorem dMo_branches_70 : decode ccMo_branches 70 = .ok (.ireturn, 1) := by decide +kernel
theorem dMo_branches_71 : decode ccMo_branches 71 = .ok (.aload_n 0, 1) := by decide +kernel
theorem dMo_branches_72 : decode ccMo_branches 72 = .ok (.getfield 111, 3) := by decide +kernel
theorem dMo_branches_75 : decode ccMo_branches 75 = .ok (.ireturn, 1) := by decide +kernel
theorem dMo_branches_76 : decode ccMo_branches 76 = .ok (.aload_n 0, 1) := by decide +kernel
theorem dMo_branches_77 : decode ccMo_branches 77 = .ok (.getfield 121, 3) := by decide +kernel
theorem dMo_branches_80 : decode ccMo_branches 80 = .ok (.ireturn, 1) := by decide +kernel
theorem dMo_branches_81 : decode ccMo_branches 81 = .ok (.aload_n 0, 1) := by decide +kernel
theorem dMo_branches_82 : decode ccMo_branches 82 = .ok (.getfield 140, 3) := by decide +kernel
theorem dMo_branches_85 : decode ccMo_branches 85 = .ok (.lstore_n 2, 1) := by decide +kernel
theorem dMo_branches_86 : decode ccMo_branches 86 = .ok (.bipush 90, 2) := by decide +kernel
theorem dMo_branches_88 : decode ccMo_branches 88 = .ok (.istore 4, 2) := by decide +kernel
theorem dMo_branches_90 : decode ccMo_branches 90 = .ok (.iload 4, 2) := by decide +kernel
theorem dMo_branches_92 : decode ccMo_branches 92 = .ok (.iload_n 1, 1) := by decide +kernel
theorem dMo_branches_93 : decode ccMo_branches 93 = .ok (.if_icmp .ge 15, 3) := by decide +kernel
theorem dMo_branches_96 : decode ccMo_branches 96 = .ok (.lload_n 2, 1) := by decide +kernel
theorem dMo_branches_97 : decode ccMo_branches 97 = .ok (.ldc2_w 67, 3) := by decide +kernel
theorem dMo_branches_100 : decode ccMo_branches 100 = .ok (.ldiv, 1) := by decide +kernel
theorem dMo_branches_101 : decode ccMo_branches 101 = .ok (.lstore_n 2, 1) := by decide +kernel
theorem dMo_branches_102 : decode ccMo_branches 102 = .ok (.iinc 4 1, 3) := by decide +kernel
theorem dMo_branches_105 : decode ccMo_branches 105 = .ok (.goto (-15), 3) := by decide +kernel
theorem dMo_branches_108 : decode ccMo_branches 108 = .ok (.iload_n 1, 1) := by decide +kernel
theorem dMo_branches_109 : decode ccMo_branches 109 = .ok (.bipush 89, 2) := by decide +kernel
theorem dMo_branches_111 : decode ccMo_branches 111 = .ok (.if_icmp .le 19, 3) := by decide +kernel
theorem dMo_branches_114 : decode ccMo_branches 114 = .ok (.lload_n 2, 1) := by decide +kernel
theorem dMo_branches_115 : decode ccMo_branches 115 = .ok (.ldc2_w 67, 3) := by decide +kernel
theorem dMo_branches_118 : decode ccMo_branches 118 = .ok (.lrem, 1) := by decide +kernel
theorem dMo_branches_119 : decode ccMo_branches 119 = .ok (.ldc2_w 168, 3) := by decide +kernel
theorem dMo_branches_122 : decode ccMo_branches 122 = .ok (.lcmp, 1) := by decide +kernel
theorem dMo_branches_123 : decode ccMo_branches 123 = .ok (.ifCond .ne 7, 3) := by decide +kernel
theorem dMo_branches_126 : decode ccMo_branches 126 = .ok (.iconst 1, 1) := by decide +kernel
theorem dMo_branches_127 : decode ccMo_branches 127 = .ok (.goto 4, 3) := by decide +kernel
theorem dMo_branches_130 : decode ccMo_branches 130 = .ok (.iconst 0, 1) := by decide +kernel
theorem dMo_branches_131 : decode ccMo_branches 131 = .ok (.ireturn, 1) := by decide +kernel
def fMo_branches_90  : Nat → SM → Int32 → Int64 → Nat → Bool
  | 0, z0, o, v2, v4 => false
  | fu + 1, z0, o, v2, v4 => (if o ≤ (nI (v4)) then (if o ≤ (89 : Int32) then false else (if (v2 % 10) = 8 then true else false)) else fMo_branches_90 fu z0 o (v2 / 10) (v4 + 1))
def fMo_branches (z0 : SM) (o : Int32) : Bool :=
  (if o = 44 then (if (m_upper z0) = 0 then false else true) else (if o = 45 then (if (m_upper z0) = 0 then (if (m_lower z0) = 0 then false else true) else true) else (if o = 46 then m_amin z0 else (if o = 47 then m_ovf z0 else fMo_branches_90 10 z0 o (m_dist z0) 90))))
set_option maxHeartbeats 4000000 in
set_option maxRecDepth 100000 in
theorem kMo_branches (l : Launch) (D : va_G) (q : Nat → Nat) (cI cJ cZ : ClassId) (hq : m_inj q) (z0 : SM) (o : Int32) (ho : o.toInt ≤ (99 : Nat)) : Met l yMo_branches wsMo_branches { frames := 0, cells := 0, slots := 0, locals := 0 } (va_Pc [.ref (q 0), .int (o)] (m_C D q cI cJ cZ z0)) (cQr (some (.int (bb (fMo_branches z0 o))))) 0 0 (fun _ => False) := by
  refine Met.ofW (cc := ccMo_branches) (maxL := 5) (ret := (some .boolean)) (by decide +kernel) rfl ?_
  intro p e s m args below meth c s₁ B hml hv
  obtain ⟨rfl, hP, hK⟩ := hv
  have hx := B.exec
  have hb := B.bytes
  have hr := B.returns
  have hts := atoms_spec (ws := wsMo_branches) B.pre
  have hown : s.vm.findClass RMo = some m.cls := findClass_of_methodNamed B.named
  have hlocks := B.notSynchronized
  have w0 := hts (.constantLong RMo 67 (10)) (List.mem_cons_of_mem _ wm4_183)
  have w1 := hts (.constantLong RMo 168 (8)) (List.mem_cons_of_mem _ wm5_138)
  have w2 := hts (.fieldLink RMo 118 "DrumMachineModel" "upper" "J") (List.mem_cons_of_mem _ wm4_191)
  have w3 := hts (.fieldLink RMo 115 "DrumMachineModel" "lower" "J") (List.mem_cons_of_mem _ wm4_192)
  have w4 := hts (.fieldLink RMo 111 "DrumMachineModel" "negative" "Z") (List.mem_cons_of_mem _ wm4_194)
  have w5 := hts (.fieldLink RMo 121 "DrumMachineModel" "overflow" "Z") (List.mem_cons_of_mem _ wm4_196)
  have w6 := hts (.fieldLink RMo 140 "DrumMachineModel" "distributor" "J") (List.mem_cons_of_mem _ wm4_193)
  have i0 : ∀ w ∈ u_ws RMo TMo 28, w ∈ wsMo_branches := fun w h => List.mem_cons_of_mem _ (inAMo w h)
  have hl := lv_entry ([.ref (q 0), .int (o)]) (n := 5) (Nat.le_of_ble_eq_true rfl)
  rw [lg_entry_eq]
  generalize (lg_sl ([.ref (q 0), .int (o)]) ++ List.replicate (5 - (lg_sl ([.ref (q 0), .int (o)])).length) Slot.unset).toArray = ls at hl ⊢
  have hl : lv_has ls 5 [(0, .ref (q 0)), (1, .int (o))] := hl
  have hB90 : ∀ (n90 : Nat) (ls : Array Slot) (v2 : Int64) (v4 : Nat), 99 - v4 < n90 → fMo_branches z0 o = fMo_branches_90 n90 z0 o v2 v4 → (v4 ≤ 99) → lv_has ls 5 [(1, .int (o)), (2, .long (v2)), (4, .int (nI (v4)))] → W p l e (headSpec wsMo_branches { frames := 0, cells := 0, slots := 0, locals := 0 }).room s m ([.ref (q 0), .int (o)] : List Value).toArray below meth c s.heap [] 0 0 (MQ below (cQr (some (.int (bb (fMo_branches z0 o))))) ([.ref (q 0), .int (o)] : List Value).toArray s 0 0 (fun _ => False)) (F0 m 90 ls []) := by
    intro n90
    induction n90 with
    | zero => intro ls v2 v4 hn90; exact absurd hn90 (Nat.not_lt_zero _)
    | succ n90 ih90 =>
      intro ls v2 v4 hn90 hR h4 hl
      rw [fMo_branches_90.eq_2] at hR
      refine lv_iload hx hb dMo_branches_90 (lv_at hl 2 rfl) ?_
      refine lv_iload_n hx hb dMo_branches_92 rfl (lv_at hl 0 rfl) ?_
      refine lv_icmp_ge hx hb dMo_branches_93 rfl (fun h93 => ?_) (fun h93 => ?_)
      · have hR := hR.trans (if_pos h93)
        refine lv_iload_n hx hb dMo_branches_108 rfl (lv_at hl 0 rfl) ?_
        refine lv_bipush (v := 89) hx hb dMo_branches_109 (by decide) ?_
        refine lv_icmp_le hx hb dMo_branches_111 rfl (fun h111 => ?_) (fun h111 => ?_)
        · have hR := hR.trans (if_pos h111)
          refine lv_iconst (v := 0) hx hb dMo_branches_130 (by decide) ?_
          exact W.zret hx hb hr rfl (fun t ht _ => ⟨by rw [hR]; first | done | rfl, ht⟩) (fun _ h => absurd h List.not_mem_nil) dMo_branches_131
        · have hR := hR.trans (if_neg h111)
          refine lv_lload_n hx hb dMo_branches_114 rfl (lv_at hl 1 rfl) ?_
          refine lv_ldc2 (v := 10) hx hb hown w0 dMo_branches_115 ?_
          refine lm_lrem hx hb dMo_branches_118 (by decide) ?_
          refine lv_ldc2 (v := 8) hx hb hown w1 dMo_branches_119 ?_
          refine lc_ne hx hb dMo_branches_122 dMo_branches_123 rfl (fun h122 => ?_) (fun h122 => ?_)
          · have hR := hR.trans (if_neg h122)
            refine lv_iconst (v := 0) hx hb dMo_branches_130 (by decide) ?_
            exact W.zret hx hb hr rfl (fun t ht _ => ⟨by rw [hR]; first | done | rfl, ht⟩) (fun _ h => absurd h List.not_mem_nil) dMo_branches_131
          · have hR := hR.trans (if_pos h122)
            refine lv_iconst (v := 1) hx hb dMo_branches_126 (by decide) ?_
            refine lv_goto hx hb dMo_branches_127 rfl ?_
            exact W.zret hx hb hr rfl (fun t ht _ => ⟨by rw [hR]; first | done | rfl, ht⟩) (fun _ h => absurd h List.not_mem_nil) dMo_branches_131
      · have hR := hR.trans (if_neg h93)
        refine lv_lload_n hx hb dMo_branches_96 rfl (lv_at hl 1 rfl) ?_
        refine lv_ldc2 (v := 10) hx hb hown w0 dMo_branches_97 ?_
        refine lv_ldiv hx hb dMo_branches_100 (by decide) ?_
        refine lv_lstore_n (lv' := [(2, .long (v2 / 10)), (1, .int (o)), (4, .int (nI (v4)))]) hx hb dMo_branches_101 rfl hl (by decide) rfl (fun ls hl => ?_)
        refine lv_iinc (k := 2) (lv' := [(4, .int (nI (v4 + 1))), (2, .long (v2 / 10)), (1, .int (o))]) hx hb dMo_branches_102 hl rfl (nI_1 _) (by decide) rfl (fun ls hl => ?_)
        refine lv_goto hx hb dMo_branches_105 rfl ?_
        exact ih90 ls (v2 / 10) (v4 + 1) (kb_m ho h4 (by decide) h93 hn90) hR (kb_b ho h4 (by decide) h93) (lv_sub hl [2, 1, 0] rfl)
  have hR := fMo_branches.eq_1 z0 o
  refine lv_iload_n hx hb dMo_branches_0 rfl (lv_at hl 1 rfl) ?_
  by_cases h1_44 : o = 44
  · have hR := hR.trans (if_pos h1_44)
    refine lv_tableIn (off := 31) (tgt := 32) hx hb dMo_branches_1 (by rw [h1_44]; decide) (by rw [h1_44]; decide) (by rw [h1_44]; decide) rfl ?_
    refine lv_aload_n hx hb dMo_branches_32 rfl (lv_at hl 0 rfl) ?_
    refine mg0_upper hx hb hts i0 hown hK hP w2 dMo_branches_33 ?_
    refine lv_lconst (v := 0) hx hb dMo_branches_36 (by decide) ?_
    refine lc_eq hx hb dMo_branches_37 dMo_branches_38 rfl (fun h37 => ?_) (fun h37 => ?_)
    · have hR := hR.trans (if_pos h37)
      refine lv_iconst (v := 0) hx hb dMo_branches_45 (by decide) ?_
      exact W.zret hx hb hr rfl (fun t ht _ => ⟨by rw [hR]; first | done | rfl, ht⟩) (fun _ h => absurd h List.not_mem_nil) dMo_branches_46
    · have hR := hR.trans (if_neg h37)
      refine lv_iconst (v := 1) hx hb dMo_branches_41 (by decide) ?_
      refine lv_goto hx hb dMo_branches_42 rfl ?_
      exact W.zret hx hb hr rfl (fun t ht _ => ⟨by rw [hR]; first | done | rfl, ht⟩) (fun _ h => absurd h List.not_mem_nil) dMo_branches_46
  · have hR := hR.trans (if_neg h1_44)
    by_cases h1_45 : o = 45
    · have hR := hR.trans (if_pos h1_45)
      refine lv_tableIn (off := 46) (tgt := 47) hx hb dMo_branches_1 (by rw [h1_45]; decide) (by rw [h1_45]; decide) (by rw [h1_45]; decide) rfl ?_
      refine lv_aload_n hx hb dMo_branches_47 rfl (lv_at hl 0 rfl) ?_
      refine mg0_upper hx hb hts i0 hown hK hP w2 dMo_branches_48 ?_
      refine lv_lconst (v := 0) hx hb dMo_branches_51 (by decide) ?_
      refine lc_ne hx hb dMo_branches_52 dMo_branches_53 rfl (fun h52 => ?_) (fun h52 => ?_)
      · have hR := hR.trans (if_neg h52)
        refine lv_iconst (v := 1) hx hb dMo_branches_65 (by decide) ?_
        refine lv_goto hx hb dMo_branches_66 rfl ?_
        exact W.zret hx hb hr rfl (fun t ht _ => ⟨by rw [hR]; first | done | rfl, ht⟩) (fun _ h => absurd h List.not_mem_nil) dMo_branches_70
      · have hR := hR.trans (if_pos h52)
        refine lv_aload_n hx hb dMo_branches_56 rfl (lv_at hl 0 rfl) ?_
        refine mg0_lower hx hb hts i0 hown hK hP w3 dMo_branches_57 ?_
        refine lv_lconst (v := 0) hx hb dMo_branches_60 (by decide) ?_
        refine lc_eq hx hb dMo_branches_61 dMo_branches_62 rfl (fun h61 => ?_) (fun h61 => ?_)
        · have hR := hR.trans (if_pos h61)
          refine lv_iconst (v := 0) hx hb dMo_branches_69 (by decide) ?_
          exact W.zret hx hb hr rfl (fun t ht _ => ⟨by rw [hR]; first | done | rfl, ht⟩) (fun _ h => absurd h List.not_mem_nil) dMo_branches_70
        · have hR := hR.trans (if_neg h61)
          refine lv_iconst (v := 1) hx hb dMo_branches_65 (by decide) ?_
          refine lv_goto hx hb dMo_branches_66 rfl ?_
          exact W.zret hx hb hr rfl (fun t ht _ => ⟨by rw [hR]; first | done | rfl, ht⟩) (fun _ h => absurd h List.not_mem_nil) dMo_branches_70
    · have hR := hR.trans (if_neg h1_45)
      by_cases h1_46 : o = 46
      · have hR := hR.trans (if_pos h1_46)
        refine lv_tableIn (off := 70) (tgt := 71) hx hb dMo_branches_1 (by rw [h1_46]; decide) (by rw [h1_46]; decide) (by rw [h1_46]; decide) rfl ?_
        refine lv_aload_n hx hb dMo_branches_71 rfl (lv_at hl 0 rfl) ?_
        refine mg0_negative hx hb hts i0 hown hK hP w4 dMo_branches_72 ?_
        exact W.zret hx hb hr (nz_b _) (fun t ht _ => ⟨by rw [hR]; first | done | rfl, ht⟩) (fun _ h => absurd h List.not_mem_nil) dMo_branches_75
      · have hR := hR.trans (if_neg h1_46)
        by_cases h1_47 : o = 47
        · have hR := hR.trans (if_pos h1_47)
          refine lv_tableIn (off := 75) (tgt := 76) hx hb dMo_branches_1 (by rw [h1_47]; decide) (by rw [h1_47]; decide) (by rw [h1_47]; decide) rfl ?_
          refine lv_aload_n hx hb dMo_branches_76 rfl (lv_at hl 0 rfl) ?_
          refine mg0_overflow hx hb hts i0 hown hK hP w5 dMo_branches_77 ?_
          exact W.zret hx hb hr (nz_b _) (fun t ht _ => ⟨by rw [hR]; first | done | rfl, ht⟩) (fun _ h => absurd h List.not_mem_nil) dMo_branches_80
        · have hR := hR.trans (if_neg h1_47)
          have nh1_44 := lv_neT (k := 44) (a := 44) h1_44 (by decide)
          have nh1_45 := lv_neT (k := 45) (a := 45) h1_45 (by decide)
          have nh1_46 := lv_neT (k := 46) (a := 46) h1_46 (by decide)
          have nh1_47 := lv_neT (k := 47) (a := 47) h1_47 (by decide)
          refine lv_tableOut (tgt := 81) hx hb dMo_branches_1 (by omega) rfl ?_
          refine lv_aload_n hx hb dMo_branches_81 rfl (lv_at hl 0 rfl) ?_
          refine mg0_distributor hx hb hts i0 hown hK hP w6 dMo_branches_82 ?_
          refine lv_lstore_n (lv' := [(2, .long (m_dist z0)), (0, .ref (q 0)), (1, .int (o))]) hx hb dMo_branches_85 rfl hl (by decide) rfl (fun ls hl => ?_)
          refine lv_bipush (v := 90) hx hb dMo_branches_86 (by decide) ?_
          refine lv_istore (lv' := [(4, .int (nI (90))), (2, .long (m_dist z0)), (0, .ref (q 0)), (1, .int (o))]) hx hb dMo_branches_88 hl (by decide) rfl (fun ls hl => ?_)
          exact hB90 10 ls (m_dist z0) 90 (by omega) hR (by first | assumption | omega) (lv_sub hl [3, 1, 0] rfl)
theorem dMo_doWrite_0 : decode ccMo_doWrite 0 = .ok (.iload_n 1, 1) := by decide +kernel
theorem dMo_doWrite_1 : decode ccMo_doWrite 1 = .ok (.bipush 70, 2) := by decide +kernel
theorem dMo_doWrite_3 : decode ccMo_doWrite 3 = .ok (.if_icmp .ne 108, 3) := by decide +kernel
theorem dMo_doWrite_6 : decode ccMo_doWrite 6 = .ok (.aload_n 0, 1) := by decide +kernel
theorem dMo_doWrite_7 : decode ccMo_doWrite 7 = .ok (.getfield 87, 3) := by decide +kernel
theorem dMo_doWrite_10 : decode ccMo_doWrite 10 = .ok (.ifCond .ne 10, 3) := by decide +kernel
theorem dMo_doWrite_13 : decode ccMo_doWrite 13 = .ok (.aload_n 0, 1) := by decide +kernel
theorem dMo_doWrite_14 : decode ccMo_doWrite 14 = .ok (.iconst 4, 1) := by decide +kernel
theorem dMo_doWrite_15 : decode ccMo_doWrite 15 = .ok (.iload_n 3, 1) := by decide +kernel
theorem dMo_doWrite_16 : decode ccMo_doWrite 16 = .ok (.invokevirtual 134, 3) := by decide +kernel
theorem dMo_doWrite_19 : decode ccMo_doWrite 19 = .ok (.ireturn, 1) := by decide +kernel
theorem dMo_doWrite_20 : decode ccMo_doWrite 20 = .ok (.aload_n 0, 1) := by decide +kernel
theorem dMo_doWrite_21 : decode ccMo_doWrite 21 = .ok (.iload_n 2, 1) := by decide +kernel
theorem dMo_doWrite_22 : decode ccMo_doWrite 22 = .ok (.aload_n 0, 1) := by decide +kernel
theorem dMo_doWrite_23 : decode ccMo_doWrite 23 = .ok (.getfield 17, 3) := by decide +kernel
theorem dMo_doWrite_26 : decode ccMo_doWrite 26 = .ok (.iconst 0, 1) := by decide +kernel
theorem dMo_doWrite_27 : decode ccMo_doWrite 27 = .ok (.laload, 1) := by decide +kernel
theorem dMo_doWrite_28 : decode ccMo_doWrite 28 = .ok (.aload_n 0, 1) := by decide +kernel
theorem dMo_doWrite_29 : decode ccMo_doWrite 29 = .ok (.getfield 21, 3) := by decide +kernel
theorem dMo_doWrite_32 : decode ccMo_doWrite 32 = .ok (.iconst 0, 1) := by decide +kernel
theorem dMo_doWrite_33 : decode ccMo_doWrite 33 = .ok (.baload, 1) := by decide +kernel
theorem dMo_doWrite_34 : decode ccMo_doWrite 34 = .ok (.invokevirtual 54, 3) := by decide +kernel
theorem dMo_doWrite_37 : decode ccMo_doWrite 37 = .ok (.aload_n 0, 1) := by decide +kernel
theorem dMo_doWrite_38 : decode ccMo_doWrite 38 = .ok (.dup, 1) := by decide +kernel
theorem dMo_doWrite_39 : decode ccMo_doWrite 39 = .ok (.getfield 87, 3) := by decide +kernel
theorem dMo_doWrite_42 : decode ccMo_doWrite 42 = .ok (.iconst 1, 1) := by decide +kernel
theorem dMo_doWrite_43 : decode ccMo_doWrite 43 = .ok (.isub, 1) := by decide +kernel
theorem dMo_doWrite_44 : decode ccMo_doWrite 44 = .ok (.putfield 87, 3) := by decide +kernel
theorem dMo_doWrite_47 : decode ccMo_doWrite 47 = .ok (.iconst 0, 1) := by decide +kernel
theorem dMo_doWrite_48 : decode ccMo_doWrite 48 = .ok (.istore 4, 2) := by decide +kernel
theorem dMo_doWrite_50 : decode ccMo_doWrite 50 = .ok (.iload 4, 2) := by decide +kernel
theorem dMo_doWrite_52 : decode ccMo_doWrite 52 = .ok (.aload_n 0, 1) := by decide +kernel
theorem dMo_doWrite_53 : decode ccMo_doWrite 53 = .ok (.getfield 87, 3) := by decide +kernel
theorem dMo_doWrite_56 : decode ccMo_doWrite 56 = .ok (.if_icmp .ge 41, 3) := by decide +kernel
theorem dMo_doWrite_59 : decode ccMo_doWrite 59 = .ok (.aload_n 0, 1) := by decide +kernel
theorem dMo_doWrite_60 : decode ccMo_doWrite 60 = .ok (.getfield 17, 3) := by decide +kernel
theorem dMo_doWrite_63 : decode ccMo_doWrite 63 = .ok (.iload 4, 2) := by decide +kernel
theorem dMo_doWrite_65 : decode ccMo_doWrite 65 = .ok (.aload_n 0, 1) := by decide +kernel
theorem dMo_doWrite_66 : decode ccMo_doWrite 66 = .ok (.getfield 17, 3) := by decide +kernel
theorem dMo_doWrite_69 : decode ccMo_doWrite 69 = .ok (.iload 4, 2) := by decide +kernel
theorem dMo_doWrite_71 : decode ccMo_doWrite 71 = .ok (.iconst 1, 1) := by decide +kernel
theorem dMo_doWrite_72 : decode ccMo_doWrite 72 = .ok (.iadd, 1) := by decide +kernel
theorem dMo_doWrite_73 : decode ccMo_doWrite 73 = .ok (.laload, 1) := by decide +kernel
theorem dMo_doWrite_74 : decode ccMo_doWrite 74 = .ok (.lastore, 1) := by decide +kernel
theorem dMo_doWrite_75 : decode ccMo_doWrite 75 = .ok (.aload_n 0, 1) := by decide +kernel
theorem dMo_doWrite_76 : decode ccMo_doWrite 76 = .ok (.getfield 21, 3) := by decide +kernel
theorem dMo_doWrite_79 : decode ccMo_doWrite 79 = .ok (.iload 4, 2) := by decide +kernel
theorem dMo_doWrite_81 : decode ccMo_doWrite 81 = .ok (.aload_n 0, 1) := by decide +kernel
theorem dMo_doWrite_82 : decode ccMo_doWrite 82 = .ok (.getfield 21, 3) := by decide +kernel
theorem dMo_doWrite_85 : decode ccMo_doWrite 85 = .ok (.iload 4, 2) := by decide +kernel
theorem dMo_doWrite_87 : decode ccMo_doWrite 87 = .ok (.iconst 1, 1) := by decide +kernel
theorem dMo_doWrite_88 : decode ccMo_doWrite 88 = .ok (.iadd, 1) := by decide +kernel
theorem dMo_doWrite_89 : decode ccMo_doWrite 89 = .ok (.baload, 1) := by decide +kernel
theorem dMo_doWrite_90 : decode ccMo_doWrite 90 = .ok (.bastore, 1) := by decide +kernel
theorem dMo_doWrite_91 : decode ccMo_doWrite 91 = .ok (.iinc 4 1, 3) := by decide +kernel
theorem dMo_doWrite_94 : decode ccMo_doWrite 94 = .ok (.goto (-44), 3) := by decide +kernel
theorem dMo_doWrite_97 : decode ccMo_doWrite 97 = .ok (.aload_n 0, 1) := by decide +kernel
theorem dMo_doWrite_98 : decode ccMo_doWrite 98 = .ok (.dup, 1) := by decide +kernel
theorem dMo_doWrite_99 : decode ccMo_doWrite 99 = .ok (.getfield 99, 3) := by decide +kernel
theorem dMo_doWrite_102 : decode ccMo_doWrite 102 = .ok (.ldc2_w 67, 3) := by decide +kernel
theorem dMo_doWrite_105 : decode ccMo_doWrite 105 = .ok (.ladd, 1) := by decide +kernel
theorem dMo_doWrite_106 : decode ccMo_doWrite 106 = .ok (.putfield 99, 3) := by decide +kernel
theorem dMo_doWrite_109 : decode ccMo_doWrite 109 = .ok (.iconst 1, 1) := by decide +kernel
theorem dMo_doWrite_110 : decode ccMo_doWrite 110 = .ok (.ireturn, 1) := by decide +kernel
theorem dMo_doWrite_111 : decode ccMo_doWrite 111 = .ok (.iload_n 1, 1) := by decide +kernel
theorem dMo_doWrite_112 : decode ccMo_doWrite 112 = .ok (.bipush 22, 2) := by decide +kernel
theorem dMo_doWrite_114 : decode ccMo_doWrite 114 = .ok (.if_icmp .ge 32, 3) := by decide +kernel
theorem dMo_doWrite_117 : decode ccMo_doWrite 117 = .ok (.aload_n 0, 1) := by decide +kernel
theorem dMo_doWrite_118 : decode ccMo_doWrite 118 = .ok (.iload_n 1, 1) := by decide +kernel
theorem dMo_doWrite_119 : decode ccMo_doWrite 119 = .ok (.bipush 20, 2) := by decide +kernel
theorem dMo_doWrite_121 : decode ccMo_doWrite 121 = .ok (.if_icmp .ne 10, 3) := by decide +kernel
theorem dMo_doWrite_124 : decode ccMo_doWrite 124 = .ok (.aload_n 0, 1) := by decide +kernel
theorem dMo_doWrite_125 : decode ccMo_doWrite 125 = .ok (.getfield 115, 3) := by decide +kernel
theorem dMo_doWrite_128 : decode ccMo_doWrite 128 = .ok (.goto 7, 3) := by decide +kernel
theorem dMo_doWrite_131 : decode ccMo_doWrite 131 = .ok (.aload_n 0, 1) := by decide +kernel
theorem dMo_doWrite_132 : decode ccMo_doWrite 132 = .ok (.getfield 118, 3) := by decide +kernel
theorem dMo_doWrite_135 : decode ccMo_doWrite 135 = .ok (.putfield 140, 3) := by decide +kernel
theorem dMo_doWrite_138 : decode ccMo_doWrite 138 = .ok (.aload_n 0, 1) := by decide +kernel
theorem dMo_doWrite_139 : decode ccMo_doWrite 139 = .ok (.aload_n 0, 1) := by decide +kernel
theorem dMo_doWrite_140 : decode ccMo_doWrite 140 = .ok (.getfield 111, 3) := by decide +kernel
theorem dMo_doWrite_143 : decode ccMo_doWrite 143 = .ok (.putfield 143, 3) := by decide +kernel
theorem dMo_doWrite_146 : decode ccMo_doWrite 146 = .ok (.iload_n 1, 1) := by decide +kernel
theorem dMo_doWrite_147 : decode ccMo_doWrite 147 = .ok (.bipush 22, 2) := by decide +kernel
theorem dMo_doWrite_149 : decode ccMo_doWrite 149 = .ok (.if_icmp .ne 45, 3) := by decide +kernel
theorem dMo_doWrite_152 : decode ccMo_doWrite 152 = .ok (.aload_n 0, 1) := by decide +kernel
theorem dMo_doWrite_153 : decode ccMo_doWrite 153 = .ok (.aload_n 0, 1) := by decide +kernel
theorem dMo_doWrite_154 : decode ccMo_doWrite 154 = .ok (.getfield 140, 3) := by decide +kernel
theorem dMo_doWrite_157 : decode ccMo_doWrite 157 = .ok (.ldc2_w 164, 3) := by decide +kernel
theorem dMo_doWrite_160 : decode ccMo_doWrite 160 = .ok (.lrem, 1) := by decide +kernel
theorem dMo_doWrite_161 : decode ccMo_doWrite 161 = .ok (.aload_n 0, 1) := by decide +kernel
theorem dMo_doWrite_162 : decode ccMo_doWrite 162 = .ok (.getfield 115, 3) := by decide +kernel
theorem dMo_doWrite_165 : decode ccMo_doWrite 165 = .ok (.ldc2_w 164, 3) := by decide +kernel
theorem dMo_doWrite_168 : decode ccMo_doWrite 168 = .ok (.ldiv, 1) := by decide +kernel
theorem dMo_doWrite_169 : decode ccMo_doWrite 169 = .ok (.ldc2_w 164, 3) := by decide +kernel
theorem dMo_doWrite_172 : decode ccMo_doWrite 172 = .ok (.lrem, 1) := by decide +kernel
theorem dMo_doWrite_173 : decode ccMo_doWrite 173 = .ok (.ldc2_w 164, 3) := by decide +kernel
theorem dMo_doWrite_176 : decode ccMo_doWrite 176 = .ok (.lmul, 1) := by decide +kernel
theorem dMo_doWrite_177 : decode ccMo_doWrite 177 = .ok (.ladd, 1) := by decide +kernel
theorem dMo_doWrite_178 : decode ccMo_doWrite 178 = .ok (.aload_n 0, 1) := by decide +kernel
theorem dMo_doWrite_179 : decode ccMo_doWrite 179 = .ok (.getfield 140, 3) := by decide +kernel
theorem dMo_doWrite_182 : decode ccMo_doWrite 182 = .ok (.ldc2_w 166, 3) := by decide +kernel
theorem dMo_doWrite_185 : decode ccMo_doWrite 185 = .ok (.ldiv, 1) := by decide +kernel
theorem dMo_doWrite_186 : decode ccMo_doWrite 186 = .ok (.ldc2_w 166, 3) := by decide +kernel
theorem dMo_doWrite_189 : decode ccMo_doWrite 189 = .ok (.lmul, 1) := by decide +kernel
theorem dMo_doWrite_190 : decode ccMo_doWrite 190 = .ok (.ladd, 1) := by decide +kernel
theorem dMo_doWrite_191 : decode ccMo_doWrite 191 = .ok (.putfield 140, 3) := by decide +kernel
theorem dMo_doWrite_194 : decode ccMo_doWrite 194 = .ok (.aload_n 0, 1) := by decide +kernel
theorem dMo_doWrite_195 : decode ccMo_doWrite 195 = .ok (.iload_n 2, 1) := by decide +kernel
theorem dMo_doWrite_196 : decode ccMo_doWrite 196 = .ok (.aload_n 0, 1) := by decide +kernel
theorem dMo_doWrite_197 : decode ccMo_doWrite 197 = .ok (.getfield 140, 3) := by decide +kernel
theorem dMo_doWrite_200 : decode ccMo_doWrite 200 = .ok (.aload_n 0, 1) := by decide +kernel
theorem dMo_doWrite_201 : decode ccMo_doWrite 201 = .ok (.getfield 143, 3) := by decide +kernel
theorem dMo_doWrite_204 : decode ccMo_doWrite 204 = .ok (.invokevirtual 54, 3) := by decide +kernel
theorem dMo_doWrite_207 : decode ccMo_doWrite 207 = .ok (.iconst 1, 1) := by decide +kernel
theorem dMo_doWrite_208 : decode ccMo_doWrite 208 = .ok (.ireturn, 1) := by decide +kernel
def fMo_doWrite_194  (z : SM) (a : Int32) : Bool × SM :=
  (true, fMo_write z a (m_dist z) (m_distm z))
def fMo_doWrite_146  (z : SM) (o : Int32) (a : Int32) : Bool × SM :=
  (if o = (22 : Int32) then fMo_doWrite_194 (m_dist_s z ((((m_dist z) % 10000) + ((((m_lower z) / 10000) % 10000) * 10000)) + (((m_dist z) / 100000000) * 100000000))) a else fMo_doWrite_194 z a)
def fMo_doWrite_135  (z : SM) (s1 : Int64) (o : Int32) (a : Int32) : Bool × SM :=
  fMo_doWrite_146 (m_distm_s (m_dist_s z s1) (m_amin z)) o a
def fMo_doWrite_50  : Nat → SM → Nat → Bool × SM
  | 0, z, v4 => (false, z)
  | fu + 1, z, v4 => (if (m_cards z) ≤ (nI (v4)) then (true, m_time_s z ((m_time z) + 10)) else fMo_doWrite_50 fu (m_cmin_s (m_card_s z (vp_updL (m_card z) ((nI (v4)).toNatClampNeg) (m_card z (((nI (v4)) + 1).toNatClampNeg)))) (updB (m_cmin z) ((nI (v4)).toNatClampNeg) (m_cmin z (((nI (v4)) + 1).toNatClampNeg)))) (v4 + 1))
def fMo_doWrite (z0 : SM) (o : Int32) (a : Int32) (w : Int32) : Bool × SM :=
  (if o = (70 : Int32) then (if (m_cards z0) = 0 then ((fMo_stop z0 4 w).1, (fMo_stop z0 4 w).2) else fMo_doWrite_50 20 (m_cards_s (fMo_write z0 a (m_card z0 (((0 : Int32)).toNatClampNeg)) (m_cmin z0 (((0 : Int32)).toNatClampNeg))) ((m_cards (fMo_write z0 a (m_card z0 (((0 : Int32)).toNatClampNeg)) (m_cmin z0 (((0 : Int32)).toNatClampNeg)))) - 1)) 0) else (if (22 : Int32) ≤ o then fMo_doWrite_146 z0 o a else (if o = (20 : Int32) then fMo_doWrite_135 z0 (m_lower z0) o a else fMo_doWrite_135 z0 (m_upper z0) o a)))
set_option maxHeartbeats 4000000 in
set_option maxRecDepth 100000 in
theorem kMo_doWrite (l : Launch) (D : va_G) (q : Nat → Nat) (cI cJ cZ : ClassId) (hq : m_inj q) (z0 : SM) (o : Int32) (a : Int32) (w : Int32) (ha : vp_in a 200) (hc : 0 ≤ (m_cards z0).toInt ∧ (m_cards z0).toInt ≤ 20) : Met l yMo_doWrite wsMo_doWrite { frames := 1, cells := 0, slots := 0, locals := 28 } (va_Pc [.ref (q 0), .int (o), .int (a), .int (w)] (m_C D q cI cJ cZ z0)) (cQw (some (.int (bb ((fMo_doWrite z0 o a w).1)))) (m_W D q cI cJ cZ (fMo_doWrite z0 o a w).2) (m_qs q)) 0 0 (m_qs q) := by
  refine Met.ofW (cc := ccMo_doWrite) (maxL := 5) (ret := (some .boolean)) (by decide +kernel) rfl ?_
  intro p e s m args below meth c s₁ B hml hv
  obtain ⟨rfl, hP, hK⟩ := hv
  have hx := B.exec
  have hb := B.bytes
  have hr := B.returns
  have hts := atoms_spec (ws := wsMo_doWrite) B.pre
  have hown : s.vm.findClass RMo = some m.cls := findClass_of_methodNamed B.named
  have hlocks := B.notSynchronized
  have w0 := hts (.fieldLink RMo 140 "DrumMachineModel" "distributor" "J") (List.mem_cons_of_mem _ wm4_193)
  have w1 := hts (.fieldLink RMo 143 "DrumMachineModel" "negativeDistributor" "Z") (List.mem_cons_of_mem _ wm4_195)
  have w2 := hts (.constantLong RMo 164 (10000)) (List.mem_cons_of_mem _ wm5_86)
  have w3 := hts (.fieldLink RMo 115 "DrumMachineModel" "lower" "J") (List.mem_cons_of_mem _ wm4_192)
  have w4 := hts (.constantLong RMo 166 (100000000)) (List.mem_cons_of_mem _ wm5_85)
  have w5 := hts (.fieldLink RMo 111 "DrumMachineModel" "negative" "Z") (List.mem_cons_of_mem _ wm4_194)
  have w6 := hts (.fieldLink RMo 87 "DrumMachineModel" "cards" "I") (List.mem_cons_of_mem _ wm4_200)
  have w7 := hts (.fieldLink RMo 99 "DrumMachineModel" "time" "J") (List.mem_cons_of_mem _ wm4_199)
  have w8 := hts (.constantLong RMo 67 (10)) (List.mem_cons_of_mem _ wm4_183)
  have w9 := hts (.fieldLink RMo 17 "DrumMachineModel" "card" "[J") (List.mem_cons_of_mem _ wm4_201)
  have w10 := hts (.fieldLink RMo 21 "DrumMachineModel" "cardMinus" "[Z") (List.mem_cons_of_mem _ wm4_202)
  have w11 := hts (.fieldLink RMo 118 "DrumMachineModel" "upper" "J") (List.mem_cons_of_mem _ wm4_191)
  have i0 : ∀ w ∈ u_ws RMo TMo 28, w ∈ wsMo_doWrite := fun w h => List.mem_cons_of_mem _ (inAMo w h)
  have hS : va_S (m_qs q) s.heap s.heap [] := va_S.rf
  have hl := lv_entry ([.ref (q 0), .int (o), .int (a), .int (w)]) (n := 5) (Nat.le_of_ble_eq_true rfl)
  rw [lg_entry_eq]
  generalize (lg_sl ([.ref (q 0), .int (o), .int (a), .int (w)]) ++ List.replicate (5 - (lg_sl ([.ref (q 0), .int (o), .int (a), .int (w)])).length) Slot.unset).toArray = ls at hl ⊢
  have hl : lv_has ls 5 [(0, .ref (q 0)), (1, .int (o)), (2, .int (a)), (3, .int (w))] := hl
  have hB194 : ∀ (H : Heap) (locs : List Loc) (ls : Array Slot) (z : SM), fMo_doWrite z0 o a w = fMo_doWrite_194 z a → m_W D q cI cJ cZ z H → va_S (m_qs q) s.heap H locs → lv_has ls 5 [(0, .ref (q 0)), (2, .int (a))] → W p l e (headSpec wsMo_doWrite { frames := 1, cells := 0, slots := 0, locals := 28 }).room s m ([.ref (q 0), .int (o), .int (a), .int (w)] : List Value).toArray below meth c H locs 0 0 (MQ below (cQw (some (.int (bb ((fMo_doWrite z0 o a w).1)))) (m_W D q cI cJ cZ (fMo_doWrite z0 o a w).2) (m_qs q)) ([.ref (q 0), .int (o), .int (a), .int (w)] : List Value).toArray s 0 0 (m_qs q)) (F0 m 194 ls []) := by
    intro H locs ls z hR hP hS hl
    rw [fMo_doWrite_194.eq_1] at hR
    refine lv_aload_n hx hb dMo_doWrite_194 rfl (lv_at hl 0 rfl) ?_
    refine lv_iload_n hx hb dMo_doWrite_195 rfl (lv_at hl 1 rfl) ?_
    refine lv_aload_n hx hb dMo_doWrite_196 rfl (lv_at hl 0 rfl) ?_
    refine mg0_distributor hx hb hts i0 hown hK hP w0 dMo_doWrite_197 ?_
    refine lv_aload_n hx hb dMo_doWrite_200 rfl (lv_at hl 0 rfl) ?_
    refine mg0_negativeDistributor hx hb hts i0 hown hK hP w1 dMo_doWrite_201 ?_
    refine cl_wr (W.runV (As := [.int (a), .long ((m_dist z)), .int (bb ((m_distm z)))]) (rest := []) ⟨hx, hb, hml, hown, hts⟩ (kMo_write l D q cI cJ cZ hq z a (m_dist z) (m_distm z) ha) (cwV 3 hts (gV wm4_179 wm4_181 ws2_13 wm1_9 wm4_182) rfl rfl rfl (by decide +kernel) ⟨Nat.le_of_ble_eq_true rfl, Nat.le_of_ble_eq_true rfl⟩) (m_preV0 hK hP) rfl rfl hl.1 rfl (lv_room (Nat.le_of_ble_eq_true rfl)) dMo_doWrite_204 ⟨Nat.le_refl _, Nat.le_refl _⟩) hS (fun _ h => h) (fun _ h => h) (fun H locs hP hS => ?_)
    refine lv_iconst (v := 1) hx hb dMo_doWrite_207 (by decide) ?_
    exact W.zret hx hb hr rfl (fun t ht _ => ⟨by rw [hR]; first | done | rfl, by rw [hR, ht]; exact hP, hS.F ht⟩) hS.2.2 dMo_doWrite_208
  have hB146 : ∀ (H : Heap) (locs : List Loc) (ls : Array Slot) (z : SM), fMo_doWrite z0 o a w = fMo_doWrite_146 z o a → m_W D q cI cJ cZ z H → va_S (m_qs q) s.heap H locs → lv_has ls 5 [(0, .ref (q 0)), (1, .int (o)), (2, .int (a))] → W p l e (headSpec wsMo_doWrite { frames := 1, cells := 0, slots := 0, locals := 28 }).room s m ([.ref (q 0), .int (o), .int (a), .int (w)] : List Value).toArray below meth c H locs 0 0 (MQ below (cQw (some (.int (bb ((fMo_doWrite z0 o a w).1)))) (m_W D q cI cJ cZ (fMo_doWrite z0 o a w).2) (m_qs q)) ([.ref (q 0), .int (o), .int (a), .int (w)] : List Value).toArray s 0 0 (m_qs q)) (F0 m 146 ls []) := by
    intro H locs ls z hR hP hS hl
    rw [fMo_doWrite_146.eq_1] at hR
    refine lv_iload_n hx hb dMo_doWrite_146 rfl (lv_at hl 1 rfl) ?_
    refine lv_bipush (v := 22) hx hb dMo_doWrite_147 (by decide) ?_
    refine lv_icmp_ne hx hb dMo_doWrite_149 rfl (fun h149 => ?_) (fun h149 => ?_)
    · have hR := hR.trans (if_neg h149)
      exact hB194 H locs ls z hR hP hS (lv_sub hl [0, 2] rfl)
    · have hR := hR.trans (if_pos h149)
      refine lv_aload_n hx hb dMo_doWrite_152 rfl (lv_at hl 0 rfl) ?_
      refine lv_aload_n hx hb dMo_doWrite_153 rfl (lv_at hl 0 rfl) ?_
      refine mg0_distributor hx hb hts i0 hown hK hP w0 dMo_doWrite_154 ?_
      refine lv_ldc2 (v := 10000) hx hb hown w2 dMo_doWrite_157 ?_
      refine lm_lrem hx hb dMo_doWrite_160 (by decide) ?_
      refine lv_aload_n hx hb dMo_doWrite_161 rfl (lv_at hl 0 rfl) ?_
      refine mg0_lower hx hb hts i0 hown hK hP w3 dMo_doWrite_162 ?_
      refine lv_ldc2 (v := 10000) hx hb hown w2 dMo_doWrite_165 ?_
      refine lv_ldiv hx hb dMo_doWrite_168 (by decide) ?_
      refine lv_ldc2 (v := 10000) hx hb hown w2 dMo_doWrite_169 ?_
      refine lm_lrem hx hb dMo_doWrite_172 (by decide) ?_
      refine lv_ldc2 (v := 10000) hx hb hown w2 dMo_doWrite_173 ?_
      refine lv_lmul hx hb dMo_doWrite_176 ?_
      refine lv_ladd hx hb dMo_doWrite_177 ?_
      refine lv_aload_n hx hb dMo_doWrite_178 rfl (lv_at hl 0 rfl) ?_
      refine mg0_distributor hx hb hts i0 hown hK hP w0 dMo_doWrite_179 ?_
      refine lv_ldc2 (v := 100000000) hx hb hown w4 dMo_doWrite_182 ?_
      refine lv_ldiv hx hb dMo_doWrite_185 (by decide) ?_
      refine lv_ldc2 (v := 100000000) hx hb hown w4 dMo_doWrite_186 ?_
      refine lv_lmul hx hb dMo_doWrite_189 ?_
      refine lv_ladd hx hb dMo_doWrite_190 ?_
      refine mp0_distributor ((((m_dist z) % 10000) + ((((m_lower z) / 10000) % 10000) * 10000)) + (((m_dist z) / 100000000) * 100000000)) hq hS hx hb hts i0 hown hK hP w0 dMo_doWrite_191 (fun H locs hP hS => ?_)
      exact hB194 H locs ls (m_dist_s z ((((m_dist z) % 10000) + ((((m_lower z) / 10000) % 10000) * 10000)) + (((m_dist z) / 100000000) * 100000000))) hR hP hS (lv_sub hl [0, 2] rfl)
  have hB135 : ∀ (H : Heap) (locs : List Loc) (ls : Array Slot) (z : SM) (s1 : Int64), fMo_doWrite z0 o a w = fMo_doWrite_135 z s1 o a → m_W D q cI cJ cZ z H → va_S (m_qs q) s.heap H locs → lv_has ls 5 [(0, .ref (q 0)), (1, .int (o)), (2, .int (a))] → W p l e (headSpec wsMo_doWrite { frames := 1, cells := 0, slots := 0, locals := 28 }).room s m ([.ref (q 0), .int (o), .int (a), .int (w)] : List Value).toArray below meth c H locs 0 0 (MQ below (cQw (some (.int (bb ((fMo_doWrite z0 o a w).1)))) (m_W D q cI cJ cZ (fMo_doWrite z0 o a w).2) (m_qs q)) ([.ref (q 0), .int (o), .int (a), .int (w)] : List Value).toArray s 0 0 (m_qs q)) (F0 m 135 ls [.long (s1), .ref (q 0)]) := by
    intro H locs ls z s1 hR hP hS hl
    rw [fMo_doWrite_135.eq_1] at hR
    refine mp0_distributor s1 hq hS hx hb hts i0 hown hK hP w0 dMo_doWrite_135 (fun H locs hP hS => ?_)
    refine lv_aload_n hx hb dMo_doWrite_138 rfl (lv_at hl 0 rfl) ?_
    refine lv_aload_n hx hb dMo_doWrite_139 rfl (lv_at hl 0 rfl) ?_
    refine mg0_negative_e (v := m_amin z) ((m_amin_dist _ _).trans (rfl)) hx hb hts i0 hown hK hP w5 dMo_doWrite_140 ?_
    refine mp0_negativeDistributor (m_amin z) hq hS hx hb hts i0 hown hK hP w1 dMo_doWrite_143 (fun H locs hP hS => ?_)
    exact hB146 H locs ls (m_distm_s (m_dist_s z s1) (m_amin z)) hR hP hS (lv_sub hl [0, 1, 2] rfl)
  have hB50 : ∀ (n50 : Nat) (H : Heap) (locs : List Loc) (ls : Array Slot) (z : SM) (v4 : Nat), 19 - v4 < n50 → fMo_doWrite z0 o a w = fMo_doWrite_50 n50 z v4 → (v4 ≤ 19) → (0 ≤ (m_cards z).toInt ∧ (m_cards z).toInt ≤ 19) → m_W D q cI cJ cZ z H → va_S (m_qs q) s.heap H locs → lv_has ls 5 [(0, .ref (q 0)), (4, .int (nI (v4)))] → W p l e (headSpec wsMo_doWrite { frames := 1, cells := 0, slots := 0, locals := 28 }).room s m ([.ref (q 0), .int (o), .int (a), .int (w)] : List Value).toArray below meth c H locs 0 0 (MQ below (cQw (some (.int (bb ((fMo_doWrite z0 o a w).1)))) (m_W D q cI cJ cZ (fMo_doWrite z0 o a w).2) (m_qs q)) ([.ref (q 0), .int (o), .int (a), .int (w)] : List Value).toArray s 0 0 (m_qs q)) (F0 m 50 ls []) := by
    intro n50
    induction n50 with
    | zero => intro H locs ls z v4 hn50; exact absurd hn50 (Nat.not_lt_zero _)
    | succ n50 ih50 =>
      intro H locs ls z v4 hn50 hR h4 hc hP hS hl
      rw [fMo_doWrite_50.eq_2] at hR
      refine lv_iload hx hb dMo_doWrite_50 (lv_at hl 1 rfl) ?_
      refine lv_aload_n hx hb dMo_doWrite_52 rfl (lv_at hl 0 rfl) ?_
      refine mg0_cards hx hb hts i0 hown hK hP w6 dMo_doWrite_53 ?_
      refine lv_icmp_ge hx hb dMo_doWrite_56 rfl (fun h56 => ?_) (fun h56 => ?_)
      · have hR := hR.trans (if_pos h56)
        refine lv_aload_n hx hb dMo_doWrite_97 rfl (lv_at hl 0 rfl) ?_
        refine lv_dup hx hb dMo_doWrite_98 rfl ?_
        refine mg0_time hx hb hts i0 hown hK hP w7 dMo_doWrite_99 ?_
        refine lv_ldc2 (v := 10) hx hb hown w8 dMo_doWrite_102 ?_
        refine lv_ladd hx hb dMo_doWrite_105 ?_
        refine mp0_time ((m_time z) + 10) hq hS hx hb hts i0 hown hK hP w7 dMo_doWrite_106 (fun H locs hP hS => ?_)
        refine lv_iconst (v := 1) hx hb dMo_doWrite_109 (by decide) ?_
        exact W.zret hx hb hr rfl (fun t ht _ => ⟨by rw [hR]; first | done | rfl, by rw [hR, ht]; exact hP, hS.F ht⟩) hS.2.2 dMo_doWrite_110
      · have hR := hR.trans (if_neg h56)
        refine lv_aload_n hx hb dMo_doWrite_59 rfl (lv_at hl 0 rfl) ?_
        refine mg0_card hx hb hts i0 hown hK hP w9 dMo_doWrite_60 ?_
        refine lv_iload hx hb dMo_doWrite_63 (lv_at hl 1 rfl) ?_
        refine lv_aload_n hx hb dMo_doWrite_65 rfl (lv_at hl 0 rfl) ?_
        refine mg0_card hx hb hts i0 hown hK hP w9 dMo_doWrite_66 ?_
        refine lv_iload hx hb dMo_doWrite_69 (lv_at hl 1 rfl) ?_
        refine lv_iconst (v := 1) hx hb dMo_doWrite_71 (by decide) ?_
        refine lv_iadd hx hb dMo_doWrite_72 ?_
        refine ml_card hx hb hK hP (cm_in1 hc h56 h4) dMo_doWrite_73 ?_
        refine ms_card (m_card z (((nI (v4)) + 1).toNatClampNeg)) hq hS hx hb hK hP (cm_in hc h56 h4) dMo_doWrite_74 (fun H locs hP hS => ?_)
        refine lv_aload_n hx hb dMo_doWrite_75 rfl (lv_at hl 0 rfl) ?_
        refine mg0_cardMinus hx hb hts i0 hown hK hP w10 dMo_doWrite_76 ?_
        refine lv_iload hx hb dMo_doWrite_79 (lv_at hl 1 rfl) ?_
        refine lv_aload_n hx hb dMo_doWrite_81 rfl (lv_at hl 0 rfl) ?_
        refine mg0_cardMinus hx hb hts i0 hown hK hP w10 dMo_doWrite_82 ?_
        refine lv_iload hx hb dMo_doWrite_85 (lv_at hl 1 rfl) ?_
        refine lv_iconst (v := 1) hx hb dMo_doWrite_87 (by decide) ?_
        refine lv_iadd hx hb dMo_doWrite_88 ?_
        refine ml_cmin_e (f := m_cmin z) ((m_cmin_card _ _).trans (rfl)) hx hb hK hP (cm_in1 hc h56 h4) dMo_doWrite_89 ?_
        refine ms_cmin_e (m_cmin z (((nI (v4)) + 1).toNatClampNeg)) (f := m_cmin z) ((m_cmin_card _ _).trans (rfl)) hq hS hx hb hK hP (cm_in hc h56 h4) dMo_doWrite_90 (fun H locs hP hS => ?_)
        refine lv_iinc (k := 1) (lv' := [(4, .int (nI (v4 + 1))), (0, .ref (q 0))]) hx hb dMo_doWrite_91 hl rfl (nI_1 _) (by decide) rfl (fun ls hl => ?_)
        refine lv_goto hx hb dMo_doWrite_94 rfl ?_
        exact ih50 H locs ls (m_cmin_s (m_card_s z (vp_updL (m_card z) ((nI (v4)).toNatClampNeg) (m_card z (((nI (v4)) + 1).toNatClampNeg)))) (updB (m_cmin z) ((nI (v4)).toNatClampNeg) (m_cmin z (((nI (v4)) + 1).toNatClampNeg)))) (v4 + 1) (cm_m hc h56 h4 hn50) hR (cm_b hc h56 h4) hc hP hS (lv_sub hl [1, 0] rfl)
  have hR := fMo_doWrite.eq_1 z0 o a w
  refine lv_iload_n hx hb dMo_doWrite_0 rfl (lv_at hl 1 rfl) ?_
  refine lv_bipush (v := 70) hx hb dMo_doWrite_1 (by decide) ?_
  refine lv_icmp_ne hx hb dMo_doWrite_3 rfl (fun h3 => ?_) (fun h3 => ?_)
  · have hR := hR.trans (if_neg h3)
    refine lv_iload_n hx hb dMo_doWrite_111 rfl (lv_at hl 1 rfl) ?_
    refine lv_bipush (v := 22) hx hb dMo_doWrite_112 (by decide) ?_
    refine lv_icmp_ge hx hb dMo_doWrite_114 rfl (fun h114 => ?_) (fun h114 => ?_)
    · have hR := hR.trans (if_pos h114)
      exact hB146 s.heap [] ls z0 hR hP hS (lv_sub hl [0, 1, 2] rfl)
    · have hR := hR.trans (if_neg h114)
      refine lv_aload_n hx hb dMo_doWrite_117 rfl (lv_at hl 0 rfl) ?_
      refine lv_iload_n hx hb dMo_doWrite_118 rfl (lv_at hl 1 rfl) ?_
      refine lv_bipush (v := 20) hx hb dMo_doWrite_119 (by decide) ?_
      refine lv_icmp_ne hx hb dMo_doWrite_121 rfl (fun h121 => ?_) (fun h121 => ?_)
      · have hR := hR.trans (if_neg h121)
        refine lv_aload_n hx hb dMo_doWrite_131 rfl (lv_at hl 0 rfl) ?_
        refine mg0_upper hx hb hts i0 hown hK hP w11 dMo_doWrite_132 ?_
        exact hB135 s.heap [] ls z0 (m_upper z0) hR hP hS (lv_sub hl [0, 1, 2] rfl)
      · have hR := hR.trans (if_pos h121)
        refine lv_aload_n hx hb dMo_doWrite_124 rfl (lv_at hl 0 rfl) ?_
        refine mg0_lower hx hb hts i0 hown hK hP w3 dMo_doWrite_125 ?_
        refine lv_goto hx hb dMo_doWrite_128 rfl ?_
        exact hB135 s.heap [] ls z0 (m_lower z0) hR hP hS (lv_sub hl [0, 1, 2] rfl)
  · have hR := hR.trans (if_pos h3)
    refine lv_aload_n hx hb dMo_doWrite_6 rfl (lv_at hl 0 rfl) ?_
    refine mg0_cards hx hb hts i0 hown hK hP w6 dMo_doWrite_7 ?_
    refine lv_if_ne hx hb dMo_doWrite_10 rfl (fun h10 => ?_) (fun h10 => ?_)
    · have hR := hR.trans (if_neg h10)
      refine lv_aload_n hx hb dMo_doWrite_20 rfl (lv_at hl 0 rfl) ?_
      refine lv_iload_n hx hb dMo_doWrite_21 rfl (lv_at hl 2 rfl) ?_
      refine lv_aload_n hx hb dMo_doWrite_22 rfl (lv_at hl 0 rfl) ?_
      refine mg0_card hx hb hts i0 hown hK hP w9 dMo_doWrite_23 ?_
      refine lv_iconst (v := 0) hx hb dMo_doWrite_26 (by decide) ?_
      refine ml_card hx hb hK hP z20 dMo_doWrite_27 ?_
      refine lv_aload_n hx hb dMo_doWrite_28 rfl (lv_at hl 0 rfl) ?_
      refine mg0_cardMinus hx hb hts i0 hown hK hP w10 dMo_doWrite_29 ?_
      refine lv_iconst (v := 0) hx hb dMo_doWrite_32 (by decide) ?_
      refine ml_cmin hx hb hK hP z20 dMo_doWrite_33 ?_
      refine cl_wr (W.runV (As := [.int (a), .long ((m_card z0 (((0 : Int32)).toNatClampNeg))), .int (bb ((m_cmin z0 (((0 : Int32)).toNatClampNeg))))]) (rest := []) ⟨hx, hb, hml, hown, hts⟩ (kMo_write l D q cI cJ cZ hq z0 a (m_card z0 (((0 : Int32)).toNatClampNeg)) (m_cmin z0 (((0 : Int32)).toNatClampNeg)) ha) (cwV 3 hts (gV wm4_179 wm4_181 ws2_13 wm1_9 wm4_182) rfl rfl rfl (by decide +kernel) ⟨Nat.le_of_ble_eq_true rfl, Nat.le_of_ble_eq_true rfl⟩) (m_preV0 hK hP) rfl rfl hl.1 rfl (lv_room (Nat.le_of_ble_eq_true rfl)) dMo_doWrite_34 ⟨Nat.le_refl _, Nat.le_refl _⟩) hS (fun _ h => h) (fun _ h => h) (fun H locs hP hS => ?_)
      refine lv_aload_n hx hb dMo_doWrite_37 rfl (lv_at hl 0 rfl) ?_
      refine lv_dup hx hb dMo_doWrite_38 rfl ?_
      refine mg0_cards hx hb hts i0 hown hK hP w6 dMo_doWrite_39 ?_
      refine lv_iconst (v := 1) hx hb dMo_doWrite_42 (by decide) ?_
      refine lv_isub hx hb dMo_doWrite_43 ?_
      refine mp0_cards ((m_cards (fMo_write z0 a (m_card z0 (((0 : Int32)).toNatClampNeg)) (m_cmin z0 (((0 : Int32)).toNatClampNeg)))) - 1) hq hS hx hb hts i0 hown hK hP w6 dMo_doWrite_44 (fun H locs hP hS => ?_)
      refine lv_iconst (v := 0) hx hb dMo_doWrite_47 (by decide) ?_
      refine lv_istore (lv' := [(4, .int (nI (0))), (0, .ref (q 0)), (1, .int (o)), (2, .int (a)), (3, .int (w))]) hx hb dMo_doWrite_48 hl (by decide) rfl (fun ls hl => ?_)
      exact hB50 20 H locs ls (m_cards_s (fMo_write z0 a (m_card z0 (((0 : Int32)).toNatClampNeg)) (m_cmin z0 (((0 : Int32)).toNatClampNeg))) ((m_cards (fMo_write z0 a (m_card z0 (((0 : Int32)).toNatClampNeg)) (m_cmin z0 (((0 : Int32)).toNatClampNeg)))) - 1)) 0 (by omega) hR (by first | assumption | omega) (cm_0 (mw_cards _ _ _ _) hc h10) hP hS (lv_sub hl [1, 0] rfl)
    · have hR := hR.trans (if_pos h10)
      refine lv_aload_n hx hb dMo_doWrite_13 rfl (lv_at hl 0 rfl) ?_
      refine lv_iconst (v := 4) hx hb dMo_doWrite_14 (by decide) ?_
      refine lv_iload_n hx hb dMo_doWrite_15 rfl (lv_at hl 3 rfl) ?_
      refine cl_wr (W.runV (As := [.int (4), .int (w)]) (rest := []) ⟨hx, hb, hml, hown, hts⟩ (kMo_stop l D q cI cJ cZ hq z0 4 w) (cwV 2 hts (gV wm5_76 wm5_78 ws3_1 wm1_9 wm5_79) rfl rfl rfl (by decide +kernel) ⟨Nat.le_of_ble_eq_true rfl, Nat.le_of_ble_eq_true rfl⟩) (m_preV0 hK hP) rfl rfl hl.1 rfl (lv_room (Nat.le_of_ble_eq_true rfl)) dMo_doWrite_16 ⟨Nat.le_refl _, Nat.le_refl _⟩) hS (fun _ h => h) (fun _ h => h) (fun H locs hP hS => ?_)
      exact W.zret hx hb hr (nz_b _) (fun t ht _ => ⟨by rw [hR]; first | done | rfl, by rw [hR, ht]; exact hP, hS.F ht⟩) hS.2.2 dMo_doWrite_19
theorem dv_ne {u v : Int64} (hu : 0 ≤ u.toInt) (h : u < v) : ¬ v = 0 := by
  intro e
  rw [e, Int64.lt_iff_toInt_lt] at h
  have e0 : (0 : Int64).toInt = 0 := by decide
  omega
theorem ou_in {x : Int32} (hc : 0 ≤ x.toInt ∧ x.toInt ≤ 40) (h : ¬ x = 40) : vp_in x 40 := by
  have e : (40 : Int32).toInt = 40 := by decide
  have h1 : ¬ x.toInt = 40 := fun q => h (Int32.toInt_inj.mp (by rw [q, e]))
  exact vp_in_iff.mpr ⟨hc.1, by omega⟩
theorem dMo_doRead_0 : decode ccMo_doRead 0 = .ok (.iload_n 1, 1) := by decide +kernel
theorem dMo_doRead_1 : decode ccMo_doRead 1 = .ok (.bipush 84, 2) := by decide +kernel
theorem dMo_doRead_3 : decode ccMo_doRead 3 = .ok (.if_icmp .ne 11, 3) := by decide +kernel
theorem dMo_doRead_6 : decode ccMo_doRead 6 = .ok (.aload_n 0, 1) := by decide +kernel
theorem dMo_doRead_7 : decode ccMo_doRead 7 = .ok (.iload_n 2, 1) := by decide +kernel
theorem dMo_doRead_8 : decode ccMo_doRead 8 = .ok (.iload 6, 2) := by decide +kernel
theorem dMo_doRead_10 : decode ccMo_doRead 10 = .ok (.invokevirtual 130, 3) := by decide +kernel
theorem dMo_doRead_13 : decode ccMo_doRead 13 = .ok (.ireturn, 1) := by decide +kernel
theorem dMo_doRead_14 : decode ccMo_doRead 14 = .ok (.iload_n 1, 1) := by decide +kernel
theorem dMo_doRead_15 : decode ccMo_doRead 15 = .ok (.bipush 14, 2) := by decide +kernel
theorem dMo_doRead_17 : decode ccMo_doRead 17 = .ok (.if_icmp .ne 25, 3) := by decide +kernel
theorem dMo_doRead_20 : decode ccMo_doRead 20 = .ok (.aload_n 0, 1) := by decide +kernel
theorem dMo_doRead_21 : decode ccMo_doRead 21 = .ok (.getfield 118, 3) := by decide +kernel
theorem dMo_doRead_24 : decode ccMo_doRead 24 = .ok (.lload_n 3, 1) := by decide +kernel
theorem dMo_doRead_25 : decode ccMo_doRead 25 = .ok (.lcmp, 1) := by decide +kernel
theorem dMo_doRead_26 : decode ccMo_doRead 26 = .ok (.ifCond .lt 16, 3) := by decide +kernel
theorem dMo_doRead_29 : decode ccMo_doRead 29 = .ok (.aload_n 0, 1) := by decide +kernel
theorem dMo_doRead_30 : decode ccMo_doRead 30 = .ok (.iconst 1, 1) := by decide +kernel
theorem dMo_doRead_31 : decode ccMo_doRead 31 = .ok (.putfield 121, 3) := by decide +kernel
theorem dMo_doRead_34 : decode ccMo_doRead 34 = .ok (.aload_n 0, 1) := by decide +kernel
theorem dMo_doRead_35 : decode ccMo_doRead 35 = .ok (.iconst 3, 1) := by decide +kernel
theorem dMo_doRead_36 : decode ccMo_doRead 36 = .ok (.iload 6, 2) := by decide +kernel
theorem dMo_doRead_38 : decode ccMo_doRead 38 = .ok (.invokevirtual 134, 3) := by decide +kernel
theorem dMo_doRead_41 : decode ccMo_doRead 41 = .ok (.ireturn, 1) := by decide +kernel
theorem dMo_doRead_42 : decode ccMo_doRead 42 = .ok (.iload_n 1, 1) := by decide +kernel
theorem dMo_doRead_43 : decode ccMo_doRead 43 = .ok (.bipush 71, 2) := by decide +kernel
theorem dMo_doRead_45 : decode ccMo_doRead 45 = .ok (.if_icmp .ne 20, 3) := by decide +kernel
theorem dMo_doRead_48 : decode ccMo_doRead 48 = .ok (.aload_n 0, 1) := by decide +kernel
theorem dMo_doRead_49 : decode ccMo_doRead 49 = .ok (.getfield 137, 3) := by decide +kernel
theorem dMo_doRead_52 : decode ccMo_doRead 52 = .ok (.bipush 40, 2) := by decide +kernel
theorem dMo_doRead_54 : decode ccMo_doRead 54 = .ok (.if_icmp .ne 11, 3) := by decide +kernel
theorem dMo_doRead_57 : decode ccMo_doRead 57 = .ok (.aload_n 0, 1) := by decide +kernel
theorem dMo_doRead_58 : decode ccMo_doRead 58 = .ok (.iconst 4, 1) := by decide +kernel
theorem dMo_doRead_59 : decode ccMo_doRead 59 = .ok (.iload 6, 2) := by decide +kernel
theorem dMo_doRead_61 : decode ccMo_doRead 61 = .ok (.invokevirtual 134, 3) := by decide +kernel
theorem dMo_doRead_64 : decode ccMo_doRead 64 = .ok (.ireturn, 1) := by decide +kernel
theorem dMo_doRead_65 : decode ccMo_doRead 65 = .ok (.aload_n 0, 1) := by decide +kernel
theorem dMo_doRead_66 : decode ccMo_doRead 66 = .ok (.lload_n 3, 1) := by decide +kernel
theorem dMo_doRead_67 : decode ccMo_doRead 67 = .ok (.putfield 140, 3) := by decide +kernel
theorem dMo_doRead_70 : decode ccMo_doRead 70 = .ok (.aload_n 0, 1) := by decide +kernel
theorem dMo_doRead_71 : decode ccMo_doRead 71 = .ok (.iload 5, 2) := by decide +kernel
theorem dMo_doRead_73 : decode ccMo_doRead 73 = .ok (.putfield 143, 3) := by decide +kernel
theorem dMo_doRead_76 : decode ccMo_doRead 76 = .ok (.aload_n 0, 1) := by decide +kernel
theorem dMo_doRead_77 : decode ccMo_doRead 77 = .ok (.dup, 1) := by decide +kernel
theorem dMo_doRead_78 : decode ccMo_doRead 78 = .ok (.getfield 99, 3) := by decide +kernel
theorem dMo_doRead_81 : decode ccMo_doRead 81 = .ok (.iload_n 1, 1) := by decide +kernel
theorem dMo_doRead_82 : decode ccMo_doRead 82 = .ok (.iload_n 2, 1) := by decide +kernel
theorem dMo_doRead_83 : decode ccMo_doRead 83 = .ok (.invokestatic 146, 3) := by decide +kernel
theorem dMo_doRead_86 : decode ccMo_doRead 86 = .ok (.i2l, 1) := by decide +kernel
theorem dMo_doRead_87 : decode ccMo_doRead 87 = .ok (.ladd, 1) := by decide +kernel
theorem dMo_doRead_88 : decode ccMo_doRead 88 = .ok (.putfield 99, 3) := by decide +kernel
theorem dMo_doRead_91 : decode ccMo_doRead 91 = .ok (.iload_n 1, 1) := by decide +kernel
theorem dMo_doRead_92 : decode ccMo_doRead 92 = .ok (.bipush 71, 2) := by decide +kernel
theorem dMo_doRead_94 : decode ccMo_doRead 94 = .ok (.if_icmp .ne 36, 3) := by decide +kernel
theorem dMo_doRead_97 : decode ccMo_doRead 97 = .ok (.aload_n 0, 1) := by decide +kernel
theorem dMo_doRead_98 : decode ccMo_doRead 98 = .ok (.getfield 24, 3) := by decide +kernel
theorem dMo_doRead_101 : decode ccMo_doRead 101 = .ok (.aload_n 0, 1) := by decide +kernel
theorem dMo_doRead_102 : decode ccMo_doRead 102 = .ok (.getfield 137, 3) := by decide +kernel
theorem dMo_doRead_105 : decode ccMo_doRead 105 = .ok (.iload 5, 2) := by decide +kernel
theorem dMo_doRead_107 : decode ccMo_doRead 107 = .ok (.ifCond .eq 8, 3) := by decide +kernel
theorem dMo_doRead_110 : decode ccMo_doRead 110 = .ok (.lload_n 3, 1) := by decide +kernel
theorem dMo_doRead_111 : decode ccMo_doRead 111 = .ok (.lneg, 1) := by decide +kernel
theorem dMo_doRead_112 : decode ccMo_doRead 112 = .ok (.goto 4, 3) := by decide +kernel
theorem dMo_doRead_115 : decode ccMo_doRead 115 = .ok (.lload_n 3, 1) := by decide +kernel
theorem dMo_doRead_116 : decode ccMo_doRead 116 = .ok (.lastore, 1) := by decide +kernel
theorem dMo_doRead_117 : decode ccMo_doRead 117 = .ok (.aload_n 0, 1) := by decide +kernel
theorem dMo_doRead_118 : decode ccMo_doRead 118 = .ok (.dup, 1) := by decide +kernel
theorem dMo_doRead_119 : decode ccMo_doRead 119 = .ok (.getfield 137, 3) := by decide +kernel
theorem dMo_doRead_122 : decode ccMo_doRead 122 = .ok (.iconst 1, 1) := by decide +kernel
theorem dMo_doRead_123 : decode ccMo_doRead 123 = .ok (.iadd, 1) := by decide +kernel
theorem dMo_doRead_124 : decode ccMo_doRead 124 = .ok (.putfield 137, 3) := by decide +kernel
theorem dMo_doRead_127 : decode ccMo_doRead 127 = .ok (.goto 87, 3) := by decide +kernel
theorem dMo_doRead_130 : decode ccMo_doRead 130 = .ok (.iload_n 1, 1) := by decide +kernel
theorem dMo_doRead_131 : decode ccMo_doRead 131 = .ok (.bipush 14, 2) := by decide +kernel
theorem dMo_doRead_133 : decode ccMo_doRead 133 = .ok (.if_icmp .ne 32, 3) := by decide +kernel
theorem dMo_doRead_136 : decode ccMo_doRead 136 = .ok (.aload_n 0, 1) := by decide +kernel
theorem dMo_doRead_137 : decode ccMo_doRead 137 = .ok (.lload_n 3, 1) := by decide +kernel
theorem dMo_doRead_138 : decode ccMo_doRead 138 = .ok (.iload 5, 2) := by decide +kernel
theorem dMo_doRead_140 : decode ccMo_doRead 140 = .ok (.invokevirtual 150, 3) := by decide +kernel
theorem dMo_doRead_143 : decode ccMo_doRead 143 = .ok (.aload_n 0, 1) := by decide +kernel
theorem dMo_doRead_144 : decode ccMo_doRead 144 = .ok (.dup, 1) := by decide +kernel
theorem dMo_doRead_145 : decode ccMo_doRead 145 = .ok (.getfield 99, 3) := by decide +kernel
theorem dMo_doRead_148 : decode ccMo_doRead 148 = .ok (.iconst 2, 1) := by decide +kernel
theorem dMo_doRead_149 : decode ccMo_doRead 149 = .ok (.aload_n 0, 1) := by decide +kernel
theorem dMo_doRead_150 : decode ccMo_doRead 150 = .ok (.getfield 115, 3) := by decide +kernel
theorem dMo_doRead_153 : decode ccMo_doRead 153 = .ok (.invokestatic 154, 3) := by decide +kernel
theorem dMo_doRead_156 : decode ccMo_doRead 156 = .ok (.imul, 1) := by decide +kernel
theorem dMo_doRead_157 : decode ccMo_doRead 157 = .ok (.i2l, 1) := by decide +kernel
theorem dMo_doRead_158 : decode ccMo_doRead 158 = .ok (.ladd, 1) := by decide +kernel
theorem dMo_doRead_159 : decode ccMo_doRead 159 = .ok (.putfield 99, 3) := by decide +kernel
theorem dMo_doRead_162 : decode ccMo_doRead 162 = .ok (.goto 52, 3) := by decide +kernel
theorem dMo_doRead_165 : decode ccMo_doRead 165 = .ok (.iload_n 1, 1) := by decide +kernel
theorem dMo_doRead_166 : decode ccMo_doRead 166 = .ok (.bipush 19, 2) := by decide +kernel
theorem dMo_doRead_168 : decode ccMo_doRead 168 = .ok (.if_icmp .ne 32, 3) := by decide +kernel
theorem dMo_doRead_171 : decode ccMo_doRead 171 = .ok (.aload_n 0, 1) := by decide +kernel
theorem dMo_doRead_172 : decode ccMo_doRead 172 = .ok (.dup, 1) := by decide +kernel
theorem dMo_doRead_173 : decode ccMo_doRead 173 = .ok (.getfield 99, 3) := by decide +kernel
theorem dMo_doRead_176 : decode ccMo_doRead 176 = .ok (.iconst 2, 1) := by decide +kernel
theorem dMo_doRead_177 : decode ccMo_doRead 177 = .ok (.aload_n 0, 1) := by decide +kernel
theorem dMo_doRead_178 : decode ccMo_doRead 178 = .ok (.getfield 118, 3) := by decide +kernel
theorem dMo_doRead_181 : decode ccMo_doRead 181 = .ok (.invokestatic 154, 3) := by decide +kernel
theorem dMo_doRead_184 : decode ccMo_doRead 184 = .ok (.imul, 1) := by decide +kernel
theorem dMo_doRead_185 : decode ccMo_doRead 185 = .ok (.i2l, 1) := by decide +kernel
theorem dMo_doRead_186 : decode ccMo_doRead 186 = .ok (.ladd, 1) := by decide +kernel
theorem dMo_doRead_187 : decode ccMo_doRead 187 = .ok (.putfield 99, 3) := by decide +kernel
theorem dMo_doRead_190 : decode ccMo_doRead 190 = .ok (.aload_n 0, 1) := by decide +kernel
theorem dMo_doRead_191 : decode ccMo_doRead 191 = .ok (.lload_n 3, 1) := by decide +kernel
theorem dMo_doRead_192 : decode ccMo_doRead 192 = .ok (.iload 5, 2) := by decide +kernel
theorem dMo_doRead_194 : decode ccMo_doRead 194 = .ok (.invokevirtual 158, 3) := by decide +kernel
theorem dMo_doRead_197 : decode ccMo_doRead 197 = .ok (.goto 17, 3) := by decide +kernel
theorem dMo_doRead_200 : decode ccMo_doRead 200 = .ok (.iload_n 1, 1) := by decide +kernel
theorem dMo_doRead_201 : decode ccMo_doRead 201 = .ok (.bipush 69, 2) := by decide +kernel
theorem dMo_doRead_203 : decode ccMo_doRead 203 = .ok (.if_icmp .eq 11, 3) := by decide +kernel
theorem dMo_doRead_206 : decode ccMo_doRead 206 = .ok (.aload_n 0, 1) := by decide +kernel
theorem dMo_doRead_207 : decode ccMo_doRead 207 = .ok (.iload_n 1, 1) := by decide +kernel
theorem dMo_doRead_208 : decode ccMo_doRead 208 = .ok (.lload_n 3, 1) := by decide +kernel
theorem dMo_doRead_209 : decode ccMo_doRead 209 = .ok (.iload 5, 2) := by decide +kernel
theorem dMo_doRead_211 : decode ccMo_doRead 211 = .ok (.invokevirtual 161, 3) := by decide +kernel
theorem dMo_doRead_214 : decode ccMo_doRead 214 = .ok (.iconst 1, 1) := by decide +kernel
theorem dMo_doRead_215 : decode ccMo_doRead 215 = .ok (.ireturn, 1) := by decide +kernel
def fMo_doRead_116  (z : SM) (s1 : Int32) (s2 : Int64) : Bool × SM :=
  (true, m_outs_s (m_outp_s z (vp_updL (m_outp z) s1.toNatClampNeg s2)) ((m_outs z) + 1))
def fMo_doRead_65  (z : SM) (o : Int32) (d : Int32) (v : Int64) (b : Bool) : Bool × SM :=
  (if o = (71 : Int32) then (if b = true then fMo_doRead_116 (m_time_s (m_distm_s (m_dist_s z v) b) ((m_time z) + ((fMo_fixed o d).toInt64))) (m_outs z) (-v) else fMo_doRead_116 (m_time_s (m_distm_s (m_dist_s z v) b) ((m_time z) + ((fMo_fixed o d).toInt64))) (m_outs z) v) else (if o = (14 : Int32) then (true, m_time_s (fMo_divide (m_time_s (m_distm_s (m_dist_s z v) b) ((m_time z) + ((fMo_fixed o d).toInt64))) v b) ((m_time (fMo_divide (m_time_s (m_distm_s (m_dist_s z v) b) ((m_time z) + ((fMo_fixed o d).toInt64))) v b)) + ((2 * (fMo_sumOfDigits (m_lower (fMo_divide (m_time_s (m_distm_s (m_dist_s z v) b) ((m_time z) + ((fMo_fixed o d).toInt64))) v b)))).toInt64))) else (if o = (19 : Int32) then (true, fMo_multiply (m_time_s (m_time_s (m_distm_s (m_dist_s z v) b) ((m_time z) + ((fMo_fixed o d).toInt64))) (((m_time z) + ((fMo_fixed o d).toInt64)) + ((2 * (fMo_sumOfDigits (m_upper z))).toInt64))) v b) else (if o = (69 : Int32) then (true, m_time_s (m_distm_s (m_dist_s z v) b) ((m_time z) + ((fMo_fixed o d).toInt64))) else (true, fMo_sum (m_time_s (m_distm_s (m_dist_s z v) b) ((m_time z) + ((fMo_fixed o d).toInt64))) o v b)))))
def fMo_doRead_42  (z : SM) (o : Int32) (d : Int32) (v : Int64) (b : Bool) (w : Int32) : Bool × SM :=
  (if o = (71 : Int32) then (if (m_outs z) = (40 : Int32) then ((fMo_stop z 4 w).1, (fMo_stop z 4 w).2) else fMo_doRead_65 z o d v b) else fMo_doRead_65 z o d v b)
def fMo_doRead (z0 : SM) (o : Int32) (d : Int32) (v : Int64) (b : Bool) (w : Int32) : Bool × SM :=
  (if o = (84 : Int32) then ((fMo_lookUp z0 d w).1, (fMo_lookUp z0 d w).2) else (if o = (14 : Int32) then (if (m_upper z0) < v then fMo_doRead_42 z0 o d v b w else ((fMo_stop (m_ovf_s z0 true) 3 w).1, (fMo_stop (m_ovf_s z0 true) 3 w).2)) else fMo_doRead_42 z0 o d v b w))
set_option maxHeartbeats 4000000 in
set_option maxRecDepth 100000 in
theorem kMo_doRead (l : Launch) (D : va_G) (q : Nat → Nat) (cI cJ cZ : ClassId) (hq : m_inj q) (z0 : SM) (o : Int32) (d : Int32) (v : Int64) (b : Bool) (w : Int32) (ha : vp_in d 200) (hou : 0 ≤ (m_outs z0).toInt ∧ (m_outs z0).toInt ≤ 40) (hup : 0 ≤ (m_upper z0).toInt) : Met l yMo_doRead wsMo_doRead { frames := 3, cells := 0, slots := 0, locals := 75 } (va_Pc [.ref (q 0), .int (o), .int (d), .long (v), .int (bb (b)), .int (w)] (m_C D q cI cJ cZ z0)) (cQw (some (.int (bb ((fMo_doRead z0 o d v b w).1)))) (m_W D q cI cJ cZ (fMo_doRead z0 o d v b w).2) (m_qs q)) 0 0 (m_qs q) := by
  refine Met.ofW (cc := ccMo_doRead) (maxL := 7) (ret := (some .boolean)) (by decide +kernel) rfl ?_
  intro p e s m args below meth c s₁ B hml hv
  obtain ⟨rfl, hP, hK⟩ := hv
  have hx := B.exec
  have hb := B.bytes
  have hr := B.returns
  have hts := atoms_spec (ws := wsMo_doRead) B.pre
  have hown : s.vm.findClass RMo = some m.cls := findClass_of_methodNamed B.named
  have hlocks := B.notSynchronized
  have w0 := hts (.fieldLink RMo 137 "DrumMachineModel" "outputs" "I") (List.mem_cons_of_mem _ wm4_203)
  have w1 := hts (.fieldLink RMo 140 "DrumMachineModel" "distributor" "J") (List.mem_cons_of_mem _ wm4_193)
  have w2 := hts (.fieldLink RMo 143 "DrumMachineModel" "negativeDistributor" "Z") (List.mem_cons_of_mem _ wm4_195)
  have w3 := hts (.fieldLink RMo 99 "DrumMachineModel" "time" "J") (List.mem_cons_of_mem _ wm4_199)
  have w4 := hts (.fieldLink RMo 118 "DrumMachineModel" "upper" "J") (List.mem_cons_of_mem _ wm4_191)
  have w5 := hts (.fieldLink RMo 115 "DrumMachineModel" "lower" "J") (List.mem_cons_of_mem _ wm4_192)
  have w6 := hts (.fieldLink RMo 24 "DrumMachineModel" "output" "[J") (List.mem_cons_of_mem _ wm4_204)
  have w7 := hts (.fieldLink RMo 121 "DrumMachineModel" "overflow" "Z") (List.mem_cons_of_mem _ wm4_196)
  have i0 : ∀ w ∈ u_ws RMo TMo 28, w ∈ wsMo_doRead := fun w h => List.mem_cons_of_mem _ (inAMo w h)
  have hS : va_S (m_qs q) s.heap s.heap [] := va_S.rf
  have hl := lv_entry ([.ref (q 0), .int (o), .int (d), .long (v), .int (bb (b)), .int (w)]) (n := 7) (Nat.le_of_ble_eq_true rfl)
  rw [lg_entry_eq]
  generalize (lg_sl ([.ref (q 0), .int (o), .int (d), .long (v), .int (bb (b)), .int (w)]) ++ List.replicate (7 - (lg_sl ([.ref (q 0), .int (o), .int (d), .long (v), .int (bb (b)), .int (w)])).length) Slot.unset).toArray = ls at hl ⊢
  have hl : lv_has ls 7 [(0, .ref (q 0)), (1, .int (o)), (2, .int (d)), (3, .long (v)), (5, .int (bb (b))), (6, .int (w))] := hl
  have hB116 : ∀ (H : Heap) (locs : List Loc) (ls : Array Slot) (z : SM) (s1 : Int32) (s2 : Int64), fMo_doRead z0 o d v b w = fMo_doRead_116 z s1 s2 → (vp_in s1 40) → m_W D q cI cJ cZ z H → va_S (m_qs q) s.heap H locs → lv_has ls 7 [(0, .ref (q 0))] → W p l e (headSpec wsMo_doRead { frames := 3, cells := 0, slots := 0, locals := 75 }).room s m ([.ref (q 0), .int (o), .int (d), .long (v), .int (bb (b)), .int (w)] : List Value).toArray below meth c H locs 0 0 (MQ below (cQw (some (.int (bb ((fMo_doRead z0 o d v b w).1)))) (m_W D q cI cJ cZ (fMo_doRead z0 o d v b w).2) (m_qs q)) ([.ref (q 0), .int (o), .int (d), .long (v), .int (bb (b)), .int (w)] : List Value).toArray s 0 0 (m_qs q)) (F0 m 116 ls [.long (s2), .int (s1), .ref (q 5)]) := by
    intro H locs ls z s1 s2 hR hi hP hS hl
    rw [fMo_doRead_116.eq_1] at hR
    refine ms_outp s2 hq hS hx hb hK hP hi dMo_doRead_116 (fun H locs hP hS => ?_)
    refine lv_aload_n hx hb dMo_doRead_117 rfl (lv_at hl 0 rfl) ?_
    refine lv_dup hx hb dMo_doRead_118 rfl ?_
    refine mg0_outputs_e (v := m_outs z) ((m_outs_outp _ _).trans (rfl)) hx hb hts i0 hown hK hP w0 dMo_doRead_119 ?_
    refine lv_iconst (v := 1) hx hb dMo_doRead_122 (by decide) ?_
    refine lv_iadd hx hb dMo_doRead_123 ?_
    refine mp0_outputs ((m_outs z) + 1) hq hS hx hb hts i0 hown hK hP w0 dMo_doRead_124 (fun H locs hP hS => ?_)
    refine lv_goto hx hb dMo_doRead_127 rfl ?_
    refine lv_iconst (v := 1) hx hb dMo_doRead_214 (by decide) ?_
    exact W.zret hx hb hr rfl (fun t ht _ => ⟨by rw [hR]; first | done | rfl, by rw [hR, ht]; exact hP, hS.F ht⟩) hS.2.2 dMo_doRead_215
  have hB65 : ∀ (H : Heap) (locs : List Loc) (ls : Array Slot) (z : SM), fMo_doRead z0 o d v b w = fMo_doRead_65 z o d v b → (o = 14 → ¬ v = 0) → (o = 71 → vp_in (m_outs z) 40) → m_W D q cI cJ cZ z H → va_S (m_qs q) s.heap H locs → lv_has ls 7 [(0, .ref (q 0)), (1, .int (o)), (2, .int (d)), (3, .long (v)), (5, .int (bb (b)))] → W p l e (headSpec wsMo_doRead { frames := 3, cells := 0, slots := 0, locals := 75 }).room s m ([.ref (q 0), .int (o), .int (d), .long (v), .int (bb (b)), .int (w)] : List Value).toArray below meth c H locs 0 0 (MQ below (cQw (some (.int (bb ((fMo_doRead z0 o d v b w).1)))) (m_W D q cI cJ cZ (fMo_doRead z0 o d v b w).2) (m_qs q)) ([.ref (q 0), .int (o), .int (d), .long (v), .int (bb (b)), .int (w)] : List Value).toArray s 0 0 (m_qs q)) (F0 m 65 ls []) := by
    intro H locs ls z hR hz hp hP hS hl
    rw [fMo_doRead_65.eq_1] at hR
    refine lv_aload_n hx hb dMo_doRead_65 rfl (lv_at hl 0 rfl) ?_
    refine lv_lload_n hx hb dMo_doRead_66 rfl (lv_at hl 3 rfl) ?_
    refine mp0_distributor v hq hS hx hb hts i0 hown hK hP w1 dMo_doRead_67 (fun H locs hP hS => ?_)
    refine lv_aload_n hx hb dMo_doRead_70 rfl (lv_at hl 0 rfl) ?_
    refine lv_iload hx hb dMo_doRead_71 (lv_at hl 4 rfl) ?_
    refine mp0_negativeDistributor b hq hS hx hb hts i0 hown hK hP w2 dMo_doRead_73 (fun H locs hP hS => ?_)
    refine lv_aload_n hx hb dMo_doRead_76 rfl (lv_at hl 0 rfl) ?_
    refine lv_dup hx hb dMo_doRead_77 rfl ?_
    refine mg0_time_e (v := m_time z) ((m_time_distm _ _).trans ((m_time_dist _ _).trans (rfl))) hx hb hts i0 hown hK hP w3 dMo_doRead_78 ?_
    refine lv_iload_n hx hb dMo_doRead_81 rfl (lv_at hl 1 rfl) ?_
    refine lv_iload_n hx hb dMo_doRead_82 rfl (lv_at hl 2 rfl) ?_
    refine cl_rd (W.runS (As := [.int (o), .int (d)]) (rest := [.long (m_time z), .ref (q 0)]) ⟨hx, hb, hml, hown, hts⟩ (kMo_fixed l o d) (va_cwS 2 hts (gS wm5_107 wm5_108 wm1_9 wm5_109) rfl rfl rfl (by decide +kernel) ⟨Nat.le_of_ble_eq_true rfl, Nat.le_of_ble_eq_true rfl⟩) (preT) rfl rfl hl.1 rfl (lv_room (Nat.le_of_ble_eq_true rfl)) dMo_doRead_83 ⟨Nat.le_refl _, Nat.le_refl _⟩) ?_
    refine lv_i2l hx hb dMo_doRead_86 rfl ?_
    refine lv_ladd hx hb dMo_doRead_87 ?_
    refine mp0_time ((m_time z) + ((fMo_fixed o d).toInt64)) hq hS hx hb hts i0 hown hK hP w3 dMo_doRead_88 (fun H locs hP hS => ?_)
    refine lv_iload_n hx hb dMo_doRead_91 rfl (lv_at hl 1 rfl) ?_
    refine lv_bipush (v := 71) hx hb dMo_doRead_92 (by decide) ?_
    refine lv_icmp_ne hx hb dMo_doRead_94 rfl (fun h94 => ?_) (fun h94 => ?_)
    · have hR := hR.trans (if_neg h94)
      refine lv_iload_n hx hb dMo_doRead_130 rfl (lv_at hl 1 rfl) ?_
      refine lv_bipush (v := 14) hx hb dMo_doRead_131 (by decide) ?_
      refine lv_icmp_ne hx hb dMo_doRead_133 rfl (fun h133 => ?_) (fun h133 => ?_)
      · have hR := hR.trans (if_neg h133)
        refine lv_iload_n hx hb dMo_doRead_165 rfl (lv_at hl 1 rfl) ?_
        refine lv_bipush (v := 19) hx hb dMo_doRead_166 (by decide) ?_
        refine lv_icmp_ne hx hb dMo_doRead_168 rfl (fun h168 => ?_) (fun h168 => ?_)
        · have hR := hR.trans (if_neg h168)
          refine lv_iload_n hx hb dMo_doRead_200 rfl (lv_at hl 1 rfl) ?_
          refine lv_bipush (v := 69) hx hb dMo_doRead_201 (by decide) ?_
          refine lv_icmp_eq hx hb dMo_doRead_203 rfl (fun h203 => ?_) (fun h203 => ?_)
          · have hR := hR.trans (if_pos h203)
            refine lv_iconst (v := 1) hx hb dMo_doRead_214 (by decide) ?_
            exact W.zret hx hb hr rfl (fun t ht _ => ⟨by rw [hR]; first | done | rfl, by rw [hR, ht]; exact hP, hS.F ht⟩) hS.2.2 dMo_doRead_215
          · have hR := hR.trans (if_neg h203)
            refine lv_aload_n hx hb dMo_doRead_206 rfl (lv_at hl 0 rfl) ?_
            refine lv_iload_n hx hb dMo_doRead_207 rfl (lv_at hl 1 rfl) ?_
            refine lv_lload_n hx hb dMo_doRead_208 rfl (lv_at hl 3 rfl) ?_
            refine lv_iload hx hb dMo_doRead_209 (lv_at hl 4 rfl) ?_
            refine cl_wr (W.runV (As := [.int (o), .long (v), .int (bb (b))]) (rest := []) ⟨hx, hb, hml, hown, hts⟩ (kMo_sum l D q cI cJ cZ hq (m_time_s (m_distm_s (m_dist_s z v) b) ((m_time z) + ((fMo_fixed o d).toInt64))) o v b) (cwV 3 hts (gV wm5_122 wm5_124 ws3_7 wm1_9 wm5_125) rfl rfl rfl (by decide +kernel) ⟨Nat.le_of_ble_eq_true rfl, Nat.le_of_ble_eq_true rfl⟩) (m_preV0 hK hP) rfl rfl hl.1 rfl (lv_room (Nat.le_of_ble_eq_true rfl)) dMo_doRead_211 ⟨Nat.le_refl _, Nat.le_refl _⟩) hS (fun _ h => h) (fun _ h => h) (fun H locs hP hS => ?_)
            refine lv_iconst (v := 1) hx hb dMo_doRead_214 (by decide) ?_
            exact W.zret hx hb hr rfl (fun t ht _ => ⟨by rw [hR]; first | done | rfl, by rw [hR, ht]; exact hP, hS.F ht⟩) hS.2.2 dMo_doRead_215
        · have hR := hR.trans (if_pos h168)
          refine lv_aload_n hx hb dMo_doRead_171 rfl (lv_at hl 0 rfl) ?_
          refine lv_dup hx hb dMo_doRead_172 rfl ?_
          refine mg0_time_e (v := (m_time z) + ((fMo_fixed o d).toInt64)) (m_time_time _ _) hx hb hts i0 hown hK hP w3 dMo_doRead_173 ?_
          refine lv_iconst (v := 2) hx hb dMo_doRead_176 (by decide) ?_
          refine lv_aload_n hx hb dMo_doRead_177 rfl (lv_at hl 0 rfl) ?_
          refine mg0_upper_e (v := m_upper z) ((m_upper_time _ _).trans ((m_upper_distm _ _).trans ((m_upper_dist _ _).trans (rfl)))) hx hb hts i0 hown hK hP w4 dMo_doRead_178 ?_
          refine cl_rd (W.runS (As := [.long ((m_upper z))]) (rest := [.int (2), .long ((m_time z) + ((fMo_fixed o d).toInt64)), .ref (q 0)]) ⟨hx, hb, hml, hown, hts⟩ (kMo_sumOfDigits l (m_upper z)) (va_cwS 1 hts (gS wm5_115 wm5_116 wm1_9 wm5_117) rfl rfl rfl (by decide +kernel) ⟨Nat.le_of_ble_eq_true rfl, Nat.le_of_ble_eq_true rfl⟩) (preT) rfl rfl hl.1 rfl (lv_room (Nat.le_of_ble_eq_true rfl)) dMo_doRead_181 ⟨Nat.le_refl _, Nat.le_refl _⟩) ?_
          refine lv_imul hx hb dMo_doRead_184 ?_
          refine lv_i2l hx hb dMo_doRead_185 rfl ?_
          refine lv_ladd hx hb dMo_doRead_186 ?_
          refine mp0_time (((m_time z) + ((fMo_fixed o d).toInt64)) + ((2 * (fMo_sumOfDigits (m_upper z))).toInt64)) hq hS hx hb hts i0 hown hK hP w3 dMo_doRead_187 (fun H locs hP hS => ?_)
          refine lv_aload_n hx hb dMo_doRead_190 rfl (lv_at hl 0 rfl) ?_
          refine lv_lload_n hx hb dMo_doRead_191 rfl (lv_at hl 3 rfl) ?_
          refine lv_iload hx hb dMo_doRead_192 (lv_at hl 4 rfl) ?_
          refine cl_wr (W.runV (As := [.long (v), .int (bb (b))]) (rest := []) ⟨hx, hb, hml, hown, hts⟩ (kMo_multiply l D q cI cJ cZ hq (m_time_s (m_time_s (m_distm_s (m_dist_s z v) b) ((m_time z) + ((fMo_fixed o d).toInt64))) (((m_time z) + ((fMo_fixed o d).toInt64)) + ((2 * (fMo_sumOfDigits (m_upper z))).toInt64))) v b) (cwV 2 hts (gV wm5_118 wm5_120 ws3_6 wm1_9 wm5_121) rfl rfl rfl (by decide +kernel) ⟨Nat.le_of_ble_eq_true rfl, Nat.le_of_ble_eq_true rfl⟩) (m_preV0 hK hP) rfl rfl hl.1 rfl (lv_room (Nat.le_of_ble_eq_true rfl)) dMo_doRead_194 ⟨Nat.le_refl _, Nat.le_refl _⟩) hS (fun _ h => h) (fun _ h => h) (fun H locs hP hS => ?_)
          refine lv_goto hx hb dMo_doRead_197 rfl ?_
          refine lv_iconst (v := 1) hx hb dMo_doRead_214 (by decide) ?_
          exact W.zret hx hb hr rfl (fun t ht _ => ⟨by rw [hR]; first | done | rfl, by rw [hR, ht]; exact hP, hS.F ht⟩) hS.2.2 dMo_doRead_215
      · have hR := hR.trans (if_pos h133)
        refine lv_aload_n hx hb dMo_doRead_136 rfl (lv_at hl 0 rfl) ?_
        refine lv_lload_n hx hb dMo_doRead_137 rfl (lv_at hl 3 rfl) ?_
        refine lv_iload hx hb dMo_doRead_138 (lv_at hl 4 rfl) ?_
        refine cl_wr (W.runV (As := [.long (v), .int (bb (b))]) (rest := []) ⟨hx, hb, hml, hown, hts⟩ (kMo_divide l D q cI cJ cZ hq (m_time_s (m_distm_s (m_dist_s z v) b) ((m_time z) + ((fMo_fixed o d).toInt64))) v b (hz h133)) (cwV 2 hts (gV wm5_110 wm5_112 ws3_5 wm1_9 wm5_113) rfl rfl rfl (by decide +kernel) ⟨Nat.le_of_ble_eq_true rfl, Nat.le_of_ble_eq_true rfl⟩) (m_preV0 hK hP) rfl rfl hl.1 rfl (lv_room (Nat.le_of_ble_eq_true rfl)) dMo_doRead_140 ⟨Nat.le_refl _, Nat.le_refl _⟩) hS (fun _ h => h) (fun _ h => h) (fun H locs hP hS => ?_)
        refine lv_aload_n hx hb dMo_doRead_143 rfl (lv_at hl 0 rfl) ?_
        refine lv_dup hx hb dMo_doRead_144 rfl ?_
        refine mg0_time hx hb hts i0 hown hK hP w3 dMo_doRead_145 ?_
        refine lv_iconst (v := 2) hx hb dMo_doRead_148 (by decide) ?_
        refine lv_aload_n hx hb dMo_doRead_149 rfl (lv_at hl 0 rfl) ?_
        refine mg0_lower hx hb hts i0 hown hK hP w5 dMo_doRead_150 ?_
        refine cl_rd (W.runS (As := [.long ((m_lower (fMo_divide (m_time_s (m_distm_s (m_dist_s z v) b) ((m_time z) + ((fMo_fixed o d).toInt64))) v b)))]) (rest := [.int (2), .long (m_time (fMo_divide (m_time_s (m_distm_s (m_dist_s z v) b) ((m_time z) + ((fMo_fixed o d).toInt64))) v b)), .ref (q 0)]) ⟨hx, hb, hml, hown, hts⟩ (kMo_sumOfDigits l (m_lower (fMo_divide (m_time_s (m_distm_s (m_dist_s z v) b) ((m_time z) + ((fMo_fixed o d).toInt64))) v b))) (va_cwS 1 hts (gS wm5_115 wm5_116 wm1_9 wm5_117) rfl rfl rfl (by decide +kernel) ⟨Nat.le_of_ble_eq_true rfl, Nat.le_of_ble_eq_true rfl⟩) (preT) rfl rfl hl.1 rfl (lv_room (Nat.le_of_ble_eq_true rfl)) dMo_doRead_153 ⟨Nat.le_refl _, Nat.le_refl _⟩) ?_
        refine lv_imul hx hb dMo_doRead_156 ?_
        refine lv_i2l hx hb dMo_doRead_157 rfl ?_
        refine lv_ladd hx hb dMo_doRead_158 ?_
        refine mp0_time ((m_time (fMo_divide (m_time_s (m_distm_s (m_dist_s z v) b) ((m_time z) + ((fMo_fixed o d).toInt64))) v b)) + ((2 * (fMo_sumOfDigits (m_lower (fMo_divide (m_time_s (m_distm_s (m_dist_s z v) b) ((m_time z) + ((fMo_fixed o d).toInt64))) v b)))).toInt64)) hq hS hx hb hts i0 hown hK hP w3 dMo_doRead_159 (fun H locs hP hS => ?_)
        refine lv_goto hx hb dMo_doRead_162 rfl ?_
        refine lv_iconst (v := 1) hx hb dMo_doRead_214 (by decide) ?_
        exact W.zret hx hb hr rfl (fun t ht _ => ⟨by rw [hR]; first | done | rfl, by rw [hR, ht]; exact hP, hS.F ht⟩) hS.2.2 dMo_doRead_215
    · have hR := hR.trans (if_pos h94)
      refine lv_aload_n hx hb dMo_doRead_97 rfl (lv_at hl 0 rfl) ?_
      refine mg0_output hx hb hts i0 hown hK hP w6 dMo_doRead_98 ?_
      refine lv_aload_n hx hb dMo_doRead_101 rfl (lv_at hl 0 rfl) ?_
      refine mg0_outputs_e (v := m_outs z) ((m_outs_time _ _).trans ((m_outs_distm _ _).trans ((m_outs_dist _ _).trans (rfl)))) hx hb hts i0 hown hK hP w0 dMo_doRead_102 ?_
      refine lv_iload hx hb dMo_doRead_105 (lv_at hl 4 rfl) ?_
      refine wz_ifeq hx hb dMo_doRead_107 rfl (fun h107 => ?_) (fun h107 => ?_)
      · have hR := hR.trans (if_neg h107)
        refine lv_lload_n hx hb dMo_doRead_115 rfl (lv_at hl 3 rfl) ?_
        exact hB116 H locs ls (m_time_s (m_distm_s (m_dist_s z v) b) ((m_time z) + ((fMo_fixed o d).toInt64))) (m_outs z) v hR (hp h94) hP hS (lv_sub hl [0] rfl)
      · have hR := hR.trans (if_pos h107)
        refine lv_lload_n hx hb dMo_doRead_110 rfl (lv_at hl 3 rfl) ?_
        refine lv_lneg hx hb dMo_doRead_111 ?_
        refine lv_goto hx hb dMo_doRead_112 rfl ?_
        exact hB116 H locs ls (m_time_s (m_distm_s (m_dist_s z v) b) ((m_time z) + ((fMo_fixed o d).toInt64))) (m_outs z) (-v) hR (hp h94) hP hS (lv_sub hl [0] rfl)
  have hB42 : ∀ (H : Heap) (locs : List Loc) (ls : Array Slot) (z : SM), fMo_doRead z0 o d v b w = fMo_doRead_42 z o d v b w → (o = 14 → ¬ v = 0) → (0 ≤ (m_outs z).toInt ∧ (m_outs z).toInt ≤ 40) → m_W D q cI cJ cZ z H → va_S (m_qs q) s.heap H locs → lv_has ls 7 [(0, .ref (q 0)), (1, .int (o)), (2, .int (d)), (3, .long (v)), (5, .int (bb (b))), (6, .int (w))] → W p l e (headSpec wsMo_doRead { frames := 3, cells := 0, slots := 0, locals := 75 }).room s m ([.ref (q 0), .int (o), .int (d), .long (v), .int (bb (b)), .int (w)] : List Value).toArray below meth c H locs 0 0 (MQ below (cQw (some (.int (bb ((fMo_doRead z0 o d v b w).1)))) (m_W D q cI cJ cZ (fMo_doRead z0 o d v b w).2) (m_qs q)) ([.ref (q 0), .int (o), .int (d), .long (v), .int (bb (b)), .int (w)] : List Value).toArray s 0 0 (m_qs q)) (F0 m 42 ls []) := by
    intro H locs ls z hR hz hou hP hS hl
    rw [fMo_doRead_42.eq_1] at hR
    refine lv_iload_n hx hb dMo_doRead_42 rfl (lv_at hl 1 rfl) ?_
    refine lv_bipush (v := 71) hx hb dMo_doRead_43 (by decide) ?_
    refine lv_icmp_ne hx hb dMo_doRead_45 rfl (fun h45 => ?_) (fun h45 => ?_)
    · have hR := hR.trans (if_neg h45)
      exact hB65 H locs ls z hR (by first | assumption | omega) (fun h => absurd h h45) hP hS (lv_sub hl [0, 1, 2, 3, 4] rfl)
    · have hR := hR.trans (if_pos h45)
      refine lv_aload_n hx hb dMo_doRead_48 rfl (lv_at hl 0 rfl) ?_
      refine mg0_outputs hx hb hts i0 hown hK hP w0 dMo_doRead_49 ?_
      refine lv_bipush (v := 40) hx hb dMo_doRead_52 (by decide) ?_
      refine lv_icmp_ne hx hb dMo_doRead_54 rfl (fun h54 => ?_) (fun h54 => ?_)
      · have hR := hR.trans (if_neg h54)
        exact hB65 H locs ls z hR (by first | assumption | omega) (fun _ => ou_in hou h54) hP hS (lv_sub hl [0, 1, 2, 3, 4] rfl)
      · have hR := hR.trans (if_pos h54)
        refine lv_aload_n hx hb dMo_doRead_57 rfl (lv_at hl 0 rfl) ?_
        refine lv_iconst (v := 4) hx hb dMo_doRead_58 (by decide) ?_
        refine lv_iload hx hb dMo_doRead_59 (lv_at hl 5 rfl) ?_
        refine cl_wr (W.runV (As := [.int (4), .int (w)]) (rest := []) ⟨hx, hb, hml, hown, hts⟩ (kMo_stop l D q cI cJ cZ hq z 4 w) (cwV 2 hts (gV wm5_76 wm5_78 ws3_1 wm1_9 wm5_79) rfl rfl rfl (by decide +kernel) ⟨Nat.le_of_ble_eq_true rfl, Nat.le_of_ble_eq_true rfl⟩) (m_preV0 hK hP) rfl rfl hl.1 rfl (lv_room (Nat.le_of_ble_eq_true rfl)) dMo_doRead_61 ⟨Nat.le_refl _, Nat.le_refl _⟩) hS (fun _ h => h) (fun _ h => h) (fun H locs hP hS => ?_)
        exact W.zret hx hb hr (nz_b _) (fun t ht _ => ⟨by rw [hR]; first | done | rfl, by rw [hR, ht]; exact hP, hS.F ht⟩) hS.2.2 dMo_doRead_64
  have hR := fMo_doRead.eq_1 z0 o d v b w
  refine lv_iload_n hx hb dMo_doRead_0 rfl (lv_at hl 1 rfl) ?_
  refine lv_bipush (v := 84) hx hb dMo_doRead_1 (by decide) ?_
  refine lv_icmp_ne hx hb dMo_doRead_3 rfl (fun h3 => ?_) (fun h3 => ?_)
  · have hR := hR.trans (if_neg h3)
    refine lv_iload_n hx hb dMo_doRead_14 rfl (lv_at hl 1 rfl) ?_
    refine lv_bipush (v := 14) hx hb dMo_doRead_15 (by decide) ?_
    refine lv_icmp_ne hx hb dMo_doRead_17 rfl (fun h17 => ?_) (fun h17 => ?_)
    · have hR := hR.trans (if_neg h17)
      exact hB42 s.heap [] ls z0 hR (fun h => absurd h h17) (by first | assumption | omega) hP hS (lv_sub hl [0, 1, 2, 3, 4, 5] rfl)
    · have hR := hR.trans (if_pos h17)
      refine lv_aload_n hx hb dMo_doRead_20 rfl (lv_at hl 0 rfl) ?_
      refine mg0_upper hx hb hts i0 hown hK hP w4 dMo_doRead_21 ?_
      refine lv_lload_n hx hb dMo_doRead_24 rfl (lv_at hl 3 rfl) ?_
      refine lc_lt hx hb dMo_doRead_25 dMo_doRead_26 rfl (fun h25 => ?_) (fun h25 => ?_)
      · have hR := hR.trans (if_pos h25)
        exact hB42 s.heap [] ls z0 hR (fun _ => dv_ne hup (by first | exact h25 | exact Int64.not_le.mp h25)) (by first | assumption | omega) hP hS (lv_sub hl [0, 1, 2, 3, 4, 5] rfl)
      · have hR := hR.trans (if_neg h25)
        refine lv_aload_n hx hb dMo_doRead_29 rfl (lv_at hl 0 rfl) ?_
        refine lv_iconst (v := 1) hx hb dMo_doRead_30 (by decide) ?_
        refine mp0_overflow (true) hq hS hx hb hts i0 hown hK hP w7 dMo_doRead_31 (fun H locs hP hS => ?_)
        refine lv_aload_n hx hb dMo_doRead_34 rfl (lv_at hl 0 rfl) ?_
        refine lv_iconst (v := 3) hx hb dMo_doRead_35 (by decide) ?_
        refine lv_iload hx hb dMo_doRead_36 (lv_at hl 5 rfl) ?_
        refine cl_wr (W.runV (As := [.int (3), .int (w)]) (rest := []) ⟨hx, hb, hml, hown, hts⟩ (kMo_stop l D q cI cJ cZ hq (m_ovf_s z0 true) 3 w) (cwV 2 hts (gV wm5_76 wm5_78 ws3_1 wm1_9 wm5_79) rfl rfl rfl (by decide +kernel) ⟨Nat.le_of_ble_eq_true rfl, Nat.le_of_ble_eq_true rfl⟩) (m_preV0 hK hP) rfl rfl hl.1 rfl (lv_room (Nat.le_of_ble_eq_true rfl)) dMo_doRead_38 ⟨Nat.le_refl _, Nat.le_refl _⟩) hS (fun _ h => h) (fun _ h => h) (fun H locs hP hS => ?_)
        exact W.zret hx hb hr (nz_b _) (fun t ht _ => ⟨by rw [hR]; first | done | rfl, by rw [hR, ht]; exact hP, hS.F ht⟩) hS.2.2 dMo_doRead_41
  · have hR := hR.trans (if_pos h3)
    refine lv_aload_n hx hb dMo_doRead_6 rfl (lv_at hl 0 rfl) ?_
    refine lv_iload_n hx hb dMo_doRead_7 rfl (lv_at hl 2 rfl) ?_
    refine lv_iload hx hb dMo_doRead_8 (lv_at hl 5 rfl) ?_
    refine cl_wr (W.runV (As := [.int (d), .int (w)]) (rest := []) ⟨hx, hb, hml, hown, hts⟩ (kMo_lookUp l D q cI cJ cZ hq z0 d w ha) (cwV 2 hts (gV wm5_103 wm5_105 ws3_4 wm1_9 wm5_106) rfl rfl rfl (by decide +kernel) ⟨Nat.le_of_ble_eq_true rfl, Nat.le_of_ble_eq_true rfl⟩) (m_preV0 hK hP) rfl rfl hl.1 rfl (lv_room (Nat.le_of_ble_eq_true rfl)) dMo_doRead_10 ⟨Nat.le_refl _, Nat.le_refl _⟩) hS (fun _ h => h) (fun _ h => h) (fun H locs hP hS => ?_)
    exact W.zret hx hb hr (nz_b _) (fun t ht _ => ⟨by rw [hR]; first | done | rfl, by rw [hR, ht]; exact hP, hS.F ht⟩) hS.2.2 dMo_doRead_13
