theorem dMo_shiftRight_0 : decode ccMo_shiftRight 0 = .ok (.iconst 0, 1) := by decide +kernel
theorem dMo_shiftRight_1 : decode ccMo_shiftRight 1 = .ok (.istore_n 3, 1) := by decide +kernel
theorem dMo_shiftRight_2 : decode ccMo_shiftRight 2 = .ok (.iconst 0, 1) := by decide +kernel
theorem dMo_shiftRight_3 : decode ccMo_shiftRight 3 = .ok (.istore 4, 2) := by decide +kernel
theorem dMo_shiftRight_5 : decode ccMo_shiftRight 5 = .ok (.iload 4, 2) := by decide +kernel
theorem dMo_shiftRight_7 : decode ccMo_shiftRight 7 = .ok (.iload_n 1, 1) := by decide +kernel
theorem dMo_shiftRight_8 : decode ccMo_shiftRight 8 = .ok (.if_icmp .ge 56, 3) := by decide +kernel
theorem dMo_shiftRight_11 : decode ccMo_shiftRight 11 = .ok (.aload_n 0, 1) := by decide +kernel
theorem dMo_shiftRight_12 : decode ccMo_shiftRight 12 = .ok (.getfield 115, 3) := by decide +kernel
theorem dMo_shiftRight_15 : decode ccMo_shiftRight 15 = .ok (.ldc2_w 67, 3) := by decide +kernel
theorem dMo_shiftRight_18 : decode ccMo_shiftRight 18 = .ok (.lrem, 1) := by decide +kernel
theorem dMo_shiftRight_19 : decode ccMo_shiftRight 19 = .ok (.l2i, 1) := by decide +kernel
theorem dMo_shiftRight_20 : decode ccMo_shiftRight 20 = .ok (.istore_n 3, 1) := by decide +kernel
theorem dMo_shiftRight_21 : decode ccMo_shiftRight 21 = .ok (.aload_n 0, 1) := by decide +kernel
theorem dMo_shiftRight_22 : decode ccMo_shiftRight 22 = .ok (.aload_n 0, 1) := by decide +kernel
theorem dMo_shiftRight_23 : decode ccMo_shiftRight 23 = .ok (.getfield 115, 3) := by decide +kernel
theorem dMo_shiftRight_26 : decode ccMo_shiftRight 26 = .ok (.ldc2_w 67, 3) := by decide +kernel
theorem dMo_shiftRight_29 : decode ccMo_shiftRight 29 = .ok (.ldiv, 1) := by decide +kernel
theorem dMo_shiftRight_30 : decode ccMo_shiftRight 30 = .ok (.aload_n 0, 1) := by decide +kernel
theorem dMo_shiftRight_31 : decode ccMo_shiftRight 31 = .ok (.getfield 118, 3) := by decide +kernel
theorem dMo_shiftRight_34 : decode ccMo_shiftRight 34 = .ok (.ldc2_w 67, 3) := by decide +kernel
theorem dMo_shiftRight_37 : decode ccMo_shiftRight 37 = .ok (.lrem, 1) := by decide +kernel
theorem dMo_shiftRight_38 : decode ccMo_shiftRight 38 = .ok (.ldc2_w 124, 3) := by decide +kernel
theorem dMo_shiftRight_41 : decode ccMo_shiftRight 41 = .ok (.lmul, 1) := by decide +kernel
theorem dMo_shiftRight_42 : decode ccMo_shiftRight 42 = .ok (.ladd, 1) := by decide +kernel
theorem dMo_shiftRight_43 : decode ccMo_shiftRight 43 = .ok (.putfield 115, 3) := by decide +kernel
theorem dMo_shiftRight_46 : decode ccMo_shiftRight 46 = .ok (.aload_n 0, 1) := by decide +kernel
theorem dMo_shiftRight_47 : decode ccMo_shiftRight 47 = .ok (.dup, 1) := by decide +kernel
theorem dMo_shiftRight_48 : decode ccMo_shiftRight 48 = .ok (.getfield 118, 3) := by decide +kernel
theorem dMo_shiftRight_51 : decode ccMo_shiftRight 51 = .ok (.ldc2_w 67, 3) := by decide +kernel
theorem dMo_shiftRight_54 : decode ccMo_shiftRight 54 = .ok (.ldiv, 1) := by decide +kernel
theorem dMo_shiftRight_55 : decode ccMo_shiftRight 55 = .ok (.putfield 118, 3) := by decide +kernel
theorem dMo_shiftRight_58 : decode ccMo_shiftRight 58 = .ok (.iinc 4 1, 3) := by decide +kernel
theorem dMo_shiftRight_61 : decode ccMo_shiftRight 61 = .ok (.goto (-56), 3) := by decide +kernel
theorem dMo_shiftRight_64 : decode ccMo_shiftRight 64 = .ok (.iload_n 2, 1) := by decide +kernel
theorem dMo_shiftRight_65 : decode ccMo_shiftRight 65 = .ok (.ifCond .eq 8, 3) := by decide +kernel
theorem dMo_shiftRight_68 : decode ccMo_shiftRight 68 = .ok (.iload_n 3, 1) := by decide +kernel
theorem dMo_shiftRight_69 : decode ccMo_shiftRight 69 = .ok (.iconst 5, 1) := by decide +kernel
theorem dMo_shiftRight_70 : decode ccMo_shiftRight 70 = .ok (.if_icmp .ge 4, 3) := by decide +kernel
theorem dMo_shiftRight_73 : decode ccMo_shiftRight 73 = .ok (.return_, 1) := by decide +kernel
theorem dMo_shiftRight_74 : decode ccMo_shiftRight 74 = .ok (.aload_n 0, 1) := by decide +kernel
theorem dMo_shiftRight_75 : decode ccMo_shiftRight 75 = .ok (.dup, 1) := by decide +kernel
theorem dMo_shiftRight_76 : decode ccMo_shiftRight 76 = .ok (.getfield 115, 3) := by decide +kernel
theorem dMo_shiftRight_79 : decode ccMo_shiftRight 79 = .ok (.lconst 1, 1) := by decide +kernel
theorem dMo_shiftRight_80 : decode ccMo_shiftRight 80 = .ok (.ladd, 1) := by decide +kernel
theorem dMo_shiftRight_81 : decode ccMo_shiftRight 81 = .ok (.putfield 115, 3) := by decide +kernel
theorem dMo_shiftRight_84 : decode ccMo_shiftRight 84 = .ok (.aload_n 0, 1) := by decide +kernel
theorem dMo_shiftRight_85 : decode ccMo_shiftRight 85 = .ok (.dup, 1) := by decide +kernel
theorem dMo_shiftRight_86 : decode ccMo_shiftRight 86 = .ok (.getfield 118, 3) := by decide +kernel
theorem dMo_shiftRight_89 : decode ccMo_shiftRight 89 = .ok (.aload_n 0, 1) := by decide +kernel
theorem dMo_shiftRight_90 : decode ccMo_shiftRight 90 = .ok (.getfield 115, 3) := by decide +kernel
theorem dMo_shiftRight_93 : decode ccMo_shiftRight 93 = .ok (.ldc2_w 65, 3) := by decide +kernel
theorem dMo_shiftRight_96 : decode ccMo_shiftRight 96 = .ok (.ldiv, 1) := by decide +kernel
theorem dMo_shiftRight_97 : decode ccMo_shiftRight 97 = .ok (.ladd, 1) := by decide +kernel
theorem dMo_shiftRight_98 : decode ccMo_shiftRight 98 = .ok (.putfield 118, 3) := by decide +kernel
theorem dMo_shiftRight_101 : decode ccMo_shiftRight 101 = .ok (.aload_n 0, 1) := by decide +kernel
theorem dMo_shiftRight_102 : decode ccMo_shiftRight 102 = .ok (.dup, 1) := by decide +kernel
theorem dMo_shiftRight_103 : decode ccMo_shiftRight 103 = .ok (.getfield 115, 3) := by decide +kernel
theorem dMo_shiftRight_106 : decode ccMo_shiftRight 106 = .ok (.ldc2_w 65, 3) := by decide +kernel
theorem dMo_shiftRight_109 : decode ccMo_shiftRight 109 = .ok (.lrem, 1) := by decide +kernel
theorem dMo_shiftRight_110 : decode ccMo_shiftRight 110 = .ok (.putfield 115, 3) := by decide +kernel
theorem dMo_shiftRight_113 : decode ccMo_shiftRight 113 = .ok (.return_, 1) := by decide +kernel
def fMo_shiftRight_5  : Nat → SM → Int32 → Bool → Int32 → Nat → SM
  | 0, z, x, b, v3, v4 => z
  | fu + 1, z, x, b, v3, v4 => (if x ≤ (nI (v4)) then (if b = true then (if (5 : Int32) ≤ v3 then m_lower_s (m_upper_s (m_lower_s z ((m_lower z) + 1)) ((m_upper z) + (((m_lower z) + 1) / 10000000000))) (((m_lower z) + 1) % 10000000000) else z) else z) else fMo_shiftRight_5 fu (m_upper_s (m_lower_s z (((m_lower z) / 10) + (((m_upper z) % 10) * 1000000000))) ((m_upper z) / 10)) x b (((m_lower z) % 10).toInt32) (v4 + 1))
def fMo_shiftRight (z0 : SM) (x : Int32) (b : Bool) : SM :=
  fMo_shiftRight_5 11 z0 x b 0 0
set_option maxHeartbeats 4000000 in
set_option maxRecDepth 100000 in
theorem kMo_shiftRight (l : Launch) (D : va_G) (q : Nat → Nat) (cI cJ cZ : ClassId) (hq : m_inj q) (z0 : SM) (x : Int32) (b : Bool) (hx9 : x.toInt ≤ (10 : Nat)) : Met l yMo_shiftRight wsMo_shiftRight { frames := 0, cells := 0, slots := 0, locals := 0 } (va_Pc [.ref (q 0), .int (x), .int (bb (b))] (m_C D q cI cJ cZ z0)) (cQw none (m_W D q cI cJ cZ (fMo_shiftRight z0 x b)) (m_qs q)) 0 0 (m_qs q) := by
  refine Met.ofW (cc := ccMo_shiftRight) (maxL := 5) (ret := none) (by decide +kernel) rfl ?_
  intro p e s m args below meth c s₁ B hml hv
  obtain ⟨rfl, hP, hK⟩ := hv
  have hx := B.exec
  have hb := B.bytes
  have hr := B.returns
  have hts := atoms_spec (ws := wsMo_shiftRight) B.pre
  have hown : s.vm.findClass RMo = some m.cls := findClass_of_methodNamed B.named
  have hlocks := B.notSynchronized
  have w0 := hts (.fieldLink RMo 115 "DrumMachineModel" "lower" "J") (List.mem_cons_of_mem _ wm4_192)
  have w1 := hts (.fieldLink RMo 118 "DrumMachineModel" "upper" "J") (List.mem_cons_of_mem _ wm4_191)
  have w2 := hts (.constantLong RMo 65 (10000000000)) (List.mem_cons_of_mem _ wm5_47)
  have w3 := hts (.constantLong RMo 67 (10)) (List.mem_cons_of_mem _ wm4_183)
  have w4 := hts (.constantLong RMo 124 (1000000000)) (List.mem_cons_of_mem _ wm5_114)
  have i0 : ∀ w ∈ u_ws RMo TMo 28, w ∈ wsMo_shiftRight := fun w h => List.mem_cons_of_mem _ (inAMo w h)
  have hS : va_S (m_qs q) s.heap s.heap [] := va_S.rf
  have hl := lv_entry ([.ref (q 0), .int (x), .int (bb (b))]) (n := 5) (Nat.le_of_ble_eq_true rfl)
  rw [lg_entry_eq]
  generalize (lg_sl ([.ref (q 0), .int (x), .int (bb (b))]) ++ List.replicate (5 - (lg_sl ([.ref (q 0), .int (x), .int (bb (b))])).length) Slot.unset).toArray = ls at hl ⊢
  have hl : lv_has ls 5 [(0, .ref (q 0)), (1, .int (x)), (2, .int (bb (b)))] := hl
  have hB5 : ∀ (n5 : Nat) (H : Heap) (locs : List Loc) (ls : Array Slot) (z : SM) (v3 : Int32) (v4 : Nat), 10 - v4 < n5 → fMo_shiftRight z0 x b = fMo_shiftRight_5 n5 z x b v3 v4 → (v4 ≤ 10) → m_W D q cI cJ cZ z H → va_S (m_qs q) s.heap H locs → lv_has ls 5 [(0, .ref (q 0)), (1, .int (x)), (2, .int (bb (b))), (3, .int (v3)), (4, .int (nI (v4)))] → W p l e (headSpec wsMo_shiftRight { frames := 0, cells := 0, slots := 0, locals := 0 }).room s m ([.ref (q 0), .int (x), .int (bb (b))] : List Value).toArray below meth c H locs 0 0 (MQ below (cQw none (m_W D q cI cJ cZ (fMo_shiftRight z0 x b)) (m_qs q)) ([.ref (q 0), .int (x), .int (bb (b))] : List Value).toArray s 0 0 (m_qs q)) (F0 m 5 ls []) := by
    intro n5
    induction n5 with
    | zero => intro H locs ls z v3 v4 hn5; exact absurd hn5 (Nat.not_lt_zero _)
    | succ n5 ih5 =>
      intro H locs ls z v3 v4 hn5 hR h4 hP hS hl
      rw [fMo_shiftRight_5.eq_2] at hR
      refine lv_iload hx hb dMo_shiftRight_5 (lv_at hl 4 rfl) ?_
      refine lv_iload_n hx hb dMo_shiftRight_7 rfl (lv_at hl 1 rfl) ?_
      refine lv_icmp_ge hx hb dMo_shiftRight_8 rfl (fun h8 => ?_) (fun h8 => ?_)
      · have hR := hR.trans (if_pos h8)
        refine lv_iload_n hx hb dMo_shiftRight_64 rfl (lv_at hl 2 rfl) ?_
        refine wz_ifeq hx hb dMo_shiftRight_65 rfl (fun h65 => ?_) (fun h65 => ?_)
        · have hR := hR.trans (if_neg h65)
          exact W.vret hx hb hr (fun t ht _ => ⟨rfl, by rw [hR, ht]; exact hP, hS.F ht⟩) hS.2.2 dMo_shiftRight_73
        · have hR := hR.trans (if_pos h65)
          refine lv_iload_n hx hb dMo_shiftRight_68 rfl (lv_at hl 3 rfl) ?_
          refine lv_iconst (v := 5) hx hb dMo_shiftRight_69 (by decide) ?_
          refine lv_icmp_ge hx hb dMo_shiftRight_70 rfl (fun h70 => ?_) (fun h70 => ?_)
          · have hR := hR.trans (if_pos h70)
            refine lv_aload_n hx hb dMo_shiftRight_74 rfl (lv_at hl 0 rfl) ?_
            refine lv_dup hx hb dMo_shiftRight_75 rfl ?_
            refine mg0_lower hx hb hts i0 hown hK hP w0 dMo_shiftRight_76 ?_
            refine lv_lconst (v := 1) hx hb dMo_shiftRight_79 (by decide) ?_
            refine lv_ladd hx hb dMo_shiftRight_80 ?_
            refine mp0_lower ((m_lower z) + 1) hq hS hx hb hts i0 hown hK hP w0 dMo_shiftRight_81 (fun H locs hP hS => ?_)
            refine lv_aload_n hx hb dMo_shiftRight_84 rfl (lv_at hl 0 rfl) ?_
            refine lv_dup hx hb dMo_shiftRight_85 rfl ?_
            refine mg0_upper_e (v := m_upper z) ((m_upper_lower _ _).trans (rfl)) hx hb hts i0 hown hK hP w1 dMo_shiftRight_86 ?_
            refine lv_aload_n hx hb dMo_shiftRight_89 rfl (lv_at hl 0 rfl) ?_
            refine mg0_lower_e (v := (m_lower z) + 1) (m_lower_lower _ _) hx hb hts i0 hown hK hP w0 dMo_shiftRight_90 ?_
            refine lv_ldc2 (v := 10000000000) hx hb hown w2 dMo_shiftRight_93 ?_
            refine lv_ldiv hx hb dMo_shiftRight_96 (by decide) ?_
            refine lv_ladd hx hb dMo_shiftRight_97 ?_
            refine mp0_upper ((m_upper z) + (((m_lower z) + 1) / 10000000000)) hq hS hx hb hts i0 hown hK hP w1 dMo_shiftRight_98 (fun H locs hP hS => ?_)
            refine lv_aload_n hx hb dMo_shiftRight_101 rfl (lv_at hl 0 rfl) ?_
            refine lv_dup hx hb dMo_shiftRight_102 rfl ?_
            refine mg0_lower_e (v := (m_lower z) + 1) ((m_lower_upper _ _).trans (m_lower_lower _ _)) hx hb hts i0 hown hK hP w0 dMo_shiftRight_103 ?_
            refine lv_ldc2 (v := 10000000000) hx hb hown w2 dMo_shiftRight_106 ?_
            refine lm_lrem hx hb dMo_shiftRight_109 (by decide) ?_
            refine mp0_lower (((m_lower z) + 1) % 10000000000) hq hS hx hb hts i0 hown hK hP w0 dMo_shiftRight_110 (fun H locs hP hS => ?_)
            exact W.vret hx hb hr (fun t ht _ => ⟨rfl, by rw [hR, ht]; exact hP, hS.F ht⟩) hS.2.2 dMo_shiftRight_113
          · have hR := hR.trans (if_neg h70)
            exact W.vret hx hb hr (fun t ht _ => ⟨rfl, by rw [hR, ht]; exact hP, hS.F ht⟩) hS.2.2 dMo_shiftRight_73
      · have hR := hR.trans (if_neg h8)
        refine lv_aload_n hx hb dMo_shiftRight_11 rfl (lv_at hl 0 rfl) ?_
        refine mg0_lower hx hb hts i0 hown hK hP w0 dMo_shiftRight_12 ?_
        refine lv_ldc2 (v := 10) hx hb hown w3 dMo_shiftRight_15 ?_
        refine lm_lrem hx hb dMo_shiftRight_18 (by decide) ?_
        refine lv_l2i hx hb dMo_shiftRight_19 rfl ?_
        refine lv_istore_n (lv' := [(3, .int (((m_lower z) % 10).toInt32)), (0, .ref (q 0)), (1, .int (x)), (2, .int (bb (b))), (4, .int (nI (v4)))]) hx hb dMo_shiftRight_20 rfl hl (by decide) rfl (fun ls hl => ?_)
        refine lv_aload_n hx hb dMo_shiftRight_21 rfl (lv_at hl 1 rfl) ?_
        refine lv_aload_n hx hb dMo_shiftRight_22 rfl (lv_at hl 1 rfl) ?_
        refine mg0_lower hx hb hts i0 hown hK hP w0 dMo_shiftRight_23 ?_
        refine lv_ldc2 (v := 10) hx hb hown w3 dMo_shiftRight_26 ?_
        refine lv_ldiv hx hb dMo_shiftRight_29 (by decide) ?_
        refine lv_aload_n hx hb dMo_shiftRight_30 rfl (lv_at hl 1 rfl) ?_
        refine mg0_upper hx hb hts i0 hown hK hP w1 dMo_shiftRight_31 ?_
        refine lv_ldc2 (v := 10) hx hb hown w3 dMo_shiftRight_34 ?_
        refine lm_lrem hx hb dMo_shiftRight_37 (by decide) ?_
        refine lv_ldc2 (v := 1000000000) hx hb hown w4 dMo_shiftRight_38 ?_
        refine lv_lmul hx hb dMo_shiftRight_41 ?_
        refine lv_ladd hx hb dMo_shiftRight_42 ?_
        refine mp0_lower (((m_lower z) / 10) + (((m_upper z) % 10) * 1000000000)) hq hS hx hb hts i0 hown hK hP w0 dMo_shiftRight_43 (fun H locs hP hS => ?_)
        refine lv_aload_n hx hb dMo_shiftRight_46 rfl (lv_at hl 1 rfl) ?_
        refine lv_dup hx hb dMo_shiftRight_47 rfl ?_
        refine mg0_upper_e (v := m_upper z) ((m_upper_lower _ _).trans (rfl)) hx hb hts i0 hown hK hP w1 dMo_shiftRight_48 ?_
        refine lv_ldc2 (v := 10) hx hb hown w3 dMo_shiftRight_51 ?_
        refine lv_ldiv hx hb dMo_shiftRight_54 (by decide) ?_
        refine mp0_upper ((m_upper z) / 10) hq hS hx hb hts i0 hown hK hP w1 dMo_shiftRight_55 (fun H locs hP hS => ?_)
        refine lv_iinc (k := 4) (lv' := [(4, .int (nI (v4 + 1))), (3, .int (((m_lower z) % 10).toInt32)), (0, .ref (q 0)), (1, .int (x)), (2, .int (bb (b)))]) hx hb dMo_shiftRight_58 hl rfl (nI_1 _) (by decide) rfl (fun ls hl => ?_)
        refine lv_goto hx hb dMo_shiftRight_61 rfl ?_
        exact ih5 H locs ls (m_upper_s (m_lower_s z (((m_lower z) / 10) + (((m_upper z) % 10) * 1000000000))) ((m_upper z) / 10)) (((m_lower z) % 10).toInt32) (v4 + 1) (kb_m hx9 h4 (by decide) h8 hn5) hR (kb_b hx9 h4 (by decide) h8) hP hS (lv_sub hl [2, 3, 4, 1, 0] rfl)
  have hR := fMo_shiftRight.eq_1 z0 x b
  refine lv_iconst (v := 0) hx hb dMo_shiftRight_0 (by decide) ?_
  refine lv_istore_n (lv' := [(3, .int (0)), (0, .ref (q 0)), (1, .int (x)), (2, .int (bb (b)))]) hx hb dMo_shiftRight_1 rfl hl (by decide) rfl (fun ls hl => ?_)
  refine lv_iconst (v := 0) hx hb dMo_shiftRight_2 (by decide) ?_
  refine lv_istore (lv' := [(4, .int (nI (0))), (3, .int (0)), (0, .ref (q 0)), (1, .int (x)), (2, .int (bb (b)))]) hx hb dMo_shiftRight_3 hl (by decide) rfl (fun ls hl => ?_)
  exact hB5 11 s.heap [] ls z0 0 0 (by omega) hR (by first | assumption | omega) hP hS (lv_sub hl [2, 3, 4, 1, 0] rfl)
theorem dMo_shiftLeft_0 : decode ccMo_shiftLeft 0 = .ok (.iconst 0, 1) := by decide +kernel
theorem dMo_shiftLeft_1 : decode ccMo_shiftLeft 1 = .ok (.istore_n 2, 1) := by decide +kernel
theorem dMo_shiftLeft_2 : decode ccMo_shiftLeft 2 = .ok (.iload_n 2, 1) := by decide +kernel
theorem dMo_shiftLeft_3 : decode ccMo_shiftLeft 3 = .ok (.iload_n 1, 1) := by decide +kernel
theorem dMo_shiftLeft_4 : decode ccMo_shiftLeft 4 = .ok (.if_icmp .ge 50, 3) := by decide +kernel
theorem dMo_shiftLeft_7 : decode ccMo_shiftLeft 7 = .ok (.aload_n 0, 1) := by decide +kernel
theorem dMo_shiftLeft_8 : decode ccMo_shiftLeft 8 = .ok (.aload_n 0, 1) := by decide +kernel
theorem dMo_shiftLeft_9 : decode ccMo_shiftLeft 9 = .ok (.getfield 118, 3) := by decide +kernel
theorem dMo_shiftLeft_12 : decode ccMo_shiftLeft 12 = .ok (.ldc2_w 67, 3) := by decide +kernel
theorem dMo_shiftLeft_15 : decode ccMo_shiftLeft 15 = .ok (.lmul, 1) := by decide +kernel
theorem dMo_shiftLeft_16 : decode ccMo_shiftLeft 16 = .ok (.ldc2_w 65, 3) := by decide +kernel
theorem dMo_shiftLeft_19 : decode ccMo_shiftLeft 19 = .ok (.lrem, 1) := by decide +kernel
theorem dMo_shiftLeft_20 : decode ccMo_shiftLeft 20 = .ok (.aload_n 0, 1) := by decide +kernel
theorem dMo_shiftLeft_21 : decode ccMo_shiftLeft 21 = .ok (.getfield 115, 3) := by decide +kernel
theorem dMo_shiftLeft_24 : decode ccMo_shiftLeft 24 = .ok (.ldc2_w 124, 3) := by decide +kernel
theorem dMo_shiftLeft_27 : decode ccMo_shiftLeft 27 = .ok (.ldiv, 1) := by decide +kernel
theorem dMo_shiftLeft_28 : decode ccMo_shiftLeft 28 = .ok (.ladd, 1) := by decide +kernel
theorem dMo_shiftLeft_29 : decode ccMo_shiftLeft 29 = .ok (.putfield 118, 3) := by decide +kernel
theorem dMo_shiftLeft_32 : decode ccMo_shiftLeft 32 = .ok (.aload_n 0, 1) := by decide +kernel
theorem dMo_shiftLeft_33 : decode ccMo_shiftLeft 33 = .ok (.aload_n 0, 1) := by decide +kernel
theorem dMo_shiftLeft_34 : decode ccMo_shiftLeft 34 = .ok (.getfield 115, 3) := by decide +kernel
theorem dMo_shiftLeft_37 : decode ccMo_shiftLeft 37 = .ok (.ldc2_w 67, 3) := by decide +kernel
theorem dMo_shiftLeft_40 : decode ccMo_shiftLeft 40 = .ok (.lmul, 1) := by decide +kernel
theorem dMo_shiftLeft_41 : decode ccMo_shiftLeft 41 = .ok (.ldc2_w 65, 3) := by decide +kernel
theorem dMo_shiftLeft_44 : decode ccMo_shiftLeft 44 = .ok (.lrem, 1) := by decide +kernel
theorem dMo_shiftLeft_45 : decode ccMo_shiftLeft 45 = .ok (.putfield 115, 3) := by decide +kernel
theorem dMo_shiftLeft_48 : decode ccMo_shiftLeft 48 = .ok (.iinc 2 1, 3) := by decide +kernel
theorem dMo_shiftLeft_51 : decode ccMo_shiftLeft 51 = .ok (.goto (-49), 3) := by decide +kernel
theorem dMo_shiftLeft_54 : decode ccMo_shiftLeft 54 = .ok (.return_, 1) := by decide +kernel
def fMo_shiftLeft_2  : Nat → SM → Int32 → Nat → SM
  | 0, z, x, v2 => z
  | fu + 1, z, x, v2 => (if x ≤ (nI (v2)) then z else fMo_shiftLeft_2 fu (m_lower_s (m_upper_s z ((((m_upper z) * 10) % 10000000000) + ((m_lower z) / 1000000000))) (((m_lower z) * 10) % 10000000000)) x (v2 + 1))
def fMo_shiftLeft (z0 : SM) (x : Int32) : SM :=
  fMo_shiftLeft_2 11 z0 x 0
set_option maxHeartbeats 4000000 in
set_option maxRecDepth 100000 in
theorem kMo_shiftLeft (l : Launch) (D : va_G) (q : Nat → Nat) (cI cJ cZ : ClassId) (hq : m_inj q) (z0 : SM) (x : Int32) (hx9 : x.toInt ≤ (10 : Nat)) : Met l yMo_shiftLeft wsMo_shiftLeft { frames := 0, cells := 0, slots := 0, locals := 0 } (va_Pc [.ref (q 0), .int (x)] (m_C D q cI cJ cZ z0)) (cQw none (m_W D q cI cJ cZ (fMo_shiftLeft z0 x)) (m_qs q)) 0 0 (m_qs q) := by
  refine Met.ofW (cc := ccMo_shiftLeft) (maxL := 3) (ret := none) (by decide +kernel) rfl ?_
  intro p e s m args below meth c s₁ B hml hv
  obtain ⟨rfl, hP, hK⟩ := hv
  have hx := B.exec
  have hb := B.bytes
  have hr := B.returns
  have hts := atoms_spec (ws := wsMo_shiftLeft) B.pre
  have hown : s.vm.findClass RMo = some m.cls := findClass_of_methodNamed B.named
  have hlocks := B.notSynchronized
  have w0 := hts (.fieldLink RMo 118 "DrumMachineModel" "upper" "J") (List.mem_cons_of_mem _ wm4_191)
  have w1 := hts (.constantLong RMo 67 (10)) (List.mem_cons_of_mem _ wm4_183)
  have w2 := hts (.constantLong RMo 65 (10000000000)) (List.mem_cons_of_mem _ wm5_47)
  have w3 := hts (.fieldLink RMo 115 "DrumMachineModel" "lower" "J") (List.mem_cons_of_mem _ wm4_192)
  have w4 := hts (.constantLong RMo 124 (1000000000)) (List.mem_cons_of_mem _ wm5_114)
  have i0 : ∀ w ∈ u_ws RMo TMo 28, w ∈ wsMo_shiftLeft := fun w h => List.mem_cons_of_mem _ (inAMo w h)
  have hS : va_S (m_qs q) s.heap s.heap [] := va_S.rf
  have hl := lv_entry ([.ref (q 0), .int (x)]) (n := 3) (Nat.le_of_ble_eq_true rfl)
  rw [lg_entry_eq]
  generalize (lg_sl ([.ref (q 0), .int (x)]) ++ List.replicate (3 - (lg_sl ([.ref (q 0), .int (x)])).length) Slot.unset).toArray = ls at hl ⊢
  have hl : lv_has ls 3 [(0, .ref (q 0)), (1, .int (x))] := hl
  have hB2 : ∀ (n2 : Nat) (H : Heap) (locs : List Loc) (ls : Array Slot) (z : SM) (v2 : Nat), 10 - v2 < n2 → fMo_shiftLeft z0 x = fMo_shiftLeft_2 n2 z x v2 → (v2 ≤ 10) → m_W D q cI cJ cZ z H → va_S (m_qs q) s.heap H locs → lv_has ls 3 [(0, .ref (q 0)), (1, .int (x)), (2, .int (nI (v2)))] → W p l e (headSpec wsMo_shiftLeft { frames := 0, cells := 0, slots := 0, locals := 0 }).room s m ([.ref (q 0), .int (x)] : List Value).toArray below meth c H locs 0 0 (MQ below (cQw none (m_W D q cI cJ cZ (fMo_shiftLeft z0 x)) (m_qs q)) ([.ref (q 0), .int (x)] : List Value).toArray s 0 0 (m_qs q)) (F0 m 2 ls []) := by
    intro n2
    induction n2 with
    | zero => intro H locs ls z v2 hn2; exact absurd hn2 (Nat.not_lt_zero _)
    | succ n2 ih2 =>
      intro H locs ls z v2 hn2 hR h2 hP hS hl
      rw [fMo_shiftLeft_2.eq_2] at hR
      refine lv_iload_n hx hb dMo_shiftLeft_2 rfl (lv_at hl 2 rfl) ?_
      refine lv_iload_n hx hb dMo_shiftLeft_3 rfl (lv_at hl 1 rfl) ?_
      refine lv_icmp_ge hx hb dMo_shiftLeft_4 rfl (fun h4 => ?_) (fun h4 => ?_)
      · have hR := hR.trans (if_pos h4)
        exact W.vret hx hb hr (fun t ht _ => ⟨rfl, by rw [hR, ht]; exact hP, hS.F ht⟩) hS.2.2 dMo_shiftLeft_54
      · have hR := hR.trans (if_neg h4)
        refine lv_aload_n hx hb dMo_shiftLeft_7 rfl (lv_at hl 0 rfl) ?_
        refine lv_aload_n hx hb dMo_shiftLeft_8 rfl (lv_at hl 0 rfl) ?_
        refine mg0_upper hx hb hts i0 hown hK hP w0 dMo_shiftLeft_9 ?_
        refine lv_ldc2 (v := 10) hx hb hown w1 dMo_shiftLeft_12 ?_
        refine lv_lmul hx hb dMo_shiftLeft_15 ?_
        refine lv_ldc2 (v := 10000000000) hx hb hown w2 dMo_shiftLeft_16 ?_
        refine lm_lrem hx hb dMo_shiftLeft_19 (by decide) ?_
        refine lv_aload_n hx hb dMo_shiftLeft_20 rfl (lv_at hl 0 rfl) ?_
        refine mg0_lower hx hb hts i0 hown hK hP w3 dMo_shiftLeft_21 ?_
        refine lv_ldc2 (v := 1000000000) hx hb hown w4 dMo_shiftLeft_24 ?_
        refine lv_ldiv hx hb dMo_shiftLeft_27 (by decide) ?_
        refine lv_ladd hx hb dMo_shiftLeft_28 ?_
        refine mp0_upper ((((m_upper z) * 10) % 10000000000) + ((m_lower z) / 1000000000)) hq hS hx hb hts i0 hown hK hP w0 dMo_shiftLeft_29 (fun H locs hP hS => ?_)
        refine lv_aload_n hx hb dMo_shiftLeft_32 rfl (lv_at hl 0 rfl) ?_
        refine lv_aload_n hx hb dMo_shiftLeft_33 rfl (lv_at hl 0 rfl) ?_
        refine mg0_lower_e (v := m_lower z) ((m_lower_upper _ _).trans (rfl)) hx hb hts i0 hown hK hP w3 dMo_shiftLeft_34 ?_
        refine lv_ldc2 (v := 10) hx hb hown w1 dMo_shiftLeft_37 ?_
        refine lv_lmul hx hb dMo_shiftLeft_40 ?_
        refine lv_ldc2 (v := 10000000000) hx hb hown w2 dMo_shiftLeft_41 ?_
        refine lm_lrem hx hb dMo_shiftLeft_44 (by decide) ?_
        refine mp0_lower (((m_lower z) * 10) % 10000000000) hq hS hx hb hts i0 hown hK hP w3 dMo_shiftLeft_45 (fun H locs hP hS => ?_)
        refine lv_iinc (k := 2) (lv' := [(2, .int (nI (v2 + 1))), (0, .ref (q 0)), (1, .int (x))]) hx hb dMo_shiftLeft_48 hl rfl (nI_1 _) (by decide) rfl (fun ls hl => ?_)
        refine lv_goto hx hb dMo_shiftLeft_51 rfl ?_
        exact ih2 H locs ls (m_lower_s (m_upper_s z ((((m_upper z) * 10) % 10000000000) + ((m_lower z) / 1000000000))) (((m_lower z) * 10) % 10000000000)) (v2 + 1) (kb_m hx9 h2 (by decide) h4 hn2) hR (kb_b hx9 h2 (by decide) h4) hP hS (lv_sub hl [1, 2, 0] rfl)
  have hR := fMo_shiftLeft.eq_1 z0 x
  refine lv_iconst (v := 0) hx hb dMo_shiftLeft_0 (by decide) ?_
  refine lv_istore_n (lv' := [(2, .int (nI (0))), (0, .ref (q 0)), (1, .int (x))]) hx hb dMo_shiftLeft_1 rfl hl (by decide) rfl (fun ls hl => ?_)
  exact hB2 11 s.heap [] ls z0 0 (by omega) hR (by first | assumption | omega) hP hS (lv_sub hl [1, 2, 0] rfl)
theorem dMo_sum_0 : decode ccMo_sum 0 = .ok (.iload_n 1, 1) := by decide +kernel
theorem dMo_sum_1 : decode ccMo_sum 1 = .ok (.bipush 60, 2) := by decide +kernel
theorem dMo_sum_3 : decode ccMo_sum 3 = .ok (.if_icmp .lt 18, 3) := by decide +kernel
theorem dMo_sum_6 : decode ccMo_sum 6 = .ok (.aload_n 0, 1) := by decide +kernel
theorem dMo_sum_7 : decode ccMo_sum 7 = .ok (.lconst 0, 1) := by decide +kernel
theorem dMo_sum_8 : decode ccMo_sum 8 = .ok (.putfield 118, 3) := by decide +kernel
theorem dMo_sum_11 : decode ccMo_sum 11 = .ok (.aload_n 0, 1) := by decide +kernel
theorem dMo_sum_12 : decode ccMo_sum 12 = .ok (.lconst 0, 1) := by decide +kernel
theorem dMo_sum_13 : decode ccMo_sum 13 = .ok (.putfield 115, 3) := by decide +kernel
theorem dMo_sum_16 : decode ccMo_sum 16 = .ok (.aload_n 0, 1) := by decide +kernel
theorem dMo_sum_17 : decode ccMo_sum 17 = .ok (.iconst 0, 1) := by decide +kernel
theorem dMo_sum_18 : decode ccMo_sum 18 = .ok (.putfield 111, 3) := by decide +kernel
theorem dMo_sum_21 : decode ccMo_sum 21 = .ok (.iload_n 1, 1) := by decide +kernel
theorem dMo_sum_22 : decode ccMo_sum 22 = .ok (.bipush 10, 2) := by decide +kernel
theorem dMo_sum_24 : decode ccMo_sum 24 = .ok (.irem, 1) := by decide +kernel
theorem dMo_sum_25 : decode ccMo_sum 25 = .ok (.istore 5, 2) := by decide +kernel
theorem dMo_sum_27 : decode ccMo_sum 27 = .ok (.iload 5, 2) := by decide +kernel
theorem dMo_sum_29 : decode ccMo_sum 29 = .ok (.bipush 7, 2) := by decide +kernel
theorem dMo_sum_31 : decode ccMo_sum 31 = .ok (.if_icmp .ne 7, 3) := by decide +kernel
theorem dMo_sum_34 : decode ccMo_sum 34 = .ok (.iconst 0, 1) := by decide +kernel
theorem dMo_sum_35 : decode ccMo_sum 35 = .ok (.goto 31, 3) := by decide +kernel
theorem dMo_sum_38 : decode ccMo_sum 38 = .ok (.iload 5, 2) := by decide +kernel
theorem dMo_sum_40 : decode ccMo_sum 40 = .ok (.iconst 1, 1) := by decide +kernel
theorem dMo_sum_41 : decode ccMo_sum 41 = .ok (.if_icmp .eq 10, 3) := by decide +kernel
theorem dMo_sum_44 : decode ccMo_sum 44 = .ok (.iload 5, 2) := by decide +kernel
theorem dMo_sum_46 : decode ccMo_sum 46 = .ok (.bipush 6, 2) := by decide +kernel
theorem dMo_sum_48 : decode ccMo_sum 48 = .ok (.if_icmp .ne 16, 3) := by decide +kernel
theorem dMo_sum_51 : decode ccMo_sum 51 = .ok (.iload 4, 2) := by decide +kernel
theorem dMo_sum_53 : decode ccMo_sum 53 = .ok (.ifCond .ne 7, 3) := by decide +kernel
theorem dMo_sum_56 : decode ccMo_sum 56 = .ok (.iconst 1, 1) := by decide +kernel
theorem dMo_sum_57 : decode ccMo_sum 57 = .ok (.goto 9, 3) := by decide +kernel
theorem dMo_sum_60 : decode ccMo_sum 60 = .ok (.iconst 0, 1) := by decide +kernel
theorem dMo_sum_61 : decode ccMo_sum 61 = .ok (.goto 5, 3) := by decide +kernel
theorem dMo_sum_64 : decode ccMo_sum 64 = .ok (.iload 4, 2) := by decide +kernel
theorem dMo_sum_66 : decode ccMo_sum 66 = .ok (.istore 6, 2) := by decide +kernel
theorem dMo_sum_68 : decode ccMo_sum 68 = .ok (.iload 5, 2) := by decide +kernel
theorem dMo_sum_70 : decode ccMo_sum 70 = .ok (.iconst 2, 1) := by decide +kernel
theorem dMo_sum_71 : decode ccMo_sum 71 = .ok (.if_icmp .ge 14, 3) := by decide +kernel
theorem dMo_sum_74 : decode ccMo_sum 74 = .ok (.aload_n 0, 1) := by decide +kernel
theorem dMo_sum_75 : decode ccMo_sum 75 = .ok (.lload_n 2, 1) := by decide +kernel
theorem dMo_sum_76 : decode ccMo_sum 76 = .ok (.lconst 0, 1) := by decide +kernel
theorem dMo_sum_77 : decode ccMo_sum 77 = .ok (.iload 6, 2) := by decide +kernel
theorem dMo_sum_79 : decode ccMo_sum 79 = .ok (.invokevirtual 126, 3) := by decide +kernel
theorem dMo_sum_82 : decode ccMo_sum 82 = .ok (.goto 11, 3) := by decide +kernel
theorem dMo_sum_85 : decode ccMo_sum 85 = .ok (.aload_n 0, 1) := by decide +kernel
theorem dMo_sum_86 : decode ccMo_sum 86 = .ok (.lconst 0, 1) := by decide +kernel
theorem dMo_sum_87 : decode ccMo_sum 87 = .ok (.lload_n 2, 1) := by decide +kernel
theorem dMo_sum_88 : decode ccMo_sum 88 = .ok (.iload 6, 2) := by decide +kernel
theorem dMo_sum_90 : decode ccMo_sum 90 = .ok (.invokevirtual 126, 3) := by decide +kernel
theorem dMo_sum_93 : decode ccMo_sum 93 = .ok (.return_, 1) := by decide +kernel
def fMo_sum_66  (z : SM) (s0 : Bool) (v : Int64) (v5 : Int32) : SM :=
  (if (2 : Int32) ≤ v5 then fMo_add z 0 v s0 else fMo_add z v 0 s0)
def fMo_sum_51  (z : SM) (v : Int64) (b : Bool) (v5 : Int32) : SM :=
  (if b = true then fMo_sum_66 z false v v5 else fMo_sum_66 z true v v5)
def fMo_sum_21  (z : SM) (o : Int32) (v : Int64) (b : Bool) : SM :=
  (if (o % 10) = (7 : Int32) then fMo_sum_66 z false v (o % 10) else (if (o % 10) = (1 : Int32) then fMo_sum_51 z v b (o % 10) else (if (o % 10) = (6 : Int32) then fMo_sum_51 z v b (o % 10) else fMo_sum_66 z b v (o % 10))))
def fMo_sum (z0 : SM) (o : Int32) (v : Int64) (b : Bool) : SM :=
  (if o < (60 : Int32) then fMo_sum_21 z0 o v b else fMo_sum_21 (m_amin_s (m_lower_s (m_upper_s z0 0) 0) false) o v b)
set_option maxHeartbeats 4000000 in
set_option maxRecDepth 100000 in
theorem kMo_sum (l : Launch) (D : va_G) (q : Nat → Nat) (cI cJ cZ : ClassId) (hq : m_inj q) (z0 : SM) (o : Int32) (v : Int64) (b : Bool)  : Met l yMo_sum wsMo_sum { frames := 1, cells := 0, slots := 0, locals := 34 } (va_Pc [.ref (q 0), .int (o), .long (v), .int (bb (b))] (m_C D q cI cJ cZ z0)) (cQw none (m_W D q cI cJ cZ (fMo_sum z0 o v b)) (m_qs q)) 0 0 (m_qs q) := by
  refine Met.ofW (cc := ccMo_sum) (maxL := 7) (ret := none) (by decide +kernel) rfl ?_
  intro p e s m args below meth c s₁ B hml hv
  obtain ⟨rfl, hP, hK⟩ := hv
  have hx := B.exec
  have hb := B.bytes
  have hr := B.returns
  have hts := atoms_spec (ws := wsMo_sum) B.pre
  have hown : s.vm.findClass RMo = some m.cls := findClass_of_methodNamed B.named
  have hlocks := B.notSynchronized
  have w0 := hts (.fieldLink RMo 118 "DrumMachineModel" "upper" "J") (List.mem_cons_of_mem _ wm4_191)
  have w1 := hts (.fieldLink RMo 115 "DrumMachineModel" "lower" "J") (List.mem_cons_of_mem _ wm4_192)
  have w2 := hts (.fieldLink RMo 111 "DrumMachineModel" "negative" "Z") (List.mem_cons_of_mem _ wm4_194)
  have i0 : ∀ w ∈ u_ws RMo TMo 28, w ∈ wsMo_sum := fun w h => List.mem_cons_of_mem _ (inAMo w h)
  have hS : va_S (m_qs q) s.heap s.heap [] := va_S.rf
  have hl := lv_entry ([.ref (q 0), .int (o), .long (v), .int (bb (b))]) (n := 7) (Nat.le_of_ble_eq_true rfl)
  rw [lg_entry_eq]
  generalize (lg_sl ([.ref (q 0), .int (o), .long (v), .int (bb (b))]) ++ List.replicate (7 - (lg_sl ([.ref (q 0), .int (o), .long (v), .int (bb (b))])).length) Slot.unset).toArray = ls at hl ⊢
  have hl : lv_has ls 7 [(0, .ref (q 0)), (1, .int (o)), (2, .long (v)), (4, .int (bb (b)))] := hl
  have hB66 : ∀ (H : Heap) (locs : List Loc) (ls : Array Slot) (z : SM) (s0 : Bool) (v5 : Int32), fMo_sum z0 o v b = fMo_sum_66 z s0 v v5 → m_W D q cI cJ cZ z H → va_S (m_qs q) s.heap H locs → lv_has ls 7 [(0, .ref (q 0)), (2, .long (v)), (5, .int (v5))] → W p l e (headSpec wsMo_sum { frames := 1, cells := 0, slots := 0, locals := 34 }).room s m ([.ref (q 0), .int (o), .long (v), .int (bb (b))] : List Value).toArray below meth c H locs 0 0 (MQ below (cQw none (m_W D q cI cJ cZ (fMo_sum z0 o v b)) (m_qs q)) ([.ref (q 0), .int (o), .long (v), .int (bb (b))] : List Value).toArray s 0 0 (m_qs q)) (F0 m 66 ls [.int (bb (s0))]) := by
    intro H locs ls z s0 v5 hR hP hS hl
    rw [fMo_sum_66.eq_1] at hR
    refine lv_istore (lv' := [(6, .int (bb (s0))), (0, .ref (q 0)), (2, .long (v)), (5, .int (v5))]) hx hb dMo_sum_66 hl (by decide) rfl (fun ls hl => ?_)
    refine lv_iload hx hb dMo_sum_68 (lv_at hl 3 rfl) ?_
    refine lv_iconst (v := 2) hx hb dMo_sum_70 (by decide) ?_
    refine lv_icmp_ge hx hb dMo_sum_71 rfl (fun h71 => ?_) (fun h71 => ?_)
    · have hR := hR.trans (if_pos h71)
      refine lv_aload_n hx hb dMo_sum_85 rfl (lv_at hl 1 rfl) ?_
      refine lv_lconst (v := 0) hx hb dMo_sum_86 (by decide) ?_
      refine lv_lload_n hx hb dMo_sum_87 rfl (lv_at hl 2 rfl) ?_
      refine lv_iload hx hb dMo_sum_88 (lv_at hl 0 rfl) ?_
      refine cl_wr (W.runV (As := [.long (0), .long (v), .int (bb (s0))]) (rest := []) ⟨hx, hb, hml, hown, hts⟩ (kMo_add l D q cI cJ cZ hq z 0 v s0) (cwV 3 hts (gV wm5_126 wm5_128 ws3_8 wm1_9 wm5_129) rfl rfl rfl (by decide +kernel) ⟨Nat.le_of_ble_eq_true rfl, Nat.le_of_ble_eq_true rfl⟩) (m_preV0 hK hP) rfl rfl hl.1 rfl (lv_room (Nat.le_of_ble_eq_true rfl)) dMo_sum_90 ⟨Nat.le_refl _, Nat.le_refl _⟩) hS (fun _ h => h) (fun _ h => h) (fun H locs hP hS => ?_)
      exact W.vret hx hb hr (fun t ht _ => ⟨rfl, by rw [hR, ht]; exact hP, hS.F ht⟩) hS.2.2 dMo_sum_93
    · have hR := hR.trans (if_neg h71)
      refine lv_aload_n hx hb dMo_sum_74 rfl (lv_at hl 1 rfl) ?_
      refine lv_lload_n hx hb dMo_sum_75 rfl (lv_at hl 2 rfl) ?_
      refine lv_lconst (v := 0) hx hb dMo_sum_76 (by decide) ?_
      refine lv_iload hx hb dMo_sum_77 (lv_at hl 0 rfl) ?_
      refine cl_wr (W.runV (As := [.long (v), .long (0), .int (bb (s0))]) (rest := []) ⟨hx, hb, hml, hown, hts⟩ (kMo_add l D q cI cJ cZ hq z v 0 s0) (cwV 3 hts (gV wm5_126 wm5_128 ws3_8 wm1_9 wm5_129) rfl rfl rfl (by decide +kernel) ⟨Nat.le_of_ble_eq_true rfl, Nat.le_of_ble_eq_true rfl⟩) (m_preV0 hK hP) rfl rfl hl.1 rfl (lv_room (Nat.le_of_ble_eq_true rfl)) dMo_sum_79 ⟨Nat.le_refl _, Nat.le_refl _⟩) hS (fun _ h => h) (fun _ h => h) (fun H locs hP hS => ?_)
      refine lv_goto hx hb dMo_sum_82 rfl ?_
      exact W.vret hx hb hr (fun t ht _ => ⟨rfl, by rw [hR, ht]; exact hP, hS.F ht⟩) hS.2.2 dMo_sum_93
  have hB51 : ∀ (H : Heap) (locs : List Loc) (ls : Array Slot) (z : SM) (v5 : Int32), fMo_sum z0 o v b = fMo_sum_51 z v b v5 → m_W D q cI cJ cZ z H → va_S (m_qs q) s.heap H locs → lv_has ls 7 [(0, .ref (q 0)), (2, .long (v)), (4, .int (bb (b))), (5, .int (v5))] → W p l e (headSpec wsMo_sum { frames := 1, cells := 0, slots := 0, locals := 34 }).room s m ([.ref (q 0), .int (o), .long (v), .int (bb (b))] : List Value).toArray below meth c H locs 0 0 (MQ below (cQw none (m_W D q cI cJ cZ (fMo_sum z0 o v b)) (m_qs q)) ([.ref (q 0), .int (o), .long (v), .int (bb (b))] : List Value).toArray s 0 0 (m_qs q)) (F0 m 51 ls []) := by
    intro H locs ls z v5 hR hP hS hl
    rw [fMo_sum_51.eq_1] at hR
    refine lv_iload hx hb dMo_sum_51 (lv_at hl 2 rfl) ?_
    refine wz_ifne hx hb dMo_sum_53 rfl (fun h53 => ?_) (fun h53 => ?_)
    · have hR := hR.trans (if_pos h53)
      refine lv_iconst (v := 0) hx hb dMo_sum_60 (by decide) ?_
      refine lv_goto hx hb dMo_sum_61 rfl ?_
      exact hB66 H locs ls z false v5 hR hP hS (lv_sub hl [0, 1, 3] rfl)
    · have hR := hR.trans (if_neg h53)
      refine lv_iconst (v := 1) hx hb dMo_sum_56 (by decide) ?_
      refine lv_goto hx hb dMo_sum_57 rfl ?_
      exact hB66 H locs ls z true v5 hR hP hS (lv_sub hl [0, 1, 3] rfl)
  have hB21 : ∀ (H : Heap) (locs : List Loc) (ls : Array Slot) (z : SM), fMo_sum z0 o v b = fMo_sum_21 z o v b → m_W D q cI cJ cZ z H → va_S (m_qs q) s.heap H locs → lv_has ls 7 [(0, .ref (q 0)), (1, .int (o)), (2, .long (v)), (4, .int (bb (b)))] → W p l e (headSpec wsMo_sum { frames := 1, cells := 0, slots := 0, locals := 34 }).room s m ([.ref (q 0), .int (o), .long (v), .int (bb (b))] : List Value).toArray below meth c H locs 0 0 (MQ below (cQw none (m_W D q cI cJ cZ (fMo_sum z0 o v b)) (m_qs q)) ([.ref (q 0), .int (o), .long (v), .int (bb (b))] : List Value).toArray s 0 0 (m_qs q)) (F0 m 21 ls []) := by
    intro H locs ls z hR hP hS hl
    rw [fMo_sum_21.eq_1] at hR
    refine lv_iload_n hx hb dMo_sum_21 rfl (lv_at hl 1 rfl) ?_
    refine lv_bipush (v := 10) hx hb dMo_sum_22 (by decide) ?_
    refine lm_irem hx hb dMo_sum_24 (by decide) ?_
    refine lv_istore (lv' := [(5, .int (o % 10)), (0, .ref (q 0)), (1, .int (o)), (2, .long (v)), (4, .int (bb (b)))]) hx hb dMo_sum_25 hl (by decide) rfl (fun ls hl => ?_)
    refine lv_iload hx hb dMo_sum_27 (lv_at hl 0 rfl) ?_
    refine lv_bipush (v := 7) hx hb dMo_sum_29 (by decide) ?_
    refine lv_icmp_ne hx hb dMo_sum_31 rfl (fun h31 => ?_) (fun h31 => ?_)
    · have hR := hR.trans (if_neg h31)
      refine lv_iload hx hb dMo_sum_38 (lv_at hl 0 rfl) ?_
      refine lv_iconst (v := 1) hx hb dMo_sum_40 (by decide) ?_
      refine lv_icmp_eq hx hb dMo_sum_41 rfl (fun h41 => ?_) (fun h41 => ?_)
      · have hR := hR.trans (if_pos h41)
        exact hB51 H locs ls z (o % 10) hR hP hS (lv_sub hl [1, 3, 4, 0] rfl)
      · have hR := hR.trans (if_neg h41)
        refine lv_iload hx hb dMo_sum_44 (lv_at hl 0 rfl) ?_
        refine lv_bipush (v := 6) hx hb dMo_sum_46 (by decide) ?_
        refine lv_icmp_ne hx hb dMo_sum_48 rfl (fun h48 => ?_) (fun h48 => ?_)
        · have hR := hR.trans (if_neg h48)
          refine lv_iload hx hb dMo_sum_64 (lv_at hl 4 rfl) ?_
          exact hB66 H locs ls z b (o % 10) hR hP hS (lv_sub hl [1, 3, 0] rfl)
        · have hR := hR.trans (if_pos h48)
          exact hB51 H locs ls z (o % 10) hR hP hS (lv_sub hl [1, 3, 4, 0] rfl)
    · have hR := hR.trans (if_pos h31)
      refine lv_iconst (v := 0) hx hb dMo_sum_34 (by decide) ?_
      refine lv_goto hx hb dMo_sum_35 rfl ?_
      exact hB66 H locs ls z false (o % 10) hR hP hS (lv_sub hl [1, 3, 0] rfl)
  have hR := fMo_sum.eq_1 z0 o v b
  refine lv_iload_n hx hb dMo_sum_0 rfl (lv_at hl 1 rfl) ?_
  refine lv_bipush (v := 60) hx hb dMo_sum_1 (by decide) ?_
  refine lv_icmp_lt hx hb dMo_sum_3 rfl (fun h3 => ?_) (fun h3 => ?_)
  · have hR := hR.trans (if_pos h3)
    exact hB21 s.heap [] ls z0 hR hP hS (lv_sub hl [0, 1, 2, 3] rfl)
  · have hR := hR.trans (if_neg h3)
    refine lv_aload_n hx hb dMo_sum_6 rfl (lv_at hl 0 rfl) ?_
    refine lv_lconst (v := 0) hx hb dMo_sum_7 (by decide) ?_
    refine mp0_upper 0 hq hS hx hb hts i0 hown hK hP w0 dMo_sum_8 (fun H locs hP hS => ?_)
    refine lv_aload_n hx hb dMo_sum_11 rfl (lv_at hl 0 rfl) ?_
    refine lv_lconst (v := 0) hx hb dMo_sum_12 (by decide) ?_
    refine mp0_lower 0 hq hS hx hb hts i0 hown hK hP w1 dMo_sum_13 (fun H locs hP hS => ?_)
    refine lv_aload_n hx hb dMo_sum_16 rfl (lv_at hl 0 rfl) ?_
    refine lv_iconst (v := 0) hx hb dMo_sum_17 (by decide) ?_
    refine mp0_negative false hq hS hx hb hts i0 hown hK hP w2 dMo_sum_18 (fun H locs hP hS => ?_)
    exact hB21 H locs ls (m_amin_s (m_lower_s (m_upper_s z0 0) 0) false) hR hP hS (lv_sub hl [0, 1, 2, 3] rfl)
theorem dMo_start_0 : decode ccMo_start 0 = .ok (.aload_n 0, 1) := by decide +kernel
theorem dMo_start_1 : decode ccMo_start 1 = .ok (.iload_n 1, 1) := by decide +kernel
theorem dMo_start_2 : decode ccMo_start 2 = .ok (.ifCond .lt 10, 3) := by decide +kernel
theorem dMo_start_5 : decode ccMo_start 5 = .ok (.iload_n 1, 1) := by decide +kernel
theorem dMo_start_6 : decode ccMo_start 6 = .ok (.sipush 9999, 3) := by decide +kernel
theorem dMo_start_9 : decode ccMo_start 9 = .ok (.if_icmp .le 7, 3) := by decide +kernel
theorem dMo_start_12 : decode ccMo_start 12 = .ok (.iconst 1, 1) := by decide +kernel
theorem dMo_start_13 : decode ccMo_start 13 = .ok (.goto 4, 3) := by decide +kernel
theorem dMo_start_16 : decode ccMo_start 16 = .ok (.iconst 0, 1) := by decide +kernel
theorem dMo_start_17 : decode ccMo_start 17 = .ok (.putfield 61, 3) := by decide +kernel
theorem dMo_start_20 : decode ccMo_start 20 = .ok (.aload_n 0, 1) := by decide +kernel
theorem dMo_start_21 : decode ccMo_start 21 = .ok (.getfield 61, 3) := by decide +kernel
theorem dMo_start_24 : decode ccMo_start 24 = .ok (.ifCond .le 4, 3) := by decide +kernel
theorem dMo_start_27 : decode ccMo_start 27 = .ok (.return_, 1) := by decide +kernel
theorem dMo_start_28 : decode ccMo_start 28 = .ok (.aload_n 0, 1) := by decide +kernel
theorem dMo_start_29 : decode ccMo_start 29 = .ok (.iload_n 1, 1) := by decide +kernel
theorem dMo_start_30 : decode ccMo_start 30 = .ok (.putfield 108, 3) := by decide +kernel
theorem dMo_start_33 : decode ccMo_start 33 = .ok (.aload_n 0, 1) := by decide +kernel
theorem dMo_start_34 : decode ccMo_start 34 = .ok (.iconst (-1), 1) := by decide +kernel
theorem dMo_start_35 : decode ccMo_start 35 = .ok (.putfield 105, 3) := by decide +kernel
theorem dMo_start_38 : decode ccMo_start 38 = .ok (.return_, 1) := by decide +kernel
def fMo_start_17  (z : SM) (s1 : Bool) (a : Int32) : SM :=
  (if (bb (s1)) ≤ 0 then m_fault_s (m_nxt_s (m_code_s z (bb (s1))) a) ((-1)) else m_code_s z (bb (s1)))
def fMo_start_12  (z : SM) (a : Int32) : SM :=
  fMo_start_17 z true a
def fMo_start (z0 : SM) (a : Int32) : SM :=
  (if a < 0 then fMo_start_12 z0 a else (if a ≤ (9999 : Int32) then fMo_start_17 z0 false a else fMo_start_12 z0 a))
set_option maxHeartbeats 4000000 in
set_option maxRecDepth 100000 in
theorem kMo_start (l : Launch) (D : va_G) (q : Nat → Nat) (cI cJ cZ : ClassId) (hq : m_inj q) (z0 : SM) (a : Int32)  : Met l yMo_start wsMo_start { frames := 0, cells := 0, slots := 0, locals := 0 } (va_Pc [.ref (q 0), .int (a)] (m_C D q cI cJ cZ z0)) (cQw none (m_W D q cI cJ cZ (fMo_start z0 a)) (m_qs q)) 0 0 (m_qs q) := by
  refine Met.ofW (cc := ccMo_start) (maxL := 2) (ret := none) (by decide +kernel) rfl ?_
  intro p e s m args below meth c s₁ B hml hv
  obtain ⟨rfl, hP, hK⟩ := hv
  have hx := B.exec
  have hb := B.bytes
  have hr := B.returns
  have hts := atoms_spec (ws := wsMo_start) B.pre
  have hown : s.vm.findClass RMo = some m.cls := findClass_of_methodNamed B.named
  have hlocks := B.notSynchronized
  have w0 := hts (.fieldLink RMo 61 "DrumMachineModel" "code" "I") (List.mem_cons_of_mem _ wm4_188)
  have w1 := hts (.fieldLink RMo 108 "DrumMachineModel" "next" "I") (List.mem_cons_of_mem _ wm4_197)
  have w2 := hts (.fieldLink RMo 105 "DrumMachineModel" "fault" "I") (List.mem_cons_of_mem _ wm4_198)
  have i0 : ∀ w ∈ u_ws RMo TMo 28, w ∈ wsMo_start := fun w h => List.mem_cons_of_mem _ (inAMo w h)
  have hS : va_S (m_qs q) s.heap s.heap [] := va_S.rf
  have hl := lv_entry ([.ref (q 0), .int (a)]) (n := 2) (Nat.le_of_ble_eq_true rfl)
  rw [lg_entry_eq]
  generalize (lg_sl ([.ref (q 0), .int (a)]) ++ List.replicate (2 - (lg_sl ([.ref (q 0), .int (a)])).length) Slot.unset).toArray = ls at hl ⊢
  have hl : lv_has ls 2 [(0, .ref (q 0)), (1, .int (a))] := hl
  have hB17 : ∀ (H : Heap) (locs : List Loc) (ls : Array Slot) (z : SM) (s1 : Bool), fMo_start z0 a = fMo_start_17 z s1 a → m_W D q cI cJ cZ z H → va_S (m_qs q) s.heap H locs → lv_has ls 2 [(0, .ref (q 0)), (1, .int (a))] → W p l e (headSpec wsMo_start { frames := 0, cells := 0, slots := 0, locals := 0 }).room s m ([.ref (q 0), .int (a)] : List Value).toArray below meth c H locs 0 0 (MQ below (cQw none (m_W D q cI cJ cZ (fMo_start z0 a)) (m_qs q)) ([.ref (q 0), .int (a)] : List Value).toArray s 0 0 (m_qs q)) (F0 m 17 ls [.int (bb (s1)), .ref (q 0)]) := by
    intro H locs ls z s1 hR hP hS hl
    rw [fMo_start_17.eq_1] at hR
    refine mp0_code (bb (s1)) hq hS hx hb hts i0 hown hK hP w0 dMo_start_17 (fun H locs hP hS => ?_)
    refine lv_aload_n hx hb dMo_start_20 rfl (lv_at hl 0 rfl) ?_
    refine mg0_code_e (v := bb (s1)) (m_code_code _ _) hx hb hts i0 hown hK hP w0 dMo_start_21 ?_
    refine lv_if_le hx hb dMo_start_24 rfl (fun h24 => ?_) (fun h24 => ?_)
    · have hR := hR.trans (if_pos h24)
      refine lv_aload_n hx hb dMo_start_28 rfl (lv_at hl 0 rfl) ?_
      refine lv_iload_n hx hb dMo_start_29 rfl (lv_at hl 1 rfl) ?_
      refine mp0_next a hq hS hx hb hts i0 hown hK hP w1 dMo_start_30 (fun H locs hP hS => ?_)
      refine lv_aload_n hx hb dMo_start_33 rfl (lv_at hl 0 rfl) ?_
      refine lv_iconst (v := (-1)) hx hb dMo_start_34 (by decide) ?_
      refine mp0_fault ((-1)) hq hS hx hb hts i0 hown hK hP w2 dMo_start_35 (fun H locs hP hS => ?_)
      exact W.vret hx hb hr (fun t ht _ => ⟨rfl, by rw [hR, ht]; exact hP, hS.F ht⟩) hS.2.2 dMo_start_38
    · have hR := hR.trans (if_neg h24)
      exact W.vret hx hb hr (fun t ht _ => ⟨rfl, by rw [hR, ht]; exact hP, hS.F ht⟩) hS.2.2 dMo_start_27
  have hB12 : ∀ (H : Heap) (locs : List Loc) (ls : Array Slot) (z : SM), fMo_start z0 a = fMo_start_12 z a → m_W D q cI cJ cZ z H → va_S (m_qs q) s.heap H locs → lv_has ls 2 [(0, .ref (q 0)), (1, .int (a))] → W p l e (headSpec wsMo_start { frames := 0, cells := 0, slots := 0, locals := 0 }).room s m ([.ref (q 0), .int (a)] : List Value).toArray below meth c H locs 0 0 (MQ below (cQw none (m_W D q cI cJ cZ (fMo_start z0 a)) (m_qs q)) ([.ref (q 0), .int (a)] : List Value).toArray s 0 0 (m_qs q)) (F0 m 12 ls [.ref (q 0)]) := by
    intro H locs ls z hR hP hS hl
    rw [fMo_start_12.eq_1] at hR
    refine lv_iconst (v := 1) hx hb dMo_start_12 (by decide) ?_
    refine lv_goto hx hb dMo_start_13 rfl ?_
    exact hB17 H locs ls z true hR hP hS (lv_sub hl [0, 1] rfl)
  have hR := fMo_start.eq_1 z0 a
  refine lv_aload_n hx hb dMo_start_0 rfl (lv_at hl 0 rfl) ?_
  refine lv_iload_n hx hb dMo_start_1 rfl (lv_at hl 1 rfl) ?_
  refine lv_if_lt hx hb dMo_start_2 rfl (fun h2 => ?_) (fun h2 => ?_)
  · have hR := hR.trans (if_pos h2)
    exact hB12 s.heap [] ls z0 hR hP hS (lv_sub hl [0, 1] rfl)
  · have hR := hR.trans (if_neg h2)
    refine lv_iload_n hx hb dMo_start_5 rfl (lv_at hl 1 rfl) ?_
    refine lv_sipush (v := 9999) hx hb dMo_start_6 (by decide) ?_
    refine lv_icmp_le hx hb dMo_start_9 rfl (fun h9 => ?_) (fun h9 => ?_)
    · have hR := hR.trans (if_pos h9)
      refine lv_iconst (v := 0) hx hb dMo_start_16 (by decide) ?_
      exact hB17 s.heap [] ls z0 false hR hP hS (lv_sub hl [0, 1] rfl)
    · have hR := hR.trans (if_neg h9)
      exact hB12 s.heap [] ls z0 hR hP hS (lv_sub hl [0, 1] rfl)
theorem dMo_reserve_0 : decode ccMo_reserve 0 = .ok (.aload_n 0, 1) := by decide +kernel
theorem dMo_reserve_1 : decode ccMo_reserve 1 = .ok (.iload_n 1, 1) := by decide +kernel
theorem dMo_reserve_2 : decode ccMo_reserve 2 = .ok (.invokestatic 75, 3) := by decide +kernel
theorem dMo_reserve_5 : decode ccMo_reserve 5 = .ok (.ifCond .eq 7, 3) := by decide +kernel
theorem dMo_reserve_8 : decode ccMo_reserve 8 = .ok (.iconst 0, 1) := by decide +kernel
theorem dMo_reserve_9 : decode ccMo_reserve 9 = .ok (.goto 4, 3) := by decide +kernel
theorem dMo_reserve_12 : decode ccMo_reserve 12 = .ok (.iconst 1, 1) := by decide +kernel
theorem dMo_reserve_13 : decode ccMo_reserve 13 = .ok (.putfield 61, 3) := by decide +kernel
theorem dMo_reserve_16 : decode ccMo_reserve 16 = .ok (.aload_n 0, 1) := by decide +kernel
theorem dMo_reserve_17 : decode ccMo_reserve 17 = .ok (.getfield 61, 3) := by decide +kernel
theorem dMo_reserve_20 : decode ccMo_reserve 20 = .ok (.ifCond .ne 10, 3) := by decide +kernel
theorem dMo_reserve_23 : decode ccMo_reserve 23 = .ok (.aload_n 0, 1) := by decide +kernel
theorem dMo_reserve_24 : decode ccMo_reserve 24 = .ok (.getfield 39, 3) := by decide +kernel
theorem dMo_reserve_27 : decode ccMo_reserve 27 = .ok (.iload_n 1, 1) := by decide +kernel
theorem dMo_reserve_28 : decode ccMo_reserve 28 = .ok (.iconst 1, 1) := by decide +kernel
theorem dMo_reserve_29 : decode ccMo_reserve 29 = .ok (.bastore, 1) := by decide +kernel
theorem dMo_reserve_30 : decode ccMo_reserve 30 = .ok (.return_, 1) := by decide +kernel
def fMo_reserve_13  (z : SM) (s1 : Bool) (a : Int32) : SM :=
  (if (bb (s1)) = 0 then m_resv_s (m_code_s z (bb (s1))) (updB (m_resv z) a.toNatClampNeg true) else m_code_s z (bb (s1)))
def fMo_reserve (z0 : SM) (a : Int32) : SM :=
  (if (fMo_isAddress a) = true then fMo_reserve_13 z0 false a else fMo_reserve_13 z0 true a)
set_option maxHeartbeats 4000000 in
set_option maxRecDepth 100000 in
theorem kMo_reserve (l : Launch) (D : va_G) (q : Nat → Nat) (cI cJ cZ : ClassId) (hq : m_inj q) (z0 : SM) (a : Int32)  : Met l yMo_reserve wsMo_reserve { frames := 1, cells := 0, slots := 0, locals := 20 } (va_Pc [.ref (q 0), .int (a)] (m_C D q cI cJ cZ z0)) (cQw none (m_W D q cI cJ cZ (fMo_reserve z0 a)) (m_qs q)) 0 0 (m_qs q) := by
  refine Met.ofW (cc := ccMo_reserve) (maxL := 2) (ret := none) (by decide +kernel) rfl ?_
  intro p e s m args below meth c s₁ B hml hv
  obtain ⟨rfl, hP, hK⟩ := hv
  have hx := B.exec
  have hb := B.bytes
  have hr := B.returns
  have hts := atoms_spec (ws := wsMo_reserve) B.pre
  have hown : s.vm.findClass RMo = some m.cls := findClass_of_methodNamed B.named
  have hlocks := B.notSynchronized
  have w0 := hts (.fieldLink RMo 61 "DrumMachineModel" "code" "I") (List.mem_cons_of_mem _ wm4_188)
  have w1 := hts (.fieldLink RMo 39 "DrumMachineModel" "reserved" "[Z") (List.mem_cons_of_mem _ wm4_210)
  have i0 : ∀ w ∈ u_ws RMo TMo 28, w ∈ wsMo_reserve := fun w h => List.mem_cons_of_mem _ (inAMo w h)
  have hS : va_S (m_qs q) s.heap s.heap [] := va_S.rf
  have hl := lv_entry ([.ref (q 0), .int (a)]) (n := 2) (Nat.le_of_ble_eq_true rfl)
  rw [lg_entry_eq]
  generalize (lg_sl ([.ref (q 0), .int (a)]) ++ List.replicate (2 - (lg_sl ([.ref (q 0), .int (a)])).length) Slot.unset).toArray = ls at hl ⊢
  have hl : lv_has ls 2 [(0, .ref (q 0)), (1, .int (a))] := hl
  have hB13 : ∀ (H : Heap) (locs : List Loc) (ls : Array Slot) (z : SM) (s1 : Bool), fMo_reserve z0 a = fMo_reserve_13 z s1 a → (s1 = false → vp_in a 200) → m_W D q cI cJ cZ z H → va_S (m_qs q) s.heap H locs → lv_has ls 2 [(0, .ref (q 0)), (1, .int (a))] → W p l e (headSpec wsMo_reserve { frames := 1, cells := 0, slots := 0, locals := 20 }).room s m ([.ref (q 0), .int (a)] : List Value).toArray below meth c H locs 0 0 (MQ below (cQw none (m_W D q cI cJ cZ (fMo_reserve z0 a)) (m_qs q)) ([.ref (q 0), .int (a)] : List Value).toArray s 0 0 (m_qs q)) (F0 m 13 ls [.int (bb (s1)), .ref (q 0)]) := by
    intro H locs ls z s1 hR hs hP hS hl
    rw [fMo_reserve_13.eq_1] at hR
    refine mp0_code (bb (s1)) hq hS hx hb hts i0 hown hK hP w0 dMo_reserve_13 (fun H locs hP hS => ?_)
    refine lv_aload_n hx hb dMo_reserve_16 rfl (lv_at hl 0 rfl) ?_
    refine mg0_code_e (v := bb (s1)) (m_code_code _ _) hx hb hts i0 hown hK hP w0 dMo_reserve_17 ?_
    refine lv_if_ne hx hb dMo_reserve_20 rfl (fun h20 => ?_) (fun h20 => ?_)
    · have hR := hR.trans (if_neg h20)
      exact W.vret hx hb hr (fun t ht _ => ⟨rfl, by rw [hR, ht]; exact hP, hS.F ht⟩) hS.2.2 dMo_reserve_30
    · have hR := hR.trans (if_pos h20)
      refine lv_aload_n hx hb dMo_reserve_23 rfl (lv_at hl 0 rfl) ?_
      refine mg0_reserved hx hb hts i0 hown hK hP w1 dMo_reserve_24 ?_
      refine lv_iload_n hx hb dMo_reserve_27 rfl (lv_at hl 1 rfl) ?_
      refine lv_iconst (v := 1) hx hb dMo_reserve_28 (by decide) ?_
      refine ms_resv_e true (f := m_resv z) ((m_resv_code _ _).trans (rfl)) hq hS hx hb hK hP (hs (bb_z h20)) dMo_reserve_29 (fun H locs hP hS => ?_)
      exact W.vret hx hb hr (fun t ht _ => ⟨rfl, by rw [hR, ht]; exact hP, hS.F ht⟩) hS.2.2 dMo_reserve_30
  have hR := fMo_reserve.eq_1 z0 a
  refine lv_aload_n hx hb dMo_reserve_0 rfl (lv_at hl 0 rfl) ?_
  refine lv_iload_n hx hb dMo_reserve_1 rfl (lv_at hl 1 rfl) ?_
  refine cl_rd (W.runS (As := [.int (a)]) (rest := [.ref (q 0)]) ⟨hx, hb, hml, hown, hts⟩ (kMo_isAddress l a) (va_cwS 1 hts (gS wm5_41 wm5_42 wm1_9 wm5_43) rfl rfl rfl (by decide +kernel) ⟨Nat.le_of_ble_eq_true rfl, Nat.le_of_ble_eq_true rfl⟩) (preT) rfl rfl hl.1 rfl (lv_room (Nat.le_of_ble_eq_true rfl)) dMo_reserve_2 ⟨Nat.le_refl _, Nat.le_refl _⟩) ?_
  refine wz_ifeq hx hb dMo_reserve_5 rfl (fun h5 => ?_) (fun h5 => ?_)
  · have hR := hR.trans (if_neg h5)
    refine lv_iconst (v := 1) hx hb dMo_reserve_12 (by decide) ?_
    exact hB13 s.heap [] ls z0 true hR (fun h => absurd h (by decide)) hP hS (lv_sub hl [0, 1] rfl)
  · have hR := hR.trans (if_pos h5)
    refine lv_iconst (v := 0) hx hb dMo_reserve_8 (by decide) ?_
    refine lv_goto hx hb dMo_reserve_9 rfl ?_
    exact hB13 s.heap [] ls z0 false hR (fun _ => mha h5) hP hS (lv_sub hl [0, 1] rfl)
theorem dMo_forgetPlaces_0 : decode ccMo_forgetPlaces 0 = .ok (.iconst 0, 1) := by decide +kernel
theorem dMo_forgetPlaces_1 : decode ccMo_forgetPlaces 1 = .ok (.istore_n 1, 1) := by decide +kernel
theorem dMo_forgetPlaces_2 : decode ccMo_forgetPlaces 2 = .ok (.iload_n 1, 1) := by decide +kernel
theorem dMo_forgetPlaces_3 : decode ccMo_forgetPlaces 3 = .ok (.bipush 20, 2) := by decide +kernel
theorem dMo_forgetPlaces_5 : decode ccMo_forgetPlaces 5 = .ok (.if_icmp .ge 16, 3) := by decide +kernel
theorem dMo_forgetPlaces_8 : decode ccMo_forgetPlaces 8 = .ok (.aload_n 0, 1) := by decide +kernel
theorem dMo_forgetPlaces_9 : decode ccMo_forgetPlaces 9 = .ok (.getfield 42, 3) := by decide +kernel
theorem dMo_forgetPlaces_12 : decode ccMo_forgetPlaces 12 = .ok (.iload_n 1, 1) := by decide +kernel
theorem dMo_forgetPlaces_13 : decode ccMo_forgetPlaces 13 = .ok (.iconst (-1), 1) := by decide +kernel
theorem dMo_forgetPlaces_14 : decode ccMo_forgetPlaces 14 = .ok (.iastore, 1) := by decide +kernel
theorem dMo_forgetPlaces_15 : decode ccMo_forgetPlaces 15 = .ok (.iinc 1 1, 3) := by decide +kernel
theorem dMo_forgetPlaces_18 : decode ccMo_forgetPlaces 18 = .ok (.goto (-16), 3) := by decide +kernel
theorem dMo_forgetPlaces_21 : decode ccMo_forgetPlaces 21 = .ok (.return_, 1) := by decide +kernel
def fMo_forgetPlaces_2  : Nat → SM → Nat → SM
  | 0, z, v1 => z
  | fu + 1, z, v1 => (if 20 ≤ v1 then z else fMo_forgetPlaces_2 fu (m_plc_s z (upd (m_plc z) ((nI (v1)).toNatClampNeg) ((-1)))) (v1 + 1))
def fMo_forgetPlaces (z0 : SM)  : SM :=
  fMo_forgetPlaces_2 21 z0 0
set_option maxHeartbeats 4000000 in
set_option maxRecDepth 100000 in
theorem kMo_forgetPlaces (l : Launch) (D : va_G) (q : Nat → Nat) (cI cJ cZ : ClassId) (hq : m_inj q) (z0 : SM)   : Met l yMo_forgetPlaces wsMo_forgetPlaces { frames := 0, cells := 0, slots := 0, locals := 0 } (va_Pc [.ref (q 0)] (m_C D q cI cJ cZ z0)) (cQw none (m_W D q cI cJ cZ (fMo_forgetPlaces z0)) (m_qs q)) 0 0 (m_qs q) := by
  refine Met.ofW (cc := ccMo_forgetPlaces) (maxL := 2) (ret := none) (by decide +kernel) rfl ?_
  intro p e s m args below meth c s₁ B hml hv
  obtain ⟨rfl, hP, hK⟩ := hv
  have hx := B.exec
  have hb := B.bytes
  have hr := B.returns
  have hts := atoms_spec (ws := wsMo_forgetPlaces) B.pre
  have hown : s.vm.findClass RMo = some m.cls := findClass_of_methodNamed B.named
  have hlocks := B.notSynchronized
  have w0 := hts (.fieldLink RMo 42 "DrumMachineModel" "places" "[I") (List.mem_cons_of_mem _ wm4_211)
  have i0 : ∀ w ∈ u_ws RMo TMo 28, w ∈ wsMo_forgetPlaces := fun w h => List.mem_cons_of_mem _ (inAMo w h)
  have hS : va_S (m_qs q) s.heap s.heap [] := va_S.rf
  have hl := lv_entry ([.ref (q 0)]) (n := 2) (Nat.le_of_ble_eq_true rfl)
  rw [lg_entry_eq]
  generalize (lg_sl ([.ref (q 0)]) ++ List.replicate (2 - (lg_sl ([.ref (q 0)])).length) Slot.unset).toArray = ls at hl ⊢
  have hl : lv_has ls 2 [(0, .ref (q 0))] := hl
  have hB2 : ∀ (n2 : Nat) (H : Heap) (locs : List Loc) (ls : Array Slot) (z : SM) (v1 : Nat), 20 - v1 < n2 → fMo_forgetPlaces z0 = fMo_forgetPlaces_2 n2 z v1 → (v1 ≤ 20) → m_W D q cI cJ cZ z H → va_S (m_qs q) s.heap H locs → lv_has ls 2 [(0, .ref (q 0)), (1, .int (nI (v1)))] → W p l e (headSpec wsMo_forgetPlaces { frames := 0, cells := 0, slots := 0, locals := 0 }).room s m ([.ref (q 0)] : List Value).toArray below meth c H locs 0 0 (MQ below (cQw none (m_W D q cI cJ cZ (fMo_forgetPlaces z0)) (m_qs q)) ([.ref (q 0)] : List Value).toArray s 0 0 (m_qs q)) (F0 m 2 ls []) := by
    intro n2
    induction n2 with
    | zero => intro H locs ls z v1 hn2; exact absurd hn2 (Nat.not_lt_zero _)
    | succ n2 ih2 =>
      intro H locs ls z v1 hn2 hR h1 hP hS hl
      rw [fMo_forgetPlaces_2.eq_2] at hR
      refine lv_iload_n hx hb dMo_forgetPlaces_2 rfl (lv_at hl 1 rfl) ?_
      refine lv_bipush (v := 20) hx hb dMo_forgetPlaces_3 (by decide) ?_
      refine wn_ge (x := v1) (y := 20) hx hb (by omega) (by omega) dMo_forgetPlaces_5 rfl (fun h5 => ?_) (fun h5 => ?_)
      · have hR := hR.trans (if_pos h5)
        exact W.vret hx hb hr (fun t ht _ => ⟨rfl, by rw [hR, ht]; exact hP, hS.F ht⟩) hS.2.2 dMo_forgetPlaces_21
      · have hR := hR.trans (if_neg h5)
        refine lv_aload_n hx hb dMo_forgetPlaces_8 rfl (lv_at hl 0 rfl) ?_
        refine mg0_places hx hb hts i0 hown hK hP w0 dMo_forgetPlaces_9 ?_
        refine lv_iload_n hx hb dMo_forgetPlaces_12 rfl (lv_at hl 1 rfl) ?_
        refine lv_iconst (v := (-1)) hx hb dMo_forgetPlaces_13 (by decide) ?_
        refine ms_plc ((-1)) hq hS hx hb hK hP (vp_in_nI (by omega) (by decide)) dMo_forgetPlaces_14 (fun H locs hP hS => ?_)
        refine lv_iinc (k := 1) (lv' := [(1, .int (nI (v1 + 1))), (0, .ref (q 0))]) hx hb dMo_forgetPlaces_15 hl rfl (nI_1 _) (by decide) rfl (fun ls hl => ?_)
        refine lv_goto hx hb dMo_forgetPlaces_18 rfl ?_
        exact ih2 H locs ls (m_plc_s z (upd (m_plc z) ((nI (v1)).toNatClampNeg) ((-1)))) (v1 + 1) (by omega) hR (by first | assumption | omega) hP hS (lv_sub hl [1, 0] rfl)
  have hR := fMo_forgetPlaces.eq_1 z0
  refine lv_iconst (v := 0) hx hb dMo_forgetPlaces_0 (by decide) ?_
  refine lv_istore_n (lv' := [(1, .int (nI (0))), (0, .ref (q 0))]) hx hb dMo_forgetPlaces_1 rfl hl (by decide) rfl (fun ls hl => ?_)
  exact hB2 21 s.heap [] ls z0 0 (by omega) hR (by first | assumption | omega) hP hS (lv_sub hl [1, 0] rfl)
theorem dMo_clear_0 : decode ccMo_clear 0 = .ok (.aload_n 0, 1) := by decide +kernel
theorem dMo_clear_1 : decode ccMo_clear 1 = .ok (.iconst 0, 1) := by decide +kernel
theorem dMo_clear_2 : decode ccMo_clear 2 = .ok (.putfield 61, 3) := by decide +kernel
theorem dMo_clear_5 : decode ccMo_clear 5 = .ok (.aload_n 0, 1) := by decide +kernel
theorem dMo_clear_6 : decode ccMo_clear 6 = .ok (.iconst 0, 1) := by decide +kernel
theorem dMo_clear_7 : decode ccMo_clear 7 = .ok (.putfield 205, 3) := by decide +kernel
theorem dMo_clear_10 : decode ccMo_clear 10 = .ok (.iconst 0, 1) := by decide +kernel
theorem dMo_clear_11 : decode ccMo_clear 11 = .ok (.istore_n 1, 1) := by decide +kernel
theorem dMo_clear_12 : decode ccMo_clear 12 = .ok (.iload_n 1, 1) := by decide +kernel
theorem dMo_clear_13 : decode ccMo_clear 13 = .ok (.sipush 200, 3) := by decide +kernel
theorem dMo_clear_16 : decode ccMo_clear 16 = .ok (.if_icmp .ge 16, 3) := by decide +kernel
theorem dMo_clear_19 : decode ccMo_clear 19 = .ok (.aload_n 0, 1) := by decide +kernel
theorem dMo_clear_20 : decode ccMo_clear 20 = .ok (.getfield 39, 3) := by decide +kernel
theorem dMo_clear_23 : decode ccMo_clear 23 = .ok (.iload_n 1, 1) := by decide +kernel
theorem dMo_clear_24 : decode ccMo_clear 24 = .ok (.iconst 0, 1) := by decide +kernel
theorem dMo_clear_25 : decode ccMo_clear 25 = .ok (.bastore, 1) := by decide +kernel
theorem dMo_clear_26 : decode ccMo_clear 26 = .ok (.iinc 1 1, 3) := by decide +kernel
theorem dMo_clear_29 : decode ccMo_clear 29 = .ok (.goto (-17), 3) := by decide +kernel
theorem dMo_clear_32 : decode ccMo_clear 32 = .ok (.aload_n 0, 1) := by decide +kernel
theorem dMo_clear_33 : decode ccMo_clear 33 = .ok (.invokevirtual 58, 3) := by decide +kernel
theorem dMo_clear_36 : decode ccMo_clear 36 = .ok (.return_, 1) := by decide +kernel
def fMo_clear_12  : Nat → SM → Nat → SM
  | 0, z, v1 => z
  | fu + 1, z, v1 => (if 200 ≤ v1 then fMo_forgetPlaces z else fMo_clear_12 fu (m_resv_s z (updB (m_resv z) ((nI (v1)).toNatClampNeg) false)) (v1 + 1))
def fMo_clear (z0 : SM)  : SM :=
  fMo_clear_12 201 (m_lines_s (m_code_s z0 0) 0) 0
set_option maxHeartbeats 4000000 in
set_option maxRecDepth 100000 in
theorem kMo_clear (l : Launch) (D : va_G) (q : Nat → Nat) (cI cJ cZ : ClassId) (hq : m_inj q) (z0 : SM)   : Met l yMo_clear wsMo_clear { frames := 1, cells := 0, slots := 0, locals := 21 } (va_Pc [.ref (q 0)] (m_C D q cI cJ cZ z0)) (cQw none (m_W D q cI cJ cZ (fMo_clear z0)) (m_qs q)) 0 0 (m_qs q) := by
  refine Met.ofW (cc := ccMo_clear) (maxL := 2) (ret := none) (by decide +kernel) rfl ?_
  intro p e s m args below meth c s₁ B hml hv
  obtain ⟨rfl, hP, hK⟩ := hv
  have hx := B.exec
  have hb := B.bytes
  have hr := B.returns
  have hts := atoms_spec (ws := wsMo_clear) B.pre
  have hown : s.vm.findClass RMo = some m.cls := findClass_of_methodNamed B.named
  have hlocks := B.notSynchronized
  have w0 := hts (.fieldLink RMo 39 "DrumMachineModel" "reserved" "[Z") (List.mem_cons_of_mem _ wm4_210)
  have w1 := hts (.fieldLink RMo 61 "DrumMachineModel" "code" "I") (List.mem_cons_of_mem _ wm4_188)
  have w2 := hts (.fieldLink RMo 205 "DrumMachineModel" "lines" "I") (List.mem_cons_of_mem _ wm4_205)
  have i0 : ∀ w ∈ u_ws RMo TMo 28, w ∈ wsMo_clear := fun w h => List.mem_cons_of_mem _ (inAMo w h)
  have hS : va_S (m_qs q) s.heap s.heap [] := va_S.rf
  have hl := lv_entry ([.ref (q 0)]) (n := 2) (Nat.le_of_ble_eq_true rfl)
  rw [lg_entry_eq]
  generalize (lg_sl ([.ref (q 0)]) ++ List.replicate (2 - (lg_sl ([.ref (q 0)])).length) Slot.unset).toArray = ls at hl ⊢
  have hl : lv_has ls 2 [(0, .ref (q 0))] := hl
  have hB12 : ∀ (n12 : Nat) (H : Heap) (locs : List Loc) (ls : Array Slot) (z : SM) (v1 : Nat), 200 - v1 < n12 → fMo_clear z0 = fMo_clear_12 n12 z v1 → (v1 ≤ 200) → m_W D q cI cJ cZ z H → va_S (m_qs q) s.heap H locs → lv_has ls 2 [(0, .ref (q 0)), (1, .int (nI (v1)))] → W p l e (headSpec wsMo_clear { frames := 1, cells := 0, slots := 0, locals := 21 }).room s m ([.ref (q 0)] : List Value).toArray below meth c H locs 0 0 (MQ below (cQw none (m_W D q cI cJ cZ (fMo_clear z0)) (m_qs q)) ([.ref (q 0)] : List Value).toArray s 0 0 (m_qs q)) (F0 m 12 ls []) := by
    intro n12
    induction n12 with
    | zero => intro H locs ls z v1 hn12; exact absurd hn12 (Nat.not_lt_zero _)
    | succ n12 ih12 =>
      intro H locs ls z v1 hn12 hR h1 hP hS hl
      rw [fMo_clear_12.eq_2] at hR
      refine lv_iload_n hx hb dMo_clear_12 rfl (lv_at hl 1 rfl) ?_
      refine lv_sipush (v := 200) hx hb dMo_clear_13 (by decide) ?_
      refine wn_ge (x := v1) (y := 200) hx hb (by omega) (by omega) dMo_clear_16 rfl (fun h16 => ?_) (fun h16 => ?_)
      · have hR := hR.trans (if_pos h16)
        refine lv_aload_n hx hb dMo_clear_32 rfl (lv_at hl 0 rfl) ?_
        refine cl_wr (W.runV (As := []) (rest := []) ⟨hx, hb, hml, hown, hts⟩ (kMo_forgetPlaces l D q cI cJ cZ hq z) (cwV 0 hts (gV wm4_184 wm4_186 ws2_14 wm1_9 wm4_187) rfl rfl rfl (by decide +kernel) ⟨Nat.le_of_ble_eq_true rfl, Nat.le_of_ble_eq_true rfl⟩) (m_preV0 hK hP) rfl rfl hl.1 rfl (lv_room (Nat.le_of_ble_eq_true rfl)) dMo_clear_33 ⟨Nat.le_refl _, Nat.le_refl _⟩) hS (fun _ h => h) (fun _ h => h) (fun H locs hP hS => ?_)
        exact W.vret hx hb hr (fun t ht _ => ⟨rfl, by rw [hR, ht]; exact hP, hS.F ht⟩) hS.2.2 dMo_clear_36
      · have hR := hR.trans (if_neg h16)
        refine lv_aload_n hx hb dMo_clear_19 rfl (lv_at hl 0 rfl) ?_
        refine mg0_reserved hx hb hts i0 hown hK hP w0 dMo_clear_20 ?_
        refine lv_iload_n hx hb dMo_clear_23 rfl (lv_at hl 1 rfl) ?_
        refine lv_iconst (v := 0) hx hb dMo_clear_24 (by decide) ?_
        refine ms_resv false hq hS hx hb hK hP (vp_in_nI (by omega) (by decide)) dMo_clear_25 (fun H locs hP hS => ?_)
        refine lv_iinc (k := 1) (lv' := [(1, .int (nI (v1 + 1))), (0, .ref (q 0))]) hx hb dMo_clear_26 hl rfl (nI_1 _) (by decide) rfl (fun ls hl => ?_)
        refine lv_goto hx hb dMo_clear_29 rfl ?_
        exact ih12 H locs ls (m_resv_s z (updB (m_resv z) ((nI (v1)).toNatClampNeg) false)) (v1 + 1) (by omega) hR (by first | assumption | omega) hP hS (lv_sub hl [1, 0] rfl)
  have hR := fMo_clear.eq_1 z0
  refine lv_aload_n hx hb dMo_clear_0 rfl (lv_at hl 0 rfl) ?_
  refine lv_iconst (v := 0) hx hb dMo_clear_1 (by decide) ?_
  refine mp0_code 0 hq hS hx hb hts i0 hown hK hP w1 dMo_clear_2 (fun H locs hP hS => ?_)
  refine lv_aload_n hx hb dMo_clear_5 rfl (lv_at hl 0 rfl) ?_
  refine lv_iconst (v := 0) hx hb dMo_clear_6 (by decide) ?_
  refine mp0_lines 0 hq hS hx hb hts i0 hown hK hP w2 dMo_clear_7 (fun H locs hP hS => ?_)
  refine lv_iconst (v := 0) hx hb dMo_clear_10 (by decide) ?_
  refine lv_istore_n (lv' := [(1, .int (nI (0))), (0, .ref (q 0))]) hx hb dMo_clear_11 rfl hl (by decide) rfl (fun ls hl => ?_)
  exact hB12 201 H locs ls (m_lines_s (m_code_s z0 0) 0) 0 (by omega) hR (by first | assumption | omega) hP hS (lv_sub hl [1, 0] rfl)
theorem dMo_hold_0 : decode ccMo_hold 0 = .ok (.iload_n 1, 1) := by decide +kernel
theorem dMo_hold_1 : decode ccMo_hold 1 = .ok (.invokestatic 75, 3) := by decide +kernel
theorem dMo_hold_4 : decode ccMo_hold 4 = .ok (.ifCond .eq 10, 3) := by decide +kernel
theorem dMo_hold_7 : decode ccMo_hold 7 = .ok (.aload_n 0, 1) := by decide +kernel
theorem dMo_hold_8 : decode ccMo_hold 8 = .ok (.getfield 45, 3) := by decide +kernel
theorem dMo_hold_11 : decode ccMo_hold 11 = .ok (.iload_n 1, 1) := by decide +kernel
theorem dMo_hold_12 : decode ccMo_hold 12 = .ok (.iconst 1, 1) := by decide +kernel
theorem dMo_hold_13 : decode ccMo_hold 13 = .ok (.bastore, 1) := by decide +kernel
theorem dMo_hold_14 : decode ccMo_hold 14 = .ok (.return_, 1) := by decide +kernel
def fMo_hold (z0 : SM) (a : Int32) : SM :=
  (if (fMo_isAddress a) = true then m_held_s z0 (updB (m_held z0) a.toNatClampNeg true) else z0)
set_option maxHeartbeats 4000000 in
set_option maxRecDepth 100000 in
theorem kMo_hold (l : Launch) (D : va_G) (q : Nat → Nat) (cI cJ cZ : ClassId) (hq : m_inj q) (z0 : SM) (a : Int32)  : Met l yMo_hold wsMo_hold { frames := 1, cells := 0, slots := 0, locals := 20 } (va_Pc [.ref (q 0), .int (a)] (m_C D q cI cJ cZ z0)) (cQw none (m_W D q cI cJ cZ (fMo_hold z0 a)) (m_qs q)) 0 0 (m_qs q) := by
  refine Met.ofW (cc := ccMo_hold) (maxL := 2) (ret := none) (by decide +kernel) rfl ?_
  intro p e s m args below meth c s₁ B hml hv
  obtain ⟨rfl, hP, hK⟩ := hv
  have hx := B.exec
  have hb := B.bytes
  have hr := B.returns
  have hts := atoms_spec (ws := wsMo_hold) B.pre
  have hown : s.vm.findClass RMo = some m.cls := findClass_of_methodNamed B.named
  have hlocks := B.notSynchronized
  have w0 := hts (.fieldLink RMo 45 "DrumMachineModel" "held" "[Z") (List.mem_cons_of_mem _ wm4_212)
  have i0 : ∀ w ∈ u_ws RMo TMo 28, w ∈ wsMo_hold := fun w h => List.mem_cons_of_mem _ (inAMo w h)
  have hS : va_S (m_qs q) s.heap s.heap [] := va_S.rf
  have hl := lv_entry ([.ref (q 0), .int (a)]) (n := 2) (Nat.le_of_ble_eq_true rfl)
  rw [lg_entry_eq]
  generalize (lg_sl ([.ref (q 0), .int (a)]) ++ List.replicate (2 - (lg_sl ([.ref (q 0), .int (a)])).length) Slot.unset).toArray = ls at hl ⊢
  have hl : lv_has ls 2 [(0, .ref (q 0)), (1, .int (a))] := hl
  have hR := fMo_hold.eq_1 z0 a
  refine lv_iload_n hx hb dMo_hold_0 rfl (lv_at hl 1 rfl) ?_
  refine cl_rd (W.runS (As := [.int (a)]) (rest := []) ⟨hx, hb, hml, hown, hts⟩ (kMo_isAddress l a) (va_cwS 1 hts (gS wm5_41 wm5_42 wm1_9 wm5_43) rfl rfl rfl (by decide +kernel) ⟨Nat.le_of_ble_eq_true rfl, Nat.le_of_ble_eq_true rfl⟩) (preT) rfl rfl hl.1 rfl (lv_room (Nat.le_of_ble_eq_true rfl)) dMo_hold_1 ⟨Nat.le_refl _, Nat.le_refl _⟩) ?_
  refine wz_ifeq hx hb dMo_hold_4 rfl (fun h4 => ?_) (fun h4 => ?_)
  · have hR := hR.trans (if_neg h4)
    exact W.vret hx hb hr (fun t ht _ => ⟨rfl, by rw [hR, ht]; exact hP, hS.F ht⟩) hS.2.2 dMo_hold_14
  · have hR := hR.trans (if_pos h4)
    refine lv_aload_n hx hb dMo_hold_7 rfl (lv_at hl 0 rfl) ?_
    refine mg0_held hx hb hts i0 hown hK hP w0 dMo_hold_8 ?_
    refine lv_iload_n hx hb dMo_hold_11 rfl (lv_at hl 1 rfl) ?_
    refine lv_iconst (v := 1) hx hb dMo_hold_12 (by decide) ?_
    refine ms_held true hq hS hx hb hK hP (mha h4) dMo_hold_13 (fun H locs hP hS => ?_)
    exact W.vret hx hb hr (fun t ht _ => ⟨rfl, by rw [hR, ht]; exact hP, hS.F ht⟩) hS.2.2 dMo_hold_14
theorem dMo_fault_0 : decode ccMo_fault 0 = .ok (.aload_n 0, 1) := by decide +kernel
theorem dMo_fault_1 : decode ccMo_fault 1 = .ok (.iconst 0, 1) := by decide +kernel
theorem dMo_fault_2 : decode ccMo_fault 2 = .ok (.putfield 61, 3) := by decide +kernel
theorem dMo_fault_5 : decode ccMo_fault 5 = .ok (.aload_n 0, 1) := by decide +kernel
theorem dMo_fault_6 : decode ccMo_fault 6 = .ok (.getfield 105, 3) := by decide +kernel
theorem dMo_fault_9 : decode ccMo_fault 9 = .ok (.ireturn, 1) := by decide +kernel
def fMo_fault (z0 : SM)  : Int32 × SM :=
  (m_fault z0, m_code_s z0 0)
set_option maxHeartbeats 4000000 in
set_option maxRecDepth 100000 in
theorem kMo_fault (l : Launch) (D : va_G) (q : Nat → Nat) (cI cJ cZ : ClassId) (hq : m_inj q) (z0 : SM)   : Met l yMo_fault wsMo_fault { frames := 0, cells := 0, slots := 0, locals := 0 } (va_Pc [.ref (q 0)] (m_C D q cI cJ cZ z0)) (cQw (some (.int ((fMo_fault z0).1))) (m_W D q cI cJ cZ (fMo_fault z0).2) (m_qs q)) 0 0 (m_qs q) := by
  refine Met.ofW (cc := ccMo_fault) (maxL := 1) (ret := (some .int)) (by decide +kernel) rfl ?_
  intro p e s m args below meth c s₁ B hml hv
  obtain ⟨rfl, hP, hK⟩ := hv
  have hx := B.exec
  have hb := B.bytes
  have hr := B.returns
  have hts := atoms_spec (ws := wsMo_fault) B.pre
  have hown : s.vm.findClass RMo = some m.cls := findClass_of_methodNamed B.named
  have hlocks := B.notSynchronized
  have w0 := hts (.fieldLink RMo 61 "DrumMachineModel" "code" "I") (List.mem_cons_of_mem _ wm4_188)
  have w1 := hts (.fieldLink RMo 105 "DrumMachineModel" "fault" "I") (List.mem_cons_of_mem _ wm4_198)
  have i0 : ∀ w ∈ u_ws RMo TMo 28, w ∈ wsMo_fault := fun w h => List.mem_cons_of_mem _ (inAMo w h)
  have hS : va_S (m_qs q) s.heap s.heap [] := va_S.rf
  have hl := lv_entry ([.ref (q 0)]) (n := 1) (Nat.le_of_ble_eq_true rfl)
  rw [lg_entry_eq]
  generalize (lg_sl ([.ref (q 0)]) ++ List.replicate (1 - (lg_sl ([.ref (q 0)])).length) Slot.unset).toArray = ls at hl ⊢
  have hl : lv_has ls 1 [(0, .ref (q 0))] := hl
  have hR := fMo_fault.eq_1 z0
  refine lv_aload_n hx hb dMo_fault_0 rfl (lv_at hl 0 rfl) ?_
  refine lv_iconst (v := 0) hx hb dMo_fault_1 (by decide) ?_
  refine mp0_code 0 hq hS hx hb hts i0 hown hK hP w0 dMo_fault_2 (fun H locs hP hS => ?_)
  refine lv_aload_n hx hb dMo_fault_5 rfl (lv_at hl 0 rfl) ?_
  refine mg0_fault_e (v := m_fault z0) ((m_fault_code _ _).trans (rfl)) hx hb hts i0 hown hK hP w1 dMo_fault_6 ?_
  exact W.iret hx hb hr (fun t ht _ => ⟨by rw [hR]; first | done | rfl, by rw [hR, ht]; exact hP, hS.F ht⟩) hS.2.2 dMo_fault_9
theorem dMo_time_0 : decode ccMo_time 0 = .ok (.aload_n 0, 1) := by decide +kernel
theorem dMo_time_1 : decode ccMo_time 1 = .ok (.iconst 0, 1) := by decide +kernel
theorem dMo_time_2 : decode ccMo_time 2 = .ok (.putfield 61, 3) := by decide +kernel
theorem dMo_time_5 : decode ccMo_time 5 = .ok (.aload_n 0, 1) := by decide +kernel
theorem dMo_time_6 : decode ccMo_time 6 = .ok (.getfield 99, 3) := by decide +kernel
theorem dMo_time_9 : decode ccMo_time 9 = .ok (.lreturn, 1) := by decide +kernel
def fMo_time (z0 : SM)  : Int64 × SM :=
  (m_time z0, m_code_s z0 0)
set_option maxHeartbeats 4000000 in
set_option maxRecDepth 100000 in
theorem kMo_time (l : Launch) (D : va_G) (q : Nat → Nat) (cI cJ cZ : ClassId) (hq : m_inj q) (z0 : SM)   : Met l yMo_time wsMo_time { frames := 0, cells := 0, slots := 0, locals := 0 } (va_Pc [.ref (q 0)] (m_C D q cI cJ cZ z0)) (cQw (some (.long ((fMo_time z0).1))) (m_W D q cI cJ cZ (fMo_time z0).2) (m_qs q)) 0 0 (m_qs q) := by
  refine Met.ofW (cc := ccMo_time) (maxL := 1) (ret := (some .long)) (by decide +kernel) rfl ?_
  intro p e s m args below meth c s₁ B hml hv
  obtain ⟨rfl, hP, hK⟩ := hv
  have hx := B.exec
  have hb := B.bytes
  have hr := B.returns
  have hts := atoms_spec (ws := wsMo_time) B.pre
  have hown : s.vm.findClass RMo = some m.cls := findClass_of_methodNamed B.named
  have hlocks := B.notSynchronized
  have w0 := hts (.fieldLink RMo 61 "DrumMachineModel" "code" "I") (List.mem_cons_of_mem _ wm4_188)
  have w1 := hts (.fieldLink RMo 99 "DrumMachineModel" "time" "J") (List.mem_cons_of_mem _ wm4_199)
  have i0 : ∀ w ∈ u_ws RMo TMo 28, w ∈ wsMo_time := fun w h => List.mem_cons_of_mem _ (inAMo w h)
  have hS : va_S (m_qs q) s.heap s.heap [] := va_S.rf
  have hl := lv_entry ([.ref (q 0)]) (n := 1) (Nat.le_of_ble_eq_true rfl)
  rw [lg_entry_eq]
  generalize (lg_sl ([.ref (q 0)]) ++ List.replicate (1 - (lg_sl ([.ref (q 0)])).length) Slot.unset).toArray = ls at hl ⊢
  have hl : lv_has ls 1 [(0, .ref (q 0))] := hl
  have hR := fMo_time.eq_1 z0
  refine lv_aload_n hx hb dMo_time_0 rfl (lv_at hl 0 rfl) ?_
  refine lv_iconst (v := 0) hx hb dMo_time_1 (by decide) ?_
  refine mp0_code 0 hq hS hx hb hts i0 hown hK hP w0 dMo_time_2 (fun H locs hP hS => ?_)
  refine lv_aload_n hx hb dMo_time_5 rfl (lv_at hl 0 rfl) ?_
  refine mg0_time_e (v := m_time z0) ((m_time_code _ _).trans (rfl)) hx hb hts i0 hown hK hP w1 dMo_time_6 ?_
  exact W.lret hx hb hr (fun t ht _ => ⟨by rw [hR]; first | done | rfl, by rw [hR, ht]; exact hP, hS.F ht⟩) hS.2.2 dMo_time_9
theorem dMo_next_0 : decode ccMo_next 0 = .ok (.aload_n 0, 1) := by decide +kernel
theorem dMo_next_1 : decode ccMo_next 1 = .ok (.iconst 0, 1) := by decide +kernel
theorem dMo_next_2 : decode ccMo_next 2 = .ok (.putfield 61, 3) := by decide +kernel
theorem dMo_next_5 : decode ccMo_next 5 = .ok (.aload_n 0, 1) := by decide +kernel
theorem dMo_next_6 : decode ccMo_next 6 = .ok (.getfield 108, 3) := by decide +kernel
theorem dMo_next_9 : decode ccMo_next 9 = .ok (.ireturn, 1) := by decide +kernel
def fMo_next (z0 : SM)  : Int32 × SM :=
  (m_nxt z0, m_code_s z0 0)
set_option maxHeartbeats 4000000 in
set_option maxRecDepth 100000 in
theorem kMo_next (l : Launch) (D : va_G) (q : Nat → Nat) (cI cJ cZ : ClassId) (hq : m_inj q) (z0 : SM)   : Met l yMo_next wsMo_next { frames := 0, cells := 0, slots := 0, locals := 0 } (va_Pc [.ref (q 0)] (m_C D q cI cJ cZ z0)) (cQw (some (.int ((fMo_next z0).1))) (m_W D q cI cJ cZ (fMo_next z0).2) (m_qs q)) 0 0 (m_qs q) := by
  refine Met.ofW (cc := ccMo_next) (maxL := 1) (ret := (some .int)) (by decide +kernel) rfl ?_
  intro p e s m args below meth c s₁ B hml hv
  obtain ⟨rfl, hP, hK⟩ := hv
  have hx := B.exec
  have hb := B.bytes
  have hr := B.returns
  have hts := atoms_spec (ws := wsMo_next) B.pre
  have hown : s.vm.findClass RMo = some m.cls := findClass_of_methodNamed B.named
  have hlocks := B.notSynchronized
  have w0 := hts (.fieldLink RMo 61 "DrumMachineModel" "code" "I") (List.mem_cons_of_mem _ wm4_188)
  have w1 := hts (.fieldLink RMo 108 "DrumMachineModel" "next" "I") (List.mem_cons_of_mem _ wm4_197)
  have i0 : ∀ w ∈ u_ws RMo TMo 28, w ∈ wsMo_next := fun w h => List.mem_cons_of_mem _ (inAMo w h)
  have hS : va_S (m_qs q) s.heap s.heap [] := va_S.rf
  have hl := lv_entry ([.ref (q 0)]) (n := 1) (Nat.le_of_ble_eq_true rfl)
  rw [lg_entry_eq]
  generalize (lg_sl ([.ref (q 0)]) ++ List.replicate (1 - (lg_sl ([.ref (q 0)])).length) Slot.unset).toArray = ls at hl ⊢
  have hl : lv_has ls 1 [(0, .ref (q 0))] := hl
  have hR := fMo_next.eq_1 z0
  refine lv_aload_n hx hb dMo_next_0 rfl (lv_at hl 0 rfl) ?_
  refine lv_iconst (v := 0) hx hb dMo_next_1 (by decide) ?_
  refine mp0_code 0 hq hS hx hb hts i0 hown hK hP w0 dMo_next_2 (fun H locs hP hS => ?_)
  refine lv_aload_n hx hb dMo_next_5 rfl (lv_at hl 0 rfl) ?_
  refine mg0_next_e (v := m_nxt z0) ((m_nxt_code _ _).trans (rfl)) hx hb hts i0 hown hK hP w1 dMo_next_6 ?_
  exact W.iret hx hb hr (fun t ht _ => ⟨by rw [hR]; first | done | rfl, by rw [hR, ht]; exact hP, hS.F ht⟩) hS.2.2 dMo_next_9
theorem dMo_outputs_0 : decode ccMo_outputs 0 = .ok (.aload_n 0, 1) := by decide +kernel
theorem dMo_outputs_1 : decode ccMo_outputs 1 = .ok (.iconst 0, 1) := by decide +kernel
theorem dMo_outputs_2 : decode ccMo_outputs 2 = .ok (.putfield 61, 3) := by decide +kernel
theorem dMo_outputs_5 : decode ccMo_outputs 5 = .ok (.aload_n 0, 1) := by decide +kernel
theorem dMo_outputs_6 : decode ccMo_outputs 6 = .ok (.getfield 137, 3) := by decide +kernel
theorem dMo_outputs_9 : decode ccMo_outputs 9 = .ok (.ireturn, 1) := by decide +kernel
def fMo_outputs (z0 : SM)  : Int32 × SM :=
  (m_outs z0, m_code_s z0 0)
set_option maxHeartbeats 4000000 in
set_option maxRecDepth 100000 in
theorem kMo_outputs (l : Launch) (D : va_G) (q : Nat → Nat) (cI cJ cZ : ClassId) (hq : m_inj q) (z0 : SM)   : Met l yMo_outputs wsMo_outputs { frames := 0, cells := 0, slots := 0, locals := 0 } (va_Pc [.ref (q 0)] (m_C D q cI cJ cZ z0)) (cQw (some (.int ((fMo_outputs z0).1))) (m_W D q cI cJ cZ (fMo_outputs z0).2) (m_qs q)) 0 0 (m_qs q) := by
  refine Met.ofW (cc := ccMo_outputs) (maxL := 1) (ret := (some .int)) (by decide +kernel) rfl ?_
  intro p e s m args below meth c s₁ B hml hv
  obtain ⟨rfl, hP, hK⟩ := hv
  have hx := B.exec
  have hb := B.bytes
  have hr := B.returns
  have hts := atoms_spec (ws := wsMo_outputs) B.pre
  have hown : s.vm.findClass RMo = some m.cls := findClass_of_methodNamed B.named
  have hlocks := B.notSynchronized
  have w0 := hts (.fieldLink RMo 61 "DrumMachineModel" "code" "I") (List.mem_cons_of_mem _ wm4_188)
  have w1 := hts (.fieldLink RMo 137 "DrumMachineModel" "outputs" "I") (List.mem_cons_of_mem _ wm4_203)
  have i0 : ∀ w ∈ u_ws RMo TMo 28, w ∈ wsMo_outputs := fun w h => List.mem_cons_of_mem _ (inAMo w h)
  have hS : va_S (m_qs q) s.heap s.heap [] := va_S.rf
  have hl := lv_entry ([.ref (q 0)]) (n := 1) (Nat.le_of_ble_eq_true rfl)
  rw [lg_entry_eq]
  generalize (lg_sl ([.ref (q 0)]) ++ List.replicate (1 - (lg_sl ([.ref (q 0)])).length) Slot.unset).toArray = ls at hl ⊢
  have hl : lv_has ls 1 [(0, .ref (q 0))] := hl
  have hR := fMo_outputs.eq_1 z0
  refine lv_aload_n hx hb dMo_outputs_0 rfl (lv_at hl 0 rfl) ?_
  refine lv_iconst (v := 0) hx hb dMo_outputs_1 (by decide) ?_
  refine mp0_code 0 hq hS hx hb hts i0 hown hK hP w0 dMo_outputs_2 (fun H locs hP hS => ?_)
  refine lv_aload_n hx hb dMo_outputs_5 rfl (lv_at hl 0 rfl) ?_
  refine mg0_outputs_e (v := m_outs z0) ((m_outs_code _ _).trans (rfl)) hx hb hts i0 hown hK hP w1 dMo_outputs_6 ?_
  exact W.iret hx hb hr (fun t ht _ => ⟨by rw [hR]; first | done | rfl, by rw [hR, ht]; exact hP, hS.F ht⟩) hS.2.2 dMo_outputs_9
theorem dMo_register_0 : decode ccMo_register 0 = .ok (.aload_n 0, 1) := by decide +kernel
theorem dMo_register_1 : decode ccMo_register 1 = .ok (.iconst 0, 1) := by decide +kernel
theorem dMo_register_2 : decode ccMo_register 2 = .ok (.putfield 61, 3) := by decide +kernel
theorem dMo_register_5 : decode ccMo_register 5 = .ok (.iload_n 1, 1) := by decide +kernel
theorem dMo_register_6 : decode ccMo_register 6 = .ok (.tableswitch 41 0 2 #[26, 31, 36], 26) := by decide +kernel
theorem dMo_register_32 : decode ccMo_register 32 = .ok (.aload_n 0, 1) := by decide +kernel
theorem dMo_register_33 : decode ccMo_register 33 = .ok (.getfield 118, 3) := by decide +kernel
theorem dMo_register_36 : decode ccMo_register 36 = .ok (.lreturn, 1) := by decide +kernel
theorem dMo_register_37 : decode ccMo_register 37 = .ok (.aload_n 0, 1) := by decide +kernel
theorem dMo_register_38 : decode ccMo_register 38 = .ok (.getfield 115, 3) := by decide +kernel
theorem dMo_register_41 : decode ccMo_register 41 = .ok (.lreturn, 1) := by decide +kernel
theorem dMo_register_42 : decode ccMo_register 42 = .ok (.aload_n 0, 1) := by decide +kernel
theorem dMo_register_43 : decode ccMo_register 43 = .ok (.getfield 140, 3) := by decide +kernel
theorem dMo_register_46 : decode ccMo_register 46 = .ok (.lreturn, 1) := by decide +kernel
theorem dMo_register_47 : decode ccMo_register 47 = .ok (.aload_n 0, 1) := by decide +kernel
theorem dMo_register_48 : decode ccMo_register 48 = .ok (.iconst 1, 1) := by decide +kernel
theorem dMo_register_49 : decode ccMo_register 49 = .ok (.invokevirtual 202, 3) := by decide +kernel
theorem dMo_register_52 : decode ccMo_register 52 = .ok (.i2l, 1) := by decide +kernel
theorem dMo_register_53 : decode ccMo_register 53 = .ok (.lreturn, 1) := by decide +kernel
def fMo_register (z0 : SM) (a : Int32) : Int64 × SM :=
  (if a = 0 then (m_upper z0, m_code_s z0 0) else (if a = 1 then (m_lower z0, m_code_s z0 0) else (if a = 2 then (m_dist z0, m_code_s z0 0) else (((fMo_fail (m_code_s z0 0) 1).1).toInt64, (fMo_fail (m_code_s z0 0) 1).2))))
set_option maxHeartbeats 4000000 in
set_option maxRecDepth 100000 in
theorem kMo_register (l : Launch) (D : va_G) (q : Nat → Nat) (cI cJ cZ : ClassId) (hq : m_inj q) (z0 : SM) (a : Int32)  : Met l yMo_register wsMo_register { frames := 1, cells := 0, slots := 0, locals := 21 } (va_Pc [.ref (q 0), .int (a)] (m_C D q cI cJ cZ z0)) (cQw (some (.long ((fMo_register z0 a).1))) (m_W D q cI cJ cZ (fMo_register z0 a).2) (m_qs q)) 0 0 (m_qs q) := by
  refine Met.ofW (cc := ccMo_register) (maxL := 2) (ret := (some .long)) (by decide +kernel) rfl ?_
  intro p e s m args below meth c s₁ B hml hv
  obtain ⟨rfl, hP, hK⟩ := hv
  have hx := B.exec
  have hb := B.bytes
  have hr := B.returns
  have hts := atoms_spec (ws := wsMo_register) B.pre
  have hown : s.vm.findClass RMo = some m.cls := findClass_of_methodNamed B.named
  have hlocks := B.notSynchronized
  have w0 := hts (.fieldLink RMo 61 "DrumMachineModel" "code" "I") (List.mem_cons_of_mem _ wm4_188)
  have w1 := hts (.fieldLink RMo 118 "DrumMachineModel" "upper" "J") (List.mem_cons_of_mem _ wm4_191)
  have w2 := hts (.fieldLink RMo 115 "DrumMachineModel" "lower" "J") (List.mem_cons_of_mem _ wm4_192)
  have w3 := hts (.fieldLink RMo 140 "DrumMachineModel" "distributor" "J") (List.mem_cons_of_mem _ wm4_193)
  have i0 : ∀ w ∈ u_ws RMo TMo 28, w ∈ wsMo_register := fun w h => List.mem_cons_of_mem _ (inAMo w h)
  have hS : va_S (m_qs q) s.heap s.heap [] := va_S.rf
  have hl := lv_entry ([.ref (q 0), .int (a)]) (n := 2) (Nat.le_of_ble_eq_true rfl)
  rw [lg_entry_eq]
  generalize (lg_sl ([.ref (q 0), .int (a)]) ++ List.replicate (2 - (lg_sl ([.ref (q 0), .int (a)])).length) Slot.unset).toArray = ls at hl ⊢
  have hl : lv_has ls 2 [(0, .ref (q 0)), (1, .int (a))] := hl
  have hR := fMo_register.eq_1 z0 a
  refine lv_aload_n hx hb dMo_register_0 rfl (lv_at hl 0 rfl) ?_
  refine lv_iconst (v := 0) hx hb dMo_register_1 (by decide) ?_
  refine mp0_code 0 hq hS hx hb hts i0 hown hK hP w0 dMo_register_2 (fun H locs hP hS => ?_)
  refine lv_iload_n hx hb dMo_register_5 rfl (lv_at hl 1 rfl) ?_
  by_cases h6_0 : a = 0
  · have hR := hR.trans (if_pos h6_0)
    refine lv_tableIn (off := 26) (tgt := 32) hx hb dMo_register_6 (by rw [h6_0]; decide) (by rw [h6_0]; decide) (by rw [h6_0]; decide) rfl ?_
    refine lv_aload_n hx hb dMo_register_32 rfl (lv_at hl 0 rfl) ?_
    refine mg0_upper_e (v := m_upper z0) ((m_upper_code _ _).trans (rfl)) hx hb hts i0 hown hK hP w1 dMo_register_33 ?_
    exact W.lret hx hb hr (fun t ht _ => ⟨by rw [hR]; first | done | rfl, by rw [hR, ht]; exact hP, hS.F ht⟩) hS.2.2 dMo_register_36
  · have hR := hR.trans (if_neg h6_0)
    by_cases h6_1 : a = 1
    · have hR := hR.trans (if_pos h6_1)
      refine lv_tableIn (off := 31) (tgt := 37) hx hb dMo_register_6 (by rw [h6_1]; decide) (by rw [h6_1]; decide) (by rw [h6_1]; decide) rfl ?_
      refine lv_aload_n hx hb dMo_register_37 rfl (lv_at hl 0 rfl) ?_
      refine mg0_lower_e (v := m_lower z0) ((m_lower_code _ _).trans (rfl)) hx hb hts i0 hown hK hP w2 dMo_register_38 ?_
      exact W.lret hx hb hr (fun t ht _ => ⟨by rw [hR]; first | done | rfl, by rw [hR, ht]; exact hP, hS.F ht⟩) hS.2.2 dMo_register_41
    · have hR := hR.trans (if_neg h6_1)
      by_cases h6_2 : a = 2
      · have hR := hR.trans (if_pos h6_2)
        refine lv_tableIn (off := 36) (tgt := 42) hx hb dMo_register_6 (by rw [h6_2]; decide) (by rw [h6_2]; decide) (by rw [h6_2]; decide) rfl ?_
        refine lv_aload_n hx hb dMo_register_42 rfl (lv_at hl 0 rfl) ?_
        refine mg0_distributor_e (v := m_dist z0) ((m_dist_code _ _).trans (rfl)) hx hb hts i0 hown hK hP w3 dMo_register_43 ?_
        exact W.lret hx hb hr (fun t ht _ => ⟨by rw [hR]; first | done | rfl, by rw [hR, ht]; exact hP, hS.F ht⟩) hS.2.2 dMo_register_46
      · have hR := hR.trans (if_neg h6_2)
        have nh6_0 := lv_neT (k := 0) (a := 0) h6_0 (by decide)
        have nh6_1 := lv_neT (k := 1) (a := 1) h6_1 (by decide)
        have nh6_2 := lv_neT (k := 2) (a := 2) h6_2 (by decide)
        refine lv_tableOut (tgt := 47) hx hb dMo_register_6 (by omega) rfl ?_
        refine lv_aload_n hx hb dMo_register_47 rfl (lv_at hl 0 rfl) ?_
        refine lv_iconst (v := 1) hx hb dMo_register_48 (by decide) ?_
        refine cl_wr (W.runV (As := [.int (1)]) (rest := []) ⟨hx, hb, hml, hown, hts⟩ (kMo_fail l D q cI cJ cZ hq (m_code_s z0 0) 1) (cwV 1 hts (gV wm5_154 wm5_156 ws3_13 wm1_9 wm5_157) rfl rfl rfl (by decide +kernel) ⟨Nat.le_of_ble_eq_true rfl, Nat.le_of_ble_eq_true rfl⟩) (m_preV0 hK hP) rfl rfl hl.1 rfl (lv_room (Nat.le_of_ble_eq_true rfl)) dMo_register_49 ⟨Nat.le_refl _, Nat.le_refl _⟩) hS (fun _ h => h) (fun _ h => h) (fun H locs hP hS => ?_)
        refine lv_i2l hx hb dMo_register_52 rfl ?_
        exact W.lret hx hb hr (fun t ht _ => ⟨by rw [hR]; first | done | rfl, by rw [hR, ht]; exact hP, hS.F ht⟩) hS.2.2 dMo_register_53
theorem dMo_sign_0 : decode ccMo_sign 0 = .ok (.aload_n 0, 1) := by decide +kernel
theorem dMo_sign_1 : decode ccMo_sign 1 = .ok (.iload_n 1, 1) := by decide +kernel
theorem dMo_sign_2 : decode ccMo_sign 2 = .ok (.ifCond .lt 8, 3) := by decide +kernel
theorem dMo_sign_5 : decode ccMo_sign 5 = .ok (.iload_n 1, 1) := by decide +kernel
theorem dMo_sign_6 : decode ccMo_sign 6 = .ok (.iconst 2, 1) := by decide +kernel
theorem dMo_sign_7 : decode ccMo_sign 7 = .ok (.if_icmp .le 7, 3) := by decide +kernel
theorem dMo_sign_10 : decode ccMo_sign 10 = .ok (.iconst 1, 1) := by decide +kernel
theorem dMo_sign_11 : decode ccMo_sign 11 = .ok (.goto 4, 3) := by decide +kernel
theorem dMo_sign_14 : decode ccMo_sign 14 = .ok (.iconst 0, 1) := by decide +kernel
theorem dMo_sign_15 : decode ccMo_sign 15 = .ok (.putfield 61, 3) := by decide +kernel
theorem dMo_sign_18 : decode ccMo_sign 18 = .ok (.aload_n 0, 1) := by decide +kernel
theorem dMo_sign_19 : decode ccMo_sign 19 = .ok (.getfield 61, 3) := by decide +kernel
theorem dMo_sign_22 : decode ccMo_sign 22 = .ok (.ifCond .ne 43, 3) := by decide +kernel
theorem dMo_sign_25 : decode ccMo_sign 25 = .ok (.iload_n 1, 1) := by decide +kernel
theorem dMo_sign_26 : decode ccMo_sign 26 = .ok (.ifCond .ne 13, 3) := by decide +kernel
theorem dMo_sign_29 : decode ccMo_sign 29 = .ok (.aload_n 0, 1) := by decide +kernel
theorem dMo_sign_30 : decode ccMo_sign 30 = .ok (.getfield 111, 3) := by decide +kernel
theorem dMo_sign_33 : decode ccMo_sign 33 = .ok (.ifCond .eq 32, 3) := by decide +kernel
theorem dMo_sign_36 : decode ccMo_sign 36 = .ok (.goto 25, 3) := by decide +kernel
theorem dMo_sign_39 : decode ccMo_sign 39 = .ok (.iload_n 1, 1) := by decide +kernel
theorem dMo_sign_40 : decode ccMo_sign 40 = .ok (.iconst 1, 1) := by decide +kernel
theorem dMo_sign_41 : decode ccMo_sign 41 = .ok (.if_icmp .ne 13, 3) := by decide +kernel
theorem dMo_sign_44 : decode ccMo_sign 44 = .ok (.aload_n 0, 1) := by decide +kernel
theorem dMo_sign_45 : decode ccMo_sign 45 = .ok (.getfield 143, 3) := by decide +kernel
theorem dMo_sign_48 : decode ccMo_sign 48 = .ok (.ifCond .eq 17, 3) := by decide +kernel
theorem dMo_sign_51 : decode ccMo_sign 51 = .ok (.goto 10, 3) := by decide +kernel
theorem dMo_sign_54 : decode ccMo_sign 54 = .ok (.aload_n 0, 1) := by decide +kernel
theorem dMo_sign_55 : decode ccMo_sign 55 = .ok (.getfield 121, 3) := by decide +kernel
theorem dMo_sign_58 : decode ccMo_sign 58 = .ok (.ifCond .eq 7, 3) := by decide +kernel
theorem dMo_sign_61 : decode ccMo_sign 61 = .ok (.iconst 1, 1) := by decide +kernel
theorem dMo_sign_62 : decode ccMo_sign 62 = .ok (.goto 4, 3) := by decide +kernel
theorem dMo_sign_65 : decode ccMo_sign 65 = .ok (.iconst 0, 1) := by decide +kernel
theorem dMo_sign_66 : decode ccMo_sign 66 = .ok (.ireturn, 1) := by decide +kernel
def fMo_sign_15  (z : SM) (s1 : Bool) (a : Int32) : Bool × SM :=
  (if (bb (s1)) = 0 then (if a = 0 then (if (m_amin z) = true then (true, m_code_s z (bb (s1))) else (false, m_code_s z (bb (s1)))) else (if a = (1 : Int32) then (if (m_distm z) = true then (true, m_code_s z (bb (s1))) else (false, m_code_s z (bb (s1)))) else (if (m_ovf z) = true then (true, m_code_s z (bb (s1))) else (false, m_code_s z (bb (s1)))))) else (false, m_code_s z (bb (s1))))
def fMo_sign_10  (z : SM) (a : Int32) : Bool × SM :=
  fMo_sign_15 z true a
def fMo_sign (z0 : SM) (a : Int32) : Bool × SM :=
  (if a < 0 then fMo_sign_10 z0 a else (if a ≤ (2 : Int32) then fMo_sign_15 z0 false a else fMo_sign_10 z0 a))
set_option maxHeartbeats 4000000 in
set_option maxRecDepth 100000 in
theorem kMo_sign (l : Launch) (D : va_G) (q : Nat → Nat) (cI cJ cZ : ClassId) (hq : m_inj q) (z0 : SM) (a : Int32)  : Met l yMo_sign wsMo_sign { frames := 0, cells := 0, slots := 0, locals := 0 } (va_Pc [.ref (q 0), .int (a)] (m_C D q cI cJ cZ z0)) (cQw (some (.int (bb ((fMo_sign z0 a).1)))) (m_W D q cI cJ cZ (fMo_sign z0 a).2) (m_qs q)) 0 0 (m_qs q) := by
  refine Met.ofW (cc := ccMo_sign) (maxL := 2) (ret := (some .boolean)) (by decide +kernel) rfl ?_
  intro p e s m args below meth c s₁ B hml hv
  obtain ⟨rfl, hP, hK⟩ := hv
  have hx := B.exec
  have hb := B.bytes
  have hr := B.returns
  have hts := atoms_spec (ws := wsMo_sign) B.pre
  have hown : s.vm.findClass RMo = some m.cls := findClass_of_methodNamed B.named
  have hlocks := B.notSynchronized
  have w0 := hts (.fieldLink RMo 61 "DrumMachineModel" "code" "I") (List.mem_cons_of_mem _ wm4_188)
  have w1 := hts (.fieldLink RMo 121 "DrumMachineModel" "overflow" "Z") (List.mem_cons_of_mem _ wm4_196)
  have w2 := hts (.fieldLink RMo 143 "DrumMachineModel" "negativeDistributor" "Z") (List.mem_cons_of_mem _ wm4_195)
  have w3 := hts (.fieldLink RMo 111 "DrumMachineModel" "negative" "Z") (List.mem_cons_of_mem _ wm4_194)
  have i0 : ∀ w ∈ u_ws RMo TMo 28, w ∈ wsMo_sign := fun w h => List.mem_cons_of_mem _ (inAMo w h)
  have hS : va_S (m_qs q) s.heap s.heap [] := va_S.rf
  have hl := lv_entry ([.ref (q 0), .int (a)]) (n := 2) (Nat.le_of_ble_eq_true rfl)
  rw [lg_entry_eq]
  generalize (lg_sl ([.ref (q 0), .int (a)]) ++ List.replicate (2 - (lg_sl ([.ref (q 0), .int (a)])).length) Slot.unset).toArray = ls at hl ⊢
  have hl : lv_has ls 2 [(0, .ref (q 0)), (1, .int (a))] := hl
  have hB15 : ∀ (H : Heap) (locs : List Loc) (ls : Array Slot) (z : SM) (s1 : Bool), fMo_sign z0 a = fMo_sign_15 z s1 a → m_W D q cI cJ cZ z H → va_S (m_qs q) s.heap H locs → lv_has ls 2 [(0, .ref (q 0)), (1, .int (a))] → W p l e (headSpec wsMo_sign { frames := 0, cells := 0, slots := 0, locals := 0 }).room s m ([.ref (q 0), .int (a)] : List Value).toArray below meth c H locs 0 0 (MQ below (cQw (some (.int (bb ((fMo_sign z0 a).1)))) (m_W D q cI cJ cZ (fMo_sign z0 a).2) (m_qs q)) ([.ref (q 0), .int (a)] : List Value).toArray s 0 0 (m_qs q)) (F0 m 15 ls [.int (bb (s1)), .ref (q 0)]) := by
    intro H locs ls z s1 hR hP hS hl
    rw [fMo_sign_15.eq_1] at hR
    refine mp0_code (bb (s1)) hq hS hx hb hts i0 hown hK hP w0 dMo_sign_15 (fun H locs hP hS => ?_)
    refine lv_aload_n hx hb dMo_sign_18 rfl (lv_at hl 0 rfl) ?_
    refine mg0_code_e (v := bb (s1)) (m_code_code _ _) hx hb hts i0 hown hK hP w0 dMo_sign_19 ?_
    refine lv_if_ne hx hb dMo_sign_22 rfl (fun h22 => ?_) (fun h22 => ?_)
    · have hR := hR.trans (if_neg h22)
      refine lv_iconst (v := 0) hx hb dMo_sign_65 (by decide) ?_
      exact W.zret hx hb hr rfl (fun t ht _ => ⟨by rw [hR]; first | done | rfl, by rw [hR, ht]; exact hP, hS.F ht⟩) hS.2.2 dMo_sign_66
    · have hR := hR.trans (if_pos h22)
      refine lv_iload_n hx hb dMo_sign_25 rfl (lv_at hl 1 rfl) ?_
      refine lv_if_ne hx hb dMo_sign_26 rfl (fun h26 => ?_) (fun h26 => ?_)
      · have hR := hR.trans (if_neg h26)
        refine lv_iload_n hx hb dMo_sign_39 rfl (lv_at hl 1 rfl) ?_
        refine lv_iconst (v := 1) hx hb dMo_sign_40 (by decide) ?_
        refine lv_icmp_ne hx hb dMo_sign_41 rfl (fun h41 => ?_) (fun h41 => ?_)
        · have hR := hR.trans (if_neg h41)
          refine lv_aload_n hx hb dMo_sign_54 rfl (lv_at hl 0 rfl) ?_
          refine mg0_overflow_e (v := m_ovf z) ((m_ovf_code _ _).trans (rfl)) hx hb hts i0 hown hK hP w1 dMo_sign_55 ?_
          refine wz_ifeq hx hb dMo_sign_58 rfl (fun h58 => ?_) (fun h58 => ?_)
          · have hR := hR.trans (if_neg h58)
            refine lv_iconst (v := 0) hx hb dMo_sign_65 (by decide) ?_
            exact W.zret hx hb hr rfl (fun t ht _ => ⟨by rw [hR]; first | done | rfl, by rw [hR, ht]; exact hP, hS.F ht⟩) hS.2.2 dMo_sign_66
          · have hR := hR.trans (if_pos h58)
            refine lv_iconst (v := 1) hx hb dMo_sign_61 (by decide) ?_
            refine lv_goto hx hb dMo_sign_62 rfl ?_
            exact W.zret hx hb hr rfl (fun t ht _ => ⟨by rw [hR]; first | done | rfl, by rw [hR, ht]; exact hP, hS.F ht⟩) hS.2.2 dMo_sign_66
        · have hR := hR.trans (if_pos h41)
          refine lv_aload_n hx hb dMo_sign_44 rfl (lv_at hl 0 rfl) ?_
          refine mg0_negativeDistributor_e (v := m_distm z) ((m_distm_code _ _).trans (rfl)) hx hb hts i0 hown hK hP w2 dMo_sign_45 ?_
          refine wz_ifeq hx hb dMo_sign_48 rfl (fun h48 => ?_) (fun h48 => ?_)
          · have hR := hR.trans (if_neg h48)
            refine lv_iconst (v := 0) hx hb dMo_sign_65 (by decide) ?_
            exact W.zret hx hb hr rfl (fun t ht _ => ⟨by rw [hR]; first | done | rfl, by rw [hR, ht]; exact hP, hS.F ht⟩) hS.2.2 dMo_sign_66
          · have hR := hR.trans (if_pos h48)
            refine lv_goto hx hb dMo_sign_51 rfl ?_
            refine lv_iconst (v := 1) hx hb dMo_sign_61 (by decide) ?_
            refine lv_goto hx hb dMo_sign_62 rfl ?_
            exact W.zret hx hb hr rfl (fun t ht _ => ⟨by rw [hR]; first | done | rfl, by rw [hR, ht]; exact hP, hS.F ht⟩) hS.2.2 dMo_sign_66
      · have hR := hR.trans (if_pos h26)
        refine lv_aload_n hx hb dMo_sign_29 rfl (lv_at hl 0 rfl) ?_
        refine mg0_negative_e (v := m_amin z) ((m_amin_code _ _).trans (rfl)) hx hb hts i0 hown hK hP w3 dMo_sign_30 ?_
        refine wz_ifeq hx hb dMo_sign_33 rfl (fun h33 => ?_) (fun h33 => ?_)
        · have hR := hR.trans (if_neg h33)
          refine lv_iconst (v := 0) hx hb dMo_sign_65 (by decide) ?_
          exact W.zret hx hb hr rfl (fun t ht _ => ⟨by rw [hR]; first | done | rfl, by rw [hR, ht]; exact hP, hS.F ht⟩) hS.2.2 dMo_sign_66
        · have hR := hR.trans (if_pos h33)
          refine lv_goto hx hb dMo_sign_36 rfl ?_
          refine lv_iconst (v := 1) hx hb dMo_sign_61 (by decide) ?_
          refine lv_goto hx hb dMo_sign_62 rfl ?_
          exact W.zret hx hb hr rfl (fun t ht _ => ⟨by rw [hR]; first | done | rfl, by rw [hR, ht]; exact hP, hS.F ht⟩) hS.2.2 dMo_sign_66
  have hB10 : ∀ (H : Heap) (locs : List Loc) (ls : Array Slot) (z : SM), fMo_sign z0 a = fMo_sign_10 z a → m_W D q cI cJ cZ z H → va_S (m_qs q) s.heap H locs → lv_has ls 2 [(0, .ref (q 0)), (1, .int (a))] → W p l e (headSpec wsMo_sign { frames := 0, cells := 0, slots := 0, locals := 0 }).room s m ([.ref (q 0), .int (a)] : List Value).toArray below meth c H locs 0 0 (MQ below (cQw (some (.int (bb ((fMo_sign z0 a).1)))) (m_W D q cI cJ cZ (fMo_sign z0 a).2) (m_qs q)) ([.ref (q 0), .int (a)] : List Value).toArray s 0 0 (m_qs q)) (F0 m 10 ls [.ref (q 0)]) := by
    intro H locs ls z hR hP hS hl
    rw [fMo_sign_10.eq_1] at hR
    refine lv_iconst (v := 1) hx hb dMo_sign_10 (by decide) ?_
    refine lv_goto hx hb dMo_sign_11 rfl ?_
    exact hB15 H locs ls z true hR hP hS (lv_sub hl [0, 1] rfl)
  have hR := fMo_sign.eq_1 z0 a
  refine lv_aload_n hx hb dMo_sign_0 rfl (lv_at hl 0 rfl) ?_
  refine lv_iload_n hx hb dMo_sign_1 rfl (lv_at hl 1 rfl) ?_
  refine lv_if_lt hx hb dMo_sign_2 rfl (fun h2 => ?_) (fun h2 => ?_)
  · have hR := hR.trans (if_pos h2)
    exact hB10 s.heap [] ls z0 hR hP hS (lv_sub hl [0, 1] rfl)
  · have hR := hR.trans (if_neg h2)
    refine lv_iload_n hx hb dMo_sign_5 rfl (lv_at hl 1 rfl) ?_
    refine lv_iconst (v := 2) hx hb dMo_sign_6 (by decide) ?_
    refine lv_icmp_le hx hb dMo_sign_7 rfl (fun h7 => ?_) (fun h7 => ?_)
    · have hR := hR.trans (if_pos h7)
      refine lv_iconst (v := 0) hx hb dMo_sign_14 (by decide) ?_
      exact hB15 s.heap [] ls z0 false hR hP hS (lv_sub hl [0, 1] rfl)
    · have hR := hR.trans (if_neg h7)
      exact hB10 s.heap [] ls z0 hR hP hS (lv_sub hl [0, 1] rfl)
