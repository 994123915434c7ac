theorem tk_v {v : Int64} {k : Nat} (hv : 0 ≤ v.toInt ∧ v.toInt ≤ 10000) (hk : k < 200) : (((v + ((nI k / 4).toInt64)) % 50).toInt32 + 50 * (nI k % 4)).toInt = (v.toInt + (k / 4 : Nat)) % 50 + 50 * (k % 4 : Nat) := by
  have ek := nI_toInt (n := k) (by omega)
  have e4 : (4 : Int32).toInt = 4 := by decide
  have e50 : (50 : Int32).toInt = 50 := by decide
  have f50 : (50 : Int64).toInt = 50 := by decide
  have h1 : (nI k / 4).toInt = (k / 4 : Nat) := by
    rw [Kit.i32_div (by rw [ek, e4]; omega), ek, e4, Int.tdiv_eq_ediv_of_nonneg (by omega)]
    omega
  have h2 : ((nI k / 4).toInt64).toInt = (k / 4 : Nat) := by rw [Int32.toInt_toInt64, h1]
  have h3 : (v + (nI k / 4).toInt64).toInt = v.toInt + (k / 4 : Nat) := by
    rw [Kit.i64_add (by rw [h2]; omega) (by rw [h2]; omega), h2]
  have h4 : ((v + (nI k / 4).toInt64) % 50).toInt = (v.toInt + (k / 4 : Nat)) % 50 := by
    rw [Int64.toInt_mod, h3, f50, Int.tmod_eq_emod_of_nonneg (by omega)]
  have h5 : (((v + (nI k / 4).toInt64) % 50).toInt32).toInt = (v.toInt + (k / 4 : Nat)) % 50 := by
    rw [Kit.i32_of_i64 (by rw [h4]; omega) (by rw [h4]; omega), h4]
  have h6 : (nI k % 4).toInt = (k % 4 : Nat) := by
    rw [Kit.i32_rem_nonneg (by omega), ek, e4]
    omega
  have h7 : (50 * (nI k % 4)).toInt = 50 * (k % 4 : Nat) := by
    rw [Kit.i32_mul (by rw [h6, e50]; omega) (by rw [h6, e50]; omega), h6, e50]
  rw [Kit.i32_add (by rw [h5, h7]; omega) (by rw [h5, h7]; omega), h5, h7]
theorem tk_in {v : Int64} {k : Nat} (hv : 0 ≤ v.toInt ∧ v.toInt ≤ 10000) (hk : k < 200) : vp_in (((v + ((nI k / 4).toInt64)) % 50).toInt32 + 50 * (nI k % 4)) 200 := by
  have h := tk_v hv hk
  refine vp_in_iff.mpr ?_
  rw [h]
  omega
theorem ms_in {a : Int32} (ha : pp a) (h : (1000 : Int32) ≤ a) : vp_in (a - 1000) 20 := by
  have e : (1000 : Int32).toInt = 1000 := by decide
  rw [Int32.le_iff_toInt_le] at h
  have h2 : 1000 ≤ a.toInt ∧ a.toInt < 1020 := by
    rcases ha with q | q
    · have := q.2; omega
    · exact q
  rw [vp_in_iff, Kit.i32_sub (by omega) (by omega), e]
  omega
theorem dMo_take_0 : decode ccMo_take 0 = .ok (.iconst (-1), 1) := by decide +kernel
theorem dMo_take_1 : decode ccMo_take 1 = .ok (.istore 4, 2) := by decide +kernel
theorem dMo_take_3 : decode ccMo_take 3 = .ok (.iconst 0, 1) := by decide +kernel
theorem dMo_take_4 : decode ccMo_take 4 = .ok (.istore 5, 2) := by decide +kernel
theorem dMo_take_6 : decode ccMo_take 6 = .ok (.iload 5, 2) := by decide +kernel
theorem dMo_take_8 : decode ccMo_take 8 = .ok (.sipush 200, 3) := by decide +kernel
theorem dMo_take_11 : decode ccMo_take 11 = .ok (.if_icmp .ge 60, 3) := by decide +kernel
theorem dMo_take_14 : decode ccMo_take 14 = .ok (.iload 4, 2) := by decide +kernel
theorem dMo_take_16 : decode ccMo_take 16 = .ok (.iconst (-1), 1) := by decide +kernel
theorem dMo_take_17 : decode ccMo_take 17 = .ok (.if_icmp .ne 54, 3) := by decide +kernel
theorem dMo_take_20 : decode ccMo_take 20 = .ok (.iload_n 1, 1) := by decide +kernel
theorem dMo_take_21 : decode ccMo_take 21 = .ok (.ifCond .eq 26, 3) := by decide +kernel
theorem dMo_take_24 : decode ccMo_take 24 = .ok (.lload_n 2, 1) := by decide +kernel
theorem dMo_take_25 : decode ccMo_take 25 = .ok (.iload 5, 2) := by decide +kernel
theorem dMo_take_27 : decode ccMo_take 27 = .ok (.iconst 4, 1) := by decide +kernel
theorem dMo_take_28 : decode ccMo_take 28 = .ok (.idiv, 1) := by decide +kernel
theorem dMo_take_29 : decode ccMo_take 29 = .ok (.i2l, 1) := by decide +kernel
theorem dMo_take_30 : decode ccMo_take 30 = .ok (.ladd, 1) := by decide +kernel
theorem dMo_take_31 : decode ccMo_take 31 = .ok (.ldc2_w 103, 3) := by decide +kernel
theorem dMo_take_34 : decode ccMo_take 34 = .ok (.lrem, 1) := by decide +kernel
theorem dMo_take_35 : decode ccMo_take 35 = .ok (.l2i, 1) := by decide +kernel
theorem dMo_take_36 : decode ccMo_take 36 = .ok (.bipush 50, 2) := by decide +kernel
theorem dMo_take_38 : decode ccMo_take 38 = .ok (.iload 5, 2) := by decide +kernel
theorem dMo_take_40 : decode ccMo_take 40 = .ok (.iconst 4, 1) := by decide +kernel
theorem dMo_take_41 : decode ccMo_take 41 = .ok (.irem, 1) := by decide +kernel
theorem dMo_take_42 : decode ccMo_take 42 = .ok (.imul, 1) := by decide +kernel
theorem dMo_take_43 : decode ccMo_take 43 = .ok (.iadd, 1) := by decide +kernel
theorem dMo_take_44 : decode ccMo_take 44 = .ok (.goto 5, 3) := by decide +kernel
theorem dMo_take_47 : decode ccMo_take 47 = .ok (.iload 5, 2) := by decide +kernel
theorem dMo_take_49 : decode ccMo_take 49 = .ok (.istore 6, 2) := by decide +kernel
theorem dMo_take_51 : decode ccMo_take 51 = .ok (.aload_n 0, 1) := by decide +kernel
theorem dMo_take_52 : decode ccMo_take 52 = .ok (.getfield 45, 3) := by decide +kernel
theorem dMo_take_55 : decode ccMo_take 55 = .ok (.iload 6, 2) := by decide +kernel
theorem dMo_take_57 : decode ccMo_take 57 = .ok (.baload, 1) := by decide +kernel
theorem dMo_take_58 : decode ccMo_take 58 = .ok (.ifCond .ne 7, 3) := by decide +kernel
theorem dMo_take_61 : decode ccMo_take 61 = .ok (.iload 6, 2) := by decide +kernel
theorem dMo_take_63 : decode ccMo_take 63 = .ok (.istore 4, 2) := by decide +kernel
theorem dMo_take_65 : decode ccMo_take 65 = .ok (.iinc 5 1, 3) := by decide +kernel
theorem dMo_take_68 : decode ccMo_take 68 = .ok (.goto (-62), 3) := by decide +kernel
theorem dMo_take_71 : decode ccMo_take 71 = .ok (.iload 4, 2) := by decide +kernel
theorem dMo_take_73 : decode ccMo_take 73 = .ok (.iconst (-1), 1) := by decide +kernel
theorem dMo_take_74 : decode ccMo_take 74 = .ok (.if_icmp .ne 10, 3) := by decide +kernel
theorem dMo_take_77 : decode ccMo_take 77 = .ok (.aload_n 0, 1) := by decide +kernel
theorem dMo_take_78 : decode ccMo_take 78 = .ok (.iconst 1, 1) := by decide +kernel
theorem dMo_take_79 : decode ccMo_take 79 = .ok (.putfield 208, 3) := by decide +kernel
theorem dMo_take_82 : decode ccMo_take 82 = .ok (.iconst 0, 1) := by decide +kernel
theorem dMo_take_83 : decode ccMo_take 83 = .ok (.ireturn, 1) := by decide +kernel
theorem dMo_take_84 : decode ccMo_take 84 = .ok (.aload_n 0, 1) := by decide +kernel
theorem dMo_take_85 : decode ccMo_take 85 = .ok (.getfield 45, 3) := by decide +kernel
theorem dMo_take_88 : decode ccMo_take 88 = .ok (.iload 4, 2) := by decide +kernel
theorem dMo_take_90 : decode ccMo_take 90 = .ok (.iconst 1, 1) := by decide +kernel
theorem dMo_take_91 : decode ccMo_take 91 = .ok (.bastore, 1) := by decide +kernel
theorem dMo_take_92 : decode ccMo_take 92 = .ok (.iload 4, 2) := by decide +kernel
theorem dMo_take_94 : decode ccMo_take 94 = .ok (.ireturn, 1) := by decide +kernel
def fMo_take_71  (z : SM) (v4 : Int32) : Int32 × SM :=
  (if v4 = ((-1) : Int32) then (0, m_full_s z true) else (v4, m_held_s z (updB (m_held z) v4.toNatClampNeg true)))
def fMo_take_49 (k6 : SM → Bool → Int64 → Int32 → Nat → (Int32 × SM)) (z : SM) (s0 : Int32) (b : Bool) (v : Int64) (v4 : Int32) (v5 : Nat) : Int32 × SM :=
  (if (m_held z s0.toNatClampNeg) = true then k6 z b v v4 (v5 + 1) else k6 z b v s0 (v5 + 1))
def fMo_take_6  : Nat → SM → Bool → Int64 → Int32 → Nat → Int32 × SM
  | 0, z, b, v, v4, v5 => (0, z)
  | fu + 1, z, b, v, v4, v5 => (if 200 ≤ v5 then fMo_take_71 z v4 else (if v4 = ((-1) : Int32) then (if b = true then fMo_take_49 (fMo_take_6 fu) z ((((v + (((nI (v5)) / 4).toInt64)) % 50).toInt32) + (50 * ((nI (v5)) % 4))) b v v4 v5 else fMo_take_49 (fMo_take_6 fu) z (nI (v5)) b v v4 v5) else fMo_take_71 z v4))
def fMo_take (z0 : SM) (b : Bool) (v : Int64) : Int32 × SM :=
  fMo_take_6 201 z0 b v ((-1)) 0
set_option maxHeartbeats 4000000 in
set_option maxRecDepth 100000 in
theorem kMo_take (l : Launch) (D : va_G) (q : Nat → Nat) (cI cJ cZ : ClassId) (hq : m_inj q) (z0 : SM) (b : Bool) (v : Int64) (hv : 0 ≤ v.toInt ∧ v.toInt ≤ 10000) : Met l yMo_take wsMo_take { frames := 0, cells := 0, slots := 0, locals := 0 } (va_Pc [.ref (q 0), .int (bb (b)), .long (v)] (m_C D q cI cJ cZ z0)) (cQw (some (.int ((fMo_take z0 b v).1))) (m_W D q cI cJ cZ (fMo_take z0 b v).2) (m_qs q)) 0 0 (m_qs q) := by
  refine Met.ofW (cc := ccMo_take) (maxL := 7) (ret := (some .int)) (by decide +kernel) rfl ?_
  intro p e s m args below meth c s₁ B hml hv
  obtain ⟨rfl, hP, hK⟩ := hv
  have hx := B.exec
  have hb := B.bytes
  have hr := B.returns
  have hts := atoms_spec (ws := wsMo_take) B.pre
  have hown : s.vm.findClass RMo = some m.cls := findClass_of_methodNamed B.named
  have hlocks := B.notSynchronized
  have w0 := hts (.fieldLink RMo 45 "DrumMachineModel" "held" "[Z") (List.mem_cons_of_mem _ wm4_212)
  have w1 := hts (.fieldLink RMo 208 "DrumMachineModel" "full" "Z") (List.mem_cons_of_mem _ wm4_215)
  have w2 := hts (.constantLong RMo 103 (50)) (List.mem_cons_of_mem _ wm5_84)
  have i0 : ∀ w ∈ u_ws RMo TMo 28, w ∈ wsMo_take := fun w h => List.mem_cons_of_mem _ (inAMo w h)
  have hS : va_S (m_qs q) s.heap s.heap [] := va_S.rf
  have hl := lv_entry ([.ref (q 0), .int (bb (b)), .long (v)]) (n := 7) (Nat.le_of_ble_eq_true rfl)
  rw [lg_entry_eq]
  generalize (lg_sl ([.ref (q 0), .int (bb (b)), .long (v)]) ++ List.replicate (7 - (lg_sl ([.ref (q 0), .int (bb (b)), .long (v)])).length) Slot.unset).toArray = ls at hl ⊢
  have hl : lv_has ls 7 [(0, .ref (q 0)), (1, .int (bb (b))), (2, .long (v))] := hl
  have hB71 : ∀ (H : Heap) (locs : List Loc) (ls : Array Slot) (z : SM) (v4 : Int32), fMo_take z0 b v = fMo_take_71 z v4 → (pl v4) → m_W D q cI cJ cZ z H → va_S (m_qs q) s.heap H locs → lv_has ls 7 [(0, .ref (q 0)), (4, .int (v4))] → W p l e (headSpec wsMo_take { frames := 0, cells := 0, slots := 0, locals := 0 }).room s m ([.ref (q 0), .int (bb (b)), .long (v)] : List Value).toArray below meth c H locs 0 0 (MQ below (cQw (some (.int ((fMo_take z0 b v).1))) (m_W D q cI cJ cZ (fMo_take z0 b v).2) (m_qs q)) ([.ref (q 0), .int (bb (b)), .long (v)] : List Value).toArray s 0 0 (m_qs q)) (F0 m 71 ls []) := by
    intro H locs ls z v4 hR h4 hP hS hl
    rw [fMo_take_71.eq_1] at hR
    refine lv_iload hx hb dMo_take_71 (lv_at hl 1 rfl) ?_
    refine lv_iconst (v := (-1)) hx hb dMo_take_73 (by decide) ?_
    refine lv_icmp_ne hx hb dMo_take_74 rfl (fun h74 => ?_) (fun h74 => ?_)
    · have hR := hR.trans (if_neg h74)
      refine lv_aload_n hx hb dMo_take_84 rfl (lv_at hl 0 rfl) ?_
      refine mg0_held hx hb hts i0 hown hK hP w0 dMo_take_85 ?_
      refine lv_iload hx hb dMo_take_88 (lv_at hl 1 rfl) ?_
      refine lv_iconst (v := 1) hx hb dMo_take_90 (by decide) ?_
      refine ms_held true hq hS hx hb hK hP (pl_in h4 h74) dMo_take_91 (fun H locs hP hS => ?_)
      refine lv_iload hx hb dMo_take_92 (lv_at hl 1 rfl) ?_
      exact W.iret hx hb hr (fun t ht _ => ⟨by rw [hR]; first | done | rfl, by rw [hR, ht]; exact hP, hS.F ht⟩) hS.2.2 dMo_take_94
    · have hR := hR.trans (if_pos h74)
      refine lv_aload_n hx hb dMo_take_77 rfl (lv_at hl 0 rfl) ?_
      refine lv_iconst (v := 1) hx hb dMo_take_78 (by decide) ?_
      refine mp0_full (true) hq hS hx hb hts i0 hown hK hP w1 dMo_take_79 (fun H locs hP hS => ?_)
      refine lv_iconst (v := 0) hx hb dMo_take_82 (by decide) ?_
      exact W.iret hx hb hr (fun t ht _ => ⟨by rw [hR]; first | done | rfl, by rw [hR, ht]; exact hP, hS.F ht⟩) hS.2.2 dMo_take_83
  have hB6 : ∀ (n6 : Nat) (H : Heap) (locs : List Loc) (ls : Array Slot) (z : SM) (v4 : Int32) (v5 : Nat), 200 - v5 < n6 → fMo_take z0 b v = fMo_take_6 n6 z b v v4 v5 → (v5 ≤ 200) → (pl v4) → m_W D q cI cJ cZ z H → va_S (m_qs q) s.heap H locs → lv_has ls 7 [(0, .ref (q 0)), (1, .int (bb (b))), (2, .long (v)), (4, .int (v4)), (5, .int (nI (v5)))] → W p l e (headSpec wsMo_take { frames := 0, cells := 0, slots := 0, locals := 0 }).room s m ([.ref (q 0), .int (bb (b)), .long (v)] : List Value).toArray below meth c H locs 0 0 (MQ below (cQw (some (.int ((fMo_take z0 b v).1))) (m_W D q cI cJ cZ (fMo_take z0 b v).2) (m_qs q)) ([.ref (q 0), .int (bb (b)), .long (v)] : List Value).toArray s 0 0 (m_qs q)) (F0 m 6 ls []) := by
    intro n6
    induction n6 with
    | zero => intro H locs ls z v4 v5 hn6; exact absurd hn6 (Nat.not_lt_zero _)
    | succ n6 ih6 =>
      intro H locs ls z v4 v5 hn6 hR h5 h4 hP hS hl
      rw [fMo_take_6.eq_2] at hR
      have hB49 : ∀ (H : Heap) (locs : List Loc) (ls : Array Slot) (z : SM) (s0 : Int32) (v4 : Int32) (v5 : Nat), fMo_take z0 b v = fMo_take_49 (fMo_take_6 n6) z s0 b v v4 v5 → (vp_in s0 200) → (v5 < 200) → (pl v4) → (200 - v5 < n6 + 1) → m_W D q cI cJ cZ z H → va_S (m_qs q) s.heap H locs → lv_has ls 7 [(0, .ref (q 0)), (1, .int (bb (b))), (2, .long (v)), (4, .int (v4)), (5, .int (nI (v5)))] → W p l e (headSpec wsMo_take { frames := 0, cells := 0, slots := 0, locals := 0 }).room s m ([.ref (q 0), .int (bb (b)), .long (v)] : List Value).toArray below meth c H locs 0 0 (MQ below (cQw (some (.int ((fMo_take z0 b v).1))) (m_W D q cI cJ cZ (fMo_take z0 b v).2) (m_qs q)) ([.ref (q 0), .int (bb (b)), .long (v)] : List Value).toArray s 0 0 (m_qs q)) (F0 m 49 ls [.int (s0)]) := by
        intro H locs ls z s0 v4 v5 hR h6 h5 h4 hm hP hS hl
        rw [fMo_take_49.eq_1] at hR
        refine lv_istore (lv' := [(6, .int (s0)), (0, .ref (q 0)), (1, .int (bb (b))), (2, .long (v)), (4, .int (v4)), (5, .int (nI (v5)))]) hx hb dMo_take_49 hl (by decide) rfl (fun ls hl => ?_)
        refine lv_aload_n hx hb dMo_take_51 rfl (lv_at hl 1 rfl) ?_
        refine mg0_held hx hb hts i0 hown hK hP w0 dMo_take_52 ?_
        refine lv_iload hx hb dMo_take_55 (lv_at hl 0 rfl) ?_
        refine ml_held hx hb hK hP h6 dMo_take_57 ?_
        refine wz_ifne hx hb dMo_take_58 rfl (fun h58 => ?_) (fun h58 => ?_)
        · have hR := hR.trans (if_pos h58)
          refine lv_iinc (k := 5) (lv' := [(5, .int (nI (v5 + 1))), (6, .int (s0)), (0, .ref (q 0)), (1, .int (bb (b))), (2, .long (v)), (4, .int (v4))]) hx hb dMo_take_65 hl rfl (nI_1 _) (by decide) rfl (fun ls hl => ?_)
          refine lv_goto hx hb dMo_take_68 rfl ?_
          exact ih6 H locs ls z v4 (v5 + 1) (by omega) hR (by first | assumption | omega) (by first | exact h4 | exact pl_of h6) hP hS (lv_sub hl [2, 3, 4, 5, 0] rfl)
        · have hR := hR.trans (if_neg h58)
          refine lv_iload hx hb dMo_take_61 (lv_at hl 0 rfl) ?_
          refine lv_istore (lv' := [(4, .int (s0)), (6, .int (s0)), (0, .ref (q 0)), (1, .int (bb (b))), (2, .long (v)), (5, .int (nI (v5)))]) hx hb dMo_take_63 hl (by decide) rfl (fun ls hl => ?_)
          refine lv_iinc (k := 5) (lv' := [(5, .int (nI (v5 + 1))), (4, .int (s0)), (6, .int (s0)), (0, .ref (q 0)), (1, .int (bb (b))), (2, .long (v))]) hx hb dMo_take_65 hl rfl (nI_1 _) (by decide) rfl (fun ls hl => ?_)
          refine lv_goto hx hb dMo_take_68 rfl ?_
          exact ih6 H locs ls z s0 (v5 + 1) (by omega) hR (by first | assumption | omega) (by first | exact h4 | exact pl_of h6) hP hS (lv_sub hl [3, 4, 5, 1, 0] rfl)
      refine lv_iload hx hb dMo_take_6 (lv_at hl 4 rfl) ?_
      refine lv_sipush (v := 200) hx hb dMo_take_8 (by decide) ?_
      refine wn_ge (x := v5) (y := 200) hx hb (by omega) (by omega) dMo_take_11 rfl (fun h11 => ?_) (fun h11 => ?_)
      · have hR := hR.trans (if_pos h11)
        exact hB71 H locs ls z v4 hR (by first | assumption | omega) hP hS (lv_sub hl [0, 3] rfl)
      · have hR := hR.trans (if_neg h11)
        refine lv_iload hx hb dMo_take_14 (lv_at hl 3 rfl) ?_
        refine lv_iconst (v := (-1)) hx hb dMo_take_16 (by decide) ?_
        refine lv_icmp_ne hx hb dMo_take_17 rfl (fun h17 => ?_) (fun h17 => ?_)
        · have hR := hR.trans (if_neg h17)
          exact hB71 H locs ls z v4 hR (by first | assumption | omega) hP hS (lv_sub hl [0, 3] rfl)
        · have hR := hR.trans (if_pos h17)
          refine lv_iload_n hx hb dMo_take_20 rfl (lv_at hl 1 rfl) ?_
          refine wz_ifeq hx hb dMo_take_21 rfl (fun h21 => ?_) (fun h21 => ?_)
          · have hR := hR.trans (if_neg h21)
            refine lv_iload hx hb dMo_take_47 (lv_at hl 4 rfl) ?_
            exact hB49 H locs ls z (nI (v5)) v4 v5 hR (vp_in_nI (by omega) (by decide)) (by first | assumption | omega) (by first | assumption | omega) (by first | assumption | omega) hP hS (lv_sub hl [0, 1, 2, 3, 4] rfl)
          · have hR := hR.trans (if_pos h21)
            refine lv_lload_n hx hb dMo_take_24 rfl (lv_at hl 2 rfl) ?_
            refine lv_iload hx hb dMo_take_25 (lv_at hl 4 rfl) ?_
            refine lv_iconst (v := 4) hx hb dMo_take_27 (by decide) ?_
            refine lv_idiv hx hb dMo_take_28 (by decide) ?_
            refine lv_i2l hx hb dMo_take_29 rfl ?_
            refine lv_ladd hx hb dMo_take_30 ?_
            refine lv_ldc2 (v := 50) hx hb hown w2 dMo_take_31 ?_
            refine lm_lrem hx hb dMo_take_34 (by decide) ?_
            refine lv_l2i hx hb dMo_take_35 rfl ?_
            refine lv_bipush (v := 50) hx hb dMo_take_36 (by decide) ?_
            refine lv_iload hx hb dMo_take_38 (lv_at hl 4 rfl) ?_
            refine lv_iconst (v := 4) hx hb dMo_take_40 (by decide) ?_
            refine lm_irem hx hb dMo_take_41 (by decide) ?_
            refine lv_imul hx hb dMo_take_42 ?_
            refine lv_iadd hx hb dMo_take_43 ?_
            refine lv_goto hx hb dMo_take_44 rfl ?_
            exact hB49 H locs ls z ((((v + (((nI (v5)) / 4).toInt64)) % 50).toInt32) + (50 * ((nI (v5)) % 4))) v4 v5 hR (tk_in hv (by omega)) (by first | assumption | omega) (by first | assumption | omega) (by first | assumption | omega) hP hS (lv_sub hl [0, 1, 2, 3, 4] rfl)
  have hR := fMo_take.eq_1 z0 b v
  refine lv_iconst (v := (-1)) hx hb dMo_take_0 (by decide) ?_
  refine lv_istore (lv' := [(4, .int ((-1))), (0, .ref (q 0)), (1, .int (bb (b))), (2, .long (v))]) hx hb dMo_take_1 hl (by decide) rfl (fun ls hl => ?_)
  refine lv_iconst (v := 0) hx hb dMo_take_3 (by decide) ?_
  refine lv_istore (lv' := [(5, .int (nI (0))), (4, .int ((-1))), (0, .ref (q 0)), (1, .int (bb (b))), (2, .long (v))]) hx hb dMo_take_4 hl (by decide) rfl (fun ls hl => ?_)
  exact hB6 201 s.heap [] ls z0 ((-1)) 0 (by omega) hR (by first | assumption | omega) pl_m1 hP hS (lv_sub hl [2, 3, 4, 1, 0] rfl)
theorem dMo_placeOf_0 : decode ccMo_placeOf 0 = .ok (.iload_n 1, 1) := by decide +kernel
theorem dMo_placeOf_1 : decode ccMo_placeOf 1 = .ok (.sipush 1000, 3) := by decide +kernel
theorem dMo_placeOf_4 : decode ccMo_placeOf 4 = .ok (.if_icmp .ge 5, 3) := by decide +kernel
theorem dMo_placeOf_7 : decode ccMo_placeOf 7 = .ok (.iload_n 1, 1) := by decide +kernel
theorem dMo_placeOf_8 : decode ccMo_placeOf 8 = .ok (.ireturn, 1) := by decide +kernel
theorem dMo_placeOf_9 : decode ccMo_placeOf 9 = .ok (.iload_n 1, 1) := by decide +kernel
theorem dMo_placeOf_10 : decode ccMo_placeOf 10 = .ok (.sipush 1000, 3) := by decide +kernel
theorem dMo_placeOf_13 : decode ccMo_placeOf 13 = .ok (.isub, 1) := by decide +kernel
theorem dMo_placeOf_14 : decode ccMo_placeOf 14 = .ok (.istore 5, 2) := by decide +kernel
theorem dMo_placeOf_16 : decode ccMo_placeOf 16 = .ok (.aload_n 0, 1) := by decide +kernel
theorem dMo_placeOf_17 : decode ccMo_placeOf 17 = .ok (.getfield 42, 3) := by decide +kernel
theorem dMo_placeOf_20 : decode ccMo_placeOf 20 = .ok (.iload 5, 2) := by decide +kernel
theorem dMo_placeOf_22 : decode ccMo_placeOf 22 = .ok (.iaload, 1) := by decide +kernel
theorem dMo_placeOf_23 : decode ccMo_placeOf 23 = .ok (.iconst (-1), 1) := by decide +kernel
theorem dMo_placeOf_24 : decode ccMo_placeOf 24 = .ok (.if_icmp .ne 16, 3) := by decide +kernel
theorem dMo_placeOf_27 : decode ccMo_placeOf 27 = .ok (.aload_n 0, 1) := by decide +kernel
theorem dMo_placeOf_28 : decode ccMo_placeOf 28 = .ok (.getfield 42, 3) := by decide +kernel
theorem dMo_placeOf_31 : decode ccMo_placeOf 31 = .ok (.iload 5, 2) := by decide +kernel
theorem dMo_placeOf_33 : decode ccMo_placeOf 33 = .ok (.aload_n 0, 1) := by decide +kernel
theorem dMo_placeOf_34 : decode ccMo_placeOf 34 = .ok (.iload_n 2, 1) := by decide +kernel
theorem dMo_placeOf_35 : decode ccMo_placeOf 35 = .ok (.lload_n 3, 1) := by decide +kernel
theorem dMo_placeOf_36 : decode ccMo_placeOf 36 = .ok (.invokevirtual 211, 3) := by decide +kernel
theorem dMo_placeOf_39 : decode ccMo_placeOf 39 = .ok (.iastore, 1) := by decide +kernel
theorem dMo_placeOf_40 : decode ccMo_placeOf 40 = .ok (.aload_n 0, 1) := by decide +kernel
theorem dMo_placeOf_41 : decode ccMo_placeOf 41 = .ok (.getfield 42, 3) := by decide +kernel
theorem dMo_placeOf_44 : decode ccMo_placeOf 44 = .ok (.iload 5, 2) := by decide +kernel
theorem dMo_placeOf_46 : decode ccMo_placeOf 46 = .ok (.iaload, 1) := by decide +kernel
theorem dMo_placeOf_47 : decode ccMo_placeOf 47 = .ok (.ireturn, 1) := by decide +kernel
def fMo_placeOf_40  (z : SM) (v5 : Int32) : Int32 × SM :=
  (m_plc z v5.toNatClampNeg, z)
def fMo_placeOf_16  (z : SM) (b : Bool) (v : Int64) (v5 : Int32) : Int32 × SM :=
  (if (m_plc z v5.toNatClampNeg) = ((-1) : Int32) then fMo_placeOf_40 (m_plc_s ((fMo_take z b v).2) (upd (m_plc ((fMo_take z b v).2)) v5.toNatClampNeg ((fMo_take z b v).1))) v5 else fMo_placeOf_40 z v5)
def fMo_placeOf (z0 : SM) (a : Int32) (b : Bool) (v : Int64) : Int32 × SM :=
  (if (1000 : Int32) ≤ a then fMo_placeOf_16 z0 b v (a - 1000) else (a, z0))
set_option maxHeartbeats 4000000 in
set_option maxRecDepth 100000 in
theorem kMo_placeOf (l : Launch) (D : va_G) (q : Nat → Nat) (cI cJ cZ : ClassId) (hq : m_inj q) (z0 : SM) (a : Int32) (b : Bool) (v : Int64) (ha : pp a) (hv : 0 ≤ v.toInt ∧ v.toInt ≤ 10000) : Met l yMo_placeOf wsMo_placeOf { frames := 1, cells := 0, slots := 0, locals := 26 } (va_Pc [.ref (q 0), .int (a), .int (bb (b)), .long (v)] (m_C D q cI cJ cZ z0)) (cQw (some (.int ((fMo_placeOf z0 a b v).1))) (m_W D q cI cJ cZ (fMo_placeOf z0 a b v).2) (m_qs q)) 0 0 (m_qs q) := by
  refine Met.ofW (cc := ccMo_placeOf) (maxL := 6) (ret := (some .int)) (by decide +kernel) rfl ?_
  intro p e s m args below meth c s₁ B hml hv
  obtain ⟨rfl, hP, hK⟩ := hv
  have hx := B.exec
  have hb := B.bytes
  have hr := B.returns
  have hts := atoms_spec (ws := wsMo_placeOf) B.pre
  have hown : s.vm.findClass RMo = some m.cls := findClass_of_methodNamed B.named
  have hlocks := B.notSynchronized
  have w0 := hts (.fieldLink RMo 42 "DrumMachineModel" "places" "[I") (List.mem_cons_of_mem _ wm4_211)
  have i0 : ∀ w ∈ u_ws RMo TMo 28, w ∈ wsMo_placeOf := fun w h => List.mem_cons_of_mem _ (inAMo w h)
  have hS : va_S (m_qs q) s.heap s.heap [] := va_S.rf
  have hl := lv_entry ([.ref (q 0), .int (a), .int (bb (b)), .long (v)]) (n := 6) (Nat.le_of_ble_eq_true rfl)
  rw [lg_entry_eq]
  generalize (lg_sl ([.ref (q 0), .int (a), .int (bb (b)), .long (v)]) ++ List.replicate (6 - (lg_sl ([.ref (q 0), .int (a), .int (bb (b)), .long (v)])).length) Slot.unset).toArray = ls at hl ⊢
  have hl : lv_has ls 6 [(0, .ref (q 0)), (1, .int (a)), (2, .int (bb (b))), (3, .long (v))] := hl
  have hB40 : ∀ (H : Heap) (locs : List Loc) (ls : Array Slot) (z : SM) (v5 : Int32), fMo_placeOf z0 a b v = fMo_placeOf_40 z v5 → (vp_in v5 20) → m_W D q cI cJ cZ z H → va_S (m_qs q) s.heap H locs → lv_has ls 6 [(0, .ref (q 0)), (5, .int (v5))] → W p l e (headSpec wsMo_placeOf { frames := 1, cells := 0, slots := 0, locals := 26 }).room s m ([.ref (q 0), .int (a), .int (bb (b)), .long (v)] : List Value).toArray below meth c H locs 0 0 (MQ below (cQw (some (.int ((fMo_placeOf z0 a b v).1))) (m_W D q cI cJ cZ (fMo_placeOf z0 a b v).2) (m_qs q)) ([.ref (q 0), .int (a), .int (bb (b)), .long (v)] : List Value).toArray s 0 0 (m_qs q)) (F0 m 40 ls []) := by
    intro H locs ls z v5 hR hs hP hS hl
    rw [fMo_placeOf_40.eq_1] at hR
    refine lv_aload_n hx hb dMo_placeOf_40 rfl (lv_at hl 0 rfl) ?_
    refine mg0_places hx hb hts i0 hown hK hP w0 dMo_placeOf_41 ?_
    refine lv_iload hx hb dMo_placeOf_44 (lv_at hl 1 rfl) ?_
    refine ml_plc hx hb hK hP hs dMo_placeOf_46 ?_
    exact W.iret hx hb hr (fun t ht _ => ⟨by rw [hR]; first | done | rfl, by rw [hR, ht]; exact hP, hS.F ht⟩) hS.2.2 dMo_placeOf_47
  have hB16 : ∀ (H : Heap) (locs : List Loc) (ls : Array Slot) (z : SM) (v5 : Int32), fMo_placeOf z0 a b v = fMo_placeOf_16 z b v v5 → (vp_in v5 20) → m_W D q cI cJ cZ z H → va_S (m_qs q) s.heap H locs → lv_has ls 6 [(0, .ref (q 0)), (2, .int (bb (b))), (3, .long (v)), (5, .int (v5))] → W p l e (headSpec wsMo_placeOf { frames := 1, cells := 0, slots := 0, locals := 26 }).room s m ([.ref (q 0), .int (a), .int (bb (b)), .long (v)] : List Value).toArray below meth c H locs 0 0 (MQ below (cQw (some (.int ((fMo_placeOf z0 a b v).1))) (m_W D q cI cJ cZ (fMo_placeOf z0 a b v).2) (m_qs q)) ([.ref (q 0), .int (a), .int (bb (b)), .long (v)] : List Value).toArray s 0 0 (m_qs q)) (F0 m 16 ls []) := by
    intro H locs ls z v5 hR hs hP hS hl
    rw [fMo_placeOf_16.eq_1] at hR
    refine lv_aload_n hx hb dMo_placeOf_16 rfl (lv_at hl 0 rfl) ?_
    refine mg0_places hx hb hts i0 hown hK hP w0 dMo_placeOf_17 ?_
    refine lv_iload hx hb dMo_placeOf_20 (lv_at hl 3 rfl) ?_
    refine ml_plc hx hb hK hP hs dMo_placeOf_22 ?_
    refine lv_iconst (v := (-1)) hx hb dMo_placeOf_23 (by decide) ?_
    refine lv_icmp_ne hx hb dMo_placeOf_24 rfl (fun h24 => ?_) (fun h24 => ?_)
    · have hR := hR.trans (if_neg h24)
      exact hB40 H locs ls z v5 hR (by first | assumption | omega) hP hS (lv_sub hl [0, 3] rfl)
    · have hR := hR.trans (if_pos h24)
      refine lv_aload_n hx hb dMo_placeOf_27 rfl (lv_at hl 0 rfl) ?_
      refine mg0_places hx hb hts i0 hown hK hP w0 dMo_placeOf_28 ?_
      refine lv_iload hx hb dMo_placeOf_31 (lv_at hl 3 rfl) ?_
      refine lv_aload_n hx hb dMo_placeOf_33 rfl (lv_at hl 0 rfl) ?_
      refine lv_iload_n hx hb dMo_placeOf_34 rfl (lv_at hl 1 rfl) ?_
      refine lv_lload_n hx hb dMo_placeOf_35 rfl (lv_at hl 2 rfl) ?_
      refine cl_wr (W.runV (As := [.int (bb (b)), .long (v)]) (rest := [.int (v5), .ref (q 11)]) ⟨hx, hb, hml, hown, hts⟩ (kMo_take l D q cI cJ cZ hq z b v hv) (cwV 2 hts (gV wm5_178 wm5_180 ws4_0 wm1_9 wm5_181) rfl rfl rfl (by decide +kernel) ⟨Nat.le_of_ble_eq_true rfl, Nat.le_of_ble_eq_true rfl⟩) (m_preV0 hK hP) rfl rfl hl.1 rfl (lv_room (Nat.le_of_ble_eq_true rfl)) dMo_placeOf_36 ⟨Nat.le_refl _, Nat.le_refl _⟩) hS (fun _ h => h) (fun _ h => h) (fun H locs hP hS => ?_)
      refine ms_plc ((fMo_take z b v).1) hq hS hx hb hK hP hs dMo_placeOf_39 (fun H locs hP hS => ?_)
      exact hB40 H locs ls (m_plc_s ((fMo_take z b v).2) (upd (m_plc ((fMo_take z b v).2)) v5.toNatClampNeg ((fMo_take z b v).1))) v5 hR (by first | assumption | omega) hP hS (lv_sub hl [0, 3] rfl)
  have hR := fMo_placeOf.eq_1 z0 a b v
  refine lv_iload_n hx hb dMo_placeOf_0 rfl (lv_at hl 1 rfl) ?_
  refine lv_sipush (v := 1000) hx hb dMo_placeOf_1 (by decide) ?_
  refine lv_icmp_ge hx hb dMo_placeOf_4 rfl (fun h4 => ?_) (fun h4 => ?_)
  · have hR := hR.trans (if_pos h4)
    refine lv_iload_n hx hb dMo_placeOf_9 rfl (lv_at hl 1 rfl) ?_
    refine lv_sipush (v := 1000) hx hb dMo_placeOf_10 (by decide) ?_
    refine lv_isub hx hb dMo_placeOf_13 ?_
    refine lv_istore (lv' := [(5, .int (a - 1000)), (0, .ref (q 0)), (1, .int (a)), (2, .int (bb (b))), (3, .long (v))]) hx hb dMo_placeOf_14 hl (by decide) rfl (fun ls hl => ?_)
    exact hB16 s.heap [] ls z0 (a - 1000) hR (ms_in ha h4) hP hS (lv_sub hl [1, 3, 4, 0] rfl)
  · have hR := hR.trans (if_neg h4)
    refine lv_iload_n hx hb dMo_placeOf_7 rfl (lv_at hl 1 rfl) ?_
    exact W.iret hx hb hr (fun t ht _ => ⟨by rw [hR]; first | done | rfl, by rw [hR, ht]; exact hP, hS.F ht⟩) hS.2.2 dMo_placeOf_8
def nn (x : Int32) : Prop := 0 ≤ x.toInt ∧ x.toInt < 200
def m_A (z : SM) : Prop := (0 ≤ (m_lines z).toInt ∧ (m_lines z).toInt ≤ 40) ∧ (∀ i, i < 40 → pp (m_loc z i)) ∧ (∀ i, i < 40 → pp (m_foll z i)) ∧ (∀ i, i < 40 → pp (m_dat z i) ∧ (fMo_shifts (m_ops z i) = true → pl (m_dat z i))) ∧ (∀ i, i < 40 → pl (m_ats z i)) ∧ (∀ i, i < 20 → pl (m_plc z i))
theorem nn_pl {x : Int32} (h : nn x) : pl x := ⟨by have := h.1; omega, h.2⟩
theorem nn_0 : nn 0 := by
  have e : (0 : Int32).toInt = 0 := by decide
  unfold nn
  omega
theorem nn_of {x : Int32} (h : pl x) (h1 : ¬ x = -1) : nn x := ⟨pl_nn h h1, h.2⟩
/-- lines and their parts, places: unchanged -/
def mB (z z' : SM) : Prop := m_lines z' = m_lines z ∧ m_loc z' = m_loc z ∧ m_foll z' = m_foll z ∧ m_dat z' = m_dat z ∧ m_ops z' = m_ops z ∧ m_ats z' = m_ats z
theorem mB_rf (z : SM) : mB z z := ⟨rfl, rfl, rfl, rfl, rfl, rfl⟩
theorem tk6 (z : SM) (b : Bool) (v : Int64) (hv : 0 ≤ v.toInt ∧ v.toInt ≤ 10000) : ∀ (n : Nat) (v4 : Int32) (v5 : Nat), pl v4 → nn (fMo_take_6 n z b v v4 v5).1 ∧ mB z (fMo_take_6 n z b v v4 v5).2 ∧ m_plc (fMo_take_6 n z b v v4 v5).2 = m_plc z := by
  intro n
  induction n with
  | zero => intro v4 v5 _; exact ⟨nn_0, mB_rf z, rfl⟩
  | succ n ih =>
    intro v4 v5 h4
    have hend : ∀ x : Int32, pl x → nn (fMo_take_71 z x).1 ∧ mB z (fMo_take_71 z x).2 ∧ m_plc (fMo_take_71 z x).2 = m_plc z := by
      intro x hx
      unfold fMo_take_71
      by_cases h : x = (-1 : Int32)
      · rw [if_pos h]; exact ⟨nn_0, ⟨rfl, rfl, rfl, rfl, rfl, rfl⟩, rfl⟩
      · rw [if_neg h]; exact ⟨nn_of hx h, ⟨rfl, rfl, rfl, rfl, rfl, rfl⟩, rfl⟩
    rw [fMo_take_6.eq_2]
    by_cases h5 : 200 ≤ v5
    · rw [if_pos h5]; exact hend v4 h4
    · rw [if_neg h5]
      by_cases h6 : v4 = (-1 : Int32)
      · rw [if_pos h6]
        have i1 := tk_in (v := v) (k := v5) hv (by omega)
        have i2 : vp_in (nI v5) 200 := vp_in_nI (by omega) (by decide)
        have h49 : ∀ s0 : Int32, pl s0 → nn (fMo_take_49 (fMo_take_6 n) z s0 b v v4 v5).1 ∧ mB z (fMo_take_49 (fMo_take_6 n) z s0 b v v4 v5).2 ∧ m_plc (fMo_take_49 (fMo_take_6 n) z s0 b v v4 v5).2 = m_plc z := by
          intro s0 hs0
          unfold fMo_take_49
          by_cases hh : m_held z s0.toNatClampNeg = true
          · rw [if_pos hh]; exact ih _ _ h4
          · rw [if_neg hh]; exact ih _ _ hs0
        by_cases hb : b = true
        · rw [if_pos hb]; exact h49 _ (pl_of i1)
        · rw [if_neg hb]; exact h49 _ (pl_of i2)
      · rw [if_neg h6]; exact hend v4 h4
theorem tk3 (z : SM) (b : Bool) {v : Int64} (hv : 0 ≤ v.toInt ∧ v.toInt ≤ 10000) : nn (fMo_take z b v).1 ∧ mB z (fMo_take z b v).2 ∧ m_plc (fMo_take z b v).2 = m_plc z := tk6 z b v hv _ _ _ pl_m1
theorem po3 (z : SM) {a : Int32} (b : Bool) {v : Int64} (ha : pp a) (hv : 0 ≤ v.toInt ∧ v.toInt ≤ 10000) (hs : ∀ i, i < 20 → pl (m_plc z i)) : (¬ a = -1 → nn (fMo_placeOf z a b v).1) ∧ mB z (fMo_placeOf z a b v).2 ∧ ∀ i, i < 20 → pl (m_plc (fMo_placeOf z a b v).2 i) := by
  have ht := tk3 z b hv
  unfold fMo_placeOf
  by_cases h : (1000 : Int32) ≤ a
  · rw [if_pos h]
    have hi := ms_in ha h
    unfold fMo_placeOf_16 fMo_placeOf_40
    generalize fMo_take z b v = y at ht
    by_cases h1 : m_plc z (a - 1000).toNatClampNeg = (-1 : Int32)
    · rw [if_pos h1]
      have hu : ∀ i, i < 20 → pl (upd (m_plc y.2) (a - 1000).toNatClampNeg y.1 i) := upd_all (by rw [ht.2.2]; exact hs) (nn_pl ht.1)
      refine ⟨fun _ => ?_, ht.2.1, hu⟩
      show nn (upd (m_plc y.2) (a - 1000).toNatClampNeg y.1 (a - 1000).toNatClampNeg)
      unfold upd
      rw [if_pos rfl]
      exact ht.1
    · rw [if_neg h1]
      exact ⟨fun _ => nn_of (hs _ (ix_lt hi)) h1, mB_rf z, hs⟩
  · rw [if_neg h]
    refine ⟨fun h1 => ?_, mB_rf z, hs⟩
    have e : (1000 : Int32).toInt = 1000 := by decide
    rw [Int32.le_iff_toInt_le] at h
    refine nn_of ?_ h1
    rcases ha with q | q
    · exact q
    · omega
theorem b00L : 0 ≤ (0 : Int64).toInt ∧ (0 : Int64).toInt ≤ 10000 := by decide
theorem mA_B {z z' : SM} (hA : m_A z) (h : mB z z') (hs : ∀ i, i < 20 → pl (m_plc z' i)) : m_A z' := by
  obtain ⟨h1, h2, h3, h4, h5, h6⟩ := h
  unfold m_A
  rw [h1, h2, h3, h4, h5, h6]
  exact ⟨hA.1, hA.2.1, hA.2.2.1, hA.2.2.2.1, hA.2.2.2.2.1, hs⟩
theorem lb1 {x : Int32} (h : nn x) : 0 ≤ (x.toInt64 + 1).toInt ∧ (x.toInt64 + 1).toInt ≤ 10000 := by
  have e : (1 : Int64).toInt = 1 := by decide
  have e1 : x.toInt64.toInt = x.toInt := Int32.toInt_toInt64 x
  have := h.1
  have := h.2
  rw [Kit.i64_add (by omega) (by omega), e, e1]
  omega
theorem mf_b {o d : Int32} (hd : 0 ≤ d.toInt) : 0 ≤ (fMo_fixed o d).toInt ∧ (fMo_fixed o d).toInt ≤ 20 := by
  have e : (10 : Int32).toInt = 10 := by decide
  have e1 : (1 : Int32).toInt = 1 := by decide
  have h1 : (d % 10).toInt = d.toInt % 10 := by rw [Kit.i32_rem_nonneg hd, e]
  have h2 : (d % 10 + 1).toInt = d.toInt % 10 + 1 := by rw [Kit.i32_add (by omega) (by omega), h1, e1]
  unfold fMo_fixed
  repeat' split
  all_goals first | omega | decide
theorem lb2 {x o d : Int32} (h : nn x) (hd : nn d) : 0 ≤ (x.toInt64 + 1 + (fMo_fixed o d).toInt64).toInt ∧ (x.toInt64 + 1 + (fMo_fixed o d).toInt64).toInt ≤ 10000 := by
  have e : (1 : Int64).toInt = 1 := by decide
  have e1 : x.toInt64.toInt = x.toInt := Int32.toInt_toInt64 x
  have h1 : (x.toInt64 + 1).toInt = x.toInt + 1 := by
    have := h.1
    have := h.2
    rw [Kit.i64_add (by omega) (by omega), e, e1]
  have hf := mf_b (o := o) hd.1
  have h2 : (fMo_fixed o d).toInt64.toInt = (fMo_fixed o d).toInt := Int32.toInt_toInt64 _
  have := h.1
  have := h.2
  rw [Kit.i64_add (by omega) (by omega), h1, h2]
  omega
