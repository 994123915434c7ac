def rnm (z : SM) (v : Int32) : Nat := if m_fault z = -1 then (301 - v.toInt).toNat else 0
theorem rn_b1 {a v : Int32} (h2 : 0 ≤ v.toInt ∧ v.toInt ≤ 300) (ha : a.toInt ≤ 300) (h : ¬ a ≤ v) : 0 ≤ (v + 1).toInt ∧ (v + 1).toInt ≤ 300 := by
  have h1 := lk_lt h
  rw [i_inc (by omega) h2.1]
  omega
theorem i_add0 (v : Int32) : v + 0 = v := by
  apply Int32.toInt_inj.mp
  have e : (0 : Int32).toInt = 0 := by decide
  have h1 := v.toInt_lt
  have h2 := v.le_toInt
  rw [Kit.i32_add (by omega) (by omega), e]
  omega
theorem rn_b0 {v : Int32} (h2 : 0 ≤ v.toInt ∧ v.toInt ≤ 300) : 0 ≤ (v + 0).toInt ∧ (v + 0).toInt ≤ 300 := by
  rw [i_add0]
  exact h2
theorem rn_m1 {z z' : SM} {a v : Int32} {n : Nat} (h2 : 0 ≤ v.toInt ∧ v.toInt ≤ 300) (ha : a.toInt ≤ 300) (h : ¬ a ≤ v) (hf : m_fault z = -1) (hn : rnm z v < n + 1) : rnm z' (v + 1) < n := by
  have h1 := lk_lt h
  unfold rnm at hn ⊢
  rw [if_pos hf] at hn
  rw [i_inc (by omega) h2.1]
  split <;> omega
theorem rn_m0 {z z' : SM} {a v w : Int32} {n : Nat} (h2 : 0 ≤ v.toInt ∧ v.toInt ≤ 300) (ha : a.toInt ≤ 300) (h : ¬ a ≤ v) (hf : m_fault z = -1) (hn : rnm z v < n + 1) (hf' : ¬ m_fault z' = -1) : rnm z' w < n := by
  have h1 := lk_lt h
  unfold rnm at hn ⊢
  rw [if_pos hf] at hn
  rw [if_neg hf']
  omega
theorem rn_f (z : SM) : rnm z 0 < 302 := by
  have e : (0 : Int32).toInt = 0 := by decide
  unfold rnm
  split <;> omega
theorem le300 {a : Int32} (h : a ≤ (300 : Int32)) : a.toInt ≤ 300 := by
  have e : (300 : Int32).toInt = 300 := by decide
  rw [Int32.le_iff_toInt_le] at h
  omega
theorem z300 : 0 ≤ (0 : Int32).toInt ∧ (0 : Int32).toInt ≤ 300 := by decide
theorem dMo_run_0 : decode ccMo_run 0 = .ok (.aload_n 0, 1) := by decide +kernel
theorem dMo_run_1 : decode ccMo_run 1 = .ok (.iload_n 1, 1) := by decide +kernel
theorem dMo_run_2 : decode ccMo_run 2 = .ok (.ifCond .lt 10, 3) := by decide +kernel
theorem dMo_run_5 : decode ccMo_run 5 = .ok (.iload_n 1, 1) := by decide +kernel
theorem dMo_run_6 : decode ccMo_run 6 = .ok (.sipush 300, 3) := by decide +kernel
theorem dMo_run_9 : decode ccMo_run 9 = .ok (.if_icmp .le 7, 3) := by decide +kernel
theorem dMo_run_12 : decode ccMo_run 12 = .ok (.iconst 1, 1) := by decide +kernel
theorem dMo_run_13 : decode ccMo_run 13 = .ok (.goto 16, 3) := by decide +kernel
theorem dMo_run_16 : decode ccMo_run 16 = .ok (.aload_n 0, 1) := by decide +kernel
theorem dMo_run_17 : decode ccMo_run 17 = .ok (.getfield 105, 3) := by decide +kernel
theorem dMo_run_20 : decode ccMo_run 20 = .ok (.iconst (-1), 1) := by decide +kernel
theorem dMo_run_21 : decode ccMo_run 21 = .ok (.if_icmp .eq 7, 3) := by decide +kernel
theorem dMo_run_24 : decode ccMo_run 24 = .ok (.iconst 2, 1) := by decide +kernel
theorem dMo_run_25 : decode ccMo_run 25 = .ok (.goto 4, 3) := by decide +kernel
theorem dMo_run_28 : decode ccMo_run 28 = .ok (.iconst 0, 1) := by decide +kernel
theorem dMo_run_29 : decode ccMo_run 29 = .ok (.putfield 61, 3) := by decide +kernel
theorem dMo_run_32 : decode ccMo_run 32 = .ok (.iconst 0, 1) := by decide +kernel
theorem dMo_run_33 : decode ccMo_run 33 = .ok (.istore_n 2, 1) := by decide +kernel
theorem dMo_run_34 : decode ccMo_run 34 = .ok (.aload_n 0, 1) := by decide +kernel
theorem dMo_run_35 : decode ccMo_run 35 = .ok (.getfield 61, 3) := by decide +kernel
theorem dMo_run_38 : decode ccMo_run 38 = .ok (.ifCond .ne 34, 3) := by decide +kernel
theorem dMo_run_41 : decode ccMo_run 41 = .ok (.iload_n 2, 1) := by decide +kernel
theorem dMo_run_42 : decode ccMo_run 42 = .ok (.iload_n 1, 1) := by decide +kernel
theorem dMo_run_43 : decode ccMo_run 43 = .ok (.if_icmp .ge 29, 3) := by decide +kernel
theorem dMo_run_46 : decode ccMo_run 46 = .ok (.aload_n 0, 1) := by decide +kernel
theorem dMo_run_47 : decode ccMo_run 47 = .ok (.getfield 105, 3) := by decide +kernel
theorem dMo_run_50 : decode ccMo_run 50 = .ok (.iconst (-1), 1) := by decide +kernel
theorem dMo_run_51 : decode ccMo_run 51 = .ok (.if_icmp .ne 21, 3) := by decide +kernel
theorem dMo_run_54 : decode ccMo_run 54 = .ok (.iload_n 2, 1) := by decide +kernel
theorem dMo_run_55 : decode ccMo_run 55 = .ok (.aload_n 0, 1) := by decide +kernel
theorem dMo_run_56 : decode ccMo_run 56 = .ok (.invokevirtual 195, 3) := by decide +kernel
theorem dMo_run_59 : decode ccMo_run 59 = .ok (.ifCond .eq 7, 3) := by decide +kernel
theorem dMo_run_62 : decode ccMo_run 62 = .ok (.iconst 1, 1) := by decide +kernel
theorem dMo_run_63 : decode ccMo_run 63 = .ok (.goto 4, 3) := by decide +kernel
theorem dMo_run_66 : decode ccMo_run 66 = .ok (.iconst 0, 1) := by decide +kernel
theorem dMo_run_67 : decode ccMo_run 67 = .ok (.iadd, 1) := by decide +kernel
theorem dMo_run_68 : decode ccMo_run 68 = .ok (.istore_n 2, 1) := by decide +kernel
theorem dMo_run_69 : decode ccMo_run 69 = .ok (.goto (-35), 3) := by decide +kernel
theorem dMo_run_72 : decode ccMo_run 72 = .ok (.iload_n 2, 1) := by decide +kernel
theorem dMo_run_73 : decode ccMo_run 73 = .ok (.ireturn, 1) := by decide +kernel
def fMo_run_34  : Nat → SM → Int32 → Int32 → Int32 × SM
  | 0, z, a, v2 => (0, z)
  | fu + 1, z, a, v2 => (if (m_code z) = 0 then (if a ≤ v2 then (v2, z) else (if (m_fault z) = ((-1) : Int32) then (if ((fMo_step z).1) = true then fMo_run_34 fu ((fMo_step z).2) a (v2 + 1) else fMo_run_34 fu ((fMo_step z).2) a (v2 + 0)) else (v2, z))) else (v2, z))
def fMo_run_29  (z : SM) (s1 : Int32) (a : Int32) : Int32 × SM :=
  fMo_run_34 302 (m_code_s z s1) a 0
def fMo_run_12  (z : SM) (a : Int32) : Int32 × SM :=
  fMo_run_29 z 1 a
def fMo_run (z0 : SM) (a : Int32) : Int32 × SM :=
  (if a < 0 then fMo_run_12 z0 a else (if a ≤ (300 : Int32) then (if (m_fault z0) = ((-1) : Int32) then fMo_run_29 z0 0 a else fMo_run_29 z0 2 a) else fMo_run_12 z0 a))
set_option maxHeartbeats 4000000 in
set_option maxRecDepth 100000 in
theorem kMo_run (l : Launch) (D : va_G) (q : Nat → Nat) (cI cJ cZ : ClassId) (hq : m_inj q) (z0 : SM) (a : Int32) (I : SM → Prop) (hIJ : ∀ z, I z → m_J z) (hIs : ∀ z, I z → I (fMo_step z).2) (hIc : ∀ z v, I z → I (m_code_s z v)) (hIf : ∀ z, I z → ¬ (fMo_step z).1 = true → ¬ m_fault (fMo_step z).2 = -1) (hIk : ∀ z, I z → m_code (fMo_step z).2 = m_code z) (hI : I z0) : Met l yMo_run wsMo_run { frames := 5, cells := 0, slots := 0, locals := 130 } (va_Pc [.ref (q 0), .int (a)] (m_C D q cI cJ cZ z0)) (cQw (some (.int ((fMo_run z0 a).1))) (m_W D q cI cJ cZ (fMo_run z0 a).2) (m_qs q)) 0 0 (m_qs q) := by
  refine Met.ofW (cc := ccMo_run) (maxL := 3) (ret := (some .int)) (by decide +kernel) rfl ?_
  intro p e s m args below meth c s₁ B hml hv
  obtain ⟨rfl, hP, hK⟩ := hv
  have hx := B.exec
  have hb := B.bytes
  have hr := B.returns
  have hts := atoms_spec (ws := wsMo_run) B.pre
  have hown : s.vm.findClass RMo = some m.cls := findClass_of_methodNamed B.named
  have hlocks := B.notSynchronized
  have w0 := hts (.fieldLink RMo 61 "DrumMachineModel" "code" "I") (List.mem_cons_of_mem _ wm4_188)
  have w1 := hts (.fieldLink RMo 105 "DrumMachineModel" "fault" "I") (List.mem_cons_of_mem _ wm4_198)
  have i0 : ∀ w ∈ u_ws RMo TMo 28, w ∈ wsMo_run := fun w h => List.mem_cons_of_mem _ (inAMo w h)
  have hS : va_S (m_qs q) s.heap s.heap [] := va_S.rf
  have hl := lv_entry ([.ref (q 0), .int (a)]) (n := 3) (Nat.le_of_ble_eq_true rfl)
  rw [lg_entry_eq]
  generalize (lg_sl ([.ref (q 0), .int (a)]) ++ List.replicate (3 - (lg_sl ([.ref (q 0), .int (a)])).length) Slot.unset).toArray = ls at hl ⊢
  have hl : lv_has ls 3 [(0, .ref (q 0)), (1, .int (a))] := hl
  have hB34 : ∀ (n34 : Nat) (H : Heap) (locs : List Loc) (ls : Array Slot) (z : SM) (v2 : Int32), rnm z v2 < n34 → fMo_run z0 a = fMo_run_34 n34 z a v2 → (I z) → (0 ≤ v2.toInt ∧ v2.toInt ≤ 300) → (m_code z = 0 → a.toInt ≤ 300) → m_W D q cI cJ cZ z H → va_S (m_qs q) s.heap H locs → lv_has ls 3 [(0, .ref (q 0)), (1, .int (a)), (2, .int (v2))] → W p l e (headSpec wsMo_run { frames := 5, cells := 0, slots := 0, locals := 130 }).room s m ([.ref (q 0), .int (a)] : List Value).toArray below meth c H locs 0 0 (MQ below (cQw (some (.int ((fMo_run z0 a).1))) (m_W D q cI cJ cZ (fMo_run z0 a).2) (m_qs q)) ([.ref (q 0), .int (a)] : List Value).toArray s 0 0 (m_qs q)) (F0 m 34 ls []) := by
    intro n34
    induction n34 with
    | zero => intro H locs ls z v2 hn34; exact absurd hn34 (Nat.not_lt_zero _)
    | succ n34 ih34 =>
      intro H locs ls z v2 hn34 hR hI h2 hs hP hS hl
      rw [fMo_run_34.eq_2] at hR
      refine lv_aload_n hx hb dMo_run_34 rfl (lv_at hl 0 rfl) ?_
      refine mg0_code hx hb hts i0 hown hK hP w0 dMo_run_35 ?_
      refine lv_if_ne hx hb dMo_run_38 rfl (fun h38 => ?_) (fun h38 => ?_)
      · have hR := hR.trans (if_neg h38)
        refine lv_iload_n hx hb dMo_run_72 rfl (lv_at hl 2 rfl) ?_
        exact W.iret hx hb hr (fun t ht _ => ⟨by rw [hR]; first | done | rfl, by rw [hR, ht]; exact hP, hS.F ht⟩) hS.2.2 dMo_run_73
      · have hR := hR.trans (if_pos h38)
        refine lv_iload_n hx hb dMo_run_41 rfl (lv_at hl 2 rfl) ?_
        refine lv_iload_n hx hb dMo_run_42 rfl (lv_at hl 1 rfl) ?_
        refine lv_icmp_ge hx hb dMo_run_43 rfl (fun h43 => ?_) (fun h43 => ?_)
        · have hR := hR.trans (if_pos h43)
          refine lv_iload_n hx hb dMo_run_72 rfl (lv_at hl 2 rfl) ?_
          exact W.iret hx hb hr (fun t ht _ => ⟨by rw [hR]; first | done | rfl, by rw [hR, ht]; exact hP, hS.F ht⟩) hS.2.2 dMo_run_73
        · have hR := hR.trans (if_neg h43)
          refine lv_aload_n hx hb dMo_run_46 rfl (lv_at hl 0 rfl) ?_
          refine mg0_fault hx hb hts i0 hown hK hP w1 dMo_run_47 ?_
          refine lv_iconst (v := (-1)) hx hb dMo_run_50 (by decide) ?_
          refine lv_icmp_ne hx hb dMo_run_51 rfl (fun h51 => ?_) (fun h51 => ?_)
          · have hR := hR.trans (if_neg h51)
            refine lv_iload_n hx hb dMo_run_72 rfl (lv_at hl 2 rfl) ?_
            exact W.iret hx hb hr (fun t ht _ => ⟨by rw [hR]; first | done | rfl, by rw [hR, ht]; exact hP, hS.F ht⟩) hS.2.2 dMo_run_73
          · have hR := hR.trans (if_pos h51)
            refine lv_iload_n hx hb dMo_run_54 rfl (lv_at hl 2 rfl) ?_
            refine lv_aload_n hx hb dMo_run_55 rfl (lv_at hl 0 rfl) ?_
            refine cl_wr (W.runV (As := []) (rest := [.int (v2)]) ⟨hx, hb, hml, hown, hts⟩ (kMo_step l D q cI cJ cZ hq z (hIJ _ hI)) (cwV 0 hts (gV wm5_72 wm5_74 ws3_0 wm1_9 wm5_75) rfl rfl rfl (by decide +kernel) ⟨Nat.le_of_ble_eq_true rfl, Nat.le_of_ble_eq_true rfl⟩) (m_preV0 hK hP) rfl rfl hl.1 rfl (lv_room (Nat.le_of_ble_eq_true rfl)) dMo_run_56 ⟨Nat.le_refl _, Nat.le_refl _⟩) hS (fun _ h => h) (fun _ h => h) (fun H locs hP hS => ?_)
            refine wz_ifeq hx hb dMo_run_59 rfl (fun h59 => ?_) (fun h59 => ?_)
            · have hR := hR.trans (if_neg h59)
              refine lv_iconst (v := 0) hx hb dMo_run_66 (by decide) ?_
              refine lv_iadd hx hb dMo_run_67 ?_
              refine lv_istore_n (lv' := [(2, .int (v2 + 0)), (0, .ref (q 0)), (1, .int (a))]) hx hb dMo_run_68 rfl hl (by decide) rfl (fun ls hl => ?_)
              refine lv_goto hx hb dMo_run_69 rfl ?_
              exact ih34 H locs ls ((fMo_step z).2) (v2 + 0) (by first | exact rn_m0 h2 (hs h38) h43 h51 hn34 (hIf _ hI h59) | exact rn_m1 h2 (hs h38) h43 h51 hn34) hR (hIs _ hI) (by first | exact rn_b1 h2 (hs h38) h43 | exact rn_b0 h2) (fun h => hs ((hIk _ hI).symm.trans h)) hP hS (lv_sub hl [1, 2, 0] rfl)
            · have hR := hR.trans (if_pos h59)
              refine lv_iconst (v := 1) hx hb dMo_run_62 (by decide) ?_
              refine lv_goto hx hb dMo_run_63 rfl ?_
              refine lv_iadd hx hb dMo_run_67 ?_
              refine lv_istore_n (lv' := [(2, .int (v2 + 1)), (0, .ref (q 0)), (1, .int (a))]) hx hb dMo_run_68 rfl hl (by decide) rfl (fun ls hl => ?_)
              refine lv_goto hx hb dMo_run_69 rfl ?_
              exact ih34 H locs ls ((fMo_step z).2) (v2 + 1) (by first | exact rn_m0 h2 (hs h38) h43 h51 hn34 (hIf _ hI h59) | exact rn_m1 h2 (hs h38) h43 h51 hn34) hR (hIs _ hI) (by first | exact rn_b1 h2 (hs h38) h43 | exact rn_b0 h2) (fun h => hs ((hIk _ hI).symm.trans h)) hP hS (lv_sub hl [1, 2, 0] rfl)
  have hB29 : ∀ (H : Heap) (locs : List Loc) (ls : Array Slot) (z : SM) (s1 : Int32), fMo_run z0 a = fMo_run_29 z s1 a → (I z) → (s1 = 0 → a.toInt ≤ 300) → m_W D q cI cJ cZ z H → va_S (m_qs q) s.heap H locs → lv_has ls 3 [(0, .ref (q 0)), (1, .int (a))] → W p l e (headSpec wsMo_run { frames := 5, cells := 0, slots := 0, locals := 130 }).room s m ([.ref (q 0), .int (a)] : List Value).toArray below meth c H locs 0 0 (MQ below (cQw (some (.int ((fMo_run z0 a).1))) (m_W D q cI cJ cZ (fMo_run z0 a).2) (m_qs q)) ([.ref (q 0), .int (a)] : List Value).toArray s 0 0 (m_qs q)) (F0 m 29 ls [.int (s1), .ref (q 0)]) := by
    intro H locs ls z s1 hR hI hs hP hS hl
    rw [fMo_run_29.eq_1] at hR
    refine mp0_code s1 hq hS hx hb hts i0 hown hK hP w0 dMo_run_29 (fun H locs hP hS => ?_)
    refine lv_iconst (v := 0) hx hb dMo_run_32 (by decide) ?_
    refine lv_istore_n (lv' := [(2, .int (0)), (0, .ref (q 0)), (1, .int (a))]) hx hb dMo_run_33 rfl hl (by decide) rfl (fun ls hl => ?_)
    exact hB34 302 H locs ls (m_code_s z s1) 0 (rn_f _) hR (hIc _ _ hI) z300 hs hP hS (lv_sub hl [1, 2, 0] rfl)
  have hB12 : ∀ (H : Heap) (locs : List Loc) (ls : Array Slot) (z : SM), fMo_run z0 a = fMo_run_12 z a → (I z) → m_W D q cI cJ cZ z H → va_S (m_qs q) s.heap H locs → lv_has ls 3 [(0, .ref (q 0)), (1, .int (a))] → W p l e (headSpec wsMo_run { frames := 5, cells := 0, slots := 0, locals := 130 }).room s m ([.ref (q 0), .int (a)] : List Value).toArray below meth c H locs 0 0 (MQ below (cQw (some (.int ((fMo_run z0 a).1))) (m_W D q cI cJ cZ (fMo_run z0 a).2) (m_qs q)) ([.ref (q 0), .int (a)] : List Value).toArray s 0 0 (m_qs q)) (F0 m 12 ls [.ref (q 0)]) := by
    intro H locs ls z hR hI hP hS hl
    rw [fMo_run_12.eq_1] at hR
    refine lv_iconst (v := 1) hx hb dMo_run_12 (by decide) ?_
    refine lv_goto hx hb dMo_run_13 rfl ?_
    exact hB29 H locs ls z 1 hR (by first | assumption | omega) (fun h => absurd h (by decide)) hP hS (lv_sub hl [0, 1] rfl)
  have hR := fMo_run.eq_1 z0 a
  refine lv_aload_n hx hb dMo_run_0 rfl (lv_at hl 0 rfl) ?_
  refine lv_iload_n hx hb dMo_run_1 rfl (lv_at hl 1 rfl) ?_
  refine lv_if_lt hx hb dMo_run_2 rfl (fun h2 => ?_) (fun h2 => ?_)
  · have hR := hR.trans (if_pos h2)
    exact hB12 s.heap [] ls z0 hR (by first | assumption | omega) hP hS (lv_sub hl [0, 1] rfl)
  · have hR := hR.trans (if_neg h2)
    refine lv_iload_n hx hb dMo_run_5 rfl (lv_at hl 1 rfl) ?_
    refine lv_sipush (v := 300) hx hb dMo_run_6 (by decide) ?_
    refine lv_icmp_le hx hb dMo_run_9 rfl (fun h9 => ?_) (fun h9 => ?_)
    · have hR := hR.trans (if_pos h9)
      refine lv_aload_n hx hb dMo_run_16 rfl (lv_at hl 0 rfl) ?_
      refine mg0_fault hx hb hts i0 hown hK hP w1 dMo_run_17 ?_
      refine lv_iconst (v := (-1)) hx hb dMo_run_20 (by decide) ?_
      refine lv_icmp_eq hx hb dMo_run_21 rfl (fun h21 => ?_) (fun h21 => ?_)
      · have hR := hR.trans (if_pos h21)
        refine lv_iconst (v := 0) hx hb dMo_run_28 (by decide) ?_
        exact hB29 s.heap [] ls z0 0 hR (by first | assumption | omega) (fun _ => le300 h9) hP hS (lv_sub hl [0, 1] rfl)
      · have hR := hR.trans (if_neg h21)
        refine lv_iconst (v := 2) hx hb dMo_run_24 (by decide) ?_
        refine lv_goto hx hb dMo_run_25 rfl ?_
        exact hB29 s.heap [] ls z0 2 hR (by first | assumption | omega) (fun h => absurd h (by decide)) hP hS (lv_sub hl [0, 1] rfl)
    · have hR := hR.trans (if_neg h9)
      exact hB12 s.heap [] ls z0 hR (by first | assumption | omega) hP hS (lv_sub hl [0, 1] rfl)
