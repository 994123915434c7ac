/-! marking what is taken -/
/-- the rest that marking keeps -/
def kY (z z' : SC) : Prop := kC z z' ∧ c_syms z' = c_syms z
def kZ (m m' : SM) : Prop := kM m m' ∧ m_plc m' = m_plc m ∧ m_full m' = m_full m ∧ m_ats m' = m_ats m
theorem kY_tr {x y z : SC} (h1 : kY x y) (h2 : kY y z) : kY x z := ⟨kC_tr h1.1 h2.1, h2.2.trans h1.2⟩
theorem kZ_tr {x y z : SM} (h1 : kZ x y) (h2 : kZ y z) : kZ x z := ⟨kM_tr h1.1 h2.1, h2.2.1.trans h1.2.1, h2.2.2.1.trans h1.2.2.1, h2.2.2.2.trans h1.2.2.2⟩
theorem ta_R {z : SC} {m : SM} (h : tq (c_taken z) (m_held m)) (p : Int32) : tq (c_taken (fAs_takeIfAddress z p)) (m_held (fMo_hold m p)) ∧ kY z (fAs_takeIfAddress z p) ∧ kZ m (fMo_hold m p) := by
  rw [fAs_takeIfAddress.eq_1, fMo_hold.eq_1, adr_eq]
  by_cases ha : fMo_isAddress p = true
  · rw [if_pos ha, if_pos ha]
    exact ⟨tq_up h _ true, ⟨kC_t z _, rfl⟩, ⟨kM_h m _, rfl, rfl, rfl⟩⟩
  · rw [if_neg ha, if_neg ha]
    exact ⟨h, ⟨kC_rf z, rfl⟩, ⟨kM_rf m, rfl, rfl, rfl⟩⟩
theorem ga_A {z z' : SC} (h : kC z z') : c_lparts z' = c_lparts z ∧ c_ops z' = c_ops z ∧ c_dparts z' = c_dparts z ∧ c_nparts z' = c_nparts z ∧ c_acount z' = c_acount z := h.2.2.2.2.2.2
theorem ga_M {m m' : SM} (h : kM m m') : m_loc m' = m_loc m ∧ m_ops m' = m_ops m ∧ m_dat m' = m_dat m ∧ m_foll m' = m_foll m ∧ m_lines m' = m_lines m := ⟨h.2.2.2.2.2.2.1, h.2.2.2.2.2.2.2.1, h.2.2.2.2.2.2.2.2.1, h.2.2.2.2.2.2.2.2.2.1, h.2.2.2.2.2.2.2.2.2.2.1⟩
theorem mk_lp (b : Bool) : ∀ (n : Nat) (z : SC) (m : SM) (k : Nat), tq (c_taken z) (m_held m) → eS z m → (m_lines m).toInt ≤ 40 → (k : Int) ≤ (m_lines m).toInt → (m_lines m).toInt - k < n → ∃ m', fMo_assemble_56 n m b k = fMo_assemble_121 41 (m_ats_s m' (upd (m_ats m') (0 : Int32).toNatClampNeg (-1))) b 0 ∧ tq (c_taken (fAs_markTaken_29 n z k)) (m_held m') ∧ kY z (fAs_markTaken_29 n z k) ∧ kZ m m' := by
  intro n
  induction n with
  | zero => intro z m k _ _ _ _ h; omega
  | succ n ih =>
    intro z m k ht hs h40 hk hn
    rw [fMo_assemble_56.eq_2, fAs_markTaken_29.eq_2, hs.2.2.2.2]
    by_cases h1 : m_lines m ≤ nI k
    · rw [if_pos h1, if_pos h1]
      exact ⟨m, rfl, ht, ⟨kC_rf z, rfl⟩, ⟨kM_rf m, rfl, rfl, rfl⟩⟩
    · have ek : (nI k).toNatClampNeg = k := nI_clamp (by omega)
      rw [if_neg h1, if_neg h1, fMo_assemble_106.eq_1, fMo_assemble_106.eq_1, ek]
      rw [Int32.le_iff_toInt_le, nI_toInt (by omega)] at h1
      rw [hs.1]
      obtain ⟨a1, a2, a3⟩ := ta_R ht (m_loc m k)
      generalize fAs_takeIfAddress z (m_loc m k) = z1 at a1 a2 ⊢
      generalize fMo_hold m (m_loc m k) = m1 at a1 a3 ⊢
      rw [(ga_A a2.1).2.2.2.1, (ga_M a3.1).2.2.2.1, hs.2.2.2.1]
      obtain ⟨b1, b2, b3⟩ := ta_R a1 (m_foll m k)
      generalize fAs_takeIfAddress z1 (m_foll m k) = z2 at b1 b2 ⊢
      generalize fMo_hold m1 (m_foll m k) = m2 at b1 b3 ⊢
      have y2 := kY_tr a2 b2
      have w2 := kZ_tr a3 b3
      rw [(ga_A y2.1).2.1, (ga_M w2.1).2.1, (ga_A y2.1).2.2.1, (ga_M w2.1).2.2.1, hs.2.1, hs.2.2.1, (ops_eq (m_ops m k)).2.1]
      by_cases h2 : fMo_shifts (m_ops m k) = true
      · rw [if_pos h2, if_pos h2]
        have hl := (ga_M w2.1).2.2.2.2
        obtain ⟨m', e1, e2, e3, e4⟩ := ih z2 m2 (k + 1) b1 (eS_mv hs y2.1 w2.1) (by rw [hl]; exact h40) (by rw [hl]; omega) (by rw [hl]; omega)
        exact ⟨m', e1, e2, kY_tr y2 e3, kZ_tr w2 e4⟩
      · rw [if_neg h2, if_neg h2]
        obtain ⟨c1, c2, c3⟩ := ta_R b1 (m_dat m k)
        generalize fAs_takeIfAddress z2 (m_dat m k) = z3 at c1 c2 ⊢
        generalize fMo_hold m2 (m_dat m k) = m3 at c1 c3 ⊢
        have y3 := kY_tr y2 c2
        have w3 := kZ_tr w2 c3
        have hl := (ga_M w3.1).2.2.2.2
        obtain ⟨m', e1, e2, e3, e4⟩ := ih z3 m3 (k + 1) c1 (eS_mv hs y3.1 w3.1) (by rw [hl]; exact h40) (by rw [hl]; omega) (by rw [hl]; omega)
        exact ⟨m', e1, e2, kY_tr y3 e3, kZ_tr w3 e4⟩
theorem rs_lp (b : Bool) : ∀ (n : Nat) (z : SC) (m : SM) (k : Nat), c_resv z = m_resv m → k ≤ 200 → 200 - k < n → (∀ j, j < k → c_taken z j = m_held m j) → ∃ z' m', fAs_markTaken_2 n z k = fAs_markTaken_29 41 z' 0 ∧ fMo_assemble_29 n m b k = fMo_assemble_56 41 m' b 0 ∧ tq (c_taken z') (m_held m') ∧ kY z z' ∧ kZ m m' := by
  intro n
  induction n with
  | zero => intro z m k _ _ h; omega
  | succ n ih =>
    intro z m k hr hk hn hj
    rw [fAs_markTaken_2.eq_2, fMo_assemble_29.eq_2]
    by_cases h1 : 200 ≤ k
    · rw [if_pos h1, if_pos h1]
      exact ⟨z, m, rfl, rfl, fun j hj2 => hj j (by omega), ⟨kC_rf z, rfl⟩, ⟨kM_rf m, rfl, rfl, rfl⟩⟩
    · have ek : (nI k).toNatClampNeg = k := nI_clamp (by omega)
      rw [if_neg h1, if_neg h1, ek, hr]
      have ky : kY z (c_taken_s z (updB (c_taken z) k (m_resv m k))) := ⟨kC_t z _, rfl⟩
      have kz : kZ m (m_held_s m (updB (m_held m) k (m_resv m k))) := ⟨kM_h m _, rfl, rfl, rfl⟩
      have hj' : ∀ j, j < k + 1 → c_taken (c_taken_s z (updB (c_taken z) k (m_resv m k))) j = m_held (m_held_s m (updB (m_held m) k (m_resv m k))) j := by
        intro j h2
        show updB (c_taken z) k (m_resv m k) j = updB (m_held m) k (m_resv m k) j
        unfold updB
        by_cases he : j = k
        · rw [if_pos he, if_pos he]
        · rw [if_neg he, if_neg he]
          exact hj j (by omega)
      obtain ⟨z', m', e1, e2, e3, e4, e5⟩ := ih (c_taken_s z (updB (c_taken z) k (m_resv m k))) (m_held_s m (updB (m_held m) k (m_resv m k))) (k + 1) hr (by omega) (by omega) hj'
      exact ⟨z', m', e1, e2, e3, kY_tr ky e4, kZ_tr kz e5⟩
/-! the relation again, behind placing -/
theorem RF_k {T : Int} {z z' : SC} {m m' : SM} (h : RF T z m) (hc : kC z z') (hm : kM m m') (hy : yq (c_syms z') (m_plc m')) (hA : c_A z') (hmA : m_A m') : RF T z' m' := by
  obtain ⟨c1, c2, c3, c4, c5, c6, c7, c8, c9, c10, c11⟩ := hc
  obtain ⟨m1, m2, m3, m4, m5, m6, m7, m8, m9, m10, m11, m12⟩ := hm
  obtain ⟨s1, s2, s3, s4, s5, s6, s7, s8, s9, s10⟩ := h.1.2.2.2.2.2
  have d1 : c_dist z' = c_dist z := congrArg (·.1) c4
  have d2 : c_distm z' = c_distm z := congrArg (·.2.1) c4
  have d3 : c_nxt z' = c_nxt z := congrArg (·.2.2.1) c4
  have d4 : c_cause z' = c_cause z := congrArg (·.2.2.2.1) c4
  have d5 : c_time z' = c_time z := congrArg (·.2.2.2.2) c4
  have e1 : m_dist m' = m_dist m := congrArg (·.1) m4
  have e2 : m_distm m' = m_distm m := congrArg (·.2.1) m4
  have e3 : m_nxt m' = m_nxt m := congrArg (·.2.2.1) m4
  have e4 : m_fault m' = m_fault m := congrArg (·.2.2.2.1) m4
  have e5 : m_time m' = m_time m := congrArg (·.2.2.2.2) m4
  refine ⟨⟨rD_mv h.1.1 c1 m1, rC_mv h.1.2.1 c2 m2, rP_mv h.1.2.2.1 c3 m3, rX_mv h.1.2.2.2.1 d1 d2 d3 e1 e2 e3, rA_mv h.1.2.2.2.2.1 c5 m5, ⟨?_, ?_, ?_, ?_, ?_, hy, ?_, hA, hmA, ?_⟩⟩, ⟨?_, ?_, ?_⟩, ?_⟩
  · rw [c7, m7, s1]
  · rw [c8, m8, s2]
  · rw [c9, m9, s3]
  · rw [c10, m10, s4]
  · rw [c6, m6, s5]
  · rw [c11, m11, s7]
  · rw [m11, m8]; exact s10
  · rw [d5, e5]; exact h.2.1.1
  · rw [d5]; exact h.2.1.2.1
  · rw [d5]; exact h.2.1.2.2
  · rw [d4, e4]; exact h.2.2
/-! writing the lines to the drum -/
theorem is_rg {o d x : Int32} (ho : fMo_isOperation o = true) (hd : nn d) (hx : nn x) : rg (fDg_instruction o d x) := by
  have hb : 0 ≤ o.toInt ∧ o.toInt ≤ 99 := by
    rcases op_in o with ⟨k, rfl⟩ | h
    · rw [nI_toInt (by omega)]; omega
    · rw [isop_out h] at ho; cases ho
  obtain ⟨d1, d2⟩ := hd
  obtain ⟨x1, x2⟩ := hx
  have a1 : (o.toInt64 * 100000000).toInt = o.toInt * 100000000 := by rw [Kit.i64_mul (by rw [Kit.i64_of_i32, l8]; omega) (by rw [Kit.i64_of_i32, l8]; omega), Kit.i64_of_i32, l8]
  have a2 : (d.toInt64 * 10000).toInt = d.toInt * 10000 := by rw [Kit.i64_mul (by rw [Kit.i64_of_i32, l4]; omega) (by rw [Kit.i64_of_i32, l4]; omega), Kit.i64_of_i32, l4]
  have a3 : ((o.toInt64 * 100000000) + (d.toInt64 * 10000)).toInt = o.toInt * 100000000 + d.toInt * 10000 := by rw [Kit.i64_add (by rw [a1, a2]; omega) (by rw [a1, a2]; omega), a1, a2]
  have a4 : (((o.toInt64 * 100000000) + (d.toInt64 * 10000)) + x.toInt64).toInt = o.toInt * 100000000 + d.toInt * 10000 + x.toInt := by rw [Kit.i64_add (by rw [a3, Kit.i64_of_i32]; omega) (by rw [a3, Kit.i64_of_i32]; omega), a3, Kit.i64_of_i32]
  rw [fDg_instruction.eq_1]
  exact ⟨by rw [a4]; omega, by rw [a4]; omega⟩
def wP (z : SC) (m : SM) : Prop := ∀ i : Nat, (i : Int) < (m_lines m).toInt → c_locs z i = m_ats m i ∧ nn (c_locs z i) ∧ nn (c_dat z i) ∧ nn (c_nexts z i) ∧ fDg_instruction (c_ops z i) (c_dat z i) (c_nexts z i) = m_writ m i
theorem wr_k (m : SM) (a : Int32) (v : Int64) (b : Bool) : m_ats (fMo_write m a v b) = m_ats m ∧ m_writ (fMo_write m a v b) = m_writ m ∧ m_lines (fMo_write m a v b) = m_lines m := by
  rw [write_m]
  exact ⟨rfl, rfl, rfl⟩
theorem wr_lp {T : Int} : ∀ (n : Nat) (z : SC) (m : SM) (k : Nat), RF T z m → wP z m → (k : Int) ≤ (m_lines m).toInt → (m_lines m).toInt - k < n → RF T (fAs_writeTo_2 n z k) (fMo_assemble_240 n m k).2 ∧ m_code (fMo_assemble_240 n m k).2 = m_code m ∧ (fMo_assemble_240 n m k).1 = m_ats m 0 ∧ c_locs (fAs_writeTo_2 n z k) = c_locs z := by
  intro n
  induction n with
  | zero => intro z m k _ _ _ h; omega
  | succ n ih =>
    intro z m k h hw hk hn
    obtain ⟨s1, s2, s3, s4, s5, s6, s7, s8, s9, s10⟩ := h.1.2.2.2.2.2
    have h40 := s9.1.2
    have e0 : ((0 : Int32)).toNatClampNeg = 0 := by decide
    rw [fAs_writeTo_2.eq_2, fMo_assemble_240.eq_2, s7]
    by_cases h1 : m_lines m ≤ nI k
    · rw [if_pos h1, if_pos h1, e0]
      exact ⟨h, rfl, rfl, rfl⟩
    · have ek : (nI k).toNatClampNeg = k := nI_clamp (by omega)
      rw [if_neg h1, if_neg h1, ek]
      rw [Int32.le_iff_toInt_le, nI_toInt (by omega)] at h1
      obtain ⟨x1, x2, x3, x4, x5⟩ := hw k (by omega)
      have hop := s10 k (by omega)
      rw [← s2] at hop
      have hin : vp_in (c_locs z k) 200 := vp_in_iff.mpr ⟨x2.1, x2.2⟩
      have hR := RF_store h hin (is_rg hop x3 x4) false
      rw [← x5, ← x1]
      have hsB := store_s z (c_locs z k) (fDg_instruction (c_ops z k) (c_dat z k) (c_nexts z k)) false
      obtain ⟨q1, q2, q3⟩ := wr_k m (c_locs z k) (fDg_instruction (c_ops z k) (c_dat z k) (c_nexts z k)) false
      have q4 := st_km m (c_locs z k) (fDg_instruction (c_ops z k) (c_dat z k) (c_nexts z k)) false
      generalize fDr_store z (c_locs z k) (fDg_instruction (c_ops z k) (c_dat z k) (c_nexts z k)) false = Z at hR hsB ⊢
      generalize fMo_write m (c_locs z k) (fDg_instruction (c_ops z k) (c_dat z k) (c_nexts z k)) false = M at hR q1 q2 q3 q4 ⊢
      obtain ⟨⟨b1, b2, b3, b4, b5, b6, b7, b8⟩, b9⟩ := hsB
      have hw' : wP Z M := by
        intro i hi
        rw [q3] at hi
        rw [b5, b6, b7, b8, q1, q2]
        exact hw i hi
      obtain ⟨r1, r2, r3, r4⟩ := ih Z M (k + 1) hR hw' (by rw [q3]; omega) (by rw [q3]; omega)
      exact ⟨r1, r2.trans q4, r3.trans (by rw [q1]), r4.trans b5⟩
/-! assembling -/
theorem A_ats {m : SM} (h : m_A m) : m_A (m_ats_s m (upd (m_ats m) (0 : Int32).toNatClampNeg (-1))) := mA_at h pl_m1
theorem qR_0 {m : SM} {f : Nat → Int32} : m_full (m_ats_s m f) = m_full m ∧ m_held (m_ats_s m f) = m_held m ∧ m_plc (m_ats_s m f) = m_plc m ∧ m_lines (m_ats_s m f) = m_lines m ∧ m_ats (m_ats_s m f) = f := ⟨rfl, rfl, rfl, rfl, rfl⟩
theorem mfA (m : SM) (x : Bool) : kM m (m_full_s m x) ∧ m_full (m_full_s m x) = x ∧ m_plc (m_full_s m x) = m_plc m ∧ m_resv (m_full_s m x) = m_resv m ∧ m_ats (m_full_s m x) = m_ats m := ⟨kM_f m x, rfl, rfl, rfl, rfl⟩
theorem A_kM {m m' : SM} (h : m_A m) (hk : kM m m') (ha : m_ats m' = m_ats m) (hp : m_plc m' = m_plc m) : m_A m' := by
  obtain ⟨g1, g2, g3, g4, g5⟩ := ga_M hk
  unfold m_A
  rw [g1, g2, g3, g4, g5, ha, hp]
  exact h
theorem asm_1 {T : Int} {z : SC} {m : SM} (h : RF T z m) (b : Bool) :
    (∃ z' m', fAs_placeAll_12 41 (fAs_markTaken z) b true 0 = (true, z') ∧ fMo_assemble_29 201 (m_full_s m false) b 0 = fMo_assemble_154 m' ∧ RF T z' m' ∧ wP z' m' ∧ m_full m' = false ∧ nd (m_lines m').toInt.toNat m' ∧ m_code m' = m_code m ∧ m_lines m' = m_lines m) ∨
    (∃ z' m', fAs_placeAll_12 41 (fAs_markTaken z) b true 0 = (false, fAs_forgetPlaces z') ∧ fMo_assemble_29 201 (m_full_s m false) b 0 = fMo_assemble_154 m' ∧ kC z z' ∧ kM m m' ∧ c_A z' ∧ m_A m' ∧ (m_full m' = true ∨ ∃ i j : Nat, i < j ∧ (j : Int) < (m_lines m').toInt ∧ m_ats m' i = m_ats m' j)) := by
  obtain ⟨s1, s2, s3, s4, s5, s6, s7, s8, s9, s10⟩ := h.1.2.2.2.2.2
  obtain ⟨n1, n2, n3, n4, n5⟩ := mfA m false
  generalize m_full_s m false = m0 at n1 n2 n3 n4 n5 ⊢
  have hAm := mk_s z
  rw [fAs_markTaken.eq_1] at hAm ⊢
  obtain ⟨z1, m1, e1, e2, e3, e4, e5⟩ := rs_lp b 201 z m0 0 (by rw [n4]; exact s5) (by omega) (by omega) (fun j hj => by omega)
  rw [e1] at hAm
  rw [e1, e2]
  have hs0 : eS z m := ⟨s1, s2, s3, s4, s7⟩
  have hs1 := eS_mv hs0 e4.1 (kM_tr n1 e5.1)
  have hl1 : m_lines m1 = m_lines m := (ga_M (kM_tr n1 e5.1)).2.2.2.2
  obtain ⟨m2, f1, f2, f3, f4⟩ := mk_lp b 41 z1 m1 0 e3 hs1 (by rw [hl1]; exact s9.1.2) (by rw [hl1]; exact s9.1.1) (by rw [hl1]; have := s9.1.2; omega)
  rw [f1]
  have hA2 := A_sB s8 hAm
  generalize fAs_markTaken_29 41 z1 0 = z2 at f2 f3 hA2 ⊢
  have y := kY_tr e4 f3
  have w := kZ_tr e5 f4
  have hk2 := kM_tr n1 w.1
  have hmA2 : m_A m2 := A_kM s9 hk2 (w.2.2.2.trans n5) (w.2.1.trans n3)
  have hf2 : m_full m2 = false := w.2.2.1.trans n2
  have hp2 : m_plc m2 = m_plc m := w.2.1.trans n3
  have e0 : ((0 : Int32)).toNatClampNeg = 0 := by decide
  rw [e0]
  have hk3 := kM_tr hk2 (kM_a m2 (upd (m_ats m2) 0 (-1)))
  have hmA3 : m_A (m_ats_s m2 (upd (m_ats m2) 0 (-1))) := mA_at hmA2 pl_m1
  obtain ⟨v1, v2, v3, v4, v5⟩ := qR_0 (m := m2) (f := upd (m_ats m2) 0 (-1))
  generalize m_ats_s m2 (upd (m_ats m2) 0 (-1)) = m3 at hk3 hmA3 v1 v2 v3 v4 v5 ⊢
  have hl3 : m_lines m3 = m_lines m := (ga_M hk3).2.2.2.2
  have hLR : LR 0 z2 m3 := by
    refine ⟨⟨by rw [v2]; exact f2, by rw [v3, hp2, y.2]; exact s6, v1.trans hf2⟩, eS_mv hs0 y.1 hk3, hA2, hmA3, fun i hi => absurd hi (by omega), fun _ => ?_⟩
    have hg : gv z2 0 = -1 := if_neg (fun e => absurd e.2.1 (by omega))
    rw [v5, upd_at, hg]
  have hr := all_R b 41 41 z2 m3 0 hLR (fun i j _ hj => absurd hj (by omega)) (by rw [hl3]; exact s9.1.1) (by rw [hl3]; have := s9.1.2; omega) (by rw [hl3]; have := s9.1.2; omega)
  rcases hr with ⟨z', m', r1, r2, r3, r4, r5, r6⟩ | ⟨z', m', r1, r2, r3, r4, r5, r6, r7⟩
  · have hlm : m_lines m' = m_lines m := (ga_M (kM_tr hk3 r4)).2.2.2.2
    rw [hl3] at r5 r6
    refine .inl ⟨z', m', r1, r2, RF_k h (kC_tr y.1 r3) (kM_tr hk3 r4) r5.1.2.1 r5.2.2.1 r5.2.2.2.1, fun i hi => ?_, r5.1.2.2, by rw [hlm]; exact r6, (kM_tr hk3 r4).2.2.2.2.2.2.2.2.2.2.2, hlm⟩
    rw [hlm] at hi
    exact r5.2.2.2.2.1 i (by omega)
  · have hlm : m_lines m' = m_lines m3 := (ga_M r4).2.2.2.2
    refine .inr ⟨z', m', r1, r2, kC_tr y.1 r3, kM_tr hk3 r4, r5, r6, ?_⟩
    rw [hlm]
    exact r7
theorem fl_221 {m : SM} (h : m_full m = true) : fMo_assemble_221 m = (0, m_code_s (fMo_forgetPlaces m) 2) := by
  rw [fMo_assemble_221.eq_1, if_pos h]
  rfl
/-- places forgotten on both sides -/
theorem RF_ff {T : Int} {z z' : SC} {m m' : SM} (h : RF T z m) (hc : kC z z') (hm : kM m m') (hA : c_A z') (hmA : m_A m') : RF T (fAs_forgetPlaces z') (fMo_forgetPlaces m') := by
  have hA1 := A_fp hA
  have hk1 := kC_tr hc (kC_fp z')
  have hm1 := mA_fp hmA
  have hk2 : kM m (fMo_forgetPlaces m') := by
    rw [fpm_eq]
    exact kM_tr hm (kM_p _ _)
  have hy : yq (c_syms (fAs_forgetPlaces z')) (m_plc (fMo_forgetPlaces m')) := by
    rw [fp_eq, fpm_eq]
    intro j hj
    show (if j < 20 then (-1 : Int32) else c_syms z' j) = (if j < 20 then (-1 : Int32) else m_plc m' j)
    rw [if_pos hj, if_pos hj]
  exact RF_k h hk1 hk2 hy hA1 hm1
theorem A_full {m : SM} (h : m_A m) (x : Bool) : m_A (m_full_s m x) := h
theorem assemble_R {T : Int} {z : SC} {m : SM} (h : RF T z m) (f : Nat → Int64) (b : Bool) : (fR T (gLa_assemble z f b) (fMo_assemble m b).2 ∧ ((gLa_assemble z f b).1 = 0 → (gLa_assemble z f b).2.2 0 = ((fMo_assemble m b).1).toInt64)) ∧ ((fAs_placeAll z b).1 = true → ¬ m_lines m = 0 → c_A (fAs_placeAll z b).2 ∧ ∀ i, i < 40 → (nI i) < c_acount (fAs_placeAll z b).2 → 0 ≤ (c_locs (fAs_placeAll z b).2 i).toInt) := by
  obtain ⟨s1, s2, s3, s4, s5, s6, s7, s8, s9, s10⟩ := h.1.2.2.2.2.2
  rw [gLa_assemble.eq_1, fMo_assemble.eq_1, fAs_isEmpty.eq_1, s7]
  by_cases h0 : m_lines m = 0
  · rw [if_pos h0, if_pos h0, if_pos rfl]
    exact ⟨⟨⟨RF_code (RF_code h 0) 1, rfl⟩, fun e => (no1 e).elim⟩, fun _ e => absurd h0 e⟩
  · obtain ⟨hfp, hfc⟩ := RF_fp (RF_code h 0)
    have hcode : m_code (fMo_forgetPlaces (m_code_s m 0)) = 0 := hfc
    have hlines : m_lines (fMo_forgetPlaces (m_code_s m 0)) = m_lines m := by rw [fpm_eq]; rfl
    have hpa : fAs_placeAll z b = fAs_placeAll_12 41 (fAs_markTaken (fAs_forgetPlaces z)) b true 0 := fAs_placeAll.eq_1 z b
    have hda : (fAs_placeAll z b).1 = true → fDM_assemble z b = (fAs_firstLocation (fAs_writeTo ((fAs_placeAll z b).2)), fAs_writeTo ((fAs_placeAll z b).2)) := by
      intro e
      rw [fDM_assemble.eq_1, fAs_isEmpty.eq_1, s7, if_neg h0, if_neg (show ¬ false = true by decide), if_pos e]
    rw [if_neg h0, if_neg h0, if_neg (show ¬ false = true by decide)]
    generalize fMo_forgetPlaces (m_code_s m 0) = M at hfp hcode hlines ⊢
    rcases asm_1 hfp b with ⟨z', m', r1, r2, r3, r4, r5, r6, r7, r8⟩ | ⟨z', m', r1, r2, r3, r4, r5, r6, r7⟩
    · rw [← hpa] at r1
      rw [r2, fMo_assemble_154.eq_1]
      have h40 := r3.1.2.2.2.2.2.2.2.2.2.2.2.2.2.1.1
      rw [d_no 41 m' 0 r5 h40.2 h40.1 (by have := h40.2; omega) r6, fMo_assemble_221.eq_1, if_neg (show ¬ m_full m' = true by rw [r5]; decide)]
      have hd := hda (by rw [r1])
      rw [hd, r1, if_pos rfl]
      dsimp only
      obtain ⟨w1, w2, w3, w4⟩ := wr_lp 41 z' m' 0 r3 r4 h40.1 (by have := h40.2; omega)
      have hac : c_acount z' = m_lines m' := r3.1.2.2.2.2.2.2.2.2.2.2.2.1
      refine ⟨⟨⟨w1, (w2.trans r7).trans hcode⟩, fun _ => ?_⟩, fun _ _ => ⟨r3.1.2.2.2.2.2.2.2.2.2.2.2.2.1, fun i hi hlt => ?_⟩⟩
      · show vp_updL f 0 ((fAs_firstLocation (fAs_writeTo z')).toInt64) 0 = ((fMo_assemble_240 41 m' 0).1).toInt64
        have e0 : ((0 : Int32)).toNatClampNeg = 0 := by decide
        have hpos : ((0 : Nat) : Int) < (m_lines m').toInt := by
          have h1 := h40.1
          have h2 : (m_lines m').toInt ≠ 0 := fun e => h0 (by
            rw [← hlines, ← r8]
            exact Int32.toInt_inj.mp (by rw [e]; decide))
          omega
        rw [u0, w3, fAs_firstLocation.eq_1, fAs_writeTo.eq_1, w4, e0, (r4 0 hpos).1]
      · rw [hac, Int32.lt_iff_toInt_lt, nI_toInt (by omega)] at hlt
        exact (r4 i hlt).2.1.1
    · rw [← hpa] at r1
      have key : ∃ m'', fMo_assemble_154 m' = (0, m_code_s (fMo_forgetPlaces m'') 2) ∧ kM M m'' ∧ m_A m'' := by
        rw [fMo_assemble_154.eq_1]
        by_cases hf : m_full m' = true
        · rw [d_full hf, fl_221 hf]
          exact ⟨m', rfl, r4, r6⟩
        · rcases r7 with r7 | ⟨i, j, j1, j2, j3⟩
          · exact absurd r7 hf
          · have h40 := r6.1
            rw [d_dup 41 m' 0 ((Bool.not_eq_true _).mp hf) h40.2 (by have := h40.2; omega) ⟨i, j, j1, by omega, j2, j3⟩, fl_221 rfl]
            exact ⟨m_full_s m' true, rfl, kM_tr r4 (kM_f m' true), A_full r6 true⟩
      obtain ⟨m'', k1, k2, k3⟩ := key
      rw [r2, k1, r1, if_neg (show ¬ false = true by decide)]
      exact ⟨⟨⟨RF_code (RF_ff hfp r3 k2 r5 k3) 2, rfl⟩, fun e => (no2 e).elim⟩, fun e => absurd (show false = true from e) (by decide)⟩
