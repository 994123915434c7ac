/-! ===== a line, on both sides ===== -/
/-- what does not change while the lines are placed -/
def eS (z : SC) (m : SM) : Prop := c_lparts z = m_loc m ∧ c_ops z = m_ops m ∧ c_dparts z = m_dat m ∧ c_nparts z = m_foll m ∧ c_acount z = m_lines m
theorem eS_mv {z z' : SC} {m m' : SM} (h : eS z m) (hc : kC z z') (hm : kM m m') : eS z' m' := by
  obtain ⟨_, _, _, _, _, _, c1, c2, c3, c4, c5⟩ := hc
  obtain ⟨_, _, _, _, _, _, m1, m2, m3, m4, m5, _⟩ := hm
  obtain ⟨s1, s2, s3, s4, s5⟩ := h
  exact ⟨by rw [c1, m1, s1], by rw [c2, m2, s2], by rw [c3, m3, s3], by rw [c4, m4, s4], by rw [c5, m5, s5]⟩
theorem lz : (0 : Int64).toInt = (0 : Int32).toInt := by decide
/-- the place that the line before has given -/
def gv (z : SC) (k : Nat) : Int32 := if c_lparts z k = -1 ∧ 0 < k ∧ c_nparts z (k - 1) = -1 then c_nexts z (k - 1) else -1
theorem loc_R {z : SC} {m : SM} (hq : qR z m) (hs : eS z m) (hA : c_A z) {k : Nat} (hk : k < 40) (b : Bool) (hg : m_ats m k = gv z k) (hn : 0 < k → nn (c_nexts z (k - 1))) : pR (fAs_placeLocation z (nI k) b) (locM m (nI k) (m_ats m k) b) := by
  have ek : (nI k).toNatClampNeg = k := nI_clamp (by omega)
  have eki : (nI k).toInt = k := nI_toInt (by omega)
  rw [fAs_placeLocation.eq_1, ek]
  unfold locM
  rw [ek, hg, ← hs.1]
  by_cases h1 : c_lparts z k = -1
  · rw [if_pos h1]
    by_cases h2 : nI k ≤ 0
    · have hk0 : k = 0 := by
        rw [Int32.le_iff_toInt_le, eki, Int32.toInt_zero] at h2
        omega
      have hgv : gv z k = -1 := if_neg (fun e => by have := e.2.1; omega)
      rw [if_pos h2, hgv, if_pos rfl, if_pos h1]
      exact np_R hq b b00 lz
    · have hk0 : 0 < k := by
        rw [Int32.le_iff_toInt_le, eki, Int32.toInt_zero] at h2
        omega
      have i1 : (1 : Int32).toInt = 1 := by decide
      have em : (nI k - 1).toNatClampNeg = k - 1 := by
        show (nI k - 1).toInt.toNat = k - 1
        rw [Kit.i32_sub (by rw [eki, i1]; omega) (by rw [eki, i1]; omega), eki, i1]
        omega
      rw [if_neg h2, em]
      by_cases h3 : c_nparts z (k - 1) = -1
      · have hnn := hn hk0
        have hne : ¬ c_nexts z (k - 1) = -1 := fun e => by
          rw [e] at hnn
          exact absurd hnn.1 (by decide)
        have hgv : gv z k = c_nexts z (k - 1) := if_pos ⟨h1, hk0, h3⟩
        rw [if_pos h3, hgv, if_neg hne]
        exact .inl ⟨rfl, hnn, hq.1, hq.2.1, hq.2.2⟩
      · have hgv : gv z k = -1 := if_neg (fun e => h3 e.2.2)
        rw [if_neg h3, hgv, if_pos rfl, if_pos h1]
        exact np_R hq b b00 lz
  · have hgv : gv z k = -1 := if_neg (fun e => h1 e.1)
    rw [if_neg h1, hgv, if_pos rfl, if_neg h1]
    exact pp_R hq b (hA.2.1 k hk) h1 b00 lz hA.2.2.2.2.2.2.2
theorem dat_R {z : SC} {m : SM} (hq : qR z m) (hs : eS z m) (hA : c_A z) {k : Nat} (hk : k < 40) (b : Bool) (hl : c_locs z k = m_ats m k) (hn : nn (c_locs z k)) : pR (fAs_placeData z (nI k) b) (datM m (nI k) b (m_ops m k)) := by
  have ek : (nI k).toNatClampNeg = k := nI_clamp (by omega)
  rw [fAs_placeData.eq_1, ek]
  unfold datM
  rw [ek, ← hs.2.2.1, ← hs.2.1]
  by_cases h1 : c_dparts z k = -1
  · rw [if_pos h1, if_pos h1]
    exact .inl ⟨rfl, nn_0, hq.1, hq.2.1, hq.2.2⟩
  · rw [if_neg h1, if_neg h1, (ops_eq (c_ops z k)).2.1]
    by_cases h2 : fMo_shifts (c_ops z k) = true
    · rw [if_pos h2, if_pos h2]
      have hp := (hA.2.2.2.1 k hk).2 (by rw [(ops_eq (c_ops z k)).2.1]; exact h2)
      exact .inl ⟨rfl, nn_of hp h1, hq.1, hq.2.1, hq.2.2⟩
    · rw [if_neg h2, if_neg h2]
      have i1 : (1 : Int32).toInt = 1 := by decide
      have e1 : (c_locs z k + 1).toInt = (c_locs z k).toInt + 1 := by
        have := hn.1
        have := hn.2
        rw [Kit.i32_add (by rw [i1]; omega) (by rw [i1]; omega), i1]
      have e2 : ((m_ats m k).toInt64 + 1).toInt = (c_locs z k).toInt + 1 := by
        have := hn.1
        have := hn.2
        rw [← hl, Kit.i64_add (by rw [Kit.i64_of_i32, c_1]; omega) (by rw [Kit.i64_of_i32, c_1]; omega), Kit.i64_of_i32, c_1]
      refine pp_R hq b (hA.2.2.2.1 k hk).1 h1 ?_ (by rw [e1, e2]) hA.2.2.2.2.2.2.2
      have := hn.1
      have := hn.2
      rw [e1]
      omega
theorem bn_e {z : SC} {m : SM} (hs : eS z m) {k : Nat} (hk : k < 40) (hl : c_locs z k = m_ats m k) (hn : nn (c_locs z k)) (hd : nn (c_dat z k)) : (((if (fMo_reads (m_ops m k) || fMo_writes (m_ops m k)) = true then c_dat z k else m_ats m k).toInt64 + 1) + ((fMo_fixed (m_ops m k) (c_dat z k)).toInt64)).toInt = (fAs_bestForNext z (nI k)).toInt ∧ 0 ≤ (fAs_bestForNext z (nI k)).toInt ∧ (fAs_bestForNext z (nI k)).toInt ≤ 10000 := by
  have ek : (nI k).toNatClampNeg = k := nI_clamp (by omega)
  have i1 : (1 : Int32).toInt = 1 := by decide
  have hf := ft_b (o := c_ops z k) hd.1
  rw [← hs.2.1, ← hl, ← fx_eq, fAs_bestForNext.eq_1, fAs_bestForNext_29.eq_1, fAs_bestForNext_29.eq_1, ek, (ops_eq (c_ops z k)).2.2.2]
  have key : ∀ s : Int32, nn s → ((s.toInt64 + 1) + ((fOp_fixedTime (c_ops z k) (c_dat z k)).toInt64)).toInt = ((s + 1) + fOp_fixedTime (c_ops z k) (c_dat z k)).toInt ∧ 0 ≤ ((s + 1) + fOp_fixedTime (c_ops z k) (c_dat z k)).toInt ∧ ((s + 1) + fOp_fixedTime (c_ops z k) (c_dat z k)).toInt ≤ 10000 := by
    intro s hss
    have s1 := hss.1
    have s2 := hss.2
    generalize fOp_fixedTime (c_ops z k) (c_dat z k) = f at hf ⊢
    have a1 : (s.toInt64 + 1).toInt = s.toInt + 1 := by rw [Kit.i64_add (by rw [Kit.i64_of_i32, c_1]; omega) (by rw [Kit.i64_of_i32, c_1]; omega), Kit.i64_of_i32, c_1]
    have a2 : ((s.toInt64 + 1) + f.toInt64).toInt = s.toInt + 1 + f.toInt := by rw [Kit.i64_add (by rw [a1, Kit.i64_of_i32]; omega) (by rw [a1, Kit.i64_of_i32]; omega), a1, Kit.i64_of_i32]
    have b1 : (s + 1).toInt = s.toInt + 1 := by rw [Kit.i32_add (by rw [i1]; omega) (by rw [i1]; omega), i1]
    have b2 : ((s + 1) + f).toInt = s.toInt + 1 + f.toInt := by rw [Kit.i32_add (by rw [b1]; omega) (by rw [b1]; omega), b1]
    rw [a2, b2]
    omega
  by_cases h : (fMo_reads (c_ops z k) || fMo_writes (c_ops z k)) = true
  · rw [if_pos h, if_pos h]
    exact key _ hd
  · rw [if_neg h, if_neg h]
    exact key _ hn
theorem nx_R {z : SC} {m : SM} (hq : qR z m) (hs : eS z m) (hA : c_A z) {k : Nat} (hk : k < 40) (b : Bool) {v : Int64} (hv : v.toInt = (fAs_bestForNext z (nI k)).toInt) (hb : 0 ≤ (fAs_bestForNext z (nI k)).toInt ∧ (fAs_bestForNext z (nI k)).toInt ≤ 10000) : pR (fAs_placeNext z (nI k) b) (nxM m (nI k) b v) := by
  have ek : (nI k).toNatClampNeg = k := nI_clamp (by omega)
  rw [fAs_placeNext.eq_1, fAs_placeNext_50.eq_1, fAs_placeNext_51.eq_1, fAs_placeNext_51.eq_1, fAs_placeNext_53.eq_1, fAs_placeNext_53.eq_1, if_pos rfl, if_neg (show ¬ false = true by decide), ek]
  unfold nxM ron
  rw [ek, ← hs.2.2.2.1, ← hs.1, ← hs.2.2.2.2]
  have z0 : pR (0, z) (0, m) := .inl ⟨rfl, nn_0, hq.1, hq.2.1, hq.2.2⟩
  by_cases h1 : c_nparts z k = -1
  · rw [if_pos h1, if_pos h1, if_pos h1]
    by_cases h2 : c_acount z ≤ nI k + 1
    · rw [if_pos h2, if_pos h2, if_neg (show ¬ false = true by decide)]
      exact z0
    · rw [if_neg h2, if_neg h2]
      by_cases h3 : c_lparts z (nI k + 1).toNatClampNeg = -1
      · rw [if_pos h3, if_pos h3, if_pos rfl]
        exact np_R hq b hb hv
      · rw [if_neg h3, if_neg h3, if_neg (show ¬ false = true by decide)]
        exact z0
  · rw [if_neg h1, if_neg h1, if_neg h1, if_neg (show ¬ false = true by decide)]
    exact pp_R hq b (hA.2.2.1 k hk) h1 hb hv hA.2.2.2.2.2.2.2
