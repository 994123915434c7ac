theorem m187 (z : SM) (s1 : Bool) {x y x' y' : Int64} (hx : rg x) (hy : rg y) (hx' : rg x') (hy' : rg y') (h : x'.toInt * 10000000000 + y'.toInt ≤ x.toInt * 10000000000 + y.toInt) :
    ∃ w, fMo_add_187 z s1 x y x' y' = m_acc_s z w ∧ aIs w ((x.toInt * 10000000000 + y.toInt - (x'.toInt * 10000000000 + y'.toInt)) / 10000000000) ((x.toInt * 10000000000 + y.toInt - (x'.toInt * 10000000000 + y'.toInt)) % 10000000000) s1 (m_ovf z) := by
  obtain ⟨a1, a2⟩ := hx
  obtain ⟨b1, b2⟩ := hy
  obtain ⟨c1, c2⟩ := hx'
  obtain ⟨d1, d2⟩ := hy'
  have e1 : (x - x').toInt = x.toInt - x'.toInt := Kit.i64_sub (by omega) (by omega)
  have e2 : (y - y').toInt = y.toInt - y'.toInt := Kit.i64_sub (by omega) (by omega)
  rw [fMo_add_187.eq_1, fMo_add_208.eq_1]
  by_cases hn : 0 ≤ m_lower (m_upper_s (m_lower_s (m_amin_s z s1) (y - y')) (x - x'))
  · rw [if_pos hn]
    have hn2 : 0 ≤ y - y' := hn
    rw [Int64.le_iff_toInt_le, c_0, e2] at hn2
    refine ⟨(x - x', y - y', s1, m_ovf z), rfl, ?_, ?_, rfl, rfl⟩
    · show (x - x').toInt = _
      rw [e1]; omega
    · show (y - y').toInt = _
      rw [e2]; omega
  · rw [if_neg hn]
    have hn2 : ¬ 0 ≤ y - y' := hn
    rw [Int64.le_iff_toInt_le, c_0, e2] at hn2
    refine ⟨(x - x' - 1, y - y' + 10000000000, s1, m_ovf z), rfl, ?_, ?_, rfl, rfl⟩
    · show (x - x' - 1).toInt = _
      rw [Kit.i64_sub (by rw [e1, c_1]; omega) (by rw [e1, c_1]; omega), e1, c_1]; omega
    · show (y - y' + 10000000000).toInt = _
      rw [Kit.i64_add (by rw [e2, c_T]; omega) (by rw [e2, c_T]; omega), e2, c_T]; omega
theorem m105 (z : SM) (u w : Int64) (b : Bool) : fMo_add_105 z u w b = fMo_add_187 z (m_amin z) (m_upper z) (m_lower z) u w := rfl
theorem m109 (z : SM) (u w : Int64) (b : Bool) : fMo_add_109 z u w b = fMo_add_187 z b u w (m_upper z) (m_lower z) := rfl
theorem m_add {z : SM} {u v : Int64} (b : Bool) (ho : aOk (m_acc z)) (hu : rg u) (hv : rg v) :
    ∃ w, fMo_add z u v b = m_acc_s z w ∧ aIs w (addU (m_acc z) u v b) (addL (m_acc z) u v b) (addS (m_acc z) u v b) (addO (m_acc z) u v b) := by
  have hoU : rg (m_upper z) := ho.1
  have hoL : rg (m_lower z) := ho.2
  obtain ⟨hU1, hU2⟩ := id hoU
  obtain ⟨hL1, hL2⟩ := id hoL
  obtain ⟨hu1, hu2⟩ := id hu
  obtain ⟨hv1, hv2⟩ := id hv
  have eT : aT (m_acc z) = (m_upper z).toInt * 10000000000 + (m_lower z).toInt := rfl
  rw [fMo_add.eq_1]
  unfold addU addL addS addO
  by_cases hb : b = m_amin z
  · have hb' : (m_acc z).2.2.1 = b := hb.symm
    rw [if_pos hb, if_pos hb', if_pos hb', if_pos hb', if_pos hb']
    have s1 : (m_lower z + v).toInt = (m_lower z).toInt + v.toInt := Kit.i64_add (by omega) (by omega)
    have s2 : ((m_lower z + v) / 10000000000).toInt = ((m_lower z).toInt + v.toInt) / 10000000000 := by
      rw [l_div (by rw [s1]; omega) (by rw [c_T]; omega), s1, c_T]
    have s3 : ((m_lower z + v) % 10000000000).toInt = ((m_lower z).toInt + v.toInt) % 10000000000 := by
      rw [l_mod (by rw [s1]; omega), s1, c_T]
    have s4 : (m_upper z + u).toInt = (m_upper z).toInt + u.toInt := Kit.i64_add (by omega) (by omega)
    have s5 : (m_upper z + u + (m_lower z + v) / 10000000000).toInt = (m_upper z).toInt + u.toInt + ((m_lower z).toInt + v.toInt) / 10000000000 := by
      rw [Kit.i64_add (by rw [s4, s2]; omega) (by rw [s4, s2]; omega), s4, s2]
    have s6 : ((m_upper z + u + (m_lower z + v) / 10000000000) % 10000000000).toInt = ((m_upper z).toInt + u.toInt + ((m_lower z).toInt + v.toInt) / 10000000000) % 10000000000 := by
      rw [l_mod (by rw [s5]; omega), s5, c_T]
    rw [fMo_add_42.eq_1]
    have key : ∀ o : Bool, aIs ((m_upper z + u + (m_lower z + v) / 10000000000) % 10000000000, (m_lower z + v) % 10000000000, m_amin z, o) ((aT (m_acc z) + (u.toInt * 10000000000 + v.toInt)) / 10000000000 % 10000000000) ((aT (m_acc z) + (u.toInt * 10000000000 + v.toInt)) % 10000000000) (m_amin z) o := by
      intro o
      refine ⟨?_, ?_, rfl, rfl⟩
      · show ((m_upper z + u + (m_lower z + v) / 10000000000) % 10000000000).toInt = _
        rw [s6, eT]; omega
      · show ((m_lower z + v) % 10000000000).toInt = _
        rw [s3, eT]; omega
    by_cases ho2 : m_ovf (m_lower_s z ((m_lower z + v) % 10000000000)) = true
    · rw [if_pos ho2]
      have ho3 : m_ovf z = true := ho2
      refine ⟨((m_upper z + u + (m_lower z + v) / 10000000000) % 10000000000, (m_lower z + v) % 10000000000, m_amin z, true), rfl, ?_⟩
      have e : ((m_acc z).2.2.2 || decide (100000000000000000000 ≤ aT (m_acc z) + (u.toInt * 10000000000 + v.toInt))) = true := by
        show (m_ovf z || _) = true
        rw [ho3, Bool.true_or]
      rw [e]
      exact key true
    · rw [if_neg ho2]
      have ho3 : m_ovf z = false := by
        cases h9 : m_ovf z with
        | true => exact absurd h9 ho2
        | false => rfl
      have e0 : (m_acc z).2.2.2 = false := ho3
      rw [e0, Bool.false_or]
      by_cases hc : (m_upper z + u + (m_lower z + v) / 10000000000) < 10000000000
      · have hc2 := hc
        rw [Int64.lt_iff_toInt_lt, s5, c_T] at hc2
        rw [if_pos hc]
        refine ⟨((m_upper z + u + (m_lower z + v) / 10000000000) % 10000000000, (m_lower z + v) % 10000000000, m_amin z, false), rfl, ?_⟩
        rw [decide_eq_false (by rw [eT]; omega)]
        exact key false
      · have hc2 := hc
        rw [Int64.lt_iff_toInt_lt, s5, c_T] at hc2
        rw [if_neg hc]
        refine ⟨((m_upper z + u + (m_lower z + v) / 10000000000) % 10000000000, (m_lower z + v) % 10000000000, m_amin z, true), rfl, ?_⟩
        rw [decide_eq_true (by rw [eT]; omega)]
        exact key true
  · have hb' : ¬ (m_acc z).2.2.1 = b := fun h => hb h.symm
    rw [if_neg hb, if_neg hb', if_neg hb', if_neg hb', if_neg hb']
    by_cases hc : u.toInt * 10000000000 + v.toInt ≤ aT (m_acc z)
    · rw [if_pos hc, if_pos hc, if_pos hc]
      rw [eT] at hc
      obtain ⟨w, h1, h2⟩ := m187 z (m_amin z) (x := m_upper z) (y := m_lower z) (x' := u) (y' := v) hoU hoL hu hv hc
      refine ⟨w, ?_, h2⟩
      by_cases k1 : u < m_upper z
      · rw [if_pos k1, m105]; exact h1
      · have k1' := k1
        rw [Int64.lt_iff_toInt_lt] at k1'
        have k2 : m_upper z = u := Int64.toInt_inj.mp (by omega)
        have k2' : (m_upper z).toInt = u.toInt := by rw [k2]
        rw [if_neg k1, if_pos k2, if_neg (by rw [Int64.lt_iff_toInt_lt]; omega), m105]; exact h1
    · rw [if_neg hc, if_neg hc, if_neg hc]
      rw [eT] at hc
      obtain ⟨w, h1, h2⟩ := m187 z b (x := u) (y := v) (x' := m_upper z) (y' := m_lower z) hu hv hoU hoL (by omega)
      refine ⟨w, ?_, h2⟩
      have k1 : ¬ u < m_upper z := by rw [Int64.lt_iff_toInt_lt]; omega
      rw [if_neg k1]
      by_cases k2 : m_upper z = u
      · have k2' : (m_upper z).toInt = u.toInt := by rw [k2]
        rw [if_pos k2, if_pos (by rw [Int64.lt_iff_toInt_lt]; omega), m109]; exact h1
      · rw [if_neg k2, m109]; exact h1
/-- both add alike, and stay within ten digits -/
theorem add_rg (w : Acc) (u v : Int64) (b : Bool) (ho : aOk w) (hu : rg u) (hv : rg v) : (0 ≤ addU w u v b ∧ addU w u v b < 10000000000) ∧ (0 ≤ addL w u v b ∧ addL w u v b < 10000000000) := by
  obtain ⟨⟨a1, a2⟩, b1, b2⟩ := ho
  obtain ⟨c1, c2⟩ := hu
  obtain ⟨d1, d2⟩ := hv
  unfold addU addL aT
  by_cases hb : w.2.2.1 = b
  · rw [if_pos hb, if_pos hb]; omega
  · rw [if_neg hb, if_neg hb]
    by_cases hc : u.toInt * 10000000000 + v.toInt ≤ w.1.toInt * 10000000000 + w.2.1.toInt
    · rw [if_pos hc, if_pos hc]; omega
    · rw [if_neg hc, if_neg hc]; omega
theorem add_both {z : SC} {m : SM} {u v : Int64} (b : Bool) (he : c_acc z = m_acc m) (ho : aOk (c_acc z)) (hu : rg u) (hv : rg v) : ∃ w, aOk w ∧ fAc_add z u v b = c_acc_s z w ∧ fMo_add m u v b = m_acc_s m w := by
  obtain ⟨w, h1, h2⟩ := c_add b ho hu hv
  obtain ⟨w', k1, k2⟩ := m_add (z := m) b (by rw [← he]; exact ho) hu hv
  rw [← he] at k2
  have e := aIs_eq h2 k2
  have r := add_rg (c_acc z) u v b ho hu hv
  refine ⟨w, ⟨⟨?_, ?_⟩, ?_, ?_⟩, h1, by rw [e]; exact k1⟩
  · rw [h2.1]; exact r.1.1
  · rw [h2.1]; exact r.1.2
  · rw [h2.2.1]; exact r.2.1
  · rw [h2.2.1]; exact r.2.2
