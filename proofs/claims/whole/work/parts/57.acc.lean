theorem c_acc_acc (z : SC) (w : Acc) : c_acc (c_acc_s z w) = w := rfl
theorem c_acc_ss (z : SC) (w w' : Acc) : c_acc_s (c_acc_s z w) w' = c_acc_s z w' := rfl
theorem c_acc_am (z : SC) (w : Acc) : c_amin (c_acc_s z w) = w.2.2.1 := rfl
theorem m_rnd (m : SM) (u l : Int64) (s o : Bool) : m_lower_s (m_upper_s (m_lower_s (m_acc_s m (u, l, s, o)) ((m_lower (m_acc_s m (u, l, s, o))) + 1)) ((m_upper (m_acc_s m (u, l, s, o))) + (((m_lower (m_acc_s m (u, l, s, o))) + 1) / 10000000000))) (((m_lower (m_acc_s m (u, l, s, o))) + 1) % 10000000000) = m_acc_s m (u + (l + 1) / 10000000000, (l + 1) % 10000000000, s, o) := rfl
theorem srr_both {z : SC} {m : SM} {x : Int32} {X : Nat} (hx : x.toInt = X) (hX1 : 1 ≤ X) (hX : X ≤ 10) (he : c_acc z = m_acc m) (ho : aOk (c_acc z)) : ∃ w, aOk w ∧ fAc_shiftAndRound z x = c_acc_s z w ∧ fMo_shiftRight m x true = m_acc_s m w := by
  obtain ⟨w, h1, h2⟩ := c_sr hx hX ho
  obtain ⟨u', l', v', k1, k2, k3, k4⟩ := m_sr (m := m) true hx hX (by rw [← he]; exact ho)
  have eU : c_upper z = m_upper m := congrArg Prod.fst he
  have eL : c_lower z = m_lower m := congrArg (fun w => w.2.1) he
  have eS : c_amin z = m_amin m := congrArg (fun w => w.2.2.1) he
  have eO : c_ovf z = m_ovf m := congrArg (fun w => w.2.2.2) he
  have hU : rg (m_upper m) := by rw [← eU]; exact ho.1
  have hL : rg (m_lower m) := by rw [← eL]; exact ho.2
  rw [eU, eL, eS, eO] at h2
  have e := aIs_eq h2 (w' := (u', l', m_amin m, m_ovf m)) ⟨k1, k2, rfl, rfl⟩
  obtain ⟨⟨r1, r2⟩, r3, r4⟩ := sr_rg hU.1 hU.2 hL.1 hL.2 X hX
  have hw : aOk w := by
    refine ⟨⟨?_, ?_⟩, ?_, ?_⟩
    · rw [h2.1]; exact r1
    · rw [h2.1]; exact r2
    · rw [h2.2.1]; exact r3
    · rw [h2.2.1]; exact r4
  -- the digit that was lost last
  obtain ⟨Y, rfl⟩ : ∃ Y, X = Y + 1 := ⟨X - 1, by omega⟩
  have e1 : (1 : Int32).toInt = 1 := by decide
  have hx1 : (x - 1).toInt = (Y : Int) := by
    rw [Kit.i32_sub (by rw [hx, e1]; omega) (by rw [hx, e1]; omega), hx, e1]
    omega
  have hp := pow_at (x := x - 1) hx1 (by omega)
  have p0 := (p10_rg Y (by omega)).1
  have hdg : (fDg_digitAt (c_lower z) (x - 1)).toInt = lst (m_lower m).toInt (Y + 1) := by
    rw [fDg_digitAt.eq_1, eL]
    have f1 : (m_lower m / fDg_powerOfTen (x - 1)).toInt = (m_lower m).toInt / 10 ^ Y := by rw [l_div hL.1 (by rw [hp]; exact p0), hp]
    have f2 : (m_lower m / fDg_powerOfTen (x - 1) % 10).toInt = (m_lower m).toInt / 10 ^ Y % 10 := by
      rw [l_mod (by rw [f1]; exact Int.ediv_nonneg hL.1 (by omega)), f1, c_10]
    rw [Kit.i32_of_i64 (by rw [f2]; omega) (by rw [f2]; omega), f2]
    rfl
  have hvd : fDg_digitAt (c_lower z) (x - 1) = v' := Int32.toInt_inj.mp (hdg.trans k3.symm)
  have e5 : (5 : Int32).toInt = 5 := by decide
  rw [fAc_shiftAndRound.eq_1, hvd, fAc_shiftAndRound_11.eq_1, k4]
  unfold msrE
  rw [if_pos rfl]
  by_cases hc : v' < (5 : Int32)
  · have hc2 : ¬ (5 : Int32) ≤ v' := by
      rw [Int32.lt_iff_toInt_lt, e5] at hc
      rw [Int32.le_iff_toInt_le, e5]
      omega
    rw [if_pos hc, if_neg hc2]
    exact ⟨w, hw, h1, by rw [e]⟩
  · have hc2 : (5 : Int32) ≤ v' := by
      rw [Int32.lt_iff_toInt_lt, e5] at hc
      rw [Int32.le_iff_toInt_le, e5]
      omega
    rw [if_neg hc, if_pos hc2, h1, c_acc_am, m_rnd]
    have g0 : rg (0 : Int64) := ⟨by decide, by decide⟩
    have g1 : rg (1 : Int64) := ⟨by decide, by decide⟩
    obtain ⟨w2, a1, a2⟩ := c_add (z := c_acc_s z w) w.2.2.1 (by rw [c_acc_acc]; exact hw) g0 g1
    have ar := add_rg w 0 1 w.2.2.1 hw g0 g1
    rw [c_acc_acc] at a2
    rw [c_acc_ss] at a1
    have hu9 : u'.toInt < 1000000000 := by
      rw [k1]
      have h9 : Y = 0 ∨ Y = 1 ∨ Y = 2 ∨ Y = 3 ∨ Y = 4 ∨ Y = 5 ∨ Y = 6 ∨ Y = 7 ∨ Y = 8 ∨ Y = 9 := by omega
      have hU2 := hU.2
      have hU1 := hU.1
      rcases h9 with rfl | rfl | rfl | rfl | rfl | rfl | rfl | rfl | rfl | rfl <;> (simp only [Nat.reduceAdd, Int.reducePow]; omega)
    have q1 : (l' + 1).toInt = l'.toInt + 1 := by rw [Kit.i64_add (by rw [c_1, k2]; omega) (by rw [c_1, k2]; omega), c_1]
    have q2 : ((l' + 1) / 10000000000).toInt = (l'.toInt + 1) / 10000000000 := by rw [l_div (by rw [q1, k2]; omega) (by rw [c_T]; omega), q1, c_T]
    have q3 : ((l' + 1) % 10000000000).toInt = (l'.toInt + 1) % 10000000000 := by rw [l_mod (by rw [q1, k2]; omega), q1, c_T]
    have hu0 : 0 ≤ u'.toInt := by rw [k1]; exact r1
    have hl0 : 0 ≤ l'.toInt ∧ l'.toInt < 10000000000 := by rw [k2]; exact ⟨r3, r4⟩
    have q4 : (u' + (l' + 1) / 10000000000).toInt = u'.toInt + (l'.toInt + 1) / 10000000000 := by
      rw [Kit.i64_add (by rw [q2]; omega) (by rw [q2]; omega), q2]
    have hT : aT w = u'.toInt * 10000000000 + l'.toInt := by rw [e]; rfl
    have c0 : (0 : Int64).toInt * 10000000000 + (1 : Int64).toInt = 1 := by decide
    have e2 : w2 = (u' + (l' + 1) / 10000000000, (l' + 1) % 10000000000, m_amin m, m_ovf m) := by
      refine aIs_eq a2 ⟨?_, ?_, ?_, ?_⟩
      · show (u' + (l' + 1) / 10000000000).toInt = _
        unfold addU
        rw [if_pos rfl, c0, hT, q4]; omega
      · show ((l' + 1) % 10000000000).toInt = _
        unfold addL
        rw [if_pos rfl, c0, hT, q3]; omega
      · show m_amin m = _
        unfold addS
        rw [if_pos rfl, e]
      · show m_ovf m = _
        unfold addO
        rw [if_pos rfl, c0, hT, decide_eq_false (by omega), Bool.or_false, e]
    refine ⟨w2, ⟨⟨?_, ?_⟩, ?_, ?_⟩, a1, by rw [e2]⟩
    · rw [a2.1]; exact ar.1.1
    · rw [a2.1]; exact ar.1.2
    · rw [a2.2.1]; exact ar.2.1
    · rw [a2.2.1]; exact ar.2.2
