/-! division -/
theorem dig_step {L : Int} (h1 : 0 ≤ L) (h2 : L < 10000000000) : ∀ k : Nat, k < 10 →
    (L % 10 ^ (10 - k)) * 10 ^ k / 1000000000 = L / (1000000000 / 10 ^ k) % 10 ∧ (L % 10 ^ (10 - k)) * 10 ^ k % 1000000000 * 10 = (L % 10 ^ (10 - (k + 1))) * 10 ^ (k + 1) ∧ (1000000000 / 10 ^ k : Int) / 10 = 1000000000 / 10 ^ (k + 1) ∧ (0 : Int) < 1000000000 / 10 ^ k ∧ 0 ≤ (L % 10 ^ (10 - k)) * 10 ^ k ∧ (L % 10 ^ (10 - k)) * 10 ^ k < 10000000000 := by
  intro k hk
  have h9 : k = 0 ∨ k = 1 ∨ k = 2 ∨ k = 3 ∨ k = 4 ∨ k = 5 ∨ k = 6 ∨ k = 7 ∨ k = 8 ∨ k = 9 := by omega
  rcases h9 with rfl | rfl | rfl | rfl | rfl | rfl | rfl | rfl | rfl | rfl <;> (refine ⟨?_, ?_, ?_, ?_, ?_, ?_⟩ <;> first | decide | (simp only [Nat.reduceSub, Nat.reduceAdd, Int.reducePow, Int.reduceDiv]; omega))
theorem c_9 : (1000000000 : Int64).toInt = 1000000000 := by decide
theorem c_10 : (10 : Int64).toInt = 10 := by decide
theorem div_num {r v d : Int} (hv : 0 < v) (h0 : 0 ≤ r) (h1 : r < v) (h2 : 0 ≤ d) (h3 : d ≤ 9) : 0 ≤ (10 * r + d) / v ∧ (10 * r + d) / v ≤ 9 ∧ 0 ≤ (10 * r + d) % v ∧ (10 * r + d) % v < v := by
  refine ⟨Int.ediv_nonneg (by omega) (by omega), ?_, Int.emod_nonneg _ (by omega), Int.emod_lt_of_pos _ hv⟩
  have h4 : (10 * r + d) / v < 10 := Int.ediv_lt_of_lt_mul hv (by omega)
  omega
theorem div_loop (z : SC) (m : SM) (v : Int64) (b : Bool) (hv : 0 < v.toInt) (hv2 : v.toInt ≤ 10000000000) (hs : c_amin z = m_amin m) (hL : 0 ≤ (m_lower m).toInt ∧ (m_lower m).toInt < 10000000000) : ∀ (n k : Nat) (r bl qt un : Int64), k + n = 11 → k ≤ 10 → 0 ≤ r.toInt → r.toInt < v.toInt → 0 ≤ qt.toInt → qt.toInt < 10 ^ k → bl.toInt = ((m_lower m).toInt % 10 ^ (10 - k)) * 10 ^ k → un.toInt = 1000000000 / 10 ^ k →
    ∃ (r' q' : Int64) (s : Bool), (0 ≤ r'.toInt ∧ r'.toInt < v.toInt) ∧ rg q' ∧ fAc_divide_40 n z v b r bl qt k = (true, c_acc_s z (r', q', s, c_ovf z)) ∧ fMo_divide_17 n m v b r qt un k = m_acc_s m (r', q', s, m_ovf m) := by
  intro n
  induction n with
  | zero => intro k r bl qt un h1 h2; omega
  | succ n ih =>
    intro k r bl qt un h1 h2 hr1 hr2 hq1 hq2 hb hu
    rw [fAc_divide_40.eq_2, fMo_divide_17.eq_2]
    by_cases hk : 10 ≤ k
    · have hk2 : k = 10 := by omega
      subst hk2
      rw [if_pos (Nat.le_refl 10), if_pos (Nat.le_refl 10)]
      have hq3 : qt.toInt < 10000000000 := by simpa using hq2
      by_cases hc : c_amin z = b
      · rw [if_pos hc, if_pos (hs ▸ hc)]
        exact ⟨r, qt, false, ⟨hr1, hr2⟩, ⟨hq1, hq3⟩, rfl, rfl⟩
      · rw [if_neg hc, if_neg (fun h => hc (hs.trans h))]
        exact ⟨r, qt, true, ⟨hr1, hr2⟩, ⟨hq1, hq3⟩, rfl, rfl⟩
    · have hk2 : k < 10 := by omega
      rw [if_neg hk, if_neg hk]
      obtain ⟨d1, d2, d3, d4, d5, d6⟩ := dig_step hL.1 hL.2 k hk2
      have g1 : (bl / 1000000000).toInt = (m_lower m).toInt / (1000000000 / 10 ^ k) % 10 := by
        rw [l_div (by rw [hb]; exact d5) (by rw [c_9]; omega), hb, c_9, d1]
      have g2 : (m_lower m / un).toInt = (m_lower m).toInt / (1000000000 / 10 ^ k) := by
        rw [l_div hL.1 (by rw [hu]; exact d4), hu]
      have g20 : 0 ≤ (m_lower m).toInt / (1000000000 / 10 ^ k) := Int.ediv_nonneg hL.1 (by omega)
      have g3 : (m_lower m / un % 10).toInt = (m_lower m).toInt / (1000000000 / 10 ^ k) % 10 := by
        rw [l_mod (by rw [g2]; exact g20), g2, c_10]
      generalize hd : (m_lower m).toInt / (1000000000 / 10 ^ k) % 10 = d at g1 g3
      have hd0 : 0 ≤ d ∧ d ≤ 9 := by omega
      have e0 : bl / 1000000000 = m_lower m / un % 10 := Int64.toInt_inj.mp (g1.trans g3.symm)
      have f1 : (10 * r).toInt = 10 * r.toInt := by
        rw [Kit.i64_mul (by rw [c_10]; omega) (by rw [c_10]; omega), c_10]
      have f2 : (r * 10).toInt = 10 * r.toInt := by
        rw [Kit.i64_mul (by rw [c_10]; omega) (by rw [c_10]; omega), c_10]; omega
      have f3 : (10 * r + m_lower m / un % 10).toInt = 10 * r.toInt + d := by
        rw [Kit.i64_add (by rw [f1, g3]; omega) (by rw [f1, g3]; omega), f1, g3]
      have e1 : r * 10 + bl / 1000000000 = 10 * r + m_lower m / un % 10 := by
        rw [e0, Int64.toInt_inj.mp (f2.trans f1.symm)]
      obtain ⟨w1, w2, w3, w4⟩ := div_num hv hr1 hr2 hd0.1 hd0.2
      have f4 : ((10 * r + m_lower m / un % 10) / v).toInt = (10 * r.toInt + d) / v.toInt := by
        rw [l_div (by rw [f3]; omega) hv, f3]
      have f5 : ((10 * r + m_lower m / un % 10) % v).toInt = (10 * r.toInt + d) % v.toInt := by
        rw [l_mod (by rw [f3]; omega), f3]
      have hqb : qt.toInt < 1000000000 := by
        have h9 : k = 0 ∨ k = 1 ∨ k = 2 ∨ k = 3 ∨ k = 4 ∨ k = 5 ∨ k = 6 ∨ k = 7 ∨ k = 8 ∨ k = 9 := by omega
        rcases h9 with rfl | rfl | rfl | rfl | rfl | rfl | rfl | rfl | rfl | rfl <;> (simp only [Int.reducePow] at hq2; omega)
      have p1 : (10 * qt).toInt = 10 * qt.toInt := by
        rw [Kit.i64_mul (by rw [c_10]; omega) (by rw [c_10]; omega), c_10]
      have p2 : (qt * 10).toInt = 10 * qt.toInt := by
        rw [Kit.i64_mul (by rw [c_10]; omega) (by rw [c_10]; omega), c_10]; omega
      have p3 : (10 * qt + (10 * r + m_lower m / un % 10) / v).toInt = 10 * qt.toInt + (10 * r.toInt + d) / v.toInt := by
        rw [Kit.i64_add (by rw [p1, f4]; omega) (by rw [p1, f4]; omega), p1, f4]
      rw [e1, Int64.toInt_inj.mp (p2.trans p1.symm)]
      have hb2 : (bl % 1000000000 * 10).toInt = ((m_lower m).toInt % 10 ^ (10 - (k + 1))) * 10 ^ (k + 1) := by
        have hbm : (bl % 1000000000).toInt = bl.toInt % 1000000000 := by rw [l_mod (by rw [hb]; exact d5), c_9]
        rw [Kit.i64_mul (by rw [hbm, c_10]; omega) (by rw [hbm, c_10]; omega), hbm, c_10, hb, d2]
      have hu2 : (un / 10).toInt = 1000000000 / 10 ^ (k + 1) := by
        rw [l_div (by rw [hu]; omega) (by rw [c_10]; omega), hu, c_10, d3]
      have hq3 : 10 * qt.toInt + (10 * r.toInt + d) / v.toInt < 10 ^ (k + 1) := by
        have e : (10 : Int) ^ (k + 1) = 10 * 10 ^ k := by rw [Int.pow_succ, Int.mul_comm]
        rw [e]
        omega
      exact ih (k + 1) _ _ _ _ (by omega) (by omega) (by rw [f5]; exact w3) (by rw [f5]; exact w4) (by rw [p3]; omega) (by rw [p3]; exact hq3) hb2 hu2
theorem div_both {z : SC} {m : SM} {v : Int64} (b : Bool) (he : c_acc z = m_acc m) (ho : aOk (c_acc z)) (hv : 0 < v.toInt) (hv2 : v.toInt ≤ 10000000000) (hlt : (c_upper z).toInt < v.toInt) :
    ∃ w, aOk w ∧ fAc_divide z v b = (true, c_acc_s z w) ∧ fMo_divide m v b = m_acc_s m w := by
  have eU : c_upper z = m_upper m := congrArg Prod.fst he
  have eL : c_lower z = m_lower m := congrArg (fun w => w.2.1) he
  have eS : c_amin z = m_amin m := congrArg (fun w => w.2.2.1) he
  have eO : c_ovf z = m_ovf m := congrArg (fun w => w.2.2.2) he
  have hL : 0 ≤ (m_lower m).toInt ∧ (m_lower m).toInt < 10000000000 := by rw [← eL]; exact ho.2
  have hU : 0 ≤ (c_upper z).toInt := ho.1.1
  have hbl : (c_lower z).toInt = ((m_lower m).toInt % 10 ^ (10 - 0)) * 10 ^ 0 := by
    rw [eL]
    simp only [Nat.reduceSub, Int.reducePow]
    omega
  obtain ⟨r, q, s, h1, h2, h3, h4⟩ := div_loop z m v b hv hv2 eS hL 11 0 (c_upper z) (c_lower z) 0 1000000000 rfl (by decide) hU hlt (by decide) (by decide) hbl (by rw [c_9]; decide)
  refine ⟨(r, q, s, c_ovf z), ⟨⟨h1.1, ?_⟩, h2⟩, ?_, ?_⟩
  · show r.toInt < 10000000000
    omega
  · rw [fAc_divide.eq_1, if_neg (by rw [Int64.le_iff_toInt_le, c_0]; omega), if_pos (by rw [Int64.lt_iff_toInt_lt]; exact hlt)]
    exact h3
  · rw [fMo_divide.eq_1, ← eU, eO]
    exact h4
