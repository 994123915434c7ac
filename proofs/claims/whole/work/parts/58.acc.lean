def slU (U L : Int) (k : Nat) : Int := (U % 10 ^ (10 - k)) * 10 ^ k + L / 10 ^ (10 - k)
def slL (L : Int) (k : Nat) : Int := (L % 10 ^ (10 - k)) * 10 ^ k
theorem sl_step {U L : Int} (h1 : 0 ≤ U) (h2 : U < 10000000000) (h3 : 0 ≤ L) (h4 : L < 10000000000) : ∀ k : Nat, k < 10 →
    slU U L k * 10 % 10000000000 + slL L k / 1000000000 = slU U L (k + 1) ∧ slL L k * 10 % 10000000000 = slL L (k + 1) := by
  intro k hk
  have h9 : k = 0 ∨ k = 1 ∨ k = 2 ∨ k = 3 ∨ k = 4 ∨ k = 5 ∨ k = 6 ∨ k = 7 ∨ k = 8 ∨ k = 9 := by omega
  unfold slU slL
  rcases h9 with rfl | rfl | rfl | rfl | rfl | rfl | rfl | rfl | rfl | rfl <;> (refine ⟨?_, ?_⟩ <;> (simp only [Nat.reduceSub, Nat.reduceAdd, Int.reducePow]; omega))
theorem sl_rg {U L : Int} (h1 : 0 ≤ U) (h2 : U < 10000000000) (h3 : 0 ≤ L) (h4 : L < 10000000000) : ∀ k : Nat, k ≤ 10 → (0 ≤ slU U L k ∧ slU U L k < 10000000000) ∧ 0 ≤ slL L k ∧ slL L k < 10000000000 := by
  intro k hk
  have h9 : k = 0 ∨ k = 1 ∨ k = 2 ∨ k = 3 ∨ k = 4 ∨ k = 5 ∨ k = 6 ∨ k = 7 ∨ k = 8 ∨ k = 9 ∨ k = 10 := by omega
  unfold slU slL
  rcases h9 with rfl | rfl | rfl | rfl | rfl | rfl | rfl | rfl | rfl | rfl | rfl <;> (refine ⟨⟨?_, ?_⟩, ?_, ?_⟩ <;> (simp only [Nat.reduceSub, Int.reducePow]; omega))
theorem p10_mul2 {a : Int} {k : Nat} (hk : k ≤ 10) (h0 : 0 ≤ a) (h1 : a < 10 ^ (10 - k)) : 0 ≤ a * 10 ^ k ∧ a * 10 ^ k < 10000000000 := by
  have h9 : k = 0 ∨ k = 1 ∨ k = 2 ∨ k = 3 ∨ k = 4 ∨ k = 5 ∨ k = 6 ∨ k = 7 ∨ k = 8 ∨ k = 9 ∨ k = 10 := by omega
  rcases h9 with rfl | rfl | rfl | rfl | rfl | rfl | rfl | rfl | rfl | rfl | rfl <;> (simp only [Nat.reduceSub, Int.reducePow] at h1 ⊢; omega)
theorem c_sl {z : SC} {x : Int32} {k : Nat} (hx : x.toInt = k) (hk : k ≤ 10) (ho : aOk (c_acc z)) :
    ∃ w, fAc_shiftLeft z x = c_acc_s z w ∧ aIs w (slU (c_upper z).toInt (c_lower z).toInt k) (slL (c_lower z).toInt k) (c_amin z) (c_ovf z) := by
  obtain ⟨⟨hU1, hU2⟩, hL1, hL2⟩ := ho
  have hU1 : 0 ≤ (c_upper z).toInt := hU1
  have hU2 : (c_upper z).toInt < 10000000000 := hU2
  have hL1 : 0 ≤ (c_lower z).toInt := hL1
  have hL2 : (c_lower z).toInt < 10000000000 := hL2
  have hp := pow_at hx hk
  have hq := pow_co hx hk
  have q0 := (p10_rg (10 - k) (by omega)).1
  have e1 : (c_upper z % fDg_powerOfTen (10 - x)).toInt = (c_upper z).toInt % 10 ^ (10 - k) := by rw [l_mod hU1, hq]
  have e2 : (c_lower z % fDg_powerOfTen (10 - x)).toInt = (c_lower z).toInt % 10 ^ (10 - k) := by rw [l_mod hL1, hq]
  have e3 : (c_lower z / fDg_powerOfTen (10 - x)).toInt = (c_lower z).toInt / 10 ^ (10 - k) := by rw [l_div hL1 (by rw [hq]; exact q0), hq]
  have m1 := p10_mul2 hk (Int.emod_nonneg (c_upper z).toInt (by omega)) (Int.emod_lt_of_pos (c_upper z).toInt q0)
  have m2 := p10_mul2 hk (Int.emod_nonneg (c_lower z).toInt (by omega)) (Int.emod_lt_of_pos (c_lower z).toInt q0)
  have e4 : (c_upper z % fDg_powerOfTen (10 - x) * fDg_powerOfTen x).toInt = (c_upper z).toInt % 10 ^ (10 - k) * 10 ^ k := by
    rw [Kit.i64_mul (by rw [e1, hp]; omega) (by rw [e1, hp]; omega), e1, hp]
  have e5 : (c_lower z % fDg_powerOfTen (10 - x) * fDg_powerOfTen x).toInt = slL (c_lower z).toInt k := by
    have e6 : slL (c_lower z).toInt k = (c_lower z).toInt % 10 ^ (10 - k) * 10 ^ k := rfl
    rw [Kit.i64_mul (by rw [e2, hp]; omega) (by rw [e2, hp]; omega), e2, hp, e6]
  obtain ⟨⟨r1, r2⟩, -⟩ := sl_rg hU1 hU2 hL1 hL2 k hk
  have e7 : slU (c_upper z).toInt (c_lower z).toInt k = (c_upper z).toInt % 10 ^ (10 - k) * 10 ^ k + (c_lower z).toInt / 10 ^ (10 - k) := rfl
  have e8 : (c_upper z % fDg_powerOfTen (10 - x) * fDg_powerOfTen x + c_lower z / fDg_powerOfTen (10 - x)).toInt = slU (c_upper z).toInt (c_lower z).toInt k := by
    rw [Kit.i64_add (by rw [e4, e3]; omega) (by rw [e4, e3]; omega), e4, e3, e7]
  rw [fAc_shiftLeft.eq_1, fAc_shiftLeft_14.eq_1]
  exact ⟨(c_upper z % fDg_powerOfTen (10 - x) * fDg_powerOfTen x + c_lower z / fDg_powerOfTen (10 - x), c_lower z % fDg_powerOfTen (10 - x) * fDg_powerOfTen x, c_amin z, c_ovf z), rfl, e8, e5, rfl, rfl⟩
theorem msl_set (m : SM) (u l u2 l2 : Int64) (s o : Bool) : m_lower_s (m_upper_s (m_acc_s m (u, l, s, o)) u2) l2 = m_acc_s m (u2, l2, s, o) := rfl
theorem msl_loop (m : SM) {x : Int32} {X : Nat} (hx : x.toInt = X) (hX : X ≤ 10) (ho : aOk (m_acc m)) : ∀ (n k : Nat) (u l : Int64), k + n = 11 → k ≤ X → u.toInt = slU (m_upper m).toInt (m_lower m).toInt k → l.toInt = slL (m_lower m).toInt k →
    ∃ (u' l' : Int64), u'.toInt = slU (m_upper m).toInt (m_lower m).toInt X ∧ l'.toInt = slL (m_lower m).toInt X ∧ fMo_shiftLeft_2 n (m_acc_s m (u, l, m_amin m, m_ovf m)) x k = m_acc_s m (u', l', m_amin m, m_ovf m) := by
  obtain ⟨⟨hU1, hU2⟩, hL1, hL2⟩ := ho
  have hU1 : 0 ≤ (m_upper m).toInt := hU1
  have hU2 : (m_upper m).toInt < 10000000000 := hU2
  have hL1 : 0 ≤ (m_lower m).toInt := hL1
  have hL2 : (m_lower m).toInt < 10000000000 := hL2
  intro n
  induction n with
  | zero => intro k u l h1 h2; omega
  | succ n ih =>
    intro k u l h1 h2 hu hl
    rw [fMo_shiftLeft_2.eq_2]
    by_cases hc : x ≤ nI k
    · rw [if_pos hc]
      rw [Int32.le_iff_toInt_le, hx, nI_toInt (by omega)] at hc
      have e : k = X := by omega
      subst e
      exact ⟨u, l, hu, hl, rfl⟩
    · rw [if_neg hc]
      rw [Int32.le_iff_toInt_le, hx, nI_toInt (by omega)] at hc
      have hk : k < 10 := by omega
      obtain ⟨s1, s2⟩ := sl_step hU1 hU2 hL1 hL2 k hk
      obtain ⟨⟨r1, r2⟩, r3, r4⟩ := sl_rg hU1 hU2 hL1 hL2 k (by omega)
      rw [msr_u, msr_l, msl_set]
      have f1 : (u * 10).toInt = slU (m_upper m).toInt (m_lower m).toInt k * 10 := by rw [Kit.i64_mul (by rw [hu, c_10]; omega) (by rw [hu, c_10]; omega), hu, c_10]
      have f2 : (u * 10 % 10000000000).toInt = slU (m_upper m).toInt (m_lower m).toInt k * 10 % 10000000000 := by rw [l_mod (by rw [f1]; omega), f1, c_T]
      have f3 : (l / 1000000000).toInt = slL (m_lower m).toInt k / 1000000000 := by rw [l_div (by rw [hl]; exact r3) (by rw [c_9]; omega), hl, c_9]
      have f4 : (u * 10 % 10000000000 + l / 1000000000).toInt = slU (m_upper m).toInt (m_lower m).toInt (k + 1) := by
        rw [Kit.i64_add (by rw [f2, f3]; omega) (by rw [f2, f3]; omega), f2, f3, s1]
      have f5 : (l * 10).toInt = slL (m_lower m).toInt k * 10 := by rw [Kit.i64_mul (by rw [hl, c_10]; omega) (by rw [hl, c_10]; omega), hl, c_10]
      have f6 : (l * 10 % 10000000000).toInt = slL (m_lower m).toInt (k + 1) := by rw [l_mod (by rw [f5]; omega), f5, c_T, s2]
      exact ih (k + 1) _ _ (by omega) (by omega) f4 f6
theorem sl_both {z : SC} {m : SM} {x : Int32} {X : Nat} (hx : x.toInt = X) (hX : X ≤ 10) (he : c_acc z = m_acc m) (ho : aOk (c_acc z)) : ∃ w, aOk w ∧ fAc_shiftLeft z x = c_acc_s z w ∧ fMo_shiftLeft m x = m_acc_s m w := by
  obtain ⟨w, h1, h2⟩ := c_sl hx hX ho
  have eU : c_upper z = m_upper m := congrArg Prod.fst he
  have eL : c_lower z = m_lower m := congrArg (fun w => w.2.1) he
  have eS : c_amin z = m_amin m := congrArg (fun w => w.2.2.1) he
  have eO : c_ovf z = m_ovf m := congrArg (fun w => w.2.2.2) he
  have hU : rg (m_upper m) := by rw [← eU]; exact ho.1
  have hL : rg (m_lower m) := by rw [← eL]; exact ho.2
  have h := msl_loop m hx hX (by rw [← he]; exact ho) 11 0 (m_upper m) (m_lower m) rfl (by omega) (by
    have a := hU.1; have b := hU.2; have c := hL.1; have d := hL.2
    unfold slU
    simp only [Nat.reduceSub, Int.reducePow]
    omega) (by
    have c := hL.1; have d := hL.2
    unfold slL
    simp only [Nat.reduceSub, Int.reducePow]
    omega)
  rw [m_self] at h
  obtain ⟨u', l', k1, k2, k4⟩ := h
  rw [eU, eL, eS, eO] at h2
  have e := aIs_eq h2 (w' := (u', l', m_amin m, m_ovf m)) ⟨k1, k2, rfl, rfl⟩
  obtain ⟨⟨r1, r2⟩, r3, r4⟩ := sl_rg hU.1 hU.2 hL.1 hL.2 X hX
  refine ⟨w, ⟨⟨?_, ?_⟩, ?_, ?_⟩, h1, ?_⟩
  · rw [h2.1]; exact r1
  · rw [h2.1]; exact r2
  · rw [h2.2.1]; exact r3
  · rw [h2.2.1]; exact r4
  · rw [fMo_shiftLeft.eq_1, k4, e]
