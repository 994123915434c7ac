/-! shifts -/
def srL (U L : Int) (k : Nat) : Int := L / 10 ^ k + (U % 10 ^ k) * 10 ^ (10 - k)
theorem sr_step {U L : Int} (h1 : 0 ≤ U) (h2 : U < 10000000000) (h3 : 0 ≤ L) (h4 : L < 10000000000) : ∀ k : Nat, k < 10 →
    srL U L k / 10 + (U / 10 ^ k % 10) * 1000000000 = srL U L (k + 1) ∧ U / 10 ^ k / 10 = U / 10 ^ (k + 1) ∧ srL U L k % 10 = L / 10 ^ k % 10 := by
  intro k hk
  have h9 : k = 0 ∨ k = 1 ∨ k = 2 ∨ k = 3 ∨ k = 4 ∨ k = 5 ∨ k = 6 ∨ k = 7 ∨ k = 8 ∨ k = 9 := by omega
  unfold srL
  rcases h9 with rfl | rfl | rfl | rfl | rfl | rfl | rfl | rfl | rfl | rfl <;> (refine ⟨?_, ?_, ?_⟩ <;> (simp only [Nat.reduceSub, Nat.reduceAdd, Int.reducePow]; omega))
theorem sr_rg {U L : Int} (h1 : 0 ≤ U) (h2 : U < 10000000000) (h3 : 0 ≤ L) (h4 : L < 10000000000) : ∀ k : Nat, k ≤ 10 → (0 ≤ U / 10 ^ k ∧ U / 10 ^ k < 10000000000) ∧ 0 ≤ srL U L k ∧ srL U L k < 10000000000 := by
  intro k hk
  have h9 : k = 0 ∨ k = 1 ∨ k = 2 ∨ k = 3 ∨ k = 4 ∨ k = 5 ∨ k = 6 ∨ k = 7 ∨ k = 8 ∨ k = 9 ∨ k = 10 := by omega
  unfold srL
  rcases h9 with rfl | rfl | rfl | rfl | rfl | rfl | rfl | rfl | rfl | rfl | rfl <;> (refine ⟨⟨?_, ?_⟩, ?_, ?_⟩ <;> (simp only [Nat.reduceSub, Int.reducePow]; omega))
theorem p10_rg : ∀ k : Nat, k ≤ 10 → (0 : Int) < 10 ^ k ∧ (10 : Int) ^ k ≤ 10000000000 := by
  intro k hk
  have h9 : k = 0 ∨ k = 1 ∨ k = 2 ∨ k = 3 ∨ k = 4 ∨ k = 5 ∨ k = 6 ∨ k = 7 ∨ k = 8 ∨ k = 9 ∨ k = 10 := by omega
  rcases h9 with rfl | rfl | rfl | rfl | rfl | rfl | rfl | rfl | rfl | rfl | rfl <;> decide
theorem p10_mul {a : Int} {k : Nat} (hk : k ≤ 10) (h0 : 0 ≤ a) (h1 : a < 10 ^ k) : 0 ≤ a * 10 ^ (10 - k) ∧ a * 10 ^ (10 - k) < 10000000000 := by
  have h9 : k = 0 ∨ k = 1 ∨ k = 2 ∨ k = 3 ∨ k = 4 ∨ k = 5 ∨ k = 6 ∨ k = 7 ∨ k = 8 ∨ k = 9 ∨ k = 10 := by omega
  rcases h9 with rfl | rfl | rfl | rfl | rfl | rfl | rfl | rfl | rfl | rfl | rfl <;> (simp only [Nat.reduceSub, Int.reducePow] at h1 ⊢; omega)
theorem pow_at {x : Int32} {k : Nat} (hx : x.toInt = k) (hk : k ≤ 10) : (fDg_powerOfTen x).toInt = 10 ^ k := by
  rw [pow_val, hx]
  have e : min ((k : Int).toNat) 10 = k := by omega
  rw [e]
theorem pow_co {x : Int32} {k : Nat} (hx : x.toInt = k) (hk : k ≤ 10) : (fDg_powerOfTen (10 - x)).toInt = 10 ^ (10 - k) := by
  have e10 : (10 : Int32).toInt = 10 := by decide
  refine pow_at (k := 10 - k) ?_ (by omega)
  rw [Kit.i32_sub (by rw [e10, hx]; omega) (by rw [e10, hx]; omega), e10, hx]
  omega
theorem c_sr {z : SC} {x : Int32} {k : Nat} (hx : x.toInt = k) (hk : k ≤ 10) (ho : aOk (c_acc z)) :
    ∃ w, fAc_shiftRight z x = c_acc_s z w ∧ aIs w ((c_upper z).toInt / 10 ^ k) (srL (c_upper z).toInt (c_lower z).toInt k) (c_amin z) (c_ovf z) := by
  obtain ⟨⟨hU1, hU2⟩, hL1, hL2⟩ := ho
  have hU1 : 0 ≤ (c_upper z).toInt := hU1
  have hU2 : (c_upper z).toInt < 10000000000 := hU2
  have hL1 : 0 ≤ (c_lower z).toInt := hL1
  have hL2 : (c_lower z).toInt < 10000000000 := hL2
  have hp := pow_at hx hk
  have hq := pow_co hx hk
  have p0 := (p10_rg k hk).1
  obtain ⟨⟨r1, r2⟩, r3, r4⟩ := sr_rg hU1 hU2 hL1 hL2 k hk
  have e1 : (c_upper z / fDg_powerOfTen x).toInt = (c_upper z).toInt / 10 ^ k := by rw [l_div hU1 (by rw [hp]; exact p0), hp]
  have e2 : (c_lower z / fDg_powerOfTen x).toInt = (c_lower z).toInt / 10 ^ k := by rw [l_div hL1 (by rw [hp]; exact p0), hp]
  have e3 : (c_upper z % fDg_powerOfTen x).toInt = (c_upper z).toInt % 10 ^ k := by rw [l_mod hU1, hp]
  have m1 := p10_mul hk (Int.emod_nonneg (c_upper z).toInt (by omega)) (Int.emod_lt_of_pos (c_upper z).toInt p0)
  have e4 : (c_upper z % fDg_powerOfTen x * fDg_powerOfTen (10 - x)).toInt = (c_upper z).toInt % 10 ^ k * 10 ^ (10 - k) := by
    rw [Kit.i64_mul (by rw [e3, hq]; omega) (by rw [e3, hq]; omega), e3, hq]
  have d1 : 0 ≤ (c_lower z).toInt / 10 ^ k := Int.ediv_nonneg hL1 (by omega)
  have e5 : (c_lower z / fDg_powerOfTen x + c_upper z % fDg_powerOfTen x * fDg_powerOfTen (10 - x)).toInt = srL (c_upper z).toInt (c_lower z).toInt k := by
    have e6 : srL (c_upper z).toInt (c_lower z).toInt k = (c_lower z).toInt / 10 ^ k + (c_upper z).toInt % 10 ^ k * 10 ^ (10 - k) := rfl
    rw [Kit.i64_add (by rw [e2, e4]; omega) (by rw [e2, e4]; omega), e2, e4, e6]
  rw [fAc_shiftRight.eq_1, fAc_shiftRight_5.eq_1]
  refine ⟨(c_upper z / fDg_powerOfTen x, c_lower z / fDg_powerOfTen x + c_upper z % fDg_powerOfTen x * fDg_powerOfTen (10 - x), c_amin z, c_ovf z), rfl, e1, e5, rfl, rfl⟩
