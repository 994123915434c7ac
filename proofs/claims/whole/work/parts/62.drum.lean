/-! ===== pure part: the drum ===== -/
def ck (w : Int32) : Prop := 0 ≤ w.toInt ∧ w.toInt < 128
theorem ck_in {w : Int32} (h : ck w) : ∃ k : Fin 128, w = nI k.val := by
  refine ⟨⟨w.toInt.toNat, by have := h.1; have := h.2; omega⟩, Int32.toInt_inj.mp ?_⟩
  have h1 := h.1
  have h2 := h.2
  rw [nI_toInt (show w.toInt.toNat < 2 ^ 31 by omega)]
  omega
theorem dig_all : ∀ k : Fin 128, fDr_digitOf (nI k.val) = fMo_digitOf (nI k.val) ∧ (-1 ≤ (fDr_digitOf (nI k.val)).toInt ∧ (fDr_digitOf (nI k.val)).toInt ≤ 9) := by decide +kernel
theorem dig_eq {w : Int32} (h : ck w) : fDr_digitOf w = fMo_digitOf w := by
  obtain ⟨k, rfl⟩ := ck_in h
  exact (dig_all k).1
theorem dig_rg {w : Int32} (h : ck w) : -1 ≤ (fDr_digitOf w).toInt ∧ (fDr_digitOf w).toInt ≤ 9 := by
  obtain ⟨k, rfl⟩ := ck_in h
  exact (dig_all k).2
theorem val_bad (m : SM) (a : Int32) : ∀ (n : Nat) (v : Int64) (k : Int32), -1 ≤ k.toInt ∧ k.toInt ≤ 9 → (k.toInt + 1).toNat < n → fMo_value_9 n m a v false k = -1 := by
  intro n
  induction n with
  | zero => intro v k _ h; omega
  | succ n ih =>
    intro v k hk hn
    rw [fMo_value_9.eq_2]
    by_cases h : k < 0
    · rw [if_pos h, if_neg (by decide)]
    · rw [if_neg h, if_neg (by decide)]
      exact ih _ _ (dec_b h hk) (dec_m h hk hn)
theorem val_loop {z : SC} {m : SM} (he : c_codes z = m_codes m) (hc : ∀ j, ck (c_codes z j)) (a : Int32) : ∀ (n : Nat) (v : Int64) (k : Int32), -1 ≤ k.toInt ∧ k.toInt ≤ 9 → (k.toInt + 1).toNat < n → fDr_valueOfCodes_6 n z a v k = fMo_value_9 n m a v true k := by
  intro n
  induction n with
  | zero => intro v k _ h; omega
  | succ n ih =>
    intro v k hk hn
    rw [fDr_valueOfCodes_6.eq_2, fMo_value_9.eq_2]
    by_cases h : k < 0
    · rw [if_pos h, if_pos h, if_pos rfl]
    · rw [if_neg h, if_neg h, if_pos rfl, ← he, Int32.mul_comm 10 a, ← dig_eq (hc _), Int64.mul_comm 10 v]
      by_cases hd : 0 ≤ fDr_digitOf (c_codes z ((a * 10 + k).toNatClampNeg))
      · have hd2 : ¬ fDr_digitOf (c_codes z ((a * 10 + k).toNatClampNeg)) < 0 := by
          rw [Int32.le_iff_toInt_le] at hd
          rw [Int32.lt_iff_toInt_lt]
          omega
        rw [if_pos hd, if_neg hd2]
        exact ih _ _ (dec_b h hk) (dec_m h hk hn)
      · have hd2 : fDr_digitOf (c_codes z ((a * 10 + k).toNatClampNeg)) < 0 := by
          rw [Int32.le_iff_toInt_le] at hd
          rw [Int32.lt_iff_toInt_lt]
          omega
        rw [if_neg hd, if_pos hd2]
        exact (val_bad m a n _ _ (dec_b h hk) (dec_m h hk hn)).symm
theorem val_eq {z : SC} {m : SM} (he : c_codes z = m_codes m) (hc : ∀ j, ck (c_codes z j)) (a : Int32) : fDr_valueOfCodes z a = fMo_value m a := by
  rw [fDr_valueOfCodes.eq_1, fMo_value.eq_1]
  exact val_loop he hc a 11 0 9 (by decide) (by decide)
