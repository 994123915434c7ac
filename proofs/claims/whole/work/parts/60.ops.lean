/-! ===== pure part: operation codes ===== -/
theorem op_in (o : Int32) : (∃ k : Fin 100, o = nI k.val) ∨ (o.toInt < 0 ∨ 99 < o.toInt) := by
  by_cases h : 0 ≤ o.toInt ∧ o.toInt ≤ 99
  · refine .inl ⟨⟨o.toInt.toNat, by omega⟩, Int32.toInt_inj.mp ?_⟩
    rw [nI_toInt (show o.toInt.toNat < 2 ^ 31 by omega)]
    omega
  · exact .inr (by omega)
theorem out_ne {o c : Int32} (ho : o.toInt < 0 ∨ 99 < o.toInt) (hc : 0 ≤ c.toInt ∧ c.toInt ≤ 99) : ¬ o = c := fun h => by
  rw [h] at ho
  omega
theorem out_lt {o c : Int32} (ho : o.toInt < 0) (hc : 0 ≤ c.toInt) : o < c := by
  rw [Int32.lt_iff_toInt_lt]; omega
theorem out_nlt {o c : Int32} (ho : 99 < o.toInt) (hc : c.toInt ≤ 99) : ¬ o < c := by
  rw [Int32.lt_iff_toInt_lt]; omega
theorem out_nle {o c : Int32} (ho : 99 < o.toInt) (hc : c.toInt ≤ 99) : ¬ o ≤ c := by
  rw [Int32.le_iff_toInt_le]; omega
theorem out_gt {o : Int32} (ho : 99 < o.toInt) : (99 : Int32) < o := by
  have e : (99 : Int32).toInt = 99 := by decide
  rw [Int32.lt_iff_toInt_lt]; omega
theorem e8_out {o : Int32} (ho : o.toInt < 0 ∨ 99 < o.toInt) : fOp_branchesOnEight o = false ∧ fMo_isOperation_42 o = false := by
  rw [fOp_branchesOnEight.eq_1, fMo_isOperation_42.eq_1]
  rcases ho with h | h
  · rw [if_pos (out_lt h (by decide))]
    exact ⟨rfl, rfl⟩
  · rw [if_neg (out_nlt h (by decide)), if_pos (out_gt h)]
    exact ⟨rfl, rfl⟩
theorem kind_out {o : Int32} (ho : o.toInt < 0 ∨ 99 < o.toInt) : fOp_kindOf o = 0 := by
  rw [fOp_kindOf.eq_1, if_neg (out_ne (c := 0) ho (by decide)), if_neg (out_ne (c := 1) ho (by decide)), if_neg (out_ne (c := 10) ho (by decide)), if_neg (out_ne (c := 11) ho (by decide)), if_neg (out_ne (c := 14) ho (by decide)), if_neg (out_ne (c := 15) ho (by decide)), if_neg (out_ne (c := 16) ho (by decide)), if_neg (out_ne (c := 19) ho (by decide)), if_neg (out_ne (c := 20) ho (by decide)), if_neg (out_ne (c := 21) ho (by decide)), if_neg (out_ne (c := 22) ho (by decide)), if_neg (out_ne (c := 24) ho (by decide)), if_neg (out_ne (c := 30) ho (by decide)), if_neg (out_ne (c := 31) ho (by decide)), if_neg (out_ne (c := 35) ho (by decide)), if_neg (out_ne (c := 44) ho (by decide)), if_neg (out_ne (c := 45) ho (by decide)), if_neg (out_ne (c := 46) ho (by decide)), if_neg (out_ne (c := 47) ho (by decide)), if_neg (out_ne (c := 60) ho (by decide)), if_neg (out_ne (c := 61) ho (by decide)), if_neg (out_ne (c := 65) ho (by decide)), if_neg (out_ne (c := 66) ho (by decide)), if_neg (out_ne (c := 67) ho (by decide)), if_neg (out_ne (c := 69) ho (by decide)), if_neg (out_ne (c := 70) ho (by decide)), if_neg (out_ne (c := 71) ho (by decide)), if_neg (out_ne (c := 84) ho (by decide)), (e8_out ho).1]
  rfl
theorem reads_out {o : Int32} (ho : o.toInt < 0 ∨ 99 < o.toInt) : fMo_reads o = false := by
  have h60 : fMo_reads_60 o = false := by
    rw [fMo_reads_60.eq_1, if_neg (out_ne (c := 69) ho (by decide)), if_neg (out_ne (c := 71) ho (by decide)), if_neg (out_ne (c := 84) ho (by decide))]
  rw [fMo_reads.eq_1, if_neg (out_ne (c := 10) ho (by decide)), if_neg (out_ne (c := 11) ho (by decide)), if_neg (out_ne (c := 14) ho (by decide)), if_neg (out_ne (c := 15) ho (by decide)), if_neg (out_ne (c := 16) ho (by decide)), if_neg (out_ne (c := 19) ho (by decide)), if_neg (out_ne (c := 60) ho (by decide)), if_neg (out_ne (c := 61) ho (by decide))]
  rcases ho with h | h
  · rw [if_pos (out_lt h (by decide))]; exact h60
  · rw [if_neg (out_nlt h (by decide)), if_neg (out_nle h (by decide))]; exact h60
theorem writes_out {o : Int32} (ho : o.toInt < 0 ∨ 99 < o.toInt) : fMo_writes o = false := by
  have h12 : fMo_writes_12 o = false := by
    rw [fMo_writes_12.eq_1, if_neg (out_ne (c := 24) ho (by decide)), if_neg (out_ne (c := 70) ho (by decide))]
  rw [fMo_writes.eq_1]
  rcases ho with h | h
  · rw [if_pos (out_lt h (by decide))]; exact h12
  · rw [if_neg (out_nlt h (by decide)), if_neg (out_nle h (by decide))]; exact h12
theorem shifts_out {o : Int32} (ho : o.toInt < 0 ∨ 99 < o.toInt) : fMo_shifts o = false := by
  rw [fMo_shifts.eq_1, if_neg (out_ne (c := 30) ho (by decide)), if_neg (out_ne (c := 31) ho (by decide)), if_neg (out_ne (c := 35) ho (by decide))]
theorem isop_out {o : Int32} (ho : o.toInt < 0 ∨ 99 < o.toInt) : fMo_isOperation o = false := by
  rw [fMo_isOperation.eq_1, reads_out ho, writes_out ho, shifts_out ho, if_neg (by decide), if_neg (by decide), if_neg (by decide), if_neg (out_ne (c := 0) ho (by decide)), if_neg (out_ne (c := 1) ho (by decide)), (e8_out ho).2]
  rcases ho with h | h
  · rw [if_pos (out_lt h (by decide))]
  · rw [if_neg (out_nlt h (by decide)), if_neg (out_nle h (by decide))]
theorem ops_in : ∀ k : Fin 100, fOp_exists (nI k.val) = fMo_isOperation (nI k.val) ∧ fOp_shifts (nI k.val) = fMo_shifts (nI k.val) ∧ fOp_writes (nI k.val) = fMo_writes (nI k.val) ∧ fOp_accessesData (nI k.val) = (fMo_reads (nI k.val) || fMo_writes (nI k.val)) := by decide +kernel
/-- both know the same operations -/
theorem ops_eq (o : Int32) : fOp_exists o = fMo_isOperation o ∧ fOp_shifts o = fMo_shifts o ∧ fOp_writes o = fMo_writes o ∧ fOp_accessesData o = (fMo_reads o || fMo_writes o) := by
  rcases op_in o with ⟨k, rfl⟩ | ho
  · exact ops_in k
  · rw [isop_out ho, shifts_out ho, writes_out ho, reads_out ho, fOp_exists.eq_1, fOp_shifts.eq_1, fOp_writes.eq_1, fOp_accessesData.eq_1, kind_out ho]
    decide
