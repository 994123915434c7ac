theorem adr_eq (a : Int32) : fDr_hasAddress a = fMo_isAddress a := rfl
theorem wrd_eq (v : Int64) : fDg_fitWord v = fMo_isWord v := rfl
theorem b_lt {a c : Int32} {k : Int} (hc : c.toInt = k) : a < c ↔ a.toInt < k := by rw [Int32.lt_iff_toInt_lt, hc]
theorem b_le {a c : Int32} {k : Int} (hc : c.toInt = k) : c ≤ a ↔ k ≤ a.toInt := by rw [Int32.le_iff_toInt_le, hc]
theorem b_eq {a c : Int32} {k : Int} (hc : c.toInt = k) : a = c ↔ a.toInt = k := by rw [← Int32.toInt_inj, hc]
theorem adr_iff (a : Int32) : fDr_hasAddress a = true ↔ 0 ≤ a.toInt ∧ a.toInt < 200 := by
  rw [fDr_hasAddress.eq_1]
  by_cases h1 : a < 0
  · rw [if_pos h1]
    rw [b_lt (k := 0) (by decide)] at h1
    exact ⟨fun h => (by cases h), fun h => by omega⟩
  · rw [if_neg h1]
    rw [b_lt (k := 0) (by decide)] at h1
    by_cases h2 : (200 : Int32) ≤ a
    · rw [if_pos h2]
      rw [b_le (k := 200) (by decide)] at h2
      exact ⟨fun h => (by cases h), fun h => by omega⟩
    · rw [if_neg h2]
      rw [b_le (k := 200) (by decide)] at h2
      exact ⟨fun _ => by omega, fun _ => rfl⟩
theorem p12_iff (a : Int32) : fMo_isPart_12 a = true ↔ 1000 ≤ a.toInt ∧ a.toInt < 1020 := by
  rw [fMo_isPart_12.eq_1]
  by_cases h1 : a < (1000 : Int32)
  · rw [if_pos h1]
    rw [b_lt (k := 1000) (by decide)] at h1
    exact ⟨fun h => (by cases h), fun h => by omega⟩
  · rw [if_neg h1]
    rw [b_lt (k := 1000) (by decide)] at h1
    by_cases h2 : (1020 : Int32) ≤ a
    · rw [if_pos h2]
      rw [b_le (k := 1020) (by decide)] at h2
      exact ⟨fun h => (by cases h), fun h => by omega⟩
    · rw [if_neg h2]
      rw [b_le (k := 1020) (by decide)] at h2
      exact ⟨fun _ => by omega, fun _ => rfl⟩
theorem mpart_iff (a : Int32) : fMo_isPart a = true ↔ (-1 ≤ a.toInt ∧ a.toInt < 200) ∨ (1000 ≤ a.toInt ∧ a.toInt < 1020) := by
  rw [fMo_isPart.eq_1]
  by_cases h1 : a < ((-1) : Int32)
  · rw [if_pos h1, p12_iff]
    rw [b_lt (k := -1) (by decide)] at h1
    omega
  · rw [if_neg h1]
    rw [b_lt (k := -1) (by decide)] at h1
    by_cases h2 : a < (200 : Int32)
    · rw [if_pos h2]
      rw [b_lt (k := 200) (by decide)] at h2
      exact ⟨fun _ => by omega, fun _ => rfl⟩
    · rw [if_neg h2, p12_iff]
      rw [b_lt (k := 200) (by decide)] at h2
      omega
theorem sym_iff (a : Int32) : fAs_isSymbol a = true ↔ 1000 ≤ a.toInt ∧ a.toInt < 1020 := by
  rw [fAs_isSymbol.eq_1]
  by_cases h1 : a < (1000 : Int32)
  · rw [if_pos h1]
    rw [b_lt (k := 1000) (by decide)] at h1
    exact ⟨fun h => (by cases h), fun h => by omega⟩
  · rw [if_neg h1]
    rw [b_lt (k := 1000) (by decide)] at h1
    by_cases h2 : (1020 : Int32) ≤ a
    · rw [if_pos h2]
      rw [b_le (k := 1020) (by decide)] at h2
      exact ⟨fun h => (by cases h), fun h => by omega⟩
    · rw [if_neg h2]
      rw [b_le (k := 1020) (by decide)] at h2
      exact ⟨fun _ => by omega, fun _ => rfl⟩
theorem cpart_iff (a : Int32) : fAs_isPart a = true ↔ (-1 ≤ a.toInt ∧ a.toInt < 200) ∨ (1000 ≤ a.toInt ∧ a.toInt < 1020) := by
  rw [fAs_isPart.eq_1]
  by_cases h1 : a = ((-1) : Int32)
  · rw [if_pos h1]
    rw [b_eq (k := -1) (by decide)] at h1
    exact ⟨fun _ => by omega, fun _ => rfl⟩
  · rw [if_neg h1]
    rw [b_eq (k := -1) (by decide)] at h1
    by_cases h2 : fDr_hasAddress a = true
    · rw [if_pos h2]
      rw [adr_iff] at h2
      exact ⟨fun _ => by omega, fun _ => rfl⟩
    · rw [if_neg h2]
      rw [adr_iff] at h2
      by_cases h3 : fAs_isSymbol a = true
      · rw [if_pos h3]
        rw [sym_iff] at h3
        exact ⟨fun _ => by omega, fun _ => rfl⟩
      · rw [if_neg h3]
        rw [sym_iff] at h3
        exact ⟨fun h => (by cases h), fun h => by omega⟩
theorem bool_iff {a b : Bool} (h : a = true ↔ b = true) : a = b := by
  cases a <;> cases b <;> simp_all
theorem part_eq (a : Int32) : fAs_isPart a = fMo_isPart a := bool_iff ((cpart_iff a).trans (mpart_iff a).symm)
