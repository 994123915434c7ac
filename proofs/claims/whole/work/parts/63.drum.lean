/-! storing a word -/
def stC : Nat → (Nat → Int32) → Int32 → Int64 → Nat → (Nat → Int32)
  | 0, f, _, _, _ => f
  | n + 1, f, a, v5, k => if 10 ≤ k then f else stC n (upd f ((a * 10 + nI k).toNatClampNeg) (fDr_codeOf ((v5 % 10).toInt32))) a (v5 / 10) (k + 1)
theorem st_c : ∀ (n : Nat) (z : SC) (a : Int32) (v : Int64) (b : Bool) (v5 : Int64) (k : Nat), 10 - k < n → fDr_store_6 n z a v b v5 k = c_dmin_s (c_vals_s (c_codes_s z (stC n (c_codes z) a v5 k)) (vp_updL (c_vals z) a.toNatClampNeg v)) (updB (c_dmin z) a.toNatClampNeg b) := by
  intro n
  induction n with
  | zero => intro z a v b v5 k h; omega
  | succ n ih =>
    intro z a v b v5 k h
    rw [fDr_store_6.eq_2, stC.eq_2]
    by_cases hk : 10 ≤ k
    · rw [if_pos hk, if_pos hk]
      rfl
    · rw [if_neg hk, if_neg hk, ih _ _ _ _ _ _ (by omega)]
      rfl
theorem st_m : ∀ (n : Nat) (m : SM) (a : Int32) (b : Bool) (v5 : Int64) (k : Nat), 10 - k < n → fMo_write_6 n m a b v5 k = m_dmin_s (m_codes_s m (stC n (m_codes m) a v5 k)) (updB (m_dmin m) a.toNatClampNeg b) := by
  intro n
  induction n with
  | zero => intro m a b v5 k h; omega
  | succ n ih =>
    intro m a b v5 k h
    rw [fMo_write_6.eq_2, stC.eq_2]
    by_cases hk : 10 ≤ k
    · rw [if_pos hk, if_pos hk]
      rfl
    · rw [if_neg hk, if_neg hk, fDr_codeOf.eq_1, Int32.mul_comm 10 a]
      by_cases h5 : (5 : Int32) ≤ (v5 % 10).toInt32
      · rw [if_pos h5, if_pos h5, ih _ _ _ _ _ (by omega)]
        rfl
      · rw [if_neg h5, if_neg h5, ih _ _ _ _ _ (by omega)]
        rfl
theorem store_c (z : SC) (a : Int32) (v : Int64) (b : Bool) : fDr_store z a v b = c_dmin_s (c_vals_s (c_codes_s z (stC 11 (c_codes z) a v 0)) (vp_updL (c_vals z) a.toNatClampNeg v)) (updB (c_dmin z) a.toNatClampNeg b) := st_c 11 z a v b v 0 (by decide)
theorem write_m (m : SM) (a : Int32) (v : Int64) (b : Bool) : fMo_write m a v b = m_dmin_s (m_codes_s m (stC 11 (m_codes m) a v 0)) (updB (m_dmin m) a.toNatClampNeg b) := st_m 11 m a b v 0 (by decide)
