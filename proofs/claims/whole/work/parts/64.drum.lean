def tD : Int64 → Nat → Int64
  | v, 0 => v
  | v, t + 1 => tD (v / 10) t
theorem tD_val : ∀ (t : Nat) (v : Int64), 0 ≤ v.toInt → (tD v t).toInt = v.toInt / 10 ^ t := by
  intro t
  induction t with
  | zero => intro v _; simp [tD]
  | succ t ih =>
    intro v hv
    have h1 : (v / 10).toInt = v.toInt / 10 := by rw [l_div hv (by rw [c_10]; omega), c_10]
    show (tD (v / 10) t).toInt = _
    rw [ih (v / 10) (by rw [h1]; omega), h1, Int.pow_succ, Int.mul_comm (10 ^ t) 10]
    first | exact Int.ediv_ediv_of_nonneg (by omega) | exact Int.ediv_ediv (by omega)
theorem at10 {a : Int32} (ha : vp_in a 200) {k : Nat} (hk : k < 10) : ((a * 10 + nI k).toNatClampNeg) = 10 * a.toNatClampNeg + k := by
  obtain ⟨a1, a2⟩ := vp_in_iff.mp ha
  have e : (10 : Int32).toInt = 10 := by decide
  have hm : (a * 10).toInt = a.toInt * 10 := by
    rw [Kit.i32_mul (by rw [e]; omega) (by rw [e]; omega), e]
  have hn : (nI k).toInt = k := nI_toInt (by omega)
  have hs : (a * 10 + nI k).toInt = a.toInt * 10 + k := by
    rw [Kit.i32_add (by rw [hm, hn]; omega) (by rw [hm, hn]; omega), hm, hn]
  show (a * 10 + nI k).toInt.toNat = 10 * a.toInt.toNat + k
  rw [hs]
  omega
theorem stC_out {a : Int32} (ha : vp_in a 200) : ∀ (n k : Nat) (v5 : Int64) (g : Nat → Int32) (j : Nat), 10 - k < n → (j < 10 * a.toNatClampNeg + k ∨ 10 * a.toNatClampNeg + 10 ≤ j) → stC n g a v5 k j = g j := by
  intro n
  induction n with
  | zero => intro k v5 g j h; omega
  | succ n ih =>
    intro k v5 g j h hj
    rw [stC.eq_2]
    by_cases hk : 10 ≤ k
    · rw [if_pos hk]
    · rw [if_neg hk, ih (k + 1) _ _ j (by omega) (by omega), at10 ha (by omega)]
      exact if_neg (by omega)
theorem stC_in {a : Int32} (ha : vp_in a 200) : ∀ (n k : Nat) (v5 : Int64) (g : Nat → Int32) (i : Nat), 10 - k < n → k ≤ i → i < 10 → stC n g a v5 k (10 * a.toNatClampNeg + i) = fDr_codeOf ((tD v5 (i - k) % 10).toInt32) := by
  intro n
  induction n with
  | zero => intro k v5 g i h; omega
  | succ n ih =>
    intro k v5 g i h hki hi
    rw [stC.eq_2, if_neg (by omega)]
    by_cases he : i = k
    · subst he
      rw [stC_out ha n (i + 1) _ _ _ (by omega) (by omega), at10 ha hi, Nat.sub_self]
      exact if_pos rfl
    · rw [ih (k + 1) _ _ i (by omega) (by omega) hi]
      have e : i - k = (i - (k + 1)) + 1 := by omega
      rw [e]
      rfl
