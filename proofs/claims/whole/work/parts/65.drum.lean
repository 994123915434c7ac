theorem ho_step {V : Int} (h1 : 0 ≤ V) (h2 : V < 10000000000) : ∀ k : Nat, k < 10 → V / 10 ^ (k + 1) * 10 + V / 10 ^ k % 10 = V / 10 ^ k ∧ 0 ≤ V / 10 ^ (k + 1) ∧ V / 10 ^ (k + 1) < 10000000000 := by
  intro k hk
  have h9 : k = 0 ∨ k = 1 ∨ k = 2 ∨ k = 3 ∨ k = 4 ∨ k = 5 ∨ k = 6 ∨ k = 7 ∨ k = 8 ∨ k = 9 := by omega
  rcases h9 with rfl | rfl | rfl | rfl | rfl | rfl | rfl | rfl | rfl | rfl <;> (refine ⟨?_, ?_, ?_⟩ <;> (simp only [Nat.reduceAdd, Int.reducePow]; omega))
theorem vs_loop {z : SC} {a : Int32} {V : Int} (ha : vp_in a 200) (h1 : 0 ≤ V) (h2 : V < 10000000000) (hd : ∀ i, i < 10 → (fDr_digitOf (c_codes z (10 * a.toNatClampNeg + i))).toInt = V / 10 ^ i % 10) : ∀ (n k : Nat) (v2 : Int64) (v4 : Int32), k ≤ 10 → k < n → v4.toInt = (k : Int) - 1 → v2.toInt = V / 10 ^ k → (fDr_valueOfCodes_6 n z a v2 v4).toInt = V := by
  intro n
  induction n with
  | zero => intro k v2 v4 _ h; omega
  | succ n ih =>
    intro k v2 v4 hk hn h4 hv
    rw [fDr_valueOfCodes_6.eq_2]
    have e0 : (0 : Int32).toInt = 0 := by decide
    cases k with
    | zero =>
      rw [if_pos (by rw [Int32.lt_iff_toInt_lt, h4, e0]; omega), hv]
      simp
    | succ k =>
      rw [if_neg (by rw [Int32.lt_iff_toInt_lt, h4, e0]; omega)]
      have e4 : v4 = nI k := Int32.toInt_inj.mp (by rw [h4, nI_toInt (by omega)]; omega)
      have hdk := hd k (by omega)
      have hix : (a * 10 + v4).toNatClampNeg = 10 * a.toNatClampNeg + k := by rw [e4]; exact at10 ha (by omega)
      rw [hix]
      obtain ⟨s1, s2, s3⟩ := ho_step h1 h2 k (by omega)
      have hd0 : 0 ≤ V / 10 ^ k % 10 ∧ V / 10 ^ k % 10 ≤ 9 := by omega
      rw [if_pos (by rw [Int32.le_iff_toInt_le, hdk, e0]; exact hd0.1)]
      have f1 : (v2 * 10).toInt = V / 10 ^ (k + 1) * 10 := by rw [Kit.i64_mul (by rw [hv, c_10]; omega) (by rw [hv, c_10]; omega), hv, c_10]
      have f2 : ((fDr_digitOf (c_codes z (10 * a.toNatClampNeg + k))).toInt64).toInt = V / 10 ^ k % 10 := by rw [Kit.i64_of_i32, hdk]
      have f3 : (v2 * 10 + (fDr_digitOf (c_codes z (10 * a.toNatClampNeg + k))).toInt64).toInt = V / 10 ^ k := by
        rw [Kit.i64_add (by rw [f1, f2]; omega) (by rw [f1, f2]; omega), f1, f2, s1]
      have em : (-1 : Int32).toInt = -1 := by decide
      refine ih k _ _ (by omega) (by omega) ?_ f3
      rw [Kit.i32_add (by rw [h4, em]; omega) (by rw [h4, em]; omega), h4, em]
      omega
theorem dc_all : ∀ d : Fin 10, fDr_digitOf (fDr_codeOf (nI d.val)) = nI d.val ∧ 0 ≤ (fDr_codeOf (nI d.val)).toInt ∧ (fDr_codeOf (nI d.val)).toInt < 128 := by decide +kernel
theorem cd_of {x : Int32} (h0 : 0 ≤ x.toInt) (h9 : x.toInt ≤ 9) : fDr_digitOf (fDr_codeOf x) = x ∧ ck (fDr_codeOf x) := by
  have e : x = nI x.toInt.toNat := Int32.toInt_inj.mp (by rw [nI_toInt (by omega)]; omega)
  have h := dc_all ⟨x.toInt.toNat, by omega⟩
  rw [← e] at h
  exact ⟨h.1, h.2⟩
theorem st_dig {v : Int64} (hv : rg v) (i : Nat) : ((tD v i % 10).toInt32).toInt = v.toInt / 10 ^ i % 10 := by
  have h1 := tD_val i v hv.1
  have h0 : 0 ≤ v.toInt / 10 ^ i := Int.ediv_nonneg hv.1 (Int.pow_nonneg (by omega))
  have h2 : (tD v i % 10).toInt = v.toInt / 10 ^ i % 10 := by rw [l_mod (by rw [h1]; exact h0), h1, c_10]
  rw [Kit.i32_of_i64 (by rw [h2]; omega) (by rw [h2]; omega), h2]
/-- a word that was stored is read again -/
theorem val_store {z : SC} {a : Int32} {v : Int64} (ha : vp_in a 200) (hv : rg v) (g : Nat → Int32) (hg : c_codes z = stC 11 g a v 0) : fDr_valueOfCodes z a = v := by
  rw [fDr_valueOfCodes.eq_1]
  refine Int64.toInt_inj.mp (vs_loop ha hv.1 hv.2 ?_ 11 10 0 9 (by decide) (by decide) (by decide) ?_)
  · intro i hi
    rw [hg, stC_in ha 11 0 v g i (by decide) (by omega) hi, Nat.sub_zero]
    have h := st_dig hv i
    have hr : 0 ≤ v.toInt / 10 ^ i % 10 ∧ v.toInt / 10 ^ i % 10 ≤ 9 := by omega
    rw [(cd_of (by rw [h]; exact hr.1) (by rw [h]; exact hr.2)).1, h]
  · have h1 := hv.1
    have h2 := hv.2
    rw [c_0]
    simp only [Int.reducePow]
    omega
