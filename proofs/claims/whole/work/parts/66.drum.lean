theorem vl_loop {z z' : SC} {a : Int32} (ha : vp_in a 200) (he : ∀ i, i < 10 → c_codes z (10 * a.toNatClampNeg + i) = c_codes z' (10 * a.toNatClampNeg + i)) : ∀ (n k : Nat) (v2 : Int64) (v4 : Int32), k ≤ 10 → k < n → v4.toInt = (k : Int) - 1 → fDr_valueOfCodes_6 n z a v2 v4 = fDr_valueOfCodes_6 n z' a v2 v4 := by
  intro n
  induction n with
  | zero => intro k v2 v4 _ h; omega
  | succ n ih =>
    intro k v2 v4 hk hn h4
    rw [fDr_valueOfCodes_6.eq_2, fDr_valueOfCodes_6.eq_2]
    have e0 : (0 : Int32).toInt = 0 := by decide
    cases k with
    | zero =>
      have h : v4 < 0 := by rw [Int32.lt_iff_toInt_lt, h4, e0]; omega
      rw [if_pos h, if_pos h]
    | succ k =>
      have h : ¬ v4 < 0 := by rw [Int32.lt_iff_toInt_lt, h4, e0]; omega
      rw [if_neg h, if_neg h]
      have e4 : v4 = nI k := Int32.toInt_inj.mp (by rw [h4, nI_toInt (by omega)]; omega)
      have hix : (a * 10 + v4).toNatClampNeg = 10 * a.toNatClampNeg + k := by rw [e4]; exact at10 ha (by omega)
      have em : (-1 : Int32).toInt = -1 := by decide
      rw [hix, he k (by omega), ih k _ _ (by omega) (by omega) (by rw [Kit.i32_add (by rw [h4, em]; omega) (by rw [h4, em]; omega), h4, em]; omega)]
theorem val_local {z z' : SC} {a : Int32} (ha : vp_in a 200) (he : ∀ i, i < 10 → c_codes z (10 * a.toNatClampNeg + i) = c_codes z' (10 * a.toNatClampNeg + i)) : fDr_valueOfCodes z a = fDr_valueOfCodes z' a :=
  vl_loop ha he 11 10 0 9 (by decide) (by decide) (by decide)
theorem vr_step : ∀ k : Nat, k < 10 → ∀ x d : Int, 0 ≤ x → x < 10 ^ (10 - (k + 1)) → 0 ≤ d → d ≤ 9 → x * 10 + d < 10 ^ (10 - k) ∧ x < 10000000000 := by
  intro k hk x d h0 h1 h2 h3
  have h9 : k = 0 ∨ k = 1 ∨ k = 2 ∨ k = 3 ∨ k = 4 ∨ k = 5 ∨ k = 6 ∨ k = 7 ∨ k = 8 ∨ k = 9 := by omega
  rcases h9 with rfl | rfl | rfl | rfl | rfl | rfl | rfl | rfl | rfl | rfl <;> (simp only [Nat.reduceSub, Nat.reduceAdd, Int.reducePow] at h1 ⊢; omega)
theorem vr_loop {z : SC} (hc : ∀ j, ck (c_codes z j)) (a : Int32) : ∀ (n k : Nat) (v2 : Int64) (v4 : Int32), k ≤ 10 → k < n → v4.toInt = (k : Int) - 1 → 0 ≤ v2.toInt → v2.toInt < 10 ^ (10 - k) → fDr_valueOfCodes_6 n z a v2 v4 = -1 ∨ rg (fDr_valueOfCodes_6 n z a v2 v4) := by
  intro n
  induction n with
  | zero => intro k v2 v4 _ h; omega
  | succ n ih =>
    intro k v2 v4 hk hn h4 hv hv2
    rw [fDr_valueOfCodes_6.eq_2]
    have e0 : (0 : Int32).toInt = 0 := by decide
    cases k with
    | zero =>
      have h : v4 < 0 := by rw [Int32.lt_iff_toInt_lt, h4, e0]; omega
      rw [if_pos h]
      exact .inr ⟨hv, by simpa using hv2⟩
    | succ k =>
      have h : ¬ v4 < 0 := by rw [Int32.lt_iff_toInt_lt, h4, e0]; omega
      rw [if_neg h]
      by_cases hd : 0 ≤ fDr_digitOf (c_codes z ((a * 10 + v4).toNatClampNeg))
      · rw [if_pos hd]
        rw [Int32.le_iff_toInt_le, e0] at hd
        have hd9 := (dig_rg (hc ((a * 10 + v4).toNatClampNeg))).2
        generalize fDr_digitOf (c_codes z ((a * 10 + v4).toNatClampNeg)) = d at hd hd9
        obtain ⟨s1, s2⟩ := vr_step k (by omega) v2.toInt d.toInt hv hv2 hd hd9
        have f1 : (v2 * 10).toInt = v2.toInt * 10 := by rw [Kit.i64_mul (by rw [c_10]; omega) (by rw [c_10]; omega), c_10]
        have f3 : (v2 * 10 + d.toInt64).toInt = v2.toInt * 10 + d.toInt := by
          rw [Kit.i64_add (by rw [f1, Kit.i64_of_i32]; omega) (by rw [f1, Kit.i64_of_i32]; omega), f1, Kit.i64_of_i32]
        have em : (-1 : Int32).toInt = -1 := by decide
        exact ih k _ _ (by omega) (by omega) (by rw [Kit.i32_add (by rw [h4, em]; omega) (by rw [h4, em]; omega), h4, em]; omega) (by rw [f3]; omega) (by rw [f3]; exact s1)
      · rw [if_neg hd]
        exact .inl rfl
theorem val_rg {z : SC} (hc : ∀ j, ck (c_codes z j)) (a : Int32) : fDr_valueOfCodes z a = -1 ∨ rg (fDr_valueOfCodes z a) :=
  vr_loop hc a 11 10 0 9 (by decide) (by decide) (by decide) (by decide) (by decide)
/-- the drum's own order: every code has seven bits, every value is what the codes say -/
def dOk (z : SC) : Prop := (∀ j, ck (c_codes z j)) ∧ ∀ a : Int32, vp_in a 200 → c_vals z a.toNatClampNeg = fDr_valueOfCodes z a
theorem stC_ck {a : Int32} (ha : vp_in a 200) {v : Int64} (hv : rg v) {g : Nat → Int32} (hg : ∀ j, ck (g j)) : ∀ j, ck (stC 11 g a v 0 j) := by
  intro j
  by_cases h : 10 * a.toNatClampNeg ≤ j ∧ j < 10 * a.toNatClampNeg + 10
  · have e : j = 10 * a.toNatClampNeg + (j - 10 * a.toNatClampNeg) := by omega
    rw [e, stC_in ha 11 0 v g _ (by decide) (by omega) (by omega), Nat.sub_zero]
    have h2 := st_dig hv (j - 10 * a.toNatClampNeg)
    have hr : 0 ≤ v.toInt / 10 ^ (j - 10 * a.toNatClampNeg) % 10 ∧ v.toInt / 10 ^ (j - 10 * a.toNatClampNeg) % 10 ≤ 9 := by omega
    exact (cd_of (by rw [h2]; exact hr.1) (by rw [h2]; exact hr.2)).2
  · rw [stC_out ha 11 0 v g j (by decide) (by omega)]
    exact hg j
theorem dOk_store {z : SC} (h : dOk z) {a : Int32} (ha : vp_in a 200) {v : Int64} (hv : rg v) (b : Bool) : dOk (fDr_store z a v b) := by
  have e := store_c z a v b
  have ec : c_codes (fDr_store z a v b) = stC 11 (c_codes z) a v 0 := by rw [e]; rfl
  have ev : c_vals (fDr_store z a v b) = vp_updL (c_vals z) a.toNatClampNeg v := by rw [e]; rfl
  refine ⟨fun j => by rw [ec]; exact stC_ck ha hv h.1 j, fun x hx => ?_⟩
  rw [ev]
  by_cases hxa : x.toNatClampNeg = a.toNatClampNeg
  · have hxe : x = a := by
      obtain ⟨x1, x2⟩ := vp_in_iff.mp hx
      obtain ⟨a1, a2⟩ := vp_in_iff.mp ha
      have h3 : x.toInt.toNat = a.toInt.toNat := hxa
      exact Int32.toInt_inj.mp (by omega)
    subst hxe
    rw [val_store ha hv (c_codes z) ec]
    exact if_pos rfl
  · have h2 : vp_updL (c_vals z) a.toNatClampNeg v x.toNatClampNeg = c_vals z x.toNatClampNeg := if_neg hxa
    rw [h2, h.2 x hx]
    refine val_local hx (fun i hi => ?_)
    rw [ec, stC_out ha 11 0 v (c_codes z) _ (by decide) (by omega)]
