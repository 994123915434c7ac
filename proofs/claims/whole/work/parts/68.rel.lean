/-! fixed times -/
theorem i10 : (10 : Int32).toInt = 10 := by decide
theorem mm10 (d : Int32) : (d % 10) % 10 = d % 10 := by
  apply Int32.toInt_inj.mp
  rw [Int32.toInt_mod, Int32.toInt_mod, i10]
  have hb : -10 < d.toInt.tmod 10 ∧ d.toInt.tmod 10 < 10 := tmod_bounds (by omega)
  generalize d.toInt.tmod 10 = r at hb
  by_cases h : r < 0
  · rw [tm_neg h]; omega
  · rw [Int.tmod_eq_emod_of_nonneg (by omega)]; omega
theorem fx_c (o d : Int32) : fOp_fixedTime o d = fOp_fixedTime o (d % 10) := by
  rw [fOp_fixedTime.eq_1, fOp_fixedTime.eq_1, fOp_fixedTime_28.eq_1, fOp_fixedTime_28.eq_1, fOp_fixedTime_28.eq_1, fOp_fixedTime_28.eq_1, fOp_shiftLength.eq_1, fOp_shiftLength.eq_1, mm10]
theorem fx_m (o d : Int32) : fMo_fixed o d = fMo_fixed o (d % 10) := by
  rw [fMo_fixed.eq_1, fMo_fixed.eq_1, mm10]
theorem fx_in : ∀ k : Fin 100, ∀ j : Fin 19, fOp_fixedTime (nI k.val) (nI j.val - 9) = fMo_fixed (nI k.val) (nI j.val - 9) := by decide +kernel
theorem r_in (d : Int32) : ∃ j : Fin 19, d % 10 = nI j.val - 9 := by
  have hb : -10 < d.toInt.tmod 10 ∧ d.toInt.tmod 10 < 10 := tmod_bounds (by omega)
  have e : (d % 10).toInt = d.toInt.tmod 10 := by rw [Int32.toInt_mod, i10]
  have e9 : (9 : Int32).toInt = 9 := by decide
  refine ⟨⟨(d.toInt.tmod 10 + 9).toNat, by omega⟩, Int32.toInt_inj.mp ?_⟩
  have hn : (nI (d.toInt.tmod 10 + 9).toNat).toInt = d.toInt.tmod 10 + 9 := by rw [nI_toInt (by omega)]; omega
  show _ = (nI (d.toInt.tmod 10 + 9).toNat - 9).toInt
  rw [e, Kit.i32_sub (by rw [hn, e9]; omega) (by rw [hn, e9]; omega), hn, e9]
  omega
theorem fx_eq (o d : Int32) : fOp_fixedTime o d = fMo_fixed o d := by
  rcases op_in o with ⟨k, rfl⟩ | ho
  · obtain ⟨j, hj⟩ := r_in d
    rw [fx_c, fx_m, hj]
    exact fx_in k j
  · rw [fOp_fixedTime.eq_1, kind_out ho, if_neg (by decide), if_neg (by decide), if_neg (out_ne (c := 14) ho (by decide)), if_neg (out_ne (c := 19) ho (by decide)), if_neg (out_ne (c := 70) ho (by decide)), if_neg (out_ne (c := 71) ho (by decide))]
    rw [fMo_fixed.eq_1, if_neg (out_ne (c := 30) ho (by decide)), if_neg (out_ne (c := 35) ho (by decide)), if_neg (out_ne (c := 31) ho (by decide)), if_neg (out_ne (c := 14) ho (by decide)), if_neg (out_ne (c := 19) ho (by decide)), if_neg (out_ne (c := 70) ho (by decide)), if_neg (out_ne (c := 71) ho (by decide)), if_neg (out_ne (c := 69) ho (by decide)), if_neg (out_ne (c := 84) ho (by decide)), reads_out ho, if_neg (by decide)]
theorem fx_b {o d : Int32} (hd : 0 ≤ d.toInt) : 0 ≤ ((fOp_fixedTime o d).toInt64).toInt ∧ ((fOp_fixedTime o d).toInt64).toInt ≤ 20 := by
  rw [Kit.i64_of_i32]
  exact ft_b hd
/-! sums of digits -/
theorem sm_0 : ∀ (n k : Nat) (s : Int32), 10 - k < n → fDg_sum_7 n s 0 k = s := by
  intro n
  induction n with
  | zero => intro k s h; omega
  | succ n ih =>
    intro k s h
    rw [fDg_sum_7.eq_2]
    by_cases hk : 10 ≤ k
    · rw [if_pos hk]
    · have e1 : ((0 : Int64) % 10).toInt32 = 0 := by decide
      have e2 : (0 : Int64) / 10 = 0 := by decide
      rw [if_neg hk, e1, e2, i_add0, ih (k + 1) s (by omega)]
theorem sm_st : ∀ r : Nat, r ≤ 9 → ∀ x : Int, 0 < x → x < 10 ^ (r + 1) → x / 10 < 10 ^ r ∧ x / 10 < x ∧ 0 ≤ x / 10 ∧ x < 10000000000 := by
  intro r hr x h0 h1
  have h9 : r = 0 ∨ r = 1 ∨ r = 2 ∨ r = 3 ∨ r = 4 ∨ r = 5 ∨ r = 6 ∨ r = 7 ∨ r = 8 ∨ r = 9 := by omega
  rcases h9 with rfl | rfl | rfl | rfl | rfl | rfl | rfl | rfl | rfl | rfl <;> (simp only [Nat.reduceAdd, Int.reducePow] at h1 ⊢; omega)
theorem sm_lp : ∀ (r n n' k : Nat) (s : Int32) (v : Int64), k + r = 10 → r < n → v.toInt.toNat < n' → 0 ≤ v.toInt → v.toInt < 10 ^ r → fDg_sum_7 n s v k = fMo_sumOfDigits_4 n' s v := by
  intro r
  induction r with
  | zero =>
    intro n n' k s v hk hn hn' h0 h1
    have hv : v.toInt = 0 := by
      have e : (10 : Int) ^ 0 = 1 := by decide
      rw [e] at h1
      omega
    cases n with
    | zero => omega
    | succ n =>
      cases n' with
      | zero => omega
      | succ n' =>
        rw [fDg_sum_7.eq_2, fMo_sumOfDigits_4.eq_2, if_pos (by omega), if_pos (by rw [Int64.le_iff_toInt_le, c_0]; omega)]
  | succ r ih =>
    intro n n' k s v hk hn hn' h0 h1
    by_cases hv : v.toInt = 0
    · have hv0 : v = 0 := Int64.toInt_inj.mp (by rw [hv, c_0])
      subst hv0
      rw [sm_0 n k s (by omega)]
      cases n' with
      | zero => omega
      | succ n' => rw [fMo_sumOfDigits_4.eq_2, if_pos (by decide)]
    · obtain ⟨p1, p2, p3, p4⟩ := sm_st r (by omega) v.toInt (by omega) h1
      have hd : (v / 10).toInt = v.toInt / 10 := by rw [l_div h0 (by rw [c_10]; omega), c_10]
      cases n with
      | zero => omega
      | succ n =>
        cases n' with
        | zero => omega
        | succ n' =>
          rw [fDg_sum_7.eq_2, fMo_sumOfDigits_4.eq_2, if_neg (by omega), if_neg (by rw [Int64.le_iff_toInt_le, c_0]; omega)]
          exact ih n n' (k + 1) _ _ (by omega) (by omega) (by rw [hd]; omega) (by rw [hd]; exact p3) (by rw [hd]; exact p1)
theorem sm_eq {v : Int64} (hv : rg v) : fDg_sum v = fMo_sumOfDigits v := by
  rw [fDg_sum.eq_1, fMo_sumOfDigits.eq_1]
  exact sm_lp 10 11 _ 0 0 v (by decide) (by decide) (by omega) hv.1 (by have := hv.2; simp only [Int.reducePow]; omega)
theorem sm_bd : ∀ (n k : Nat) (s : Int32) (v : Int64), 10 - k < n → 0 ≤ v.toInt → 0 ≤ s.toInt → s.toInt ≤ 9 * k → k ≤ 10 → 0 ≤ (fDg_sum_7 n s v k).toInt ∧ (fDg_sum_7 n s v k).toInt ≤ 90 := by
  intro n
  induction n with
  | zero => intro k s v h; omega
  | succ n ih =>
    intro k s v h h0 h1 h2 h3
    rw [fDg_sum_7.eq_2]
    by_cases hk : 10 ≤ k
    · rw [if_pos hk]
      omega
    · rw [if_neg hk]
      have hd : (v / 10).toInt = v.toInt / 10 := by rw [l_div h0 (by rw [c_10]; omega), c_10]
      have hm : (v % 10).toInt = v.toInt % 10 := by rw [l_mod h0, c_10]
      have hi : ((v % 10).toInt32).toInt = v.toInt % 10 := by rw [Kit.i32_of_i64 (by rw [hm]; omega) (by rw [hm]; omega), hm]
      have hs : (s + ((v % 10).toInt32)).toInt = s.toInt + v.toInt % 10 := by rw [Kit.i32_add (by rw [hi]; omega) (by rw [hi]; omega), hi]
      exact ih (k + 1) _ _ (by omega) (by rw [hd]; omega) (by rw [hs]; omega) (by rw [hs]; omega) (by omega)
theorem sm_b {v : Int64} (hv : rg v) : 0 ≤ ((2 * (fDg_sum v)).toInt64).toInt ∧ ((2 * (fDg_sum v)).toInt64).toInt ≤ 180 := by
  have h : 0 ≤ (fDg_sum v).toInt ∧ (fDg_sum v).toInt ≤ 90 := sm_bd 11 0 0 v (by decide) hv.1 (by decide) (by decide) (by decide)
  have e2 : (2 : Int32).toInt = 2 := by decide
  rw [Kit.i64_of_i32, Kit.i32_mul (by rw [e2]; omega) (by rw [e2]; omega), e2]
  omega
/-! branches -/
theorem b9_lp {m : SM} {o : Int32} {j : Nat} (ho : o.toInt = 90 + j) (hj : j ≤ 9) : ∀ (n i : Nat) (v : Int64), i ≤ j → j - i < n → fMo_branches_90 n m o v (90 + i) = (if (tD v (j - i)) % 10 = 8 then true else false) := by
  intro n
  induction n with
  | zero => intro i v _ h; omega
  | succ n ih =>
    intro i v hi hn
    rw [fMo_branches_90.eq_2]
    by_cases h : i = j
    · subst h
      have e89 : (89 : Int32).toInt = 89 := by decide
      rw [if_pos (by rw [Int32.le_iff_toInt_le, ho, nI_toInt (by omega)]; omega), if_neg (by rw [Int32.le_iff_toInt_le, ho, e89]; omega), Nat.sub_self]
      rfl
    · rw [if_neg (by rw [Int32.le_iff_toInt_le, ho, nI_toInt (by omega)]; omega)]
      have e : j - i = (j - (i + 1)) + 1 := by omega
      rw [Nat.add_assoc 90 i 1, ih (i + 1) _ (by omega) (by omega), e]
      rfl
theorem dg8 {v : Int64} (hv : rg v) {x : Int32} {j : Nat} (hx : x.toInt = j) (hj : j ≤ 9) : (fDg_digitAt v x = (8 : Int32)) ↔ ((tD v j) % 10 = 8) := by
  have h1 := tD_val j v hv.1
  have h0 : 0 ≤ v.toInt / 10 ^ j := Int.ediv_nonneg hv.1 (Int.pow_nonneg (by omega))
  have h2 : (tD v j % 10).toInt = v.toInt / 10 ^ j % 10 := by rw [l_mod (by rw [h1]; exact h0), h1, c_10]
  have hp := pow_at hx (by omega)
  have hp0 : (0 : Int) < 10 ^ j := Int.pow_pos (by omega)
  have h3 : (v / (fDg_powerOfTen x)).toInt = v.toInt / 10 ^ j := by rw [l_div hv.1 (by rw [hp]; exact hp0), hp]
  have h4 : ((v / (fDg_powerOfTen x)) % 10).toInt = v.toInt / 10 ^ j % 10 := by rw [l_mod (by rw [h3]; exact h0), h3, c_10]
  have h5 : (fDg_digitAt v x).toInt = v.toInt / 10 ^ j % 10 := by
    rw [fDg_digitAt.eq_1, Kit.i32_of_i64 (by rw [h4]; omega) (by rw [h4]; omega), h4]
  have e8 : (8 : Int32).toInt = 8 := by decide
  have l8 : (8 : Int64).toInt = 8 := by decide
  rw [← Int32.toInt_inj, ← Int64.toInt_inj, h5, h2, e8, l8]
theorem e8_iff (o : Int32) : fOp_branchesOnEight o = true ↔ 90 ≤ o.toInt ∧ o.toInt ≤ 99 := by
  rw [fOp_branchesOnEight.eq_1]
  by_cases h1 : o < (90 : Int32)
  · rw [if_pos h1]
    rw [b_lt (k := 90) (by decide)] at h1
    exact ⟨fun h => (by cases h), fun h => by omega⟩
  · rw [if_neg h1]
    rw [b_lt (k := 90) (by decide)] at h1
    have e : (99 : Int32).toInt = 99 := by decide
    by_cases h2 : (99 : Int32) < o
    · rw [if_pos h2]
      rw [Int32.lt_iff_toInt_lt, e] at h2
      exact ⟨fun h => (by cases h), fun h => by omega⟩
    · rw [if_neg h2]
      rw [Int32.lt_iff_toInt_lt, e] at h2
      exact ⟨fun _ => by omega, fun _ => rfl⟩
/-- whether the machine branches, and what it does to the overflow -/
theorem br_R {z : SC} {m : SM} (hX : c_dist z = m_dist m ∧ rg (c_dist z)) (hA : c_acc z = m_acc m) {o : Int32} (ho : 0 ≤ o.toInt ∧ o.toInt ≤ 99) : fPr_takesBranch z o = (fMo_branches m o, if o = 47 then c_ovf_s z false else z) := by
  have e1 : c_upper z = m_upper m := congrArg (·.1) hA
  have e2 : c_lower z = m_lower m := congrArg (·.2.1) hA
  have e3 : c_amin z = m_amin m := congrArg (·.2.2.1) hA
  have e4 : c_ovf z = m_ovf m := congrArg (·.2.2.2) hA
  rw [fPr_takesBranch.eq_1, fMo_branches.eq_1]
  by_cases h8 : fOp_branchesOnEight o = true
  · rw [if_pos h8]
    rw [e8_iff] at h8
    have n44 : ¬ o = 44 := fun h => by rw [h] at h8; exact absurd h8.1 (by decide)
    have n45 : ¬ o = 45 := fun h => by rw [h] at h8; exact absurd h8.1 (by decide)
    have n46 : ¬ o = 46 := fun h => by rw [h] at h8; exact absurd h8.1 (by decide)
    have n47 : ¬ o = 47 := fun h => by rw [h] at h8; exact absurd h8.1 (by decide)
    rw [if_neg n44, if_neg n45, if_neg n46, if_neg n47, if_neg n47]
    have hj : o.toInt = 90 + ((o.toInt - 90).toNat : Nat) := by omega
    have e90 : (90 : Int32).toInt = 90 := by decide
    have hs : (o - 90).toInt = ((o.toInt - 90).toNat : Nat) := by rw [Kit.i32_sub (by rw [e90]; omega) (by rw [e90]; omega), e90]; omega
    rw [b9_lp hj (by omega) 10 0 _ (by omega) (by omega), Nat.sub_zero, ← hX.1]
    have hg := dg8 hX.2 hs (by omega)
    by_cases h : fDg_digitAt (c_dist z) (o - 90) = 8
    · rw [if_pos h, if_pos (hg.mp h)]
    · rw [if_neg h, if_neg (fun h2 => h (hg.mpr h2))]
  · rw [if_neg h8]
    rw [e8_iff] at h8
    by_cases n44 : o = 44
    · have n47 : ¬ o = 47 := fun h => by rw [n44] at h; exact absurd h (by decide)
      rw [if_pos n44, if_pos n44, if_neg n47, fAc_upperDigits.eq_1, e1]
      by_cases h : m_upper m = 0
      · rw [if_pos h, if_pos h]
      · rw [if_neg h, if_neg h]
    · rw [if_neg n44, if_neg n44]
      by_cases n45 : o = 45
      · have n47 : ¬ o = 47 := fun h => by rw [n45] at h; exact absurd h (by decide)
        rw [if_pos n45, if_pos n45, if_neg n47, fAc_isZero.eq_1, e1, e2]
        by_cases h : m_upper m = 0
        · rw [if_pos h, if_pos h]
          by_cases h' : m_lower m = 0
          · rw [if_pos h', if_pos h', if_pos rfl]
          · rw [if_neg h', if_neg h', if_neg (by decide)]
        · rw [if_neg h, if_neg h, if_neg (by decide)]
      · rw [if_neg n45, if_neg n45]
        by_cases n46 : o = 46
        · have n47 : ¬ o = 47 := fun h => by rw [n46] at h; exact absurd h (by decide)
          rw [if_pos n46, if_pos n46, if_neg n47, fAc_isMinus.eq_1, e3]
        · rw [if_neg n46, if_neg n46]
          by_cases n47 : o = 47
          · rw [if_pos n47, if_pos n47, if_pos n47, fAc_takeOverflow.eq_1, e4]
          · rw [if_neg n47, if_neg n47, if_neg n47, fMo_branches_90.eq_2]
            have e89 : (89 : Int32).toInt = 89 := by decide
            rw [if_pos (by rw [Int32.le_iff_toInt_le, nI_toInt (by decide)]; omega), if_pos (by rw [Int32.le_iff_toInt_le, e89]; omega)]
theorem nb_in : ∀ k : Fin 100, (fMo_reads (nI k.val) || fMo_writes (nI k.val)) = true → fOp_branchesOnEight (nI k.val) = false ∧ ¬ nI k.val = 44 ∧ ¬ nI k.val = 45 ∧ ¬ nI k.val = 46 ∧ ¬ nI k.val = 47 := by decide +kernel
theorem nb_R {o : Int32} (ho : (fMo_reads o || fMo_writes o) = true) (z : SC) : fPr_takesBranch z o = (false, z) := by
  rcases op_in o with ⟨k, rfl⟩ | h
  · obtain ⟨h8, n1, n2, n3, n4⟩ := nb_in k ho
    rw [fPr_takesBranch.eq_1, h8, if_neg (by decide), if_neg n1, if_neg n2, if_neg n3, if_neg n4]
  · rw [reads_out h, writes_out h] at ho
    cases ho
/-! adding -/
theorem ad_in : ∀ k : Fin 100, fOp_adds (nI k.val) = true → nI k.val = 10 ∨ nI k.val = 11 ∨ nI k.val = 15 ∨ nI k.val = 16 ∨ nI k.val = 60 ∨ nI k.val = 61 ∨ nI k.val = 65 ∨ nI k.val = 66 ∨ nI k.val = 67 := by decide +kernel
theorem ad_of {o : Int32} (ho : fOp_adds o = true) : o = 10 ∨ o = 11 ∨ o = 15 ∨ o = 16 ∨ o = 60 ∨ o = 61 ∨ o = 65 ∨ o = 66 ∨ o = 67 := by
  rcases op_in o with ⟨k, rfl⟩ | h
  · exact ad_in k ho
  · rw [fOp_adds.eq_1, kind_out h] at ho
    exact absurd ho (by decide)
theorem rg_0 : rg 0 := ⟨by decide, by decide⟩
theorem rs_acc (z : SC) : c_acc (fAc_reset z) = (0, 0, false, c_ovf z) := rfl
theorem rs_ss (z : SC) (w : Acc) : c_acc_s (fAc_reset z) w = c_acc_s z w := rfl
theorem ms_acc (m : SM) : m_acc (m_amin_s (m_lower_s (m_upper_s m 0) 0) false) = (0, 0, false, m_ovf m) := rfl
theorem ms_ss (m : SM) (w : Acc) : m_acc_s (m_amin_s (m_lower_s (m_upper_s m 0) 0) false) w = m_acc_s m w := rfl
/-- what an adding operation adds: to the upper half or not, with which sign, behind a reset or not -/
theorem aw_14 (z : SC) (o : Int32) (v : Int64) (b : Bool) {u s : Bool} (h2 : fOp_subtracts o = s) (h3 : fOp_addsToUpper o = u) (h7 : ¬ o = 67) : fPr_addWord_14 z o v b = if u = true then fAc_add z v 0 (b ^^ s) else fAc_add z 0 v (b ^^ s) := by
  unfold fPr_addWord_14 fPr_addWord_29 fPr_addWord_30 fPr_addWord_46 fPr_addWord_48
  rw [h2, h3, if_neg h7]
  cases b <;> cases s <;> simp
theorem aw_67 (z : SC) (v : Int64) (b : Bool) : fPr_addWord_14 z 67 v b = fAc_add z 0 v false := by
  have h2 : fOp_subtracts 67 = false := by decide
  have h3 : fOp_addsToUpper 67 = false := by decide
  unfold fPr_addWord_14 fPr_addWord_29 fPr_addWord_30 fPr_addWord_46 fPr_addWord_48
  rw [h2, h3]
  cases b <;> simp
theorem aw_c (z : SC) (v : Int64) (b : Bool) : fPr_addWord z 10 v b = fAc_add z v 0 b ∧ fPr_addWord z 11 v b = fAc_add z v 0 (!b) ∧ fPr_addWord z 15 v b = fAc_add z 0 v b ∧ fPr_addWord z 16 v b = fAc_add z 0 v (!b) ∧ fPr_addWord z 60 v b = fAc_add (fAc_reset z) v 0 b ∧ fPr_addWord z 61 v b = fAc_add (fAc_reset z) v 0 (!b) ∧ fPr_addWord z 65 v b = fAc_add (fAc_reset z) 0 v b ∧ fPr_addWord z 66 v b = fAc_add (fAc_reset z) 0 v (!b) ∧ fPr_addWord z 67 v b = fAc_add (fAc_reset z) 0 v false := by
  have bf : (b ^^ false) = b := by cases b <;> rfl
  have bt : (b ^^ true) = !b := by cases b <;> rfl
  refine ⟨?_, ?_, ?_, ?_, ?_, ?_, ?_, ?_, ?_⟩
  · rw [fPr_addWord.eq_1, if_neg (by decide), aw_14 z 10 v b (u := true) (s := false) (by decide) (by decide) (by decide), if_pos rfl, bf]
  · rw [fPr_addWord.eq_1, if_neg (by decide), aw_14 z 11 v b (u := true) (s := true) (by decide) (by decide) (by decide), if_pos rfl, bt]
  · rw [fPr_addWord.eq_1, if_neg (by decide), aw_14 z 15 v b (u := false) (s := false) (by decide) (by decide) (by decide), if_neg (by decide), bf]
  · rw [fPr_addWord.eq_1, if_neg (by decide), aw_14 z 16 v b (u := false) (s := true) (by decide) (by decide) (by decide), if_neg (by decide), bt]
  · rw [fPr_addWord.eq_1, if_pos (by decide), aw_14 _ 60 v b (u := true) (s := false) (by decide) (by decide) (by decide), if_pos rfl, bf]
  · rw [fPr_addWord.eq_1, if_pos (by decide), aw_14 _ 61 v b (u := true) (s := true) (by decide) (by decide) (by decide), if_pos rfl, bt]
  · rw [fPr_addWord.eq_1, if_pos (by decide), aw_14 _ 65 v b (u := false) (s := false) (by decide) (by decide) (by decide), if_neg (by decide), bf]
  · rw [fPr_addWord.eq_1, if_pos (by decide), aw_14 _ 66 v b (u := false) (s := true) (by decide) (by decide) (by decide), if_neg (by decide), bt]
  · rw [fPr_addWord.eq_1, if_pos (by decide), aw_67]
theorem su_21 (z : SM) {o : Int32} (v : Int64) (b : Bool) : (o % 10 = 0 → fMo_sum_21 z o v b = fMo_add z v 0 b) ∧ (o % 10 = 1 → fMo_sum_21 z o v b = fMo_add z v 0 (!b)) ∧ (o % 10 = 5 → fMo_sum_21 z o v b = fMo_add z 0 v b) ∧ (o % 10 = 6 → fMo_sum_21 z o v b = fMo_add z 0 v (!b)) ∧ (o % 10 = 7 → fMo_sum_21 z o v b = fMo_add z 0 v false) := by
  refine ⟨fun h => ?_, fun h => ?_, fun h => ?_, fun h => ?_, fun h => ?_⟩
  · rw [fMo_sum_21.eq_1, h, if_neg (by decide), if_neg (by decide), if_neg (by decide), fMo_sum_66.eq_1, if_neg (by decide)]
  · cases b
    · rw [fMo_sum_21.eq_1, h, if_neg (by decide), if_pos (by decide), fMo_sum_51.eq_1, if_neg (by decide), fMo_sum_66.eq_1, if_neg (by decide)]; rfl
    · rw [fMo_sum_21.eq_1, h, if_neg (by decide), if_pos (by decide), fMo_sum_51.eq_1, if_pos (by decide), fMo_sum_66.eq_1, if_neg (by decide)]; rfl
  · rw [fMo_sum_21.eq_1, h, if_neg (by decide), if_neg (by decide), if_neg (by decide), fMo_sum_66.eq_1, if_pos (by decide)]
  · cases b
    · rw [fMo_sum_21.eq_1, h, if_neg (by decide), if_neg (by decide), if_pos (by decide), fMo_sum_51.eq_1, if_neg (by decide), fMo_sum_66.eq_1, if_pos (by decide)]; rfl
    · rw [fMo_sum_21.eq_1, h, if_neg (by decide), if_neg (by decide), if_pos (by decide), fMo_sum_51.eq_1, if_pos (by decide), fMo_sum_66.eq_1, if_pos (by decide)]; rfl
  · rw [fMo_sum_21.eq_1, h, if_pos (by decide), fMo_sum_66.eq_1, if_pos (by decide)]
theorem aw_m (m : SM) (v : Int64) (b : Bool) : fMo_sum m 10 v b = fMo_add m v 0 b ∧ fMo_sum m 11 v b = fMo_add m v 0 (!b) ∧ fMo_sum m 15 v b = fMo_add m 0 v b ∧ fMo_sum m 16 v b = fMo_add m 0 v (!b) ∧ fMo_sum m 60 v b = fMo_add (m_amin_s (m_lower_s (m_upper_s m 0) 0) false) v 0 b ∧ fMo_sum m 61 v b = fMo_add (m_amin_s (m_lower_s (m_upper_s m 0) 0) false) v 0 (!b) ∧ fMo_sum m 65 v b = fMo_add (m_amin_s (m_lower_s (m_upper_s m 0) 0) false) 0 v b ∧ fMo_sum m 66 v b = fMo_add (m_amin_s (m_lower_s (m_upper_s m 0) 0) false) 0 v (!b) ∧ fMo_sum m 67 v b = fMo_add (m_amin_s (m_lower_s (m_upper_s m 0) 0) false) 0 v false := by
  refine ⟨?_, ?_, ?_, ?_, ?_, ?_, ?_, ?_, ?_⟩
  · rw [fMo_sum.eq_1, if_pos (by decide)]; exact (su_21 _ v b).1 (by decide)
  · rw [fMo_sum.eq_1, if_pos (by decide)]; exact (su_21 _ v b).2.1 (by decide)
  · rw [fMo_sum.eq_1, if_pos (by decide)]; exact (su_21 _ v b).2.2.1 (by decide)
  · rw [fMo_sum.eq_1, if_pos (by decide)]; exact (su_21 _ v b).2.2.2.1 (by decide)
  · rw [fMo_sum.eq_1, if_neg (by decide)]; exact (su_21 _ v b).1 (by decide)
  · rw [fMo_sum.eq_1, if_neg (by decide)]; exact (su_21 _ v b).2.1 (by decide)
  · rw [fMo_sum.eq_1, if_neg (by decide)]; exact (su_21 _ v b).2.2.1 (by decide)
  · rw [fMo_sum.eq_1, if_neg (by decide)]; exact (su_21 _ v b).2.2.2.1 (by decide)
  · rw [fMo_sum.eq_1, if_neg (by decide)]; exact (su_21 _ v b).2.2.2.2 (by decide)
theorem rs_both {z : SC} {m : SM} {u v : Int64} (b : Bool) (he : c_acc z = m_acc m) (hu : rg u) (hv : rg v) : ∃ w, aOk w ∧ fAc_add (fAc_reset z) u v b = c_acc_s z w ∧ fMo_add (m_amin_s (m_lower_s (m_upper_s m 0) 0) false) u v b = m_acc_s m w := by
  have e4 : c_ovf z = m_ovf m := congrArg (·.2.2.2) he
  obtain ⟨w, h1, h2, h3⟩ := add_both (z := fAc_reset z) (m := m_amin_s (m_lower_s (m_upper_s m 0) 0) false) (u := u) (v := v) b (by rw [rs_acc, ms_acc, e4]) (by rw [rs_acc]; exact ⟨rg_0, rg_0⟩) hu hv
  exact ⟨w, h1, by rw [h2, rs_ss], by rw [h3, ms_ss]⟩
theorem aw_both {z : SC} {m : SM} {o : Int32} {v : Int64} (b : Bool) (ho : fOp_adds o = true) (h : rA z m) (hv : rg v) : ∃ w, aOk w ∧ fPr_addWord z o v b = c_acc_s z w ∧ fMo_sum m o v b = m_acc_s m w := by
  obtain ⟨c1, c2, c3, c4, c5, c6, c7, c8, c9⟩ := aw_c z v b
  obtain ⟨m1, m2, m3, m4, m5, m6, m7, m8, m9⟩ := aw_m m v b
  rcases ad_of ho with rfl | rfl | rfl | rfl | rfl | rfl | rfl | rfl | rfl
  · rw [c1, m1]; exact add_both b h.1 h.2 hv rg_0
  · rw [c2, m2]; exact add_both (!b) h.1 h.2 hv rg_0
  · rw [c3, m3]; exact add_both b h.1 h.2 rg_0 hv
  · rw [c4, m4]; exact add_both (!b) h.1 h.2 rg_0 hv
  · rw [c5, m5]; exact rs_both b h.1 hv rg_0
  · rw [c6, m6]; exact rs_both (!b) h.1 hv rg_0
  · rw [c7, m7]; exact rs_both b h.1 rg_0 hv
  · rw [c8, m8]; exact rs_both (!b) h.1 rg_0 hv
  · rw [c9, m9]; exact rs_both false h.1 rg_0 hv
