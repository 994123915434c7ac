def kp (z z' : SC) : Prop := c_cfirst z' = c_cfirst z ∧ c_pcount z' = c_pcount z
def c_J (z : SC) : Prop := vp_in (c_cfirst z) 20 ∧ 0 ≤ (c_pcount z).toInt
theorem J_kp {z z' : SC} (h : kp z z') (hJ : c_J z) : c_J z' := by
  unfold c_J
  rw [h.1, h.2]
  exact hJ
theorem kp_rf (z : SC) : kp z z := ⟨rfl, rfl⟩
theorem kp_tr {x y z : SC} (h1 : kp x y) (h2 : kp y z) : kp x z := ⟨h2.1.trans h1.1, h2.2.trans h1.2⟩
theorem kp_store6 : ∀ (n : Nat) (z : SC) (a : Int32) (v : Int64) (b : Bool) (v5 : Int64) (v7 : Nat), kp z (fDr_store_6 n z a v b v5 v7) := by
  intro n
  induction n with
  | zero => intro z a v b v5 v7; exact ⟨rfl, rfl⟩
  | succ n ih =>
    intro z a v b v5 v7
    rw [fDr_store_6.eq_2]
    split
    · exact ⟨rfl, rfl⟩
    · exact ih _ _ _ _ _ _
theorem kp_store (z : SC) (a : Int32) (v : Int64) (b : Bool) : kp z (fDr_store z a v b) := kp_store6 _ _ _ _ _ _ _
theorem kp_add77 (z : SC) (x y : Int64) : kp z (fAc_add_77 z x y) := by
  unfold fAc_add_77
  split <;> exact ⟨rfl, rfl⟩
theorem kp_add61 (z : SC) (b : Bool) (x y : Int64) : kp z (fAc_add_61 z b x y) := kp_add77 (c_amin_s z b) _ _
theorem kp_add14 (z : SC) (s0 : Int32) (u w : Int64) (b : Bool) : kp z (fAc_add_14 z s0 u w b) := by
  unfold fAc_add_14
  split
  · exact kp_add61 _ _ _ _
  · split
    · split
      · exact kp_add77 _ _ _
      · exact kp_add61 _ _ _ _
    · exact kp_add77 _ _ _
theorem kp_add (z : SC) (u w : Int64) (b : Bool) : kp z (fAc_add z u w b) := by
  unfold fAc_add
  split <;> exact kp_add14 _ _ _ _ _
theorem kp_mul (z : SC) (v : Int64) (b : Bool) : kp z (fAc_multiply z v b) := by
  unfold fAc_multiply fAc_multiply_44
  split <;> exact ⟨rfl, rfl⟩
theorem kp_div40 : ∀ (n : Nat) (z : SC) (v : Int64) (b : Bool) (v4 v6 v8 : Int64) (v10 : Nat), kp z (fAc_divide_40 n z v b v4 v6 v8 v10).2 := by
  intro n
  induction n with
  | zero => intro z v b v4 v6 v8 v10; exact ⟨rfl, rfl⟩
  | succ n ih =>
    intro z v b v4 v6 v8 v10
    rw [fAc_divide_40.eq_2]
    split
    · split <;> exact ⟨rfl, rfl⟩
    · exact ih _ _ _ _ _ _ _
theorem kp_div (z : SC) (v : Int64) (b : Bool) : kp z (fAc_divide z v b).2 := by
  unfold fAc_divide
  split
  · exact ⟨rfl, rfl⟩
  · split
    · exact kp_div40 _ _ _ _ _ _ _ _
    · exact ⟨rfl, rfl⟩
theorem kp_sr (z : SC) (x : Int32) : kp z (fAc_shiftRight z x) := ⟨rfl, rfl⟩
theorem kp_sl (z : SC) (x : Int32) : kp z (fAc_shiftLeft z x) := ⟨rfl, rfl⟩
theorem kp_srr (z : SC) (x : Int32) : kp z (fAc_shiftAndRound z x) := by
  unfold fAc_shiftAndRound fAc_shiftAndRound_11
  split
  · exact kp_sr _ _
  · exact kp_tr (kp_sr z x) (kp_add _ _ _ _)
theorem kp_shift (z : SC) (o x : Int32) : kp z (fPr_shift z o x) := by
  unfold fPr_shift
  by_cases h1 : o = (35 : Int32)
  · rw [if_pos h1]; exact kp_sl _ _
  · rw [if_neg h1]
    by_cases h2 : o = (30 : Int32)
    · rw [if_pos h2]; exact kp_sr _ _
    · rw [if_neg h2]; exact kp_srr _ _
theorem kp_addW48 (z : SC) (o : Int32) (v : Int64) (b : Bool) : kp z (fPr_addWord_48 z o v b) := by
  unfold fPr_addWord_48
  split <;> exact kp_add _ _ _ _
theorem kp_lk : ∀ (n : Nat) (z : SC) (a v2 v3 : Int32), kp z (fPr_lookUp_12 n z a v2 v3).2 := by
  intro n
  induction n with
  | zero => intro z a v2 v3; exact ⟨rfl, rfl⟩
  | succ n ih =>
    intro z a v2 v3
    rw [fPr_lookUp_12.eq_2]
    split
    · exact ⟨rfl, rfl⟩
    · split
      · split
        · split
          · exact ih _ _ _ _
          · exact ⟨rfl, rfl⟩
        · exact ⟨rfl, rfl⟩
      · split
        · split
          · exact ih (c_time_s z _) _ _ _
          · exact ⟨rfl, rfl⟩
        · exact ⟨rfl, rfl⟩
theorem kp_tb (z : SC) (o : Int32) : kp z (fPr_takesBranch z o).2 := by
  unfold fPr_takesBranch
  repeat' split
  all_goals exact ⟨rfl, rfl⟩
theorem J_readCard {z : SC} (h : c_J z) (a : Int32) : c_J (fPr_readCard z a).2 := by
  unfold fPr_readCard
  split
  · exact h
  · have h1 := J_kp (kp_store z a (fCd_firstValue z) (fCd_firstIsMinus z)) h
    generalize fDr_store z a (fCd_firstValue z) (fCd_firstIsMinus z) = y at h1
    refine ⟨?_, h1.2⟩
    show vp_in ((c_cfirst y + 1) % 20) 20
    obtain ⟨a1, a2⟩ := vp_in_iff.mp h1.1
    have e : (20 : Int32).toInt = 20 := by decide
    have e1 := i_inc (x := c_cfirst y) (by omega) a1
    refine vp_in_iff.mpr ?_
    rw [Kit.i32_rem_nonneg (by omega), e1, e]
    omega
theorem J_punch {z : SC} (h : c_J z) (v : Int64) (b : Bool) : c_J (fPr_punchWord z v b).2 := by
  unfold fPr_punchWord
  by_cases h1 : fPu_isFull z = true
  · rw [if_pos h1]; exact h
  · rw [if_neg h1]
    refine ⟨h.1, ?_⟩
    show 0 ≤ (c_pcount z + 1).toInt
    obtain ⟨a1, a2⟩ := vp_in_iff.mp (pu_in h.2 h1)
    rw [i_inc (by omega) a1]
    omega
theorem J_w99 {z : SC} (h : c_J z) (a : Int32) : c_J (fPr_write_99 z a).2 := J_kp (kp_store _ _ _ _) h
theorem J_sd {z : SC} (h : c_J z) (v : Int64) (b : Bool) : c_J (fPr_setDistributor z v b) := h
theorem J_write {z : SC} (h : c_J z) (o a : Int32) : c_J (fPr_write z o a).2 := by
  unfold fPr_write
  split
  · exact J_readCard h a
  · split
    · exact J_w99 (J_sd h _ _) a
    · split
      · exact J_w99 (J_sd h _ _) a
      · split
        · exact J_w99 (J_sd h _ _) a
        · exact J_w99 h a
theorem J_114 {z : SC} (h : c_J z) (v : Int64) (b : Bool) (x : Int32) : c_J (fPr_read_114 z v b x).2 := by
  unfold fPr_read_114
  split <;> exact h
theorem kp_addW30 (z : SC) (s0 : Bool) (o : Int32) (v : Int64) : kp z (fPr_addWord_30 z s0 o v) := by
  unfold fPr_addWord_30 fPr_addWord_46
  split <;> exact kp_addW48 _ _ _ _
theorem kp_addW14 (z : SC) (o : Int32) (v : Int64) (b : Bool) : kp z (fPr_addWord_14 z o v b) := by
  unfold fPr_addWord_14 fPr_addWord_29
  split
  · split <;> exact kp_addW30 _ _ _ _
  · exact kp_addW30 _ _ _ _
theorem kp_addW (z : SC) (o : Int32) (v : Int64) (b : Bool) : kp z (fPr_addWord z o v b) := by
  unfold fPr_addWord
  split
  · exact kp_tr (y := fAc_reset z) ⟨rfl, rfl⟩ (kp_addW14 _ _ _ _)
  · exact kp_addW14 _ _ _ _
theorem kp_pmul (z : SC) (v : Int64) (b : Bool) : kp z (fPr_multiply z v b) := by
  unfold fPr_multiply
  generalize hT : c_time z + (2 * fDg_sum (fAc_upperDigits z)).toInt64 = x
  exact kp_tr (y := c_time_s z x) ⟨rfl, rfl⟩ (kp_mul _ _ _)
theorem kp_pdiv (z : SC) (v : Int64) (b : Bool) : kp z (fPr_divide z v b).2 := by
  unfold fPr_divide
  have h := kp_div z v b
  generalize fAc_divide z v b = y at h
  by_cases h1 : y.1 = true
  · rw [if_pos h1]
    unfold fPr_divide_14
    generalize c_time y.2 + (2 * fDg_sum (fAc_lowerDigits y.2)).toInt64 = x
    exact h
  · rw [if_neg h1]; exact h
theorem J_47 {z : SC} (h : c_J z) (o : Int32) (v : Int64) (b : Bool) (x : Int32) : c_J (fPr_read_47 z o v b x).2 := by
  unfold fPr_read_47
  split
  · exact J_114 (J_kp (kp_pdiv _ _ _) h) _ _ _
  · split
    · exact J_114 (J_punch h _ _) _ _ _
    · split
      · exact J_114 (J_kp (kp_pmul _ _ _) h) _ _ _
      · split
        · exact J_114 (J_kp (kp_addW _ _ _ _) h) _ _ _
        · exact J_114 h _ _ _
theorem J_read {z : SC} (h : c_J z) (o a : Int32) : c_J (fPr_read z o a).2 := by
  unfold fPr_read
  split
  · exact J_kp (kp_lk _ _ _ _ _) h
  · split
    · exact J_47 h _ _ _ _
    · exact h
theorem J_wait {z : SC} (h : c_J z) (a : Int32) : c_J (fPr_waitAndAccess z a) := by
  unfold fPr_waitAndAccess
  generalize c_time z + _ = x
  exact h
theorem J_op {z : SC} (h : c_J z) (o a : Int32) : c_J (fPr_operate z o a).2 := by
  unfold fPr_operate
  split
  · split
    · exact h
    · split
      · exact J_kp (kp_shift _ _ _) h
      · split
        · split
          · split
            · exact J_write (J_wait h a) o a
            · exact J_read (J_wait h a) o a
          · exact h
        · exact h
  · exact h
theorem J_95 {z : SC} (h : c_J z) (v1 : Int64) (v3 v4 v5 : Int32) : c_J (fPr_step_95 z v1 v3 v4 v5).2 := by
  unfold fPr_step_95
  split <;> exact J_kp (kp_tb z v3) h
theorem J_68 {z : SC} (h : c_J z) (v1 : Int64) (v3 v4 v5 : Int32) : c_J (fPr_step_68 z v1 v3 v4 v5).2 := by
  unfold fPr_step_68
  split
  · exact h
  · generalize c_time z + _ = x
    exact J_95 (z := c_time_s z x) h _ _ _ _
theorem J_48 {z : SC} (h : c_J z) (v1 : Int64) : c_J (fPr_step_48 z v1).2 := by
  unfold fPr_step_48
  exact J_68 (J_op h _ _) _ _ _ _
theorem J_step {z : SC} (h : c_J z) : c_J (fPr_step z).2 := by
  unfold fPr_step
  have h1 := J_wait h (c_nxt z)
  generalize fPr_waitAndAccess z (c_nxt z) = y at h1
  split
  · split
    · exact J_48 h1 _
    · exact h1
  · exact h
theorem st_hi {z : SC} {x : Int32} (hi : vp_in (c_cfirst z) 20) (hc : 0 ≤ (c_pcount z).toInt) : vp_in (c_cfirst (c_cause_s (fPr_step z).2 x)) 20 := (J_step ⟨hi, hc⟩).1
theorem st_hc {z : SC} {x : Int32} (hi : vp_in (c_cfirst z) 20) (hc : 0 ≤ (c_pcount z).toInt) : 0 ≤ (c_pcount (c_cause_s (fPr_step z).2 x)).toInt := (J_step ⟨hi, hc⟩).2
