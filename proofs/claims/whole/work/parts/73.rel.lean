/-! more calls -/
def bl (b : Bool) : Int64 := if b = true then 1 else 0
theorem u0 (f : Nat → Int64) (x : Int64) : vp_updL f 0 x 0 = x := if_pos rfl
theorem sg_m (m : SM) : (fMo_sign m 0 = (if m_amin m = true then (true, m_code_s m (bb false)) else (false, m_code_s m (bb false)))) ∧ (fMo_sign m 1 = (if m_distm m = true then (true, m_code_s m (bb false)) else (false, m_code_s m (bb false)))) ∧ (fMo_sign m 2 = (if m_ovf m = true then (true, m_code_s m (bb false)) else (false, m_code_s m (bb false)))) := by
  refine ⟨?_, ?_, ?_⟩
  · rw [fMo_sign.eq_1, if_neg (by decide), if_pos (by decide), fMo_sign_15.eq_1, if_pos (by decide), if_pos rfl]
  · rw [fMo_sign.eq_1, if_neg (by decide), if_pos (by decide), fMo_sign_15.eq_1, if_pos (by decide), if_neg (by decide), if_pos rfl]
  · rw [fMo_sign.eq_1, if_neg (by decide), if_pos (by decide), fMo_sign_15.eq_1, if_pos (by decide), if_neg (by decide), if_neg (by decide)]
theorem sg_c (z : SC) : fDM_sign z 0 = c_amin z ∧ fDM_sign z 1 = c_distm z ∧ fDM_sign z 2 = c_ovf z := by
  refine ⟨?_, ?_, ?_⟩
  · rw [fDM_sign.eq_1, if_pos rfl, fPr_accumulatorIsMinus.eq_1, fAc_isMinus.eq_1]
  · rw [fDM_sign.eq_1, if_neg (by decide), if_pos rfl, fPr_distributorIsMinus.eq_1]
  · rw [fDM_sign.eq_1, if_neg (by decide), if_neg (by decide), if_pos rfl, fPr_overflowIsOn.eq_1, fAc_hasOverflow.eq_1]
theorem sign_R {T : Int} {z : SC} {m : SM} (h : RF T z m) (f : Nat → Int64) (a : Int32) : fR T (gLa_sign z f a) (fMo_sign m a).2 ∧ ((gLa_sign z f a).1 = 0 → (gLa_sign z f a).2.2 0 = bl (fMo_sign m a).1) := by
  have hA := h.1.2.2.2.2.1
  have e3 : c_amin z = m_amin m := congrArg (·.2.2.1) hA.1
  have e4 : c_ovf z = m_ovf m := congrArg (·.2.2.2) hA.1
  have e5 := h.1.2.2.2.1.2.2.1
  have key : ∀ s : Bool, (fR T (if s = true then (0, z, vp_updL f 0 1) else (0, z, vp_updL f 0 0)) ((if s = true then (true, m_code_s m (bb false)) else (false, m_code_s m (bb false))) : Bool × SM).2) ∧ ((if s = true then (0, z, vp_updL f 0 1) else (0, z, vp_updL f 0 0) : Int32 × SC × (Nat → Int64)).1 = 0 → (if s = true then (0, z, vp_updL f 0 1) else (0, z, vp_updL f 0 0) : Int32 × SC × (Nat → Int64)).2.2 0 = bl ((if s = true then (true, m_code_s m (bb false)) else (false, m_code_s m (bb false))) : Bool × SM).1) := by
    intro s
    cases s
    · exact ⟨⟨RF_code h 0, rfl⟩, fun _ => u0 f 0⟩
    · exact ⟨⟨RF_code h 0, rfl⟩, fun _ => u0 f 1⟩
  rw [gLa_sign.eq_1]
  by_cases h0 : a = 0
  · subst h0
    rw [if_pos (.inl rfl), (sg_m m).1, (sg_c z).1, e3]
    exact key _
  · by_cases h1 : a = 1
    · subst h1
      rw [if_pos (.inr (.inl rfl)), (sg_m m).2.1, (sg_c z).2.1, e5]
      exact key _
    · by_cases h2 : a = 2
      · subst h2
        rw [if_pos (.inr (.inr rfl)), (sg_m m).2.2, (sg_c z).2.2, e4]
        exact key _
      · rw [if_neg (fun e => by rcases e with e | e | e; exact h0 e; exact h1 e; exact h2 e), fMo_sign.eq_1, fMo_sign_10.eq_1]
        have n1 : fMo_sign_15 m true a = (false, m_code_s m 1) := by
          rw [fMo_sign_15.eq_1, if_neg (by decide)]
          rfl
        rw [n1]
        have e2 : (2 : Int32).toInt = 2 := by decide
        by_cases h4 : a < 0
        · rw [if_pos h4]
          exact ⟨⟨RF_code h 1, rfl⟩, fun e => (no1 e).elim⟩
        · have h5 : ¬ a ≤ (2 : Int32) := by
            have g0 : a.toInt ≠ 0 := fun e => h0 (Int32.toInt_inj.mp (by rw [e]; decide))
            have g1 : a.toInt ≠ 1 := fun e => h1 (Int32.toInt_inj.mp (by rw [e]; decide))
            have g2 : a.toInt ≠ 2 := fun e => h2 (Int32.toInt_inj.mp (by rw [e]; decide))
            have g3 := i_nn h4
            rw [Int32.le_iff_toInt_le, e2]
            omega
          rw [if_neg h4, if_neg h5]
          exact ⟨⟨RF_code h 1, rfl⟩, fun e => (no1 e).elim⟩
theorem get_q {z : SC} {m : SM} (h : rD z m) {a : Int32} (ha : fMo_isAddress a = true) : ∃ x, fDM_get z a = x ∧ fMo_get_13 m false a = (x, m_code_s m 0) := by
  have hin := in_of ha
  have hD : rD z (m_code_s m 0) := rD_mv h rfl rfl
  have hv := (vd_R hD hin).1
  have hl := (vl_R hD hin).1
  have hb : bb false = 0 := rfl
  rw [fMo_get_13.eq_1, if_pos (by decide), hb, fDM_get.eq_1, adr_eq, if_pos ha, dm_R h, hl]
  generalize fMo_value (m_code_s m 0) a = v at hv ⊢
  by_cases hi : fDr_isValid z a = true
  · rw [if_pos hi, if_pos (hv.mp hi), fDg_withSign.eq_1]
    by_cases hm : m_dmin m a.toNatClampNeg = true
    · rw [if_pos hm, if_pos hm]
      exact ⟨-v, rfl, rfl⟩
    · rw [if_neg hm, if_neg hm]
      exact ⟨v, rfl, rfl⟩
  · rw [if_neg hi, if_neg (fun e => hi (hv.mpr e))]
    generalize (-10000000000 : Int64) = c
    exact ⟨c, rfl, rfl⟩
theorem get_R {T : Int} {z : SC} {m : SM} (h : RF T z m) (f : Nat → Int64) (a : Int32) : fR T (gLa_get z f a) (fMo_get m a).2 ∧ ((gLa_get z f a).1 = 0 → (gLa_get z f a).2.2 0 = (fMo_get m a).1) := by
  rw [gLa_get.eq_1, fMo_get.eq_1, adr_eq]
  by_cases ha : fMo_isAddress a = true
  · obtain ⟨x, e1, e2⟩ := get_q h.1.1 ha
    rw [if_pos ha, if_pos ha, e1, e2]
    exact ⟨⟨RF_code h 0, rfl⟩, fun _ => u0 f x⟩
  · have e : fMo_get_13 m true a = (0, m_code_s m 1) := by
      rw [fMo_get_13.eq_1, if_neg (by decide)]
      rfl
    rw [if_neg ha, if_neg ha, e]
    exact ⟨⟨RF_code h 1, rfl⟩, fun e => (no1 e).elim⟩
theorem output_R {T : Int} {z : SC} {m : SM} (h : RF T z m) (f : Nat → Int64) (a : Int32) : fR T (gLa_output z f a) (fMo_output m a).2 ∧ ((gLa_output z f a).1 = 0 → (gLa_output z f a).2.2 0 = (fMo_output m a).1) := by
  obtain ⟨p1, p2, _⟩ := h.1.2.2.1
  rw [gLa_output.eq_1, fMo_output.eq_1, fPu_hasWord.eq_1, p2]
  by_cases h1 : a < 0
  · rw [if_pos h1, if_pos h1, if_neg (by decide), fMo_output_17.eq_1, fMo_output_18.eq_1, if_neg (by decide)]
    exact ⟨⟨RF_code h 1, rfl⟩, fun e => (no1 e).elim⟩
  · rw [if_neg h1, if_neg h1]
    by_cases h2 : m_outs m ≤ a
    · rw [if_pos h2, if_pos h2, if_neg (by decide), fMo_output_17.eq_1, fMo_output_18.eq_1, if_neg (by decide)]
      exact ⟨⟨RF_code h 1, rfl⟩, fun e => (no1 e).elim⟩
    · rw [if_neg h2, if_neg h2, if_pos rfl, fMo_output_18.eq_1, if_pos (by decide)]
      refine ⟨⟨RF_code h 0, rfl⟩, fun _ => ?_⟩
      show fDM_output z a = m_outp m a.toNatClampNeg
      rw [fDM_output.eq_1, fPu_hasWord.eq_1, p2, if_neg h1, if_neg h2, if_pos rfl, fPu_wordAt.eq_1, p1]
theorem fault_R {T : Int} {z : SC} {m : SM} (h : RF T z m) : RF T z (fMo_fault m).2 ∧ fDM_fault z = (fMo_fault m).1 := ⟨RF_code h 0, h.2.2⟩
theorem time_R {T : Int} {z : SC} {m : SM} (h : RF T z m) : RF T z (fMo_time m).2 ∧ fDM_time z = (fMo_time m).1 := ⟨RF_code h 0, h.2.1.1⟩
theorem next_R {T : Int} {z : SC} {m : SM} (h : RF T z m) : RF T z (fMo_next m).2 ∧ fDM_next z = (fMo_next m).1 := ⟨RF_code h 0, h.1.2.2.2.1.2.2.2⟩
theorem outputs_R {T : Int} {z : SC} {m : SM} (h : RF T z m) : RF T z (fMo_outputs m).2 ∧ fDM_outputs z = (fMo_outputs m).1 := ⟨RF_code h 0, h.1.2.2.1.2.1⟩
/-! a card -/
theorem ri_n {f c : Int32} (hf : vp_in f 20) (hc : 0 ≤ c.toInt ∧ c.toInt < 20) : ((f + c) % 20).toNatClampNeg = ri f c.toInt.toNat := by
  obtain ⟨h1, h2⟩ := vp_in_iff.mp hf
  have h2 : f.toInt < 20 := h2
  have i20 : (20 : Int32).toInt = 20 := by decide
  have e1 : (f + c).toInt = f.toInt + c.toInt := by rw [Kit.i32_add (by omega) (by omega)]
  have e2 : ((f + c) % 20).toInt = (f.toInt + c.toInt) % 20 := by rw [Int32.toInt_mod, e1, i20, Int.tmod_eq_emod_of_nonneg (by omega)]
  have c1 : ((f + c) % 20).toNatClampNeg = ((f + c) % 20).toInt.toNat := rfl
  have c2 : f.toNatClampNeg = f.toInt.toNat := rfl
  unfold ri
  rw [c1, c2, e2]
  omega
theorem ri_ne {f : Int32} {i j : Nat} (hi : i < 20) (hj : j < 20) (h : i ≠ j) : ¬ ri f i = ri f j := by
  unfold ri
  omega
theorem card_R {T : Int} {z : SC} {m : SM} (h : RF T z m) (f : Nat → Int64) (v : Int64) (b : Bool) : fR T (gLa_card z f v b) (fMo_card m v b).2 ∧ ((gLa_card z f v b).1 = 0 → (gLa_card z f v b).2.2 0 = ((fMo_card m v b).1).toInt64) := by
  obtain ⟨c1, ⟨c2, c3⟩, c4, c5⟩ := h.1.2.1
  have e20 : (20 : Int32).toInt = 20 := by decide
  have i1 : (1 : Int32).toInt = 1 := by decide
  rw [gLa_card.eq_1, fMo_card.eq_1, wrd_eq, fCd_isFull.eq_1, c1]
  by_cases hv : fMo_isWord v = true
  · rw [if_pos hv, if_pos hv]
    by_cases hf : m_cards m = 20
    · rw [if_pos hf, if_neg (show ¬ m_cards m < 20 by rw [hf]; decide), if_pos rfl, fMo_card_26.eq_1, if_neg (by decide)]
      exact ⟨⟨RF_code h 2, rfl⟩, fun e => (no2 e).elim⟩
    · have hlt' : (m_cards m).toInt < 20 := by
        have h2 : (m_cards m).toInt ≠ 20 := fun h3 => hf (Int32.toInt_inj.mp (by rw [h3, e20]))
        omega
      have hlt : m_cards m < (20 : Int32) := by rw [Int32.lt_iff_toInt_lt, e20]; exact hlt'
      have hinc : (m_cards m + 1).toInt = (m_cards m).toInt + 1 := by
        rw [Kit.i32_add (by rw [i1]; omega) (by rw [i1]; omega), i1]
      have hc : (m_cards m).toNatClampNeg = (m_cards m).toInt.toNat := rfl
      rw [if_neg hf, if_pos hlt, if_neg (by decide), fMo_card_26.eq_1, if_pos (by decide), fDM_card.eq_1, wrd_eq, if_pos hv, fCd_isFull.eq_1, c1, if_pos hlt, if_neg (by decide), fCd_put.eq_1, c1, ri_n c4 ⟨c2, hlt'⟩, hc]
      refine ⟨⟨⟨⟨rD_mv h.1.1 rfl rfl, ⟨rfl, ⟨?_, ?_⟩, c4, fun i hi => ?_⟩, rP_mv h.1.2.2.1 rfl rfl, rX_mv h.1.2.2.2.1 rfl rfl rfl rfl rfl rfl, rA_mv h.1.2.2.2.2.1 rfl rfl, rS_mv h.1.2.2.2.2.2 rfl rfl⟩, h.2.1, h.2.2⟩, rfl⟩, fun _ => ?_⟩
      · show 0 ≤ (m_cards m + 1).toInt
        rw [hinc]; omega
      · show (m_cards m + 1).toInt ≤ 20
        rw [hinc]; omega
      · have hi : (i : Int) < (m_cards m + 1).toInt := hi
        rw [hinc] at hi
        show vp_updL (c_cvals z) (ri (c_cfirst z) (m_cards m).toInt.toNat) v (ri (c_cfirst z) i) = vp_updL (m_card m) (m_cards m).toInt.toNat v i ∧ updB (c_cmin z) (ri (c_cfirst z) (m_cards m).toInt.toNat) b (ri (c_cfirst z) i) = updB (m_cmin m) (m_cards m).toInt.toNat b i ∧ rg (vp_updL (m_card m) (m_cards m).toInt.toNat v i)
        unfold vp_updL updB
        by_cases he : i = (m_cards m).toInt.toNat
        · rw [← he, if_pos rfl, if_pos rfl, if_pos rfl, if_pos rfl]
          exact ⟨rfl, rfl, (wrd_iff v).mp hv⟩
        · have hn := ri_ne (f := c_cfirst z) (i := i) (j := (m_cards m).toInt.toNat) (by omega) (by omega) he
          rw [if_neg hn, if_neg he, if_neg hn, if_neg he]
          exact c5 i (by omega)
      · exact u0 f _
  · rw [if_neg hv, if_neg hv, fMo_card_26.eq_1, if_neg (by decide)]
    exact ⟨⟨RF_code h 1, rfl⟩, fun e => (no1 e).elim⟩
/-! a line -/
theorem dp_eq (o d : Int32) : fAs_isDataPart o d = (if fMo_shifts o = true then (if d < (-1 : Int32) then false else (if (9 : Int32) < d then false else true)) else fMo_isPart d) := by
  rw [fAs_isDataPart.eq_1, (ops_eq o).2.1]
  by_cases hs : fMo_shifts o = true
  · rw [if_pos hs, if_pos hs]
    have em : (-1 : Int32).toInt = -1 := by decide
    have e0 : (0 : Int32).toInt = 0 := by decide
    by_cases h1 : d = -1
    · rw [if_pos h1, h1]
      decide
    · rw [if_neg h1]
      have h1' : d.toInt ≠ -1 := fun e => h1 (Int32.toInt_inj.mp (by rw [e, em]))
      by_cases h2 : d < 0
      · have h3 : d < (-1 : Int32) := by
          rw [Int32.lt_iff_toInt_lt, e0] at h2
          rw [Int32.lt_iff_toInt_lt, em]; omega
        rw [if_pos h2, if_pos h3]
      · have h3 : ¬ d < (-1 : Int32) := by
          rw [Int32.lt_iff_toInt_lt, e0] at h2
          rw [Int32.lt_iff_toInt_lt, em]; omega
        rw [if_neg h2, if_neg h3]
  · rw [if_neg hs, if_neg hs, part_eq]
theorem pp_of {a : Int32} (h : fMo_isPart a = true) : pp a := (mpart_iff a).mp h
theorem ln_A {z : SC} (hA : c_A z) (hn : (c_acount z).toInt < 40) {a o d x : Int32} (ha : pp a) (hx : pp x) (hd : pp d) (hs : fOp_shifts o = true → pl d) : c_A (c_acount_s (c_nparts_s (c_dparts_s (c_ops_s (c_lparts_s z (upd (c_lparts z) ((c_acount z).toNatClampNeg) a)) (upd (c_ops z) ((c_acount z).toNatClampNeg) o)) (upd (c_dparts z) ((c_acount z).toNatClampNeg) d)) (upd (c_nparts z) ((c_acount z).toNatClampNeg) x)) ((c_acount z) + 1)) := by
  obtain ⟨⟨n1, n2⟩, q1, q2, q3, q4, q5, q6, q7⟩ := hA
  have i1 : (1 : Int32).toInt = 1 := by decide
  have hinc : (c_acount z + 1).toInt = (c_acount z).toInt + 1 := by rw [Kit.i32_add (by rw [i1]; omega) (by rw [i1]; omega), i1]
  refine ⟨⟨?_, ?_⟩, upd_all q1 ha, upd_all q2 hx, fun i hi => ?_, q4, q5, q6, q7⟩
  · show 0 ≤ (c_acount z + 1).toInt
    rw [hinc]; omega
  · show (c_acount z + 1).toInt ≤ 40
    rw [hinc]; omega
  · show pp (upd (c_dparts z) ((c_acount z).toNatClampNeg) d i) ∧ (fOp_shifts (upd (c_ops z) ((c_acount z).toNatClampNeg) o i) = true → pl (upd (c_dparts z) ((c_acount z).toNatClampNeg) d i))
    unfold upd
    by_cases he : i = (c_acount z).toNatClampNeg
    · rw [if_pos he, if_pos he]
      exact ⟨hd, hs⟩
    · rw [if_neg he, if_neg he]
      exact q3 i hi
theorem ln_mA {z : SM} (hA : m_A z) (hn : (m_lines z).toInt < 40) {a o d x : Int32} (ha : pp a) (hx : pp x) (hd : pp d) (hs : fMo_shifts o = true → pl d) : m_A (m_lines_s (m_foll_s (m_dat_s (m_ops_s (m_loc_s z (upd (m_loc z) ((m_lines z).toNatClampNeg) a)) (upd (m_ops z) ((m_lines z).toNatClampNeg) o)) (upd (m_dat z) ((m_lines z).toNatClampNeg) d)) (upd (m_foll z) ((m_lines z).toNatClampNeg) x)) ((m_lines z) + 1)) := by
  obtain ⟨⟨n1, n2⟩, q1, q2, q3, q4, q5⟩ := hA
  have i1 : (1 : Int32).toInt = 1 := by decide
  have hinc : (m_lines z + 1).toInt = (m_lines z).toInt + 1 := by rw [Kit.i32_add (by rw [i1]; omega) (by rw [i1]; omega), i1]
  refine ⟨⟨?_, ?_⟩, upd_all q1 ha, upd_all q2 hx, fun i hi => ?_, q4, q5⟩
  · show 0 ≤ (m_lines z + 1).toInt
    rw [hinc]; omega
  · show (m_lines z + 1).toInt ≤ 40
    rw [hinc]; omega
  · show pp (upd (m_dat z) ((m_lines z).toNatClampNeg) d i) ∧ (fMo_shifts (upd (m_ops z) ((m_lines z).toNatClampNeg) o i) = true → pl (upd (m_dat z) ((m_lines z).toNatClampNeg) d i))
    unfold upd
    by_cases he : i = (m_lines z).toNatClampNeg
    · rw [if_pos he, if_pos he]
      exact ⟨hd, hs⟩
    · rw [if_neg he, if_neg he]
      exact q3 i hi
/-- the line itself, all being good -/
theorem ln_ok {T : Int} {z : SC} {m : SM} (h : RF T z m) {a o d x : Int32} (hop : fMo_isOperation o = true) (ha : fMo_isPart a = true) (hx : fMo_isPart x = true) (hd : fAs_isDataPart o d = true) (hn : (m_lines m).toInt < 40) : RF T (fAs_addLine z a o d x).2 (m_lines_s (m_foll_s (m_dat_s (m_ops_s (m_loc_s m (upd (m_loc m) ((m_lines m).toNatClampNeg) a)) (upd (m_ops m) ((m_lines m).toNatClampNeg) o)) (upd (m_dat m) ((m_lines m).toNatClampNeg) d)) (upd (m_foll m) ((m_lines m).toNatClampNeg) x)) ((m_lines m) + 1)) := by
  obtain ⟨s1, s2, s3, s4, s5, s6, s7, s8, s9, s10⟩ := h.1.2.2.2.2.2
  have hpd : pp d ∧ (fMo_shifts o = true → pl d) := by
    rw [dp_eq] at hd
    by_cases hs : fMo_shifts o = true
    · rw [if_pos hs] at hd
      have em : (-1 : Int32).toInt = -1 := by decide
      have e9 : (9 : Int32).toInt = 9 := by decide
      by_cases h1 : d < (-1 : Int32)
      · rw [if_pos h1] at hd; cases hd
      · rw [if_neg h1] at hd
        by_cases h2 : (9 : Int32) < d
        · rw [if_pos h2] at hd; cases hd
        · rw [Int32.lt_iff_toInt_lt, em] at h1
          rw [Int32.lt_iff_toInt_lt, e9] at h2
          have hpl : pl d := ⟨by omega, by omega⟩
          exact ⟨.inl hpl, fun _ => hpl⟩
    · rw [if_neg hs] at hd
      exact ⟨pp_of hd, fun e => absurd e hs⟩
  have hs' : fOp_shifts o = true → pl d := fun e => hpd.2 (by rw [← (ops_eq o).2.1]; exact e)
  have k1 := ln_A s8 (by rw [s7]; exact hn) (pp_of ha) (pp_of hx) hpd.1 hs'
  have k2 := ln_mA s9 hn (pp_of ha) (pp_of hx) hpd.1 hpd.2
  have i1 : (1 : Int32).toInt = 1 := by decide
  have hinc : (m_lines m + 1).toInt = (m_lines m).toInt + 1 := by
    have := s9.1.1
    rw [Kit.i32_add (by rw [i1]; omega) (by rw [i1]; omega), i1]
  rw [fAs_addLine.eq_1]
  refine ⟨⟨rD_mv h.1.1 rfl rfl, rC_mv h.1.2.1 rfl rfl, rP_mv h.1.2.2.1 rfl rfl, rX_mv h.1.2.2.2.1 rfl rfl rfl rfl rfl rfl, rA_mv h.1.2.2.2.2.1 rfl rfl, ⟨?_, ?_, ?_, ?_, s5, s6, ?_, k1, k2, fun i hi => ?_⟩⟩, h.2.1, h.2.2⟩
  · show upd (c_lparts z) (c_acount z).toNatClampNeg a = upd (m_loc m) (m_lines m).toNatClampNeg a
    rw [s1, s7]
  · show upd (c_ops z) (c_acount z).toNatClampNeg o = upd (m_ops m) (m_lines m).toNatClampNeg o
    rw [s2, s7]
  · show upd (c_dparts z) (c_acount z).toNatClampNeg d = upd (m_dat m) (m_lines m).toNatClampNeg d
    rw [s3, s7]
  · show upd (c_nparts z) (c_acount z).toNatClampNeg x = upd (m_foll m) (m_lines m).toNatClampNeg x
    rw [s4, s7]
  · show c_acount z + 1 = m_lines m + 1
    rw [s7]
  · have hi : (i : Int) < (m_lines m + 1).toInt := hi
    rw [hinc] at hi
    show fMo_isOperation (upd (m_ops m) (m_lines m).toNatClampNeg o i) = true
    unfold upd
    by_cases he : i = (m_lines m).toNatClampNeg
    · rw [if_pos he]; exact hop
    · rw [if_neg he]
      have hc : (m_lines m).toNatClampNeg = (m_lines m).toInt.toNat := rfl
      exact s10 i (by omega)
theorem line_m (m : SM) (a o d x : Int32) : fMo_line m a o d x = fMo_line_60 (m_code_s m 0) (fMo_isOperation o && (fMo_isPart a && (fMo_isPart x && fAs_isDataPart o d))) a o d x := by
  rw [fMo_line.eq_1, dp_eq, fMo_line_59.eq_1, fMo_line_55.eq_1]
  by_cases h1 : fMo_isOperation o = true
  · rw [if_pos h1, h1, Bool.true_and]
    by_cases h2 : fMo_isPart a = true
    · rw [if_pos h2, h2, Bool.true_and]
      by_cases h3 : fMo_isPart x = true
      · rw [if_pos h3, h3, Bool.true_and]
        by_cases h4 : fMo_shifts o = true
        · rw [if_pos h4, if_pos h4]
          by_cases h5 : d < (-1 : Int32)
          · rw [if_pos h5, if_pos h5]
          · rw [if_neg h5, if_neg h5]
            by_cases h6 : (9 : Int32) < d
            · rw [if_pos h6, if_pos h6]
            · rw [if_neg h6, if_neg h6]
        · rw [if_neg h4, if_neg h4]
          by_cases h5 : fMo_isPart d = true
          · rw [if_pos h5, h5]
          · rw [if_neg h5, (Bool.not_eq_true _).mp h5]
      · rw [if_neg h3, (Bool.not_eq_true _).mp h3, Bool.false_and]
    · rw [if_neg h2, (Bool.not_eq_true _).mp h2, Bool.false_and]
  · rw [if_neg h1, (Bool.not_eq_true _).mp h1, Bool.false_and]
theorem li_1 (x : Int32) : (x + 1) - 1 = x := by
  rw [Int32.add_sub_cancel]
theorem line_R {T : Int} {z : SC} {m : SM} (h : RF T z m) (f : Nat → Int64) (a o d x : Int32) : fR T (gLa_line z f a o d x) (fMo_line m a o d x).2 ∧ ((gLa_line z f a o d x).1 = 0 → (gLa_line z f a o d x).2.2 0 = ((fMo_line m a o d x).1).toInt64) := by
  obtain ⟨s1, s2, s3, s4, s5, s6, s7, s8, s9, s10⟩ := h.1.2.2.2.2.2
  have e40 : (40 : Int32).toInt = 40 := by decide
  rw [gLa_line.eq_1, line_m, (ops_eq o).1, part_eq, part_eq, fMo_line_60.eq_1, fMo_line_62.eq_1, fAs_isFull.eq_1, s7]
  by_cases h1 : fMo_isOperation o = true
  · rw [if_pos h1]
    by_cases h2 : fMo_isPart a = true ∧ fAs_isDataPart o d = true ∧ fMo_isPart x = true
    · rw [if_pos h2, h1, h2.1, h2.2.2, h2.2.1, if_pos (show (true && (true && (true && true))) = true by decide)]
      have hk : m_lines (m_code_s m 0) = m_lines m := rfl
      rw [hk]
      by_cases hf : m_lines m = 40
      · rw [if_pos hf, if_neg (show ¬ m_lines m < 40 by rw [hf]; decide), if_pos rfl]
        exact ⟨⟨RF_code (RF_code h 0) 2, rfl⟩, fun e => (no2 e).elim⟩
      · have hlt' : (m_lines m).toInt < 40 := by
          have h3 : (m_lines m).toInt ≠ 40 := fun h4 => hf (Int32.toInt_inj.mp (by rw [h4, e40]))
          have h5 := s9.1.2
          omega
        have hlt : m_lines m < (40 : Int32) := by rw [Int32.lt_iff_toInt_lt, e40]; exact hlt'
        rw [if_neg hf, if_pos hlt, if_neg (by decide)]
        have hln := ln_ok (RF_code h 0) h1 h2.1 h2.2.2 h2.2.1 hlt'
        have hg : fDM_line z a o d x = ((fAs_addLine z a o d x).1, (fAs_addLine z a o d x).2) := by
          rw [fDM_line.eq_1, (ops_eq o).1, part_eq, part_eq, if_pos h1, if_pos h2.1, if_pos h2.2.1, if_pos h2.2.2, fAs_isFull.eq_1, s7, if_pos hlt, if_neg (by decide)]
        rw [hg]
        refine ⟨⟨hln, rfl⟩, fun _ => ?_⟩
        rw [li_1]
        show vp_updL f 0 ((fAs_addLine z a o d x).1.toInt64) 0 = (m_lines m).toInt64
        rw [u0, fAs_addLine.eq_1, s7]
    · rw [if_neg h2]
      have hb : (fMo_isOperation o && (fMo_isPart a && (fMo_isPart x && fAs_isDataPart o d))) = false := by
        rw [h1, Bool.true_and]
        cases g1 : fMo_isPart a
        · rfl
        · cases g2 : fMo_isPart x
          · rfl
          · cases g3 : fAs_isDataPart o d
            · rfl
            · exact absurd ⟨g1, g3, g2⟩ h2
      rw [hb, if_neg (by decide)]
      exact ⟨⟨RF_code (RF_code h 0) 1, rfl⟩, fun e => (no1 e).elim⟩
  · rw [if_neg h1, (Bool.not_eq_true _).mp h1, Bool.false_and, if_neg (by decide)]
    exact ⟨⟨RF_code (RF_code h 0) 1, rfl⟩, fun e => (no1 e).elim⟩
