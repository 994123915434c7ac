/-! reading operations -/
def oR (z : SC) (m : SM) (o d : Int32) (x : Int32 × SC) (y : Bool × SM) : Prop :=
  RU x.2 y.2 ∧ m_code y.2 = m_code m ∧
  ((y.1 = true ∧ x.1 = -1 ∧ m_fault y.2 = m_fault m ∧ zR 300 z m (c_time_s x.2 (c_time x.2 + (fOp_fixedTime o d).toInt64)) y.2) ∨
   (y.1 = false ∧ fPr_isFault x.1 = true ∧ m_fault y.2 = x.1 ∧ zR 300 z m x.2 y.2))
theorem RU_ovf {z : SC} {m : SM} (h : RU z m) (b : Bool) : RU (c_ovf_s z b) (m_ovf_s m b) := by
  have hA := h.2.2.2.2.1
  have e1 : c_upper z = m_upper m := congrArg (·.1) hA.1
  have e2 : c_lower z = m_lower m := congrArg (·.2.1) hA.1
  have e3 : c_amin z = m_amin m := congrArg (·.2.2.1) hA.1
  exact ⟨rD_mv h.1 rfl rfl, rC_mv h.2.1 rfl rfl, rP_mv h.2.2.1 rfl rfl, rX_mv h.2.2.2.1 rfl rfl rfl rfl rfl rfl,
    ⟨show (c_upper z, c_lower z, c_amin z, b) = (m_upper m, m_lower m, m_amin m, b) by rw [e1, e2, e3], hA.2⟩, rS_mv h.2.2.2.2.2 rfl rfl⟩
theorem nf_1 : fPr_isFault (-1) = false := by decide
theorem nf_3 : fPr_isFault 3 = true := by decide
theorem nf_4 : fPr_isFault 4 = true := by decide
theorem nf_5 : fPr_isFault 5 = true := by decide
theorem nf_2 : fPr_isFault 2 = true := by decide
theorem nf_11 : fPr_isFault 1 = true := by decide
theorem nf_0 : fPr_isFault 0 = false := by decide
theorem rd114 (z : SC) (v : Int64) (b : Bool) : fPr_read_114 z v b (-1) = (-1, c_distm_s (c_dist_s z v) b) := by
  rw [fPr_read_114.eq_1, nf_1, if_neg (by decide)]
  rfl
theorem m_re1 (m : SM) (v : Int64) (b : Bool) (t u : Int64) (w : Acc) : m_time_s (m_acc_s (m_time_s (m_distm_s (m_dist_s m v) b) t) w) u = m_distm_s (m_dist_s (m_time_s (m_acc_s m w) u) v) b := rfl
theorem m_re2 (m : SM) (v : Int64) (b : Bool) (t : Int64) (w : Acc) : m_acc_s (m_time_s (m_distm_s (m_dist_s m v) b) t) w = m_distm_s (m_dist_s (m_time_s (m_acc_s m w) t) v) b := rfl
theorem m_ac1 (m : SM) (v : Int64) (b : Bool) (t : Int64) : m_acc (m_time_s (m_distm_s (m_dist_s m v) b) t) = m_acc m := rfl
theorem m_lo1 (m : SM) (w : Acc) : m_lower (m_acc_s m w) = w.2.1 := rfl
theorem c_lo1 (z : SC) (w : Acc) : fAc_lowerDigits (c_acc_s z w) = w.2.1 := rfl
theorem t_sf (t s f : Int64) : (t + s) + f = t + (s + f) := Int64.add_assoc t s f
theorem t_fs (t s f : Int64) : (t + f) + s = t + (s + f) := by rw [Int64.add_assoc, Int64.add_comm f s]
theorem sf_b {s f : Int64} {a b : Int} (hs : 0 ≤ s.toInt ∧ s.toInt ≤ a) (hf : 0 ≤ f.toInt ∧ f.toInt ≤ b) (ha : a ≤ 1000) (hb : b ≤ 1000) : 0 ≤ (s + f).toInt ∧ (s + f).toInt ≤ a + b := by
  rw [Kit.i64_add (by omega) (by omega)]
  omega
/-- dividing -/
theorem rd14 {z : SC} {m : SM} (h : RU z m) {d w : Int32} (hw : m_nxt m = w) (hd : 0 ≤ d.toInt) {v : Int64} (hv : rg v) (b : Bool) : oR z m 14 d (fPr_read_47 z 14 v b (-1)) (if m_upper m < v then fMo_doRead_42 m 14 d v b w else ((fMo_stop (m_ovf_s m true) 3 w).1, (fMo_stop (m_ovf_s m true) 3 w).2)) := by
  have hA := h.2.2.2.2.1
  have e1 : c_upper z = m_upper m := congrArg (·.1) hA.1
  have hU : rg (c_upper z) := hA.2.1
  rw [fPr_read_47.eq_1, if_pos rfl]
  by_cases hlt : m_upper m < v
  · have hlt' : (c_upper z).toInt < v.toInt := by rw [e1]; exact Int64.lt_iff_toInt_lt.mp hlt
    rw [if_pos hlt, fMo_doRead_42.eq_1, if_neg (by decide), fMo_doRead_65.eq_1, if_neg (by decide), if_pos rfl]
    obtain ⟨a, ha, hc, hm⟩ := div_both (z := z) (m := m_time_s (m_distm_s (m_dist_s m v) b) ((m_time m) + ((fMo_fixed 14 d).toInt64))) (v := v) b (by rw [m_ac1]; exact hA.1) hA.2 (by have := hU.1; omega) (by have := hv.2; omega) hlt'
    rw [hm, m_re1, fPr_divide.eq_1, hc, if_pos rfl, fPr_divide_14.eq_1, rd114]
    refine ⟨RU_dist (RU_time (RU_acc h ha) _ _) hv b, rfl, .inl ⟨rfl, rfl, rfl, ?_⟩⟩
    have hs := sm_b ha.2
    have hf := fx_b (o := 14) hd
    have hb := sf_b hs hf (by omega) (by omega)
    refine zR_add (x := (2 * fDg_sum a.2.1).toInt64 + (fOp_fixedTime 14 d).toInt64) ⟨hb.1, Int.le_trans hb.2 (by omega)⟩ ?_ ?_
    · exact t_sf (c_time z) _ _
    · show (m_time m + (fMo_fixed 14 d).toInt64) + (2 * fMo_sumOfDigits a.2.1).toInt64 = _
      rw [← sm_eq ha.2, ← fx_eq, t_fs]
  · have hdv : fAc_divide z v b = (false, c_ovf_s z true) := by
      rw [fAc_divide.eq_1, e1, if_neg hlt, ite_self]
    rw [if_neg hlt, fPr_divide.eq_1, hdv, if_neg (show ¬ false = true by decide), fPr_read_114.eq_1, if_pos nf_3]
    exact ⟨RU_stop (RU_ovf h true) hw, rfl, .inr ⟨rfl, nf_3, rfl, zR_same (by omega) rfl rfl⟩⟩
/-- punching -/
theorem rd71 {z : SC} {m : SM} (h : RU z m) {d w : Int32} (hw : m_nxt m = w) (hd : 0 ≤ d.toInt) {v : Int64} (hv : rg v) (b : Bool) : oR z m 71 d (fPr_read_47 z 71 v b (-1)) (fMo_doRead_42 m 71 d v b w) := by
  have hP := h.2.2.1
  rw [fPr_read_47.eq_1, if_neg (by decide), if_pos rfl, fMo_doRead_42.eq_1, if_pos rfl, fPr_punchWord.eq_1, fPu_isFull.eq_1, hP.2.1]
  have e40 : (40 : Int32).toInt = 40 := by decide
  have i1 : (1 : Int32).toInt = 1 := by decide
  by_cases hf : m_outs m = 40
  · have hlt : ¬ m_outs m < (40 : Int32) := by rw [hf]; decide
    rw [if_pos hf, if_neg hlt, if_pos rfl, fPr_read_114.eq_1, if_pos nf_4]
    exact ⟨RU_stop h hw, rfl, .inr ⟨rfl, nf_4, rfl, zR_same (by omega) rfl rfl⟩⟩
  · have hlt' : (m_outs m).toInt < 40 := by
      have h1 := hP.2.2.2
      have h2 : (m_outs m).toInt ≠ 40 := fun h3 => hf (Int32.toInt_inj.mp (by rw [h3, e40]))
      omega
    have hlt : m_outs m < (40 : Int32) := by rw [Int32.lt_iff_toInt_lt, e40]; exact hlt'
    have hinc : (m_outs m + 1).toInt = (m_outs m).toInt + 1 := by
      have h1 := hP.2.2.1
      rw [Kit.i32_add (by rw [i1]; omega) (by rw [i1]; omega), i1]
    rw [if_neg hf, if_pos hlt, if_neg (by decide), rd114, fMo_doRead_65.eq_1, if_pos rfl, fMo_doRead_116.eq_1, fMo_doRead_116.eq_1]
    have key : ∀ x : Int64, RU (c_distm_s (c_dist_s (fPu_put z x) v) b) (m_outs_s (m_outp_s (m_time_s (m_distm_s (m_dist_s m v) b) ((m_time m) + ((fMo_fixed 71 d).toInt64))) (vp_updL (m_outp m) (m_outs m).toNatClampNeg x)) (m_outs m + 1)) := by
      intro x
      refine ⟨rD_mv h.1 rfl rfl, rC_mv h.2.1 rfl rfl, ⟨?_, ?_, ?_, ?_⟩, ⟨rfl, hv, rfl, h.2.2.2.1.2.2.2⟩, rA_mv h.2.2.2.2.1 rfl rfl, rS_mv h.2.2.2.2.2 rfl rfl⟩
      · show vp_updL (c_words z) (c_pcount z).toNatClampNeg x = vp_updL (m_outp m) (m_outs m).toNatClampNeg x
        rw [hP.1, hP.2.1]
      · show c_pcount z + 1 = m_outs m + 1
        rw [hP.2.1]
      · show 0 ≤ (m_outs m + 1).toInt
        rw [hinc]; have := hP.2.2.1; omega
      · show (m_outs m + 1).toInt ≤ 40
        rw [hinc]; omega
    have hf := fx_b (o := 71) hd
    rw [fDg_withSign.eq_1]
    by_cases hb : b = true
    · rw [if_pos hb, if_pos hb]
      exact ⟨key (-v), rfl, .inl ⟨rfl, rfl, rfl, zR_add (x := (fOp_fixedTime 71 d).toInt64) ⟨hf.1, Int.le_trans hf.2 (by omega)⟩ rfl (by rw [fx_eq]; rfl)⟩⟩
    · rw [if_neg hb, if_neg hb]
      exact ⟨key v, rfl, .inl ⟨rfl, rfl, rfl, zR_add (x := (fOp_fixedTime 71 d).toInt64) ⟨hf.1, Int.le_trans hf.2 (by omega)⟩ rfl (by rw [fx_eq]; rfl)⟩⟩
/-- multiplying -/
theorem rd19 {z : SC} {m : SM} (h : RU z m) {d w : Int32} (hd : 0 ≤ d.toInt) {v : Int64} (hv : rg v) (b : Bool) : oR z m 19 d (fPr_read_47 z 19 v b (-1)) (fMo_doRead_42 m 19 d v b w) := by
  have hA := h.2.2.2.2.1
  have e1 : c_upper z = m_upper m := congrArg (·.1) hA.1
  have hU : rg (c_upper z) := hA.2.1
  rw [fPr_read_47.eq_1, if_neg (by decide), if_neg (by decide), if_pos rfl, fMo_doRead_42.eq_1, if_neg (by decide), fMo_doRead_65.eq_1, if_neg (by decide), if_neg (by decide), if_pos rfl, fPr_multiply.eq_1, rd114, fAc_upperDigits.eq_1]
  generalize hF : (m_time m + (fMo_fixed 19 d).toInt64) + (2 * fMo_sumOfDigits (m_upper m)).toInt64 = F
  generalize hG : c_time z + (2 * fDg_sum (c_upper z)).toInt64 = G
  obtain ⟨a, ha, hc, hm⟩ := mul_both (z := c_time_s z G) (m := m_time_s (m_time_s (m_distm_s (m_dist_s m v) b) ((m_time m) + ((fMo_fixed 19 d).toInt64))) F) (v := v) b hA.1 hA.2 hv
  rw [hc, hm]
  refine ⟨RU_dist (RU_time (RU_acc h ha) G F) hv b, rfl, .inl ⟨rfl, rfl, rfl, ?_⟩⟩
  have hs := sm_b hU
  have hf := fx_b (o := 19) hd
  have hb := sf_b hs hf (by omega) (by omega)
  refine zR_add (x := (2 * fDg_sum (c_upper z)).toInt64 + (fOp_fixedTime 19 d).toInt64) ⟨hb.1, Int.le_trans hb.2 (by omega)⟩ ?_ ?_
  · show G + (fOp_fixedTime 19 d).toInt64 = _
    rw [← hG, t_sf]
  · show F = _
    rw [← hF, ← e1, ← sm_eq hU, ← fx_eq, t_fs]
theorem rd69 {z : SC} {m : SM} (h : RU z m) {d w : Int32} (hd : 0 ≤ d.toInt) {v : Int64} (hv : rg v) (b : Bool) : oR z m 69 d (fPr_read_47 z 69 v b (-1)) (fMo_doRead_42 m 69 d v b w) := by
  rw [fPr_read_47.eq_1, if_neg (by decide), if_neg (by decide), if_neg (by decide), if_neg (by decide), rd114, fMo_doRead_42.eq_1, if_neg (by decide), fMo_doRead_65.eq_1, if_neg (by decide), if_neg (by decide), if_neg (by decide), if_pos rfl]
  have hf := fx_b (o := 69) hd
  exact ⟨RU_tm (RU_dist h hv b) _, rfl, .inl ⟨rfl, rfl, rfl, zR_add (x := (fOp_fixedTime 69 d).toInt64) ⟨hf.1, Int.le_trans hf.2 (by omega)⟩ rfl (by rw [fx_eq]; rfl)⟩⟩
theorem rdad {z : SC} {m : SM} (h : RU z m) {o d w : Int32} (ho : fOp_adds o = true) (hd : 0 ≤ d.toInt) {v : Int64} (hv : rg v) (b : Bool) : oR z m o d (fPr_read_47 z o v b (-1)) (fMo_doRead_42 m o d v b w) := by
  have n14 : ¬ o = 14 := fun e => by rw [e] at ho; exact absurd ho (by decide)
  have n71 : ¬ o = 71 := fun e => by rw [e] at ho; exact absurd ho (by decide)
  have n19 : ¬ o = 19 := fun e => by rw [e] at ho; exact absurd ho (by decide)
  have n69 : ¬ o = 69 := fun e => by rw [e] at ho; exact absurd ho (by decide)
  rw [fPr_read_47.eq_1, if_neg n14, if_neg n71, if_neg n19, if_pos ho, rd114, fMo_doRead_42.eq_1, if_neg n71, fMo_doRead_65.eq_1, if_neg n71, if_neg n14, if_neg n19, if_neg n69]
  generalize hF : m_time m + (fMo_fixed o d).toInt64 = F
  have hA : rA z (m_time_s (m_distm_s (m_dist_s m v) b) F) := rA_mv h.2.2.2.2.1 rfl rfl
  obtain ⟨a, ha, hc, hm⟩ := aw_both (m := m_time_s (m_distm_s (m_dist_s m v) b) F) b ho hA hv
  rw [hc, hm]
  have hf := fx_b (o := o) hd
  refine ⟨RU_dist (RU_tm (RU_acc h ha) F) hv b, rfl, .inl ⟨rfl, rfl, rfl, zR_add (x := (fOp_fixedTime o d).toInt64) ⟨hf.1, Int.le_trans hf.2 (by omega)⟩ rfl ?_⟩⟩
  show F = _
  rw [← hF, fx_eq]
theorem rd_in : ∀ k : Fin 100, fMo_reads (nI k.val) = true → nI k.val = 84 ∨ nI k.val = 14 ∨ nI k.val = 71 ∨ nI k.val = 19 ∨ nI k.val = 69 ∨ fOp_adds (nI k.val) = true := by decide +kernel
theorem rd_of {o : Int32} (ho : fMo_reads o = true) : o = 84 ∨ o = 14 ∨ o = 71 ∨ o = 19 ∨ o = 69 ∨ fOp_adds o = true := by
  rcases op_in o with ⟨k, rfl⟩ | h
  · exact rd_in k ho
  · rw [reads_out h] at ho
    cases ho
