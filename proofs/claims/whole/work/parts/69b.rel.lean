/-! looking up -/
theorem l4 : (10000 : Int64).toInt = 10000 := by decide
theorem l8 : (100000000 : Int64).toInt = 100000000 := by decide
theorem wd_a {v x : Int64} (hv : rg v) (hx : 0 ≤ x.toInt ∧ x.toInt < 10000) : (v + (x - (v / 10000) % 10000) * 10000).toInt = v.toInt + (x.toInt - v.toInt / 10000 % 10000) * 10000 := by
  obtain ⟨v1, v2⟩ := hv
  have hq : 0 ≤ v.toInt / 10000 % 10000 ∧ v.toInt / 10000 % 10000 < 10000 := by omega
  have hp : 0 ≤ v.toInt / 10000 := by omega
  have a2 : ((v / 10000) % 10000).toInt = v.toInt / 10000 % 10000 := by
    have a1 : (v / 10000).toInt = v.toInt / 10000 := by rw [l_div v1 (by rw [l4]; decide), l4]
    rw [l_mod (by rw [a1]; exact hp), a1, l4]
  generalize (v / 10000) % 10000 = Q at a2
  generalize v.toInt / 10000 % 10000 = q at a2 hq
  clear hp
  have a3 : (x - Q).toInt = x.toInt - q := by rw [Kit.i64_sub (by rw [a2]; omega) (by rw [a2]; omega), a2]
  have a4 : ((x - Q) * 10000).toInt = (x.toInt - q) * 10000 := by rw [Kit.i64_mul (by rw [a3, l4]; omega) (by rw [a3, l4]; omega), a3, l4]
  rw [Kit.i64_add (by rw [a4]; omega) (by rw [a4]; omega), a4]
theorem wd_b {v y : Int64} (hv : rg v) (hy : 0 ≤ y.toInt ∧ y.toInt < 100000000) : ((v % 10000 + y) + (v / 100000000) * 100000000).toInt = v.toInt % 10000 + y.toInt + v.toInt / 100000000 * 100000000 := by
  obtain ⟨v1, v2⟩ := hv
  have hq : 0 ≤ v.toInt % 10000 ∧ v.toInt % 10000 < 10000 := by omega
  have hp : 0 ≤ v.toInt / 100000000 ∧ v.toInt / 100000000 < 100 := by omega
  have b1 : (v % 10000).toInt = v.toInt % 10000 := by rw [l_mod v1, l4]
  have b4 : (v / 100000000).toInt = v.toInt / 100000000 := by rw [l_div v1 (by rw [l8]; decide), l8]
  generalize v % 10000 = Q at b1
  generalize v / 100000000 = P at b4
  generalize v.toInt % 10000 = q at b1 hq
  generalize v.toInt / 100000000 = p at b4 hp
  have b3 : (Q + y).toInt = q + y.toInt := by rw [Kit.i64_add (by rw [b1]; omega) (by rw [b1]; omega), b1]
  have b5 : (P * 100000000).toInt = p * 100000000 := by rw [Kit.i64_mul (by rw [b4, l8]; omega) (by rw [b4, l8]; omega), b4, l8]
  rw [Kit.i64_add (by rw [b3, b5]; omega) (by rw [b3, b5]; omega), b3, b5]
theorem wd_i (V X : Int) (h1 : 0 ≤ V) : V + (X - V / 10000 % 10000) * 10000 = V % 10000 + 10000 * X + V / 100000000 * 100000000 := by
  have e : V / 100000000 = V / 10000 / 10000 := by omega
  rw [e]
  omega
theorem wd_r (V X : Int) (h1 : 0 ≤ V) (h2 : V < 10000000000) (h3 : 0 ≤ X) (h4 : X < 10000) : 0 ≤ V % 10000 + 10000 * X + V / 100000000 * 100000000 ∧ V % 10000 + 10000 * X + V / 100000000 * 100000000 < 10000000000 := by
  have a : 0 ≤ V % 10000 ∧ V % 10000 < 10000 := by omega
  have b : 0 ≤ V / 100000000 ∧ V / 100000000 < 100 := by omega
  generalize V % 10000 = q at a ⊢
  generalize V / 100000000 = p at b ⊢
  omega
theorem wd_eq {v : Int64} (hv : rg v) {x : Int64} (hx : 0 ≤ x.toInt ∧ x.toInt < 10000) : (v + (x - (v / 10000) % 10000) * 10000 = (v % 10000 + 10000 * x) + (v / 100000000) * 100000000) ∧ (v + (x - (v / 10000) % 10000) * 10000 = (v % 10000 + x * 10000) + (v / 100000000) * 100000000) ∧ rg (v + (x - (v / 10000) % 10000) * 10000) := by
  have b2 : (10000 * x).toInt = 10000 * x.toInt := by rw [Kit.i64_mul (by rw [l4]; omega) (by rw [l4]; omega), l4]
  have b2' : (x * 10000).toInt = 10000 * x.toInt := by rw [Kit.i64_mul (by rw [l4]; omega) (by rw [l4]; omega), l4]; omega
  have a5 := wd_a hv hx
  rw [wd_i _ _ hv.1] at a5
  have b6 := wd_b hv (y := 10000 * x) (by rw [b2]; omega)
  have b6' := wd_b hv (y := x * 10000) (by rw [b2']; omega)
  rw [b2] at b6
  rw [b2'] at b6'
  have hr := wd_r _ _ hv.1 hv.2 hx.1 hx.2
  exact ⟨Int64.toInt_inj.mp (by rw [a5, b6]), Int64.toInt_inj.mp (by rw [a5, b6']), by rw [a5]; exact hr.1, by rw [a5]; exact hr.2⟩
theorem RU_low {z : SC} {m : SM} (h : RU z m) {x : Int64} (hx : rg x) : RU (c_lower_s z x) (m_lower_s m x) := by
  have hA := h.2.2.2.2.1
  have e1 : c_upper z = m_upper m := congrArg (·.1) hA.1
  have e3 : c_amin z = m_amin m := congrArg (·.2.2.1) hA.1
  have e4 : c_ovf z = m_ovf m := congrArg (·.2.2.2) hA.1
  refine ⟨rD_mv h.1 rfl rfl, rC_mv h.2.1 rfl rfl, rP_mv h.2.2.1 rfl rfl, rX_mv h.2.2.2.1 rfl rfl rfl rfl rfl rfl, ⟨?_, hA.2.1, hx⟩, rS_mv h.2.2.2.2.2 rfl rfl⟩
  show (c_upper z, x, c_amin z, c_ovf z) = (m_upper m, x, m_amin m, m_ovf m)
  rw [e1, e3, e4]
theorem pd_c (z : SC) (a : Int32) : c_time (fAc_putDataAddress z a) = c_time z := by
  rw [fAc_putDataAddress.eq_1]
  generalize fDg_withDataAddress (c_lower z) a = x
  rfl
theorem pd_R {z : SC} {m : SM} (h : RU z m) {a : Int32} (ha : vp_in a 200) : RU (fAc_putDataAddress z a) (m_lower_s m ((((m_lower m) % 10000) + (10000 * a.toInt64)) + (((m_lower m) / 100000000) * 100000000))) := by
  have hA := h.2.2.2.2.1
  have e2 : c_lower z = m_lower m := congrArg (·.2.1) hA.1
  obtain ⟨a1, a2⟩ := vp_in_iff.mp ha
  have a2 : a.toInt < 200 := a2
  have hl : rg (c_lower z) := hA.2.2
  obtain ⟨w1, _, w3⟩ := wd_eq hl (x := a.toInt64) (by rw [Kit.i64_of_i32]; omega)
  rw [fAc_putDataAddress.eq_1, fDg_withDataAddress.eq_1, ← e2, ← w1]
  exact RU_low h w3
/-- the answer of a look-up: like oR, with no fixed time -/
def uR (D : Int) (z : SC) (m : SM) (x : Int32 × SC) (y : Bool × SM) : Prop :=
  RU x.2 y.2 ∧ m_code y.2 = m_code m ∧ zR D z m x.2 y.2 ∧
  ((y.1 = true ∧ x.1 = -1 ∧ m_fault y.2 = m_fault m) ∨ (y.1 = false ∧ fPr_isFault x.1 = true ∧ m_fault y.2 = x.1))
theorem uR_mv {D D' : Int} {z z' : SC} {m m' : SM} {x : Int32 × SC} {y : Bool × SM} (h : uR D z' m' x y) (hD : 0 ≤ D) (ht : zR D' z m z' m') (hc : m_code m' = m_code m) (hf : m_fault m' = m_fault m) : uR (D' + D) z m x y :=
  ⟨h.1, h.2.1.trans hc, zR_tr ht h.2.2.1 hD, by
    rcases h.2.2.2 with ⟨a, b, c⟩ | ⟨a, b, c⟩
    · exact .inl ⟨a, b, c.trans hf⟩
    · exact .inr ⟨a, b, c⟩⟩
theorem lk_hit {D : Int} (hD : 0 ≤ D) {z Z : SC} {m : SM} {E : Int64} (h : RU Z (m_lower_s m E)) (ht : c_time Z = c_time z) : uR D z m (-1, Z) (true, m_lower_s m E) := ⟨h, rfl, zR_same hD ht rfl, .inl ⟨rfl, rfl, rfl⟩⟩
/-- one look at an address; K: what is done next -/
theorem lk_one {D : Int} (hD : 0 ≤ D) {z : SC} {m : SM} (h : RU z m) {a w : Int32} (hw : m_nxt m = w) (ha : vp_in a 200) (kc : Int32 × SC) (km : Bool × SM) (hk : uR D z m kc km) : uR D z m (if (fDr_isValid z a) = true then (if (fDr_valueAt z a) < (c_dist z) then kc else ((-1), fAc_putDataAddress z a)) else (1, z)) (if 0 ≤ (fMo_value m a) then (if (m_dist m) ≤ (fMo_value m a) then (true, m_lower_s m ((((m_lower m) % 10000) + (10000 * a.toInt64)) + (((m_lower m) / 100000000) * 100000000))) else km) else ((fMo_stop m 1 w).1, (fMo_stop m 1 w).2)) := by
  have hv := (vd_R h.1 ha).1
  by_cases hi : fDr_isValid z a = true
  · rw [if_pos hi, if_pos (hv.mp hi), (vl_R h.1 ha).1, h.2.2.2.1.1]
    by_cases hl : fMo_value m a < m_dist m
    · have hl' : ¬ m_dist m ≤ fMo_value m a := by
        rw [Int64.lt_iff_toInt_lt] at hl
        rw [Int64.le_iff_toInt_le]
        omega
      rw [if_pos hl, if_neg hl']
      exact hk
    · have hl' : m_dist m ≤ fMo_value m a := by
        rw [Int64.lt_iff_toInt_lt] at hl
        rw [Int64.le_iff_toInt_le]
        omega
      rw [if_neg hl, if_pos hl']
      exact lk_hit hD (pd_R h ha) (pd_c z a)
  · rw [if_neg hi, if_neg (fun h2 => hi (hv.mpr h2))]
    exact ⟨RU_stop h hw, rfl, zR_same hD rfl rfl, .inr ⟨rfl, nf_11, rfl⟩⟩
theorem lk_R : ∀ (n : Nat) (z : SC) (m : SM) (a w e x : Int32), RU z m → m_nxt m = w → 0 ≤ x.toInt ∧ x.toInt ≤ e.toInt ∧ e.toInt ≤ 200 → (e.toInt - x.toInt).toNat < n → uR (e.toInt - x.toInt) z m (fPr_lookUp_12 n z a e x) (fMo_lookUp_14 n m a w e x) := by
  intro n
  induction n with
  | zero => intro z m a w e x _ _ _ h; omega
  | succ n ih =>
    intro z m a w e x h hw hb hn
    rw [fPr_lookUp_12.eq_2, fMo_lookUp_14.eq_2]
    by_cases he : e ≤ x
    · rw [if_pos he, if_pos he]
      exact ⟨RU_stop h hw, rfl, zR_same (by omega) rfl rfl, .inr ⟨rfl, nf_5, rfl⟩⟩
    · rw [if_neg he, if_neg he]
      have hx := lk_in hb he
      have hs := lk_s hb he
      have hlt := lk_lt he
      have hi : (x + 1).toInt = x.toInt + 1 := i_inc (by omega) hb.1
      have hm := lk_m hb he hn
      by_cases hxa : x ≤ a
      · rw [if_pos hxa, if_pos hxa]
        have hk := ih z m a w e (x + 1) h hw hs hm
        refine lk_one (by omega) h hw hx _ _ ⟨hk.1, hk.2.1, zR_le hk.2.2.1 (by rw [hi]; omega), hk.2.2.2⟩
      · rw [if_neg hxa, if_neg hxa]
        have hk := ih (c_time_s z (c_time z + 1)) (m_time_s m (m_time m + 1)) a w e (x + 1) (RU_time h _ _) hw hs hm
        have ht : zR 1 z m (c_time_s z (c_time z + 1)) (m_time_s m (m_time m + 1)) := zR_add (x := 1) (by decide) rfl rfl
        have h1 := lk_one (D := e.toInt - (x + 1).toInt) (by omega) (RU_time h (c_time z + 1) (m_time m + 1)) hw hx _ _ hk
        have h2 := uR_mv h1 (by omega) ht rfl rfl
        have e1 : 1 + (e.toInt - (x + 1).toInt) = e.toInt - x.toInt := by rw [hi]; omega
        rw [e1] at h2
        exact h2
theorem lk_end {a : Int32} (ha : vp_in a 200) : (a - (fDr_angleOf a)) + 50 = ((a / 50) * 50) + 50 ∧ (((a / 50) * 50) + 50).toInt ≤ 200 ∧ a.toInt ≤ (((a / 50) * 50) + 50).toInt ∧ (((a / 50) * 50) + 50).toInt - a.toInt ≤ 50 := by
  obtain ⟨a1, a2⟩ := vp_in_iff.mp ha
  have a2 : a.toInt < 200 := a2
  have e3 : (fDr_angleOf a).toInt = a.toInt % 50 := by
    show (a % 50).toInt = _
    rw [Int32.toInt_mod, i50, Int.tmod_eq_emod_of_nonneg a1]
  have s1 : (a - fDr_angleOf a).toInt = a.toInt - a.toInt % 50 := by rw [Kit.i32_sub (by rw [e3]; omega) (by rw [e3]; omega), e3]
  have s2 : ((a - fDr_angleOf a) + 50).toInt = a.toInt - a.toInt % 50 + 50 := by rw [Kit.i32_add (by rw [s1, i50]; omega) (by rw [s1, i50]; omega), s1, i50]
  have d1 : (a / 50).toInt = a.toInt / 50 := by rw [Kit.i32_div (by intro h; omega), i50, Int.tdiv_eq_ediv_of_nonneg a1]
  have d2 : ((a / 50) * 50).toInt = a.toInt / 50 * 50 := by rw [Kit.i32_mul (by rw [d1, i50]; omega) (by rw [d1, i50]; omega), d1, i50]
  have d3 : (((a / 50) * 50) + 50).toInt = a.toInt / 50 * 50 + 50 := by rw [Kit.i32_add (by rw [d2, i50]; omega) (by rw [d2, i50]; omega), d2, i50]
  refine ⟨Int32.toInt_inj.mp (by rw [s2, d3]; omega), by rw [d3]; omega, by rw [d3]; omega, by rw [d3]; omega⟩
theorem fx84 (d : Int32) : fOp_fixedTime 84 d = 0 := by
  rw [fOp_fixedTime.eq_1]
  rw [if_neg (by decide), if_neg (by decide), if_neg (by decide), if_neg (by decide), if_neg (by decide), if_neg (by decide)]
theorem c_t0 (z : SC) : c_time_s z (c_time z + (0 : Int32).toInt64) = z := by
  have e : (0 : Int32).toInt64 = 0 := by decide
  rw [e, Int64.add_zero]
  rfl
theorem rd84 {z : SC} {m : SM} (h : RU z m) {d w : Int32} (hw : m_nxt m = w) (hd : vp_in d 200) : oR z m 84 d (fPr_lookUp z d) (fMo_lookUp m d w) := by
  obtain ⟨e1, e2, e3, e4⟩ := lk_end hd
  have hd1 := (vp_in_iff.mp hd).1
  rw [fPr_lookUp.eq_1, fMo_lookUp.eq_1, e1]
  have hk := lk_R 51 z m d w (((d / 50) * 50) + 50) d h hw ⟨hd1, e3, e2⟩ (by omega)
  refine ⟨hk.1, hk.2.1, ?_⟩
  have ht := zR_le (d' := 300) hk.2.2.1 (by omega)
  rcases hk.2.2.2 with ⟨a, b, c⟩ | ⟨a, b, c⟩
  · refine .inl ⟨a, b, c, ?_⟩
    rw [fx84, c_t0]
    exact ht
  · exact .inr ⟨a, b, c, ht⟩
