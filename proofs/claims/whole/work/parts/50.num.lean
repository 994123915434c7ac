/-! ===== pure part: numbers ===== -/
theorem l_div {x y : Int64} (hx : 0 ≤ x.toInt) (hy : 0 < y.toInt) : (x / y).toInt = x.toInt / y.toInt := by
  rw [Kit.i64_div (by intro h; omega)]
  exact Int.tdiv_eq_ediv_of_nonneg hx
theorem l_mod {x y : Int64} (hx : 0 ≤ x.toInt) : (x % y).toInt = x.toInt % y.toInt := by
  rw [Int64.toInt_mod, Int.tmod_eq_emod_of_nonneg hx]
theorem c_T : (10000000000 : Int64).toInt = 10000000000 := by decide
def rg (x : Int64) : Prop := 0 ≤ x.toInt ∧ x.toInt < 10000000000
theorem xor_neg (x y : Int64) : (x ^^^ y) < 0 ↔ ((decide (x.toInt < 0)) ^^ (decide (y.toInt < 0))) = true := by
  rw [Int64.lt_iff_toInt_lt, Int64.toInt_zero]
  show (x ^^^ y).toBitVec.toInt < 0 ↔ _
  rw [Int64.toBitVec_xor]
  have h : (x.toBitVec ^^^ y.toBitVec).msb = (x.toBitVec.msb ^^ y.toBitVec.msb) := BitVec.msb_xor
  rw [BitVec.msb_eq_toInt, BitVec.msb_eq_toInt, BitVec.msb_eq_toInt] at h
  show _ ↔ ((decide (x.toBitVec.toInt < 0)) ^^ (decide (y.toBitVec.toInt < 0))) = true
  rw [← h]
  simp
theorem xT_neg (x : Int64) : (x ^^^ 10000000000) < 0 ↔ x.toInt < 0 := by
  rw [xor_neg, c_T]
  simp
theorem l_sub {x y : Int64} (h1 : -2 ^ 63 ≤ x.toInt - y.toInt) (h2 : x.toInt - y.toInt < 2 ^ 63) : (x - y).toInt = x.toInt - y.toInt := Kit.i64_sub h1 h2
theorem td_neg {a : Int} (h : a < 0) (c : Int) : a.tdiv c = -((-a) / c) := by
  rw [← Int.tdiv_eq_ediv_of_nonneg (by omega : 0 ≤ -a), Int.neg_tdiv, Int.neg_neg]
theorem tm_neg {a : Int} (h : a < 0) (c : Int) : a.tmod c = -((-a) % c) := by
  rw [← Int.tmod_eq_emod_of_nonneg (by omega : 0 ≤ -a), Int.neg_tmod, Int.neg_neg]
theorem c_1 : (1 : Int64).toInt = 1 := by decide
theorem c_0 : (0 : Int64).toInt = 0 := by decide
/-- the floor of a quotient by ten to the tenth -/
theorem fd_T {x : Int64} (h : -100000000000 < x.toInt ∧ x.toInt < 100000000000) : (fMa_floorDiv x 10000000000).toInt = x.toInt / 10000000000 := by
  rw [fMa_floorDiv.eq_1]
  by_cases hx : x.toInt < 0
  · have hq : (x / 10000000000).toInt = -((-x.toInt) / 10000000000) := by
      rw [Kit.i64_div (by intro h2; omega), c_T, td_neg hx]
    have hm : ((x / 10000000000) * 10000000000).toInt = -((-x.toInt) / 10000000000) * 10000000000 := by
      rw [Kit.i64_mul (by rw [hq, c_T]; omega) (by rw [hq, c_T]; omega), hq, c_T]
    have hn : ¬ 0 ≤ (x ^^^ 10000000000) := by
      have h2 := (xT_neg x).mpr hx
      rw [Int64.le_iff_toInt_le, c_0]
      rw [Int64.lt_iff_toInt_lt, c_0] at h2
      omega
    rw [if_neg hn]
    by_cases he : (x / 10000000000) * 10000000000 = x
    · have he2 : -((-x.toInt) / 10000000000) * 10000000000 = x.toInt := by rw [← hm, he]
      rw [if_pos he, hq]
      omega
    · have he2 : -((-x.toInt) / 10000000000) * 10000000000 ≠ x.toInt := fun h3 => he (Int64.toInt_inj.mp (by rw [hm, h3]))
      rw [if_neg he, Kit.i64_sub (by rw [hq, c_1]; omega) (by rw [hq, c_1]; omega), hq, c_1]
      omega
  · have hn : 0 ≤ (x ^^^ 10000000000) := by
      have h2 : ¬ (x ^^^ 10000000000) < 0 := fun h3 => hx ((xT_neg x).mp h3)
      rw [Int64.lt_iff_toInt_lt, c_0] at h2
      rw [Int64.le_iff_toInt_le, c_0]
      omega
    rw [if_pos hn, l_div (by omega) (by rw [c_T]; omega), c_T]
theorem fm_T {x : Int64} (h : -100000000000 < x.toInt ∧ x.toInt < 100000000000) : (fMa_floorMod x 10000000000).toInt = x.toInt % 10000000000 := by
  rw [fMa_floorMod.eq_1]
  by_cases hx : x.toInt < 0
  · have hq : (x % 10000000000).toInt = -((-x.toInt) % 10000000000) := by
      rw [Int64.toInt_mod, c_T, tm_neg hx]
    have hn : ¬ 0 ≤ (x ^^^ 10000000000) := by
      have h2 := (xT_neg x).mpr hx
      rw [Int64.le_iff_toInt_le, c_0]
      rw [Int64.lt_iff_toInt_lt, c_0] at h2
      omega
    rw [if_neg hn]
    by_cases he : (x % 10000000000) = 0
    · have he2 : -((-x.toInt) % 10000000000) = 0 := by rw [← hq, he, c_0]
      rw [if_pos he, hq]
      omega
    · have he2 : -((-x.toInt) % 10000000000) ≠ 0 := fun h3 => he (Int64.toInt_inj.mp (by rw [hq, h3, c_0]))
      rw [if_neg he, Kit.i64_add (by rw [hq, c_T]; omega) (by rw [hq, c_T]; omega), hq, c_T]
      omega
  · have hn : 0 ≤ (x ^^^ 10000000000) := by
      have h2 : ¬ (x ^^^ 10000000000) < 0 := fun h3 => hx ((xT_neg x).mp h3)
      rw [Int64.lt_iff_toInt_lt, c_0] at h2
      rw [Int64.le_iff_toInt_le, c_0]
      omega
    rw [if_pos hn, l_mod (by omega), c_T]
