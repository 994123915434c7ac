/-! ===== pure part: the accumulator ===== -/
abbrev Acc : Type := Int64 × Int64 × Bool × Bool
def c_acc (z : SC) : Acc := (c_upper z, c_lower z, c_amin z, c_ovf z)
def c_acc_s (z : SC) (w : Acc) : SC := c_ovf_s (c_amin_s (c_lower_s (c_upper_s z w.1) w.2.1) w.2.2.1) w.2.2.2
def m_acc (z : SM) : Acc := (m_upper z, m_lower z, m_amin z, m_ovf z)
def m_acc_s (z : SM) (w : Acc) : SM := m_ovf_s (m_amin_s (m_lower_s (m_upper_s z w.1) w.2.1) w.2.2.1) w.2.2.2
def aOk (w : Acc) : Prop := rg w.1 ∧ rg w.2.1
/-- what an accumulator is after an operation: its numbers, its sign, its overflow -/
def aIs (w : Acc) (x y : Int) (s o : Bool) : Prop := w.1.toInt = x ∧ w.2.1.toInt = y ∧ w.2.2.1 = s ∧ w.2.2.2 = o
theorem aIs_eq {w w' : Acc} {x y : Int} {s o : Bool} (h : aIs w x y s o) (h' : aIs w' x y s o) : w = w' := by
  obtain ⟨a, b, c, d⟩ := w
  obtain ⟨a', b', c', d'⟩ := w'
  obtain ⟨h1, h2, h3, h4⟩ := h
  obtain ⟨k1, k2, k3, k4⟩ := h'
  have e1 : a = a' := Int64.toInt_inj.mp (h1.trans k1.symm)
  have e2 : b = b' := Int64.toInt_inj.mp (h2.trans k2.symm)
  have e3 : c = c' := h3.trans k3.symm
  have e4 : d = d' := h4.trans k4.symm
  rw [e1, e2, e3, e4]
def aT (w : Acc) : Int := w.1.toInt * 10000000000 + w.2.1.toInt
def addU (w : Acc) (u v : Int64) (b : Bool) : Int := if w.2.2.1 = b then (aT w + (u.toInt * 10000000000 + v.toInt)) / 10000000000 % 10000000000 else if u.toInt * 10000000000 + v.toInt ≤ aT w then (aT w - (u.toInt * 10000000000 + v.toInt)) / 10000000000 else (u.toInt * 10000000000 + v.toInt - aT w) / 10000000000
def addL (w : Acc) (u v : Int64) (b : Bool) : Int := if w.2.2.1 = b then (aT w + (u.toInt * 10000000000 + v.toInt)) % 10000000000 else if u.toInt * 10000000000 + v.toInt ≤ aT w then (aT w - (u.toInt * 10000000000 + v.toInt)) % 10000000000 else (u.toInt * 10000000000 + v.toInt - aT w) % 10000000000
def addS (w : Acc) (u v : Int64) (b : Bool) : Bool := if w.2.2.1 = b then w.2.2.1 else if u.toInt * 10000000000 + v.toInt ≤ aT w then w.2.2.1 else b
def addO (w : Acc) (u v : Int64) (b : Bool) : Bool := if w.2.2.1 = b then (w.2.2.2 || decide (100000000000000000000 ≤ aT w + (u.toInt * 10000000000 + v.toInt))) else w.2.2.2
theorem a77 (z : SC) {x y : Int64} (hx : 0 ≤ x.toInt ∧ x.toInt < 20000000000) (hy : -20000000000 < y.toInt ∧ y.toInt < 20000000000) (hp : 0 ≤ x.toInt * 10000000000 + y.toInt) :
    ∃ w, fAc_add_77 z x y = c_acc_s z w ∧ aIs w ((x.toInt * 10000000000 + y.toInt) / 10000000000 % 10000000000) ((x.toInt * 10000000000 + y.toInt) % 10000000000) (c_amin z) (c_ovf z || decide (100000000000000000000 ≤ x.toInt * 10000000000 + y.toInt)) := by
  have hd := fd_T (x := y) (by omega)
  have hm := fm_T (x := y) (by omega)
  have hs : (x + fMa_floorDiv y 10000000000).toInt = x.toInt + y.toInt / 10000000000 := by
    rw [Kit.i64_add (by rw [hd]; omega) (by rw [hd]; omega), hd]
  have hr : ((x + fMa_floorDiv y 10000000000) % 10000000000).toInt = (x.toInt + y.toInt / 10000000000) % 10000000000 := by
    rw [l_mod (by rw [hs]; omega), hs, c_T]
  rw [fAc_add_77.eq_1]
  by_cases h : (x + fMa_floorDiv y 10000000000) < 10000000000
  · have h2 : x.toInt + y.toInt / 10000000000 < 10000000000 := by
      rw [Int64.lt_iff_toInt_lt, hs, c_T] at h
      exact h
    rw [if_pos h]
    refine ⟨((x + fMa_floorDiv y 10000000000) % 10000000000, fMa_floorMod y 10000000000, c_amin z, c_ovf z), rfl, ?_, ?_, rfl, ?_⟩
    · show ((x + fMa_floorDiv y 10000000000) % 10000000000).toInt = _
      rw [hr]
      omega
    · show (fMa_floorMod y 10000000000).toInt = _
      rw [hm]
      omega
    · show c_ovf z = _
      rw [decide_eq_false (by omega), Bool.or_false]
  · have h2 : ¬ x.toInt + y.toInt / 10000000000 < 10000000000 := by
      rw [Int64.lt_iff_toInt_lt, hs, c_T] at h
      exact h
    rw [if_neg h]
    refine ⟨((x + fMa_floorDiv y 10000000000) % 10000000000, fMa_floorMod y 10000000000, c_amin z, true), rfl, ?_, ?_, rfl, ?_⟩
    · show ((x + fMa_floorDiv y 10000000000) % 10000000000).toInt = _
      rw [hr]
      omega
    · show (fMa_floorMod y 10000000000).toInt = _
      rw [hm]
      omega
    · show true = _
      rw [decide_eq_true (by omega), Bool.or_true]
theorem a61 (z : SC) (b : Bool) {x y : Int64} (hx : -20000000000 < x.toInt ∧ x.toInt ≤ 0) (hy : -20000000000 < y.toInt ∧ y.toInt < 20000000000) (hp : x.toInt * 10000000000 + y.toInt ≤ 0) :
    ∃ w, fAc_add_61 z b x y = c_acc_s z w ∧ aIs w (-(x.toInt * 10000000000 + y.toInt) / 10000000000 % 10000000000) (-(x.toInt * 10000000000 + y.toInt) % 10000000000) b (c_ovf z || decide (100000000000000000000 ≤ -(x.toInt * 10000000000 + y.toInt))) := by
  rw [fAc_add_61.eq_1]
  have e1 : (-x).toInt = -x.toInt := Kit.i64_neg (by omega)
  have e2 : (-y).toInt = -y.toInt := Kit.i64_neg (by omega)
  obtain ⟨w, h1, h2⟩ := a77 (c_amin_s z b) (x := -x) (y := -y) (by rw [e1]; omega) (by rw [e2]; omega) (by rw [e1, e2]; omega)
  refine ⟨w, h1, ?_⟩
  rw [e1, e2] at h2
  have e3 : -x.toInt * 10000000000 + -y.toInt = -(x.toInt * 10000000000 + y.toInt) := by omega
  rw [e3] at h2
  exact h2
theorem c_add {z : SC} {u v : Int64} (b : Bool) (ho : aOk (c_acc z)) (hu : rg u) (hv : rg v) :
    ∃ w, fAc_add z u v b = c_acc_s z w ∧ aIs w (addU (c_acc z) u v b) (addL (c_acc z) u v b) (addS (c_acc z) u v b) (addO (c_acc z) u v b) := by
  obtain ⟨⟨hU1, hU2⟩, hL1, hL2⟩ := ho
  have hU1 : 0 ≤ (c_upper z).toInt := hU1
  have hU2 : (c_upper z).toInt < 10000000000 := hU2
  have hL1 : 0 ≤ (c_lower z).toInt := hL1
  have hL2 : (c_lower z).toInt < 10000000000 := hL2
  obtain ⟨hu1, hu2⟩ := hu
  obtain ⟨hv1, hv2⟩ := hv
  rw [fAc_add.eq_1]
  have p1 : ((1 : Int32).toInt64 * u).toInt = u.toInt := by
    have e : (1 : Int32).toInt64.toInt = 1 := by decide
    rw [Kit.i64_mul (by rw [e]; omega) (by rw [e]; omega), e]; omega
  have p2 : ((1 : Int32).toInt64 * v).toInt = v.toInt := by
    have e : (1 : Int32).toInt64.toInt = 1 := by decide
    rw [Kit.i64_mul (by rw [e]; omega) (by rw [e]; omega), e]; omega
  have n1 : ((-1 : Int32).toInt64 * u).toInt = -u.toInt := by
    have e : (-1 : Int32).toInt64.toInt = -1 := by decide
    rw [Kit.i64_mul (by rw [e]; omega) (by rw [e]; omega), e]; omega
  have n2 : ((-1 : Int32).toInt64 * v).toInt = -v.toInt := by
    have e : (-1 : Int32).toInt64.toInt = -1 := by decide
    rw [Kit.i64_mul (by rw [e]; omega) (by rw [e]; omega), e]; omega
  have q1 : (c_upper z + (1 : Int32).toInt64 * u).toInt = (c_upper z).toInt + u.toInt := by
    rw [Kit.i64_add (by rw [p1]; omega) (by rw [p1]; omega), p1]
  have q2 : (c_lower z + (1 : Int32).toInt64 * v).toInt = (c_lower z).toInt + v.toInt := by
    rw [Kit.i64_add (by rw [p2]; omega) (by rw [p2]; omega), p2]
  have r1 : (c_upper z + (-1 : Int32).toInt64 * u).toInt = (c_upper z).toInt - u.toInt := by
    rw [Kit.i64_add (by rw [n1]; omega) (by rw [n1]; omega), n1]; omega
  have r2 : (c_lower z + (-1 : Int32).toInt64 * v).toInt = (c_lower z).toInt - v.toInt := by
    rw [Kit.i64_add (by rw [n2]; omega) (by rw [n2]; omega), n2]; omega
  by_cases hb : c_amin z = b
  · rw [if_pos hb, fAc_add_14.eq_1]
    have hn : ¬ (c_upper z + (1 : Int32).toInt64 * u) < 0 := by
      rw [Int64.lt_iff_toInt_lt, q1, c_0]; omega
    have hl : 0 ≤ (c_lower z + (1 : Int32).toInt64 * v) := by
      rw [Int64.le_iff_toInt_le, q2, c_0]; omega
    rw [if_neg hn, if_pos hl, ite_self]
    obtain ⟨w, h1, h2⟩ := a77 z (x := c_upper z + (1 : Int32).toInt64 * u) (y := c_lower z + (1 : Int32).toInt64 * v) (by rw [q1]; omega) (by rw [q2]; omega) (by rw [q1, q2]; omega)
    refine ⟨w, h1, ?_⟩
    rw [q1, q2] at h2
    have e : ((c_upper z).toInt + u.toInt) * 10000000000 + ((c_lower z).toInt + v.toInt) = aT (c_acc z) + (u.toInt * 10000000000 + v.toInt) := by
      show _ = (c_upper z).toInt * 10000000000 + (c_lower z).toInt + _
      omega
    rw [e] at h2
    have hb' : (c_acc z).2.2.1 = b := hb
    unfold addU addL addS addO
    rw [if_pos hb', if_pos hb', if_pos hb', if_pos hb']
    exact h2
  · rw [if_neg hb, fAc_add_14.eq_1]
    have hb' : ¬ (c_acc z).2.2.1 = b := hb
    have eT : aT (c_acc z) = (c_upper z).toInt * 10000000000 + (c_lower z).toInt := rfl
    unfold addU addL addS addO
    rw [if_neg hb', if_neg hb', if_neg hb', if_neg hb']
    by_cases hc : u.toInt * 10000000000 + v.toInt ≤ aT (c_acc z)
    · rw [if_pos hc, if_pos hc, if_pos hc]
      rw [eT] at hc
      have hn : ¬ (c_upper z + (-1 : Int32).toInt64 * u) < 0 := by
        rw [Int64.lt_iff_toInt_lt, r1, c_0]; omega
      rw [if_neg hn]
      obtain ⟨w, h1, h2⟩ := a77 z (x := c_upper z + (-1 : Int32).toInt64 * u) (y := c_lower z + (-1 : Int32).toInt64 * v) (by rw [r1]; omega) (by rw [r2]; omega) (by rw [r1, r2]; omega)
      rw [r1, r2] at h2
      have e : ((c_upper z).toInt - u.toInt) * 10000000000 + ((c_lower z).toInt - v.toInt) = aT (c_acc z) - (u.toInt * 10000000000 + v.toInt) := by
        rw [eT]; omega
      rw [e, decide_eq_false (by rw [eT]; omega), Bool.or_false] at h2
      have e2 : (aT (c_acc z) - (u.toInt * 10000000000 + v.toInt)) / 10000000000 % 10000000000 = (aT (c_acc z) - (u.toInt * 10000000000 + v.toInt)) / 10000000000 := by
        rw [eT]; omega
      rw [e2] at h2
      refine ⟨w, ?_, h2⟩
      by_cases h0 : (c_upper z + (-1 : Int32).toInt64 * u) = 0
      · have h0' : (c_upper z).toInt - u.toInt = 0 := by rw [← r1, h0, c_0]
        rw [if_pos h0, if_pos (by rw [Int64.le_iff_toInt_le, r2, c_0]; omega)]
        exact h1
      · rw [if_neg h0]
        exact h1
    · rw [if_neg hc, if_neg hc, if_neg hc]
      rw [eT] at hc
      obtain ⟨w, h1, h2⟩ := a61 z b (x := c_upper z + (-1 : Int32).toInt64 * u) (y := c_lower z + (-1 : Int32).toInt64 * v) (by rw [r1]; omega) (by rw [r2]; omega) (by rw [r1, r2]; omega)
      rw [r1, r2] at h2
      have e : -(((c_upper z).toInt - u.toInt) * 10000000000 + ((c_lower z).toInt - v.toInt)) = u.toInt * 10000000000 + v.toInt - aT (c_acc z) := by
        rw [eT]; omega
      rw [e, decide_eq_false (by rw [eT]; omega), Bool.or_false] at h2
      have e2 : (u.toInt * 10000000000 + v.toInt - aT (c_acc z)) / 10000000000 % 10000000000 = (u.toInt * 10000000000 + v.toInt - aT (c_acc z)) / 10000000000 := by
        rw [eT]; omega
      rw [e2] at h2
      refine ⟨w, ?_, h2⟩
      by_cases hn : (c_upper z + (-1 : Int32).toInt64 * u) < 0
      · rw [if_pos hn]
        exact h1
      · have hn' : ¬ (c_upper z).toInt - u.toInt < 0 := by
          rw [Int64.lt_iff_toInt_lt, r1, c_0] at hn; exact hn
        rw [if_neg hn, if_pos (Int64.toInt_inj.mp (by rw [r1, c_0]; omega)), if_neg (by rw [Int64.le_iff_toInt_le, r2, c_0]; omega)]
        exact h1
