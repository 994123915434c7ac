/-! multiplication -/
theorem c_set3 (z : SC) (x y : Int64) (s : Bool) : c_amin_s (c_lower_s (c_upper_s z x) y) s = c_acc_s z (x, y, s, c_ovf z) := rfl
theorem m_set3 (z : SM) (x y : Int64) (s : Bool) : m_amin_s (m_upper_s (m_lower_s z y) x) s = m_acc_s z (x, y, s, m_ovf z) := rfl
theorem c_5 : (100000 : Int64).toInt = 100000 := by decide
def mulT (w : Acc) (v : Int64) : Int := w.1.toInt * v.toInt + w.2.1.toInt
theorem mul_le {a c v : Int} (h0 : 0 ≤ a) (h : a ≤ c) (hv : 0 ≤ v) (hv2 : v < 10000000000) : 0 ≤ a * v ∧ a * v ≤ c * v := ⟨Int.mul_nonneg h0 hv, Int.mul_le_mul_of_nonneg_right h hv⟩
theorem mulT_rg {w : Acc} {v : Int64} (ho : aOk w) (hv : rg v) : 0 ≤ mulT w v ∧ mulT w v < 100000000000000000000 := by
  obtain ⟨⟨a1, a2⟩, b1, b2⟩ := ho
  obtain ⟨c1, c2⟩ := hv
  have h1 := mul_le a1 (show w.1.toInt ≤ 9999999999 by omega) c1 c2
  unfold mulT
  omega
set_option maxHeartbeats 4000000 in
theorem c_mul {z : SC} {v : Int64} (b : Bool) (ho : aOk (c_acc z)) (hv : rg v) :
    ∃ w, fAc_multiply z v b = c_acc_s z w ∧ aIs w (mulT (c_acc z) v / 10000000000) (mulT (c_acc z) v % 10000000000) (!decide (c_amin z = b)) (c_ovf z) := by
  obtain ⟨⟨hU1, hU2⟩, hL1, hL2⟩ := ho
  have hU1 : 0 ≤ (c_upper z).toInt := hU1
  have hU2 : (c_upper z).toInt < 10000000000 := hU2
  have hL1 : 0 ≤ (c_lower z).toInt := hL1
  have hL2 : (c_lower z).toInt < 10000000000 := hL2
  obtain ⟨hv1, hv2⟩ := hv
  have e1 : (c_upper z / 100000).toInt = (c_upper z).toInt / 100000 := by rw [l_div hU1 (by rw [c_5]; omega), c_5]
  have e2 : (c_upper z % 100000).toInt = (c_upper z).toInt % 100000 := by rw [l_mod hU1, c_5]
  have hT : mulT (c_acc z) v = ((c_upper z).toInt / 100000 * v.toInt) * 100000 + (c_upper z).toInt % 100000 * v.toInt + (c_lower z).toInt := by
    show (c_upper z).toInt * v.toInt + (c_lower z).toInt = _
    have h3 : (c_upper z).toInt = (c_upper z).toInt / 100000 * 100000 + (c_upper z).toInt % 100000 := by omega
    have h4 : (c_upper z).toInt * v.toInt = ((c_upper z).toInt / 100000 * 100000 + (c_upper z).toInt % 100000) * v.toInt := by rw [← h3]
    rw [h4, Int.add_mul, Int.mul_right_comm]
  have k1 := mul_le (a := (c_upper z).toInt / 100000) (c := 99999) (v := v.toInt) (by omega) (by omega) hv1 hv2
  have k2 := mul_le (a := (c_upper z).toInt % 100000) (c := 99999) (v := v.toInt) (by omega) (by omega) hv1 hv2
  have e3 : (c_upper z / 100000 * v).toInt = (c_upper z).toInt / 100000 * v.toInt := by
    rw [Kit.i64_mul (by rw [e1]; omega) (by rw [e1]; omega), e1]
  have e4 : (c_upper z % 100000 * v).toInt = (c_upper z).toInt % 100000 * v.toInt := by
    rw [Kit.i64_mul (by rw [e2]; omega) (by rw [e2]; omega), e2]
  generalize (c_upper z).toInt / 100000 * v.toInt = A at hT k1 e3
  generalize (c_upper z).toInt % 100000 * v.toInt = B at hT k2 e4
  have e5 : (c_upper z / 100000 * v % 100000).toInt = A % 100000 := by rw [l_mod (by rw [e3]; omega), e3, c_5]
  have e6 : (c_upper z / 100000 * v % 100000 * 100000).toInt = A % 100000 * 100000 := by
    rw [Kit.i64_mul (by rw [e5, c_5]; omega) (by rw [e5, c_5]; omega), e5, c_5]
  have e7 : (c_upper z / 100000 * v % 100000 * 100000 + c_upper z % 100000 * v).toInt = A % 100000 * 100000 + B := by
    rw [Kit.i64_add (by rw [e6, e4]; omega) (by rw [e6, e4]; omega), e6, e4]
  have e8 : (c_upper z / 100000 * v % 100000 * 100000 + c_upper z % 100000 * v + c_lower z).toInt = A % 100000 * 100000 + B + (c_lower z).toInt := by
    rw [Kit.i64_add (by rw [e7]; omega) (by rw [e7]; omega), e7]
  have e9 : (c_upper z / 100000 * v / 100000).toInt = A / 100000 := by rw [l_div (by rw [e3]; omega) (by rw [c_5]; omega), e3, c_5]
  rw [fAc_multiply.eq_1, fAc_multiply_44.eq_1]
  generalize c_upper z / 100000 * v % 100000 * 100000 + c_upper z % 100000 * v + c_lower z = lo at e8
  generalize c_upper z / 100000 * v = hi at e9
  have f1 : (lo / 10000000000).toInt = (A % 100000 * 100000 + B + (c_lower z).toInt) / 10000000000 := by rw [l_div (by rw [e8]; omega) (by rw [c_T]; omega), e8, c_T]
  have f2 : (lo % 10000000000).toInt = (A % 100000 * 100000 + B + (c_lower z).toInt) % 10000000000 := by rw [l_mod (by rw [e8]; omega), e8, c_T]
  have f3 : (hi / 100000 + lo / 10000000000).toInt = A / 100000 + (A % 100000 * 100000 + B + (c_lower z).toInt) / 10000000000 := by
    rw [Kit.i64_add (by rw [e9, f1]; omega) (by rw [e9, f1]; omega), e9, f1]
  have key : ∀ s : Bool, aIs (hi / 100000 + lo / 10000000000, lo % 10000000000, s, c_ovf z) (mulT (c_acc z) v / 10000000000) (mulT (c_acc z) v % 10000000000) s (c_ovf z) := by
    intro s
    refine ⟨?_, ?_, rfl, rfl⟩
    · show (hi / 100000 + lo / 10000000000).toInt = _
      rw [f3, hT]; omega
    · show (lo % 10000000000).toInt = _
      rw [f2, hT]; omega
  by_cases hc : c_amin z = b
  · rw [if_pos hc, decide_eq_true hc, Bool.not_true]
    exact ⟨(hi / 100000 + lo / 10000000000, lo % 10000000000, false, c_ovf z), c_set3 _ _ _ _, key false⟩
  · rw [if_neg hc, decide_eq_false hc, Bool.not_false]
    exact ⟨(hi / 100000 + lo / 10000000000, lo % 10000000000, true, c_ovf z), c_set3 _ _ _ _, key true⟩
theorem pre_step {U : Int} (h1 : 0 ≤ U) (h2 : U < 10000000000) : ∀ k : Nat, k < 10 →
    U / 10 ^ (10 - (k + 1)) = 10 * (U / 10 ^ (10 - k)) + U / (1000000000 / 10 ^ k) % 10 ∧ (1000000000 / 10 ^ k : Int) / 10 = 1000000000 / 10 ^ (k + 1) ∧ (0 : Int) < 1000000000 / 10 ^ k ∧ 0 ≤ U / 10 ^ (10 - k) ∧ U / 10 ^ (10 - k) < 10000000000 := by
  intro k hk
  have h9 : k = 0 ∨ k = 1 ∨ k = 2 ∨ k = 3 ∨ k = 4 ∨ k = 5 ∨ k = 6 ∨ k = 7 ∨ k = 8 ∨ k = 9 := by omega
  rcases h9 with rfl | rfl | rfl | rfl | rfl | rfl | rfl | rfl | rfl | rfl <;> (refine ⟨?_, ?_, ?_, ?_, ?_⟩ <;> first | decide | (simp only [Nat.reduceSub, Nat.reduceAdd, Int.reducePow, Int.reduceDiv]; omega))
set_option maxHeartbeats 4000000 in
theorem mul_loop (m : SM) (v : Int64) (b : Bool) (hv : rg v) (hU : rg (m_upper m)) (hL : rg (m_lower m)) : ∀ (n k : Nat) (hi lo un : Int64), k + n = 11 → k ≤ 10 → 0 ≤ hi.toInt → 0 ≤ lo.toInt → lo.toInt < 10000000000 → hi.toInt * 10000000000 + lo.toInt = (m_upper m).toInt / 10 ^ (10 - k) * v.toInt → un.toInt = 1000000000 / 10 ^ k →
    ∃ w, fMo_multiply_20 n m v b (m_upper m) hi lo un k = m_acc_s m w ∧ aIs w (mulT (m_acc m) v / 10000000000) (mulT (m_acc m) v % 10000000000) (!decide (m_amin m = b)) (m_ovf m) := by
  have hrT := mulT_rg (w := m_acc m) (v := v) ⟨hU, hL⟩ hv
  obtain ⟨hv1, hv2⟩ := hv
  obtain ⟨hU1, hU2⟩ := hU
  obtain ⟨hL1, hL2⟩ := hL
  intro n
  induction n with
  | zero => intro k hi lo un h1 h2; omega
  | succ n ih =>
    intro k hi lo un h1 h2 a1 a2 a3 a4 hu
    rw [fMo_multiply_20.eq_2]
    by_cases hk : 10 ≤ k
    · have hk2 : k = 10 := by omega
      subst hk2
      rw [if_pos (Nat.le_refl 10), fMo_multiply_90.eq_1]
      have a5 : hi.toInt * 10000000000 + lo.toInt = (m_upper m).toInt * v.toInt := by
        simpa using a4
      have eT : mulT (m_acc m) v = hi.toInt * 10000000000 + lo.toInt + (m_lower m).toInt := by
        show (m_upper m).toInt * v.toInt + (m_lower m).toInt = _
        omega
      have s1 : (lo + m_lower m).toInt = lo.toInt + (m_lower m).toInt := Kit.i64_add (by omega) (by omega)
      have s2 : ((lo + m_lower m) / 10000000000).toInt = (lo.toInt + (m_lower m).toInt) / 10000000000 := by rw [l_div (by rw [s1]; omega) (by rw [c_T]; omega), s1, c_T]
      have s3 : ((lo + m_lower m) % 10000000000).toInt = (lo.toInt + (m_lower m).toInt) % 10000000000 := by rw [l_mod (by rw [s1]; omega), s1, c_T]
      have s4 : (hi + (lo + m_lower m) / 10000000000).toInt = hi.toInt + (lo.toInt + (m_lower m).toInt) / 10000000000 := by
        rw [Kit.i64_add (by rw [s2]; omega) (by rw [s2]; omega), s2]
      have s5 : ((hi + (lo + m_lower m) / 10000000000) % 10000000000).toInt = (hi.toInt + (lo.toInt + (m_lower m).toInt) / 10000000000) % 10000000000 := by rw [l_mod (by rw [s4]; omega), s4, c_T]
      have key : ∀ s : Bool, aIs ((hi + (lo + m_lower m) / 10000000000) % 10000000000, (lo + m_lower m) % 10000000000, s, m_ovf m) (mulT (m_acc m) v / 10000000000) (mulT (m_acc m) v % 10000000000) s (m_ovf m) := by
        intro s
        refine ⟨?_, ?_, rfl, rfl⟩
        · show ((hi + (lo + m_lower m) / 10000000000) % 10000000000).toInt = _
          rw [s5]; omega
        · show ((lo + m_lower m) % 10000000000).toInt = _
          rw [s3]; omega
      by_cases hc : m_amin m = b
      · rw [if_pos hc, decide_eq_true hc, Bool.not_true]
        exact ⟨((hi + (lo + m_lower m) / 10000000000) % 10000000000, (lo + m_lower m) % 10000000000, false, m_ovf m), m_set3 _ _ _ _, key false⟩
      · rw [if_neg hc, decide_eq_false hc, Bool.not_false]
        exact ⟨((hi + (lo + m_lower m) / 10000000000) % 10000000000, (lo + m_lower m) % 10000000000, true, m_ovf m), m_set3 _ _ _ _, key true⟩
    · have hk2 : k < 10 := by omega
      rw [if_neg hk, fMo_multiply_39.eq_1]
      obtain ⟨d1, d3, d4, d5, d6⟩ := pre_step hU1 hU2 k hk2
      have g2 : (m_upper m / un).toInt = (m_upper m).toInt / (1000000000 / 10 ^ k) := by
        rw [l_div hU1 (by rw [hu]; exact d4), hu]
      have g20 : 0 ≤ (m_upper m).toInt / (1000000000 / 10 ^ k) := Int.ediv_nonneg hU1 (by omega)
      have g3 : (m_upper m / un % 10).toInt = (m_upper m).toInt / (1000000000 / 10 ^ k) % 10 := by
        rw [l_mod (by rw [g2]; exact g20), g2, c_10]
      generalize hd : (m_upper m).toInt / (1000000000 / 10 ^ k) % 10 = d at g3 d1
      have hd0 : 0 ≤ d ∧ d ≤ 9 := by omega
      have g4 : ((m_upper m / un % 10).toInt32.toInt64).toInt = d := by
        rw [Kit.i64_of_i32, Kit.i32_of_i64 (by rw [g3]; omega) (by rw [g3]; omega), g3]
      have hdv := mul_le (a := d) (c := 9) (v := v.toInt) hd0.1 hd0.2 hv1 hv2
      have g5 : ((m_upper m / un % 10).toInt32.toInt64 * v).toInt = d * v.toInt := by
        rw [Kit.i64_mul (by rw [g4]; omega) (by rw [g4]; omega), g4]
      have g6 : (10 * lo).toInt = 10 * lo.toInt := by rw [Kit.i64_mul (by rw [c_10]; omega) (by rw [c_10]; omega), c_10]
      have g7 : (10 * lo + (m_upper m / un % 10).toInt32.toInt64 * v).toInt = 10 * lo.toInt + d * v.toInt := by
        rw [Kit.i64_add (by rw [g6, g5]; omega) (by rw [g6, g5]; omega), g6, g5]
      have hPv := mul_le (a := (m_upper m).toInt / 10 ^ (10 - k)) (c := 9999999999) (v := v.toInt) d5 (by omega) hv1 hv2
      have hhi : hi.toInt < 10000000000 := by omega
      have g8 : (10 * hi).toInt = 10 * hi.toInt := by rw [Kit.i64_mul (by rw [c_10]; omega) (by rw [c_10]; omega), c_10]
      have hP2 : (m_upper m).toInt / 10 ^ (10 - (k + 1)) * v.toInt = 10 * ((m_upper m).toInt / 10 ^ (10 - k) * v.toInt) + d * v.toInt := by
        rw [d1, Int.add_mul, Int.mul_assoc]
      generalize (m_upper m).toInt / 10 ^ (10 - k) * v.toInt = PV at a4 hPv hP2
      generalize d * v.toInt = DV at hdv g7 hP2
      generalize 10 * lo + (m_upper m / un % 10).toInt32.toInt64 * v = t at g7
      have g9 : (t / 10000000000).toInt = (10 * lo.toInt + DV) / 10000000000 := by rw [l_div (by rw [g7]; omega) (by rw [c_T]; omega), g7, c_T]
      have g10 : (t % 10000000000).toInt = (10 * lo.toInt + DV) % 10000000000 := by rw [l_mod (by rw [g7]; omega), g7, c_T]
      have g11 : (10 * hi + t / 10000000000).toInt = 10 * hi.toInt + (10 * lo.toInt + DV) / 10000000000 := by
        rw [Kit.i64_add (by rw [g8, g9]; omega) (by rw [g8, g9]; omega), g8, g9]
      have hu2 : (un / 10).toInt = 1000000000 / 10 ^ (k + 1) := by
        rw [l_div (by rw [hu]; omega) (by rw [c_10]; omega), hu, c_10, d3]
      exact ih (k + 1) _ _ _ (by omega) (by omega) (by rw [g11]; omega) (by rw [g10]; omega) (by rw [g10]; omega) (by rw [g11, g10, hP2]; omega) hu2
theorem mul_both {z : SC} {m : SM} {v : Int64} (b : Bool) (he : c_acc z = m_acc m) (ho : aOk (c_acc z)) (hv : rg v) : ∃ w, aOk w ∧ fAc_multiply z v b = c_acc_s z w ∧ fMo_multiply m v b = m_acc_s m w := by
  obtain ⟨w, h1, h2⟩ := c_mul b ho hv
  have eS : c_amin z = m_amin m := congrArg (fun w => w.2.2.1) he
  have eO : c_ovf z = m_ovf m := congrArg (fun w => w.2.2.2) he
  have hU : rg (m_upper m) := by have := ho.1; rw [he] at this; exact this
  have hL : rg (m_lower m) := by have := ho.2; rw [he] at this; exact this
  obtain ⟨w', k1, k2⟩ := mul_loop m v b hv hU hL 11 0 0 0 1000000000 rfl (by decide) (by decide) (by decide) (by decide) (by
    simp only [Nat.reduceSub, Int.reducePow, c_0]
    have h5 : (m_upper m).toInt / 10000000000 = 0 := by have := hU.1; have := hU.2; omega
    rw [h5]; omega) (by rw [c_9]; decide)
  rw [he, eS, eO] at h2
  have e := aIs_eq h2 k2
  have r := mulT_rg ho hv
  rw [he] at r
  refine ⟨w, ⟨⟨?_, ?_⟩, ?_, ?_⟩, h1, by rw [fMo_multiply.eq_1, e]; exact k1⟩
  · rw [h2.1]; omega
  · rw [h2.1]; omega
  · rw [h2.2.1]; omega
  · rw [h2.2.1]; omega
