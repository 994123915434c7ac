def lst (L : Int) : Nat → Int
  | 0 => 0
  | k + 1 => L / 10 ^ k % 10
def msrE (z : SM) (b : Bool) (v3 : Int32) : SM := (if b = true then (if (5 : Int32) ≤ v3 then m_lower_s (m_upper_s (m_lower_s z ((m_lower z) + 1)) ((m_upper z) + (((m_lower z) + 1) / 10000000000))) (((m_lower z) + 1) % 10000000000) else z) else z)
theorem msr_set (m : SM) (u l u2 l2 : Int64) (s o : Bool) : m_upper_s (m_lower_s (m_acc_s m (u, l, s, o)) l2) u2 = m_acc_s m (u2, l2, s, o) := rfl
theorem msr_u (m : SM) (w : Acc) : m_upper (m_acc_s m w) = w.1 := rfl
theorem msr_l (m : SM) (w : Acc) : m_lower (m_acc_s m w) = w.2.1 := rfl
theorem msr_loop (m : SM) {x : Int32} {X : Nat} (b : Bool) (hx : x.toInt = X) (hX : X ≤ 10) (ho : aOk (m_acc m)) : ∀ (n k : Nat) (u l : Int64) (v3 : Int32), k + n = 11 → k ≤ X → u.toInt = (m_upper m).toInt / 10 ^ k → l.toInt = srL (m_upper m).toInt (m_lower m).toInt k → v3.toInt = lst (m_lower m).toInt k →
    ∃ (u' l' : Int64) (v' : Int32), u'.toInt = (m_upper m).toInt / 10 ^ X ∧ l'.toInt = srL (m_upper m).toInt (m_lower m).toInt X ∧ v'.toInt = lst (m_lower m).toInt X ∧ fMo_shiftRight_5 n (m_acc_s m (u, l, m_amin m, m_ovf m)) x b v3 k = msrE (m_acc_s m (u', l', m_amin m, m_ovf m)) b v' := by
  obtain ⟨⟨hU1, hU2⟩, hL1, hL2⟩ := ho
  have hU1 : 0 ≤ (m_upper m).toInt := hU1
  have hU2 : (m_upper m).toInt < 10000000000 := hU2
  have hL1 : 0 ≤ (m_lower m).toInt := hL1
  have hL2 : (m_lower m).toInt < 10000000000 := hL2
  intro n
  induction n with
  | zero => intro k u l v3 h1 h2; omega
  | succ n ih =>
    intro k u l v3 h1 h2 hu hl hv
    rw [fMo_shiftRight_5.eq_2]
    by_cases hc : x ≤ nI k
    · rw [if_pos hc]
      rw [Int32.le_iff_toInt_le, hx, nI_toInt (by omega)] at hc
      have e : k = X := by omega
      subst e
      exact ⟨u, l, v3, hu, hl, hv, rfl⟩
    · rw [if_neg hc]
      rw [Int32.le_iff_toInt_le, hx, nI_toInt (by omega)] at hc
      have hk : k < 10 := by omega
      obtain ⟨s1, s2, s3⟩ := sr_step hU1 hU2 hL1 hL2 k hk
      obtain ⟨⟨r1, r2⟩, r3, r4⟩ := sr_rg hU1 hU2 hL1 hL2 k (by omega)
      rw [msr_u, msr_l, msr_set]
      have f1 : (l / 10).toInt = srL (m_upper m).toInt (m_lower m).toInt k / 10 := by rw [l_div (by rw [hl]; exact r3) (by rw [c_10]; omega), hl, c_10]
      have f2 : (u % 10).toInt = (m_upper m).toInt / 10 ^ k % 10 := by rw [l_mod (by rw [hu]; exact r1), hu, c_10]
      have f3 : (u % 10 * 1000000000).toInt = (m_upper m).toInt / 10 ^ k % 10 * 1000000000 := by
        rw [Kit.i64_mul (by rw [f2, c_9]; omega) (by rw [f2, c_9]; omega), f2, c_9]
      have f4 : (l / 10 + u % 10 * 1000000000).toInt = srL (m_upper m).toInt (m_lower m).toInt (k + 1) := by
        rw [Kit.i64_add (by rw [f1, f3]; omega) (by rw [f1, f3]; omega), f1, f3, s1]
      have f5 : (u / 10).toInt = (m_upper m).toInt / 10 ^ (k + 1) := by rw [l_div (by rw [hu]; exact r1) (by rw [c_10]; omega), hu, c_10, s2]
      have f6 : (l % 10).toInt = (m_lower m).toInt / 10 ^ k % 10 := by rw [l_mod (by rw [hl]; exact r3), hl, c_10, s3]
      have f7 : ((l % 10).toInt32).toInt = lst (m_lower m).toInt (k + 1) := by
        rw [Kit.i32_of_i64 (by rw [f6]; omega) (by rw [f6]; omega), f6]
        rfl
      exact ih (k + 1) _ _ _ (by omega) (by omega) f5 f4 f7
theorem m_self (m : SM) : m_acc_s m (m_upper m, m_lower m, m_amin m, m_ovf m) = m := rfl
theorem m_sr {m : SM} {x : Int32} {X : Nat} (b : Bool) (hx : x.toInt = X) (hX : X ≤ 10) (ho : aOk (m_acc m)) : ∃ (u' l' : Int64) (v' : Int32), u'.toInt = (m_upper m).toInt / 10 ^ X ∧ l'.toInt = srL (m_upper m).toInt (m_lower m).toInt X ∧ v'.toInt = lst (m_lower m).toInt X ∧ fMo_shiftRight m x b = msrE (m_acc_s m (u', l', m_amin m, m_ovf m)) b v' := by
  have h := msr_loop m b hx hX ho 11 0 (m_upper m) (m_lower m) 0 rfl (by omega) (by simp) (by
    unfold srL
    simp only [Nat.reduceSub, Int.reducePow]
    omega) (by show (0 : Int32).toInt = 0; decide)
  rw [m_self] at h
  exact h
theorem sr_both {z : SC} {m : SM} {x : Int32} {X : Nat} (hx : x.toInt = X) (hX : X ≤ 10) (he : c_acc z = m_acc m) (ho : aOk (c_acc z)) : ∃ w, aOk w ∧ fAc_shiftRight z x = c_acc_s z w ∧ fMo_shiftRight m x false = m_acc_s m w := by
  obtain ⟨w, h1, h2⟩ := c_sr hx hX ho
  obtain ⟨u', l', v', k1, k2, k3, k4⟩ := m_sr (m := m) false hx hX (by rw [← he]; exact ho)
  have eU : c_upper z = m_upper m := congrArg Prod.fst he
  have eL : c_lower z = m_lower m := congrArg (fun w => w.2.1) he
  have eS : c_amin z = m_amin m := congrArg (fun w => w.2.2.1) he
  have eO : c_ovf z = m_ovf m := congrArg (fun w => w.2.2.2) he
  rw [eU, eL, eS, eO] at h2
  have e := aIs_eq h2 (w' := (u', l', m_amin m, m_ovf m)) ⟨k1, k2, rfl, rfl⟩
  have hU : rg (m_upper m) := by rw [← eU]; exact ho.1
  have hL : rg (m_lower m) := by rw [← eL]; exact ho.2
  obtain ⟨⟨r1, r2⟩, r3, r4⟩ := sr_rg hU.1 hU.2 hL.1 hL.2 X hX
  refine ⟨w, ⟨⟨?_, ?_⟩, ?_, ?_⟩, h1, ?_⟩
  · rw [h2.1]; exact r1
  · rw [h2.1]; exact r2
  · rw [h2.2.1]; exact r3
  · rw [h2.2.1]; exact r4
  · rw [k4, e]
    rfl
