/-! ===== all lines ===== -/
def nd (k : Nat) (m : SM) : Prop := ∀ i j, i < j → j < k → ¬ m_ats m i = m_ats m j
theorem il_t {z : SC} {k : Nat} (hk : k < 40) : ∀ (n i : Nat), k - i < n → i ≤ k → fAs_isLocationOfEarlierLine_2 n z (nI k) i = true → ∃ j, j < k ∧ c_locs z j = c_locs z k := by
  intro n
  induction n with
  | zero => intro i h; omega
  | succ n ih =>
    intro i hn hi h
    rw [fAs_isLocationOfEarlierLine_2.eq_2, nI_clamp (by omega), nI_clamp (by omega)] at h
    by_cases h1 : nI k ≤ nI i
    · rw [if_pos h1] at h
      cases h
    · rw [if_neg h1] at h
      rw [Int32.le_iff_toInt_le, nI_toInt (by omega), nI_toInt (by omega)] at h1
      by_cases h2 : c_locs z i = c_locs z k
      · exact ⟨i, by omega, h2⟩
      · rw [if_neg h2] at h
        exact ih (i + 1) (by omega) (by omega) h
theorem il_f {z : SC} {k : Nat} (hk : k < 40) : ∀ (n i : Nat), k - i < n → i ≤ k → ¬ fAs_isLocationOfEarlierLine_2 n z (nI k) i = true → ∀ j, i ≤ j → j < k → ¬ c_locs z j = c_locs z k := by
  intro n
  induction n with
  | zero => intro i h; omega
  | succ n ih =>
    intro i hn hi h j hj hjk
    rw [fAs_isLocationOfEarlierLine_2.eq_2, nI_clamp (by omega), nI_clamp (by omega)] at h
    have h1 : ¬ nI k ≤ nI i := by
      rw [Int32.le_iff_toInt_le, nI_toInt (by omega), nI_toInt (by omega)]
      omega
    rw [if_neg h1] at h
    by_cases h2 : c_locs z i = c_locs z k
    · rw [if_pos h2] at h
      exact absurd rfl h
    · rw [if_neg h2] at h
      by_cases hij : i = j
      · rw [← hij]; exact h2
      · exact ih (i + 1) (by omega) (by omega) h j (by omega) hjk
theorem pa_no {n : Nat} {z : SC} {b : Bool} {k : Nat} : fAs_placeAll_12 (n + 1) z b false k = (false, fAs_forgetPlaces z) := by
  rw [fAs_placeAll_12.eq_2, fAs_placeAll_53.eq_1, if_neg (show ¬ false = true by decide), if_neg (show ¬ false = true by decide), ite_self]
theorem rf121 (b : Bool) : ∀ (n : Nat) (m : SM) (k : Nat), m_A m → (k : Int) ≤ (m_lines m).toInt → (m_lines m).toInt - k < n → ∃ m', fMo_assemble_121 n m b k = fMo_assemble_154 m' ∧ kM m m' ∧ m_A m' ∧ ∀ i, i < k → m_ats m' i = m_ats m i := by
  intro n
  induction n with
  | zero =>
    intro m k hA hk hn
    omega
  | succ n ih =>
    intro m k hA hk hn
    have hl40 := hA.1.2
    rw [fMo_assemble_121.eq_2]
    by_cases h1 : m_lines m ≤ nI k
    · rw [if_pos h1]
      exact ⟨m, rfl, kM_rf m, hA, fun _ _ => rfl⟩
    · rw [if_neg h1]
      by_cases h2 : m_full m = true
      · rw [if_pos h2]
        exact ⟨m, rfl, kM_rf m, hA, fun _ _ => rfl⟩
      · rw [if_neg h2]
        rw [Int32.le_iff_toInt_le, nI_toInt (by omega)] at h1
        have hk40 : k < 40 := by have := hA.1.2; omega
        have ek : (nI k).toNatClampNeg = k := nI_clamp (by omega)
        have hK : vp_in (nI k) 40 := vp_in_nI hk40 (by decide)
        rw [ek]
        have hS := sSet (b := b) hK (hA.2.2.2.2.1 k hk40) hA
        have hM := (kF_se m (nI k) (m_ats m k) b).1
        have hl : m_lines (fMo_settle m (nI k) (m_ats m k) b) = m_lines m := hM.2.2.2.2.2.2.2.2.2.2.1
        generalize fMo_settle m (nI k) (m_ats m k) b = Y at hS hM hl ⊢
        obtain ⟨m', e1, e2, e3, e4⟩ := ih Y (k + 1) hS.1 (by rw [hl]; omega) (by rw [hl]; omega)
        refine ⟨m', e1, kM_tr hM e2, e3, fun i hi => (e4 i (by omega)).trans (hS.2.1 i (by rw [ek]; exact hi))⟩
theorem all_R (b : Bool) : ∀ (n n' : Nat) (z : SC) (m : SM) (k : Nat), LR k z m → nd k m → (k : Int) ≤ (m_lines m).toInt → (m_lines m).toInt - k < n → (m_lines m).toInt - k < n' →
    (∃ z' m', fAs_placeAll_12 n z b true k = (true, z') ∧ fMo_assemble_121 n' m b k = fMo_assemble_154 m' ∧ kC z z' ∧ kM m m' ∧ LR (m_lines m).toInt.toNat z' m' ∧ nd (m_lines m).toInt.toNat m') ∨
    (∃ z' m', fAs_placeAll_12 n z b true k = (false, fAs_forgetPlaces z') ∧ fMo_assemble_121 n' m b k = fMo_assemble_154 m' ∧ kC z z' ∧ kM m m' ∧ c_A z' ∧ m_A m' ∧ (m_full m' = true ∨ ∃ i j : Nat, i < j ∧ (j : Int) < (m_lines m).toInt ∧ m_ats m' i = m_ats m' j)) := by
  intro n
  induction n with
  | zero => intro n' z m k h _ h1 h2; omega
  | succ n ih =>
    intro n' z m k h hnd hk hn hn'
    obtain ⟨n', rfl⟩ : ∃ j, n' = j + 1 := ⟨n' - 1, by omega⟩
    obtain ⟨hq, hs, hA, hmA, hp, hg⟩ := h
    have hl40 := hmA.1.2
    have hl0 := hmA.1.1
    have eki : (nI k).toInt = k := nI_toInt (by omega)
    rw [fAs_placeAll_12.eq_2, fMo_assemble_121.eq_2, hs.2.2.2.2, if_pos rfl, if_neg (show ¬ m_full m = true by rw [hq.2.2]; decide)]
    by_cases h1 : m_lines m ≤ nI k
    · rw [if_pos h1, if_pos h1, fAs_placeAll_53.eq_1, if_pos rfl]
      rw [Int32.le_iff_toInt_le, eki] at h1
      have e : (m_lines m).toInt.toNat = k := by omega
      refine .inl ⟨z, m, rfl, rfl, kC_rf z, kM_rf m, ?_, ?_⟩
      · rw [e]; exact ⟨hq, hs, hA, hmA, hp, hg⟩
      · rw [e]; exact hnd
    · rw [if_neg h1, if_neg h1]
      rw [Int32.le_iff_toInt_le, eki] at h1
      have hk40 : k < 40 := by omega
      have hkl : (k : Int) < (m_lines m).toInt := by omega
      have ek : (nI k).toNatClampNeg = k := nI_clamp (by omega)
      have hK : vp_in (nI k) 40 := vp_in_nI hk40 (by decide)
      obtain ⟨n, rfl⟩ : ∃ j, n = j + 1 := ⟨n - 1, by omega⟩
      obtain ⟨n', rfl⟩ : ∃ j, n' = j + 1 := ⟨n' - 1, by omega⟩
      rw [ek]
      have hL := line_S ⟨hq, hs, hA, hmA, hp, hg⟩ hkl b
      have hkC := kC_line z (nI k) b
      have hAX := pa_s (b := b) hK hA
      have hS := sSet (b := b) hK (hmA.2.2.2.2.1 k hk40) hmA
      have hM := (kF_se m (nI k) (m_ats m k) b).1
      have hlm : m_lines (fMo_settle m (nI k) (m_ats m k) b) = m_lines m := hM.2.2.2.2.2.2.2.2.2.2.1
      generalize fAs_placeLine z (nI k) b = X at hL hkC hAX ⊢
      generalize fMo_settle m (nI k) (m_ats m k) b = Y at hL hS hM hlm ⊢
      rw [ek] at hS
      rcases hL with ⟨x1, x2⟩ | ⟨x1, x2⟩
      · rw [if_pos x1, fAs_isLocationOfEarlierLine.eq_1]
        by_cases hd : fAs_isLocationOfEarlierLine_2 41 X.2 (nI k) 0 = true
        · rw [if_pos hd, pa_no]
          obtain ⟨j, j1, j2⟩ := il_t hk40 41 0 (by omega) (by omega) hd
          obtain ⟨m', e1, e2, e3, e4⟩ := rf121 b (n' + 1) Y (k + 1) hS.1 (by rw [hlm]; omega) (by rw [hlm]; omega)
          refine .inr ⟨X.2, m', rfl, e1, hkC, kM_tr hM e2, hAX, e3, .inr ⟨j, k, j1, hkl, ?_⟩⟩
          rw [e4 j (by omega), e4 k (by omega), ← (x2.2.2.2.2.1 j (by omega)).1, ← (x2.2.2.2.2.1 k (by omega)).1]
          exact j2
        · rw [if_neg hd]
          have hf := il_f hk40 41 0 (by omega) (by omega) hd
          have hnd' : nd (k + 1) Y := by
            intro i j hij hj he
            by_cases hjk : j = k
            · subst hjk
              refine hf i (by omega) hij ?_
              rw [(x2.2.2.2.2.1 i (by omega)).1, (x2.2.2.2.2.1 j (by omega)).1]
              exact he
            · rw [hS.2.1 i (by omega), hS.2.1 j (by omega)] at he
              exact hnd i j hij (by omega) he
          have hr := ih (n' + 1) X.2 Y (k + 1) x2 hnd' (by rw [hlm]; omega) (by rw [hlm]; omega) (by rw [hlm]; omega)
          rw [hlm] at hr
          rcases hr with ⟨z', m', y1, y2, y3, y4, y5⟩ | ⟨z', m', y1, y2, y3, y4, y5⟩
          · exact .inl ⟨z', m', y1, y2, kC_tr hkC y3, kM_tr hM y4, y5⟩
          · exact .inr ⟨z', m', y1, y2, kC_tr hkC y3, kM_tr hM y4, y5⟩
      · rw [x1, if_neg (show ¬ false = true by decide), pa_no, fMo_assemble_121.eq_2, if_pos x2, ite_self]
        exact .inr ⟨X.2, Y, rfl, rfl, hkC, hM, hAX, hS.1, .inl x2⟩
/-! duplicates -/
theorem fs_eq (m : SM) : m_full_s m (m_full m) = m := rfl
theorem d_a {K : SM → Nat → Int32 × SM} {k : Nat} : ∀ (n : Nat) (m : SM) (i : Nat), m_full m = true → k - i < n → fMo_assemble_173 K n m k i = K m (k + 1) := by
  intro n
  induction n with
  | zero => intro m i _ h; omega
  | succ n ih =>
    intro m i hf hn
    rw [fMo_assemble_173.eq_2]
    by_cases h1 : k ≤ i
    · rw [if_pos h1]
    · have e : m_full_s m true = m := by
        have := fs_eq m
        rw [hf] at this
        exact this
      rw [if_neg h1, if_pos hf, fMo_assemble_206.eq_1, e]
      exact ih m (i + 1) hf (by omega)
theorem d_b {K : SM → Nat → Int32 × SM} {k : Nat} (hk : k < 40) : ∀ (n : Nat) (m : SM) (i : Nat), m_full m = false → k - i < n → (∃ j, i ≤ j ∧ j < k ∧ m_ats m j = m_ats m k) → fMo_assemble_173 K n m k i = K (m_full_s m true) (k + 1) := by
  intro n
  induction n with
  | zero => intro m i _ h; omega
  | succ n ih =>
    intro m i hf hn hj
    obtain ⟨j, j1, j2, j3⟩ := hj
    have e : m_full_s m false = m := by
      have := fs_eq m
      rw [hf] at this
      exact this
    rw [fMo_assemble_173.eq_2, if_neg (show ¬ k ≤ i by omega), if_neg (show ¬ m_full m = true by rw [hf]; decide), fMo_assemble_206.eq_1, fMo_assemble_206.eq_1, nI_clamp (by omega), nI_clamp (by omega)]
    by_cases h2 : m_ats m i = m_ats m k
    · rw [if_pos h2]
      obtain ⟨n, rfl⟩ : ∃ q, n = q + 1 := ⟨n - 1, by omega⟩
      exact d_a (n + 1) (m_full_s m true) (i + 1) rfl (by omega)
    · rw [if_neg h2, e]
      refine ih m (i + 1) hf (by omega) ⟨j, ?_, j2, j3⟩
      by_cases hij : i = j
      · rw [← hij] at j3; exact absurd j3 h2
      · omega
theorem d_c {K : SM → Nat → Int32 × SM} {k : Nat} (hk : k < 40) : ∀ (n : Nat) (m : SM) (i : Nat), m_full m = false → k - i < n → (∀ j, i ≤ j → j < k → ¬ m_ats m j = m_ats m k) → fMo_assemble_173 K n m k i = K m (k + 1) := by
  intro n
  induction n with
  | zero => intro m i _ h; omega
  | succ n ih =>
    intro m i hf hn hj
    have e : m_full_s m false = m := by
      have := fs_eq m
      rw [hf] at this
      exact this
    rw [fMo_assemble_173.eq_2]
    by_cases h1 : k ≤ i
    · rw [if_pos h1]
    · rw [if_neg h1, if_neg (show ¬ m_full m = true by rw [hf]; decide), fMo_assemble_206.eq_1, fMo_assemble_206.eq_1, nI_clamp (by omega), nI_clamp (by omega), if_neg (hj i (by omega) (by omega)), e]
      exact ih m (i + 1) hf (by omega) (fun j hj1 hj2 => hj j (by omega) hj2)
theorem d_full {n : Nat} {m : SM} {k : Nat} (hf : m_full m = true) : fMo_assemble_156 (n + 1) m k = fMo_assemble_221 m := by
  rw [fMo_assemble_156.eq_2, if_pos hf, ite_self]
theorem d_dup : ∀ (n : Nat) (m : SM) (k : Nat), m_full m = false → (m_lines m).toInt ≤ 40 → (m_lines m).toInt - k < n → (∃ i j : Nat, i < j ∧ k ≤ j ∧ (j : Int) < (m_lines m).toInt ∧ m_ats m i = m_ats m j) → fMo_assemble_156 n m k = fMo_assemble_221 (m_full_s m true) := by
  intro n
  induction n with
  | zero => intro m k _ _ h ⟨i, j, _, _, _, _⟩; omega
  | succ n ih =>
    intro m k hf hl hn ⟨i, j, h1, h2, h3, h4⟩
    have hk40 : k < 40 := by omega
    have eki : (nI k).toInt = k := nI_toInt (by omega)
    have hnl : ¬ m_lines m ≤ nI k := by rw [Int32.le_iff_toInt_le, eki]; omega
    obtain ⟨n, rfl⟩ : ∃ q, n = q + 1 := ⟨n - 1, by omega⟩
    rw [fMo_assemble_156.eq_2, if_neg hnl, if_neg (show ¬ m_full m = true by rw [hf]; decide)]
    by_cases hd : ∃ q, 0 ≤ q ∧ q < k ∧ m_ats m q = m_ats m k
    · rw [d_b hk40 41 m 0 hf (by omega) hd]
      exact d_full rfl
    · rw [d_c hk40 41 m 0 hf (by omega) (fun q hq1 hq2 hq3 => hd ⟨q, hq1, hq2, hq3⟩)]
      refine ih m (k + 1) hf hl (by omega) ⟨i, j, h1, ?_, h3, h4⟩
      by_cases hjk : j = k
      · subst hjk
        exact absurd ⟨i, by omega, h1, h4⟩ hd
      · omega
theorem d_no : ∀ (n : Nat) (m : SM) (k : Nat), m_full m = false → (m_lines m).toInt ≤ 40 → (k : Int) ≤ (m_lines m).toInt → (m_lines m).toInt - k < n → nd (m_lines m).toInt.toNat m → fMo_assemble_156 n m k = fMo_assemble_221 m := by
  intro n
  induction n with
  | zero => intro m k _ _ _ h; omega
  | succ n ih =>
    intro m k hf hl hk hn hnd
    have eki : (nI k).toInt = k := nI_toInt (by omega)
    rw [fMo_assemble_156.eq_2]
    by_cases h1 : m_lines m ≤ nI k
    · rw [if_pos h1]
    · rw [if_neg h1, if_neg (show ¬ m_full m = true by rw [hf]; decide)]
      rw [Int32.le_iff_toInt_le, eki] at h1
      rw [d_c (by omega) 41 m 0 hf (by omega) (fun q _ hq2 => hnd q k hq2 (by omega))]
      exact ih m (k + 1) hf hl (by omega) (by omega) hnd
