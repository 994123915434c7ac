/-! writing operations -/
theorem wr_in : ∀ k : Fin 100, fMo_writes (nI k.val) = true → nI k.val = 70 ∨ nI k.val = 20 ∨ nI k.val = 21 ∨ nI k.val = 22 ∨ nI k.val = 24 := by decide +kernel
theorem wr_of {o : Int32} (ho : fMo_writes o = true) : o = 70 ∨ o = 20 ∨ o = 21 ∨ o = 22 ∨ o = 24 := by
  rcases op_in o with ⟨k, rfl⟩ | h
  · exact wr_in k ho
  · rw [writes_out h] at ho
    cases ho
theorem st_R {z Z : SC} {m M : SM} {o d : Int32} (h : RU Z M) (hd : vp_in d 200) (e1 : c_time Z = c_time z) (e2 : m_time M = m_time m) (e3 : m_fault M = m_fault m) (e4 : m_code M = m_code m) (hf : fOp_fixedTime o d = 0) : oR z m o d (fPr_write_99 Z d) (fMo_doWrite_194 M d) := by
  rw [fPr_write_99.eq_1, fMo_doWrite_194.eq_1, h.2.2.2.1.1, h.2.2.2.1.2.2.1]
  have hg : rg (m_dist M) := by rw [← h.2.2.2.1.1]; exact h.2.2.2.1.2.1
  refine ⟨RU_store h hd hg _, (st_km _ _ _ _).trans e4, .inl ⟨rfl, rfl, (st_fm _ _ _ _).trans e3, ?_⟩⟩
  rw [hf, c_t0]
  exact zR_same (by omega) ((st_tz _ _ _ _).trans e1) ((st_tm _ _ _ _).trans e2)
theorem fxw (d : Int32) : fOp_fixedTime 20 d = 0 ∧ fOp_fixedTime 21 d = 0 ∧ fOp_fixedTime 22 d = 0 ∧ fOp_fixedTime 24 d = 0 ∧ fOp_fixedTime 70 d = 10 := by
  refine ⟨?_, ?_, ?_, ?_, ?_⟩
  · rw [fOp_fixedTime.eq_1, if_neg (by decide), if_neg (by decide), if_neg (by decide), if_neg (by decide), if_neg (by decide), if_neg (by decide)]
  · rw [fOp_fixedTime.eq_1, if_neg (by decide), if_neg (by decide), if_neg (by decide), if_neg (by decide), if_neg (by decide), if_neg (by decide)]
  · rw [fOp_fixedTime.eq_1, if_neg (by decide), if_neg (by decide), if_neg (by decide), if_neg (by decide), if_neg (by decide), if_neg (by decide)]
  · rw [fOp_fixedTime.eq_1, if_neg (by decide), if_neg (by decide), if_neg (by decide), if_neg (by decide), if_neg (by decide), if_neg (by decide)]
  · rw [fOp_fixedTime.eq_1, if_neg (by decide), if_neg (by decide), if_neg (by decide), if_neg (by decide), if_pos (by decide)]
theorem RU_dst {z : SC} {m : SM} (h : RU z m) {v : Int64} (hv : rg v) : RU (c_distm_s (c_dist_s z v) (c_distm z)) (m_dist_s m v) :=
  ⟨rD_mv h.1 rfl rfl, rC_mv h.2.1 rfl rfl, rP_mv h.2.2.1 rfl rfl, ⟨rfl, hv, h.2.2.2.1.2.2.1, h.2.2.2.1.2.2.2⟩, rA_mv h.2.2.2.2.1 rfl rfl, rS_mv h.2.2.2.2.2 rfl rfl⟩
theorem da_eq {v : Int64} (hv : rg v) : ((fDg_dataAddressOf v).toInt64) = (v / 10000) % 10000 ∧ (0 ≤ ((v / 10000) % 10000).toInt ∧ ((v / 10000) % 10000).toInt < 10000) := by
  obtain ⟨v1, v2⟩ := hv
  have hq : 0 ≤ v.toInt / 10000 % 10000 ∧ v.toInt / 10000 % 10000 < 10000 := by omega
  have hp : 0 ≤ v.toInt / 10000 := by omega
  have a2 : ((v / 10000) % 10000).toInt = v.toInt / 10000 % 10000 := by
    have a1 : (v / 10000).toInt = v.toInt / 10000 := by rw [l_div v1 (by rw [l4]; decide), l4]
    rw [l_mod (by rw [a1]; exact hp), a1, l4]
  rw [fDg_dataAddressOf.eq_1]
  generalize (v / 10000) % 10000 = Q at a2
  generalize v.toInt / 10000 % 10000 = q at a2 hq
  refine ⟨Int64.toInt_inj.mp ?_, by rw [a2]; exact hq⟩
  rw [Kit.i64_of_i32, Kit.i32_of_i64 (by rw [a2]; omega) (by rw [a2]; omega)]
theorem w22 {z : SC} {m : SM} (h : RU z m) : ∃ v, rg v ∧ fDg_withDataAddress (c_dist z) (fDg_dataAddressOf (fAc_lowerDigits z)) = v ∧ (((m_dist m) % 10000) + ((((m_lower m) / 10000) % 10000) * 10000)) + (((m_dist m) / 100000000) * 100000000) = v := by
  have hA := h.2.2.2.2.1
  have e2 : c_lower z = m_lower m := congrArg (·.2.1) hA.1
  have hl : rg (m_lower m) := by rw [← e2]; exact hA.2.2
  have hd : rg (m_dist m) := by rw [← h.2.2.2.1.1]; exact h.2.2.2.1.2.1
  obtain ⟨d1, d2⟩ := da_eq hl
  obtain ⟨_, w2, w3⟩ := wd_eq hd d2
  refine ⟨_, w3, ?_, w2.symm⟩
  rw [fDg_withDataAddress.eq_1, fAc_lowerDigits.eq_1, e2, h.2.2.2.1.1, d1]
/-! reading a card -/
theorem nI_s1 {k : Nat} (hk : k < 1000) : (nI k + 1).toNatClampNeg = k + 1 := by
  rw [nI_1, nI_clamp (by omega)]
theorem dw_lp : ∀ (n : Nat) (m : SM) (k : Nat), (k : Int) ≤ (m_cards m).toInt → (m_cards m).toInt ≤ 20 → (m_cards m).toInt - k < n → ∃ f g, fMo_doWrite_50 n m k = (true, m_time_s (m_cmin_s (m_card_s m f) g) (m_time m + 10)) ∧ (∀ j : Nat, k ≤ j → (j : Int) < (m_cards m).toInt → f j = m_card m (j + 1) ∧ g j = m_cmin m (j + 1)) ∧ (∀ j : Nat, j < k → f j = m_card m j ∧ g j = m_cmin m j) := by
  intro n
  induction n with
  | zero =>
    intro m k hk hc hn
    omega
  | succ n ih =>
    intro m k hk hc hn
    have hnk : (nI k).toInt = k := nI_toInt (by omega)
    rw [fMo_doWrite_50.eq_2]
    by_cases hle : m_cards m ≤ nI k
    · rw [if_pos hle]
      rw [Int32.le_iff_toInt_le, hnk] at hle
      exact ⟨m_card m, m_cmin m, rfl, fun j h1 h2 => by omega, fun j _ => ⟨rfl, rfl⟩⟩
    · rw [if_neg hle]
      rw [Int32.le_iff_toInt_le, hnk] at hle
      rw [nI_clamp (n := k) (by omega), nI_s1 (by omega)]
      obtain ⟨f, g, h1, h2, h3⟩ := ih (m_cmin_s (m_card_s m (vp_updL (m_card m) k (m_card m (k + 1)))) (updB (m_cmin m) k (m_cmin m (k + 1)))) (k + 1) (show ((k + 1 : Nat) : Int) ≤ (m_cards m).toInt by omega) hc (show (m_cards m).toInt - ((k + 1 : Nat) : Int) < (n : Int) by omega)
      refine ⟨f, g, h1, fun j h4 h5 => ?_, fun j h4 => ?_⟩
      · by_cases hj : j = k
        · subst hj
          obtain ⟨a, b⟩ := h3 j (by omega)
          refine ⟨a.trans ?_, b.trans ?_⟩
          · show (if j = j then m_card m (j + 1) else m_card m j) = _
            rw [if_pos rfl]
          · show (if j = j then m_cmin m (j + 1) else m_cmin m j) = _
            rw [if_pos rfl]
        · obtain ⟨a, b⟩ := h2 j (by omega) h5
          refine ⟨a.trans ?_, b.trans ?_⟩
          · show (if j + 1 = k then m_card m (k + 1) else m_card m (j + 1)) = _
            rw [if_neg (by omega)]
          · show (if j + 1 = k then m_cmin m (k + 1) else m_cmin m (j + 1)) = _
            rw [if_neg (by omega)]
      · obtain ⟨a, b⟩ := h3 j (by omega)
        refine ⟨a.trans ?_, b.trans ?_⟩
        · show (if j = k then m_card m (k + 1) else m_card m j) = _
          rw [if_neg (by omega)]
        · show (if j = k then m_cmin m (k + 1) else m_cmin m j) = _
          rw [if_neg (by omega)]
theorem ri_0 {f : Int32} (hf : vp_in f 20) : ri f 0 = f.toNatClampNeg := by
  have h := (vp_in_iff.mp hf).2
  have h : f.toInt < 20 := h
  have e : f.toNatClampNeg = f.toInt.toNat := rfl
  unfold ri
  omega
theorem ri_1 {f : Int32} (hf : vp_in f 20) (i : Nat) : vp_in ((f + 1) % 20) 20 ∧ ri ((f + 1) % 20) i = ri f (i + 1) := by
  obtain ⟨h1, h2⟩ := vp_in_iff.mp hf
  have h2 : f.toInt < 20 := h2
  have i1 : (1 : Int32).toInt = 1 := by decide
  have i20 : (20 : Int32).toInt = 20 := by decide
  have e1 : (f + 1).toInt = f.toInt + 1 := by rw [Kit.i32_add (by rw [i1]; omega) (by rw [i1]; omega), i1]
  have e2 : ((f + 1) % 20).toInt = (f.toInt + 1) % 20 := by rw [Int32.toInt_mod, e1, i20, Int.tmod_eq_emod_of_nonneg (by omega)]
  refine ⟨vp_in_iff.mpr ⟨by rw [e2]; omega, by rw [e2]; show (f.toInt + 1) % 20 < 20; omega⟩, ?_⟩
  have c1 : ((f + 1) % 20).toNatClampNeg = ((f + 1) % 20).toInt.toNat := rfl
  have c2 : f.toNatClampNeg = f.toInt.toNat := rfl
  unfold ri
  rw [c1, c2, e2]
  omega
theorem m_re3 (m : SM) (x : Int32) (f : Nat → Int64) (g : Nat → Bool) (t : Int64) : m_code (m_time_s (m_cmin_s (m_card_s (m_cards_s m x) f) g) t) = m_code m ∧ m_fault (m_time_s (m_cmin_s (m_card_s (m_cards_s m x) f) g) t) = m_fault m := ⟨rfl, rfl⟩
theorem rcd_RU {Z : SC} {M : SM} (H : RU Z M) (hne : ¬ m_cards M = 0) {f : Nat → Int64} {g : Nat → Bool} {t : Int64} (h2 : ∀ j : Nat, (j : Int) < (m_cards M - 1).toInt → f j = m_card M (j + 1) ∧ g j = m_cmin M (j + 1)) : RU (fCd_dropFirst Z) (m_time_s (m_cmin_s (m_card_s (m_cards_s M (m_cards M - 1)) f) g) t) := by
  obtain ⟨c1, ⟨c2, c3⟩, c4, c5⟩ := H.2.1
  have i1 : (1 : Int32).toInt = 1 := by decide
  have hpos : 0 < (m_cards M).toInt := by
    have h3 : (m_cards M).toInt ≠ 0 := fun h4 => hne (Int32.toInt_inj.mp (by rw [h4]; decide))
    omega
  have hs : (m_cards M - 1).toInt = (m_cards M).toInt - 1 := by rw [Kit.i32_sub (by rw [i1]; omega) (by rw [i1]; omega), i1]
  rw [fCd_dropFirst.eq_1]
  refine ⟨rD_mv H.1 rfl rfl, ⟨?_, ⟨?_, ?_⟩, (ri_1 c4 0).1, fun i hi => ?_⟩, rP_mv H.2.2.1 rfl rfl, rX_mv H.2.2.2.1 rfl rfl rfl rfl rfl rfl, rA_mv H.2.2.2.2.1 rfl rfl, rS_mv H.2.2.2.2.2 rfl rfl⟩
  · show c_ccount Z - 1 = m_cards M - 1
    rw [c1]
  · show 0 ≤ (m_cards M - 1).toInt
    rw [hs]; omega
  · show (m_cards M - 1).toInt ≤ 20
    rw [hs]; omega
  · have hi : (i : Int) < (m_cards M - 1).toInt := hi
    obtain ⟨a, b⟩ := h2 i hi
    rw [hs] at hi
    obtain ⟨p, q, r⟩ := c5 (i + 1) (by omega)
    show c_cvals Z (ri ((c_cfirst Z + 1) % 20) i) = f i ∧ c_cmin Z (ri ((c_cfirst Z + 1) % 20) i) = g i ∧ rg (f i)
    rw [(ri_1 c4 i).2, a, b]
    exact ⟨p, q, r⟩
theorem st_cd (z : SC) (a : Int32) (v : Int64) (b : Bool) : c_time (fCd_dropFirst (fDr_store z a v b)) = c_time z := by
  rw [fCd_dropFirst.eq_1]
  exact st_tz z a v b
theorem wr70 {z : SC} {m : SM} (h : RU z m) {d w : Int32} (hw : m_nxt m = w) (hd : vp_in d 200) : oR z m 70 d (fPr_write z 70 d) (fMo_doWrite m 70 d w) := by
  obtain ⟨c1, ⟨c2, c3⟩, c4, c5⟩ := h.2.1
  rw [fPr_write.eq_1, if_pos rfl, fMo_doWrite.eq_1, if_pos rfl, fPr_readCard.eq_1, fCd_isEmpty.eq_1, c1]
  by_cases h0 : m_cards m = 0
  · rw [if_pos h0, if_pos h0, if_pos rfl]
    exact ⟨RU_stop h hw, rfl, .inr ⟨rfl, nf_4, rfl, zR_same (by omega) rfl rfl⟩⟩
  · have i1 : (1 : Int32).toInt = 1 := by decide
    have hpos : 0 < (m_cards m).toInt := by
      have h3 : (m_cards m).toInt ≠ 0 := fun h4 => h0 (Int32.toInt_inj.mp (by rw [h4]; decide))
      omega
    obtain ⟨p, q, r⟩ := c5 0 (by omega)
    have e0 : ((0 : Int32)).toNatClampNeg = 0 := by decide
    rw [if_neg h0, if_neg (show ¬ false = true by decide), if_neg h0, e0]
    rw [ri_0 c4] at p q
    have hfv : fCd_firstValue z = m_card m 0 := p
    have hfm : fCd_firstIsMinus z = m_cmin m 0 := q
    rw [hfv, hfm]
    have hR := RU_store h hd r (m_cmin m 0)
    have ec : m_cards (fMo_write m d (m_card m 0) (m_cmin m 0)) = m_cards m := by rw [write_m]; rfl
    have et := st_tz z d (m_card m 0) (m_cmin m 0)
    have etm := st_tm m d (m_card m 0) (m_cmin m 0)
    have efm := st_fm m d (m_card m 0) (m_cmin m 0)
    have ekm := st_km m d (m_card m 0) (m_cmin m 0)
    have ect := st_cd z d (m_card m 0) (m_cmin m 0)
    generalize fMo_write m d (m_card m 0) (m_cmin m 0) = M at hR ec etm efm ekm ⊢
    generalize fDr_store z d (m_card m 0) (m_cmin m 0) = Z at hR et ect ⊢
    have hs : (m_cards m - 1).toInt = (m_cards m).toInt - 1 := by rw [Kit.i32_sub (by rw [i1]; omega) (by rw [i1]; omega), i1]
    have hne : ¬ m_cards M = 0 := by rw [ec]; exact h0
    have hsM : (m_cards (m_cards_s M (m_cards M - 1))).toInt = (m_cards m).toInt - 1 := by
      show (m_cards M - 1).toInt = _
      rw [ec]; exact hs
    obtain ⟨f, g, g1, g2, _⟩ := dw_lp 20 (m_cards_s M (m_cards M - 1)) 0 (by rw [hsM]; omega) (by rw [hsM]; omega) (by rw [hsM]; omega)
    rw [g1]
    refine ⟨rcd_RU hR hne (fun j hj => g2 j (Nat.zero_le j) hj), ekm, .inl ⟨rfl, rfl, efm, ?_⟩⟩
    rw [(fxw d).2.2.2.2]
    have e10 : (10 : Int32).toInt64 = 10 := by decide
    rw [e10]
    refine zR_add (x := 10) (by decide) ?_ ?_
    · show c_time (fCd_dropFirst Z) + 10 = _
      rw [ect]
    · show m_time M + 10 = _
      rw [etm]
theorem wr_R {z : SC} {m : SM} (h : RU z m) {o d w : Int32} (hw : m_nxt m = w) (hd : vp_in d 200) (ho : fMo_writes o = true) : oR z m o d (fPr_write z o d) (fMo_doWrite m o d w) := by
  have hA := h.2.2.2.2.1
  have e1 : c_upper z = m_upper m := congrArg (·.1) hA.1
  have e2 : c_lower z = m_lower m := congrArg (·.2.1) hA.1
  have e3 : c_amin z = m_amin m := congrArg (·.2.2.1) hA.1
  obtain ⟨x1, x2, x3, x4, _⟩ := fxw d
  rcases wr_of ho with e | e | e | e | e
  · subst e
    exact wr70 h hw hd
  · subst e
    rw [fPr_write.eq_1, if_neg (by decide), if_pos rfl, fMo_doWrite.eq_1, if_neg (by decide), if_neg (by decide), if_pos rfl, fMo_doWrite_135.eq_1, fMo_doWrite_146.eq_1, if_neg (by decide), fPr_setDistributor.eq_1, fAc_lowerDigits.eq_1, fAc_isMinus.eq_1, ← e2, ← e3]
    exact st_R (RU_dist h hA.2.2 _) hd rfl rfl rfl rfl x1
  · subst e
    rw [fPr_write.eq_1, if_neg (by decide), if_neg (by decide), if_pos rfl, fMo_doWrite.eq_1, if_neg (by decide), if_neg (by decide), if_neg (by decide), fMo_doWrite_135.eq_1, fMo_doWrite_146.eq_1, if_neg (by decide), fPr_setDistributor.eq_1, fAc_upperDigits.eq_1, fAc_isMinus.eq_1, ← e1, ← e3]
    exact st_R (RU_dist h hA.2.1 _) hd rfl rfl rfl rfl x2
  · subst e
    obtain ⟨v, hv, v1, v2⟩ := w22 h
    rw [fPr_write.eq_1, if_neg (by decide), if_neg (by decide), if_neg (by decide), if_pos rfl, fMo_doWrite.eq_1, if_neg (by decide), if_pos (by decide), fMo_doWrite_146.eq_1, if_pos rfl, fPr_setDistributor.eq_1, v1, v2]
    exact st_R (RU_dst h hv) hd rfl rfl rfl rfl x3
  · subst e
    rw [fPr_write.eq_1, if_neg (by decide), if_neg (by decide), if_neg (by decide), if_neg (by decide), fMo_doWrite.eq_1, if_neg (by decide), if_pos (by decide), fMo_doWrite_146.eq_1, if_neg (by decide)]
    exact st_R h hd rfl rfl rfl rfl x4
