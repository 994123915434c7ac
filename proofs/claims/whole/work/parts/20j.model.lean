/-- what a line's settling leaves: the invariant, and the locations up to this line -/
def sC (k : Nat) (z z' : SM) : Prop := m_A z' ∧ ∀ i, i ≤ k → m_ats z' i = m_ats z i
theorem sC_B {k : Nat} {x y z : SM} (h : mB x y) (hc : sC k y z) : sC k x z := ⟨hc.1, fun i hi => (hc.2 i hi).trans (by rw [h.2.2.2.2.2])⟩
theorem k1_ne {k : Int32} (hk : vp_in k 40) {i : Nat} (hi : i ≤ k.toNatClampNeg) : ¬ i = (k + 1).toNatClampNeg := by
  obtain ⟨a1, a2⟩ := vp_in_iff.mp hk
  have e := i_inc (x := k) (by omega) a1
  have c1 : k.toNatClampNeg = k.toInt.toNat := rfl
  have c2 : (k + 1).toNatClampNeg = (k + 1).toInt.toNat := rfl
  omega
theorem sC_at {z : SM} {k : Int32} {x : Int32} (hk : vp_in k 40) (hA : m_A z) (hx : pl x) (f : Nat → Int64) : sC k.toNatClampNeg z (m_ats_s (m_writ_s z f) (upd (m_ats z) ((k + 1).toNatClampNeg) x)) := by
  refine ⟨⟨hA.1, hA.2.1, hA.2.2.1, hA.2.2.2.1, upd_all hA.2.2.2.2.1 hx, hA.2.2.2.2.2⟩, fun i hi => ?_⟩
  show upd (m_ats z) ((k + 1).toNatClampNeg) x i = m_ats z i
  unfold upd
  rw [if_neg (k1_ne hk hi)]
theorem s241 {z : SM} {s0 k v4 v5 : Int32} {v9 : Bool} (hk : vp_in k 40) (hA : m_A z) (hx : pl s0) : sC k.toNatClampNeg z (fMo_settle_241 z s0 k v4 v5 v9) := by
  unfold fMo_settle_241
  generalize vp_updL (m_writ z) k.toNatClampNeg _ = f
  split
  · exact ⟨hA, fun i hi => rfl⟩
  · split
    · exact sC_at hk hA hx f
    · exact sC_at hk hA pl_m1 f
theorem s199 {z : SM} {k v4 v5 : Int32} {v7 : Int64} {b v9 : Bool} (hk : vp_in k 40) (hA : m_A z) (h7 : 0 ≤ v7.toInt ∧ v7.toInt ≤ 10000) : sC k.toNatClampNeg z (fMo_settle_199 z k b v4 v5 v7 v9) := by
  unfold fMo_settle_199
  have ht := tk3 z b h7
  have hA1 := mA_tk (b := b) hA h7
  have hp := po3 z b (hA.2.2.1 _ (ix_lt hk)) h7 hA.2.2.2.2.2
  have hA2 := mA_po (b := b) hA (hA.2.2.1 _ (ix_lt hk)) h7
  generalize fMo_take z b v7 = y at ht hA1
  generalize fMo_placeOf z (m_foll z k.toNatClampNeg) b v7 = w at hp hA2
  split
  · exact sC_B ht.2.1 (s241 hk hA1 (nn_pl ht.1))
  · by_cases h : m_foll z k.toNatClampNeg = (-1 : Int32)
    · rw [if_pos h]; exact s241 hk hA pl_0
    · rw [if_neg h]; exact sC_B hp.2.1 (s241 hk hA2 (nn_pl (hp.1 h)))
theorem s160 {z : SM} {k v4 v5 : Int32} {v7 : Int64} {b : Bool} (hk : vp_in k 40) (hA : m_A z) (h7 : 0 ≤ v7.toInt ∧ v7.toInt ≤ 10000) : sC k.toNatClampNeg z (fMo_settle_160 z k b v4 v5 v7) := by
  unfold fMo_settle_160 fMo_settle_196 fMo_settle_197
  split
  · split
    · exact s199 hk hA h7
    · split
      · exact s199 hk hA h7
      · exact s199 hk hA h7
  · exact s199 hk hA h7
theorem s105 {z : SM} {s0 k v4 : Int32} {b : Bool} (hk : vp_in k 40) (hA : m_A z) (ha9 : nn (m_ats z k.toNatClampNeg)) (hd : nn s0) : sC k.toNatClampNeg z (fMo_settle_105 z s0 k b v4) := by
  have h128 : ∀ c : Bool, sC k.toNatClampNeg z (fMo_settle_128 z c k b v4 s0) := by
    intro c
    unfold fMo_settle_128 fMo_settle_146
    split
    · exact s160 hk hA (lb2 hd hd)
    · exact s160 hk hA (lb2 ha9 hd)
  unfold fMo_settle_105 fMo_settle_123
  split
  · exact h128 true
  · split
    · exact h128 true
    · exact h128 false
theorem s54 {z : SM} {k v4 : Int32} {b : Bool} (hk : vp_in k 40) (hA : m_A z) (ha9 : nn (m_ats z k.toNatClampNeg)) (h4 : v4 = m_ops z k.toNatClampNeg) : sC k.toNatClampNeg z (fMo_settle_54 z k b v4) := by
  unfold fMo_settle_54
  have hp := po3 z b (hA.2.2.2.1 _ (ix_lt hk)).1 (lb1 ha9) hA.2.2.2.2.2
  have hA2 := mA_po (b := b) hA (hA.2.2.2.1 _ (ix_lt hk)).1 (lb1 ha9)
  have h9 := po_at (b := b) hA (hA.2.2.2.1 _ (ix_lt hk)).1 (lb1 ha9) ha9
  generalize fMo_placeOf z (m_dat z k.toNatClampNeg) b _ = w at hp hA2 h9
  by_cases h : m_dat z k.toNatClampNeg = (-1 : Int32)
  · rw [if_pos h]; exact s105 hk hA ha9 nn_0
  · rw [if_neg h]
    by_cases hs : fMo_shifts v4 = true
    · rw [if_pos hs]; exact s105 hk hA ha9 (sh_nn (ix_lt hk) hA h4 hs h)
    · rw [if_neg hs]; exact sC_B hp.2.1 (s105 hk hA2 h9 (hp.1 h))
theorem s53 {z : SM} {s2 k v4 : Int32} {b : Bool} (hk : vp_in k 40) (hA : m_A z) (hv : nn s2) (h4 : v4 = m_ops z k.toNatClampNeg) : m_A (fMo_settle_53 z k s2 k b v4) ∧ (∀ i, i < k.toNatClampNeg → m_ats (fMo_settle_53 z k s2 k b v4) i = m_ats z i) ∧ nn (m_ats (fMo_settle_53 z k s2 k b v4) k.toNatClampNeg) := by
  have h := s54 (b := b) hk (mA_at (k := k.toNatClampNeg) hA (nn_pl hv)) (at_nn hv) h4
  unfold fMo_settle_53
  refine ⟨h.1, fun i hi => ?_, ?_⟩
  · rw [h.2 i (by omega)]
    show upd (m_ats z) k.toNatClampNeg s2 i = m_ats z i
    unfold upd
    rw [if_neg (by omega)]
  · rw [h.2 _ (Nat.le_refl _)]
    exact at_nn hv
theorem sSet {z : SM} {k g : Int32} {b : Bool} (hk : vp_in k 40) (hg : pl g) (hA : m_A z) : m_A (fMo_settle z k g b) ∧ (∀ i, i < k.toNatClampNeg → m_ats (fMo_settle z k g b) i = m_ats z i) ∧ nn (m_ats (fMo_settle z k g b) k.toNatClampNeg) := by
  unfold fMo_settle
  by_cases h : g = (-1 : Int32)
  · rw [if_pos h]
    by_cases h1 : m_loc z k.toNatClampNeg = (-1 : Int32)
    · rw [if_pos h1]
      have ht := tk3 z b b00L
      have hs := s53 (b := b) hk (mA_tk (b := b) hA b00L) ht.1 (tk_ops z b b00L _)
      refine ⟨hs.1, fun i hi => (hs.2.1 i hi).trans (by rw [ht.2.1.2.2.2.2.2]), hs.2.2⟩
    · rw [if_neg h1]
      have hp := po3 z b (hA.2.1 _ (ix_lt hk)) b00L hA.2.2.2.2.2
      have hs := s53 (b := b) hk (mA_po (b := b) hA (hA.2.1 _ (ix_lt hk)) b00L) (hp.1 h1) (po_ops b hA (hA.2.1 _ (ix_lt hk)) b00L _)
      refine ⟨hs.1, fun i hi => (hs.2.1 i hi).trans (by rw [hp.2.1.2.2.2.2.2]), hs.2.2⟩
  · rw [if_neg h]
    exact s53 hk hA (nn_of hg h) rfl
theorem mfp2 : ∀ (n : Nat) (z : SM) (v1 : Nat), v1 ≤ 20 → 20 - v1 < n → fMo_forgetPlaces_2 n z v1 = m_plc_s z (fun j => if v1 ≤ j ∧ j < 20 then -1 else m_plc z j) := by
  intro n
  induction n with
  | zero => intro z v1 _ h; omega
  | succ n ih =>
    intro z v2 h2 hn
    rw [fMo_forgetPlaces_2.eq_2]
    by_cases h : 20 ≤ v2
    · rw [if_pos h]
      have e : (fun j => if v2 ≤ j ∧ j < 20 then (-1 : Int32) else m_plc z j) = m_plc z := by
        funext j
        rw [if_neg (by omega)]
      rw [e]
      rfl
    · rw [if_neg h, ih _ _ (by omega) (by omega), nI_clamp (by omega)]
      have e : (fun j => if v2 + 1 ≤ j ∧ j < 20 then (-1 : Int32) else upd (m_plc z) v2 (-1) j) = (fun j => if v2 ≤ j ∧ j < 20 then -1 else m_plc z j) := by
        funext j
        unfold upd
        by_cases h1 : j = v2
        · rw [if_neg (by omega), if_pos h1, if_pos (by omega)]
        · by_cases h3 : v2 + 1 ≤ j ∧ j < 20
          · rw [if_pos h3, if_pos (by omega)]
          · rw [if_neg h3, if_neg h1, if_neg (by omega)]
      exact congrArg (m_plc_s z) e
theorem mfp_eq (z : SM) : fMo_forgetPlaces z = m_plc_s z (fun j => if j < 20 then -1 else m_plc z j) := by
  unfold fMo_forgetPlaces
  rw [mfp2 21 z 0 (by omega) (by omega)]
  congr 1
  funext j
  by_cases h : j < 20
  · rw [if_pos ⟨Nat.zero_le _, h⟩, if_pos h]
  · rw [if_neg (fun q => h q.2), if_neg h]
theorem mA_fp {z : SM} (hA : m_A z) : m_A (fMo_forgetPlaces z) := by
  rw [mfp_eq]
  exact ⟨hA.1, hA.2.1, hA.2.2.1, hA.2.2.2.1, hA.2.2.2.2.1, fun i hi => by
    show pl (if i < 20 then -1 else m_plc z i)
    rw [if_pos hi]
    exact pl_m1⟩
theorem mA_c {z : SM} (x : Int32) (hA : m_A z) : m_A (m_code_s z x) := hA
theorem mA_f {z : SM} (x : Bool) (hA : m_A z) : m_A (m_full_s z x) := hA
theorem mA_h {z : SM} (f : Nat → Bool) (hA : m_A z) : m_A (m_held_s z f) := hA
theorem mA_hold {z : SM} {a : Int32} (hA : m_A z) : m_A (fMo_hold z a) := by
  unfold fMo_hold
  split
  · exact mA_h _ hA
  · exact hA
theorem z40 : vp_in 0 40 := vp_in_nI (n := 0) (by decide) (by decide)
theorem st_w {z : SM} {k : Nat} {b : Bool} (hk : k < 40) (hA : m_A z) (hw : ∀ i, i < k → 0 ≤ (m_ats z i).toInt) : ∀ i, i < k + 1 → 0 ≤ (m_ats (fMo_settle z (nI k) (m_ats z (nI k).toNatClampNeg) b) i).toInt := by
  have hv : vp_in (nI k) 40 := vp_in_nI hk (by decide)
  have h := sSet (b := b) hv (hA.2.2.2.2.1 _ (ix_lt hv)) hA
  rw [nI_clamp (by omega)] at h ⊢
  intro i hi
  by_cases e : i = k
  · subst e
    exact h.2.2.1
  · rw [h.2.1 i (by omega)]
    exact hw i (by omega)
theorem as_w {z : SM} {k : Nat} (hk : k ≤ 40) (h : m_lines z ≤ nI k) (hw : ∀ i, i < k → 0 ≤ (m_ats z i).toInt) : ∀ i, i < 40 → nI i < m_lines z → 0 ≤ (m_ats z i).toInt := by
  intro i hi h1
  rw [Int32.le_iff_toInt_le, nI_toInt (by omega)] at h
  rw [Int32.lt_iff_toInt_lt, nI_toInt (by omega)] at h1
  exact hw i (by omega)
theorem mwA6 : ∀ (n : Nat) (z : SM) (a : Int32) (b : Bool) (v5 : Int64) (v7 : Nat), mB z (fMo_write_6 n z a b v5 v7) ∧ m_plc (fMo_write_6 n z a b v5 v7) = m_plc z := by
  intro n
  induction n with
  | zero => intro z a b v5 v7; exact ⟨mB_rf z, rfl⟩
  | succ n ih =>
    intro z a b v5 v7
    rw [fMo_write_6.eq_2]
    split
    · exact ⟨⟨rfl, rfl, rfl, rfl, rfl, rfl⟩, rfl⟩
    · split
      · generalize upd (m_codes z) _ _ = f
        exact ih (m_codes_s z f) a b (v5 / 10) (v7 + 1)
      · generalize upd (m_codes z) _ _ = f
        exact ih (m_codes_s z f) a b (v5 / 10) (v7 + 1)
theorem mwA (z : SM) (a : Int32) (v : Int64) (b : Bool) : mB z (fMo_write z a v b) ∧ m_plc (fMo_write z a v b) = m_plc z := mwA6 _ _ _ _ _ _
theorem mA_wr {z : SM} {a : Int32} {v : Int64} {b : Bool} (hA : m_A z) : m_A (fMo_write z a v b) := by
  have h := mwA z a v b
  exact mA_B hA h.1 (by rw [h.2]; exact hA.2.2.2.2.2)
theorem wm_w {z : SM} {a : Int32} {v : Int64} {b : Bool} (hw : ∀ i, i < 40 → nI i < m_lines z → 0 ≤ (m_ats z i).toInt) : ∀ i, i < 40 → nI i < m_lines (fMo_write z a v b) → 0 ≤ (m_ats (fMo_write z a v b) i).toInt := by
  have h := (mwA z a v b).1
  rw [h.1, h.2.2.2.2.2]
  exact hw
theorem wm_in {z : SM} {k : Nat} (hA : m_A z) (hw : ∀ i, i < 40 → nI i < m_lines z → 0 ≤ (m_ats z i).toInt) (h : ¬ m_lines z ≤ nI k) (hk : k ≤ 40) : vp_in (m_ats z (nI k).toNatClampNeg) 200 := by
  have h1 := lk_lt h
  have h2 := mt_b hA.1 h hk
  rw [nI_clamp (by omega)]
  have h3 := hw k (by omega) (by rw [Int32.lt_iff_toInt_lt]; exact h1)
  exact vp_in_iff.mpr ⟨h3, (hA.2.2.2.2.1 k (by omega)).2⟩
theorem dMo_assemble_0 : decode ccMo_assemble 0 = .ok (.aload_n 0, 1) := by decide +kernel
theorem dMo_assemble_1 : decode ccMo_assemble 1 = .ok (.iconst 0, 1) := by decide +kernel
theorem dMo_assemble_2 : decode ccMo_assemble 2 = .ok (.putfield 61, 3) := by decide +kernel
theorem dMo_assemble_5 : decode ccMo_assemble 5 = .ok (.aload_n 0, 1) := by decide +kernel
theorem dMo_assemble_6 : decode ccMo_assemble 6 = .ok (.getfield 205, 3) := by decide +kernel
theorem dMo_assemble_9 : decode ccMo_assemble 9 = .ok (.ifCond .ne 9, 3) := by decide +kernel
theorem dMo_assemble_12 : decode ccMo_assemble 12 = .ok (.aload_n 0, 1) := by decide +kernel
theorem dMo_assemble_13 : decode ccMo_assemble 13 = .ok (.iconst 1, 1) := by decide +kernel
theorem dMo_assemble_14 : decode ccMo_assemble 14 = .ok (.invokevirtual 202, 3) := by decide +kernel
theorem dMo_assemble_17 : decode ccMo_assemble 17 = .ok (.ireturn, 1) := by decide +kernel
theorem dMo_assemble_18 : decode ccMo_assemble 18 = .ok (.aload_n 0, 1) := by decide +kernel
theorem dMo_assemble_19 : decode ccMo_assemble 19 = .ok (.invokevirtual 58, 3) := by decide +kernel
theorem dMo_assemble_22 : decode ccMo_assemble 22 = .ok (.aload_n 0, 1) := by decide +kernel
theorem dMo_assemble_23 : decode ccMo_assemble 23 = .ok (.iconst 0, 1) := by decide +kernel
theorem dMo_assemble_24 : decode ccMo_assemble 24 = .ok (.putfield 208, 3) := by decide +kernel
theorem dMo_assemble_27 : decode ccMo_assemble 27 = .ok (.iconst 0, 1) := by decide +kernel
theorem dMo_assemble_28 : decode ccMo_assemble 28 = .ok (.istore_n 2, 1) := by decide +kernel
theorem dMo_assemble_29 : decode ccMo_assemble 29 = .ok (.iload_n 2, 1) := by decide +kernel
theorem dMo_assemble_30 : decode ccMo_assemble 30 = .ok (.sipush 200, 3) := by decide +kernel
theorem dMo_assemble_33 : decode ccMo_assemble 33 = .ok (.if_icmp .ge 21, 3) := by decide +kernel
theorem dMo_assemble_36 : decode ccMo_assemble 36 = .ok (.aload_n 0, 1) := by decide +kernel
theorem dMo_assemble_37 : decode ccMo_assemble 37 = .ok (.getfield 45, 3) := by decide +kernel
theorem dMo_assemble_40 : decode ccMo_assemble 40 = .ok (.iload_n 2, 1) := by decide +kernel
theorem dMo_assemble_41 : decode ccMo_assemble 41 = .ok (.aload_n 0, 1) := by decide +kernel
theorem dMo_assemble_42 : decode ccMo_assemble 42 = .ok (.getfield 39, 3) := by decide +kernel
theorem dMo_assemble_45 : decode ccMo_assemble 45 = .ok (.iload_n 2, 1) := by decide +kernel
theorem dMo_assemble_46 : decode ccMo_assemble 46 = .ok (.baload, 1) := by decide +kernel
theorem dMo_assemble_47 : decode ccMo_assemble 47 = .ok (.bastore, 1) := by decide +kernel
theorem dMo_assemble_48 : decode ccMo_assemble 48 = .ok (.iinc 2 1, 3) := by decide +kernel
theorem dMo_assemble_51 : decode ccMo_assemble 51 = .ok (.goto (-22), 3) := by decide +kernel
theorem dMo_assemble_54 : decode ccMo_assemble 54 = .ok (.iconst 0, 1) := by decide +kernel
theorem dMo_assemble_55 : decode ccMo_assemble 55 = .ok (.istore_n 2, 1) := by decide +kernel
theorem dMo_assemble_56 : decode ccMo_assemble 56 = .ok (.iload_n 2, 1) := by decide +kernel
theorem dMo_assemble_57 : decode ccMo_assemble 57 = .ok (.aload_n 0, 1) := by decide +kernel
theorem dMo_assemble_58 : decode ccMo_assemble 58 = .ok (.getfield 205, 3) := by decide +kernel
theorem dMo_assemble_61 : decode ccMo_assemble 61 = .ok (.if_icmp .ge 51, 3) := by decide +kernel
theorem dMo_assemble_64 : decode ccMo_assemble 64 = .ok (.aload_n 0, 1) := by decide +kernel
theorem dMo_assemble_65 : decode ccMo_assemble 65 = .ok (.aload_n 0, 1) := by decide +kernel
theorem dMo_assemble_66 : decode ccMo_assemble 66 = .ok (.getfield 27, 3) := by decide +kernel
theorem dMo_assemble_69 : decode ccMo_assemble 69 = .ok (.iload_n 2, 1) := by decide +kernel
theorem dMo_assemble_70 : decode ccMo_assemble 70 = .ok (.iaload, 1) := by decide +kernel
theorem dMo_assemble_71 : decode ccMo_assemble 71 = .ok (.invokevirtual 219, 3) := by decide +kernel
theorem dMo_assemble_74 : decode ccMo_assemble 74 = .ok (.aload_n 0, 1) := by decide +kernel
theorem dMo_assemble_75 : decode ccMo_assemble 75 = .ok (.aload_n 0, 1) := by decide +kernel
theorem dMo_assemble_76 : decode ccMo_assemble 76 = .ok (.getfield 36, 3) := by decide +kernel
theorem dMo_assemble_79 : decode ccMo_assemble 79 = .ok (.iload_n 2, 1) := by decide +kernel
theorem dMo_assemble_80 : decode ccMo_assemble 80 = .ok (.iaload, 1) := by decide +kernel
theorem dMo_assemble_81 : decode ccMo_assemble 81 = .ok (.invokevirtual 219, 3) := by decide +kernel
theorem dMo_assemble_84 : decode ccMo_assemble 84 = .ok (.aload_n 0, 1) := by decide +kernel
theorem dMo_assemble_85 : decode ccMo_assemble 85 = .ok (.getfield 30, 3) := by decide +kernel
theorem dMo_assemble_88 : decode ccMo_assemble 88 = .ok (.iload_n 2, 1) := by decide +kernel
theorem dMo_assemble_89 : decode ccMo_assemble 89 = .ok (.iaload, 1) := by decide +kernel
theorem dMo_assemble_90 : decode ccMo_assemble 90 = .ok (.invokestatic 96, 3) := by decide +kernel
theorem dMo_assemble_93 : decode ccMo_assemble 93 = .ok (.ifCond .ne 13, 3) := by decide +kernel
theorem dMo_assemble_96 : decode ccMo_assemble 96 = .ok (.aload_n 0, 1) := by decide +kernel
theorem dMo_assemble_97 : decode ccMo_assemble 97 = .ok (.aload_n 0, 1) := by decide +kernel
theorem dMo_assemble_98 : decode ccMo_assemble 98 = .ok (.getfield 33, 3) := by decide +kernel
theorem dMo_assemble_101 : decode ccMo_assemble 101 = .ok (.iload_n 2, 1) := by decide +kernel
theorem dMo_assemble_102 : decode ccMo_assemble 102 = .ok (.iaload, 1) := by decide +kernel
theorem dMo_assemble_103 : decode ccMo_assemble 103 = .ok (.invokevirtual 219, 3) := by decide +kernel
theorem dMo_assemble_106 : decode ccMo_assemble 106 = .ok (.iinc 2 1, 3) := by decide +kernel
theorem dMo_assemble_109 : decode ccMo_assemble 109 = .ok (.goto (-53), 3) := by decide +kernel
theorem dMo_assemble_112 : decode ccMo_assemble 112 = .ok (.aload_n 0, 1) := by decide +kernel
theorem dMo_assemble_113 : decode ccMo_assemble 113 = .ok (.getfield 48, 3) := by decide +kernel
theorem dMo_assemble_116 : decode ccMo_assemble 116 = .ok (.iconst 0, 1) := by decide +kernel
theorem dMo_assemble_117 : decode ccMo_assemble 117 = .ok (.iconst (-1), 1) := by decide +kernel
theorem dMo_assemble_118 : decode ccMo_assemble 118 = .ok (.iastore, 1) := by decide +kernel
theorem dMo_assemble_119 : decode ccMo_assemble 119 = .ok (.iconst 0, 1) := by decide +kernel
theorem dMo_assemble_120 : decode ccMo_assemble 120 = .ok (.istore_n 2, 1) := by decide +kernel
theorem dMo_assemble_121 : decode ccMo_assemble 121 = .ok (.iload_n 2, 1) := by decide +kernel
theorem dMo_assemble_122 : decode ccMo_assemble 122 = .ok (.aload_n 0, 1) := by decide +kernel
theorem dMo_assemble_123 : decode ccMo_assemble 123 = .ok (.getfield 205, 3) := by decide +kernel
theorem dMo_assemble_126 : decode ccMo_assemble 126 = .ok (.if_icmp .ge 28, 3) := by decide +kernel
theorem dMo_assemble_129 : decode ccMo_assemble 129 = .ok (.aload_n 0, 1) := by decide +kernel
theorem dMo_assemble_130 : decode ccMo_assemble 130 = .ok (.getfield 208, 3) := by decide +kernel
theorem dMo_assemble_133 : decode ccMo_assemble 133 = .ok (.ifCond .ne 21, 3) := by decide +kernel
theorem dMo_assemble_136 : decode ccMo_assemble 136 = .ok (.aload_n 0, 1) := by decide +kernel
theorem dMo_assemble_137 : decode ccMo_assemble 137 = .ok (.iload_n 2, 1) := by decide +kernel
theorem dMo_assemble_138 : decode ccMo_assemble 138 = .ok (.aload_n 0, 1) := by decide +kernel
theorem dMo_assemble_139 : decode ccMo_assemble 139 = .ok (.getfield 48, 3) := by decide +kernel
theorem dMo_assemble_142 : decode ccMo_assemble 142 = .ok (.iload_n 2, 1) := by decide +kernel
theorem dMo_assemble_143 : decode ccMo_assemble 143 = .ok (.iaload, 1) := by decide +kernel
theorem dMo_assemble_144 : decode ccMo_assemble 144 = .ok (.iload_n 1, 1) := by decide +kernel
theorem dMo_assemble_145 : decode ccMo_assemble 145 = .ok (.invokevirtual 222, 3) := by decide +kernel
theorem dMo_assemble_148 : decode ccMo_assemble 148 = .ok (.iinc 2 1, 3) := by decide +kernel
theorem dMo_assemble_151 : decode ccMo_assemble 151 = .ok (.goto (-30), 3) := by decide +kernel
theorem dMo_assemble_154 : decode ccMo_assemble 154 = .ok (.iconst 0, 1) := by decide +kernel
theorem dMo_assemble_155 : decode ccMo_assemble 155 = .ok (.istore_n 2, 1) := by decide +kernel
theorem dMo_assemble_156 : decode ccMo_assemble 156 = .ok (.iload_n 2, 1) := by decide +kernel
theorem dMo_assemble_157 : decode ccMo_assemble 157 = .ok (.aload_n 0, 1) := by decide +kernel
theorem dMo_assemble_158 : decode ccMo_assemble 158 = .ok (.getfield 205, 3) := by decide +kernel
theorem dMo_assemble_161 : decode ccMo_assemble 161 = .ok (.if_icmp .ge 60, 3) := by decide +kernel
theorem dMo_assemble_164 : decode ccMo_assemble 164 = .ok (.aload_n 0, 1) := by decide +kernel
theorem dMo_assemble_165 : decode ccMo_assemble 165 = .ok (.getfield 208, 3) := by decide +kernel
theorem dMo_assemble_168 : decode ccMo_assemble 168 = .ok (.ifCond .ne 53, 3) := by decide +kernel
theorem dMo_assemble_171 : decode ccMo_assemble 171 = .ok (.iconst 0, 1) := by decide +kernel
theorem dMo_assemble_172 : decode ccMo_assemble 172 = .ok (.istore_n 3, 1) := by decide +kernel
theorem dMo_assemble_173 : decode ccMo_assemble 173 = .ok (.iload_n 3, 1) := by decide +kernel
theorem dMo_assemble_174 : decode ccMo_assemble 174 = .ok (.iload_n 2, 1) := by decide +kernel
theorem dMo_assemble_175 : decode ccMo_assemble 175 = .ok (.if_icmp .ge 40, 3) := by decide +kernel
theorem dMo_assemble_178 : decode ccMo_assemble 178 = .ok (.aload_n 0, 1) := by decide +kernel
theorem dMo_assemble_179 : decode ccMo_assemble 179 = .ok (.aload_n 0, 1) := by decide +kernel
theorem dMo_assemble_180 : decode ccMo_assemble 180 = .ok (.getfield 208, 3) := by decide +kernel
theorem dMo_assemble_183 : decode ccMo_assemble 183 = .ok (.ifCond .ne 18, 3) := by decide +kernel
theorem dMo_assemble_186 : decode ccMo_assemble 186 = .ok (.aload_n 0, 1) := by decide +kernel
theorem dMo_assemble_187 : decode ccMo_assemble 187 = .ok (.getfield 48, 3) := by decide +kernel
theorem dMo_assemble_190 : decode ccMo_assemble 190 = .ok (.iload_n 3, 1) := by decide +kernel
theorem dMo_assemble_191 : decode ccMo_assemble 191 = .ok (.iaload, 1) := by decide +kernel
theorem dMo_assemble_192 : decode ccMo_assemble 192 = .ok (.aload_n 0, 1) := by decide +kernel
theorem dMo_assemble_193 : decode ccMo_assemble 193 = .ok (.getfield 48, 3) := by decide +kernel
theorem dMo_assemble_196 : decode ccMo_assemble 196 = .ok (.iload_n 2, 1) := by decide +kernel
theorem dMo_assemble_197 : decode ccMo_assemble 197 = .ok (.iaload, 1) := by decide +kernel
theorem dMo_assemble_198 : decode ccMo_assemble 198 = .ok (.if_icmp .ne 7, 3) := by decide +kernel
theorem dMo_assemble_201 : decode ccMo_assemble 201 = .ok (.iconst 1, 1) := by decide +kernel
theorem dMo_assemble_202 : decode ccMo_assemble 202 = .ok (.goto 4, 3) := by decide +kernel
theorem dMo_assemble_205 : decode ccMo_assemble 205 = .ok (.iconst 0, 1) := by decide +kernel
theorem dMo_assemble_206 : decode ccMo_assemble 206 = .ok (.putfield 208, 3) := by decide +kernel
theorem dMo_assemble_209 : decode ccMo_assemble 209 = .ok (.iinc 3 1, 3) := by decide +kernel
theorem dMo_assemble_212 : decode ccMo_assemble 212 = .ok (.goto (-39), 3) := by decide +kernel
theorem dMo_assemble_215 : decode ccMo_assemble 215 = .ok (.iinc 2 1, 3) := by decide +kernel
theorem dMo_assemble_218 : decode ccMo_assemble 218 = .ok (.goto (-62), 3) := by decide +kernel
theorem dMo_assemble_221 : decode ccMo_assemble 221 = .ok (.aload_n 0, 1) := by decide +kernel
theorem dMo_assemble_222 : decode ccMo_assemble 222 = .ok (.getfield 208, 3) := by decide +kernel
theorem dMo_assemble_225 : decode ccMo_assemble 225 = .ok (.ifCond .eq 13, 3) := by decide +kernel
theorem dMo_assemble_228 : decode ccMo_assemble 228 = .ok (.aload_n 0, 1) := by decide +kernel
theorem dMo_assemble_229 : decode ccMo_assemble 229 = .ok (.invokevirtual 58, 3) := by decide +kernel
theorem dMo_assemble_232 : decode ccMo_assemble 232 = .ok (.aload_n 0, 1) := by decide +kernel
theorem dMo_assemble_233 : decode ccMo_assemble 233 = .ok (.iconst 2, 1) := by decide +kernel
theorem dMo_assemble_234 : decode ccMo_assemble 234 = .ok (.invokevirtual 202, 3) := by decide +kernel
theorem dMo_assemble_237 : decode ccMo_assemble 237 = .ok (.ireturn, 1) := by decide +kernel
theorem dMo_assemble_238 : decode ccMo_assemble 238 = .ok (.iconst 0, 1) := by decide +kernel
theorem dMo_assemble_239 : decode ccMo_assemble 239 = .ok (.istore_n 2, 1) := by decide +kernel
theorem dMo_assemble_240 : decode ccMo_assemble 240 = .ok (.iload_n 2, 1) := by decide +kernel
theorem dMo_assemble_241 : decode ccMo_assemble 241 = .ok (.aload_n 0, 1) := by decide +kernel
theorem dMo_assemble_242 : decode ccMo_assemble 242 = .ok (.getfield 205, 3) := by decide +kernel
theorem dMo_assemble_245 : decode ccMo_assemble 245 = .ok (.if_icmp .ge 26, 3) := by decide +kernel
theorem dMo_assemble_248 : decode ccMo_assemble 248 = .ok (.aload_n 0, 1) := by decide +kernel
theorem dMo_assemble_249 : decode ccMo_assemble 249 = .ok (.aload_n 0, 1) := by decide +kernel
theorem dMo_assemble_250 : decode ccMo_assemble 250 = .ok (.getfield 48, 3) := by decide +kernel
theorem dMo_assemble_253 : decode ccMo_assemble 253 = .ok (.iload_n 2, 1) := by decide +kernel
theorem dMo_assemble_254 : decode ccMo_assemble 254 = .ok (.iaload, 1) := by decide +kernel
theorem dMo_assemble_255 : decode ccMo_assemble 255 = .ok (.aload_n 0, 1) := by decide +kernel
theorem dMo_assemble_256 : decode ccMo_assemble 256 = .ok (.getfield 51, 3) := by decide +kernel
theorem dMo_assemble_259 : decode ccMo_assemble 259 = .ok (.iload_n 2, 1) := by decide +kernel
theorem dMo_assemble_260 : decode ccMo_assemble 260 = .ok (.laload, 1) := by decide +kernel
theorem dMo_assemble_261 : decode ccMo_assemble 261 = .ok (.iconst 0, 1) := by decide +kernel
theorem dMo_assemble_262 : decode ccMo_assemble 262 = .ok (.invokevirtual 54, 3) := by decide +kernel
theorem dMo_assemble_265 : decode ccMo_assemble 265 = .ok (.iinc 2 1, 3) := by decide +kernel
theorem dMo_assemble_268 : decode ccMo_assemble 268 = .ok (.goto (-28), 3) := by decide +kernel
theorem dMo_assemble_271 : decode ccMo_assemble 271 = .ok (.aload_n 0, 1) := by decide +kernel
theorem dMo_assemble_272 : decode ccMo_assemble 272 = .ok (.getfield 48, 3) := by decide +kernel
theorem dMo_assemble_275 : decode ccMo_assemble 275 = .ok (.iconst 0, 1) := by decide +kernel
theorem dMo_assemble_276 : decode ccMo_assemble 276 = .ok (.iaload, 1) := by decide +kernel
theorem dMo_assemble_277 : decode ccMo_assemble 277 = .ok (.ireturn, 1) := by decide +kernel
def fMo_assemble_240  : Nat → SM → Nat → Int32 × SM
  | 0, z, v2 => (0, z)
  | fu + 1, z, v2 => (if (m_lines z) ≤ (nI (v2)) then (m_ats z (((0 : Int32)).toNatClampNeg), z) else fMo_assemble_240 fu (fMo_write z (m_ats z ((nI (v2)).toNatClampNeg)) (m_writ z ((nI (v2)).toNatClampNeg)) false) (v2 + 1))
def fMo_assemble_221  (z : SM) : Int32 × SM :=
  (if (m_full z) = true then ((fMo_fail (fMo_forgetPlaces z) 2).1, (fMo_fail (fMo_forgetPlaces z) 2).2) else fMo_assemble_240 41 z 0)
def fMo_assemble_206 (k156 : SM → Nat → (Int32 × SM)) (k173 : SM → Nat → Nat → (Int32 × SM)) (z : SM) (s1 : Bool) (v2 : Nat) (v3 : Nat) : Int32 × SM :=
  k173 (m_full_s z s1) v2 (v3 + 1)
def fMo_assemble_173 (k156 : SM → Nat → (Int32 × SM)) : Nat → SM → Nat → Nat → Int32 × SM
  | 0, z, v2, v3 => (0, z)
  | fu + 1, z, v2, v3 => (if v2 ≤ v3 then k156 z (v2 + 1) else (if (m_full z) = true then fMo_assemble_206 k156 (fMo_assemble_173 k156 fu) z true v2 v3 else (if (m_ats z ((nI (v3)).toNatClampNeg)) = (m_ats z ((nI (v2)).toNatClampNeg)) then fMo_assemble_206 k156 (fMo_assemble_173 k156 fu) z true v2 v3 else fMo_assemble_206 k156 (fMo_assemble_173 k156 fu) z false v2 v3)))
def fMo_assemble_156  : Nat → SM → Nat → Int32 × SM
  | 0, z, v2 => (0, z)
  | fu + 1, z, v2 => (if (m_lines z) ≤ (nI (v2)) then fMo_assemble_221 z else (if (m_full z) = true then fMo_assemble_221 z else fMo_assemble_173 (fMo_assemble_156 fu) 41 z v2 0))
def fMo_assemble_154  (z : SM) : Int32 × SM :=
  fMo_assemble_156 41 z 0
def fMo_assemble_121  : Nat → SM → Bool → Nat → Int32 × SM
  | 0, z, b, v2 => (0, z)
  | fu + 1, z, b, v2 => (if (m_lines z) ≤ (nI (v2)) then fMo_assemble_154 z else (if (m_full z) = true then fMo_assemble_154 z else fMo_assemble_121 fu (fMo_settle z (nI (v2)) (m_ats z ((nI (v2)).toNatClampNeg)) b) b (v2 + 1)))
def fMo_assemble_106 (k56 : SM → Bool → Nat → (Int32 × SM)) (z : SM) (b : Bool) (v2 : Nat) : Int32 × SM :=
  k56 z b (v2 + 1)
def fMo_assemble_56  : Nat → SM → Bool → Nat → Int32 × SM
  | 0, z, b, v2 => (0, z)
  | fu + 1, z, b, v2 => (if (m_lines z) ≤ (nI (v2)) then fMo_assemble_121 41 (m_ats_s z (upd (m_ats z) (((0 : Int32)).toNatClampNeg) ((-1)))) b 0 else (if (fMo_shifts (m_ops (fMo_hold (fMo_hold z (m_loc z ((nI (v2)).toNatClampNeg))) (m_foll (fMo_hold z (m_loc z ((nI (v2)).toNatClampNeg))) ((nI (v2)).toNatClampNeg))) ((nI (v2)).toNatClampNeg))) = true then fMo_assemble_106 (fMo_assemble_56 fu) (fMo_hold (fMo_hold z (m_loc z ((nI (v2)).toNatClampNeg))) (m_foll (fMo_hold z (m_loc z ((nI (v2)).toNatClampNeg))) ((nI (v2)).toNatClampNeg))) b v2 else fMo_assemble_106 (fMo_assemble_56 fu) (fMo_hold (fMo_hold (fMo_hold z (m_loc z ((nI (v2)).toNatClampNeg))) (m_foll (fMo_hold z (m_loc z ((nI (v2)).toNatClampNeg))) ((nI (v2)).toNatClampNeg))) (m_dat (fMo_hold (fMo_hold z (m_loc z ((nI (v2)).toNatClampNeg))) (m_foll (fMo_hold z (m_loc z ((nI (v2)).toNatClampNeg))) ((nI (v2)).toNatClampNeg))) ((nI (v2)).toNatClampNeg))) b v2))
def fMo_assemble_29  : Nat → SM → Bool → Nat → Int32 × SM
  | 0, z, b, v2 => (0, z)
  | fu + 1, z, b, v2 => (if 200 ≤ v2 then fMo_assemble_56 41 z b 0 else fMo_assemble_29 fu (m_held_s z (updB (m_held z) ((nI (v2)).toNatClampNeg) (m_resv z ((nI (v2)).toNatClampNeg)))) b (v2 + 1))
def fMo_assemble (z0 : SM) (b : Bool) : Int32 × SM :=
  (if (m_lines z0) = 0 then ((fMo_fail (m_code_s z0 0) 1).1, (fMo_fail (m_code_s z0 0) 1).2) else fMo_assemble_29 201 (m_full_s (fMo_forgetPlaces (m_code_s z0 0)) false) b 0)
set_option maxHeartbeats 4000000 in
set_option maxRecDepth 100000 in
theorem kMo_assemble (l : Launch) (D : va_G) (q : Nat → Nat) (cI cJ cZ : ClassId) (hq : m_inj q) (z0 : SM) (b : Bool) (hA : m_A z0) : Met l yMo_assemble wsMo_assemble { frames := 3, cells := 0, slots := 0, locals := 81 } (va_Pc [.ref (q 0), .int (bb (b))] (m_C D q cI cJ cZ z0)) (cQw (some (.int ((fMo_assemble z0 b).1))) (m_W D q cI cJ cZ (fMo_assemble z0 b).2) (m_qs q)) 0 0 (m_qs q) := by
  refine Met.ofW (cc := ccMo_assemble) (maxL := 4) (ret := (some .int)) (by decide +kernel) rfl ?_
  intro p e s m args below meth c s₁ B hml hv
  obtain ⟨rfl, hP, hK⟩ := hv
  have hx := B.exec
  have hb := B.bytes
  have hr := B.returns
  have hts := atoms_spec (ws := wsMo_assemble) B.pre
  have hown : s.vm.findClass RMo = some m.cls := findClass_of_methodNamed B.named
  have hlocks := B.notSynchronized
  have w0 := hts (.fieldLink RMo 205 "DrumMachineModel" "lines" "I") (List.mem_cons_of_mem _ wm4_205)
  have w1 := hts (.fieldLink RMo 48 "DrumMachineModel" "at" "[I") (List.mem_cons_of_mem _ wm4_213)
  have w2 := hts (.fieldLink RMo 51 "DrumMachineModel" "written" "[J") (List.mem_cons_of_mem _ wm4_214)
  have w3 := hts (.fieldLink RMo 208 "DrumMachineModel" "full" "Z") (List.mem_cons_of_mem _ wm4_215)
  have w4 := hts (.fieldLink RMo 27 "DrumMachineModel" "location" "[I") (List.mem_cons_of_mem _ wm4_206)
  have w5 := hts (.fieldLink RMo 36 "DrumMachineModel" "following" "[I") (List.mem_cons_of_mem _ wm4_209)
  have w6 := hts (.fieldLink RMo 30 "DrumMachineModel" "operation" "[I") (List.mem_cons_of_mem _ wm4_207)
  have w7 := hts (.fieldLink RMo 33 "DrumMachineModel" "data" "[I") (List.mem_cons_of_mem _ wm4_208)
  have w8 := hts (.fieldLink RMo 45 "DrumMachineModel" "held" "[Z") (List.mem_cons_of_mem _ wm4_212)
  have w9 := hts (.fieldLink RMo 39 "DrumMachineModel" "reserved" "[Z") (List.mem_cons_of_mem _ wm4_210)
  have w10 := hts (.fieldLink RMo 61 "DrumMachineModel" "code" "I") (List.mem_cons_of_mem _ wm4_188)
  have i0 : ∀ w ∈ u_ws RMo TMo 28, w ∈ wsMo_assemble := fun w h => List.mem_cons_of_mem _ (inAMo w h)
  have hS : va_S (m_qs q) s.heap s.heap [] := va_S.rf
  have hl := lv_entry ([.ref (q 0), .int (bb (b))]) (n := 4) (Nat.le_of_ble_eq_true rfl)
  rw [lg_entry_eq]
  generalize (lg_sl ([.ref (q 0), .int (bb (b))]) ++ List.replicate (4 - (lg_sl ([.ref (q 0), .int (bb (b))])).length) Slot.unset).toArray = ls at hl ⊢
  have hl : lv_has ls 4 [(0, .ref (q 0)), (1, .int (bb (b)))] := hl
  have hB240 : ∀ (n240 : Nat) (H : Heap) (locs : List Loc) (ls : Array Slot) (z : SM) (v2 : Nat), 40 - v2 < n240 → fMo_assemble z0 b = fMo_assemble_240 n240 z v2 → (v2 ≤ 40) → (m_A z) → (∀ i, i < 40 → nI i < m_lines z → 0 ≤ (m_ats z i).toInt) → m_W D q cI cJ cZ z H → va_S (m_qs q) s.heap H locs → lv_has ls 4 [(0, .ref (q 0)), (2, .int (nI (v2)))] → W p l e (headSpec wsMo_assemble { frames := 3, cells := 0, slots := 0, locals := 81 }).room s m ([.ref (q 0), .int (bb (b))] : List Value).toArray below meth c H locs 0 0 (MQ below (cQw (some (.int ((fMo_assemble z0 b).1))) (m_W D q cI cJ cZ (fMo_assemble z0 b).2) (m_qs q)) ([.ref (q 0), .int (bb (b))] : List Value).toArray s 0 0 (m_qs q)) (F0 m 240 ls []) := by
    intro n240
    induction n240 with
    | zero => intro H locs ls z v2 hn240; exact absurd hn240 (Nat.not_lt_zero _)
    | succ n240 ih240 =>
      intro H locs ls z v2 hn240 hR h2 hA hw hP hS hl
      rw [fMo_assemble_240.eq_2] at hR
      refine lv_iload_n hx hb dMo_assemble_240 rfl (lv_at hl 1 rfl) ?_
      refine lv_aload_n hx hb dMo_assemble_241 rfl (lv_at hl 0 rfl) ?_
      refine mg0_lines hx hb hts i0 hown hK hP w0 dMo_assemble_242 ?_
      refine lv_icmp_ge hx hb dMo_assemble_245 rfl (fun h245 => ?_) (fun h245 => ?_)
      · have hR := hR.trans (if_pos h245)
        refine lv_aload_n hx hb dMo_assemble_271 rfl (lv_at hl 0 rfl) ?_
        refine mg0_at hx hb hts i0 hown hK hP w1 dMo_assemble_272 ?_
        refine lv_iconst (v := 0) hx hb dMo_assemble_275 (by decide) ?_
        refine ml_ats hx hb hK hP z40 dMo_assemble_276 ?_
        exact W.iret hx hb hr (fun t ht _ => ⟨by rw [hR]; first | done | rfl, by rw [hR, ht]; exact hP, hS.F ht⟩) hS.2.2 dMo_assemble_277
      · have hR := hR.trans (if_neg h245)
        refine lv_aload_n hx hb dMo_assemble_248 rfl (lv_at hl 0 rfl) ?_
        refine lv_aload_n hx hb dMo_assemble_249 rfl (lv_at hl 0 rfl) ?_
        refine mg0_at hx hb hts i0 hown hK hP w1 dMo_assemble_250 ?_
        refine lv_iload_n hx hb dMo_assemble_253 rfl (lv_at hl 1 rfl) ?_
        refine ml_ats hx hb hK hP (mt_in hA.1 h245 h2) dMo_assemble_254 ?_
        refine lv_aload_n hx hb dMo_assemble_255 rfl (lv_at hl 0 rfl) ?_
        refine mg0_written hx hb hts i0 hown hK hP w2 dMo_assemble_256 ?_
        refine lv_iload_n hx hb dMo_assemble_259 rfl (lv_at hl 1 rfl) ?_
        refine ml_writ hx hb hK hP (mt_in hA.1 h245 h2) dMo_assemble_260 ?_
        refine lv_iconst (v := 0) hx hb dMo_assemble_261 (by decide) ?_
        refine cl_wr (W.runV (As := [.int ((m_ats z ((nI (v2)).toNatClampNeg))), .long ((m_writ z ((nI (v2)).toNatClampNeg))), .int (bb (false))]) (rest := []) ⟨hx, hb, hml, hown, hts⟩ (kMo_write l D q cI cJ cZ hq z (m_ats z ((nI (v2)).toNatClampNeg)) (m_writ z ((nI (v2)).toNatClampNeg)) false (wm_in hA hw h245 h2)) (cwV 3 hts (gV wm4_179 wm4_181 ws2_13 wm1_9 wm4_182) rfl rfl rfl (by decide +kernel) ⟨Nat.le_of_ble_eq_true rfl, Nat.le_of_ble_eq_true rfl⟩) (m_preV0 hK hP) rfl rfl hl.1 rfl (lv_room (Nat.le_of_ble_eq_true rfl)) dMo_assemble_262 ⟨Nat.le_refl _, Nat.le_refl _⟩) hS (fun _ h => h) (fun _ h => h) (fun H locs hP hS => ?_)
        refine lv_iinc (k := 1) (lv' := [(2, .int (nI (v2 + 1))), (0, .ref (q 0))]) hx hb dMo_assemble_265 hl rfl (nI_1 _) (by decide) rfl (fun ls hl => ?_)
        refine lv_goto hx hb dMo_assemble_268 rfl ?_
        exact ih240 H locs ls (fMo_write z (m_ats z ((nI (v2)).toNatClampNeg)) (m_writ z ((nI (v2)).toNatClampNeg)) false) (v2 + 1) (mt_m hA.1 h245 h2 hn240) hR (mt_b hA.1 h245 h2) (mA_wr hA) (wm_w hw) hP hS (lv_sub hl [1, 0] rfl)
  have hB221 : ∀ (H : Heap) (locs : List Loc) (ls : Array Slot) (z : SM), fMo_assemble z0 b = fMo_assemble_221 z → (m_A z) → (m_full z = true ∨ (∀ i, i < 40 → nI i < m_lines z → 0 ≤ (m_ats z i).toInt)) → m_W D q cI cJ cZ z H → va_S (m_qs q) s.heap H locs → lv_has ls 4 [(0, .ref (q 0))] → W p l e (headSpec wsMo_assemble { frames := 3, cells := 0, slots := 0, locals := 81 }).room s m ([.ref (q 0), .int (bb (b))] : List Value).toArray below meth c H locs 0 0 (MQ below (cQw (some (.int ((fMo_assemble z0 b).1))) (m_W D q cI cJ cZ (fMo_assemble z0 b).2) (m_qs q)) ([.ref (q 0), .int (bb (b))] : List Value).toArray s 0 0 (m_qs q)) (F0 m 221 ls []) := by
    intro H locs ls z hR hA hw2 hP hS hl
    rw [fMo_assemble_221.eq_1] at hR
    refine lv_aload_n hx hb dMo_assemble_221 rfl (lv_at hl 0 rfl) ?_
    refine mg0_full hx hb hts i0 hown hK hP w3 dMo_assemble_222 ?_
    refine wz_ifeq hx hb dMo_assemble_225 rfl (fun h225 => ?_) (fun h225 => ?_)
    · have hR := hR.trans (if_neg h225)
      refine lv_iconst (v := 0) hx hb dMo_assemble_238 (by decide) ?_
      refine lv_istore_n (lv' := [(2, .int (nI (0))), (0, .ref (q 0))]) hx hb dMo_assemble_239 rfl hl (by decide) rfl (fun ls hl => ?_)
      exact hB240 41 H locs ls z 0 (by omega) hR (by first | assumption | omega) (by first | assumption | omega) (hw2.resolve_left h225) hP hS (lv_sub hl [1, 0] rfl)
    · have hR := hR.trans (if_pos h225)
      refine lv_aload_n hx hb dMo_assemble_228 rfl (lv_at hl 0 rfl) ?_
      refine cl_wr (W.runV (As := []) (rest := []) ⟨hx, hb, hml, hown, hts⟩ (kMo_forgetPlaces l D q cI cJ cZ hq z) (cwV 0 hts (gV wm4_184 wm4_186 ws2_14 wm1_9 wm4_187) rfl rfl rfl (by decide +kernel) ⟨Nat.le_of_ble_eq_true rfl, Nat.le_of_ble_eq_true rfl⟩) (m_preV0 hK hP) rfl rfl hl.1 rfl (lv_room (Nat.le_of_ble_eq_true rfl)) dMo_assemble_229 ⟨Nat.le_refl _, Nat.le_refl _⟩) hS (fun _ h => h) (fun _ h => h) (fun H locs hP hS => ?_)
      refine lv_aload_n hx hb dMo_assemble_232 rfl (lv_at hl 0 rfl) ?_
      refine lv_iconst (v := 2) hx hb dMo_assemble_233 (by decide) ?_
      refine cl_wr (W.runV (As := [.int (2)]) (rest := []) ⟨hx, hb, hml, hown, hts⟩ (kMo_fail l D q cI cJ cZ hq (fMo_forgetPlaces z) 2) (cwV 1 hts (gV wm5_154 wm5_156 ws3_13 wm1_9 wm5_157) rfl rfl rfl (by decide +kernel) ⟨Nat.le_of_ble_eq_true rfl, Nat.le_of_ble_eq_true rfl⟩) (m_preV0 hK hP) rfl rfl hl.1 rfl (lv_room (Nat.le_of_ble_eq_true rfl)) dMo_assemble_234 ⟨Nat.le_refl _, Nat.le_refl _⟩) hS (fun _ h => h) (fun _ h => h) (fun H locs hP hS => ?_)
      exact W.iret hx hb hr (fun t ht _ => ⟨by rw [hR]; first | done | rfl, by rw [hR, ht]; exact hP, hS.F ht⟩) hS.2.2 dMo_assemble_237
  have hB156 : ∀ (n156 : Nat) (H : Heap) (locs : List Loc) (ls : Array Slot) (z : SM) (v2 : Nat), 40 - v2 < n156 → fMo_assemble z0 b = fMo_assemble_156 n156 z v2 → (v2 ≤ 40) → (m_A z) → (m_full z = true ∨ (∀ i, i < 40 → nI i < m_lines z → 0 ≤ (m_ats z i).toInt)) → m_W D q cI cJ cZ z H → va_S (m_qs q) s.heap H locs → lv_has ls 4 [(0, .ref (q 0)), (2, .int (nI (v2)))] → W p l e (headSpec wsMo_assemble { frames := 3, cells := 0, slots := 0, locals := 81 }).room s m ([.ref (q 0), .int (bb (b))] : List Value).toArray below meth c H locs 0 0 (MQ below (cQw (some (.int ((fMo_assemble z0 b).1))) (m_W D q cI cJ cZ (fMo_assemble z0 b).2) (m_qs q)) ([.ref (q 0), .int (bb (b))] : List Value).toArray s 0 0 (m_qs q)) (F0 m 156 ls []) := by
    intro n156
    induction n156 with
    | zero => intro H locs ls z v2 hn156; exact absurd hn156 (Nat.not_lt_zero _)
    | succ n156 ih156 =>
      intro H locs ls z v2 hn156 hR h2 hA hw2 hP hS hl
      rw [fMo_assemble_156.eq_2] at hR
      have hB173 : ∀ (n173 : Nat) (H : Heap) (locs : List Loc) (ls : Array Slot) (z : SM) (v2 : Nat) (v3 : Nat), v2 - v3 < n173 → fMo_assemble z0 b = fMo_assemble_173 (fMo_assemble_156 n156) n173 z v2 v3 → (v2 < 40) → (v3 ≤ v2) → (40 - v2 < n156 + 1) → (m_A z) → (m_full z = true ∨ (∀ i, i < 40 → nI i < m_lines z → 0 ≤ (m_ats z i).toInt)) → m_W D q cI cJ cZ z H → va_S (m_qs q) s.heap H locs → lv_has ls 4 [(0, .ref (q 0)), (2, .int (nI (v2))), (3, .int (nI (v3)))] → W p l e (headSpec wsMo_assemble { frames := 3, cells := 0, slots := 0, locals := 81 }).room s m ([.ref (q 0), .int (bb (b))] : List Value).toArray below meth c H locs 0 0 (MQ below (cQw (some (.int ((fMo_assemble z0 b).1))) (m_W D q cI cJ cZ (fMo_assemble z0 b).2) (m_qs q)) ([.ref (q 0), .int (bb (b))] : List Value).toArray s 0 0 (m_qs q)) (F0 m 173 ls []) := by
        intro n173
        induction n173 with
        | zero => intro H locs ls z v2 v3 hn173; exact absurd hn173 (Nat.not_lt_zero _)
        | succ n173 ih173 =>
          intro H locs ls z v2 v3 hn173 hR h2 h3 hm hA hw2 hP hS hl
          rw [fMo_assemble_173.eq_2] at hR
          have hB206 : ∀ (H : Heap) (locs : List Loc) (ls : Array Slot) (z : SM) (s1 : Bool) (v2 : Nat) (v3 : Nat), fMo_assemble z0 b = fMo_assemble_206 (fMo_assemble_156 n156) (fMo_assemble_173 (fMo_assemble_156 n156) n173) z s1 v2 v3 → (v2 < 40) → (v3 < v2) → (40 - v2 < n156 + 1) → (v2 - v3 < n173 + 1) → (m_A z) → (s1 = true ∨ (∀ i, i < 40 → nI i < m_lines z → 0 ≤ (m_ats z i).toInt)) → m_W D q cI cJ cZ z H → va_S (m_qs q) s.heap H locs → lv_has ls 4 [(0, .ref (q 0)), (2, .int (nI (v2))), (3, .int (nI (v3)))] → W p l e (headSpec wsMo_assemble { frames := 3, cells := 0, slots := 0, locals := 81 }).room s m ([.ref (q 0), .int (bb (b))] : List Value).toArray below meth c H locs 0 0 (MQ below (cQw (some (.int ((fMo_assemble z0 b).1))) (m_W D q cI cJ cZ (fMo_assemble z0 b).2) (m_qs q)) ([.ref (q 0), .int (bb (b))] : List Value).toArray s 0 0 (m_qs q)) (F0 m 206 ls [.int (bb (s1)), .ref (q 0)]) := by
            intro H locs ls z s1 v2 v3 hR h2 h3 hm hm2 hA hf hP hS hl
            rw [fMo_assemble_206.eq_1] at hR
            refine mp0_full s1 hq hS hx hb hts i0 hown hK hP w3 dMo_assemble_206 (fun H locs hP hS => ?_)
            refine lv_iinc (k := 2) (lv' := [(3, .int (nI (v3 + 1))), (0, .ref (q 0)), (2, .int (nI (v2)))]) hx hb dMo_assemble_209 hl rfl (nI_1 _) (by decide) rfl (fun ls hl => ?_)
            refine lv_goto hx hb dMo_assemble_212 rfl ?_
            exact ih173 H locs ls (m_full_s z s1) v2 (v3 + 1) (by omega) hR (by first | assumption | omega) (by first | assumption | omega) (by first | assumption | omega) (mA_f _ hA) hf hP hS (lv_sub hl [1, 2, 0] rfl)
          refine lv_iload_n hx hb dMo_assemble_173 rfl (lv_at hl 2 rfl) ?_
          refine lv_iload_n hx hb dMo_assemble_174 rfl (lv_at hl 1 rfl) ?_
          refine wn_ge (x := v3) (y := v2) hx hb (by omega) (by omega) dMo_assemble_175 rfl (fun h175 => ?_) (fun h175 => ?_)
          · have hR := hR.trans (if_pos h175)
            refine lv_iinc (k := 1) (lv' := [(2, .int (nI (v2 + 1))), (0, .ref (q 0)), (3, .int (nI (v3)))]) hx hb dMo_assemble_215 hl rfl (nI_1 _) (by decide) rfl (fun ls hl => ?_)
            refine lv_goto hx hb dMo_assemble_218 rfl ?_
            exact ih156 H locs ls z (v2 + 1) (by omega) hR (by first | assumption | omega) (by first | assumption | omega) (by first | assumption | omega) hP hS (lv_sub hl [1, 0] rfl)
          · have hR := hR.trans (if_neg h175)
            refine lv_aload_n hx hb dMo_assemble_178 rfl (lv_at hl 0 rfl) ?_
            refine lv_aload_n hx hb dMo_assemble_179 rfl (lv_at hl 0 rfl) ?_
            refine mg0_full hx hb hts i0 hown hK hP w3 dMo_assemble_180 ?_
            refine wz_ifne hx hb dMo_assemble_183 rfl (fun h183 => ?_) (fun h183 => ?_)
            · have hR := hR.trans (if_pos h183)
              refine lv_iconst (v := 1) hx hb dMo_assemble_201 (by decide) ?_
              refine lv_goto hx hb dMo_assemble_202 rfl ?_
              exact hB206 H locs ls z true v2 v3 hR (by first | assumption | omega) (by first | assumption | omega) (by first | assumption | omega) (by first | assumption | omega) (by first | assumption | omega) (Or.inl rfl) hP hS (lv_sub hl [0, 1, 2] rfl)
            · have hR := hR.trans (if_neg h183)
              refine lv_aload_n hx hb dMo_assemble_186 rfl (lv_at hl 0 rfl) ?_
              refine mg0_at hx hb hts i0 hown hK hP w1 dMo_assemble_187 ?_
              refine lv_iload_n hx hb dMo_assemble_190 rfl (lv_at hl 2 rfl) ?_
              refine ml_ats hx hb hK hP (vp_in_nI (by omega) (by decide)) dMo_assemble_191 ?_
              refine lv_aload_n hx hb dMo_assemble_192 rfl (lv_at hl 0 rfl) ?_
              refine mg0_at hx hb hts i0 hown hK hP w1 dMo_assemble_193 ?_
              refine lv_iload_n hx hb dMo_assemble_196 rfl (lv_at hl 1 rfl) ?_
              refine ml_ats hx hb hK hP (vp_in_nI (by omega) (by decide)) dMo_assemble_197 ?_
              refine lv_icmp_ne hx hb dMo_assemble_198 rfl (fun h198 => ?_) (fun h198 => ?_)
              · have hR := hR.trans (if_neg h198)
                refine lv_iconst (v := 0) hx hb dMo_assemble_205 (by decide) ?_
                exact hB206 H locs ls z false v2 v3 hR (by first | assumption | omega) (by first | assumption | omega) (by first | assumption | omega) (by first | assumption | omega) (by first | assumption | omega) (Or.inr (hw2.resolve_left h183)) hP hS (lv_sub hl [0, 1, 2] rfl)
              · have hR := hR.trans (if_pos h198)
                refine lv_iconst (v := 1) hx hb dMo_assemble_201 (by decide) ?_
                refine lv_goto hx hb dMo_assemble_202 rfl ?_
                exact hB206 H locs ls z true v2 v3 hR (by first | assumption | omega) (by first | assumption | omega) (by first | assumption | omega) (by first | assumption | omega) (by first | assumption | omega) (Or.inl rfl) hP hS (lv_sub hl [0, 1, 2] rfl)
      refine lv_iload_n hx hb dMo_assemble_156 rfl (lv_at hl 1 rfl) ?_
      refine lv_aload_n hx hb dMo_assemble_157 rfl (lv_at hl 0 rfl) ?_
      refine mg0_lines hx hb hts i0 hown hK hP w0 dMo_assemble_158 ?_
      refine lv_icmp_ge hx hb dMo_assemble_161 rfl (fun h161 => ?_) (fun h161 => ?_)
      · have hR := hR.trans (if_pos h161)
        exact hB221 H locs ls z hR (by first | assumption | omega) (by first | assumption | omega) hP hS (lv_sub hl [0] rfl)
      · have hR := hR.trans (if_neg h161)
        refine lv_aload_n hx hb dMo_assemble_164 rfl (lv_at hl 0 rfl) ?_
        refine mg0_full hx hb hts i0 hown hK hP w3 dMo_assemble_165 ?_
        refine wz_ifne hx hb dMo_assemble_168 rfl (fun h168 => ?_) (fun h168 => ?_)
        · have hR := hR.trans (if_pos h168)
          exact hB221 H locs ls z hR (by first | assumption | omega) (by first | assumption | omega) hP hS (lv_sub hl [0] rfl)
        · have hR := hR.trans (if_neg h168)
          refine lv_iconst (v := 0) hx hb dMo_assemble_171 (by decide) ?_
          refine lv_istore_n (lv' := [(3, .int (nI (0))), (0, .ref (q 0)), (2, .int (nI (v2)))]) hx hb dMo_assemble_172 rfl hl (by decide) rfl (fun ls hl => ?_)
          exact hB173 41 H locs ls z v2 0 (by omega) hR (mt_b hA.1 h161 h2) (by first | assumption | omega) (by first | assumption | omega) (by first | assumption | omega) (by first | assumption | omega) hP hS (lv_sub hl [1, 2, 0] rfl)
  have hB154 : ∀ (H : Heap) (locs : List Loc) (ls : Array Slot) (z : SM), fMo_assemble z0 b = fMo_assemble_154 z → (m_A z) → (m_full z = true ∨ (∀ i, i < 40 → nI i < m_lines z → 0 ≤ (m_ats z i).toInt)) → m_W D q cI cJ cZ z H → va_S (m_qs q) s.heap H locs → lv_has ls 4 [(0, .ref (q 0))] → W p l e (headSpec wsMo_assemble { frames := 3, cells := 0, slots := 0, locals := 81 }).room s m ([.ref (q 0), .int (bb (b))] : List Value).toArray below meth c H locs 0 0 (MQ below (cQw (some (.int ((fMo_assemble z0 b).1))) (m_W D q cI cJ cZ (fMo_assemble z0 b).2) (m_qs q)) ([.ref (q 0), .int (bb (b))] : List Value).toArray s 0 0 (m_qs q)) (F0 m 154 ls []) := by
    intro H locs ls z hR hA hw2 hP hS hl
    rw [fMo_assemble_154.eq_1] at hR
    refine lv_iconst (v := 0) hx hb dMo_assemble_154 (by decide) ?_
    refine lv_istore_n (lv' := [(2, .int (nI (0))), (0, .ref (q 0))]) hx hb dMo_assemble_155 rfl hl (by decide) rfl (fun ls hl => ?_)
    exact hB156 41 H locs ls z 0 (by omega) hR (by first | assumption | omega) (by first | assumption | omega) hw2 hP hS (lv_sub hl [1, 0] rfl)
  have hB121 : ∀ (n121 : Nat) (H : Heap) (locs : List Loc) (ls : Array Slot) (z : SM) (v2 : Nat), 40 - v2 < n121 → fMo_assemble z0 b = fMo_assemble_121 n121 z b v2 → (v2 ≤ 40) → (m_A z) → (∀ i, i < v2 → 0 ≤ (m_ats z i).toInt) → m_W D q cI cJ cZ z H → va_S (m_qs q) s.heap H locs → lv_has ls 4 [(0, .ref (q 0)), (1, .int (bb (b))), (2, .int (nI (v2)))] → W p l e (headSpec wsMo_assemble { frames := 3, cells := 0, slots := 0, locals := 81 }).room s m ([.ref (q 0), .int (bb (b))] : List Value).toArray below meth c H locs 0 0 (MQ below (cQw (some (.int ((fMo_assemble z0 b).1))) (m_W D q cI cJ cZ (fMo_assemble z0 b).2) (m_qs q)) ([.ref (q 0), .int (bb (b))] : List Value).toArray s 0 0 (m_qs q)) (F0 m 121 ls []) := by
    intro n121
    induction n121 with
    | zero => intro H locs ls z v2 hn121; exact absurd hn121 (Nat.not_lt_zero _)
    | succ n121 ih121 =>
      intro H locs ls z v2 hn121 hR h2 hA hw hP hS hl
      rw [fMo_assemble_121.eq_2] at hR
      refine lv_iload_n hx hb dMo_assemble_121 rfl (lv_at hl 2 rfl) ?_
      refine lv_aload_n hx hb dMo_assemble_122 rfl (lv_at hl 0 rfl) ?_
      refine mg0_lines hx hb hts i0 hown hK hP w0 dMo_assemble_123 ?_
      refine lv_icmp_ge hx hb dMo_assemble_126 rfl (fun h126 => ?_) (fun h126 => ?_)
      · have hR := hR.trans (if_pos h126)
        exact hB154 H locs ls z hR (by first | assumption | omega) (Or.inr (as_w h2 h126 hw)) hP hS (lv_sub hl [0] rfl)
      · have hR := hR.trans (if_neg h126)
        refine lv_aload_n hx hb dMo_assemble_129 rfl (lv_at hl 0 rfl) ?_
        refine mg0_full hx hb hts i0 hown hK hP w3 dMo_assemble_130 ?_
        refine wz_ifne hx hb dMo_assemble_133 rfl (fun h133 => ?_) (fun h133 => ?_)
        · have hR := hR.trans (if_pos h133)
          exact hB154 H locs ls z hR (by first | assumption | omega) (Or.inl h133) hP hS (lv_sub hl [0] rfl)
        · have hR := hR.trans (if_neg h133)
          refine lv_aload_n hx hb dMo_assemble_136 rfl (lv_at hl 0 rfl) ?_
          refine lv_iload_n hx hb dMo_assemble_137 rfl (lv_at hl 2 rfl) ?_
          refine lv_aload_n hx hb dMo_assemble_138 rfl (lv_at hl 0 rfl) ?_
          refine mg0_at hx hb hts i0 hown hK hP w1 dMo_assemble_139 ?_
          refine lv_iload_n hx hb dMo_assemble_142 rfl (lv_at hl 2 rfl) ?_
          refine ml_ats hx hb hK hP (mt_in hA.1 h126 h2) dMo_assemble_143 ?_
          refine lv_iload_n hx hb dMo_assemble_144 rfl (lv_at hl 1 rfl) ?_
          refine cl_wr (W.runV (As := [.int ((nI (v2))), .int ((m_ats z ((nI (v2)).toNatClampNeg))), .int (bb (b))]) (rest := []) ⟨hx, hb, hml, hown, hts⟩ (kMo_settle l D q cI cJ cZ hq z (nI (v2)) (m_ats z ((nI (v2)).toNatClampNeg)) b (mt_in hA.1 h126 h2) (hA.2.2.2.2.1 _ (ix_lt (mt_in hA.1 h126 h2))) hA) (cwV 3 hts (gV wm5_174 wm5_176 ws3_15 wm1_9 wm5_177) rfl rfl rfl (by decide +kernel) ⟨Nat.le_of_ble_eq_true rfl, Nat.le_of_ble_eq_true rfl⟩) (m_preV0 hK hP) rfl rfl hl.1 rfl (lv_room (Nat.le_of_ble_eq_true rfl)) dMo_assemble_145 ⟨Nat.le_refl _, Nat.le_refl _⟩) hS (fun _ h => h) (fun _ h => h) (fun H locs hP hS => ?_)
          refine lv_iinc (k := 2) (lv' := [(2, .int (nI (v2 + 1))), (0, .ref (q 0)), (1, .int (bb (b)))]) hx hb dMo_assemble_148 hl rfl (nI_1 _) (by decide) rfl (fun ls hl => ?_)
          refine lv_goto hx hb dMo_assemble_151 rfl ?_
          exact ih121 H locs ls (fMo_settle z (nI (v2)) (m_ats z ((nI (v2)).toNatClampNeg)) b) (v2 + 1) (mt_m hA.1 h126 h2 hn121) hR (mt_b hA.1 h126 h2) (sSet (mt_in hA.1 h126 h2) (hA.2.2.2.2.1 _ (ix_lt (mt_in hA.1 h126 h2))) hA).1 (st_w (mt_b hA.1 h126 h2) hA hw) hP hS (lv_sub hl [1, 2, 0] rfl)
  have hB56 : ∀ (n56 : Nat) (H : Heap) (locs : List Loc) (ls : Array Slot) (z : SM) (v2 : Nat), 40 - v2 < n56 → fMo_assemble z0 b = fMo_assemble_56 n56 z b v2 → (v2 ≤ 40) → (m_A z) → m_W D q cI cJ cZ z H → va_S (m_qs q) s.heap H locs → lv_has ls 4 [(0, .ref (q 0)), (1, .int (bb (b))), (2, .int (nI (v2)))] → W p l e (headSpec wsMo_assemble { frames := 3, cells := 0, slots := 0, locals := 81 }).room s m ([.ref (q 0), .int (bb (b))] : List Value).toArray below meth c H locs 0 0 (MQ below (cQw (some (.int ((fMo_assemble z0 b).1))) (m_W D q cI cJ cZ (fMo_assemble z0 b).2) (m_qs q)) ([.ref (q 0), .int (bb (b))] : List Value).toArray s 0 0 (m_qs q)) (F0 m 56 ls []) := by
    intro n56
    induction n56 with
    | zero => intro H locs ls z v2 hn56; exact absurd hn56 (Nat.not_lt_zero _)
    | succ n56 ih56 =>
      intro H locs ls z v2 hn56 hR h2 hA hP hS hl
      rw [fMo_assemble_56.eq_2] at hR
      have hB106 : ∀ (H : Heap) (locs : List Loc) (ls : Array Slot) (z : SM) (v2 : Nat), fMo_assemble z0 b = fMo_assemble_106 (fMo_assemble_56 n56) z b v2 → (v2 < 40) → (40 - v2 < n56 + 1) → (m_A z) → m_W D q cI cJ cZ z H → va_S (m_qs q) s.heap H locs → lv_has ls 4 [(0, .ref (q 0)), (1, .int (bb (b))), (2, .int (nI (v2)))] → W p l e (headSpec wsMo_assemble { frames := 3, cells := 0, slots := 0, locals := 81 }).room s m ([.ref (q 0), .int (bb (b))] : List Value).toArray below meth c H locs 0 0 (MQ below (cQw (some (.int ((fMo_assemble z0 b).1))) (m_W D q cI cJ cZ (fMo_assemble z0 b).2) (m_qs q)) ([.ref (q 0), .int (bb (b))] : List Value).toArray s 0 0 (m_qs q)) (F0 m 106 ls []) := by
        intro H locs ls z v2 hR h2 hm hA hP hS hl
        rw [fMo_assemble_106.eq_1] at hR
        refine lv_iinc (k := 2) (lv' := [(2, .int (nI (v2 + 1))), (0, .ref (q 0)), (1, .int (bb (b)))]) hx hb dMo_assemble_106 hl rfl (nI_1 _) (by decide) rfl (fun ls hl => ?_)
        refine lv_goto hx hb dMo_assemble_109 rfl ?_
        exact ih56 H locs ls z (v2 + 1) (by omega) hR (by first | assumption | omega) (by first | assumption | omega) hP hS (lv_sub hl [1, 2, 0] rfl)
      refine lv_iload_n hx hb dMo_assemble_56 rfl (lv_at hl 2 rfl) ?_
      refine lv_aload_n hx hb dMo_assemble_57 rfl (lv_at hl 0 rfl) ?_
      refine mg0_lines hx hb hts i0 hown hK hP w0 dMo_assemble_58 ?_
      refine lv_icmp_ge hx hb dMo_assemble_61 rfl (fun h61 => ?_) (fun h61 => ?_)
      · have hR := hR.trans (if_pos h61)
        refine lv_aload_n hx hb dMo_assemble_112 rfl (lv_at hl 0 rfl) ?_
        refine mg0_at hx hb hts i0 hown hK hP w1 dMo_assemble_113 ?_
        refine lv_iconst (v := 0) hx hb dMo_assemble_116 (by decide) ?_
        refine lv_iconst (v := (-1)) hx hb dMo_assemble_117 (by decide) ?_
        refine ms_ats ((-1)) hq hS hx hb hK hP z40 dMo_assemble_118 (fun H locs hP hS => ?_)
        refine lv_iconst (v := 0) hx hb dMo_assemble_119 (by decide) ?_
        refine lv_istore_n (lv' := [(2, .int (nI (0))), (0, .ref (q 0)), (1, .int (bb (b)))]) hx hb dMo_assemble_120 rfl hl (by decide) rfl (fun ls hl => ?_)
        exact hB121 41 H locs ls (m_ats_s z (upd (m_ats z) (((0 : Int32)).toNatClampNeg) ((-1)))) 0 (by omega) hR (by first | assumption | omega) (mA_at hA pl_m1) (fun i hi => absurd hi (Nat.not_lt_zero i)) hP hS (lv_sub hl [1, 2, 0] rfl)
      · have hR := hR.trans (if_neg h61)
        refine lv_aload_n hx hb dMo_assemble_64 rfl (lv_at hl 0 rfl) ?_
        refine lv_aload_n hx hb dMo_assemble_65 rfl (lv_at hl 0 rfl) ?_
        refine mg0_location hx hb hts i0 hown hK hP w4 dMo_assemble_66 ?_
        refine lv_iload_n hx hb dMo_assemble_69 rfl (lv_at hl 2 rfl) ?_
        refine ml_loc hx hb hK hP (mt_in hA.1 h61 h2) dMo_assemble_70 ?_
        refine cl_wr (W.runV (As := [.int ((m_loc z ((nI (v2)).toNatClampNeg)))]) (rest := []) ⟨hx, hb, hml, hown, hts⟩ (kMo_hold l D q cI cJ cZ hq z (m_loc z ((nI (v2)).toNatClampNeg))) (cwV 1 hts (gV wm5_170 wm5_172 ws3_14 wm1_9 wm5_173) rfl rfl rfl (by decide +kernel) ⟨Nat.le_of_ble_eq_true rfl, Nat.le_of_ble_eq_true rfl⟩) (m_preV0 hK hP) rfl rfl hl.1 rfl (lv_room (Nat.le_of_ble_eq_true rfl)) dMo_assemble_71 ⟨Nat.le_refl _, Nat.le_refl _⟩) hS (fun _ h => h) (fun _ h => h) (fun H locs hP hS => ?_)
        refine lv_aload_n hx hb dMo_assemble_74 rfl (lv_at hl 0 rfl) ?_
        refine lv_aload_n hx hb dMo_assemble_75 rfl (lv_at hl 0 rfl) ?_
        refine mg0_following hx hb hts i0 hown hK hP w5 dMo_assemble_76 ?_
        refine lv_iload_n hx hb dMo_assemble_79 rfl (lv_at hl 2 rfl) ?_
        refine ml_foll hx hb hK hP (mt_in hA.1 h61 h2) dMo_assemble_80 ?_
        refine cl_wr (W.runV (As := [.int ((m_foll (fMo_hold z (m_loc z ((nI (v2)).toNatClampNeg))) ((nI (v2)).toNatClampNeg)))]) (rest := []) ⟨hx, hb, hml, hown, hts⟩ (kMo_hold l D q cI cJ cZ hq (fMo_hold z (m_loc z ((nI (v2)).toNatClampNeg))) (m_foll (fMo_hold z (m_loc z ((nI (v2)).toNatClampNeg))) ((nI (v2)).toNatClampNeg))) (cwV 1 hts (gV wm5_170 wm5_172 ws3_14 wm1_9 wm5_173) rfl rfl rfl (by decide +kernel) ⟨Nat.le_of_ble_eq_true rfl, Nat.le_of_ble_eq_true rfl⟩) (m_preV0 hK hP) rfl rfl hl.1 rfl (lv_room (Nat.le_of_ble_eq_true rfl)) dMo_assemble_81 ⟨Nat.le_refl _, Nat.le_refl _⟩) hS (fun _ h => h) (fun _ h => h) (fun H locs hP hS => ?_)
        refine lv_aload_n hx hb dMo_assemble_84 rfl (lv_at hl 0 rfl) ?_
        refine mg0_operation hx hb hts i0 hown hK hP w6 dMo_assemble_85 ?_
        refine lv_iload_n hx hb dMo_assemble_88 rfl (lv_at hl 2 rfl) ?_
        refine ml_ops hx hb hK hP (mt_in hA.1 h61 h2) dMo_assemble_89 ?_
        refine cl_rd (W.runS (As := [.int ((m_ops (fMo_hold (fMo_hold z (m_loc z ((nI (v2)).toNatClampNeg))) (m_foll (fMo_hold z (m_loc z ((nI (v2)).toNatClampNeg))) ((nI (v2)).toNatClampNeg))) ((nI (v2)).toNatClampNeg)))]) (rest := []) ⟨hx, hb, hml, hown, hts⟩ (kMo_shifts l (m_ops (fMo_hold (fMo_hold z (m_loc z ((nI (v2)).toNatClampNeg))) (m_foll (fMo_hold z (m_loc z ((nI (v2)).toNatClampNeg))) ((nI (v2)).toNatClampNeg))) ((nI (v2)).toNatClampNeg))) (va_cwS 1 hts (gS wm5_96 wm5_97 wm1_9 wm5_98) rfl rfl rfl (by decide +kernel) ⟨Nat.le_of_ble_eq_true rfl, Nat.le_of_ble_eq_true rfl⟩) (preT) rfl rfl hl.1 rfl (lv_room (Nat.le_of_ble_eq_true rfl)) dMo_assemble_90 ⟨Nat.le_refl _, Nat.le_refl _⟩) ?_
        refine wz_ifne hx hb dMo_assemble_93 rfl (fun h93 => ?_) (fun h93 => ?_)
        · have hR := hR.trans (if_pos h93)
          exact hB106 H locs ls (fMo_hold (fMo_hold z (m_loc z ((nI (v2)).toNatClampNeg))) (m_foll (fMo_hold z (m_loc z ((nI (v2)).toNatClampNeg))) ((nI (v2)).toNatClampNeg))) v2 hR (mt_b hA.1 h61 h2) (by first | assumption | omega) (mA_hold (mA_hold hA)) hP hS (lv_sub hl [0, 1, 2] rfl)
        · have hR := hR.trans (if_neg h93)
          refine lv_aload_n hx hb dMo_assemble_96 rfl (lv_at hl 0 rfl) ?_
          refine lv_aload_n hx hb dMo_assemble_97 rfl (lv_at hl 0 rfl) ?_
          refine mg0_data hx hb hts i0 hown hK hP w7 dMo_assemble_98 ?_
          refine lv_iload_n hx hb dMo_assemble_101 rfl (lv_at hl 2 rfl) ?_
          refine ml_dat hx hb hK hP (mt_in hA.1 h61 h2) dMo_assemble_102 ?_
          refine cl_wr (W.runV (As := [.int ((m_dat (fMo_hold (fMo_hold z (m_loc z ((nI (v2)).toNatClampNeg))) (m_foll (fMo_hold z (m_loc z ((nI (v2)).toNatClampNeg))) ((nI (v2)).toNatClampNeg))) ((nI (v2)).toNatClampNeg)))]) (rest := []) ⟨hx, hb, hml, hown, hts⟩ (kMo_hold l D q cI cJ cZ hq (fMo_hold (fMo_hold z (m_loc z ((nI (v2)).toNatClampNeg))) (m_foll (fMo_hold z (m_loc z ((nI (v2)).toNatClampNeg))) ((nI (v2)).toNatClampNeg))) (m_dat (fMo_hold (fMo_hold z (m_loc z ((nI (v2)).toNatClampNeg))) (m_foll (fMo_hold z (m_loc z ((nI (v2)).toNatClampNeg))) ((nI (v2)).toNatClampNeg))) ((nI (v2)).toNatClampNeg))) (cwV 1 hts (gV wm5_170 wm5_172 ws3_14 wm1_9 wm5_173) rfl rfl rfl (by decide +kernel) ⟨Nat.le_of_ble_eq_true rfl, Nat.le_of_ble_eq_true rfl⟩) (m_preV0 hK hP) rfl rfl hl.1 rfl (lv_room (Nat.le_of_ble_eq_true rfl)) dMo_assemble_103 ⟨Nat.le_refl _, Nat.le_refl _⟩) hS (fun _ h => h) (fun _ h => h) (fun H locs hP hS => ?_)
          exact hB106 H locs ls (fMo_hold (fMo_hold (fMo_hold z (m_loc z ((nI (v2)).toNatClampNeg))) (m_foll (fMo_hold z (m_loc z ((nI (v2)).toNatClampNeg))) ((nI (v2)).toNatClampNeg))) (m_dat (fMo_hold (fMo_hold z (m_loc z ((nI (v2)).toNatClampNeg))) (m_foll (fMo_hold z (m_loc z ((nI (v2)).toNatClampNeg))) ((nI (v2)).toNatClampNeg))) ((nI (v2)).toNatClampNeg))) v2 hR (mt_b hA.1 h61 h2) (by first | assumption | omega) (mA_hold (mA_hold (mA_hold hA))) hP hS (lv_sub hl [0, 1, 2] rfl)
  have hB29 : ∀ (n29 : Nat) (H : Heap) (locs : List Loc) (ls : Array Slot) (z : SM) (v2 : Nat), 200 - v2 < n29 → fMo_assemble z0 b = fMo_assemble_29 n29 z b v2 → (v2 ≤ 200) → (m_A z) → m_W D q cI cJ cZ z H → va_S (m_qs q) s.heap H locs → lv_has ls 4 [(0, .ref (q 0)), (1, .int (bb (b))), (2, .int (nI (v2)))] → W p l e (headSpec wsMo_assemble { frames := 3, cells := 0, slots := 0, locals := 81 }).room s m ([.ref (q 0), .int (bb (b))] : List Value).toArray below meth c H locs 0 0 (MQ below (cQw (some (.int ((fMo_assemble z0 b).1))) (m_W D q cI cJ cZ (fMo_assemble z0 b).2) (m_qs q)) ([.ref (q 0), .int (bb (b))] : List Value).toArray s 0 0 (m_qs q)) (F0 m 29 ls []) := by
    intro n29
    induction n29 with
    | zero => intro H locs ls z v2 hn29; exact absurd hn29 (Nat.not_lt_zero _)
    | succ n29 ih29 =>
      intro H locs ls z v2 hn29 hR h2 hA hP hS hl
      rw [fMo_assemble_29.eq_2] at hR
      refine lv_iload_n hx hb dMo_assemble_29 rfl (lv_at hl 2 rfl) ?_
      refine lv_sipush (v := 200) hx hb dMo_assemble_30 (by decide) ?_
      refine wn_ge (x := v2) (y := 200) hx hb (by omega) (by omega) dMo_assemble_33 rfl (fun h33 => ?_) (fun h33 => ?_)
      · have hR := hR.trans (if_pos h33)
        refine lv_iconst (v := 0) hx hb dMo_assemble_54 (by decide) ?_
        refine lv_istore_n (lv' := [(2, .int (nI (0))), (0, .ref (q 0)), (1, .int (bb (b)))]) hx hb dMo_assemble_55 rfl hl (by decide) rfl (fun ls hl => ?_)
        exact hB56 41 H locs ls z 0 (by omega) hR (by first | assumption | omega) hA hP hS (lv_sub hl [1, 2, 0] rfl)
      · have hR := hR.trans (if_neg h33)
        refine lv_aload_n hx hb dMo_assemble_36 rfl (lv_at hl 0 rfl) ?_
        refine mg0_held hx hb hts i0 hown hK hP w8 dMo_assemble_37 ?_
        refine lv_iload_n hx hb dMo_assemble_40 rfl (lv_at hl 2 rfl) ?_
        refine lv_aload_n hx hb dMo_assemble_41 rfl (lv_at hl 0 rfl) ?_
        refine mg0_reserved hx hb hts i0 hown hK hP w9 dMo_assemble_42 ?_
        refine lv_iload_n hx hb dMo_assemble_45 rfl (lv_at hl 2 rfl) ?_
        refine ml_resv hx hb hK hP (vp_in_nI (by omega) (by decide)) dMo_assemble_46 ?_
        refine ms_held (m_resv z ((nI (v2)).toNatClampNeg)) hq hS hx hb hK hP (vp_in_nI (by omega) (by decide)) dMo_assemble_47 (fun H locs hP hS => ?_)
        refine lv_iinc (k := 2) (lv' := [(2, .int (nI (v2 + 1))), (0, .ref (q 0)), (1, .int (bb (b)))]) hx hb dMo_assemble_48 hl rfl (nI_1 _) (by decide) rfl (fun ls hl => ?_)
        refine lv_goto hx hb dMo_assemble_51 rfl ?_
        exact ih29 H locs ls (m_held_s z (updB (m_held z) ((nI (v2)).toNatClampNeg) (m_resv z ((nI (v2)).toNatClampNeg)))) (v2 + 1) (by omega) hR (by first | assumption | omega) (mA_h _ hA) hP hS (lv_sub hl [1, 2, 0] rfl)
  have hR := fMo_assemble.eq_1 z0 b
  refine lv_aload_n hx hb dMo_assemble_0 rfl (lv_at hl 0 rfl) ?_
  refine lv_iconst (v := 0) hx hb dMo_assemble_1 (by decide) ?_
  refine mp0_code 0 hq hS hx hb hts i0 hown hK hP w10 dMo_assemble_2 (fun H locs hP hS => ?_)
  refine lv_aload_n hx hb dMo_assemble_5 rfl (lv_at hl 0 rfl) ?_
  refine mg0_lines_e (v := m_lines z0) ((m_lines_code _ _).trans (rfl)) hx hb hts i0 hown hK hP w0 dMo_assemble_6 ?_
  refine lv_if_ne hx hb dMo_assemble_9 rfl (fun h9 => ?_) (fun h9 => ?_)
  · have hR := hR.trans (if_neg h9)
    refine lv_aload_n hx hb dMo_assemble_18 rfl (lv_at hl 0 rfl) ?_
    refine cl_wr (W.runV (As := []) (rest := []) ⟨hx, hb, hml, hown, hts⟩ (kMo_forgetPlaces l D q cI cJ cZ hq (m_code_s z0 0)) (cwV 0 hts (gV wm4_184 wm4_186 ws2_14 wm1_9 wm4_187) rfl rfl rfl (by decide +kernel) ⟨Nat.le_of_ble_eq_true rfl, Nat.le_of_ble_eq_true rfl⟩) (m_preV0 hK hP) rfl rfl hl.1 rfl (lv_room (Nat.le_of_ble_eq_true rfl)) dMo_assemble_19 ⟨Nat.le_refl _, Nat.le_refl _⟩) hS (fun _ h => h) (fun _ h => h) (fun H locs hP hS => ?_)
    refine lv_aload_n hx hb dMo_assemble_22 rfl (lv_at hl 0 rfl) ?_
    refine lv_iconst (v := 0) hx hb dMo_assemble_23 (by decide) ?_
    refine mp0_full false hq hS hx hb hts i0 hown hK hP w3 dMo_assemble_24 (fun H locs hP hS => ?_)
    refine lv_iconst (v := 0) hx hb dMo_assemble_27 (by decide) ?_
    refine lv_istore_n (lv' := [(2, .int (nI (0))), (0, .ref (q 0)), (1, .int (bb (b)))]) hx hb dMo_assemble_28 rfl hl (by decide) rfl (fun ls hl => ?_)
    exact hB29 201 H locs ls (m_full_s (fMo_forgetPlaces (m_code_s z0 0)) false) 0 (by omega) hR (by first | assumption | omega) (mA_f _ (mA_fp (mA_c _ hA))) hP hS (lv_sub hl [1, 2, 0] rfl)
  · have hR := hR.trans (if_pos h9)
    refine lv_aload_n hx hb dMo_assemble_12 rfl (lv_at hl 0 rfl) ?_
    refine lv_iconst (v := 1) hx hb dMo_assemble_13 (by decide) ?_
    refine cl_wr (W.runV (As := [.int (1)]) (rest := []) ⟨hx, hb, hml, hown, hts⟩ (kMo_fail l D q cI cJ cZ hq (m_code_s z0 0) 1) (cwV 1 hts (gV wm5_154 wm5_156 ws3_13 wm1_9 wm5_157) rfl rfl rfl (by decide +kernel) ⟨Nat.le_of_ble_eq_true rfl, Nat.le_of_ble_eq_true rfl⟩) (m_preV0 hK hP) rfl rfl hl.1 rfl (lv_room (Nat.le_of_ble_eq_true rfl)) dMo_assemble_14 ⟨Nat.le_refl _, Nat.le_refl _⟩) hS (fun _ h => h) (fun _ h => h) (fun H locs hP hS => ?_)
    exact W.iret hx hb hr (fun t ht _ => ⟨by rw [hR]; first | done | rfl, by rw [hR, ht]; exact hP, hS.F ht⟩) hS.2.2 dMo_assemble_17
