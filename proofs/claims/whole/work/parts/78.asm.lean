/-! one line placed -/
def LR (k : Nat) (z : SC) (m : SM) : Prop := qR z m ∧ eS z m ∧ c_A z ∧ m_A m ∧ (∀ i, i < k → c_locs z i = m_ats m i ∧ nn (c_locs z i) ∧ nn (c_dat z i) ∧ nn (c_nexts z i) ∧ fDg_instruction (c_ops z i) (c_dat z i) (c_nexts z i) = m_writ m i) ∧ ((k : Int) < (m_lines m).toInt → m_ats m k = gv z k)
theorem h241 (m : SM) (s k o d : Int32) (c : Bool) : m_held (fMo_settle_241 m s k o d c) = m_held m ∧ m_plc (fMo_settle_241 m s k o d c) = m_plc m ∧ m_full (fMo_settle_241 m s k o d c) = m_full m ∧ m_writ (fMo_settle_241 m s k o d c) = vp_updL (m_writ m) k.toNatClampNeg (((100000000 * o.toInt64) + (10000 * d.toInt64)) + s.toInt64) := by
  rw [fMo_settle_241.eq_1]
  split
  · exact ⟨rfl, rfl, rfl, rfl⟩
  · split
    · exact ⟨rfl, rfl, rfl, rfl⟩
    · exact ⟨rfl, rfl, rfl, rfl⟩
theorem a241 (m : SM) (s k o d : Int32) (c : Bool) : m_ats (fMo_settle_241 m s k o d c) = if m_lines m ≤ k + 1 then m_ats m else upd (m_ats m) (k + 1).toNatClampNeg (if c = true then s else -1) := by
  rw [fMo_settle_241.eq_1]
  by_cases h1 : m_lines m ≤ k + 1
  · rw [if_pos h1, if_pos h1]
    rfl
  · rw [if_neg h1, if_neg h1]
    by_cases h2 : c = true
    · rw [if_pos h2, if_pos h2]
      rfl
    · rw [if_neg h2, if_neg h2]
      rfl
theorem ins_eq (o d x : Int32) : fDg_instruction o d x = ((100000000 * o.toInt64) + (10000 * d.toInt64)) + x.toInt64 := by
  rw [fDg_instruction.eq_1, Int64.mul_comm o.toInt64, Int64.mul_comm d.toInt64]
theorem upd_at (f : Nat → Int32) (k : Nat) (x : Int32) : upd f k x k = x := if_pos rfl
theorem upd_ne (f : Nat → Int32) {k i : Nat} (x : Int32) (h : ¬ i = k) : upd f k x i = f i := if_neg h
theorem ron_iff {z : SC} {m : SM} (hs : eS z m) {k : Nat} (hk : k < 40) (hl : (k : Int) + 1 < (m_lines m).toInt) : (if ron m (nI k) = true then c_nexts z k else (-1 : Int32)) = gv z (k + 1) := by
  have ek : (nI k).toNatClampNeg = k := nI_clamp (by omega)
  have e1 : (nI k + 1) = nI (k + 1) := nI_1 k
  have ek1 : (nI (k + 1)).toNatClampNeg = k + 1 := nI_clamp (by omega)
  have hnl : ¬ m_lines m ≤ nI (k + 1) := by
    rw [Int32.le_iff_toInt_le, nI_toInt (by omega)]
    omega
  unfold ron gv
  rw [ek, e1, if_neg hnl, ek1, ← hs.1, ← hs.2.2.2.1, Nat.add_sub_cancel]
  by_cases h1 : c_nparts z k = -1
  · rw [if_pos h1]
    by_cases h2 : c_lparts z (k + 1) = -1
    · rw [if_pos h2, if_pos rfl, if_pos ⟨h2, by omega, h1⟩]
    · rw [if_neg h2, if_neg (show ¬ false = true by decide), if_neg (fun e => h2 e.1)]
  · rw [if_neg h1, if_neg (show ¬ false = true by decide), if_neg (fun e => h1 e.2.2)]
theorem ron_mv {m m' : SM} (h : kM m m') (k : Int32) : ron m' k = ron m k := by
  obtain ⟨_, _, _, _, _, _, m1, m2, m3, m4, m5, _⟩ := h
  unfold ron
  rw [m1, m4, m5]
theorem nn_ne {x : Int32} (h : nn x) : ¬ x = -1 := fun e => by
  rw [e] at h
  exact absurd h.1 (by decide)
theorem line_S {k : Nat} {z : SC} {m : SM} (h : LR k z m) (hkl : (k : Int) < (m_lines m).toInt) (b : Bool) : ((fAs_placeLine z (nI k) b).1 = true ∧ LR (k + 1) (fAs_placeLine z (nI k) b).2 (fMo_settle m (nI k) (m_ats m k) b)) ∨ ((fAs_placeLine z (nI k) b).1 = false ∧ m_full (fMo_settle m (nI k) (m_ats m k) b) = true) := by
  obtain ⟨hq, hs, hA, hmA, hp, hg⟩ := h
  have hk : k < 40 := by have := hmA.1.2; omega
  have hK : vp_in (nI k) 40 := vp_in_nI hk (by decide)
  have ek : (nI k).toNatClampNeg = k := nI_clamp (by omega)
  have hkC := kC_line z (nI k) b
  have hkM := (kF_se m (nI k) (m_ats m k) b).1
  have hAX := pa_s (b := b) hK hA
  have hSet := sSet (b := b) hK (hmA.2.2.2.2.1 k hk) hmA
  -- the location
  have kl := kC_loc z (nI k) b
  have tl := kT_loc m (nI k) (m_ats m k) b
  obtain ⟨l1, l2, l3⟩ := pLoc (b := b) hK hA
  have A1 := pl_A1 (b := b) hK hA
  have R1 := loc_R hq hs hA hk b (hg hkl) (fun h0 => (hp (k - 1) (by omega)).2.2.2.1)
  have hX := fAs_placeLine.eq_1 z (nI k) b
  have hY := se_eq m (nI k) (m_ats m k) b
  rw [ek] at A1 hX hY
  generalize fAs_placeLocation z (nI k) b = L at kl l1 l2 l3 A1 R1 hX
  generalize locM m (nI k) (m_ats m k) b = M1 at tl R1 hY
  rw [fAs_placeLine_12.eq_1, ek] at hX
  have eL : c_locs (c_locs_s L.2 (upd (c_locs L.2) k L.1)) k = L.1 := upd_at _ _ _
  rw [eL] at hX
  rcases R1 with ⟨r1, r2, r3, r4, r5⟩ | ⟨r1, r2⟩
  rotate_left
  · rw [if_pos r1] at hX
    rw [hX, hY]
    exact .inr ⟨rfl, (kF_54 _ _ _ _).2 r2⟩
  rw [if_neg (nn_ne r2)] at hX
  have q1 : qR (c_locs_s L.2 (upd (c_locs L.2) k L.1)) (m_ats_s M1.2 (upd (m_ats M1.2) k M1.1)) := ⟨r3, r4, r5⟩
  have k1 := kC_tr kl (kC_l L.2 (upd (c_locs L.2) k L.1))
  have t1 := kM_tr tl.1.1 (kM_a M1.2 (upd (m_ats M1.2) k M1.1))
  have s1 := eS_mv hs k1 t1
  have a1 : m_ats (m_ats_s M1.2 (upd (m_ats M1.2) k M1.1)) = upd (m_ats m) k L.1 := by
    show upd (m_ats M1.2) k M1.1 = _
    rw [tl.2.1, r1]
  have w1 : m_writ (m_ats_s M1.2 (upd (m_ats M1.2) k M1.1)) = m_writ m := tl.2.2
  have c1 : c_locs (c_locs_s L.2 (upd (c_locs L.2) k L.1)) = upd (c_locs z) k L.1 := by
    show upd (c_locs L.2) k L.1 = _
    rw [l2.2.2.2.2.1]
  have c1d : c_dat (c_locs_s L.2 (upd (c_locs L.2) k L.1)) = c_dat z := l2.2.2.2.2.2.1
  have c1n : c_nexts (c_locs_s L.2 (upd (c_locs L.2) k L.1)) = c_nexts z := l2.2.2.2.2.2.2.1
  have o1 : m_ops (m_ats_s M1.2 (upd (m_ats M1.2) k M1.1)) = m_ops m := t1.2.2.2.2.2.2.2.1
  generalize c_locs_s L.2 (upd (c_locs L.2) k L.1) = z1 at A1 hX eL q1 k1 s1 c1 c1d c1n
  generalize m_ats_s M1.2 (upd (m_ats M1.2) k M1.1) = m1 at hY q1 t1 s1 a1 w1 o1
  have e1 : c_locs z1 k = m_ats m1 k := by rw [c1, a1, upd_at, upd_at]
  have n1 : nn (c_locs z1 k) := by rw [c1, upd_at]; exact r2
  -- the data
  have kd := kC_dat z1 (nI k) b
  have td := kT_dat m1 (nI k) b (m_ops m k)
  obtain ⟨d1, d2, d3⟩ := pDat (b := b) hK A1 (by rw [ek]; exact n1.1)
  have A2 := pl_A2 (b := b) hK A1 (by rw [ek]; exact n1.1)
  have R2 := dat_R q1 s1 A1 hk b e1 n1
  rw [o1] at R2
  rw [s54_eq] at hY
  rw [ek] at A2
  generalize fAs_placeData z1 (nI k) b = D at kd d1 d2 d3 A2 R2 hX
  generalize datM m1 (nI k) b (m_ops m k) = M2 at td R2 hY
  rw [fAs_placeLine_36.eq_1, ek] at hX
  have eD : c_dat (c_dat_s D.2 (upd (c_dat D.2) k D.1)) k = D.1 := upd_at _ _ _
  rw [eD] at hX
  rcases R2 with ⟨u1, u2, u3, u4, u5⟩ | ⟨u1, u2⟩
  rotate_left
  · rw [if_pos u1] at hX
    rw [hX, hY]
    exact .inr ⟨rfl, (kF_105 _ _ _ _ _).2 u2⟩
  rw [if_neg (nn_ne u2)] at hX
  have q2 : qR (c_dat_s D.2 (upd (c_dat D.2) k D.1)) M2.2 := ⟨u3, u4, u5⟩
  have k2 := kC_tr kd (kC_d D.2 (upd (c_dat D.2) k D.1))
  have s2 := eS_mv s1 k2 td.1.1
  have c2 : c_locs (c_dat_s D.2 (upd (c_dat D.2) k D.1)) = upd (c_locs z) k L.1 := d2.2.2.2.2.1.trans c1
  have c2d : c_dat (c_dat_s D.2 (upd (c_dat D.2) k D.1)) = upd (c_dat z) k D.1 := by
    show upd (c_dat D.2) k D.1 = _
    rw [d2.2.2.2.2.2.1, c1d]
  have c2n : c_nexts (c_dat_s D.2 (upd (c_dat D.2) k D.1)) = c_nexts z := d2.2.2.2.2.2.2.1.trans c1n
  have a2 : m_ats M2.2 = upd (m_ats m) k L.1 := td.2.1.trans a1
  have w2 : m_writ M2.2 = m_writ m := td.2.2.trans w1
  have o2 : m_ops M2.2 = m_ops m := td.1.1.2.2.2.2.2.2.2.1.trans o1
  have t2 := kM_tr t1 td.1.1
  generalize c_dat_s D.2 (upd (c_dat D.2) k D.1) = z2 at A2 hX eD q2 k2 s2 c2 c2d c2n
  have e2 : c_locs z2 k = m_ats M2.2 k := by rw [c2, a2, upd_at, upd_at]
  have n2 : nn (c_locs z2 k) := by rw [c2, upd_at]; exact r2
  have nd2 : nn (c_dat z2 k) := by rw [eD]; exact u2
  -- the next
  have B := bn_e s2 hk e2 n2 nd2
  rw [s105_eq, s160_eq, ek] at hY
  have eM : M2.1 = c_dat z2 k := by rw [eD]; exact u1.symm
  rw [eM, ← o2] at hY
  obtain ⟨b1, b2, b3⟩ := B
  have R3 := nx_R q2 s2 A2 hk b b1 ⟨b2, b3⟩
  generalize ((if (fMo_reads (m_ops M2.2 k) || fMo_writes (m_ops M2.2 k)) = true then c_dat z2 k else m_ats M2.2 k).toInt64 + 1) + ((fMo_fixed (m_ops M2.2 k) (c_dat z2 k)).toInt64) = v at R3 hY
  have tn := kT_nx M2.2 (nI k) b v
  obtain ⟨g1, g2, g3⟩ := pNx (b := b) hK A2 (by rw [ek]; exact n2.1) (by rw [ek]; exact nd2.1)
  generalize fAs_placeNext z2 (nI k) b = N at g1 g2 g3 R3 hX
  generalize nxM M2.2 (nI k) b v = M3 at tn R3 hY
  have eN : upd (c_nexts N.2) k N.1 k = N.1 := upd_at _ _ _
  rw [eN] at hX
  rcases R3 with ⟨v1, v2, v3, v4, v5⟩ | ⟨v1, v2⟩
  rotate_left
  · rw [if_pos v1] at hX
    rw [hX, hY]
    exact .inr ⟨rfl, (kF_241 _ _ _ _ _ _).2 v2⟩
  rw [if_neg (nn_ne v2)] at hX
  have c3 : c_locs (c_nexts_s N.2 (upd (c_nexts N.2) k N.1)) = upd (c_locs z) k L.1 := g2.2.2.2.2.1.trans c2
  have c3d : c_dat (c_nexts_s N.2 (upd (c_nexts N.2) k N.1)) = upd (c_dat z) k D.1 := g2.2.2.2.2.2.1.trans c2d
  have c3n : c_nexts (c_nexts_s N.2 (upd (c_nexts N.2) k N.1)) = upd (c_nexts z) k N.1 := by
    show upd (c_nexts N.2) k N.1 = _
    rw [g2.2.2.2.2.2.2.1, c2n]
  have c3t : c_taken (c_nexts_s N.2 (upd (c_nexts N.2) k N.1)) = c_taken N.2 := rfl
  have c3y : c_syms (c_nexts_s N.2 (upd (c_nexts N.2) k N.1)) = c_syms N.2 := rfl
  have a3 : m_ats M3.2 = upd (m_ats m) k L.1 := tn.2.1.trans a2
  have w3 : m_writ M3.2 = m_writ m := tn.2.2.trans w2
  have t3 := kM_tr t2 tn.1.1
  obtain ⟨p1, p2, p3, p4⟩ := h241 M3.2 M3.1 (nI k) (m_ops M2.2 k) (c_dat z2 k) (ron M2.2 (nI k))
  have p5 := a241 M3.2 M3.1 (nI k) (m_ops M2.2 k) (c_dat z2 k) (ron M2.2 (nI k))
  rw [hX] at hkC hAX ⊢
  rw [hY] at hkM hSet ⊢
  dsimp only at hkC hAX ⊢
  generalize c_nexts_s N.2 (upd (c_nexts N.2) k N.1) = z3 at hkC hAX c3 c3d c3n c3t c3y ⊢
  generalize fMo_settle_241 M3.2 M3.1 (nI k) (m_ops M2.2 k) (c_dat z2 k) (ron M2.2 (nI k)) = Y at hkM hSet p1 p2 p3 p4 p5 ⊢
  have hs3 := eS_mv hs hkC hkM
  refine .inl ⟨rfl, ⟨by rw [c3t, p1]; exact v3, by rw [c3y, p2]; exact v4, by rw [p3]; exact v5⟩, hs3, hAX, hSet.1, fun i hi => ?_, fun hl => ?_⟩
  · rw [ek] at p4
    by_cases hik : i = k
    · subst hik
      have hati : m_ats Y i = L.1 := by
        rw [p5]
        split
        · rw [a3, upd_at]
        · rw [upd_ne _ _ (k1_ne hK (by rw [ek]; omega)), a3, upd_at]
      have hops : c_ops z3 i = m_ops M2.2 i := by rw [hs3.2.1, hkM.2.2.2.2.2.2.2.1, o2]
      rw [c3, c3d, c3n, hati, upd_at, upd_at, upd_at]
      refine ⟨rfl, r2, u2, v2, ?_⟩
      rw [p4, hops, ins_eq, eD, ← v1]
      exact (if_pos rfl).symm
    · have hi' : i < k := by omega
      obtain ⟨x1, x2, x3, x4, x5⟩ := hp i hi'
      have hati : m_ats Y i = m_ats m i := hSet.2.1 i (by rw [ek]; exact hi')
      have hops : c_ops z3 i = c_ops z i := by rw [hkC.2.2.2.2.2.2.2.1]
      have hw : m_writ Y i = m_writ m i := by
        rw [p4, w3]
        exact if_neg hik
      rw [c3, c3d, c3n, hati, hw, hops, upd_ne _ _ hik, upd_ne _ _ hik, upd_ne _ _ hik]
      exact ⟨x1, x2, x3, x4, x5⟩
  · have hlm : m_lines Y = m_lines m := hkM.2.2.2.2.2.2.2.2.2.2.1
    have hl3 : m_lines M3.2 = m_lines m := t3.2.2.2.2.2.2.2.2.2.2.1
    have hl' : (k : Int) + 1 < (m_lines m).toInt := by
      rw [hlm] at hl
      omega
    have hnl : ¬ m_lines M3.2 ≤ nI k + 1 := by
      rw [hl3, nI_1, Int32.le_iff_toInt_le, nI_toInt (by omega)]
      omega
    have ek1 : (nI k + 1).toNatClampNeg = k + 1 := nI_s1 (by omega)
    have hr := ron_iff hs3 hk (by rw [hlm]; exact hl')
    rw [p5, if_neg hnl, ek1, upd_at, ← hr, c3n, upd_at, ron_mv hkM, ron_mv t2, v1]
