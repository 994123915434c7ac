theorem np16_pl {z : SC} {s0 : Int32} (h : pl s0) : pl (fAs_newPlace_16 z s0).1 := by
  unfold fAs_newPlace_16
  split <;> exact h
theorem np_pl {z : SC} {a : Int32} (b : Bool) (ha : 0 ≤ a.toInt ∧ a.toInt ≤ 10000) : pl (fAs_newPlace z a b).1 := by
  unfold fAs_newPlace
  split
  · exact np16_pl (ff_pl ha)
  · exact np16_pl lf_pl
/-- nothing of the lines and places is changed -/
def sA (z z' : SC) : Prop := c_acount z' = c_acount z ∧ c_lparts z' = c_lparts z ∧ c_nparts z' = c_nparts z ∧ c_dparts z' = c_dparts z ∧ c_locs z' = c_locs z ∧ c_dat z' = c_dat z ∧ c_nexts z' = c_nexts z ∧ c_ops z' = c_ops z
theorem sA_rf (z : SC) : sA z z := ⟨rfl, rfl, rfl, rfl, rfl, rfl, rfl, rfl⟩
theorem np16_s (z : SC) (s0 : Int32) : sA z (fAs_newPlace_16 z s0).2 ∧ c_syms (fAs_newPlace_16 z s0).2 = c_syms z := by
  unfold fAs_newPlace_16
  split
  · exact ⟨sA_rf z, rfl⟩
  · exact ⟨⟨rfl, rfl, rfl, rfl, rfl, rfl, rfl, rfl⟩, rfl⟩
theorem np_s (z : SC) (a : Int32) (b : Bool) : sA z (fAs_newPlace z a b).2 ∧ c_syms (fAs_newPlace z a b).2 = c_syms z := by
  unfold fAs_newPlace
  split
  · exact np16_s _ _
  · exact np16_s _ _
theorem c_A_of {z z' : SC} (hA : c_A z) (h : sA z z') (hs : ∀ i, i < 20 → pl (c_syms z' i)) : c_A z' := by
  obtain ⟨h1, h2, h3, h4, h5, h6, h7, h8⟩ := h
  unfold c_A
  rw [h1, h2, h3, h4, h5, h6, h7, h8]
  exact ⟨hA.1, hA.2.1, hA.2.2.1, hA.2.2.2.1, hA.2.2.2.2.1, hA.2.2.2.2.2.1, hA.2.2.2.2.2.2.1, hs⟩
theorem upd_all {P : Int32 → Prop} {f : Nat → Int32} {n k : Nat} {x : Int32} (h : ∀ i, i < n → P (f i)) (hx : P x) : ∀ i, i < n → P (upd f k x i) := by
  intro i hi
  unfold upd
  split
  · exact hx
  · exact h i hi
theorem pP16 {z : SC} {x : Int32} {b : Bool} {v4 : Int32} (hA : c_A z) (hx : 0 ≤ x.toInt ∧ x.toInt ≤ 10000) (hv : vp_in v4 20) : pl (fAs_placePart_16 z x b v4).1 ∧ sA z (fAs_placePart_16 z x b v4).2 ∧ ∀ i, i < 20 → pl (c_syms (fAs_placePart_16 z x b v4).2 i) := by
  have hn := np_s z x b
  have hp := np_pl (z := z) b hx
  unfold fAs_placePart_16
  generalize fAs_newPlace z x b = y at hn hp
  have hs0 := hA.2.2.2.2.2.2.2
  by_cases h : c_syms z v4.toNatClampNeg = (-1 : Int32)
  · rw [if_pos h]
    have hs : ∀ i, i < 20 → pl (upd (c_syms y.2) v4.toNatClampNeg y.1 i) := upd_all (by rw [hn.2]; exact hs0) hp
    exact ⟨hs _ (ix_lt hv), hn.1, hs⟩
  · rw [if_neg h]
    exact ⟨hs0 _ (ix_lt hv), sA_rf z, hs0⟩
theorem pP {z : SC} {a x : Int32} {b : Bool} (hA : c_A z) (ha : pp a) (hx : 0 ≤ x.toInt ∧ x.toInt ≤ 10000) : pl (fAs_placePart z a x b).1 ∧ sA z (fAs_placePart z a x b).2 ∧ ∀ i, i < 20 → pl (c_syms (fAs_placePart z a x b).2 i) := by
  unfold fAs_placePart
  by_cases h : fAs_isSymbol a = true
  · rw [if_pos h]; exact pP16 hA hx (sy_in h)
  · rw [if_neg h]; exact ⟨pp_ns ha h, sA_rf z, hA.2.2.2.2.2.2.2⟩
theorem b00 : 0 ≤ (0 : Int32).toInt ∧ (0 : Int32).toInt ≤ 10000 := by decide
theorem np3 {z : SC} {x : Int32} (b : Bool) (hA : c_A z) (hx : 0 ≤ x.toInt ∧ x.toInt ≤ 10000) : pl (fAs_newPlace z x b).1 ∧ sA z (fAs_newPlace z x b).2 ∧ ∀ i, i < 20 → pl (c_syms (fAs_newPlace z x b).2 i) := by
  have hn := np_s z x b
  exact ⟨np_pl b hx, hn.1, by rw [hn.2]; exact hA.2.2.2.2.2.2.2⟩
theorem pLoc {z : SC} {a : Int32} {b : Bool} (ha : vp_in a 40) (hA : c_A z) : pl (fAs_placeLocation z a b).1 ∧ sA z (fAs_placeLocation z a b).2 ∧ ∀ i, i < 20 → pl (c_syms (fAs_placeLocation z a b).2 i) := by
  unfold fAs_placeLocation
  split
  · by_cases h : a ≤ 0
    · rw [if_pos h]; exact np3 b hA b00
    · rw [if_neg h]
      split
      · exact ⟨hA.2.2.2.2.2.2.1 _ (ix_lt (pr_in ha h)), sA_rf z, hA.2.2.2.2.2.2.2⟩
      · exact np3 b hA b00
  · exact pP hA (hA.2.1 _ (ix_lt ha)) b00
theorem pDat {z : SC} {a : Int32} {b : Bool} (ha : vp_in a 40) (hA : c_A z) (hl : 0 ≤ (c_locs z a.toNatClampNeg).toInt) : pl (fAs_placeData z a b).1 ∧ sA z (fAs_placeData z a b).2 ∧ ∀ i, i < 20 → pl (c_syms (fAs_placeData z a b).2 i) := by
  have hd := hA.2.2.2.1 _ (ix_lt ha)
  unfold fAs_placeData
  split
  · exact ⟨pl_0, sA_rf z, hA.2.2.2.2.2.2.2⟩
  · by_cases h : fOp_shifts (c_ops z a.toNatClampNeg) = true
    · rw [if_pos h]; exact ⟨hd.2 h, sA_rf z, hA.2.2.2.2.2.2.2⟩
    · rw [if_neg h]; exact pP hA hd.1 (pd_b ha hA hl)
theorem pN53 {z : SC} {a : Int32} {b v : Bool} (hA : c_A z) (hb : 0 ≤ (fAs_bestForNext z a).toInt ∧ (fAs_bestForNext z a).toInt ≤ 10000) : pl (fAs_placeNext_53 z a b v).1 ∧ sA z (fAs_placeNext_53 z a b v).2 ∧ ∀ i, i < 20 → pl (c_syms (fAs_placeNext_53 z a b v).2 i) := by
  unfold fAs_placeNext_53
  split
  · exact np3 b hA hb
  · exact ⟨pl_0, sA_rf z, hA.2.2.2.2.2.2.2⟩
theorem pNx {z : SC} {a : Int32} {b : Bool} (ha : vp_in a 40) (hA : c_A z) (hl : 0 ≤ (c_locs z a.toNatClampNeg).toInt) (hd : 0 ≤ (c_dat z a.toNatClampNeg).toInt) : pl (fAs_placeNext z a b).1 ∧ sA z (fAs_placeNext z a b).2 ∧ ∀ i, i < 20 → pl (c_syms (fAs_placeNext z a b).2 i) := by
  have hb := bn_b ha hA hl hd
  unfold fAs_placeNext fAs_placeNext_50 fAs_placeNext_51
  split
  · split
    · exact pN53 hA hb
    · split
      · exact pN53 hA hb
      · exact pN53 hA hb
  · exact pP hA (hA.2.2.1 _ (ix_lt ha)) hb
/-- a line's location is set -/
theorem A_loc {z z' : SC} {k : Nat} {x : Int32} (hA : c_A z) (h : sA z z') (hs : ∀ i, i < 20 → pl (c_syms z' i)) (hx : pl x) : c_A (c_locs_s z' (upd (c_locs z') k x)) := by
  have h1 := c_A_of hA h hs
  exact ⟨h1.1, h1.2.1, h1.2.2.1, h1.2.2.2.1, upd_all h1.2.2.2.2.1 hx, h1.2.2.2.2.2.1, h1.2.2.2.2.2.2.1, h1.2.2.2.2.2.2.2⟩
theorem A_dat {z z' : SC} {k : Nat} {x : Int32} (hA : c_A z) (h : sA z z') (hs : ∀ i, i < 20 → pl (c_syms z' i)) (hx : pl x) : c_A (c_dat_s z' (upd (c_dat z') k x)) := by
  have h1 := c_A_of hA h hs
  exact ⟨h1.1, h1.2.1, h1.2.2.1, h1.2.2.2.1, h1.2.2.2.2.1, upd_all h1.2.2.2.2.2.1 hx, h1.2.2.2.2.2.2.1, h1.2.2.2.2.2.2.2⟩
theorem A_nxs {z z' : SC} {k : Nat} {x : Int32} (hA : c_A z) (h : sA z z') (hs : ∀ i, i < 20 → pl (c_syms z' i)) (hx : pl x) : c_A (c_nexts_s z' (upd (c_nexts z') k x)) := by
  have h1 := c_A_of hA h hs
  exact ⟨h1.1, h1.2.1, h1.2.2.1, h1.2.2.2.1, h1.2.2.2.2.1, h1.2.2.2.2.2.1, upd_all h1.2.2.2.2.2.2.1 hx, h1.2.2.2.2.2.2.2⟩
theorem pl_A1 {z : SC} {a : Int32} {b : Bool} (ha : vp_in a 40) (hA : c_A z) : c_A (c_locs_s (fAs_placeLocation z a b).2 (upd (c_locs (fAs_placeLocation z a b).2) a.toNatClampNeg (fAs_placeLocation z a b).1)) := by
  have h := pLoc (b := b) ha hA
  exact A_loc hA h.2.1 h.2.2 h.1
theorem pl_l {z : SC} {a : Int32} (ha : vp_in a 40) (hA : c_A z) (h : ¬ c_locs z a.toNatClampNeg = -1) : 0 ≤ (c_locs z a.toNatClampNeg).toInt := pl_nn (hA.2.2.2.2.1 _ (ix_lt ha)) h
theorem pl_A2 {z : SC} {a : Int32} {b : Bool} (ha : vp_in a 40) (hA : c_A z) (hl : 0 ≤ (c_locs z a.toNatClampNeg).toInt) : c_A (c_dat_s (fAs_placeData z a b).2 (upd (c_dat (fAs_placeData z a b).2) a.toNatClampNeg (fAs_placeData z a b).1)) := by
  have h := pDat (b := b) ha hA hl
  exact A_dat hA h.2.1 h.2.2 h.1
theorem pl_l2 {z : SC} {a : Int32} {b : Bool} (ha : vp_in a 40) (hA : c_A z) (hl : 0 ≤ (c_locs z a.toNatClampNeg).toInt) : 0 ≤ (c_locs (c_dat_s (fAs_placeData z a b).2 (upd (c_dat (fAs_placeData z a b).2) a.toNatClampNeg (fAs_placeData z a b).1)) a.toNatClampNeg).toInt := by
  have h := (pDat (b := b) ha hA hl).2.1.2.2.2.2.1
  show 0 ≤ (c_locs (fAs_placeData z a b).2 a.toNatClampNeg).toInt
  rw [h]
  exact hl
theorem pl_d {z : SC} {a : Int32} (ha : vp_in a 40) (hA : c_A z) (h : ¬ c_dat z a.toNatClampNeg = -1) : 0 ≤ (c_dat z a.toNatClampNeg).toInt := pl_nn (hA.2.2.2.2.2.1 _ (ix_lt ha)) h
