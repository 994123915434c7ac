theorem fill5_eq : ∀ (n : Nat) (z : SC) (v : Int32) (v2 : Nat), v2 ≤ 20 → 20 - v2 < n → fAr_fillC_5 n z v v2 20 = c_syms_s z (fun j => if v2 ≤ j ∧ j < 20 then v else c_syms z j) := by
  intro n
  induction n with
  | zero => intro z v v2 _ h; omega
  | succ n ih =>
    intro z v v2 h2 hn
    rw [fAr_fillC_5.eq_2]
    by_cases h : 20 ≤ v2
    · rw [if_pos h]
      have e : (fun j => if v2 ≤ j ∧ j < 20 then v else c_syms z j) = c_syms z := by
        funext j
        rw [if_neg (by omega)]
      rw [e]
      rfl
    · rw [if_neg h, ih _ _ _ (by omega) (by omega), nI_clamp (by omega)]
      have e : (fun j => if v2 + 1 ≤ j ∧ j < 20 then v else upd (c_syms z) v2 v j) = (fun j => if v2 ≤ j ∧ j < 20 then v else c_syms z j) := by
        funext j
        unfold upd
        by_cases h1 : j = v2
        · rw [if_neg (by omega), if_pos h1, if_pos (by omega)]
        · by_cases h3 : v2 + 1 ≤ j ∧ j < 20
          · rw [if_pos h3, if_pos (by omega)]
          · rw [if_neg h3, if_neg h1, if_neg (by omega)]
      exact congrArg (c_syms_s z) e
theorem fp_eq (z : SC) : fAs_forgetPlaces z = c_syms_s z (fun j => if j < 20 then -1 else c_syms z j) := by
  unfold fAs_forgetPlaces fAr_fillC
  rw [fill5_eq 21 z (-1) 0 (by omega) (by omega)]
  congr 1
  funext j
  by_cases h : j < 20
  · rw [if_pos ⟨Nat.zero_le _, h⟩, if_pos h]
  · rw [if_neg (fun q => h q.2), if_neg h]
theorem sA_tr {x y z : SC} (h1 : sA x y) (h2 : sA y z) : sA x z := ⟨h2.1.trans h1.1, h2.2.1.trans h1.2.1, h2.2.2.1.trans h1.2.2.1, h2.2.2.2.1.trans h1.2.2.2.1, h2.2.2.2.2.1.trans h1.2.2.2.2.1, h2.2.2.2.2.2.1.trans h1.2.2.2.2.2.1, h2.2.2.2.2.2.2.1.trans h1.2.2.2.2.2.2.1, h2.2.2.2.2.2.2.2.trans h1.2.2.2.2.2.2.2⟩
/-- only what is taken, or on the drum, changes -/
def sB (z z' : SC) : Prop := sA z z' ∧ c_syms z' = c_syms z
theorem sB_rf (z : SC) : sB z z := ⟨sA_rf z, rfl⟩
theorem sB_tr {x y z : SC} (h1 : sB x y) (h2 : sB y z) : sB x z := ⟨sA_tr h1.1 h2.1, h2.2.trans h1.2⟩
theorem sB_t (z : SC) (f : Nat → Bool) : sB z (c_taken_s z f) := ⟨⟨rfl, rfl, rfl, rfl, rfl, rfl, rfl, rfl⟩, rfl⟩
theorem ta_s (z : SC) (a : Int32) : sB z (fAs_takeIfAddress z a) := by
  unfold fAs_takeIfAddress
  split
  · exact sB_t _ _
  · exact sB_rf z
theorem mk29_s : ∀ (n : Nat) (z : SC) (v1 : Nat), sB z (fAs_markTaken_29 n z v1) := by
  intro n
  induction n with
  | zero => intro z v1; exact sB_rf z
  | succ n ih =>
    intro z v1
    rw [fAs_markTaken_29.eq_2]
    split
    · exact sB_rf z
    · split
      · exact sB_tr (sB_tr (ta_s _ _) (ta_s _ _)) (ih _ _)
      · exact sB_tr (sB_tr (sB_tr (ta_s _ _) (ta_s _ _)) (ta_s _ _)) (ih _ _)
theorem mk2_s : ∀ (n : Nat) (z : SC) (v1 : Nat), sB z (fAs_markTaken_2 n z v1) := by
  intro n
  induction n with
  | zero => intro z v1; exact sB_rf z
  | succ n ih =>
    intro z v1
    rw [fAs_markTaken_2.eq_2]
    split
    · exact mk29_s _ _ _
    · exact sB_tr (sB_t _ _) (ih _ _)
theorem mk_s (z : SC) : sB z (fAs_markTaken z) := mk2_s _ _ _
theorem A_sB {z z' : SC} (hA : c_A z) (h : sB z z') : c_A z' := c_A_of hA h.1 (by rw [h.2]; exact hA.2.2.2.2.2.2.2)
theorem A_fp {z : SC} (hA : c_A z) : c_A (fAs_forgetPlaces z) := by
  rw [fp_eq]
  exact ⟨hA.1, hA.2.1, hA.2.2.1, hA.2.2.2.1, hA.2.2.2.2.1, hA.2.2.2.2.2.1, hA.2.2.2.2.2.2.1, fun i hi => by
    show pl (if i < 20 then -1 else c_syms z i)
    rw [if_pos hi]
    exact pl_m1⟩
theorem pa_n {z : SC} (hA : c_A z) : 0 ≤ (c_acount (fAs_forgetPlaces z)).toInt ∧ (c_acount (fAs_forgetPlaces z)).toInt ≤ 40 := (A_fp hA).1
theorem pa_0 {z : SC} (hA : c_A z) : c_A (fAs_markTaken (fAs_forgetPlaces z)) := A_sB (A_fp hA) (mk_s _)
theorem A_36 {z : SC} {a : Int32} {b : Bool} (ha : vp_in a 40) (hA : c_A z) (hl : 0 ≤ (c_locs z a.toNatClampNeg).toInt) : c_A (fAs_placeLine_36 z a b).2 := by
  unfold fAs_placeLine_36
  by_cases h : c_dat z a.toNatClampNeg = (-1 : Int32)
  · rw [if_pos h]; exact hA
  · rw [if_neg h]
    have h1 := pNx (b := b) ha hA hl (pl_d ha hA h)
    have h2 := A_nxs (k := a.toNatClampNeg) hA h1.2.1 h1.2.2 h1.1
    split
    · exact h2
    · exact h2
theorem A_12 {z : SC} {a : Int32} {b : Bool} (ha : vp_in a 40) (hA : c_A z) : c_A (fAs_placeLine_12 z a b).2 := by
  unfold fAs_placeLine_12
  by_cases h : c_locs z a.toNatClampNeg = (-1 : Int32)
  · rw [if_pos h]; exact hA
  · rw [if_neg h]
    exact A_36 ha (pl_A2 ha hA (pl_l ha hA h)) (pl_l2 ha hA (pl_l ha hA h))
theorem pa_s {z : SC} {a : Int32} {b : Bool} (ha : vp_in a 40) (hA : c_A z) : c_A (fAs_placeLine z a b).2 := A_12 ha (pl_A1 ha hA)
theorem store6_s : ∀ (n : Nat) (z : SC) (a : Int32) (v : Int64) (b : Bool) (v5 : Int64) (v7 : Nat), sB z (fDr_store_6 n z a v b v5 v7) := by
  intro n
  induction n with
  | zero => intro z a v b v5 v7; exact sB_rf z
  | succ n ih =>
    intro z a v b v5 v7
    rw [fDr_store_6.eq_2]
    split
    · exact ⟨⟨rfl, rfl, rfl, rfl, rfl, rfl, rfl, rfl⟩, rfl⟩
    · exact sB_tr (y := c_codes_s z _) ⟨⟨rfl, rfl, rfl, rfl, rfl, rfl, rfl, rfl⟩, rfl⟩ (ih _ _ _ _ _ _)
theorem store_s (z : SC) (a : Int32) (v : Int64) (b : Bool) : sB z (fDr_store z a v b) := store6_s _ _ _ _ _ _ _
theorem wt_A {z : SC} (a : Int32) (v : Int64) {b : Bool} (hA : c_A z) : c_A (fDr_store z a v b) := A_sB hA (store_s _ _ _ _)
theorem wt_w {z : SC} (a : Int32) (v : Int64) {b : Bool} (hw : ∀ i, i < 40 → (nI i) < c_acount z → 0 ≤ (c_locs z i).toInt) : ∀ i, i < 40 → (nI i) < c_acount (fDr_store z a v b) → 0 ≤ (c_locs (fDr_store z a v b) i).toInt := by
  have h := (store_s z a v b).1
  rw [h.1, h.2.2.2.2.1]
  exact hw
theorem wt_in {z : SC} {k : Nat} (hA : c_A z) (hw : ∀ i, i < 40 → (nI i) < c_acount z → 0 ≤ (c_locs z i).toInt) (h : ¬ c_acount z ≤ nI k) (hk : k ≤ 40) : vp_in (c_locs z (nI k).toNatClampNeg) 200 := by
  have h1 := lk_lt h
  have h2 := mt_b hA.1 h hk
  rw [nI_clamp (by omega)]
  have h3 := hw k (by omega) (by rw [Int32.lt_iff_toInt_lt]; exact h1)
  exact vp_in_iff.mpr ⟨h3, (hA.2.2.2.2.1 k (by omega)).2⟩
