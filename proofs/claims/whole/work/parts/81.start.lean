/-! ===== the start: a new object on both sides ===== -/
theorem fx_lp (v : Int32) : ∀ (n : Nat) (f : Nat → Int32) (k N : Nat), k ≤ N → N - k < n → N ≤ 3000 → fAr_fillX_5 n f v k N = fun j => if k ≤ j ∧ j < N then v else f j := by
  intro n
  induction n with
  | zero => intro f k N _ h; omega
  | succ n ih =>
    intro f k N hk hn hN
    rw [fAr_fillX_5.eq_2]
    by_cases h : N ≤ k
    · rw [if_pos h]
      funext j
      rw [if_neg (by omega)]
    · rw [if_neg h, ih _ (k + 1) N (by omega) (by omega) hN, nI_clamp (by omega)]
      funext j
      show (if k + 1 ≤ j ∧ j < N then v else upd f k v j) = _
      unfold upd
      by_cases h1 : k + 1 ≤ j ∧ j < N
      · rw [if_pos h1, if_pos (by omega)]
      · rw [if_neg h1]
        by_cases h2 : j = k
        · rw [if_pos h2, if_pos (by omega)]
        · rw [if_neg h2, if_neg (by omega)]
theorem fy_lp (v : Int32) : ∀ (n : Nat) (f : Nat → Int32) (k N : Nat), k ≤ N → N - k < n → N ≤ 3000 → fAr_fillY_5 n f v k N = fun j => if k ≤ j ∧ j < N then v else f j := by
  intro n
  induction n with
  | zero => intro f k N _ h; omega
  | succ n ih =>
    intro f k N hk hn hN
    rw [fAr_fillY_5.eq_2]
    by_cases h : N ≤ k
    · rw [if_pos h]
      funext j
      rw [if_neg (by omega)]
    · rw [if_neg h, ih _ (k + 1) N (by omega) (by omega) hN, nI_clamp (by omega)]
      funext j
      show (if k + 1 ≤ j ∧ j < N then v else upd f k v j) = _
      unfold upd
      by_cases h1 : k + 1 ≤ j ∧ j < N
      · rw [if_pos h1, if_pos (by omega)]
      · rw [if_neg h1]
        by_cases h2 : j = k
        · rw [if_pos h2, if_pos (by omega)]
        · rw [if_neg h2, if_neg (by omega)]
def c33 (j : Nat) : Int32 := if j < 2000 then fDr_codeOf 0 else 0
theorem fX_e : fAr_fillX (fun _ => 0) (fDr_codeOf 0) = c33 := by
  rw [fAr_fillX.eq_1, fx_lp _ 2001 _ 0 2000 (by omega) (by omega) (by omega)]
  funext j
  unfold c33
  by_cases h : j < 2000
  · rw [if_pos h, if_pos (by omega)]
  · rw [if_neg h, if_neg (by omega)]
def s33 (j : Nat) : Int32 := if j < 20 then -1 else 0
theorem fY_e : fAr_fillY (fun _ => 0) (-1) = s33 := by
  rw [fAr_fillY.eq_1, fy_lp _ 21 _ 0 20 (by omega) (by omega) (by omega)]
  funext j
  unfold s33
  by_cases h : j < 20
  · rw [if_pos h, if_pos (by omega)]
  · rw [if_neg h, if_neg (by omega)]
theorem tD_0 : ∀ i : Nat, tD 0 i = 0 := by
  intro i
  induction i with
  | zero => rfl
  | succ i ih =>
    have e : (0 : Int64) / 10 = 0 := by decide
    show tD (0 / 10) i = 0
    rw [e]
    exact ih
theorem c0_r : ((0 : Int64) % 10).toInt32 = 0 := by decide
theorem st_0 {a : Int32} (ha : vp_in a 200) (g : Nat → Int32) (j : Nat) : stC 11 g a 0 0 j = if 10 * a.toNatClampNeg ≤ j ∧ j < 10 * a.toNatClampNeg + 10 then fDr_codeOf 0 else g j := by
  by_cases h : 10 * a.toNatClampNeg ≤ j ∧ j < 10 * a.toNatClampNeg + 10
  · have e : j = 10 * a.toNatClampNeg + (j - 10 * a.toNatClampNeg) := by omega
    rw [if_pos h, e, stC_in ha 11 0 0 g _ (by decide) (by omega) (by omega), tD_0, c0_r]
  · rw [if_neg h, stC_out ha 11 0 0 g j (by decide) (by omega)]
theorem wr_M : ∀ (n : Nat) (m : SM) (k : Nat), k + n ≤ 200 → m_dmin m = (fun _ => false) → wrM n m k = m_codes_s m (fun j => if 10 * k ≤ j ∧ j < 10 * (k + n) then fDr_codeOf 0 else m_codes m j) := by
  intro n
  induction n with
  | zero =>
    intro m k _ _
    have e : (fun j => if 10 * k ≤ j ∧ j < 10 * (k + 0) then fDr_codeOf 0 else m_codes m j) = m_codes m := by
      funext j
      rw [if_neg (by omega)]
    rw [e]
    rfl
  | succ n ih =>
    intro m k hk hd
    have hin : vp_in (nI k) 200 := vp_in_nI (by omega) (by decide)
    have ek : (nI k).toNatClampNeg = k := nI_clamp (by omega)
    have hw : fMo_write m (nI k) 0 false = m_codes_s m (stC 11 (m_codes m) (nI k) 0 0) := by
      rw [write_m, hd]
      have e : updB (fun _ => false) (nI k).toNatClampNeg false = (fun _ => false) := by
        funext j
        unfold updB
        rw [ite_self]
      rw [e, ← hd]
      rfl
    show wrM n (fMo_write m (nI k) 0 false) (k + 1) = _
    rw [hw, ih (m_codes_s m (stC 11 (m_codes m) (nI k) 0 0)) (k + 1) (by omega) hd]
    have e : (fun j => if 10 * (k + 1) ≤ j ∧ j < 10 * (k + 1 + n) then fDr_codeOf 0 else m_codes (m_codes_s m (stC 11 (m_codes m) (nI k) 0 0)) j) = (fun j => if 10 * k ≤ j ∧ j < 10 * (k + (n + 1)) then fDr_codeOf 0 else m_codes m j) := by
      funext j
      show (if 10 * (k + 1) ≤ j ∧ j < 10 * (k + 1 + n) then fDr_codeOf 0 else stC 11 (m_codes m) (nI k) 0 0 j) = _
      rw [st_0 hin, ek]
      by_cases h1 : 10 * (k + 1) ≤ j ∧ j < 10 * (k + 1 + n)
      · rw [if_pos h1, if_pos (by omega)]
      · rw [if_neg h1]
        by_cases h2 : 10 * k ≤ j ∧ j < 10 * k + 10
        · rw [if_pos h2, if_pos (by omega)]
        · rw [if_neg h2, if_neg (by omega)]
    rw [e]
    rfl
theorem wr_e : wrM 200 zM0 0 = m_codes_s zM0 c33 := by
  rw [wr_M 200 zM0 0 (by omega) rfl]
  have e : (fun j => if 10 * 0 ≤ j ∧ j < 10 * (0 + 200) then fDr_codeOf 0 else m_codes zM0 j) = c33 := by
    funext j
    unfold c33
    by_cases h : j < 2000
    · rw [if_pos h, if_pos (by omega)]
    · rw [if_neg h, if_neg (by omega)]
      rfl
  rw [e]
theorem c33_ck (j : Nat) : ck (c33 j) := by
  unfold c33
  split
  · exact (cd_of (by decide) (by decide)).2
  · exact ⟨by decide, by decide⟩
theorem dOk_0 (z : SC) (hc : c_codes z = c33) (hv : c_vals z = fun _ => 0) : dOk z := by
  refine ⟨fun j => by rw [hc]; exact c33_ck j, fun a ha => ?_⟩
  have hx := (vp_in_iff.mp ha).2
  have hx : a.toInt < 200 := hx
  have hca : a.toNatClampNeg = a.toInt.toNat := rfl
  rw [hv, val_store ha rg_0 c33 ?_]
  rw [hc]
  funext j
  rw [st_0 ha]
  by_cases h : 10 * a.toNatClampNeg ≤ j ∧ j < 10 * a.toNatClampNeg + 10
  · rw [if_pos h]
    unfold c33
    rw [if_pos (by omega)]
  · rw [if_neg h]
theorem RF_0 : RF 0 zC0 zMi := by
  have hC : zC0 = zCv c33 s33 := by
    show zCv (fAr_fillX (fun _ => 0) (fDr_codeOf 0)) (fAr_fillY (fun _ => 0) (-1)) = _
    rw [fX_e, fY_e]
  have hM : zMi = m_plc_s (m_codes_s zM0 c33) (fun j => if j < 20 then -1 else 0) := by
    show fMo_forgetPlaces (wrM 200 zM0 0) = _
    rw [wr_e, fpm_eq]
    rfl
  rw [hC, hM]
  have hD : dOk (zCv c33 s33) := dOk_0 _ rfl rfl
  have n0 : 0 ≤ (0 : Int32).toInt ∧ (0 : Int32).toInt ≤ 40 := by decide
  have n1 : 0 ≤ (0 : Int32).toInt ∧ (0 : Int32).toInt ≤ 20 := by decide
  have hs : ∀ i, i < 20 → pl (s33 i) := by
    intro i hi
    unfold s33
    rw [if_pos hi]
    exact pl_m1
  have hs2 : ∀ i, i < 20 → pl ((fun j => if j < 20 then (-1 : Int32) else 0) i) := by
    intro i hi
    show pl (if i < 20 then (-1 : Int32) else 0)
    rw [if_pos hi]
    exact pl_m1
  have hA : c_A (zCv c33 s33) := ⟨n0, fun _ _ => .inl pl_0, fun _ _ => .inl pl_0, fun _ _ => ⟨.inl pl_0, fun _ => pl_0⟩, fun _ _ => pl_0, fun _ _ => pl_0, fun _ _ => pl_0, hs⟩
  have hmA : m_A (m_plc_s (m_codes_s zM0 c33) (fun j => if j < 20 then -1 else 0)) := ⟨n0, fun _ _ => .inl pl_0, fun _ _ => .inl pl_0, fun _ _ => ⟨.inl pl_0, fun _ => pl_0⟩, fun _ _ => pl_0, hs2⟩
  have hy : yq s33 (fun j => if j < 20 then (-1 : Int32) else 0) := fun j _ => rfl
  refine ⟨⟨⟨rfl, rfl, hD⟩, ⟨rfl, n1, ?_, fun i hi => ?_⟩, ⟨rfl, rfl, n0⟩, ⟨rfl, rg_0, rfl, rfl⟩, ⟨rfl, rg_0, rg_0⟩, ⟨rfl, rfl, rfl, rfl, rfl, hy, rfl, hA, hmA, fun i hi => ?_⟩⟩, ⟨rfl, ?_, ?_⟩, rfl⟩
  · show vp_in 0 20
    exact vp_in_iff.mpr (by decide)
  · have hi : (i : Int) < (0 : Int32).toInt := hi
    rw [Int32.toInt_zero] at hi
    omega
  · have hi : (i : Int) < (0 : Int32).toInt := hi
    rw [Int32.toInt_zero] at hi
    omega
  · show 0 ≤ (0 : Int64).toInt
    decide
  · show (0 : Int64).toInt ≤ 0
    decide
