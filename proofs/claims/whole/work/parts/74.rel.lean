/-! turning a bit over -/
theorem xr_all : ∀ k : Fin 128, ∀ j : Fin 7, 0 ≤ ((nI k.val) ^^^ ((1 : Int32) <<< ((nI j.val) &&& 31))).toInt ∧ ((nI k.val) ^^^ ((1 : Int32) <<< ((nI j.val) &&& 31))).toInt < 128 := by decide +kernel
theorem xr_ck {w b : Int32} (hw : ck w) (hb : 0 ≤ b.toInt ∧ b.toInt < 7) : ck (w ^^^ ((1 : Int32) <<< (b &&& 31))) := by
  obtain ⟨k, rfl⟩ := ck_in hw
  have e : b = nI b.toInt.toNat := Int32.toInt_inj.mp (by rw [nI_toInt (by omega)]; omega)
  rw [e]
  exact xr_all k ⟨b.toInt.toNat, by omega⟩
theorem g_lt {a c : Int32} {k : Int} (hc : c.toInt = k) : c < a ↔ k < a.toInt := by rw [Int32.lt_iff_toInt_lt, hc]
theorem hb_iff (a d b : Int32) : fDr_hasBit a d b = true ↔ fMo_isAddress a = true ∧ (0 ≤ d.toInt ∧ d.toInt < 10) ∧ (0 ≤ b.toInt ∧ b.toInt < 7) := by
  have q2 : d < 0 ↔ d.toInt < 0 := b_lt (by decide)
  have q3 : (10 : Int32) ≤ d ↔ 10 ≤ d.toInt := b_le (by decide)
  have q4 : b < 0 ↔ b.toInt < 0 := b_lt (by decide)
  have q5 : (7 : Int32) ≤ b ↔ 7 ≤ b.toInt := b_le (by decide)
  rw [fDr_hasBit.eq_1, adr_eq]
  by_cases h1 : fMo_isAddress a = true
  · rw [if_pos h1]
    by_cases h2 : d < 0
    · rw [if_pos h2]; rw [q2] at h2; exact ⟨fun h => (by cases h), fun h => by omega⟩
    · rw [if_neg h2]; rw [q2] at h2
      by_cases h3 : (10 : Int32) ≤ d
      · rw [if_pos h3]; rw [q3] at h3; exact ⟨fun h => (by cases h), fun h => by omega⟩
      · rw [if_neg h3]; rw [q3] at h3
        by_cases h4 : b < 0
        · rw [if_pos h4]; rw [q4] at h4; exact ⟨fun h => (by cases h), fun h => by omega⟩
        · rw [if_neg h4]; rw [q4] at h4
          by_cases h5 : (7 : Int32) ≤ b
          · rw [if_pos h5]; rw [q5] at h5; exact ⟨fun h => (by cases h), fun h => by omega⟩
          · rw [if_neg h5]; rw [q5] at h5; exact ⟨fun _ => ⟨h1, ⟨by omega, by omega⟩, ⟨by omega, by omega⟩⟩, fun _ => rfl⟩
  · rw [if_neg h1]; exact ⟨fun h => (by cases h), fun h => absurd h.1 h1⟩
theorem fl_m (m : SM) (a d b : Int32) : fMo_flip m a d b = fMo_flip_33 m (!(fDr_hasBit a d b)) a d b := by
  have q2 : d < 0 ↔ d.toInt < 0 := b_lt (by decide)
  have q3 : (9 : Int32) < d ↔ 9 < d.toInt := g_lt (by decide)
  have q4 : b < 0 ↔ b.toInt < 0 := b_lt (by decide)
  have q5 : (6 : Int32) < b ↔ 6 < b.toInt := g_lt (by decide)
  have hb := hb_iff a d b
  rw [fMo_flip.eq_1, fMo_flip_32.eq_1]
  by_cases h : fDr_hasBit a d b = true
  · obtain ⟨h1, h2, h3⟩ := hb.mp h
    rw [if_pos h1, if_neg (by rw [q2]; omega), if_neg (by rw [q3]; omega), if_neg (by rw [q4]; omega), if_neg (by rw [q5]; omega), h]
    rfl
  · have hn : ¬ (fMo_isAddress a = true ∧ (0 ≤ d.toInt ∧ d.toInt < 10) ∧ (0 ≤ b.toInt ∧ b.toInt < 7)) := fun e => h (hb.mpr e)
    rw [(Bool.not_eq_true _).mp h]
    show _ = fMo_flip_33 m true a d b
    by_cases h1 : fMo_isAddress a = true
    · rw [if_pos h1]
      by_cases h2 : d < 0
      · rw [if_pos h2]
      · rw [if_neg h2]; rw [q2] at h2
        by_cases h3 : (9 : Int32) < d
        · rw [if_pos h3]
        · rw [if_neg h3]; rw [q3] at h3
          by_cases h4 : b < 0
          · rw [if_pos h4]
          · rw [if_neg h4]; rw [q4] at h4
            by_cases h5 : (6 : Int32) < b
            · rw [if_pos h5]
            · rw [q5] at h5
              exact absurd ⟨h1, ⟨by omega, by omega⟩, ⟨by omega, by omega⟩⟩ hn
    · rw [if_neg h1]
/-- the drum's own order behind a bit turned over -/
theorem dOk_flip {z : SC} (h : dOk z) {a : Int32} (ha : vp_in a 200) {k : Nat} (hk1 : 10 * a.toNatClampNeg ≤ k) (hk2 : k < 10 * a.toNatClampNeg + 10) {w : Int32} (hw : ck w) : dOk (c_vals_s (c_codes_s z (upd (c_codes z) k w)) (vp_updL (c_vals z) a.toNatClampNeg (fDr_valueOfCodes (c_codes_s z (upd (c_codes z) k w)) a))) := by
  refine ⟨fun j => ?_, fun x hx => ?_⟩
  · show ck (upd (c_codes z) k w j)
    unfold upd
    by_cases hj : j = k
    · rw [if_pos hj]; exact hw
    · rw [if_neg hj]; exact h.1 j
  · show vp_updL (c_vals z) a.toNatClampNeg (fDr_valueOfCodes (c_codes_s z (upd (c_codes z) k w)) a) x.toNatClampNeg = _
    by_cases hxa : x.toNatClampNeg = a.toNatClampNeg
    · have hxe : x = a := by
        obtain ⟨x1, x2⟩ := vp_in_iff.mp hx
        obtain ⟨a1, a2⟩ := vp_in_iff.mp ha
        have h3 : x.toInt.toNat = a.toInt.toNat := hxa
        exact Int32.toInt_inj.mp (by omega)
      subst hxe
      have e : vp_updL (c_vals z) x.toNatClampNeg (fDr_valueOfCodes (c_codes_s z (upd (c_codes z) k w)) x) x.toNatClampNeg = fDr_valueOfCodes (c_codes_s z (upd (c_codes z) k w)) x := if_pos rfl
      rw [e]
      exact val_local hx (fun i _ => rfl)
    · have e : vp_updL (c_vals z) a.toNatClampNeg (fDr_valueOfCodes (c_codes_s z (upd (c_codes z) k w)) a) x.toNatClampNeg = c_vals z x.toNatClampNeg := if_neg hxa
      rw [e, h.2 x hx]
      refine val_local hx (fun i hi => ?_)
      show c_codes z (10 * x.toNatClampNeg + i) = upd (c_codes z) k w (10 * x.toNatClampNeg + i)
      unfold upd
      rw [if_neg (by omega)]
theorem RU_flip {z : SC} {m : SM} (h : RU z m) {a d b : Int32} (ha : vp_in a 200) (hd : 0 ≤ d.toInt ∧ d.toInt < 10) (hb : 0 ≤ b.toInt ∧ b.toInt < 7) : RU (fDr_turnBitOver z a d b) (m_codes_s m (upd (m_codes m) (((10 * a) + d).toNatClampNeg) ((m_codes m (((10 * a) + d).toNatClampNeg)) ^^^ ((1 : Int32) <<< (b &&& 31))))) := by
  have ed : d = nI d.toInt.toNat := Int32.toInt_inj.mp (by rw [nI_toInt (by omega)]; omega)
  have hk : ((a * 10) + d).toNatClampNeg = 10 * a.toNatClampNeg + d.toInt.toNat := by
    rw [ed, nI_toInt (by omega)]
    have := at10 ha (k := d.toInt.toNat) (by omega)
    rw [this]
    omega
  rw [fDr_turnBitOver.eq_1, Int32.mul_comm 10 a, hk, ← h.1.1]
  have hw := xr_ck (h.1.2.2.1 (10 * a.toNatClampNeg + d.toInt.toNat)) hb
  have hD := dOk_flip h.1.2.2 ha (k := 10 * a.toNatClampNeg + d.toInt.toNat) (by omega) (by omega) hw
  generalize c_codes z (10 * a.toNatClampNeg + d.toInt.toNat) ^^^ ((1 : Int32) <<< (b &&& 31)) = w at hw hD ⊢
  generalize 10 * a.toNatClampNeg + d.toInt.toNat = k at hD ⊢
  generalize fDr_valueOfCodes (c_codes_s z (upd (c_codes z) k w)) a = v at hD ⊢
  exact ⟨⟨rfl, h.1.2.1, hD⟩, rC_mv h.2.1 rfl rfl, rP_mv h.2.2.1 rfl rfl, rX_mv h.2.2.2.1 rfl rfl rfl rfl rfl rfl, rA_mv h.2.2.2.2.1 rfl rfl, rS_mv h.2.2.2.2.2 rfl rfl⟩
theorem fl_t (z : SC) (a d b : Int32) : c_time (fDr_turnBitOver z a d b) = c_time z ∧ c_cause (fDr_turnBitOver z a d b) = c_cause z := by
  rw [fDr_turnBitOver.eq_1]
  exact ⟨rfl, rfl⟩
theorem flip_R {T : Int} {z : SC} {m : SM} (h : RF T z m) (f : Nat → Int64) (a d b : Int32) : fR T (gLa_flip z f a d b) (fMo_flip m a d b).2 ∧ ((gLa_flip z f a d b).1 = 0 → (gLa_flip z f a d b).2.2 0 = bl (fMo_flip m a d b).1) := by
  rw [gLa_flip.eq_1, fl_m]
  by_cases hb : fDr_hasBit a d b = true
  · obtain ⟨h1, h2, h3⟩ := (hb_iff a d b).mp hb
    have hin := in_of h1
    have hR := RU_flip (RU_code h.1 0) hin h2 h3
    obtain ⟨t1, t2⟩ := fl_t z a d b
    have hb0 : bb (!true) = 0 := rfl
    rw [if_pos hb, fDM_flip.eq_1, if_pos hb, hb, fMo_flip_33.eq_1, hb0, if_pos (show (0 : Int32) ≤ 0 by decide)]
    have hcc : m_codes (m_code_s m 0) = m_codes m := rfl
    rw [hcc] at hR
    have hk : ∀ g, m_code (m_codes_s (m_code_s m 0) g) = 0 ∧ m_time (m_codes_s (m_code_s m 0) g) = m_time m ∧ m_fault (m_codes_s (m_code_s m 0) g) = m_fault m := fun g => ⟨rfl, rfl, rfl⟩
    obtain ⟨k1, k2, k3⟩ := hk (upd (m_codes m) (((10 * a) + d).toNatClampNeg) ((m_codes m (((10 * a) + d).toNatClampNeg)) ^^^ ((1 : Int32) <<< (b &&& 31))))
    generalize m_codes_s (m_code_s m 0) (upd (m_codes m) (((10 * a) + d).toNatClampNeg) ((m_codes m (((10 * a) + d).toNatClampNeg)) ^^^ ((1 : Int32) <<< (b &&& 31)))) = M at hR k1 k2 k3 ⊢
    generalize fDr_turnBitOver z a d b = Z at hR t1 t2 ⊢
    have hF : RF T Z M := ⟨hR, ⟨by rw [t1, k2]; exact h.2.1.1, by rw [t1]; exact h.2.1.2.1, by rw [t1]; exact h.2.1.2.2⟩, by rw [t2, k3]; exact h.2.2⟩
    have hv := (vd_R hR.1 hin).1
    by_cases hi : fDr_isValid Z a = true
    · have hn : ¬ fMo_value M a < 0 := by
        have := hv.mp hi
        rw [Int64.le_iff_toInt_le] at this
        rw [Int64.lt_iff_toInt_lt]; omega
      rw [if_pos hi, if_neg hn]
      exact ⟨⟨hF, k1⟩, fun _ => u0 f 1⟩
    · have hn : fMo_value M a < 0 := by
        have h6 : ¬ 0 ≤ fMo_value M a := fun e => hi (hv.mpr e)
        rw [Int64.le_iff_toInt_le] at h6
        rw [Int64.lt_iff_toInt_lt]; omega
      rw [if_neg hi, if_pos hn]
      exact ⟨⟨hF, k1⟩, fun _ => u0 f 0⟩
  · have e : fMo_flip_33 m true a d b = (false, m_code_s m 1) := by
      rw [fMo_flip_33.eq_1, if_neg (by decide)]
      rfl
    rw [if_neg hb, (Bool.not_eq_true _).mp hb, Bool.not_false, e]
    exact ⟨⟨RF_code h 1, rfl⟩, fun e => (no1 e).elim⟩
/-! clearing -/
theorem fpm2 : ∀ (n : Nat) (m : SM) (k : Nat), k ≤ 20 → 20 - k < n → fMo_forgetPlaces_2 n m k = m_plc_s m (fun j => if k ≤ j ∧ j < 20 then -1 else m_plc m j) := by
  intro n
  induction n with
  | zero => intro m k _ h; omega
  | succ n ih =>
    intro m k hk hn
    rw [fMo_forgetPlaces_2.eq_2]
    by_cases h : 20 ≤ k
    · have e : (fun j => if k ≤ j ∧ j < 20 then (-1 : Int32) else m_plc m j) = m_plc m := by
        funext j
        rw [if_neg (by omega)]
      rw [if_pos h, e]
      rfl
    · rw [if_neg h, ih _ (k + 1) (by omega) (by omega), nI_clamp (by omega)]
      have e : (fun j => if k + 1 ≤ j ∧ j < 20 then (-1 : Int32) else m_plc (m_plc_s m (upd (m_plc m) k (-1))) j) = (fun j => if k ≤ j ∧ j < 20 then (-1 : Int32) else m_plc m j) := by
        funext j
        show (if k + 1 ≤ j ∧ j < 20 then (-1 : Int32) else upd (m_plc m) k (-1) j) = _
        unfold upd
        by_cases h1 : k + 1 ≤ j ∧ j < 20
        · rw [if_pos h1, if_pos (by omega)]
        · rw [if_neg h1]
          by_cases h2 : j = k
          · rw [if_pos h2, if_pos (by omega)]
          · rw [if_neg h2, if_neg (by omega)]
      rw [e]
      rfl
theorem fpm_eq (m : SM) : fMo_forgetPlaces m = m_plc_s m (fun j => if j < 20 then -1 else m_plc m j) := by
  rw [fMo_forgetPlaces.eq_1, fpm2 21 m 0 (by omega) (by omega)]
  have e : (fun j => if 0 ≤ j ∧ j < 20 then (-1 : Int32) else m_plc m j) = (fun j => if j < 20 then (-1 : Int32) else m_plc m j) := by
    funext j
    by_cases h : j < 20
    · rw [if_pos h, if_pos ⟨by omega, h⟩]
    · rw [if_neg h, if_neg (by omega)]
  rw [e]
theorem RF_fp {T : Int} {z : SC} {m : SM} (h : RF T z m) : RF T (fAs_forgetPlaces z) (fMo_forgetPlaces m) ∧ m_code (fMo_forgetPlaces m) = m_code m := by
  obtain ⟨s1, s2, s3, s4, s5, s6, s7, s8, s9, s10⟩ := h.1.2.2.2.2.2
  have hA := A_fp s8
  rw [fp_eq] at hA ⊢
  rw [fpm_eq]
  have hm : m_A (m_plc_s m (fun j => if j < 20 then -1 else m_plc m j)) := by
    obtain ⟨q0, q1, q2, q3, q4, q5⟩ := s9
    refine ⟨q0, q1, q2, q3, q4, fun i hi => ?_⟩
    show pl (if i < 20 then -1 else m_plc m i)
    rw [if_pos hi]
    exact pl_m1
  have e : yq (fun j => if j < 20 then (-1 : Int32) else c_syms z j) (fun j => if j < 20 then (-1 : Int32) else m_plc m j) := by
    intro j hj
    show (if j < 20 then (-1 : Int32) else c_syms z j) = (if j < 20 then (-1 : Int32) else m_plc m j)
    rw [if_pos hj, if_pos hj]
  generalize (fun j => if j < 20 then (-1 : Int32) else m_plc m j) = g at hm e ⊢
  generalize (fun j => if j < 20 then (-1 : Int32) else c_syms z j) = f at hA e ⊢
  exact ⟨⟨⟨rD_mv h.1.1 rfl rfl, rC_mv h.1.2.1 rfl rfl, rP_mv h.1.2.2.1 rfl rfl, rX_mv h.1.2.2.2.1 rfl rfl rfl rfl rfl rfl, rA_mv h.1.2.2.2.2.1 rfl rfl, ⟨s1, s2, s3, s4, s5, e, s7, hA, hm, s10⟩⟩, h.2.1, h.2.2⟩, rfl⟩
theorem RF_resv {T : Int} {z : SC} {m : SM} (h : RF T z m) (k : Nat) (b : Bool) : RF T (c_resv_s z (updB (c_resv z) k b)) (m_resv_s m (updB (m_resv m) k b)) := by
  obtain ⟨s1, s2, s3, s4, s5, s6⟩ := h.1.2.2.2.2.2
  refine ⟨⟨rD_mv h.1.1 rfl rfl, rC_mv h.1.2.1 rfl rfl, rP_mv h.1.2.2.1 rfl rfl, rX_mv h.1.2.2.2.1 rfl rfl rfl rfl rfl rfl, rA_mv h.1.2.2.2.2.1 rfl rfl, ⟨s1, s2, s3, s4, ?_, s6⟩⟩, h.2.1, h.2.2⟩
  show updB (c_resv z) k b = updB (m_resv m) k b
  rw [s5]
theorem cl_lp {T : Int} : ∀ (n : Nat) (z : SC) (m : SM) (k : Nat), RF T z m → RF T (fAs_forgetAll_7 n z k) (fMo_clear_12 n m k) := by
  intro n
  induction n with
  | zero => intro z m k h; exact h
  | succ n ih =>
    intro z m k h
    rw [fAs_forgetAll_7.eq_2, fMo_clear_12.eq_2]
    by_cases hk : 200 ≤ k
    · rw [if_pos hk, if_pos hk]
      exact (RF_fp h).1
    · rw [if_neg hk, if_neg hk]
      exact ih _ _ _ (RF_resv h _ false)
theorem clear_R {T : Int} {z : SC} {m : SM} (h : RF T z m) : RF T (fDM_clear z) (fMo_clear m) := by
  rw [fDM_clear.eq_1, fAs_forgetAll.eq_1, fMo_clear.eq_1]
  obtain ⟨s1, s2, s3, s4, s5, s6, s7, s8, s9, s10⟩ := h.1.2.2.2.2.2
  refine cl_lp 201 _ _ 0 ⟨⟨rD_mv h.1.1 rfl rfl, rC_mv h.1.2.1 rfl rfl, rP_mv h.1.2.2.1 rfl rfl, rX_mv h.1.2.2.2.1 rfl rfl rfl rfl rfl rfl, rA_mv h.1.2.2.2.2.1 rfl rfl, ⟨s1, s2, s3, s4, s5, s6, rfl, ⟨?_, s8.2⟩, ⟨?_, s9.2⟩, fun i hi => ?_⟩⟩, h.2.1, h.2.2⟩
  · show 0 ≤ (0 : Int32).toInt ∧ (0 : Int32).toInt ≤ 40
    decide
  · show 0 ≤ (0 : Int32).toInt ∧ (0 : Int32).toInt ≤ 40
    decide
  · have hi : (i : Int) < (0 : Int32).toInt := hi
    rw [Int32.toInt_zero] at hi
    omega
