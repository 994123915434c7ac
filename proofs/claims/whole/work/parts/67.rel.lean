/-! ===== pure part: the relation between the class's state and the reference's ===== -/
def rD (z : SC) (m : SM) : Prop := c_codes z = m_codes m ∧ c_dmin z = m_dmin m ∧ dOk z
def ri (f : Int32) (i : Nat) : Nat := (f.toNatClampNeg + i) % 20
def rC (z : SC) (m : SM) : Prop := c_ccount z = m_cards m ∧ (0 ≤ (m_cards m).toInt ∧ (m_cards m).toInt ≤ 20) ∧ vp_in (c_cfirst z) 20 ∧ ∀ i : Nat, (i : Int) < (m_cards m).toInt → c_cvals z (ri (c_cfirst z) i) = m_card m i ∧ c_cmin z (ri (c_cfirst z) i) = m_cmin m i ∧ rg (m_card m i)
def rP (z : SC) (m : SM) : Prop := c_words z = m_outp m ∧ c_pcount z = m_outs m ∧ 0 ≤ (m_outs m).toInt ∧ (m_outs m).toInt ≤ 40
def rX (z : SC) (m : SM) : Prop := c_dist z = m_dist m ∧ rg (c_dist z) ∧ c_distm z = m_distm m ∧ c_nxt z = m_nxt m
def rA (z : SC) (m : SM) : Prop := c_acc z = m_acc m ∧ aOk (c_acc z)
/-- the same places of the twenty names -/
def yq (f g : Nat → Int32) : Prop := ∀ j, j < 20 → f j = g j
def rS (z : SC) (m : SM) : Prop := c_lparts z = m_loc m ∧ c_ops z = m_ops m ∧ c_dparts z = m_dat m ∧ c_nparts z = m_foll m ∧ c_resv z = m_resv m ∧ yq (c_syms z) (m_plc m) ∧ c_acount z = m_lines m ∧ c_A z ∧ m_A m ∧ (∀ i : Nat, (i : Int) < (m_lines m).toInt → fMo_isOperation (m_ops m i) = true)
/-- all but the time, the cause of a stop and what was thrown -/
def RU (z : SC) (m : SM) : Prop := rD z m ∧ rC z m ∧ rP z m ∧ rX z m ∧ rA z m ∧ rS z m
theorem dOk_mv {z z' : SC} (h : dOk z) (e : c_codes z' = c_codes z) (ev : c_vals z' = c_vals z) : dOk z' := by
  refine ⟨fun j => by rw [e]; exact h.1 j, fun a ha => ?_⟩
  rw [ev, h.2 a ha]
  exact val_local ha (fun i _ => by rw [e])
theorem rD_mv {z z' : SC} {m m' : SM} (h : rD z m) (e : z'.1 = z.1) (e' : m'.1 = m.1) : rD z' m' := by
  have e1 : c_codes z' = c_codes z := congrArg (·.1) e
  have e2 : c_vals z' = c_vals z := congrArg (·.2.1) e
  have e3 : c_dmin z' = c_dmin z := congrArg (·.2.2) e
  have f1 : m_codes m' = m_codes m := congrArg (·.1) e'
  have f2 : m_dmin m' = m_dmin m := congrArg (·.2) e'
  exact ⟨by rw [e1, f1]; exact h.1, by rw [e3, f2]; exact h.2.1, dOk_mv h.2.2 e1 e2⟩
theorem rC_mv {z z' : SC} {m m' : SM} (h : rC z m) (e : z'.2.1 = z.2.1) (e' : m'.2.1 = m.2.1) : rC z' m' := by
  unfold rC c_ccount m_cards c_cfirst c_cvals m_card c_cmin m_cmin at h ⊢
  rw [e, e']
  exact h
theorem rP_mv {z z' : SC} {m m' : SM} (h : rP z m) (e : z'.2.2.1 = z.2.2.1) (e' : m'.2.2.1 = m.2.2.1) : rP z' m' := by
  unfold rP c_words m_outp c_pcount m_outs at h ⊢
  rw [e, e']
  exact h
theorem rX_mv {z z' : SC} {m m' : SM} (h : rX z m) (e1 : c_dist z' = c_dist z) (e2 : c_distm z' = c_distm z) (e3 : c_nxt z' = c_nxt z) (f1 : m_dist m' = m_dist m) (f2 : m_distm m' = m_distm m) (f3 : m_nxt m' = m_nxt m) : rX z' m' := by
  unfold rX at h ⊢
  rw [e1, e2, e3, f1, f2, f3]
  exact h
theorem rA_mv {z z' : SC} {m m' : SM} (h : rA z m) (e : z'.2.2.2.2.1 = z.2.2.2.2.1) (e' : m'.2.2.2.2.1 = m.2.2.2.2.1) : rA z' m' := by
  unfold rA c_acc m_acc c_upper c_lower c_amin c_ovf m_upper m_lower m_amin m_ovf at h ⊢
  rw [e, e']
  exact h
theorem rS_mv {z z' : SC} {m m' : SM} (h : rS z m) (e : z'.2.2.2.2.2 = z.2.2.2.2.2) (e' : m'.2.2.2.2.2.1 = m.2.2.2.2.2.1) : rS z' m' := by
  unfold rS c_A m_A c_lparts c_ops c_dparts c_nparts c_resv c_syms c_acount c_locs c_dat c_nexts m_loc m_ops m_dat m_foll m_resv m_plc m_lines m_ats at h ⊢
  rw [e, e']
  exact h
/-- only time (and the cause, the fault, the code) is another -/
theorem RU_time {z : SC} {m : SM} (h : RU z m) (t u : Int64) : RU (c_time_s z t) (m_time_s m u) :=
  ⟨rD_mv h.1 rfl rfl, rC_mv h.2.1 rfl rfl, rP_mv h.2.2.1 rfl rfl, rX_mv h.2.2.2.1 rfl rfl rfl rfl rfl rfl, rA_mv h.2.2.2.2.1 rfl rfl, rS_mv h.2.2.2.2.2 rfl rfl⟩
theorem RU_acc {z : SC} {m : SM} (h : RU z m) {w : Acc} (hw : aOk w) : RU (c_acc_s z w) (m_acc_s m w) :=
  ⟨rD_mv h.1 rfl rfl, rC_mv h.2.1 rfl rfl, rP_mv h.2.2.1 rfl rfl, rX_mv h.2.2.2.1 rfl rfl rfl rfl rfl rfl, ⟨rfl, hw⟩, rS_mv h.2.2.2.2.2 rfl rfl⟩
theorem RU_dist {z : SC} {m : SM} (h : RU z m) {v : Int64} (hv : rg v) (b : Bool) : RU (c_distm_s (c_dist_s z v) b) (m_distm_s (m_dist_s m v) b) :=
  ⟨rD_mv h.1 rfl rfl, rC_mv h.2.1 rfl rfl, rP_mv h.2.2.1 rfl rfl, ⟨rfl, hv, rfl, h.2.2.2.1.2.2.2⟩, rA_mv h.2.2.2.2.1 rfl rfl, rS_mv h.2.2.2.2.2 rfl rfl⟩
theorem RU_nxt {z : SC} {m : SM} (h : RU z m) (x : Int32) : RU (c_nxt_s z x) (m_nxt_s m x) :=
  ⟨rD_mv h.1 rfl rfl, rC_mv h.2.1 rfl rfl, rP_mv h.2.2.1 rfl rfl, ⟨h.2.2.2.1.1, h.2.2.2.1.2.1, h.2.2.2.1.2.2.1, rfl⟩, rA_mv h.2.2.2.2.1 rfl rfl, rS_mv h.2.2.2.2.2 rfl rfl⟩
theorem RU_cause {z : SC} {m : SM} (h : RU z m) (x y : Int32) : RU (c_cause_s z x) (m_fault_s m y) :=
  ⟨rD_mv h.1 rfl rfl, rC_mv h.2.1 rfl rfl, rP_mv h.2.2.1 rfl rfl, rX_mv h.2.2.2.1 rfl rfl rfl rfl rfl rfl, rA_mv h.2.2.2.2.1 rfl rfl, rS_mv h.2.2.2.2.2 rfl rfl⟩
theorem RU_cz {z : SC} {m : SM} (h : RU z m) (x : Int32) : RU (c_cause_s z x) m :=
  ⟨rD_mv h.1 rfl rfl, rC_mv h.2.1 rfl rfl, rP_mv h.2.2.1 rfl rfl, rX_mv h.2.2.2.1 rfl rfl rfl rfl rfl rfl, rA_mv h.2.2.2.2.1 rfl rfl, rS_mv h.2.2.2.2.2 rfl rfl⟩
theorem RU_code {z : SC} {m : SM} (h : RU z m) (x : Int32) : RU z (m_code_s m x) :=
  ⟨rD_mv h.1 rfl rfl, rC_mv h.2.1 rfl rfl, rP_mv h.2.2.1 rfl rfl, rX_mv h.2.2.2.1 rfl rfl rfl rfl rfl rfl, rA_mv h.2.2.2.2.1 rfl rfl, rS_mv h.2.2.2.2.2 rfl rfl⟩
theorem RU_flt {z : SC} {m : SM} (h : RU z m) (x : Int32) : RU z (m_fault_s m x) :=
  ⟨rD_mv h.1 rfl rfl, rC_mv h.2.1 rfl rfl, rP_mv h.2.2.1 rfl rfl, rX_mv h.2.2.2.1 rfl rfl rfl rfl rfl rfl, rA_mv h.2.2.2.2.1 rfl rfl, rS_mv h.2.2.2.2.2 rfl rfl⟩
theorem RU_tz {z : SC} {m : SM} (h : RU z m) (t : Int64) : RU (c_time_s z t) m :=
  ⟨rD_mv h.1 rfl rfl, rC_mv h.2.1 rfl rfl, rP_mv h.2.2.1 rfl rfl, rX_mv h.2.2.2.1 rfl rfl rfl rfl rfl rfl, rA_mv h.2.2.2.2.1 rfl rfl, rS_mv h.2.2.2.2.2 rfl rfl⟩
theorem RU_tm {z : SC} {m : SM} (h : RU z m) (t : Int64) : RU z (m_time_s m t) :=
  ⟨rD_mv h.1 rfl rfl, rC_mv h.2.1 rfl rfl, rP_mv h.2.2.1 rfl rfl, rX_mv h.2.2.2.1 rfl rfl rfl rfl rfl rfl, rA_mv h.2.2.2.2.1 rfl rfl, rS_mv h.2.2.2.2.2 rfl rfl⟩
theorem RU_stop {z : SC} {m : SM} (h : RU z m) {a w : Int32} (hw : m_nxt m = w) : RU z (fMo_stop m a w).2 :=
  ⟨rD_mv h.1 rfl rfl, rC_mv h.2.1 rfl rfl, rP_mv h.2.2.1 rfl rfl, rX_mv h.2.2.2.1 rfl rfl rfl rfl rfl hw.symm, rA_mv h.2.2.2.2.1 rfl rfl, rS_mv h.2.2.2.2.2 rfl rfl⟩
/-! time -/
def tl (T : Int) (z : SC) (m : SM) : Prop := c_time z = m_time m ∧ 0 ≤ (c_time z).toInt ∧ (c_time z).toInt ≤ T
def zR (d : Int) (z : SC) (m : SM) (z' : SC) (m' : SM) : Prop := ∀ T : Int, T + d ≤ 4000000000000000000 → tl T z m → tl (T + d) z' m'
theorem tl_le {T T' : Int} {z : SC} {m : SM} (h : tl T z m) (hT : T ≤ T') : tl T' z m := ⟨h.1, h.2.1, Int.le_trans h.2.2 hT⟩
theorem zR_rf {d : Int} (hd : 0 ≤ d) (z : SC) (m : SM) : zR d z m z m := fun T _ h => tl_le h (by omega)
theorem zR_le {d d' : Int} {z z' : SC} {m m' : SM} (h : zR d z m z' m') (hd : d ≤ d') : zR d' z m z' m' := fun T hT hh => tl_le (h T (by omega) hh) (by omega)
theorem zR_tr {d d' : Int} {z z' z'' : SC} {m m' m'' : SM} (h : zR d z m z' m') (h' : zR d' z' m' z'' m'') (hd' : 0 ≤ d') : zR (d + d') z m z'' m'' := fun T hT hh => by
  have h2 := h' (T + d) (by omega) (h T (by omega) hh)
  rwa [Int.add_assoc] at h2
theorem zR_same {d : Int} (hd : 0 ≤ d) {z z' : SC} {m m' : SM} (e : c_time z' = c_time z) (e' : m_time m' = m_time m) : zR d z m z' m' := fun T _ h => ⟨by rw [e, e']; exact h.1, by rw [e]; exact h.2.1, by rw [e]; have := h.2.2; omega⟩
theorem zR_add {d : Int} {z z' : SC} {m m' : SM} {x : Int64} (hx : 0 ≤ x.toInt ∧ x.toInt ≤ d) (e : c_time z' = c_time z + x) (e' : m_time m' = m_time m + x) : zR d z m z' m' := by
  intro T hT h
  obtain ⟨h1, h2, h3⟩ := h
  have s : (c_time z + x).toInt = (c_time z).toInt + x.toInt := Kit.i64_add (by omega) (by omega)
  refine ⟨by rw [e, e', h1], ?_, ?_⟩
  · rw [e, s]; omega
  · rw [e, s]; omega
theorem l_rc (x y w : Int64) : (x + y) + w = (x + w) + y := by
  rw [Int64.add_assoc, Int64.add_comm y w, ← Int64.add_assoc]
/-! waiting for an address -/
theorem i50 : (50 : Int32).toInt = 50 := by decide
theorem l50 : (50 : Int64).toInt = 50 := by decide
theorem acs_c (z : SC) (a : Int32) : fPr_waitAndAccess z a = c_time_s z ((c_time z) + ((((((fDr_angleOf a) - (((c_time z) % 50).toInt32)) + 50) % 50) + 1).toInt64)) := rfl
theorem acs_m (m : SM) (a : Int32) : fMo_access m a = m_time_s m (((m_time m) + ((((a.toInt64 - (m_time m)) % 50) + 50) % 50)) + 1) := rfl
theorem acs_t {t : Int64} {a : Int32} (ha : vp_in a 200) (h0 : 0 ≤ t.toInt) (h1 : t.toInt ≤ 4000000000000000000) : ∃ x : Int64, (0 ≤ x.toInt ∧ x.toInt ≤ 50) ∧ t + ((((((fDr_angleOf a) - ((t % 50).toInt32)) + 50) % 50) + 1).toInt64) = t + x ∧ (t + ((((a.toInt64 - t) % 50) + 50) % 50)) + 1 = t + x := by
  obtain ⟨a1, a2⟩ := vp_in_iff.mp ha
  have a2 : a.toInt < 200 := a2
  have i1 : (1 : Int32).toInt = 1 := by decide
  have e1 : (t % 50).toInt = t.toInt % 50 := by rw [l_mod h0, l50]
  have e2 : ((t % 50).toInt32).toInt = t.toInt % 50 := by rw [Kit.i32_of_i64 (by rw [e1]; omega) (by rw [e1]; omega), e1]
  have e3 : (fDr_angleOf a).toInt = a.toInt % 50 := by
    show (a % 50).toInt = _
    rw [Int32.toInt_mod, i50, Int.tmod_eq_emod_of_nonneg a1]
  have e4 : ((fDr_angleOf a) - ((t % 50).toInt32)).toInt = a.toInt % 50 - t.toInt % 50 := by
    rw [Kit.i32_sub (by rw [e2, e3]; omega) (by rw [e2, e3]; omega), e2, e3]
  have e5 : (((fDr_angleOf a) - ((t % 50).toInt32)) + 50).toInt = a.toInt % 50 - t.toInt % 50 + 50 := by
    rw [Kit.i32_add (by rw [e4, i50]; omega) (by rw [e4, i50]; omega), e4, i50]
  have e6 : ((((fDr_angleOf a) - ((t % 50).toInt32)) + 50) % 50).toInt = (a.toInt % 50 - t.toInt % 50 + 50) % 50 := by
    rw [Int32.toInt_mod, i50, e5, Int.tmod_eq_emod_of_nonneg (by omega)]
  have e7 : (((((fDr_angleOf a) - ((t % 50).toInt32)) + 50) % 50) + 1).toInt = (a.toInt % 50 - t.toInt % 50 + 50) % 50 + 1 := by
    rw [Kit.i32_add (by rw [e6, i1]; omega) (by rw [e6, i1]; omega), e6, i1]
  have f1 : (a.toInt64 - t).toInt = a.toInt - t.toInt := by
    rw [Kit.i64_sub (by rw [Kit.i64_of_i32]; omega) (by rw [Kit.i64_of_i32]; omega), Kit.i64_of_i32]
  have f2 : ((a.toInt64 - t) % 50).toInt = (a.toInt - t.toInt).tmod 50 := by rw [Int64.toInt_mod, l50, f1]
  have f2b : -50 < (a.toInt - t.toInt).tmod 50 ∧ (a.toInt - t.toInt).tmod 50 < 50 := tmod_bounds (by omega)
  have f3 : (((a.toInt64 - t) % 50) + 50).toInt = (a.toInt - t.toInt).tmod 50 + 50 := by
    rw [Kit.i64_add (by rw [f2, l50]; omega) (by rw [f2, l50]; omega), f2, l50]
  have f4 : ((((a.toInt64 - t) % 50) + 50) % 50).toInt = ((a.toInt - t.toInt).tmod 50 + 50) % 50 := by
    rw [l_mod (by rw [f3]; omega), f3, l50]
  have g : ((a.toInt - t.toInt).tmod 50 + 50) % 50 = (a.toInt % 50 - t.toInt % 50 + 50) % 50 := by
    by_cases hs : a.toInt - t.toInt < 0
    · rw [tm_neg hs]; omega
    · rw [Int.tmod_eq_emod_of_nonneg (by omega)]; omega
  have hx : ((((((fDr_angleOf a) - ((t % 50).toInt32)) + 50) % 50) + 1).toInt64).toInt = (a.toInt % 50 - t.toInt % 50 + 50) % 50 + 1 := by rw [Kit.i64_of_i32, e7]
  refine ⟨_, ?_, rfl, ?_⟩
  · rw [hx]; omega
  · rw [Int64.add_assoc]
    congr 1
    apply Int64.toInt_inj.mp
    rw [hx, Kit.i64_add (by rw [f4, c_1]; omega) (by rw [f4, c_1]; omega), f4, c_1, g]
theorem acs_R (z : SC) (m : SM) {a : Int32} (ha : vp_in a 200) : zR 50 z m (fPr_waitAndAccess z a) (fMo_access m a) := by
  intro T hT h
  obtain ⟨h1, h2, h3⟩ := h
  obtain ⟨x, hx, e, e'⟩ := acs_t (t := c_time z) ha h2 (by omega)
  refine zR_add (x := x) hx ?_ ?_ T hT ⟨h1, h2, h3⟩
  · rw [acs_c]; exact e
  · rw [acs_m, ← h1]; exact e'
theorem RU_acs {z : SC} {m : SM} (h : RU z m) (a : Int32) : RU (fPr_waitAndAccess z a) (fMo_access m a) := by
  rw [acs_c, acs_m]
  exact RU_time h _ _
/-! reading an address -/
theorem vl_R {z : SC} {m : SM} (h : rD z m) {a : Int32} (ha : vp_in a 200) : fDr_valueAt z a = fMo_value m a ∧ (fMo_value m a = -1 ∨ rg (fMo_value m a)) := by
  have e : c_vals z a.toNatClampNeg = fMo_value m a := by rw [h.2.2.2 a ha, val_eq h.1 h.2.2.1]
  refine ⟨e, ?_⟩
  rw [← e, h.2.2.2 a ha]
  exact val_rg h.2.2.1 a
theorem vd_R {z : SC} {m : SM} (h : rD z m) {a : Int32} (ha : vp_in a 200) : (fDr_isValid z a = true ↔ 0 ≤ fMo_value m a) ∧ (fDr_isValid z a = true → rg (fMo_value m a)) := by
  obtain ⟨e, h2⟩ := vl_R h ha
  have e : c_vals z a.toNatClampNeg = fMo_value m a := e
  rw [fDr_isValid.eq_1, e]
  rcases h2 with h2 | h2
  · rw [h2, if_pos rfl]
    exact ⟨⟨fun h3 => (by cases h3), fun h3 => absurd h3 (by decide)⟩, fun h3 => (by cases h3)⟩
  · have hn : ¬ fMo_value m a = -1 := by
      intro h3
      have h4 := h2.1
      rw [h3] at h4
      exact absurd h4 (by decide)
    rw [if_neg hn]
    exact ⟨⟨fun _ => by rw [Int64.le_iff_toInt_le, c_0]; exact h2.1, fun _ => rfl⟩, fun _ => h2⟩
theorem dm_R {z : SC} {m : SM} (h : rD z m) (a : Int32) : fDr_isMinus z a = m_dmin m a.toNatClampNeg := by
  rw [fDr_isMinus.eq_1, h.2.1]
theorem in_of {a : Int32} (h : fMo_isAddress a = true) : vp_in a 200 := vp_in_iff.mpr ((adr_iff a).mp h)
/-- storing a word -/
theorem RU_store {z : SC} {m : SM} (h : RU z m) {a : Int32} (ha : vp_in a 200) {v : Int64} (hv : rg v) (b : Bool) : RU (fDr_store z a v b) (fMo_write m a v b) := by
  have e := store_c z a v b
  have e' := write_m m a v b
  have hd := dOk_store h.1.2.2 ha hv b
  refine ⟨⟨?_, ?_, hd⟩, ?_⟩
  · rw [e, e', ← h.1.1]; rfl
  · rw [e, e', ← h.1.2.1]; rfl
  · rw [e, e']
    exact ⟨rC_mv h.2.1 rfl rfl, rP_mv h.2.2.1 rfl rfl, rX_mv h.2.2.2.1 rfl rfl rfl rfl rfl rfl, rA_mv h.2.2.2.2.1 rfl rfl, rS_mv h.2.2.2.2.2 rfl rfl⟩
theorem st_tz (z : SC) (a : Int32) (v : Int64) (b : Bool) : c_time (fDr_store z a v b) = c_time z := by rw [store_c]; rfl
theorem st_tm (m : SM) (a : Int32) (v : Int64) (b : Bool) : m_time (fMo_write m a v b) = m_time m := by rw [write_m]; rfl
theorem st_fm (m : SM) (a : Int32) (v : Int64) (b : Bool) : m_fault (fMo_write m a v b) = m_fault m := by rw [write_m]; rfl
theorem st_km (m : SM) (a : Int32) (v : Int64) (b : Bool) : m_code (fMo_write m a v b) = m_code m := by rw [write_m]; rfl
theorem st_nm (m : SM) (a : Int32) (v : Int64) (b : Bool) : m_nxt (fMo_write m a v b) = m_nxt m := by rw [write_m]; rfl
