/-! many steps -/
theorem ds_stop {n : Nat} {z : SC} {a v : Int32} {i : Nat} (h : ¬ c_cause z = -1) : fPr_doSteps_4 (n + 1) z a v i = (v, z) := by
  rw [fPr_doSteps_4.eq_2, fPr_isStopped.eq_1, if_neg h, if_pos rfl, ite_self]
theorem rn_stop {n : Nat} {m : SM} {a v : Int32} (hc : m_code m = 0) (h : ¬ m_fault m = -1) : fMo_run_34 (n + 1) m a v = (v, m) := by
  rw [fMo_run_34.eq_2, if_pos hc, if_neg h, ite_self]
theorem cs_t (z : SC) (x : Int32) : c_time (c_cause_s z x) = c_time z ∧ c_cause (c_cause_s z x) = x := ⟨rfl, rfl⟩
theorem ds_R : ∀ (n n' : Nat) (z : SC) (m : SM) (a : Int32) (i : Nat), RU z m → c_cause z = -1 → m_fault m = -1 → m_code m = 0 → a.toInt ≤ 300 → (i : Int) ≤ 300 → a.toInt - i < n → a.toInt - i + 1 < n' → 0 < n → 1 < n' → (fPr_doSteps_4 n z a (nI i) i).1 = (fMo_run_34 n' m a (nI i)).1 ∧ RU (fPr_doSteps_4 n z a (nI i) i).2 (fMo_run_34 n' m a (nI i)).2 ∧ c_cause (fPr_doSteps_4 n z a (nI i) i).2 = m_fault (fMo_run_34 n' m a (nI i)).2 ∧ m_code (fMo_run_34 n' m a (nI i)).2 = 0 ∧ ∀ D : Int, 400 * (a.toInt - i) ≤ D → 0 ≤ D → zR D z m (fPr_doSteps_4 n z a (nI i) i).2 (fMo_run_34 n' m a (nI i)).2 := by
  intro n
  induction n with
  | zero => intro n' z m a i _ _ _ _ _ _ _ _ h; omega
  | succ n ih =>
    intro n' z m a i h hc hf hk ha hi hn hn' _ h1'
    obtain ⟨n', rfl⟩ : ∃ k, n' = k + 1 := ⟨n' - 1, by omega⟩
    have hnI : (nI i).toInt = i := nI_toInt (by omega)
    rw [fPr_doSteps_4.eq_2, fMo_run_34.eq_2, if_pos hk]
    by_cases hle : a ≤ nI i
    · rw [if_pos hle, if_pos hle]
      exact ⟨rfl, h, hc.trans hf.symm, hk, fun D _ hD => zR_rf hD z m⟩
    · have hlt : (i : Int) < a.toInt := by
        rw [Int32.le_iff_toInt_le, hnI] at hle
        omega
      have hns : ¬ fPr_isStopped z = true := by rw [fPr_isStopped.eq_1, if_pos hc]; decide
      rw [if_neg hle, if_neg hle, if_neg hns, if_pos hf]
      obtain ⟨s1, s2, s3, s4⟩ := step_R h
      generalize fPr_step z = x at s1 s2 s3 s4 ⊢
      generalize fMo_step m = y at s1 s2 s3 s4 ⊢
      obtain ⟨x, Z⟩ := x
      obtain ⟨y, M⟩ := y
      dsimp only at s1 s2 s3 s4 ⊢
      have hkM : m_code M = 0 := s2.trans hk
      rcases s4 with ⟨e1, e2, e3⟩ | ⟨e1, e2, e3⟩ | ⟨e1, e2, e3⟩
      · subst e1 e2
        have hfM : m_fault M = -1 := e3.trans hf
        rw [nf_1, if_neg (by decide), if_pos rfl, nI_1]
        obtain ⟨n, rfl⟩ : ∃ k, n = k + 1 := ⟨n - 1, by omega⟩
        obtain ⟨r1, r2, r3, r4, r5⟩ := ih n' (c_cause_s Z (-1)) M a (i + 1) (RU_cz s1 _) rfl hfM hkM ha (by omega) (by omega) (by omega) (by omega) (by omega)
        refine ⟨r1, r2, r3, r4, fun D hD hD0 => ?_⟩
        have t2 := r5 (D - 400) (by omega) (by omega)
        have t3 : zR 400 z m (c_cause_s Z (-1)) M := fun T hT ht => s3 T hT ht
        have t4 := zR_tr t3 t2 (by omega)
        have e : 400 + (D - 400) = D := by omega
        rw [e] at t4
        exact t4
      · subst e1 e2
        have hfM : ¬ m_fault M = -1 := by rw [e3]; decide
        rw [nf_0, if_neg (by decide), if_pos rfl]
        obtain ⟨n, rfl⟩ : ∃ k, n = k + 1 := ⟨n - 1, by omega⟩
        obtain ⟨n', rfl⟩ : ∃ k, n' = k + 1 := ⟨n' - 1, by omega⟩
        rw [ds_stop (show ¬ c_cause (c_cause_s Z 0) = -1 by rw [(cs_t Z 0).2]; decide), rn_stop hkM hfM]
        exact ⟨rfl, RU_cz s1 _, e3.symm, hkM, fun D hD _ => zR_le (fun T hT ht => s3 T hT ht) (by omega)⟩
      · have hx1 : ¬ x = -1 := fun e => by rw [e] at e2; exact absurd e2 (by decide)
        have hfM : ¬ m_fault M = -1 := by rw [e3]; exact hx1
        subst e1
        rw [e2, if_pos rfl, if_neg (by decide), i_add0]
        obtain ⟨n, rfl⟩ : ∃ k, n = k + 1 := ⟨n - 1, by omega⟩
        obtain ⟨n', rfl⟩ : ∃ k, n' = k + 1 := ⟨n' - 1, by omega⟩
        rw [ds_stop (show ¬ c_cause (c_cause_s Z x) = -1 by rw [(cs_t Z x).2]; exact hx1), rn_stop hkM hfM]
        exact ⟨rfl, RU_cz s1 _, e3.symm, hkM, fun D hD _ => zR_le (fun T hT ht => s3 T hT ht) (by omega)⟩
/-! what the reference's run asks for -/
def mI (m : SM) : Prop := ∃ z, RU z m
theorem mI_J {m : SM} (h : mI m) : m_J m := by
  obtain ⟨z, h⟩ := h
  have hA := h.2.2.2.2.1
  have e1 : c_upper z = m_upper m := congrArg (·.1) hA.1
  exact ⟨h.2.1.2.1, h.2.2.1.2.2, by rw [← e1]; exact hA.2.1.1⟩
theorem mI_s {m : SM} (h : mI m) : mI (fMo_step m).2 := by
  obtain ⟨z, h⟩ := h
  exact ⟨_, (step_R h).1⟩
theorem mI_c {m : SM} (v : Int32) (h : mI m) : mI (m_code_s m v) := by
  obtain ⟨z, h⟩ := h
  exact ⟨z, RU_code h v⟩
theorem mI_f {m : SM} (h : mI m) (hf : ¬ (fMo_step m).1 = true) : ¬ m_fault (fMo_step m).2 = -1 := by
  obtain ⟨z, h⟩ := h
  rcases (step_R h).2.2.2 with ⟨a, _⟩ | ⟨a, _⟩ | ⟨_, b, c⟩
  · exact absurd a hf
  · exact absurd a hf
  · intro e
    rw [← c, e] at b
    exact absurd b (by decide)
theorem mI_k {m : SM} (h : mI m) : m_code (fMo_step m).2 = m_code m := by
  obtain ⟨z, h⟩ := h
  exact (step_R h).2.1
/-! ===== the whole relation, and the calls that ask and change little ===== -/
theorem no1 : (1 : Int32) = 0 → False := by decide
theorem no2 : (2 : Int32) = 0 → False := by decide
def RF (T : Int) (z : SC) (m : SM) : Prop := RU z m ∧ tl T z m ∧ c_cause z = m_fault m
def fR (T : Int) (g : Int32 × SC × (Nat → Int64)) (m : SM) : Prop := RF T g.2.1 m ∧ m_code m = g.1
theorem RF_code {T : Int} {z : SC} {m : SM} (h : RF T z m) (x : Int32) : RF T z (m_code_s m x) := ⟨RU_code h.1 x, h.2.1, h.2.2⟩
theorem RF_le {T T' : Int} {z : SC} {m : SM} (h : RF T z m) (hT : T ≤ T') : RF T' z m := ⟨h.1, tl_le h.2.1 hT, h.2.2⟩
theorem st_cz (z : SC) (a : Int32) (v : Int64) (b : Bool) : c_cause (fDr_store z a v b) = c_cause z := by rw [store_c]; rfl
theorem RF_store {T : Int} {z : SC} {m : SM} (h : RF T z m) {a : Int32} (ha : vp_in a 200) {v : Int64} (hv : rg v) (b : Bool) : RF T (fDr_store z a v b) (fMo_write m a v b) :=
  ⟨RU_store h.1 ha hv b, ⟨by rw [st_tz, st_tm]; exact h.2.1.1, by rw [st_tz]; exact h.2.1.2.1, by rw [st_tz]; exact h.2.1.2.2⟩, by rw [st_cz, st_fm]; exact h.2.2⟩
theorem wrd_iff (v : Int64) : fMo_isWord v = true ↔ rg v := by
  rw [fMo_isWord.eq_1]
  by_cases h1 : v < 0
  · rw [if_pos h1]
    rw [Int64.lt_iff_toInt_lt, c_0] at h1
    exact ⟨fun h => (by cases h), fun h => by have := h.1; omega⟩
  · rw [if_neg h1]
    rw [Int64.lt_iff_toInt_lt, c_0] at h1
    by_cases h2 : 10000000000 ≤ v
    · rw [if_pos h2]
      rw [Int64.le_iff_toInt_le, c_T] at h2
      exact ⟨fun h => (by cases h), fun h => by have := h.2; omega⟩
    · rw [if_neg h2]
      rw [Int64.le_iff_toInt_le, c_T] at h2
      exact ⟨fun _ => ⟨by omega, by omega⟩, fun _ => rfl⟩
theorem word_R {T : Int} {z : SC} {m : SM} (h : RF T z m) (f : Nat → Int64) (a : Int32) (v : Int64) (b : Bool) : fR T (gLa_word z f a v b) (fMo_word m a v b) := by
  rw [gLa_word.eq_1, fMo_word.eq_1, adr_eq, wrd_eq]
  by_cases ha : fMo_isAddress a = true
  · rw [if_pos ha, if_pos ha]
    by_cases hv : fMo_isWord v = true
    · rw [if_pos hv, if_pos hv, fDM_word.eq_1, adr_eq, wrd_eq, if_pos ha, if_pos hv, fMo_word_24.eq_1, if_pos rfl]
      exact ⟨RF_store (RF_code h 0) (in_of ha) ((wrd_iff v).mp hv) b, st_km _ _ _ _⟩
    · rw [if_neg hv, if_neg hv, fMo_word_24.eq_1, if_neg (by decide)]
      exact ⟨RF_code h 2, rfl⟩
  · rw [if_neg ha, if_neg ha, fMo_word_24.eq_1, if_neg (by decide)]
    exact ⟨RF_code h 1, rfl⟩
theorem reserve_R {T : Int} {z : SC} {m : SM} (h : RF T z m) (f : Nat → Int64) (a : Int32) : fR T (gLa_reserve z f a) (fMo_reserve m a) := by
  rw [gLa_reserve.eq_1, fMo_reserve.eq_1, adr_eq]
  by_cases ha : fMo_isAddress a = true
  · rw [if_pos ha, if_pos ha, fDM_reserve.eq_1, adr_eq, if_pos ha, fMo_reserve_13.eq_1, if_pos (by decide), fAs_markReserved.eq_1]
    obtain ⟨s1, s2, s3, s4, s5, s6⟩ := h.1.2.2.2.2.2
    refine ⟨⟨⟨rD_mv h.1.1 rfl rfl, rC_mv h.1.2.1 rfl rfl, rP_mv h.1.2.2.1 rfl rfl, rX_mv h.1.2.2.2.1 rfl rfl rfl rfl rfl rfl, rA_mv h.1.2.2.2.2.1 rfl rfl, ⟨s1, s2, s3, s4, ?_, s6⟩⟩, h.2.1, h.2.2⟩, rfl⟩
    show updB (c_resv z) a.toNatClampNeg true = updB (m_resv m) a.toNatClampNeg true
    rw [s5]
  · rw [if_neg ha, if_neg ha, fMo_reserve_13.eq_1, if_neg (by decide)]
    exact ⟨RF_code h 1, rfl⟩
theorem place_R {T : Int} {z : SC} {m : SM} (h : RF T z m) (f : Nat → Int64) (a : Int32) : fR T (gLa_place z f a) (fMo_place m a).2 ∧ ((gLa_place z f a).1 = 0 → (gLa_place z f a).2.2 0 = ((fMo_place m a).1).toInt64) := by
  obtain ⟨s1, s2, s3, s4, s5, s6, s7⟩ := h.1.2.2.2.2.2
  have e20 : (20 : Int32).toInt = 20 := by decide
  rw [gLa_place.eq_1, fMo_place.eq_1, fAs_hasSymbol.eq_1]
  by_cases h1 : a < 0
  · rw [if_pos h1, if_pos h1, if_neg (by decide), fMo_place_11.eq_1, fMo_place_16.eq_1, if_neg (by decide)]
    exact ⟨⟨RF_code h 1, rfl⟩, fun e => (no1 e).elim⟩
  · rw [if_neg h1, if_neg h1]
    by_cases h2 : a < (20 : Int32)
    · have h3 : ¬ (20 : Int32) ≤ a := by
        rw [Int32.lt_iff_toInt_lt] at h2
        rw [Int32.le_iff_toInt_le]; omega
      rw [if_pos h2, if_neg h3, if_pos rfl, fMo_place_16.eq_1, if_pos (by decide)]
      refine ⟨⟨RF_code h 0, rfl⟩, fun _ => ?_⟩
      have hj : a.toNatClampNeg < 20 := by
        have g := i_nn h1
        have c : a.toNatClampNeg = a.toInt.toNat := rfl
        rw [Int32.lt_iff_toInt_lt, e20] at h2
        omega
      show (fDM_place z a).toInt64 = (m_plc m a.toNatClampNeg).toInt64
      rw [fDM_place.eq_1, fAs_hasSymbol.eq_1, if_neg h1, if_neg h3, if_pos rfl, fAs_placeOf.eq_1, s6 a.toNatClampNeg hj]
    · have h3 : (20 : Int32) ≤ a := by
        rw [Int32.lt_iff_toInt_lt] at h2
        rw [Int32.le_iff_toInt_le]; omega
      rw [if_neg h2, if_pos h3, if_neg (by decide), fMo_place_11.eq_1, fMo_place_16.eq_1, if_neg (by decide)]
      exact ⟨⟨RF_code h 1, rfl⟩, fun e => (no1 e).elim⟩
theorem start_R {T : Int} {z : SC} {m : SM} (h : RF T z m) (f : Nat → Int64) (a : Int32) : fR T (gLa_start z f a) (fMo_start m a) := by
  rw [gLa_start.eq_1, fMo_start.eq_1]
  by_cases h1 : a < 0
  · rw [if_pos h1, if_neg (fun e => e.1 h1), fMo_start_12.eq_1, fMo_start_17.eq_1, if_neg (by decide)]
    exact ⟨RF_code h 1, rfl⟩
  · rw [if_neg h1]
    by_cases h2 : a ≤ (9999 : Int32)
    · rw [if_pos h2, if_pos ⟨h1, h2⟩, fMo_start_17.eq_1, if_pos (by decide), fDM_start.eq_1, if_neg h1, if_pos h2, fPr_goOnFrom.eq_1]
      exact ⟨⟨RU_cause (RU_nxt (RU_code h.1 0) a) (-1) (-1), h.2.1, rfl⟩, rfl⟩
    · rw [if_neg h2, if_neg (fun e => h2 e.2), fMo_start_12.eq_1, fMo_start_17.eq_1, if_neg (by decide)]
      exact ⟨RF_code h 1, rfl⟩
theorem run_no {n : Nat} {m : SM} {a : Int32} (x : Int32) (hx : ¬ x = 0) : fMo_run_34 (n + 1) (m_code_s m x) a 0 = (0, m_code_s m x) := by
  rw [fMo_run_34.eq_2, if_neg (show ¬ m_code (m_code_s m x) = 0 from hx)]
theorem run_R {T : Int} {z : SC} {m : SM} (h : RF T z m) (hT : T + 120000 ≤ 4000000000000000000) (f : Nat → Int64) (a : Int32) : fR (T + 120000) (gLa_run z f a) (fMo_run m a).2 ∧ ((gLa_run z f a).1 = 0 → (gLa_run z f a).2.2 0 = ((fMo_run m a).1).toInt64) := by
  rw [gLa_run.eq_1, fMo_run.eq_1]
  by_cases h1 : a < 0
  · rw [if_pos h1, if_neg (fun e => e.1 h1), fMo_run_12.eq_1, fMo_run_29.eq_1, run_no 1 (by decide)]
    exact ⟨⟨RF_le (RF_code h 1) (by omega), rfl⟩, fun e => (no1 e).elim⟩
  · rw [if_neg h1]
    by_cases h2 : a ≤ (300 : Int32)
    · rw [if_pos h2, if_pos ⟨h1, h2⟩, fPr_isStopped.eq_1, h.2.2]
      by_cases h3 : m_fault m = -1
      · rw [if_pos h3, if_pos h3, if_neg (by decide), fMo_run_29.eq_1, fDM_run.eq_1, if_neg h1, if_pos h2, fPr_isStopped.eq_1, h.2.2, if_pos h3, if_neg (by decide), fPr_doSteps.eq_1]
        have ha : a.toInt ≤ 300 := le300 h2
        have ha0 : 0 ≤ a.toInt := i_nn h1
        obtain ⟨r1, r2, r3, r4, r5⟩ := ds_R 301 302 z (m_code_s m 0) a 0 (RU_code h.1 0) (h.2.2.trans h3) h3 rfl ha (by decide) (by omega) (by omega) (by decide) (by decide)
        have e0 : nI 0 = 0 := nI_0
        rw [e0] at r1 r2 r3 r4 r5
        have ht := r5 120000 (by omega) (by omega) T hT h.2.1
        generalize fPr_doSteps_4 301 z a 0 0 = x at r1 r2 r3 r4 ht ⊢
        generalize fMo_run_34 302 (m_code_s m 0) a 0 = y at r1 r2 r3 r4 ht ⊢
        refine ⟨⟨⟨r2, ht, r3⟩, r4⟩, fun _ => ?_⟩
        show x.1.toInt64 = y.1.toInt64
        rw [r1]
      · rw [if_neg h3, if_neg h3, if_pos rfl, fMo_run_29.eq_1, run_no 2 (by decide)]
        exact ⟨⟨RF_le (RF_code h 2) (by omega), rfl⟩, fun e => (no2 e).elim⟩
    · rw [if_neg h2, if_neg (fun e => h2 e.2), fMo_run_12.eq_1, fMo_run_29.eq_1, run_no 1 (by decide)]
      exact ⟨⟨RF_le (RF_code h 1) (by omega), rfl⟩, fun e => (no1 e).elim⟩
theorem register_R {T : Int} {z : SC} {m : SM} (h : RF T z m) (f : Nat → Int64) (a : Int32) : fR T (gLa_register z f a) (fMo_register m a).2 ∧ ((gLa_register z f a).1 = 0 → (gLa_register z f a).2.2 0 = (fMo_register m a).1) := by
  have hA := h.1.2.2.2.2.1
  have e1 : c_upper z = m_upper m := congrArg (·.1) hA.1
  have e2 : c_lower z = m_lower m := congrArg (·.2.1) hA.1
  rw [gLa_register.eq_1, fMo_register.eq_1]
  by_cases h0 : a = 0
  · subst h0
    rw [if_pos (.inl rfl), if_pos rfl]
    exact ⟨⟨RF_code h 0, rfl⟩, fun _ => e1⟩
  · rw [if_neg h0]
    by_cases h1 : a = 1
    · subst h1
      rw [if_pos (.inr (.inl rfl)), if_pos rfl]
      exact ⟨⟨RF_code h 0, rfl⟩, fun _ => e2⟩
    · rw [if_neg h1]
      by_cases h2 : a = 2
      · subst h2
        rw [if_pos (.inr (.inr rfl)), if_pos rfl]
        exact ⟨⟨RF_code h 0, rfl⟩, fun _ => h.1.2.2.2.1.1⟩
      · rw [if_neg h2, if_neg (fun e => by rcases e with e | e | e; exact h0 e; exact h1 e; exact h2 e)]
        exact ⟨⟨RF_code (RF_code h 0) 1, rfl⟩, fun e => (no1 e).elim⟩
