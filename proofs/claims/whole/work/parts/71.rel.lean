/-! one step -/
def sR (D : Int) (z : SC) (m : SM) (x : Int32 × SC) (y : Bool × SM) : Prop :=
  RU x.2 y.2 ∧ m_code y.2 = m_code m ∧ zR D z m x.2 y.2 ∧
  ((y.1 = true ∧ x.1 = -1 ∧ m_fault y.2 = m_fault m) ∨ (y.1 = true ∧ x.1 = 0 ∧ m_fault y.2 = 0) ∨ (y.1 = false ∧ fPr_isFault x.1 = true ∧ m_fault y.2 = x.1))
theorem sR_mv {D D' : Int} {z z' : SC} {m m' : SM} {x : Int32 × SC} {y : Bool × SM} (h : sR D z' m' x y) (hD : 0 ≤ D) (ht : zR D' z m z' m') (hc : m_code m' = m_code m) (hf : m_fault m' = m_fault m) : sR (D' + D) z m x y :=
  ⟨h.1, h.2.1.trans hc, zR_tr ht h.2.2.1 hD, by
    rcases h.2.2.2 with ⟨a, b, c⟩ | h2 | h2
    · exact .inl ⟨a, b, c.trans hf⟩
    · exact .inr (.inl h2)
    · exact .inr (.inr h2)⟩
theorem sR_stop {D : Int} (hD : 0 ≤ D) {z : SC} {m : SM} (h : RU z m) {a w : Int32} (hw : m_nxt m = w) (ha : fPr_isFault a = true) : sR D z m (a, z) ((fMo_stop m a w).1, (fMo_stop m a w).2) :=
  ⟨RU_stop h hw, rfl, zR_same hD rfl rfl, .inr (.inr ⟨rfl, ha, rfl⟩)⟩
theorem sp_68 {Z Z2 : SC} {v : Int64} {o d a : Int32} {b : Bool} (ha : fPr_isFault a = false) (ht : fPr_takesBranch (c_time_s Z (c_time Z + (fOp_fixedTime o d).toInt64)) o = (b, Z2)) : fPr_step_68 Z v o d a = (a, c_nxt_s Z2 (if b = true then d else fDg_nextAddressOf v)) := by
  rw [fPr_step_68.eq_1, ha, if_neg (by decide), fPr_step_95.eq_1, ht]
  cases b <;> simp
theorem sp_68f {Z : SC} {v : Int64} {o d a : Int32} (ha : fPr_isFault a = true) : fPr_step_68 Z v o d a = (a, Z) := by
  rw [fPr_step_68.eq_1, ha, if_pos rfl]
theorem ts_acc (z : SC) (t : Int64) : c_acc (c_time_s z t) = c_acc z ∧ c_dist (c_time_s z t) = c_dist z := ⟨rfl, rfl⟩
/-- an operation with no access that shifts nothing -/
theorem pl_215 {M : SM} {o d nx : Int32} {g : Bool} (n47 : ¬ o = 47) (n1 : ¬ o = 1) (n30 : ¬ o = 30) (n31 : ¬ o = 31) (n35 : ¬ o = 35) : fMo_step_215 M o d nx g = (true, m_time_s (m_nxt_s M (if g = true then d else nx)) (m_time M + (fMo_fixed o d).toInt64)) := by
  rw [fMo_step_215.eq_1]
  cases g
  · rw [if_neg (by decide), if_neg (by decide), fMo_step_228.eq_1, if_neg n47, fMo_step_243.eq_1, if_neg n1, fMo_step_254.eq_1, if_neg n30, if_neg n31, fMo_step_309.eq_1, if_neg n35, fMo_step_325.eq_1]
    rfl
  · rw [if_pos rfl, if_pos rfl, fMo_step_228.eq_1, if_neg n47, fMo_step_243.eq_1, if_neg n1, fMo_step_254.eq_1, if_neg n30, if_neg n31, fMo_step_309.eq_1, if_neg n35, fMo_step_325.eq_1]
    rfl
theorem pl_47 {M : SM} {d nx : Int32} {g : Bool} : fMo_step_215 M 47 d nx g = (true, m_time_s (m_ovf_s (m_nxt_s M (if g = true then d else nx)) false) (m_time M + (fMo_fixed 47 d).toInt64)) := by
  rw [fMo_step_215.eq_1]
  cases g
  · rw [if_neg (by decide), if_neg (by decide), fMo_step_228.eq_1, if_pos rfl, fMo_step_243.eq_1, if_neg (by decide), fMo_step_254.eq_1, if_neg (by decide), if_neg (by decide), fMo_step_309.eq_1, if_neg (by decide), fMo_step_325.eq_1]
    rfl
  · rw [if_pos rfl, if_pos rfl, fMo_step_228.eq_1, if_pos rfl, fMo_step_243.eq_1, if_neg (by decide), fMo_step_254.eq_1, if_neg (by decide), if_neg (by decide), fMo_step_309.eq_1, if_neg (by decide), fMo_step_325.eq_1]
    rfl
theorem pl_1 {M : SM} {d nx : Int32} {g : Bool} : fMo_step_215 M 1 d nx g = (true, m_time_s (m_fault_s (m_nxt_s M (if g = true then d else nx)) 0) (m_time M + (fMo_fixed 1 d).toInt64)) := by
  rw [fMo_step_215.eq_1]
  cases g
  · rw [if_neg (by decide), if_neg (by decide), fMo_step_228.eq_1, if_neg (by decide), fMo_step_243.eq_1, if_pos rfl, fMo_step_254.eq_1, if_neg (by decide), if_neg (by decide), fMo_step_309.eq_1, if_neg (by decide), fMo_step_325.eq_1]
    rfl
  · rw [if_pos rfl, if_pos rfl, fMo_step_228.eq_1, if_neg (by decide), fMo_step_243.eq_1, if_pos rfl, fMo_step_254.eq_1, if_neg (by decide), if_neg (by decide), fMo_step_309.eq_1, if_neg (by decide), fMo_step_325.eq_1]
    rfl
theorem fin_pl {z : SC} {m : SM} (h : RU z m) (x : Int32) (t u : Int64) : RU (c_nxt_s (c_time_s z t) x) (m_time_s (m_nxt_s m x) u) := RU_nxt (RU_time h t u) x
theorem fin_47 {z : SC} {m : SM} (h : RU z m) (x : Int32) (t u : Int64) : RU (c_nxt_s (c_ovf_s (c_time_s z t) false) x) (m_time_s (m_ovf_s (m_nxt_s m x) false) u) := RU_nxt (RU_ovf (RU_time h t u) false) x
theorem fin_1 {z : SC} {m : SM} (h : RU z m) (x : Int32) (t u : Int64) : RU (c_nxt_s (c_time_s z t) x) (m_time_s (m_fault_s (m_nxt_s m x) 0) u) := RU_nxt (RU_time (RU_flt h 0) t u) x
theorem fin_sh {z : SC} {m : SM} (h : RU z m) {w : Acc} (hw : aOk w) (x : Int32) (t u : Int64) : RU (c_nxt_s (c_time_s (c_acc_s z w) t) x) (m_time_s (m_acc_s (m_nxt_s m x) w) u) := RU_nxt (RU_time (RU_acc h hw) t u) x
/-- the rest of sR, by variables -/
theorem fin_R {z Z : SC} {m M : SM} {f : Int64} (h : RU Z M) (hk : m_code M = m_code m) (hff : m_fault M = m_fault m) (hf : 0 ≤ f.toInt ∧ f.toInt ≤ 20) (e : c_time Z = c_time z + f) (e' : m_time M = m_time m + f) : sR 300 z m (-1, Z) (true, M) :=
  ⟨h, hk, zR_add (x := f) ⟨hf.1, Int.le_trans hf.2 (by omega)⟩ e e', .inl ⟨rfl, rfl, hff⟩⟩
theorem fin_R0 {z Z : SC} {m M : SM} {f : Int64} (h : RU Z M) (hk : m_code M = m_code m) (hff : m_fault M = 0) (hf : 0 ≤ f.toInt ∧ f.toInt ≤ 20) (e : c_time Z = c_time z + f) (e' : m_time M = m_time m + f) : sR 300 z m (0, Z) (true, M) :=
  ⟨h, hk, zR_add (x := f) ⟨hf.1, Int.le_trans hf.2 (by omega)⟩ e e', .inr (.inl ⟨rfl, rfl, hff⟩)⟩
theorem pl_R {z : SC} {m : SM} (h : RU z m) {o d : Int32} {v : Int64} (ho : 0 ≤ o.toInt ∧ o.toInt ≤ 99) (hd : 0 ≤ d.toInt) (n1 : ¬ o = 1) (n30 : ¬ o = 30) (n31 : ¬ o = 31) (n35 : ¬ o = 35) : sR 300 z m (fPr_step_68 z v o d (-1)) (fMo_step_215 m o d (fDg_nextAddressOf v) (fMo_branches m o)) := by
  have hf := fx_b (o := o) hd
  have hb := br_R (z := c_time_s z (c_time z + (fOp_fixedTime o d).toInt64)) (m := m) ⟨h.2.2.2.1.1, h.2.2.2.1.2.1⟩ h.2.2.2.2.1.1 ho
  rw [sp_68 nf_1 hb]
  by_cases n47 : o = 47
  · subst n47
    rw [pl_47, if_pos rfl, ← fx_eq]
    generalize (if fMo_branches m 47 = true then d else fDg_nextAddressOf v) = x
    generalize (fOp_fixedTime 47 d).toInt64 = f at hf ⊢
    exact fin_R (fin_47 h x _ _) rfl rfl hf rfl rfl
  · rw [pl_215 n47 n1 n30 n31 n35, if_neg n47]
    rw [← fx_eq]
    generalize (if fMo_branches m o = true then d else fDg_nextAddressOf v) = x
    generalize (fOp_fixedTime o d).toInt64 = f at hf ⊢
    exact fin_R (fin_pl h x _ _) rfl rfl hf rfl rfl
theorem p1_R {z : SC} {m : SM} (h : RU z m) {d : Int32} {v : Int64} (hd : 0 ≤ d.toInt) : sR 300 z m (fPr_step_68 z v 1 d 0) (fMo_step_215 m 1 d (fDg_nextAddressOf v) (fMo_branches m 1)) := by
  have hf := fx_b (o := 1) hd
  have hb := br_R (z := c_time_s z (c_time z + (fOp_fixedTime 1 d).toInt64)) (m := m) (o := 1) ⟨h.2.2.2.1.1, h.2.2.2.1.2.1⟩ h.2.2.2.2.1.1 (by decide)
  rw [if_neg (by decide)] at hb
  rw [sp_68 nf_0 hb, pl_1, ← fx_eq]
  generalize (if fMo_branches m 1 = true then d else fDg_nextAddressOf v) = x
  generalize (fOp_fixedTime 1 d).toInt64 = f at hf ⊢
  exact fin_R0 (fin_1 h x _ _) rfl rfl hf rfl rfl
/-! shifts -/
theorem sh_nb (z : SC) (m : SM) : (fPr_takesBranch z 30 = (false, z) ∧ fMo_branches m 30 = false) ∧ (fPr_takesBranch z 31 = (false, z) ∧ fMo_branches m 31 = false) ∧ (fPr_takesBranch z 35 = (false, z) ∧ fMo_branches m 35 = false) := by
  refine ⟨⟨?_, ?_⟩, ⟨?_, ?_⟩, ⟨?_, ?_⟩⟩
  · rw [fPr_takesBranch.eq_1, if_neg (by decide), if_neg (by decide), if_neg (by decide), if_neg (by decide), if_neg (by decide)]
  · rw [fMo_branches.eq_1, if_neg (by decide), if_neg (by decide), if_neg (by decide), if_neg (by decide), fMo_branches_90.eq_2, if_pos (by decide), if_pos (by decide)]
  · rw [fPr_takesBranch.eq_1, if_neg (by decide), if_neg (by decide), if_neg (by decide), if_neg (by decide), if_neg (by decide)]
  · rw [fMo_branches.eq_1, if_neg (by decide), if_neg (by decide), if_neg (by decide), if_neg (by decide), fMo_branches_90.eq_2, if_pos (by decide), if_pos (by decide)]
  · rw [fPr_takesBranch.eq_1, if_neg (by decide), if_neg (by decide), if_neg (by decide), if_neg (by decide), if_neg (by decide)]
  · rw [fMo_branches.eq_1, if_neg (by decide), if_neg (by decide), if_neg (by decide), if_neg (by decide), fMo_branches_90.eq_2, if_pos (by decide), if_pos (by decide)]
theorem m10 {d : Int32} (hd : 0 ≤ d.toInt) : (d % 10).toInt = ((d.toInt % 10).toNat : Nat) ∧ (d.toInt % 10).toNat ≤ 9 := by
  have e : (d % 10).toInt = d.toInt % 10 := by rw [Int32.toInt_mod, i10, Int.tmod_eq_emod_of_nonneg hd]
  rw [e]
  omega
theorem sh_fin {z : SC} {m : SM} (h : RU z m) {o d nx : Int32} {v : Int64} (hd : 0 ≤ d.toInt) {w : Acc} (hw : aOk w) (hn : nx = fDg_nextAddressOf v) (hb : ∀ Z, fPr_takesBranch Z o = (false, Z)) : sR 300 z m (fPr_step_68 (c_acc_s z w) v o d (-1)) (true, m_time_s (m_acc_s (m_nxt_s m nx) w) (m_time m + (fMo_fixed o d).toInt64)) := by
  have hf := fx_b (o := o) hd
  rw [sp_68 nf_1 (hb _), if_neg (by decide), hn, ← fx_eq]
  generalize fDg_nextAddressOf v = x
  generalize (fOp_fixedTime o d).toInt64 = f at hf ⊢
  exact fin_R (fin_sh h hw x _ _) rfl rfl hf rfl rfl
theorem mn_acc (m : SM) (x : Int32) : m_acc (m_nxt_s m x) = m_acc m := rfl
theorem sh_325 (m : SM) (x o d : Int32) (w : Acc) : fMo_step_325 (m_acc_s (m_nxt_s m x) w) o d = (true, m_time_s (m_acc_s (m_nxt_s m x) w) (m_time m + (fMo_fixed o d).toInt64)) := by
  rw [fMo_step_325.eq_1]
  rfl
theorem sh30 {z : SC} {m : SM} (h : RU z m) {d : Int32} {v : Int64} (hd : 0 ≤ d.toInt) : sR 300 z m (fPr_step_68 (fPr_shift z 30 (fOp_shiftLength 30 d)) v 30 d (-1)) (fMo_step_215 m 30 d (fDg_nextAddressOf v) (fMo_branches m 30)) := by
  have hA := h.2.2.2.2.1
  obtain ⟨e1, e2⟩ := m10 hd
  obtain ⟨w, hw, hc, hm⟩ := sr_both (z := z) (m := m_nxt_s m (fDg_nextAddressOf v)) e1 (by omega) hA.1 hA.2
  rw [fPr_shift.eq_1, if_neg (by decide), if_pos rfl, fOp_shiftLength.eq_1, if_neg (by decide), hc, (sh_nb z m).1.2]
  rw [fMo_step_215.eq_1, if_neg (by decide), fMo_step_228.eq_1, if_neg (by decide), fMo_step_243.eq_1, if_neg (by decide), fMo_step_254.eq_1, if_pos rfl, fMo_step_268.eq_1, if_neg (by decide), fMo_step_289.eq_1, fMo_step_294.eq_1, if_neg (by decide), fMo_step_306.eq_1, hm, fMo_step_309.eq_1, if_neg (by decide), sh_325]
  exact sh_fin h hd hw rfl (fun Z => (sh_nb Z m).1.1)
theorem sh35 {z : SC} {m : SM} (h : RU z m) {d : Int32} {v : Int64} (hd : 0 ≤ d.toInt) : sR 300 z m (fPr_step_68 (fPr_shift z 35 (fOp_shiftLength 35 d)) v 35 d (-1)) (fMo_step_215 m 35 d (fDg_nextAddressOf v) (fMo_branches m 35)) := by
  have hA := h.2.2.2.2.1
  obtain ⟨e1, e2⟩ := m10 hd
  obtain ⟨w, hw, hc, hm⟩ := sl_both (z := z) (m := m_nxt_s m (fDg_nextAddressOf v)) e1 (by omega) hA.1 hA.2
  rw [fPr_shift.eq_1, if_pos rfl, fOp_shiftLength.eq_1, if_neg (by decide), hc, (sh_nb z m).2.2.2]
  rw [fMo_step_215.eq_1, if_neg (by decide), fMo_step_228.eq_1, if_neg (by decide), fMo_step_243.eq_1, if_neg (by decide), fMo_step_254.eq_1, if_neg (by decide), if_neg (by decide), fMo_step_309.eq_1, if_pos rfl, hm, sh_325]
  exact sh_fin h hd hw rfl (fun Z => (sh_nb Z m).2.2.1)
theorem sh31r (m : SM) (d nx : Int32) : fMo_step_215 m 31 d nx false = (if (d % 10) = 0 then fMo_step_294 (m_nxt_s m nx) 10 31 d else fMo_step_289 (m_nxt_s m nx) 31 d) := by
  rw [fMo_step_215.eq_1, if_neg (by decide), fMo_step_228.eq_1, if_neg (by decide), fMo_step_243.eq_1, if_neg (by decide), fMo_step_254.eq_1, if_neg (by decide), if_pos rfl, fMo_step_268.eq_1, if_pos rfl]
theorem sh31 {z : SC} {m : SM} (h : RU z m) {d : Int32} {v : Int64} (hd : 0 ≤ d.toInt) : sR 300 z m (fPr_step_68 (fPr_shift z 31 (fOp_shiftLength 31 d)) v 31 d (-1)) (fMo_step_215 m 31 d (fDg_nextAddressOf v) (fMo_branches m 31)) := by
  have hA := h.2.2.2.2.1
  obtain ⟨e1, e2⟩ := m10 hd
  rw [fPr_shift.eq_1, if_neg (by decide), if_neg (by decide), fOp_shiftLength.eq_1, if_pos rfl, (sh_nb z m).2.1.2, sh31r]
  by_cases h0 : d % 10 = 0
  · obtain ⟨w, hw, hc, hm⟩ := srr_both (z := z) (m := m_nxt_s m (fDg_nextAddressOf v)) (x := 10) (X := 10) (by decide) (by omega) (by omega) hA.1 hA.2
    rw [if_pos h0, if_pos h0, hc, fMo_step_294.eq_1, if_pos rfl, fMo_step_306.eq_1, hm, fMo_step_309.eq_1, if_neg (by decide), sh_325]
    exact sh_fin h hd hw rfl (fun Z => (sh_nb Z m).2.1.1)
  · have h1 : 1 ≤ (d.toInt % 10).toNat := by
      have h2 : (d % 10).toInt ≠ 0 := fun h3 => h0 (Int32.toInt_inj.mp (by rw [h3]; decide))
      omega
    obtain ⟨w, hw, hc, hm⟩ := srr_both (z := z) (m := m_nxt_s m (fDg_nextAddressOf v)) e1 h1 (by omega) hA.1 hA.2
    rw [if_neg h0, if_neg h0, hc, fMo_step_289.eq_1, fMo_step_294.eq_1, if_pos rfl, fMo_step_306.eq_1, hm, fMo_step_309.eq_1, if_neg (by decide), sh_325]
    exact sh_fin h hd hw rfl (fun Z => (sh_nb Z m).2.1.1)
theorem sh_in : ∀ k : Fin 100, fMo_shifts (nI k.val) = true → nI k.val = 30 ∨ nI k.val = 31 ∨ nI k.val = 35 := by decide +kernel
theorem sh_of {o : Int32} (ho : fMo_shifts o = true) : o = 30 ∨ o = 31 ∨ o = 35 := by
  rcases op_in o with ⟨k, rfl⟩ | h
  · exact sh_in k ho
  · rw [shifts_out h] at ho
    cases ho
/-- an operation that accesses nothing -/
theorem na_R {z : SC} {m : SM} (h : RU z m) {o d : Int32} {v : Int64} (ho : 0 ≤ o.toInt ∧ o.toInt ≤ 99) (hd : 0 ≤ d.toInt) (hop : fMo_isOperation o = true) (hr : fMo_reads o = false) (hw : fMo_writes o = false) : sR 300 z m (fPr_step_68 (fPr_operate z o d).2 v o d (fPr_operate z o d).1) (fMo_step_215 m o d (fDg_nextAddressOf v) (fMo_branches m o)) := by
  obtain ⟨q1, q2, q3, q4⟩ := ops_eq o
  rw [fPr_operate.eq_1, q1, if_pos hop]
  by_cases n1 : o = 1
  · subst n1
    rw [if_pos rfl]
    exact p1_R h hd
  · rw [if_neg n1, q2]
    by_cases hs : fMo_shifts o = true
    · rw [if_pos hs]
      rcases sh_of hs with rfl | rfl | rfl
      · exact sh30 h hd
      · exact sh31 h hd
      · exact sh35 h hd
    · have n30 : ¬ o = 30 := fun e => hs (by rw [e]; decide)
      have n31 : ¬ o = 31 := fun e => hs (by rw [e]; decide)
      have n35 : ¬ o = 35 := fun e => hs (by rw [e]; decide)
      rw [if_neg hs, q4, hr, hw, if_neg (by decide)]
      exact pl_R h ho hd n1 n30 n31 n35
/-! operations with an access -/
theorem oR_fin {z : SC} {m : SM} {o d : Int32} {v : Int64} {x : Int32 × SC} {y : Bool × SM} (ho : (fMo_reads o || fMo_writes o) = true) (hx : oR z m o d x y) : sR 300 z m (fPr_step_68 x.2 v o d x.1) (fMo_step_191 y.2 y.1 (fDg_nextAddressOf v)) := by
  obtain ⟨a, Z⟩ := x
  obtain ⟨g, M⟩ := y
  obtain ⟨h1, h2, h3⟩ := hx
  rw [fMo_step_191.eq_1, fMo_step_193.eq_1]
  rcases h3 with ⟨e1, e2, e3, e4⟩ | ⟨e1, e2, e3, e4⟩
  · have e1 : g = true := e1
    have e2 : a = -1 := e2
    subst e1 e2
    dsimp only at h1 h2 e3 e4 ⊢
    rw [sp_68 nf_1 (nb_R ho _), if_neg (by decide), if_pos rfl]
    exact ⟨RU_nxt (RU_tz h1 _) _, h2, fun T hT ht => e4 T hT ht, .inl ⟨rfl, rfl, e3⟩⟩
  · have e1 : g = false := e1
    subst e1
    dsimp only at h1 h2 e2 e3 e4 ⊢
    rw [sp_68f e2, if_neg (by decide)]
    exact ⟨h1, h2, e4, .inr (.inr ⟨rfl, e2, e3⟩)⟩
theorem rd_bad {z : SC} {o d : Int32} (hd : vp_in d 200) (hi : ¬ fDr_isValid z d = true) : fPr_read z o d = (1, z) := by
  rw [fPr_read.eq_1]
  by_cases h84 : o = 84
  · obtain ⟨e1, e2, e3, e4⟩ := lk_end hd
    obtain ⟨d1, d2⟩ := vp_in_iff.mp hd
    have hne : ¬ ((d / 50) * 50) + 50 ≤ d := by
      rw [Int32.le_iff_toInt_le]
      have d3 : (((d / 50) * 50) + 50).toInt = d.toInt / 50 * 50 + 50 := by
        have d2 : d.toInt < 200 := d2
        have d1' : (d / 50).toInt = d.toInt / 50 := by rw [Kit.i32_div (by intro h; omega), i50, Int.tdiv_eq_ediv_of_nonneg d1]
        have d2' : ((d / 50) * 50).toInt = d.toInt / 50 * 50 := by rw [Kit.i32_mul (by rw [d1', i50]; omega) (by rw [d1', i50]; omega), d1', i50]
        rw [Kit.i32_add (by rw [d2', i50]; omega) (by rw [d2', i50]; omega), d2', i50]
      rw [d3]
      omega
    rw [if_pos h84, fPr_lookUp.eq_1, e1, fPr_lookUp_12.eq_2, if_neg hne, if_pos (by rw [Int32.le_iff_toInt_le]; omega), if_neg hi]
  · rw [if_neg h84, if_neg hi]
theorem ac_in : ∀ k : Fin 100, (fMo_reads (nI k.val) || fMo_writes (nI k.val)) = true → fMo_isOperation (nI k.val) = true ∧ ¬ nI k.val = 1 ∧ fMo_shifts (nI k.val) = false ∧ (fMo_writes (nI k.val) = true → fMo_reads (nI k.val) = false) := by decide +kernel
theorem ac_of {o : Int32} (ho : (fMo_reads o || fMo_writes o) = true) : fMo_isOperation o = true ∧ ¬ o = 1 ∧ fMo_shifts o = false ∧ (fMo_writes o = true → fMo_reads o = false) := by
  rcases op_in o with ⟨k, rfl⟩ | h
  · exact ac_in k ho
  · rw [reads_out h, writes_out h] at ho
    cases ho
theorem acs_k (m : SM) (a : Int32) : m_code (fMo_access m a) = m_code m ∧ m_fault (fMo_access m a) = m_fault m ∧ m_nxt (fMo_access m a) = m_nxt m := by
  rw [acs_m]
  exact ⟨rfl, rfl, rfl⟩
theorem rw_R {z : SC} {m : SM} (h : RU z m) {o d w : Int32} {v : Int64} (hw : m_nxt m = w) (ho : (fMo_reads o || fMo_writes o) = true) : sR 350 z m (fPr_step_68 (fPr_operate z o d).2 v o d (fPr_operate z o d).1) (fMo_step_102 m w o d (fDg_nextAddressOf v)) := by
  obtain ⟨q1, q2, q3, q4⟩ := ops_eq o
  obtain ⟨a1, a2, a3, a4⟩ := ac_of ho
  rw [fPr_operate.eq_1, q1, if_pos a1, if_neg a2, q2, a3, if_neg (by decide), q4, if_pos ho, fMo_step_102.eq_1, adr_eq]
  by_cases hd : fMo_isAddress d = true
  · rw [if_pos hd, if_pos hd]
    have hin := in_of hd
    have hR := RU_acs h d
    have ht := acs_R z m hin
    obtain ⟨k1, k2, k3⟩ := acs_k m d
    generalize fPr_waitAndAccess z d = Z at hR ht ⊢
    generalize fMo_access m d = M at hR ht k1 k2 k3 ⊢
    have e350 : (350 : Int) = 50 + 300 := by omega
    rw [e350]
    refine sR_mv ?_ (by omega) ht k1 k2
    rw [q3, fMo_step_131.eq_1]
    by_cases hr : fMo_reads o = true
    · have hwf : ¬ fMo_writes o = true := fun e => by rw [a4 e] at hr; cases hr
      rw [if_pos hr, if_neg hwf]
      by_cases hv : 0 ≤ fMo_value M d
      · rw [if_pos hv, fMo_step_153.eq_1, if_pos hr]
        exact oR_fin ho (rd_R hR (k3.trans hw) hin hr hv)
      · have hi : ¬ fDr_isValid Z d = true := fun e => hv ((vd_R hR.1 hin).1.mp e)
        rw [if_neg hv, rd_bad hin hi, sp_68f nf_11]
        exact sR_stop (by omega) hR (k3.trans hw) nf_11
    · have hwt : fMo_writes o = true := by
        cases h1 : fMo_reads o
        · rw [h1] at ho; exact ho
        · exact absurd h1 hr
      rw [if_neg hr, if_pos hwt, fMo_step_153.eq_1, if_neg hr]
      exact oR_fin ho (wr_R hR (k3.trans hw) hin hwt)
  · rw [if_neg hd, if_neg hd, sp_68f nf_2]
    exact sR_stop (by omega) h hw nf_2
/-! the step -/
theorem op_b {v : Int64} (hv : rg v) : (0 ≤ (fDg_operationOf v).toInt ∧ (fDg_operationOf v).toInt ≤ 99) ∧ 0 ≤ (fDg_dataAddressOf v).toInt := by
  obtain ⟨d1, d2, d3⟩ := da_eq hv
  rw [← d1, Kit.i64_of_i32] at d2
  have e : (v / 100000000).toInt = v.toInt / 100000000 := by rw [l_div hv.1 (by rw [l8]; decide), l8]
  have hb : 0 ≤ v.toInt / 100000000 ∧ v.toInt / 100000000 ≤ 99 := by
    have h1 := hv.1
    have h2 := hv.2
    omega
  rw [fDg_operationOf.eq_1, Kit.i32_of_i64 (by rw [e]; omega) (by rw [e]; omega), e]
  exact ⟨hb, d2⟩
theorem op_m (v : Int64) : (v / 100000000).toInt32 = fDg_operationOf v ∧ ((v / 10000) % 10000).toInt32 = fDg_dataAddressOf v ∧ (v % 10000).toInt32 = fDg_nextAddressOf v := ⟨rfl, rfl, rfl⟩
theorem acs_n (z : SC) (a : Int32) : c_nxt (fPr_waitAndAccess z a) = c_nxt z := by
  rw [acs_c]
  rfl
theorem sR_le {D D' : Int} {z : SC} {m : SM} {x : Int32 × SC} {y : Bool × SM} (h : sR D z m x y) (hD : D ≤ D') : sR D' z m x y := ⟨h.1, h.2.1, zR_le h.2.2.1 hD, h.2.2.2⟩
theorem step_R {z : SC} {m : SM} (h : RU z m) : sR 400 z m (fPr_step z) (fMo_step m) := by
  have hn := h.2.2.2.1.2.2.2
  rw [fPr_step.eq_1, fMo_step.eq_1, fMo_step_5.eq_1, acs_n, hn, adr_eq]
  by_cases ha : fMo_isAddress (m_nxt m) = true
  · rw [if_pos ha, if_pos ha]
    have hin := in_of ha
    have hR := RU_acs h (m_nxt m)
    have ht := acs_R z m hin
    obtain ⟨k1, k2, k3⟩ := acs_k m (m_nxt m)
    generalize fPr_waitAndAccess z (m_nxt m) = Z at hR ht ⊢
    generalize fMo_access m (m_nxt m) = M at hR ht k1 k2 k3 ⊢
    generalize m_nxt m = w at hin k3 ⊢
    have e400 : (400 : Int) = 50 + 350 := by omega
    rw [e400]
    refine sR_mv ?_ (by omega) ht k1 k2
    rw [fMo_step_30.eq_1]
    by_cases hi : fDr_isValid Z w = true
    · have hv := (vd_R hR.1 hin).1.mp hi
      have hg := (vd_R hR.1 hin).2 hi
      obtain ⟨o1, o2⟩ := op_b hg
      rw [if_pos hi, if_pos hv, (vl_R hR.1 hin).1, fPr_step_48.eq_1]
      generalize fMo_value M w = v at hg hv o1 o2 ⊢
      obtain ⟨p1, p2, p3⟩ := op_m v
      rw [p1, p2, p3, fMo_step_71.eq_1]
      generalize fDg_operationOf v = o at o1 ⊢
      generalize fDg_dataAddressOf v = d at o2 ⊢
      by_cases hop : fMo_isOperation o = true
      · rw [if_pos hop]
        by_cases hr : fMo_reads o = true
        · rw [if_pos hr]
          exact rw_R hR k3 (by rw [hr]; rfl)
        · rw [if_neg hr]
          by_cases hw : fMo_writes o = true
          · rw [if_pos hw]
            exact rw_R hR k3 (by rw [hw, Bool.or_true])
          · rw [if_neg hw]
            exact sR_le (na_R hR o1 o2 hop (by cases h1 : fMo_reads o; rfl; exact absurd h1 hr) (by cases h1 : fMo_writes o; rfl; exact absurd h1 hw)) (by omega)
      · rw [if_neg hop, fPr_operate.eq_1, (ops_eq o).1, if_neg hop, sp_68f nf_2]
        exact sR_stop (by omega) hR k3 nf_2
    · have hv : ¬ 0 ≤ fMo_value M w := fun e => hi ((vd_R hR.1 hin).1.mpr e)
      rw [if_neg hi, if_neg hv]
      exact sR_stop (by omega) hR k3 nf_11
  · rw [if_neg ha, if_neg ha]
    exact sR_stop (by omega) h rfl nf_2
