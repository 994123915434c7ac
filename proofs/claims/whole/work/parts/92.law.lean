/-! ===== the law: what holds around its loop ===== -/
def LE (p : Program) (l : Launch) (s : State) (m : MethodId) (meth : Method) (c : Code) (b L : Nat) (xs : Nat → Int32) (D : va_G) (q r : Nat → Nat) (o : Nat) (cI cJ cZ : ClassId) : Prop :=
  p.tables.exec = Jvm.exec ∧ c.code = code ∧ meth.sig.returnType = ret ∧ c.maxLocals = 8 ∧ s.vm.findClass RLa = some m.cls ∧ (∀ w ∈ Cond.tt :: wsA, w.before #[Value.ref b] s = true) ∧ va_X b L xs s s.heap ∧ b < s.heap.size ∧ meth.locks = false ∧ va_K D clA (tys3 cI cJ cZ) s ∧ xZ s ∧ ncZ s ∧ l.flags = pinnedFlags ++ [noTraceFlag] ∧ c_inj q ∧ m_inj r ∧ (∀ x, c_qs q x → s.heap.size ≤ x) ∧ (∀ x, m_qs r x → s.heap.size ≤ x) ∧ s.heap.size ≤ o ∧ (∀ x, c_qs q x → ¬ m_qs r x) ∧ ¬ c_qs q o ∧ ¬ m_qs r o ∧ L ≤ 2560
def lA (s : State) : Nat → Prop := fun x => s.heap.size ≤ x
def Lz (s : State) (D : va_G) (q r : Nat → Nat) (o : Nat) (cI cJ cZ : ClassId) (H : Heap) (locs : List Loc) (z : SC) (mm : SM) (f : Nat → Int64) (T : Int) : Prop := c_W D q cI cJ cZ z H ∧ oA o cJ f H ∧ m_W D r cI cJ cZ mm H ∧ va_S (lA s) s.heap H locs ∧ RF T z mm
def KA (p : Program) (l : Launch) (e : Env) (s : State) (m : MethodId) (below : List Frame) (meth : Method) (c : Code) (b : Nat) (D : va_G) (q r : Nat → Nat) (o : Nat) (cI cJ cZ : ClassId) (n cells slots : Nat) (T : Int) : Prop :=
  ∀ (H1 : Heap) (locs1 : List Loc) (ls1 : Array Slot) (z1 : SC) (m1 : SM) (f1 : Nat → Int64), Lz s D q r o cI cJ cZ H1 locs1 z1 m1 f1 T → lv_has ls1 8 [(0, .ref b), (1, .ref (q 0)), (2, .ref (r 0)), (3, .ref o), (4, .int (nI n))] → W p l e room_1 s m #[Value.ref b] below meth c H1 locs1 cells slots (lw_Z below #[Value.ref b] s) (F0 m 1075 ls1 [])
theorem xz_at {s : State} {H : Heap} {locs : List Loc} (hz : xZ s) (hS : va_S (lA s) s.heap H locs) : ∀ U : State, U.heap = H → s.WarmedH U.vm → xZ U := fun U hU hW => xZ_mv hW (fun q cell h _ => by
  have hlt : q < s.heap.size := (Array.getElem?_eq_some_iff.mp h).1
  rw [hU, hS.2.1 q hlt (fun h2 => Nat.not_le_of_lt hlt h2)]
  exact h) hz
theorem pr_card {T : Int} {z : SC} {mm : SM} (h : RF T z mm) : ¬ fCd_isFull z = true → vp_in ((c_cfirst z + c_ccount z) % 20) 20 := by
  intro hf
  obtain ⟨c1, ⟨c2, c3⟩, c4, c5⟩ := h.1.2.1
  obtain ⟨f1, f2⟩ := vp_in_iff.mp c4
  have f2 : (c_cfirst z).toInt < 20 := f2
  have i20 : (20 : Int32).toInt = 20 := by decide
  rw [← c1] at c2 c3
  have e1 : (c_cfirst z + c_ccount z).toInt = (c_cfirst z).toInt + (c_ccount z).toInt := by rw [Kit.i32_add (by omega) (by omega)]
  have e2 : ((c_cfirst z + c_ccount z) % 20).toInt = ((c_cfirst z).toInt + (c_ccount z).toInt) % 20 := by rw [Int32.toInt_mod, e1, i20, Int.tmod_eq_emod_of_nonneg (by omega)]
  refine vp_in_iff.mpr ⟨by rw [e2]; omega, ?_⟩
  rw [e2]
  show ((c_cfirst z).toInt + (c_ccount z).toInt) % 20 < 20
  omega
theorem pr_line {T : Int} {z : SC} {mm : SM} (h : RF T z mm) : ¬ fAs_isFull z = true → vp_in (c_acount z) 40 := by
  intro hf
  have hA := h.1.2.2.2.2.2.2.2.2.2.2.2.2.1
  have i40 : (40 : Int32).toInt = 40 := by decide
  rw [fAs_isFull.eq_1] at hf
  by_cases h1 : c_acount z < (40 : Int32)
  · rw [Int32.lt_iff_toInt_lt, i40] at h1
    exact vp_in_iff.mpr ⟨hA.1.1, h1⟩
  · rw [if_neg h1] at hf
    exact absurd rfl hf
theorem pr_pc {T : Int} {z : SC} {mm : SM} (h : RF T z mm) : 0 ≤ (c_pcount z).toInt ∧ (c_pcount z).toInt ≤ 40 := by
  rw [h.1.2.2.1.2.1]
  exact h.1.2.2.1.2.2
theorem pr_mA {T : Int} {z : SC} {mm : SM} (h : RF T z mm) : m_A mm := h.1.2.2.2.2.2.2.2.2.2.2.2.2.2.1
theorem pa_A (b : Bool) : ∀ (n : Nat) (z : SC) (v : Bool) (k : Nat), c_A z → k ≤ 40 → c_A (fAs_placeAll_12 n z b v k).2 := by
  intro n
  induction n with
  | zero => intro z v k h _; exact h
  | succ n ih =>
    intro z v k h hk40
    have h53 : ∀ w : Bool, c_A (fAs_placeAll_53 z w).2 := by
      intro w
      rw [fAs_placeAll_53.eq_1]
      split
      · exact h
      · exact A_fp h
    rw [fAs_placeAll_12.eq_2]
    by_cases h1 : c_acount z ≤ nI k
    · rw [if_pos h1]
      exact h53 v
    · rw [if_neg h1]
      rw [Int32.le_iff_toInt_le, nI_toInt (by omega)] at h1
      by_cases h2 : v = true
      · rw [if_pos h2]
        have hk : k < 40 := by
          have := h.1.2
          omega
        have hA := pa_s (b := b) (vp_in_nI hk (by decide)) h
        split
        · split
          · exact ih _ _ _ hA (by omega)
          · exact ih _ _ _ hA (by omega)
        · exact ih _ _ _ hA (by omega)
      · rw [if_neg h2]
        exact h53 v
theorem pr_asm {T : Int} {z : SC} {mm : SM} (h : RF T z mm) (b : Bool) : c_A z ∧ ((fAs_placeAll z b).1 = true → c_A (fAs_placeAll z b).2) ∧ ((fAs_placeAll z b).1 = true → ∀ i, i < 40 → (nI i) < c_acount (fAs_placeAll z b).2 → 0 ≤ (c_locs (fAs_placeAll z b).2 i).toInt) := by
  have hS := h.1.2.2.2.2.2
  have hA : c_A z := hS.2.2.2.2.2.2.2.1
  have hcm : c_acount z = m_lines mm := hS.2.2.2.2.2.2.1
  refine ⟨hA, fun _ => ?_, fun h1 => ?_⟩
  · rw [fAs_placeAll.eq_1]
    exact pa_A b 41 _ true 0 (pa_0 hA) (by omega)
  · by_cases h0 : m_lines mm = 0
    · have hz : c_acount (fAs_markTaken (fAs_forgetPlaces z)) = 0 := by
        rw [(mk_s (fAs_forgetPlaces z)).1.1, (kC_fp z).2.2.2.2.2.2.2.2.2.2, hcm, h0]
      have e : fAs_placeAll z b = (true, fAs_markTaken (fAs_forgetPlaces z)) := by
        rw [fAs_placeAll.eq_1, fAs_placeAll_12.eq_2, if_pos (by rw [hz]; decide), fAs_placeAll_53.eq_1, if_pos rfl]
      rw [e]
      dsimp only
      rw [hz]
      intro i hi hlt
      exact absurd hlt (nI_pos (by omega))
    · exact ((assemble_R h (fun _ => 0) b).2 h1 h0).2
