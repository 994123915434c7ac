/-! ===== pure part: the assembler: searching a free place ===== -/
def sq (b : Bool) (x : Int) (k : Nat) : Nat := if b = true then ((x + (k / 4 : Nat)) % 50 + 50 * (k % 4 : Nat)).toNat else k
def ffS (f : Nat → Bool) (b : Bool) (x : Int) : Nat → Nat → Option Nat
  | 0, _ => none
  | n + 1, k => if f (sq b x k) = true then ffS f b x n (k + 1) else some (sq b x k)
def oI : Option Nat → Int32
  | none => -1
  | some a => nI a
theorem sq_lt {b : Bool} {x : Int} {k : Nat} (hk : k < 200) : sq b x k < 200 := by
  unfold sq
  by_cases h : b = true
  · rw [if_pos h]; omega
  · rw [if_neg h]; exact hk
theorem ff_lt : ∀ (n k : Nat) (f : Nat → Bool) (b : Bool) (x : Int), k + n ≤ 200 → ∀ a, ffS f b x n k = some a → a < 200 := by
  intro n
  induction n with
  | zero => intro k f b x _ a h; cases h
  | succ n ih =>
    intro k f b x hk a h
    rw [ffS.eq_2] at h
    by_cases hf : f (sq b x k) = true
    · rw [if_pos hf] at h
      exact ih (k + 1) f b x (by omega) a h
    · rw [if_neg hf] at h
      cases h
      exact sq_lt (by omega)
theorem lf_eq (z : SC) (x : Int) : ∀ (n k : Nat), k ≤ 200 → 200 - k < n → fAs_leastFree_2 n z k = oI (ffS (c_taken z) false x (200 - k) k) := by
  intro n
  induction n with
  | zero => intro k _ h; omega
  | succ n ih =>
    intro k hk hn
    rw [fAs_leastFree_2.eq_2]
    by_cases h : 200 ≤ k
    · have e : 200 - k = 0 := by omega
      rw [if_pos h, e]
      rfl
    · have e : 200 - k = (200 - (k + 1)) + 1 := by omega
      have es : sq false x k = k := if_neg (by decide)
      rw [if_neg h, e, ffS.eq_2, es, nI_clamp (by omega)]
      by_cases hf : c_taken z k = true
      · rw [if_pos hf, if_pos hf]
        exact ih (k + 1) (by omega) (by omega)
      · rw [if_neg hf, if_neg hf]
        rfl
theorem in_eq {K : SC → Int32 → Nat → Int32} {z : SC} {a : Int32} {t : Nat} (ha : 0 ≤ a.toInt) (ht : t < 50) (hK : K z a (t + 1) = oI (ffS (c_taken z) true a.toInt (200 - 4 * (t + 1)) (4 * (t + 1)))) : ∀ (n j : Nat) (v : Int32), j ≤ 4 → 4 - j < n → v.toInt = (a.toInt + t) % 50 + 50 * j → fAs_firstFreeFromAngle_18 K n z a t v = oI (ffS (c_taken z) true a.toInt (200 - (4 * t + j)) (4 * t + j)) := by
  intro n
  induction n with
  | zero => intro j v _ h; omega
  | succ n ih =>
    intro j v hj hn hv
    have e200 : (200 : Int32).toInt = 200 := by decide
    rw [fAs_firstFreeFromAngle_18.eq_2]
    by_cases h : (200 : Int32) ≤ v
    · rw [if_pos h, hK]
      rw [Int32.le_iff_toInt_le, e200] at h
      have e : j = 4 := by omega
      have e2 : 4 * (t + 1) = 4 * t + 4 := by omega
      rw [e, e2]
    · rw [if_neg h]
      rw [Int32.le_iff_toInt_le, e200] at h
      have hj3 : j < 4 := by omega
      have e : 200 - (4 * t + j) = (200 - (4 * t + (j + 1))) + 1 := by omega
      have d1 : (4 * t + j) / 4 = t := by omega
      have d2 : (4 * t + j) % 4 = j := by omega
      have es : sq true a.toInt (4 * t + j) = v.toInt.toNat := by
        unfold sq
        rw [if_pos rfl, d1, d2, hv]
      have ec : v.toNatClampNeg = v.toInt.toNat := rfl
      rw [e, ffS.eq_2, es, ec]
      by_cases hf : c_taken z v.toInt.toNat = true
      · rw [if_pos hf, if_pos hf]
        refine ih (j + 1) (v + 50) (by omega) (by omega) ?_
        rw [Kit.i32_add (by rw [i50]; omega) (by rw [i50]; omega), i50, hv]
        omega
      · rw [if_neg hf, if_neg hf]
        show v = nI v.toInt.toNat
        exact Int32.toInt_inj.mp (by rw [nI_toInt (by omega)]; omega)
theorem ff_eq (z : SC) {a : Int32} (ha : 0 ≤ a.toInt ∧ a.toInt ≤ 10000) : ∀ (n t : Nat), t ≤ 50 → 50 - t < n → fAs_firstFreeFromAngle_2 n z a t = oI (ffS (c_taken z) true a.toInt (200 - 4 * t) (4 * t)) := by
  intro n
  induction n with
  | zero => intro t _ h; omega
  | succ n ih =>
    intro t ht hn
    rw [fAs_firstFreeFromAngle_2.eq_2]
    by_cases h : 50 ≤ t
    · have e : 200 - 4 * t = 0 := by omega
      rw [if_pos h, e]
      rfl
    · rw [if_neg h]
      have hk := ih (t + 1) (by omega) (by omega)
      have hn : (nI t).toInt = t := nI_toInt (by omega)
      have e1 : (a + nI t).toInt = a.toInt + t := by rw [Kit.i32_add (by rw [hn]; omega) (by rw [hn]; omega), hn]
      have e2 : ((a + nI t) % 50).toInt = (a.toInt + t) % 50 := by rw [Int32.toInt_mod, e1, i50, Int.tmod_eq_emod_of_nonneg (by omega)]
      have hh := in_eq (K := fAs_firstFreeFromAngle_2 n) ha.1 (by omega) hk 5 0 ((a + nI t) % 50) (by omega) (by omega) (by rw [e2]; omega)
      exact hh
theorem tk_fin {n : Nat} {m : SM} {b : Bool} {v : Int64} {s : Int32} {k : Nat} (hs : ¬ s = -1) : fMo_take_6 (n + 1) m b v s k = fMo_take_71 m s := by
  rw [fMo_take_6.eq_2, if_neg hs, ite_self]
theorem tk_eq (m : SM) (b : Bool) {v : Int64} (hv : 0 ≤ v.toInt ∧ v.toInt ≤ 10000) : ∀ (n k : Nat), k ≤ 200 → 200 - k < n → fMo_take_6 n m b v (-1) k = fMo_take_71 m (oI (ffS (m_held m) b v.toInt (200 - k) k)) := by
  intro n
  induction n with
  | zero => intro k _ h; omega
  | succ n ih =>
    intro k hk hn
    rw [fMo_take_6.eq_2]
    by_cases h : 200 ≤ k
    · have e : 200 - k = 0 := by omega
      rw [if_pos h, e]
      rfl
    · have e : 200 - k = (200 - (k + 1)) + 1 := by omega
      have hlt := sq_lt (b := b) (x := v.toInt) (k := k) (by omega)
      have key : ∀ s0 : Int32, s0 = nI (sq b v.toInt k) → fMo_take_49 (fMo_take_6 n) m s0 b v (-1) k = fMo_take_71 m (oI (ffS (m_held m) b v.toInt (200 - k) k)) := by
        intro s0 hs
        rw [fMo_take_49.eq_1, e, ffS.eq_2, hs, nI_clamp (by omega)]
        by_cases hf : m_held m (sq b v.toInt k) = true
        · rw [if_pos hf, if_pos hf]
          exact ih (k + 1) (by omega) (by omega)
        · rw [if_neg hf, if_neg hf]
          obtain ⟨n, rfl⟩ : ∃ j, n = j + 1 := ⟨n - 1, by omega⟩
          refine tk_fin (fun e2 => ?_)
          have h2 : (nI (sq b v.toInt k)).toInt = (sq b v.toInt k : Nat) := nI_toInt (by omega)
          rw [e2] at h2
          have h3 : (-1 : Int32).toInt = -1 := by decide
          omega
      rw [if_neg h, if_pos rfl]
      cases b
      · rw [if_neg (by decide)]
        refine key _ ?_
        have es : sq false v.toInt k = k := if_neg (by decide)
        rw [es]
      · rw [if_pos rfl]
        refine key _ (Int32.toInt_inj.mp ?_)
        rw [tk_v hv (by omega), nI_toInt (by omega)]
        have es : sq true v.toInt k = ((v.toInt + (k / 4 : Nat)) % 50 + 50 * (k % 4 : Nat)).toNat := if_pos rfl
        rw [es]
        omega
theorem np_e (z : SC) {a : Int32} (b : Bool) (ha : 0 ≤ a.toInt ∧ a.toInt ≤ 10000) : fAs_newPlace z a b = fAs_newPlace_16 z (oI (ffS (c_taken z) b a.toInt 200 0)) := by
  rw [fAs_newPlace.eq_1]
  cases b
  · rw [if_neg (by decide), fAs_leastFree.eq_1, lf_eq z a.toInt 201 0 (by omega) (by omega)]
  · rw [if_pos rfl, fAs_firstFreeFromAngle.eq_1, ff_eq z ha 51 0 (by omega) (by omega)]
theorem tk_e (m : SM) {v : Int64} (b : Bool) (hv : 0 ≤ v.toInt ∧ v.toInt ≤ 10000) : fMo_take m b v = fMo_take_71 m (oI (ffS (m_held m) b v.toInt 200 0)) := by
  rw [fMo_take.eq_1, tk_eq m b hv 201 0 (by omega) (by omega)]
/-- the same on the drum -/
def tq (f g : Nat → Bool) : Prop := ∀ j, j < 200 → f j = g j
theorem ff_cg {f g : Nat → Bool} (h : tq f g) (b : Bool) (x : Int) : ∀ (n k : Nat), k + n ≤ 200 → ffS f b x n k = ffS g b x n k := by
  intro n
  induction n with
  | zero => intro k _; rfl
  | succ n ih =>
    intro k hk
    rw [ffS.eq_2, ffS.eq_2, h _ (sq_lt (by omega)), ih (k + 1) (by omega)]
theorem tq_up {f g : Nat → Bool} (h : tq f g) (k : Nat) (b : Bool) : tq (updB f k b) (updB g k b) := by
  intro j hj
  unfold updB
  by_cases he : j = k
  · rw [if_pos he, if_pos he]
  · rw [if_neg he, if_neg he]
    exact h j hj
/-- what placing answers: the same place, or none on both sides -/
def pR (x : Int32 × SC) (y : Int32 × SM) : Prop := (x.1 = y.1 ∧ nn x.1 ∧ tq (c_taken x.2) (m_held y.2) ∧ yq (c_syms x.2) (m_plc y.2) ∧ m_full y.2 = false) ∨ (x.1 = -1 ∧ m_full y.2 = true)
/-- before placing -/
def qR (z : SC) (m : SM) : Prop := tq (c_taken z) (m_held m) ∧ yq (c_syms z) (m_plc m) ∧ m_full m = false
theorem np_R {z : SC} {m : SM} (h : qR z m) {a : Int32} {v : Int64} (b : Bool) (ha : 0 ≤ a.toInt ∧ a.toInt ≤ 10000) (hv : v.toInt = a.toInt) : pR (fAs_newPlace z a b) (fMo_take m b v) := by
  rw [np_e z b ha, tk_e m b (by rw [hv]; exact ha), hv, ← ff_cg h.1 b a.toInt 200 0 (by omega)]
  have hl := ff_lt 200 0 (c_taken z) b a.toInt (by omega)
  generalize ffS (c_taken z) b a.toInt 200 0 = o at hl
  cases o with
  | none =>
    show pR (fAs_newPlace_16 z (-1)) (fMo_take_71 m (-1))
    rw [fAs_newPlace_16.eq_1, if_pos rfl, fMo_take_71.eq_1, if_pos rfl]
    exact .inr ⟨rfl, rfl⟩
  | some a' =>
    have ha' := hl a' rfl
    show pR (fAs_newPlace_16 z (nI a')) (fMo_take_71 m (nI a'))
    have e : (nI a').toInt = a' := nI_toInt (by omega)
    have hne : ¬ nI a' = -1 := fun e2 => by
      rw [e2] at e
      have h3 : (-1 : Int32).toInt = -1 := by decide
      omega
    rw [fAs_newPlace_16.eq_1, if_neg hne, fMo_take_71.eq_1, if_neg hne]
    exact .inl ⟨rfl, ⟨by rw [e]; omega, by rw [e]; omega⟩, tq_up h.1 _ true, h.2.1, h.2.2⟩
theorem sy_iff {a : Int32} (ha : pp a) : fAs_isSymbol a = true ↔ (1000 : Int32) ≤ a := by
  rw [sym_iff, b_le (k := 1000) (by decide)]
  rcases ha with h | h
  · have := h.2
    omega
  · omega
theorem pp_R {z : SC} {m : SM} (h : qR z m) {p a : Int32} {v : Int64} (b : Bool) (hp : pp p) (hn : ¬ p = -1) (ha : 0 ≤ a.toInt ∧ a.toInt ≤ 10000) (hv : v.toInt = a.toInt) (hs : ∀ i, i < 20 → pl (c_syms z i)) : pR (fAs_placePart z p a b) (fMo_placeOf m p b v) := by
  rw [fAs_placePart.eq_1, fMo_placeOf.eq_1]
  by_cases hsy : fAs_isSymbol p = true
  · have h1 := (sy_iff hp).mp hsy
    rw [if_pos hsy, if_pos h1, fAs_placePart_16.eq_1, fMo_placeOf_16.eq_1, fAs_placePart_40.eq_1, fAs_placePart_40.eq_1, fMo_placeOf_40.eq_1, fMo_placeOf_40.eq_1]
    have hin := ix_lt (ms_in hp h1)
    generalize (p - 1000).toNatClampNeg = j at hin ⊢
    have hj : c_syms z j = m_plc m j := h.2.1 j hin
    by_cases h0 : m_plc m j = -1
    · rw [if_pos (hj.trans h0), if_pos h0]
      rcases np_R h b ha hv with ⟨e1, e2, e3, e4, e5⟩ | ⟨e1, e2⟩
      · refine .inl ⟨?_, ?_, e3, ?_, e5⟩
        · show upd (c_syms (fAs_newPlace z a b).2) j (fAs_newPlace z a b).1 j = upd (m_plc (fMo_take m b v).2) j (fMo_take m b v).1 j
          unfold upd
          rw [if_pos rfl, if_pos rfl, e1]
        · show nn (upd (c_syms (fAs_newPlace z a b).2) j (fAs_newPlace z a b).1 j)
          unfold upd
          rw [if_pos rfl]
          exact e2
        · intro i hi
          show upd (c_syms (fAs_newPlace z a b).2) j (fAs_newPlace z a b).1 i = upd (m_plc (fMo_take m b v).2) j (fMo_take m b v).1 i
          unfold upd
          rw [e1]
          by_cases hij : i = j
          · rw [if_pos hij, if_pos hij]
          · rw [if_neg hij, if_neg hij]
            exact e4 i hi
      · refine .inr ⟨?_, e2⟩
        show upd (c_syms (fAs_newPlace z a b).2) j (fAs_newPlace z a b).1 j = -1
        unfold upd
        rw [if_pos rfl]
        exact e1
    · rw [if_neg (fun e => h0 (hj.symm.trans e)), if_neg h0]
      have hpl := hs j hin
      exact .inl ⟨hj, nn_of hpl (fun e => h0 (hj.symm.trans e)), h.1, h.2.1, h.2.2⟩
  · rw [if_neg hsy, if_neg (fun e => hsy ((sy_iff hp).mpr e))]
    exact .inl ⟨rfl, nn_of (pp_ns hp hsy) hn, h.1, h.2.1, h.2.2⟩
