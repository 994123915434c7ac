/-! what placing leaves as it is -/
def kC (z z' : SC) : Prop := z'.1 = z.1 ∧ z'.2.1 = z.2.1 ∧ z'.2.2.1 = z.2.2.1 ∧ z'.2.2.2.1 = z.2.2.2.1 ∧ z'.2.2.2.2.1 = z.2.2.2.2.1 ∧ c_resv z' = c_resv z ∧ c_lparts z' = c_lparts z ∧ c_ops z' = c_ops z ∧ c_dparts z' = c_dparts z ∧ c_nparts z' = c_nparts z ∧ c_acount z' = c_acount z
theorem kC_rf (z : SC) : kC z z := ⟨rfl, rfl, rfl, rfl, rfl, rfl, rfl, rfl, rfl, rfl, rfl⟩
theorem kC_tr {x y z : SC} (h1 : kC x y) (h2 : kC y z) : kC x z := by
  obtain ⟨a1, a2, a3, a4, a5, a6, a7, a8, a9, a10, a11⟩ := h1
  obtain ⟨b1, b2, b3, b4, b5, b6, b7, b8, b9, b10, b11⟩ := h2
  exact ⟨b1.trans a1, b2.trans a2, b3.trans a3, b4.trans a4, b5.trans a5, b6.trans a6, b7.trans a7, b8.trans a8, b9.trans a9, b10.trans a10, b11.trans a11⟩
theorem kC_t (z : SC) (f : Nat → Bool) : kC z (c_taken_s z f) := ⟨rfl, rfl, rfl, rfl, rfl, rfl, rfl, rfl, rfl, rfl, rfl⟩
theorem kC_y (z : SC) (f : Nat → Int32) : kC z (c_syms_s z f) := ⟨rfl, rfl, rfl, rfl, rfl, rfl, rfl, rfl, rfl, rfl, rfl⟩
theorem kC_l (z : SC) (f : Nat → Int32) : kC z (c_locs_s z f) := ⟨rfl, rfl, rfl, rfl, rfl, rfl, rfl, rfl, rfl, rfl, rfl⟩
theorem kC_d (z : SC) (f : Nat → Int32) : kC z (c_dat_s z f) := ⟨rfl, rfl, rfl, rfl, rfl, rfl, rfl, rfl, rfl, rfl, rfl⟩
theorem kC_n (z : SC) (f : Nat → Int32) : kC z (c_nexts_s z f) := ⟨rfl, rfl, rfl, rfl, rfl, rfl, rfl, rfl, rfl, rfl, rfl⟩
theorem kC_np16 (z : SC) (s : Int32) : kC z (fAs_newPlace_16 z s).2 := by
  rw [fAs_newPlace_16.eq_1]
  split
  · exact kC_rf z
  · exact kC_t z _
theorem kC_np (z : SC) (a : Int32) (b : Bool) : kC z (fAs_newPlace z a b).2 := by
  rw [fAs_newPlace.eq_1]
  split
  · exact kC_np16 z _
  · exact kC_np16 z _
theorem kC_pp (z : SC) (p a : Int32) (b : Bool) : kC z (fAs_placePart z p a b).2 := by
  rw [fAs_placePart.eq_1]
  split
  · rw [fAs_placePart_16.eq_1, fAs_placePart_40.eq_1, fAs_placePart_40.eq_1]
    split
    · exact kC_tr (kC_np z a b) (kC_y _ _)
    · exact kC_rf z
  · exact kC_rf z
theorem kC_loc (z : SC) (a : Int32) (b : Bool) : kC z (fAs_placeLocation z a b).2 := by
  rw [fAs_placeLocation.eq_1]
  split
  · split
    · exact kC_np z 0 b
    · split
      · exact kC_rf z
      · exact kC_np z 0 b
  · exact kC_pp z _ 0 b
theorem kC_dat (z : SC) (a : Int32) (b : Bool) : kC z (fAs_placeData z a b).2 := by
  rw [fAs_placeData.eq_1]
  split
  · exact kC_rf z
  · split
    · exact kC_rf z
    · exact kC_pp z _ _ b
theorem kC_n53 (z : SC) (a : Int32) (b c : Bool) : kC z (fAs_placeNext_53 z a b c).2 := by
  rw [fAs_placeNext_53.eq_1]
  split
  · exact kC_np z _ b
  · exact kC_rf z
theorem kC_nx (z : SC) (a : Int32) (b : Bool) : kC z (fAs_placeNext z a b).2 := by
  rw [fAs_placeNext.eq_1, fAs_placeNext_50.eq_1, fAs_placeNext_51.eq_1, fAs_placeNext_51.eq_1]
  split
  · split
    · exact kC_n53 z a b _
    · split
      · exact kC_n53 z a b _
      · exact kC_n53 z a b _
  · exact kC_pp z _ _ b
theorem kC_36 (z : SC) (a : Int32) (b : Bool) : kC z (fAs_placeLine_36 z a b).2 := by
  rw [fAs_placeLine_36.eq_1]
  split
  · exact kC_rf z
  · split
    · exact kC_tr (kC_nx z a b) (kC_n _ _)
    · exact kC_tr (kC_nx z a b) (kC_n _ _)
theorem kC_12 (z : SC) (a : Int32) (b : Bool) : kC z (fAs_placeLine_12 z a b).2 := by
  rw [fAs_placeLine_12.eq_1]
  split
  · exact kC_rf z
  · exact kC_tr (kC_tr (kC_dat z a b) (kC_d _ _)) (kC_36 _ a b)
theorem kC_line (z : SC) (a : Int32) (b : Bool) : kC z (fAs_placeLine z a b).2 := by
  rw [fAs_placeLine.eq_1]
  exact kC_tr (kC_tr (kC_loc z a b) (kC_l _ _)) (kC_12 _ a b)
theorem kC_ta (z : SC) (a : Int32) : kC z (fAs_takeIfAddress z a) := by
  rw [fAs_takeIfAddress.eq_1]
  split
  · exact kC_t z _
  · exact kC_rf z
theorem kC_fp (z : SC) : kC z (fAs_forgetPlaces z) := by
  rw [fp_eq]
  exact kC_y z _
/-! the same of the reference; the last: what is full stays full -/
def kM (m m' : SM) : Prop := m'.1 = m.1 ∧ m'.2.1 = m.2.1 ∧ m'.2.2.1 = m.2.2.1 ∧ m'.2.2.2.1 = m.2.2.2.1 ∧ m'.2.2.2.2.1 = m.2.2.2.2.1 ∧ m_resv m' = m_resv m ∧ m_loc m' = m_loc m ∧ m_ops m' = m_ops m ∧ m_dat m' = m_dat m ∧ m_foll m' = m_foll m ∧ m_lines m' = m_lines m ∧ m_code m' = m_code m
theorem kM_rf (z : SM) : kM z z := ⟨rfl, rfl, rfl, rfl, rfl, rfl, rfl, rfl, rfl, rfl, rfl, rfl⟩
theorem kM_tr {x y z : SM} (h1 : kM x y) (h2 : kM y z) : kM x z := by
  obtain ⟨a1, a2, a3, a4, a5, a6, a7, a8, a9, a10, a11, a12⟩ := h1
  obtain ⟨b1, b2, b3, b4, b5, b6, b7, b8, b9, b10, b11, b12⟩ := h2
  exact ⟨b1.trans a1, b2.trans a2, b3.trans a3, b4.trans a4, b5.trans a5, b6.trans a6, b7.trans a7, b8.trans a8, b9.trans a9, b10.trans a10, b11.trans a11, b12.trans a12⟩
theorem kM_h (z : SM) (f : Nat → Bool) : kM z (m_held_s z f) := ⟨rfl, rfl, rfl, rfl, rfl, rfl, rfl, rfl, rfl, rfl, rfl, rfl⟩
theorem kM_p (z : SM) (f : Nat → Int32) : kM z (m_plc_s z f) := ⟨rfl, rfl, rfl, rfl, rfl, rfl, rfl, rfl, rfl, rfl, rfl, rfl⟩
theorem kM_f (z : SM) (f : Bool) : kM z (m_full_s z f) := ⟨rfl, rfl, rfl, rfl, rfl, rfl, rfl, rfl, rfl, rfl, rfl, rfl⟩
theorem kM_a (z : SM) (f : Nat → Int32) : kM z (m_ats_s z f) := ⟨rfl, rfl, rfl, rfl, rfl, rfl, rfl, rfl, rfl, rfl, rfl, rfl⟩
theorem kM_w (z : SM) (f : Nat → Int64) : kM z (m_writ_s z f) := ⟨rfl, rfl, rfl, rfl, rfl, rfl, rfl, rfl, rfl, rfl, rfl, rfl⟩
def kF (m m' : SM) : Prop := kM m m' ∧ (m_full m = true → m_full m' = true)
theorem kF_rf (z : SM) : kF z z := ⟨kM_rf z, fun h => h⟩
theorem kF_tr {x y z : SM} (h1 : kF x y) (h2 : kF y z) : kF x z := ⟨kM_tr h1.1 h2.1, fun h => h2.2 (h1.2 h)⟩
/-- and the rows of the answer -/
def kT (m m' : SM) : Prop := kF m m' ∧ m_ats m' = m_ats m ∧ m_writ m' = m_writ m
theorem kT_rf (z : SM) : kT z z := ⟨kF_rf z, rfl, rfl⟩
theorem kT_tr {x y z : SM} (h1 : kT x y) (h2 : kT y z) : kT x z := ⟨kF_tr h1.1 h2.1, h2.2.1.trans h1.2.1, h2.2.2.trans h1.2.2⟩
theorem kT_71 (m : SM) (v : Int32) : kT m (fMo_take_71 m v).2 := by
  rw [fMo_take_71.eq_1]
  split
  · exact ⟨⟨kM_f m true, fun _ => rfl⟩, rfl, rfl⟩
  · exact ⟨⟨kM_h m _, fun h => h⟩, rfl, rfl⟩
theorem kT_tk6 (m : SM) (b : Bool) (v : Int64) : ∀ (n : Nat) (v4 : Int32) (k : Nat), kT m (fMo_take_6 n m b v v4 k).2 := by
  intro n
  induction n with
  | zero => intro v4 k; exact kT_rf m
  | succ n ih =>
    intro v4 k
    rw [fMo_take_6.eq_2]
    split
    · exact kT_71 m v4
    · split
      · split
        · rw [fMo_take_49.eq_1]
          split
          · exact ih _ _
          · exact ih _ _
        · rw [fMo_take_49.eq_1]
          split
          · exact ih _ _
          · exact ih _ _
      · exact kT_71 m v4
theorem kT_tk (m : SM) (b : Bool) (v : Int64) : kT m (fMo_take m b v).2 := kT_tk6 m b v _ _ _
theorem kT_p (z : SM) (f : Nat → Int32) : kT z (m_plc_s z f) := ⟨⟨kM_p z f, fun h => h⟩, rfl, rfl⟩
theorem kT_po (m : SM) (p : Int32) (b : Bool) (v : Int64) : kT m (fMo_placeOf m p b v).2 := by
  rw [fMo_placeOf.eq_1]
  split
  · rw [fMo_placeOf_16.eq_1, fMo_placeOf_40.eq_1, fMo_placeOf_40.eq_1]
    split
    · exact kT_tr (kT_tk m b v) (kT_p _ _)
    · exact kT_rf m
  · exact kT_rf m
/-! the reference's line in four pieces -/
def locM (m : SM) (k g : Int32) (b : Bool) : Int32 × SM := if g = -1 then (if m_loc m k.toNatClampNeg = -1 then fMo_take m b 0 else fMo_placeOf m (m_loc m k.toNatClampNeg) b 0) else (g, m)
def datM (m : SM) (k : Int32) (b : Bool) (o : Int32) : Int32 × SM := if m_dat m k.toNatClampNeg = -1 then (0, m) else if fMo_shifts o = true then (m_dat m k.toNatClampNeg, m) else fMo_placeOf m (m_dat m k.toNatClampNeg) b ((m_ats m k.toNatClampNeg).toInt64 + 1)
def ron (m : SM) (k : Int32) : Bool := if m_foll m k.toNatClampNeg = -1 then (if m_lines m ≤ k + 1 then false else (if m_loc m (k + 1).toNatClampNeg = -1 then true else false)) else false
def nxM (m : SM) (k : Int32) (b : Bool) (v : Int64) : Int32 × SM := if ron m k = true then fMo_take m b v else if m_foll m k.toNatClampNeg = -1 then (0, m) else fMo_placeOf m (m_foll m k.toNatClampNeg) b v
theorem se_eq (m : SM) (k g : Int32) (b : Bool) : fMo_settle m k g b = fMo_settle_54 (m_ats_s (locM m k g b).2 (upd (m_ats (locM m k g b).2) k.toNatClampNeg (locM m k g b).1)) k b (m_ops m k.toNatClampNeg) := by
  rw [fMo_settle.eq_1, fMo_settle_53.eq_1, fMo_settle_53.eq_1, fMo_settle_53.eq_1]
  unfold locM
  by_cases h1 : g = -1
  · rw [if_pos h1, if_pos h1]
    by_cases h2 : m_loc m k.toNatClampNeg = -1
    · rw [if_pos h2, if_pos h2]
    · rw [if_neg h2, if_neg h2]
  · rw [if_neg h1, if_neg h1]
theorem s54_eq (m : SM) (k : Int32) (b : Bool) (o : Int32) : fMo_settle_54 m k b o = fMo_settle_105 (datM m k b o).2 (datM m k b o).1 k b o := by
  rw [fMo_settle_54.eq_1]
  unfold datM
  by_cases h1 : m_dat m k.toNatClampNeg = -1
  · rw [if_pos h1, if_pos h1]
  · rw [if_neg h1, if_neg h1]
    by_cases h2 : fMo_shifts o = true
    · rw [if_pos h2, if_pos h2]
    · rw [if_neg h2, if_neg h2]
theorem s105_eq (m : SM) (s k : Int32) (b : Bool) (o : Int32) : fMo_settle_105 m s k b o = fMo_settle_160 m k b o s (((if (fMo_reads o || fMo_writes o) = true then s else m_ats m k.toNatClampNeg).toInt64 + 1) + ((fMo_fixed o s).toInt64)) := by
  rw [fMo_settle_105.eq_1, fMo_settle_123.eq_1, fMo_settle_128.eq_1, fMo_settle_128.eq_1, if_pos rfl, if_neg (show ¬ false = true by decide), fMo_settle_146.eq_1, fMo_settle_146.eq_1]
  by_cases h1 : fMo_reads o = true
  · rw [if_pos h1, h1, Bool.true_or, if_pos rfl]
  · rw [if_neg h1, (Bool.not_eq_true _).mp h1, Bool.false_or]
    by_cases h2 : fMo_writes o = true
    · rw [if_pos h2, if_pos h2]
    · rw [if_neg h2, if_neg h2]
theorem s160_eq (m : SM) (k : Int32) (b : Bool) (o s : Int32) (v : Int64) : fMo_settle_160 m k b o s v = fMo_settle_241 (nxM m k b v).2 (nxM m k b v).1 k o s (ron m k) := by
  have h199 : ∀ c : Bool, fMo_settle_199 m k b o s v c = fMo_settle_241 (if c = true then fMo_take m b v else if m_foll m k.toNatClampNeg = -1 then (0, m) else fMo_placeOf m (m_foll m k.toNatClampNeg) b v).2 (if c = true then fMo_take m b v else if m_foll m k.toNatClampNeg = -1 then (0, m) else fMo_placeOf m (m_foll m k.toNatClampNeg) b v).1 k o s c := by
    intro c
    rw [fMo_settle_199.eq_1]
    by_cases h1 : c = true
    · rw [if_pos h1, if_pos h1]
    · rw [if_neg h1, if_neg h1]
      by_cases h2 : m_foll m k.toNatClampNeg = -1
      · rw [if_pos h2, if_pos h2]
      · rw [if_neg h2, if_neg h2]
  unfold nxM
  rw [← h199, fMo_settle_160.eq_1, fMo_settle_196.eq_1, fMo_settle_197.eq_1, fMo_settle_197.eq_1]
  unfold ron
  by_cases h1 : m_foll m k.toNatClampNeg = -1
  · rw [if_pos h1, if_pos h1]
    by_cases h2 : m_lines m ≤ k + 1
    · rw [if_pos h2, if_pos h2]
    · rw [if_neg h2, if_neg h2]
      by_cases h3 : m_loc m (k + 1).toNatClampNeg = -1
      · rw [if_pos h3, if_pos h3]
      · rw [if_neg h3, if_neg h3]
  · rw [if_neg h1, if_neg h1]
theorem kT_loc (m : SM) (k g : Int32) (b : Bool) : kT m (locM m k g b).2 := by
  unfold locM
  split
  · split
    · exact kT_tk m b 0
    · exact kT_po m _ b 0
  · exact kT_rf m
theorem kT_dat (m : SM) (k : Int32) (b : Bool) (o : Int32) : kT m (datM m k b o).2 := by
  unfold datM
  split
  · exact kT_rf m
  · split
    · exact kT_rf m
    · exact kT_po m _ b _
theorem kT_nx (m : SM) (k : Int32) (b : Bool) (v : Int64) : kT m (nxM m k b v).2 := by
  unfold nxM
  split
  · exact kT_tk m b v
  · split
    · exact kT_rf m
    · exact kT_po m _ b v
theorem kF_a (z : SM) (f : Nat → Int32) : kF z (m_ats_s z f) := ⟨kM_a z f, fun h => h⟩
theorem kF_w (z : SM) (f : Nat → Int64) : kF z (m_writ_s z f) := ⟨kM_w z f, fun h => h⟩
theorem kF_241 (m : SM) (s k o d : Int32) (c : Bool) : kF m (fMo_settle_241 m s k o d c) := by
  rw [fMo_settle_241.eq_1]
  split
  · exact kF_w m _
  · split
    · exact kF_tr (kF_w m _) (kF_a _ _)
    · exact kF_tr (kF_w m _) (kF_a _ _)
theorem kF_105 (m : SM) (s k : Int32) (b : Bool) (o : Int32) : kF m (fMo_settle_105 m s k b o) := by
  rw [s105_eq, s160_eq]
  exact kF_tr (kT_nx m k b _).1 (kF_241 _ _ _ _ _ _)
theorem kF_54 (m : SM) (k : Int32) (b : Bool) (o : Int32) : kF m (fMo_settle_54 m k b o) := by
  rw [s54_eq]
  exact kF_tr (kT_dat m k b o).1 (kF_105 _ _ _ _ _)
theorem kF_se (m : SM) (k g : Int32) (b : Bool) : kF m (fMo_settle m k g b) := by
  rw [se_eq]
  exact kF_tr (kF_tr (kT_loc m k g b).1 (kF_a _ _)) (kF_54 _ _ _ _)
theorem kM_hold (m : SM) (a : Int32) : kM m (fMo_hold m a) := by
  rw [fMo_hold.eq_1]
  split
  · exact kM_h m _
  · exact kM_rf m
