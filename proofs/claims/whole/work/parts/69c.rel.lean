/-- every reading operation, its word being good -/
theorem rd_R {z : SC} {m : SM} (h : RU z m) {o d w : Int32} (hw : m_nxt m = w) (hd : vp_in d 200) (ho : fMo_reads o = true) (hv : 0 ≤ fMo_value m d) : oR z m o d (fPr_read z o d) (fMo_doRead m o d (fMo_value m d) (m_dmin m d.toNatClampNeg) w) := by
  have hd1 := (vp_in_iff.mp hd).1
  have hi := (vd_R h.1 hd).1.mpr hv
  have hg := (vd_R h.1 hd).2 hi
  by_cases h84 : o = 84
  · subst h84
    rw [fPr_read.eq_1, if_pos rfl, fMo_doRead.eq_1, if_pos rfl]
    exact rd84 h hw hd
  · rw [fPr_read.eq_1, if_neg h84, if_pos hi, (vl_R h.1 hd).1, dm_R h.1, fMo_doRead.eq_1, if_neg h84]
    rcases rd_of ho with e | e | e | e | e | e
    · exact absurd e h84
    · subst e
      rw [if_pos rfl]
      exact rd14 h hw hd1 hg _
    · subst e
      rw [if_neg (by decide)]
      exact rd71 h hw hd1 hg _
    · subst e
      rw [if_neg (by decide)]
      exact rd19 h hd1 hg _
    · subst e
      rw [if_neg (by decide)]
      exact rd69 h hd1 hg _
    · rw [if_neg (fun e2 => by rw [e2] at e; exact absurd e (by decide))]
      exact rdad h e hd1 hg _
