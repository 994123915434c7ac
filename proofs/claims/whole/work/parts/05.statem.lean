/-! state of side m -/
abbrev SM : Type := ((Nat → Int32) × (Nat → Bool)) × ((Nat → Int64) × (Nat → Bool) × Int32) × ((Nat → Int64) × Int32) × (Int64 × Bool × Int32 × Int32 × Int64) × (Int64 × Int64 × Bool × Bool) × ((Nat → Int32) × (Nat → Int32) × (Nat → Int32) × (Nat → Int32) × (Nat → Bool) × (Nat → Int32) × (Nat → Bool) × (Nat → Int32) × (Nat → Int64) × Int32 × Bool) × (Int32)
def m_codes (z : SM) : (Nat → Int32) := z.1.1
def m_dmin (z : SM) : (Nat → Bool) := z.1.2
def m_card (z : SM) : (Nat → Int64) := z.2.1.1
def m_cmin (z : SM) : (Nat → Bool) := z.2.1.2.1
def m_cards (z : SM) : Int32 := z.2.1.2.2
def m_outp (z : SM) : (Nat → Int64) := z.2.2.1.1
def m_outs (z : SM) : Int32 := z.2.2.1.2
def m_dist (z : SM) : Int64 := z.2.2.2.1.1
def m_distm (z : SM) : Bool := z.2.2.2.1.2.1
def m_nxt (z : SM) : Int32 := z.2.2.2.1.2.2.1
def m_fault (z : SM) : Int32 := z.2.2.2.1.2.2.2.1
def m_time (z : SM) : Int64 := z.2.2.2.1.2.2.2.2
def m_upper (z : SM) : Int64 := z.2.2.2.2.1.1
def m_lower (z : SM) : Int64 := z.2.2.2.2.1.2.1
def m_amin (z : SM) : Bool := z.2.2.2.2.1.2.2.1
def m_ovf (z : SM) : Bool := z.2.2.2.2.1.2.2.2
def m_loc (z : SM) : (Nat → Int32) := z.2.2.2.2.2.1.1
def m_ops (z : SM) : (Nat → Int32) := z.2.2.2.2.2.1.2.1
def m_dat (z : SM) : (Nat → Int32) := z.2.2.2.2.2.1.2.2.1
def m_foll (z : SM) : (Nat → Int32) := z.2.2.2.2.2.1.2.2.2.1
def m_resv (z : SM) : (Nat → Bool) := z.2.2.2.2.2.1.2.2.2.2.1
def m_plc (z : SM) : (Nat → Int32) := z.2.2.2.2.2.1.2.2.2.2.2.1
def m_held (z : SM) : (Nat → Bool) := z.2.2.2.2.2.1.2.2.2.2.2.2.1
def m_ats (z : SM) : (Nat → Int32) := z.2.2.2.2.2.1.2.2.2.2.2.2.2.1
def m_writ (z : SM) : (Nat → Int64) := z.2.2.2.2.2.1.2.2.2.2.2.2.2.2.1
def m_lines (z : SM) : Int32 := z.2.2.2.2.2.1.2.2.2.2.2.2.2.2.2.1
def m_full (z : SM) : Bool := z.2.2.2.2.2.1.2.2.2.2.2.2.2.2.2.2
def m_code (z : SM) : Int32 := z.2.2.2.2.2.2
def m_codes_s (z : SM) (v : (Nat → Int32)) : SM := ((v, z.1.2), z.2.1, z.2.2.1, z.2.2.2.1, z.2.2.2.2.1, z.2.2.2.2.2.1, z.2.2.2.2.2.2)
def m_dmin_s (z : SM) (v : (Nat → Bool)) : SM := ((z.1.1, v), z.2.1, z.2.2.1, z.2.2.2.1, z.2.2.2.2.1, z.2.2.2.2.2.1, z.2.2.2.2.2.2)
def m_card_s (z : SM) (v : (Nat → Int64)) : SM := (z.1, (v, z.2.1.2.1, z.2.1.2.2), z.2.2.1, z.2.2.2.1, z.2.2.2.2.1, z.2.2.2.2.2.1, z.2.2.2.2.2.2)
def m_cmin_s (z : SM) (v : (Nat → Bool)) : SM := (z.1, (z.2.1.1, v, z.2.1.2.2), z.2.2.1, z.2.2.2.1, z.2.2.2.2.1, z.2.2.2.2.2.1, z.2.2.2.2.2.2)
def m_cards_s (z : SM) (v : Int32) : SM := (z.1, (z.2.1.1, z.2.1.2.1, v), z.2.2.1, z.2.2.2.1, z.2.2.2.2.1, z.2.2.2.2.2.1, z.2.2.2.2.2.2)
def m_outp_s (z : SM) (v : (Nat → Int64)) : SM := (z.1, z.2.1, (v, z.2.2.1.2), z.2.2.2.1, z.2.2.2.2.1, z.2.2.2.2.2.1, z.2.2.2.2.2.2)
def m_outs_s (z : SM) (v : Int32) : SM := (z.1, z.2.1, (z.2.2.1.1, v), z.2.2.2.1, z.2.2.2.2.1, z.2.2.2.2.2.1, z.2.2.2.2.2.2)
def m_dist_s (z : SM) (v : Int64) : SM := (z.1, z.2.1, z.2.2.1, (v, z.2.2.2.1.2.1, z.2.2.2.1.2.2.1, z.2.2.2.1.2.2.2.1, z.2.2.2.1.2.2.2.2), z.2.2.2.2.1, z.2.2.2.2.2.1, z.2.2.2.2.2.2)
def m_distm_s (z : SM) (v : Bool) : SM := (z.1, z.2.1, z.2.2.1, (z.2.2.2.1.1, v, z.2.2.2.1.2.2.1, z.2.2.2.1.2.2.2.1, z.2.2.2.1.2.2.2.2), z.2.2.2.2.1, z.2.2.2.2.2.1, z.2.2.2.2.2.2)
def m_nxt_s (z : SM) (v : Int32) : SM := (z.1, z.2.1, z.2.2.1, (z.2.2.2.1.1, z.2.2.2.1.2.1, v, z.2.2.2.1.2.2.2.1, z.2.2.2.1.2.2.2.2), z.2.2.2.2.1, z.2.2.2.2.2.1, z.2.2.2.2.2.2)
def m_fault_s (z : SM) (v : Int32) : SM := (z.1, z.2.1, z.2.2.1, (z.2.2.2.1.1, z.2.2.2.1.2.1, z.2.2.2.1.2.2.1, v, z.2.2.2.1.2.2.2.2), z.2.2.2.2.1, z.2.2.2.2.2.1, z.2.2.2.2.2.2)
def m_time_s (z : SM) (v : Int64) : SM := (z.1, z.2.1, z.2.2.1, (z.2.2.2.1.1, z.2.2.2.1.2.1, z.2.2.2.1.2.2.1, z.2.2.2.1.2.2.2.1, v), z.2.2.2.2.1, z.2.2.2.2.2.1, z.2.2.2.2.2.2)
def m_upper_s (z : SM) (v : Int64) : SM := (z.1, z.2.1, z.2.2.1, z.2.2.2.1, (v, z.2.2.2.2.1.2.1, z.2.2.2.2.1.2.2.1, z.2.2.2.2.1.2.2.2), z.2.2.2.2.2.1, z.2.2.2.2.2.2)
def m_lower_s (z : SM) (v : Int64) : SM := (z.1, z.2.1, z.2.2.1, z.2.2.2.1, (z.2.2.2.2.1.1, v, z.2.2.2.2.1.2.2.1, z.2.2.2.2.1.2.2.2), z.2.2.2.2.2.1, z.2.2.2.2.2.2)
def m_amin_s (z : SM) (v : Bool) : SM := (z.1, z.2.1, z.2.2.1, z.2.2.2.1, (z.2.2.2.2.1.1, z.2.2.2.2.1.2.1, v, z.2.2.2.2.1.2.2.2), z.2.2.2.2.2.1, z.2.2.2.2.2.2)
def m_ovf_s (z : SM) (v : Bool) : SM := (z.1, z.2.1, z.2.2.1, z.2.2.2.1, (z.2.2.2.2.1.1, z.2.2.2.2.1.2.1, z.2.2.2.2.1.2.2.1, v), z.2.2.2.2.2.1, z.2.2.2.2.2.2)
def m_loc_s (z : SM) (v : (Nat → Int32)) : SM := (z.1, z.2.1, z.2.2.1, z.2.2.2.1, z.2.2.2.2.1, (v, z.2.2.2.2.2.1.2.1, z.2.2.2.2.2.1.2.2.1, z.2.2.2.2.2.1.2.2.2.1, z.2.2.2.2.2.1.2.2.2.2.1, z.2.2.2.2.2.1.2.2.2.2.2.1, z.2.2.2.2.2.1.2.2.2.2.2.2.1, z.2.2.2.2.2.1.2.2.2.2.2.2.2.1, z.2.2.2.2.2.1.2.2.2.2.2.2.2.2.1, z.2.2.2.2.2.1.2.2.2.2.2.2.2.2.2.1, z.2.2.2.2.2.1.2.2.2.2.2.2.2.2.2.2), z.2.2.2.2.2.2)
def m_ops_s (z : SM) (v : (Nat → Int32)) : SM := (z.1, z.2.1, z.2.2.1, z.2.2.2.1, z.2.2.2.2.1, (z.2.2.2.2.2.1.1, v, z.2.2.2.2.2.1.2.2.1, z.2.2.2.2.2.1.2.2.2.1, z.2.2.2.2.2.1.2.2.2.2.1, z.2.2.2.2.2.1.2.2.2.2.2.1, z.2.2.2.2.2.1.2.2.2.2.2.2.1, z.2.2.2.2.2.1.2.2.2.2.2.2.2.1, z.2.2.2.2.2.1.2.2.2.2.2.2.2.2.1, z.2.2.2.2.2.1.2.2.2.2.2.2.2.2.2.1, z.2.2.2.2.2.1.2.2.2.2.2.2.2.2.2.2), z.2.2.2.2.2.2)
def m_dat_s (z : SM) (v : (Nat → Int32)) : SM := (z.1, z.2.1, z.2.2.1, z.2.2.2.1, z.2.2.2.2.1, (z.2.2.2.2.2.1.1, z.2.2.2.2.2.1.2.1, v, z.2.2.2.2.2.1.2.2.2.1, z.2.2.2.2.2.1.2.2.2.2.1, z.2.2.2.2.2.1.2.2.2.2.2.1, z.2.2.2.2.2.1.2.2.2.2.2.2.1, z.2.2.2.2.2.1.2.2.2.2.2.2.2.1, z.2.2.2.2.2.1.2.2.2.2.2.2.2.2.1, z.2.2.2.2.2.1.2.2.2.2.2.2.2.2.2.1, z.2.2.2.2.2.1.2.2.2.2.2.2.2.2.2.2), z.2.2.2.2.2.2)
def m_foll_s (z : SM) (v : (Nat → Int32)) : SM := (z.1, z.2.1, z.2.2.1, z.2.2.2.1, z.2.2.2.2.1, (z.2.2.2.2.2.1.1, z.2.2.2.2.2.1.2.1, z.2.2.2.2.2.1.2.2.1, v, z.2.2.2.2.2.1.2.2.2.2.1, z.2.2.2.2.2.1.2.2.2.2.2.1, z.2.2.2.2.2.1.2.2.2.2.2.2.1, z.2.2.2.2.2.1.2.2.2.2.2.2.2.1, z.2.2.2.2.2.1.2.2.2.2.2.2.2.2.1, z.2.2.2.2.2.1.2.2.2.2.2.2.2.2.2.1, z.2.2.2.2.2.1.2.2.2.2.2.2.2.2.2.2), z.2.2.2.2.2.2)
def m_resv_s (z : SM) (v : (Nat → Bool)) : SM := (z.1, z.2.1, z.2.2.1, z.2.2.2.1, z.2.2.2.2.1, (z.2.2.2.2.2.1.1, z.2.2.2.2.2.1.2.1, z.2.2.2.2.2.1.2.2.1, z.2.2.2.2.2.1.2.2.2.1, v, z.2.2.2.2.2.1.2.2.2.2.2.1, z.2.2.2.2.2.1.2.2.2.2.2.2.1, z.2.2.2.2.2.1.2.2.2.2.2.2.2.1, z.2.2.2.2.2.1.2.2.2.2.2.2.2.2.1, z.2.2.2.2.2.1.2.2.2.2.2.2.2.2.2.1, z.2.2.2.2.2.1.2.2.2.2.2.2.2.2.2.2), z.2.2.2.2.2.2)
def m_plc_s (z : SM) (v : (Nat → Int32)) : SM := (z.1, z.2.1, z.2.2.1, z.2.2.2.1, z.2.2.2.2.1, (z.2.2.2.2.2.1.1, z.2.2.2.2.2.1.2.1, z.2.2.2.2.2.1.2.2.1, z.2.2.2.2.2.1.2.2.2.1, z.2.2.2.2.2.1.2.2.2.2.1, v, z.2.2.2.2.2.1.2.2.2.2.2.2.1, z.2.2.2.2.2.1.2.2.2.2.2.2.2.1, z.2.2.2.2.2.1.2.2.2.2.2.2.2.2.1, z.2.2.2.2.2.1.2.2.2.2.2.2.2.2.2.1, z.2.2.2.2.2.1.2.2.2.2.2.2.2.2.2.2), z.2.2.2.2.2.2)
def m_held_s (z : SM) (v : (Nat → Bool)) : SM := (z.1, z.2.1, z.2.2.1, z.2.2.2.1, z.2.2.2.2.1, (z.2.2.2.2.2.1.1, z.2.2.2.2.2.1.2.1, z.2.2.2.2.2.1.2.2.1, z.2.2.2.2.2.1.2.2.2.1, z.2.2.2.2.2.1.2.2.2.2.1, z.2.2.2.2.2.1.2.2.2.2.2.1, v, z.2.2.2.2.2.1.2.2.2.2.2.2.2.1, z.2.2.2.2.2.1.2.2.2.2.2.2.2.2.1, z.2.2.2.2.2.1.2.2.2.2.2.2.2.2.2.1, z.2.2.2.2.2.1.2.2.2.2.2.2.2.2.2.2), z.2.2.2.2.2.2)
def m_ats_s (z : SM) (v : (Nat → Int32)) : SM := (z.1, z.2.1, z.2.2.1, z.2.2.2.1, z.2.2.2.2.1, (z.2.2.2.2.2.1.1, z.2.2.2.2.2.1.2.1, z.2.2.2.2.2.1.2.2.1, z.2.2.2.2.2.1.2.2.2.1, z.2.2.2.2.2.1.2.2.2.2.1, z.2.2.2.2.2.1.2.2.2.2.2.1, z.2.2.2.2.2.1.2.2.2.2.2.2.1, v, z.2.2.2.2.2.1.2.2.2.2.2.2.2.2.1, z.2.2.2.2.2.1.2.2.2.2.2.2.2.2.2.1, z.2.2.2.2.2.1.2.2.2.2.2.2.2.2.2.2), z.2.2.2.2.2.2)
def m_writ_s (z : SM) (v : (Nat → Int64)) : SM := (z.1, z.2.1, z.2.2.1, z.2.2.2.1, z.2.2.2.2.1, (z.2.2.2.2.2.1.1, z.2.2.2.2.2.1.2.1, z.2.2.2.2.2.1.2.2.1, z.2.2.2.2.2.1.2.2.2.1, z.2.2.2.2.2.1.2.2.2.2.1, z.2.2.2.2.2.1.2.2.2.2.2.1, z.2.2.2.2.2.1.2.2.2.2.2.2.1, z.2.2.2.2.2.1.2.2.2.2.2.2.2.1, v, z.2.2.2.2.2.1.2.2.2.2.2.2.2.2.2.1, z.2.2.2.2.2.1.2.2.2.2.2.2.2.2.2.2), z.2.2.2.2.2.2)
def m_lines_s (z : SM) (v : Int32) : SM := (z.1, z.2.1, z.2.2.1, z.2.2.2.1, z.2.2.2.2.1, (z.2.2.2.2.2.1.1, z.2.2.2.2.2.1.2.1, z.2.2.2.2.2.1.2.2.1, z.2.2.2.2.2.1.2.2.2.1, z.2.2.2.2.2.1.2.2.2.2.1, z.2.2.2.2.2.1.2.2.2.2.2.1, z.2.2.2.2.2.1.2.2.2.2.2.2.1, z.2.2.2.2.2.1.2.2.2.2.2.2.2.1, z.2.2.2.2.2.1.2.2.2.2.2.2.2.2.1, v, z.2.2.2.2.2.1.2.2.2.2.2.2.2.2.2.2), z.2.2.2.2.2.2)
def m_full_s (z : SM) (v : Bool) : SM := (z.1, z.2.1, z.2.2.1, z.2.2.2.1, z.2.2.2.2.1, (z.2.2.2.2.2.1.1, z.2.2.2.2.2.1.2.1, z.2.2.2.2.2.1.2.2.1, z.2.2.2.2.2.1.2.2.2.1, z.2.2.2.2.2.1.2.2.2.2.1, z.2.2.2.2.2.1.2.2.2.2.2.1, z.2.2.2.2.2.1.2.2.2.2.2.2.1, z.2.2.2.2.2.1.2.2.2.2.2.2.2.1, z.2.2.2.2.2.1.2.2.2.2.2.2.2.2.1, z.2.2.2.2.2.1.2.2.2.2.2.2.2.2.2.1, v), z.2.2.2.2.2.2)
def m_code_s (z : SM) (v : Int32) : SM := (z.1, z.2.1, z.2.2.1, z.2.2.2.1, z.2.2.2.2.1, z.2.2.2.2.2.1, v)
theorem m_codes_codes (z : SM) (v : (Nat → Int32)) : m_codes (m_codes_s z v) = v := rfl
theorem m_codes_dmin (z : SM) (v : (Nat → Bool)) : m_codes (m_dmin_s z v) = m_codes z := rfl
theorem m_codes_card (z : SM) (v : (Nat → Int64)) : m_codes (m_card_s z v) = m_codes z := rfl
theorem m_codes_cmin (z : SM) (v : (Nat → Bool)) : m_codes (m_cmin_s z v) = m_codes z := rfl
theorem m_codes_cards (z : SM) (v : Int32) : m_codes (m_cards_s z v) = m_codes z := rfl
theorem m_codes_outp (z : SM) (v : (Nat → Int64)) : m_codes (m_outp_s z v) = m_codes z := rfl
theorem m_codes_outs (z : SM) (v : Int32) : m_codes (m_outs_s z v) = m_codes z := rfl
theorem m_codes_dist (z : SM) (v : Int64) : m_codes (m_dist_s z v) = m_codes z := rfl
theorem m_codes_distm (z : SM) (v : Bool) : m_codes (m_distm_s z v) = m_codes z := rfl
theorem m_codes_nxt (z : SM) (v : Int32) : m_codes (m_nxt_s z v) = m_codes z := rfl
theorem m_codes_fault (z : SM) (v : Int32) : m_codes (m_fault_s z v) = m_codes z := rfl
theorem m_codes_time (z : SM) (v : Int64) : m_codes (m_time_s z v) = m_codes z := rfl
theorem m_codes_upper (z : SM) (v : Int64) : m_codes (m_upper_s z v) = m_codes z := rfl
theorem m_codes_lower (z : SM) (v : Int64) : m_codes (m_lower_s z v) = m_codes z := rfl
theorem m_codes_amin (z : SM) (v : Bool) : m_codes (m_amin_s z v) = m_codes z := rfl
theorem m_codes_ovf (z : SM) (v : Bool) : m_codes (m_ovf_s z v) = m_codes z := rfl
theorem m_codes_loc (z : SM) (v : (Nat → Int32)) : m_codes (m_loc_s z v) = m_codes z := rfl
theorem m_codes_ops (z : SM) (v : (Nat → Int32)) : m_codes (m_ops_s z v) = m_codes z := rfl
theorem m_codes_dat (z : SM) (v : (Nat → Int32)) : m_codes (m_dat_s z v) = m_codes z := rfl
theorem m_codes_foll (z : SM) (v : (Nat → Int32)) : m_codes (m_foll_s z v) = m_codes z := rfl
theorem m_codes_resv (z : SM) (v : (Nat → Bool)) : m_codes (m_resv_s z v) = m_codes z := rfl
theorem m_codes_plc (z : SM) (v : (Nat → Int32)) : m_codes (m_plc_s z v) = m_codes z := rfl
theorem m_codes_held (z : SM) (v : (Nat → Bool)) : m_codes (m_held_s z v) = m_codes z := rfl
theorem m_codes_ats (z : SM) (v : (Nat → Int32)) : m_codes (m_ats_s z v) = m_codes z := rfl
theorem m_codes_writ (z : SM) (v : (Nat → Int64)) : m_codes (m_writ_s z v) = m_codes z := rfl
theorem m_codes_lines (z : SM) (v : Int32) : m_codes (m_lines_s z v) = m_codes z := rfl
theorem m_codes_full (z : SM) (v : Bool) : m_codes (m_full_s z v) = m_codes z := rfl
theorem m_codes_code (z : SM) (v : Int32) : m_codes (m_code_s z v) = m_codes z := rfl
theorem m_dmin_codes (z : SM) (v : (Nat → Int32)) : m_dmin (m_codes_s z v) = m_dmin z := rfl
theorem m_dmin_dmin (z : SM) (v : (Nat → Bool)) : m_dmin (m_dmin_s z v) = v := rfl
theorem m_dmin_card (z : SM) (v : (Nat → Int64)) : m_dmin (m_card_s z v) = m_dmin z := rfl
theorem m_dmin_cmin (z : SM) (v : (Nat → Bool)) : m_dmin (m_cmin_s z v) = m_dmin z := rfl
theorem m_dmin_cards (z : SM) (v : Int32) : m_dmin (m_cards_s z v) = m_dmin z := rfl
theorem m_dmin_outp (z : SM) (v : (Nat → Int64)) : m_dmin (m_outp_s z v) = m_dmin z := rfl
theorem m_dmin_outs (z : SM) (v : Int32) : m_dmin (m_outs_s z v) = m_dmin z := rfl
theorem m_dmin_dist (z : SM) (v : Int64) : m_dmin (m_dist_s z v) = m_dmin z := rfl
theorem m_dmin_distm (z : SM) (v : Bool) : m_dmin (m_distm_s z v) = m_dmin z := rfl
theorem m_dmin_nxt (z : SM) (v : Int32) : m_dmin (m_nxt_s z v) = m_dmin z := rfl
theorem m_dmin_fault (z : SM) (v : Int32) : m_dmin (m_fault_s z v) = m_dmin z := rfl
theorem m_dmin_time (z : SM) (v : Int64) : m_dmin (m_time_s z v) = m_dmin z := rfl
theorem m_dmin_upper (z : SM) (v : Int64) : m_dmin (m_upper_s z v) = m_dmin z := rfl
theorem m_dmin_lower (z : SM) (v : Int64) : m_dmin (m_lower_s z v) = m_dmin z := rfl
theorem m_dmin_amin (z : SM) (v : Bool) : m_dmin (m_amin_s z v) = m_dmin z := rfl
theorem m_dmin_ovf (z : SM) (v : Bool) : m_dmin (m_ovf_s z v) = m_dmin z := rfl
theorem m_dmin_loc (z : SM) (v : (Nat → Int32)) : m_dmin (m_loc_s z v) = m_dmin z := rfl
theorem m_dmin_ops (z : SM) (v : (Nat → Int32)) : m_dmin (m_ops_s z v) = m_dmin z := rfl
theorem m_dmin_dat (z : SM) (v : (Nat → Int32)) : m_dmin (m_dat_s z v) = m_dmin z := rfl
theorem m_dmin_foll (z : SM) (v : (Nat → Int32)) : m_dmin (m_foll_s z v) = m_dmin z := rfl
theorem m_dmin_resv (z : SM) (v : (Nat → Bool)) : m_dmin (m_resv_s z v) = m_dmin z := rfl
theorem m_dmin_plc (z : SM) (v : (Nat → Int32)) : m_dmin (m_plc_s z v) = m_dmin z := rfl
theorem m_dmin_held (z : SM) (v : (Nat → Bool)) : m_dmin (m_held_s z v) = m_dmin z := rfl
theorem m_dmin_ats (z : SM) (v : (Nat → Int32)) : m_dmin (m_ats_s z v) = m_dmin z := rfl
theorem m_dmin_writ (z : SM) (v : (Nat → Int64)) : m_dmin (m_writ_s z v) = m_dmin z := rfl
theorem m_dmin_lines (z : SM) (v : Int32) : m_dmin (m_lines_s z v) = m_dmin z := rfl
theorem m_dmin_full (z : SM) (v : Bool) : m_dmin (m_full_s z v) = m_dmin z := rfl
theorem m_dmin_code (z : SM) (v : Int32) : m_dmin (m_code_s z v) = m_dmin z := rfl
theorem m_card_codes (z : SM) (v : (Nat → Int32)) : m_card (m_codes_s z v) = m_card z := rfl
theorem m_card_dmin (z : SM) (v : (Nat → Bool)) : m_card (m_dmin_s z v) = m_card z := rfl
theorem m_card_card (z : SM) (v : (Nat → Int64)) : m_card (m_card_s z v) = v := rfl
theorem m_card_cmin (z : SM) (v : (Nat → Bool)) : m_card (m_cmin_s z v) = m_card z := rfl
theorem m_card_cards (z : SM) (v : Int32) : m_card (m_cards_s z v) = m_card z := rfl
theorem m_card_outp (z : SM) (v : (Nat → Int64)) : m_card (m_outp_s z v) = m_card z := rfl
theorem m_card_outs (z : SM) (v : Int32) : m_card (m_outs_s z v) = m_card z := rfl
theorem m_card_dist (z : SM) (v : Int64) : m_card (m_dist_s z v) = m_card z := rfl
theorem m_card_distm (z : SM) (v : Bool) : m_card (m_distm_s z v) = m_card z := rfl
theorem m_card_nxt (z : SM) (v : Int32) : m_card (m_nxt_s z v) = m_card z := rfl
theorem m_card_fault (z : SM) (v : Int32) : m_card (m_fault_s z v) = m_card z := rfl
theorem m_card_time (z : SM) (v : Int64) : m_card (m_time_s z v) = m_card z := rfl
theorem m_card_upper (z : SM) (v : Int64) : m_card (m_upper_s z v) = m_card z := rfl
theorem m_card_lower (z : SM) (v : Int64) : m_card (m_lower_s z v) = m_card z := rfl
theorem m_card_amin (z : SM) (v : Bool) : m_card (m_amin_s z v) = m_card z := rfl
theorem m_card_ovf (z : SM) (v : Bool) : m_card (m_ovf_s z v) = m_card z := rfl
theorem m_card_loc (z : SM) (v : (Nat → Int32)) : m_card (m_loc_s z v) = m_card z := rfl
theorem m_card_ops (z : SM) (v : (Nat → Int32)) : m_card (m_ops_s z v) = m_card z := rfl
theorem m_card_dat (z : SM) (v : (Nat → Int32)) : m_card (m_dat_s z v) = m_card z := rfl
theorem m_card_foll (z : SM) (v : (Nat → Int32)) : m_card (m_foll_s z v) = m_card z := rfl
theorem m_card_resv (z : SM) (v : (Nat → Bool)) : m_card (m_resv_s z v) = m_card z := rfl
theorem m_card_plc (z : SM) (v : (Nat → Int32)) : m_card (m_plc_s z v) = m_card z := rfl
theorem m_card_held (z : SM) (v : (Nat → Bool)) : m_card (m_held_s z v) = m_card z := rfl
theorem m_card_ats (z : SM) (v : (Nat → Int32)) : m_card (m_ats_s z v) = m_card z := rfl
theorem m_card_writ (z : SM) (v : (Nat → Int64)) : m_card (m_writ_s z v) = m_card z := rfl
theorem m_card_lines (z : SM) (v : Int32) : m_card (m_lines_s z v) = m_card z := rfl
theorem m_card_full (z : SM) (v : Bool) : m_card (m_full_s z v) = m_card z := rfl
theorem m_card_code (z : SM) (v : Int32) : m_card (m_code_s z v) = m_card z := rfl
theorem m_cmin_codes (z : SM) (v : (Nat → Int32)) : m_cmin (m_codes_s z v) = m_cmin z := rfl
theorem m_cmin_dmin (z : SM) (v : (Nat → Bool)) : m_cmin (m_dmin_s z v) = m_cmin z := rfl
theorem m_cmin_card (z : SM) (v : (Nat → Int64)) : m_cmin (m_card_s z v) = m_cmin z := rfl
theorem m_cmin_cmin (z : SM) (v : (Nat → Bool)) : m_cmin (m_cmin_s z v) = v := rfl
theorem m_cmin_cards (z : SM) (v : Int32) : m_cmin (m_cards_s z v) = m_cmin z := rfl
theorem m_cmin_outp (z : SM) (v : (Nat → Int64)) : m_cmin (m_outp_s z v) = m_cmin z := rfl
theorem m_cmin_outs (z : SM) (v : Int32) : m_cmin (m_outs_s z v) = m_cmin z := rfl
theorem m_cmin_dist (z : SM) (v : Int64) : m_cmin (m_dist_s z v) = m_cmin z := rfl
theorem m_cmin_distm (z : SM) (v : Bool) : m_cmin (m_distm_s z v) = m_cmin z := rfl
theorem m_cmin_nxt (z : SM) (v : Int32) : m_cmin (m_nxt_s z v) = m_cmin z := rfl
theorem m_cmin_fault (z : SM) (v : Int32) : m_cmin (m_fault_s z v) = m_cmin z := rfl
theorem m_cmin_time (z : SM) (v : Int64) : m_cmin (m_time_s z v) = m_cmin z := rfl
theorem m_cmin_upper (z : SM) (v : Int64) : m_cmin (m_upper_s z v) = m_cmin z := rfl
theorem m_cmin_lower (z : SM) (v : Int64) : m_cmin (m_lower_s z v) = m_cmin z := rfl
theorem m_cmin_amin (z : SM) (v : Bool) : m_cmin (m_amin_s z v) = m_cmin z := rfl
theorem m_cmin_ovf (z : SM) (v : Bool) : m_cmin (m_ovf_s z v) = m_cmin z := rfl
theorem m_cmin_loc (z : SM) (v : (Nat → Int32)) : m_cmin (m_loc_s z v) = m_cmin z := rfl
theorem m_cmin_ops (z : SM) (v : (Nat → Int32)) : m_cmin (m_ops_s z v) = m_cmin z := rfl
theorem m_cmin_dat (z : SM) (v : (Nat → Int32)) : m_cmin (m_dat_s z v) = m_cmin z := rfl
theorem m_cmin_foll (z : SM) (v : (Nat → Int32)) : m_cmin (m_foll_s z v) = m_cmin z := rfl
theorem m_cmin_resv (z : SM) (v : (Nat → Bool)) : m_cmin (m_resv_s z v) = m_cmin z := rfl
theorem m_cmin_plc (z : SM) (v : (Nat → Int32)) : m_cmin (m_plc_s z v) = m_cmin z := rfl
theorem m_cmin_held (z : SM) (v : (Nat → Bool)) : m_cmin (m_held_s z v) = m_cmin z := rfl
theorem m_cmin_ats (z : SM) (v : (Nat → Int32)) : m_cmin (m_ats_s z v) = m_cmin z := rfl
theorem m_cmin_writ (z : SM) (v : (Nat → Int64)) : m_cmin (m_writ_s z v) = m_cmin z := rfl
theorem m_cmin_lines (z : SM) (v : Int32) : m_cmin (m_lines_s z v) = m_cmin z := rfl
theorem m_cmin_full (z : SM) (v : Bool) : m_cmin (m_full_s z v) = m_cmin z := rfl
theorem m_cmin_code (z : SM) (v : Int32) : m_cmin (m_code_s z v) = m_cmin z := rfl
theorem m_cards_codes (z : SM) (v : (Nat → Int32)) : m_cards (m_codes_s z v) = m_cards z := rfl
theorem m_cards_dmin (z : SM) (v : (Nat → Bool)) : m_cards (m_dmin_s z v) = m_cards z := rfl
theorem m_cards_card (z : SM) (v : (Nat → Int64)) : m_cards (m_card_s z v) = m_cards z := rfl
theorem m_cards_cmin (z : SM) (v : (Nat → Bool)) : m_cards (m_cmin_s z v) = m_cards z := rfl
theorem m_cards_cards (z : SM) (v : Int32) : m_cards (m_cards_s z v) = v := rfl
theorem m_cards_outp (z : SM) (v : (Nat → Int64)) : m_cards (m_outp_s z v) = m_cards z := rfl
theorem m_cards_outs (z : SM) (v : Int32) : m_cards (m_outs_s z v) = m_cards z := rfl
theorem m_cards_dist (z : SM) (v : Int64) : m_cards (m_dist_s z v) = m_cards z := rfl
theorem m_cards_distm (z : SM) (v : Bool) : m_cards (m_distm_s z v) = m_cards z := rfl
theorem m_cards_nxt (z : SM) (v : Int32) : m_cards (m_nxt_s z v) = m_cards z := rfl
theorem m_cards_fault (z : SM) (v : Int32) : m_cards (m_fault_s z v) = m_cards z := rfl
theorem m_cards_time (z : SM) (v : Int64) : m_cards (m_time_s z v) = m_cards z := rfl
theorem m_cards_upper (z : SM) (v : Int64) : m_cards (m_upper_s z v) = m_cards z := rfl
theorem m_cards_lower (z : SM) (v : Int64) : m_cards (m_lower_s z v) = m_cards z := rfl
theorem m_cards_amin (z : SM) (v : Bool) : m_cards (m_amin_s z v) = m_cards z := rfl
theorem m_cards_ovf (z : SM) (v : Bool) : m_cards (m_ovf_s z v) = m_cards z := rfl
theorem m_cards_loc (z : SM) (v : (Nat → Int32)) : m_cards (m_loc_s z v) = m_cards z := rfl
theorem m_cards_ops (z : SM) (v : (Nat → Int32)) : m_cards (m_ops_s z v) = m_cards z := rfl
theorem m_cards_dat (z : SM) (v : (Nat → Int32)) : m_cards (m_dat_s z v) = m_cards z := rfl
theorem m_cards_foll (z : SM) (v : (Nat → Int32)) : m_cards (m_foll_s z v) = m_cards z := rfl
theorem m_cards_resv (z : SM) (v : (Nat → Bool)) : m_cards (m_resv_s z v) = m_cards z := rfl
theorem m_cards_plc (z : SM) (v : (Nat → Int32)) : m_cards (m_plc_s z v) = m_cards z := rfl
theorem m_cards_held (z : SM) (v : (Nat → Bool)) : m_cards (m_held_s z v) = m_cards z := rfl
theorem m_cards_ats (z : SM) (v : (Nat → Int32)) : m_cards (m_ats_s z v) = m_cards z := rfl
theorem m_cards_writ (z : SM) (v : (Nat → Int64)) : m_cards (m_writ_s z v) = m_cards z := rfl
theorem m_cards_lines (z : SM) (v : Int32) : m_cards (m_lines_s z v) = m_cards z := rfl
theorem m_cards_full (z : SM) (v : Bool) : m_cards (m_full_s z v) = m_cards z := rfl
theorem m_cards_code (z : SM) (v : Int32) : m_cards (m_code_s z v) = m_cards z := rfl
theorem m_outp_codes (z : SM) (v : (Nat → Int32)) : m_outp (m_codes_s z v) = m_outp z := rfl
theorem m_outp_dmin (z : SM) (v : (Nat → Bool)) : m_outp (m_dmin_s z v) = m_outp z := rfl
theorem m_outp_card (z : SM) (v : (Nat → Int64)) : m_outp (m_card_s z v) = m_outp z := rfl
theorem m_outp_cmin (z : SM) (v : (Nat → Bool)) : m_outp (m_cmin_s z v) = m_outp z := rfl
theorem m_outp_cards (z : SM) (v : Int32) : m_outp (m_cards_s z v) = m_outp z := rfl
theorem m_outp_outp (z : SM) (v : (Nat → Int64)) : m_outp (m_outp_s z v) = v := rfl
theorem m_outp_outs (z : SM) (v : Int32) : m_outp (m_outs_s z v) = m_outp z := rfl
theorem m_outp_dist (z : SM) (v : Int64) : m_outp (m_dist_s z v) = m_outp z := rfl
theorem m_outp_distm (z : SM) (v : Bool) : m_outp (m_distm_s z v) = m_outp z := rfl
theorem m_outp_nxt (z : SM) (v : Int32) : m_outp (m_nxt_s z v) = m_outp z := rfl
theorem m_outp_fault (z : SM) (v : Int32) : m_outp (m_fault_s z v) = m_outp z := rfl
theorem m_outp_time (z : SM) (v : Int64) : m_outp (m_time_s z v) = m_outp z := rfl
theorem m_outp_upper (z : SM) (v : Int64) : m_outp (m_upper_s z v) = m_outp z := rfl
theorem m_outp_lower (z : SM) (v : Int64) : m_outp (m_lower_s z v) = m_outp z := rfl
theorem m_outp_amin (z : SM) (v : Bool) : m_outp (m_amin_s z v) = m_outp z := rfl
theorem m_outp_ovf (z : SM) (v : Bool) : m_outp (m_ovf_s z v) = m_outp z := rfl
theorem m_outp_loc (z : SM) (v : (Nat → Int32)) : m_outp (m_loc_s z v) = m_outp z := rfl
theorem m_outp_ops (z : SM) (v : (Nat → Int32)) : m_outp (m_ops_s z v) = m_outp z := rfl
theorem m_outp_dat (z : SM) (v : (Nat → Int32)) : m_outp (m_dat_s z v) = m_outp z := rfl
theorem m_outp_foll (z : SM) (v : (Nat → Int32)) : m_outp (m_foll_s z v) = m_outp z := rfl
theorem m_outp_resv (z : SM) (v : (Nat → Bool)) : m_outp (m_resv_s z v) = m_outp z := rfl
theorem m_outp_plc (z : SM) (v : (Nat → Int32)) : m_outp (m_plc_s z v) = m_outp z := rfl
theorem m_outp_held (z : SM) (v : (Nat → Bool)) : m_outp (m_held_s z v) = m_outp z := rfl
theorem m_outp_ats (z : SM) (v : (Nat → Int32)) : m_outp (m_ats_s z v) = m_outp z := rfl
theorem m_outp_writ (z : SM) (v : (Nat → Int64)) : m_outp (m_writ_s z v) = m_outp z := rfl
theorem m_outp_lines (z : SM) (v : Int32) : m_outp (m_lines_s z v) = m_outp z := rfl
theorem m_outp_full (z : SM) (v : Bool) : m_outp (m_full_s z v) = m_outp z := rfl
theorem m_outp_code (z : SM) (v : Int32) : m_outp (m_code_s z v) = m_outp z := rfl
theorem m_outs_codes (z : SM) (v : (Nat → Int32)) : m_outs (m_codes_s z v) = m_outs z := rfl
theorem m_outs_dmin (z : SM) (v : (Nat → Bool)) : m_outs (m_dmin_s z v) = m_outs z := rfl
theorem m_outs_card (z : SM) (v : (Nat → Int64)) : m_outs (m_card_s z v) = m_outs z := rfl
theorem m_outs_cmin (z : SM) (v : (Nat → Bool)) : m_outs (m_cmin_s z v) = m_outs z := rfl
theorem m_outs_cards (z : SM) (v : Int32) : m_outs (m_cards_s z v) = m_outs z := rfl
theorem m_outs_outp (z : SM) (v : (Nat → Int64)) : m_outs (m_outp_s z v) = m_outs z := rfl
theorem m_outs_outs (z : SM) (v : Int32) : m_outs (m_outs_s z v) = v := rfl
theorem m_outs_dist (z : SM) (v : Int64) : m_outs (m_dist_s z v) = m_outs z := rfl
theorem m_outs_distm (z : SM) (v : Bool) : m_outs (m_distm_s z v) = m_outs z := rfl
theorem m_outs_nxt (z : SM) (v : Int32) : m_outs (m_nxt_s z v) = m_outs z := rfl
theorem m_outs_fault (z : SM) (v : Int32) : m_outs (m_fault_s z v) = m_outs z := rfl
theorem m_outs_time (z : SM) (v : Int64) : m_outs (m_time_s z v) = m_outs z := rfl
theorem m_outs_upper (z : SM) (v : Int64) : m_outs (m_upper_s z v) = m_outs z := rfl
theorem m_outs_lower (z : SM) (v : Int64) : m_outs (m_lower_s z v) = m_outs z := rfl
theorem m_outs_amin (z : SM) (v : Bool) : m_outs (m_amin_s z v) = m_outs z := rfl
theorem m_outs_ovf (z : SM) (v : Bool) : m_outs (m_ovf_s z v) = m_outs z := rfl
theorem m_outs_loc (z : SM) (v : (Nat → Int32)) : m_outs (m_loc_s z v) = m_outs z := rfl
theorem m_outs_ops (z : SM) (v : (Nat → Int32)) : m_outs (m_ops_s z v) = m_outs z := rfl
theorem m_outs_dat (z : SM) (v : (Nat → Int32)) : m_outs (m_dat_s z v) = m_outs z := rfl
theorem m_outs_foll (z : SM) (v : (Nat → Int32)) : m_outs (m_foll_s z v) = m_outs z := rfl
theorem m_outs_resv (z : SM) (v : (Nat → Bool)) : m_outs (m_resv_s z v) = m_outs z := rfl
theorem m_outs_plc (z : SM) (v : (Nat → Int32)) : m_outs (m_plc_s z v) = m_outs z := rfl
theorem m_outs_held (z : SM) (v : (Nat → Bool)) : m_outs (m_held_s z v) = m_outs z := rfl
theorem m_outs_ats (z : SM) (v : (Nat → Int32)) : m_outs (m_ats_s z v) = m_outs z := rfl
theorem m_outs_writ (z : SM) (v : (Nat → Int64)) : m_outs (m_writ_s z v) = m_outs z := rfl
theorem m_outs_lines (z : SM) (v : Int32) : m_outs (m_lines_s z v) = m_outs z := rfl
theorem m_outs_full (z : SM) (v : Bool) : m_outs (m_full_s z v) = m_outs z := rfl
theorem m_outs_code (z : SM) (v : Int32) : m_outs (m_code_s z v) = m_outs z := rfl
theorem m_dist_codes (z : SM) (v : (Nat → Int32)) : m_dist (m_codes_s z v) = m_dist z := rfl
theorem m_dist_dmin (z : SM) (v : (Nat → Bool)) : m_dist (m_dmin_s z v) = m_dist z := rfl
theorem m_dist_card (z : SM) (v : (Nat → Int64)) : m_dist (m_card_s z v) = m_dist z := rfl
theorem m_dist_cmin (z : SM) (v : (Nat → Bool)) : m_dist (m_cmin_s z v) = m_dist z := rfl
theorem m_dist_cards (z : SM) (v : Int32) : m_dist (m_cards_s z v) = m_dist z := rfl
theorem m_dist_outp (z : SM) (v : (Nat → Int64)) : m_dist (m_outp_s z v) = m_dist z := rfl
theorem m_dist_outs (z : SM) (v : Int32) : m_dist (m_outs_s z v) = m_dist z := rfl
theorem m_dist_dist (z : SM) (v : Int64) : m_dist (m_dist_s z v) = v := rfl
theorem m_dist_distm (z : SM) (v : Bool) : m_dist (m_distm_s z v) = m_dist z := rfl
theorem m_dist_nxt (z : SM) (v : Int32) : m_dist (m_nxt_s z v) = m_dist z := rfl
theorem m_dist_fault (z : SM) (v : Int32) : m_dist (m_fault_s z v) = m_dist z := rfl
theorem m_dist_time (z : SM) (v : Int64) : m_dist (m_time_s z v) = m_dist z := rfl
theorem m_dist_upper (z : SM) (v : Int64) : m_dist (m_upper_s z v) = m_dist z := rfl
theorem m_dist_lower (z : SM) (v : Int64) : m_dist (m_lower_s z v) = m_dist z := rfl
theorem m_dist_amin (z : SM) (v : Bool) : m_dist (m_amin_s z v) = m_dist z := rfl
theorem m_dist_ovf (z : SM) (v : Bool) : m_dist (m_ovf_s z v) = m_dist z := rfl
theorem m_dist_loc (z : SM) (v : (Nat → Int32)) : m_dist (m_loc_s z v) = m_dist z := rfl
theorem m_dist_ops (z : SM) (v : (Nat → Int32)) : m_dist (m_ops_s z v) = m_dist z := rfl
theorem m_dist_dat (z : SM) (v : (Nat → Int32)) : m_dist (m_dat_s z v) = m_dist z := rfl
theorem m_dist_foll (z : SM) (v : (Nat → Int32)) : m_dist (m_foll_s z v) = m_dist z := rfl
theorem m_dist_resv (z : SM) (v : (Nat → Bool)) : m_dist (m_resv_s z v) = m_dist z := rfl
theorem m_dist_plc (z : SM) (v : (Nat → Int32)) : m_dist (m_plc_s z v) = m_dist z := rfl
theorem m_dist_held (z : SM) (v : (Nat → Bool)) : m_dist (m_held_s z v) = m_dist z := rfl
theorem m_dist_ats (z : SM) (v : (Nat → Int32)) : m_dist (m_ats_s z v) = m_dist z := rfl
theorem m_dist_writ (z : SM) (v : (Nat → Int64)) : m_dist (m_writ_s z v) = m_dist z := rfl
theorem m_dist_lines (z : SM) (v : Int32) : m_dist (m_lines_s z v) = m_dist z := rfl
theorem m_dist_full (z : SM) (v : Bool) : m_dist (m_full_s z v) = m_dist z := rfl
theorem m_dist_code (z : SM) (v : Int32) : m_dist (m_code_s z v) = m_dist z := rfl
theorem m_distm_codes (z : SM) (v : (Nat → Int32)) : m_distm (m_codes_s z v) = m_distm z := rfl
theorem m_distm_dmin (z : SM) (v : (Nat → Bool)) : m_distm (m_dmin_s z v) = m_distm z := rfl
theorem m_distm_card (z : SM) (v : (Nat → Int64)) : m_distm (m_card_s z v) = m_distm z := rfl
theorem m_distm_cmin (z : SM) (v : (Nat → Bool)) : m_distm (m_cmin_s z v) = m_distm z := rfl
theorem m_distm_cards (z : SM) (v : Int32) : m_distm (m_cards_s z v) = m_distm z := rfl
theorem m_distm_outp (z : SM) (v : (Nat → Int64)) : m_distm (m_outp_s z v) = m_distm z := rfl
theorem m_distm_outs (z : SM) (v : Int32) : m_distm (m_outs_s z v) = m_distm z := rfl
theorem m_distm_dist (z : SM) (v : Int64) : m_distm (m_dist_s z v) = m_distm z := rfl
theorem m_distm_distm (z : SM) (v : Bool) : m_distm (m_distm_s z v) = v := rfl
theorem m_distm_nxt (z : SM) (v : Int32) : m_distm (m_nxt_s z v) = m_distm z := rfl
theorem m_distm_fault (z : SM) (v : Int32) : m_distm (m_fault_s z v) = m_distm z := rfl
theorem m_distm_time (z : SM) (v : Int64) : m_distm (m_time_s z v) = m_distm z := rfl
theorem m_distm_upper (z : SM) (v : Int64) : m_distm (m_upper_s z v) = m_distm z := rfl
theorem m_distm_lower (z : SM) (v : Int64) : m_distm (m_lower_s z v) = m_distm z := rfl
theorem m_distm_amin (z : SM) (v : Bool) : m_distm (m_amin_s z v) = m_distm z := rfl
theorem m_distm_ovf (z : SM) (v : Bool) : m_distm (m_ovf_s z v) = m_distm z := rfl
theorem m_distm_loc (z : SM) (v : (Nat → Int32)) : m_distm (m_loc_s z v) = m_distm z := rfl
theorem m_distm_ops (z : SM) (v : (Nat → Int32)) : m_distm (m_ops_s z v) = m_distm z := rfl
theorem m_distm_dat (z : SM) (v : (Nat → Int32)) : m_distm (m_dat_s z v) = m_distm z := rfl
theorem m_distm_foll (z : SM) (v : (Nat → Int32)) : m_distm (m_foll_s z v) = m_distm z := rfl
theorem m_distm_resv (z : SM) (v : (Nat → Bool)) : m_distm (m_resv_s z v) = m_distm z := rfl
theorem m_distm_plc (z : SM) (v : (Nat → Int32)) : m_distm (m_plc_s z v) = m_distm z := rfl
theorem m_distm_held (z : SM) (v : (Nat → Bool)) : m_distm (m_held_s z v) = m_distm z := rfl
theorem m_distm_ats (z : SM) (v : (Nat → Int32)) : m_distm (m_ats_s z v) = m_distm z := rfl
theorem m_distm_writ (z : SM) (v : (Nat → Int64)) : m_distm (m_writ_s z v) = m_distm z := rfl
theorem m_distm_lines (z : SM) (v : Int32) : m_distm (m_lines_s z v) = m_distm z := rfl
theorem m_distm_full (z : SM) (v : Bool) : m_distm (m_full_s z v) = m_distm z := rfl
theorem m_distm_code (z : SM) (v : Int32) : m_distm (m_code_s z v) = m_distm z := rfl
theorem m_nxt_codes (z : SM) (v : (Nat → Int32)) : m_nxt (m_codes_s z v) = m_nxt z := rfl
theorem m_nxt_dmin (z : SM) (v : (Nat → Bool)) : m_nxt (m_dmin_s z v) = m_nxt z := rfl
theorem m_nxt_card (z : SM) (v : (Nat → Int64)) : m_nxt (m_card_s z v) = m_nxt z := rfl
theorem m_nxt_cmin (z : SM) (v : (Nat → Bool)) : m_nxt (m_cmin_s z v) = m_nxt z := rfl
theorem m_nxt_cards (z : SM) (v : Int32) : m_nxt (m_cards_s z v) = m_nxt z := rfl
theorem m_nxt_outp (z : SM) (v : (Nat → Int64)) : m_nxt (m_outp_s z v) = m_nxt z := rfl
theorem m_nxt_outs (z : SM) (v : Int32) : m_nxt (m_outs_s z v) = m_nxt z := rfl
theorem m_nxt_dist (z : SM) (v : Int64) : m_nxt (m_dist_s z v) = m_nxt z := rfl
theorem m_nxt_distm (z : SM) (v : Bool) : m_nxt (m_distm_s z v) = m_nxt z := rfl
theorem m_nxt_nxt (z : SM) (v : Int32) : m_nxt (m_nxt_s z v) = v := rfl
theorem m_nxt_fault (z : SM) (v : Int32) : m_nxt (m_fault_s z v) = m_nxt z := rfl
theorem m_nxt_time (z : SM) (v : Int64) : m_nxt (m_time_s z v) = m_nxt z := rfl
theorem m_nxt_upper (z : SM) (v : Int64) : m_nxt (m_upper_s z v) = m_nxt z := rfl
theorem m_nxt_lower (z : SM) (v : Int64) : m_nxt (m_lower_s z v) = m_nxt z := rfl
theorem m_nxt_amin (z : SM) (v : Bool) : m_nxt (m_amin_s z v) = m_nxt z := rfl
theorem m_nxt_ovf (z : SM) (v : Bool) : m_nxt (m_ovf_s z v) = m_nxt z := rfl
theorem m_nxt_loc (z : SM) (v : (Nat → Int32)) : m_nxt (m_loc_s z v) = m_nxt z := rfl
theorem m_nxt_ops (z : SM) (v : (Nat → Int32)) : m_nxt (m_ops_s z v) = m_nxt z := rfl
theorem m_nxt_dat (z : SM) (v : (Nat → Int32)) : m_nxt (m_dat_s z v) = m_nxt z := rfl
theorem m_nxt_foll (z : SM) (v : (Nat → Int32)) : m_nxt (m_foll_s z v) = m_nxt z := rfl
theorem m_nxt_resv (z : SM) (v : (Nat → Bool)) : m_nxt (m_resv_s z v) = m_nxt z := rfl
theorem m_nxt_plc (z : SM) (v : (Nat → Int32)) : m_nxt (m_plc_s z v) = m_nxt z := rfl
theorem m_nxt_held (z : SM) (v : (Nat → Bool)) : m_nxt (m_held_s z v) = m_nxt z := rfl
theorem m_nxt_ats (z : SM) (v : (Nat → Int32)) : m_nxt (m_ats_s z v) = m_nxt z := rfl
theorem m_nxt_writ (z : SM) (v : (Nat → Int64)) : m_nxt (m_writ_s z v) = m_nxt z := rfl
theorem m_nxt_lines (z : SM) (v : Int32) : m_nxt (m_lines_s z v) = m_nxt z := rfl
theorem m_nxt_full (z : SM) (v : Bool) : m_nxt (m_full_s z v) = m_nxt z := rfl
theorem m_nxt_code (z : SM) (v : Int32) : m_nxt (m_code_s z v) = m_nxt z := rfl
theorem m_fault_codes (z : SM) (v : (Nat → Int32)) : m_fault (m_codes_s z v) = m_fault z := rfl
theorem m_fault_dmin (z : SM) (v : (Nat → Bool)) : m_fault (m_dmin_s z v) = m_fault z := rfl
theorem m_fault_card (z : SM) (v : (Nat → Int64)) : m_fault (m_card_s z v) = m_fault z := rfl
theorem m_fault_cmin (z : SM) (v : (Nat → Bool)) : m_fault (m_cmin_s z v) = m_fault z := rfl
theorem m_fault_cards (z : SM) (v : Int32) : m_fault (m_cards_s z v) = m_fault z := rfl
theorem m_fault_outp (z : SM) (v : (Nat → Int64)) : m_fault (m_outp_s z v) = m_fault z := rfl
theorem m_fault_outs (z : SM) (v : Int32) : m_fault (m_outs_s z v) = m_fault z := rfl
theorem m_fault_dist (z : SM) (v : Int64) : m_fault (m_dist_s z v) = m_fault z := rfl
theorem m_fault_distm (z : SM) (v : Bool) : m_fault (m_distm_s z v) = m_fault z := rfl
theorem m_fault_nxt (z : SM) (v : Int32) : m_fault (m_nxt_s z v) = m_fault z := rfl
theorem m_fault_fault (z : SM) (v : Int32) : m_fault (m_fault_s z v) = v := rfl
theorem m_fault_time (z : SM) (v : Int64) : m_fault (m_time_s z v) = m_fault z := rfl
theorem m_fault_upper (z : SM) (v : Int64) : m_fault (m_upper_s z v) = m_fault z := rfl
theorem m_fault_lower (z : SM) (v : Int64) : m_fault (m_lower_s z v) = m_fault z := rfl
theorem m_fault_amin (z : SM) (v : Bool) : m_fault (m_amin_s z v) = m_fault z := rfl
theorem m_fault_ovf (z : SM) (v : Bool) : m_fault (m_ovf_s z v) = m_fault z := rfl
theorem m_fault_loc (z : SM) (v : (Nat → Int32)) : m_fault (m_loc_s z v) = m_fault z := rfl
theorem m_fault_ops (z : SM) (v : (Nat → Int32)) : m_fault (m_ops_s z v) = m_fault z := rfl
theorem m_fault_dat (z : SM) (v : (Nat → Int32)) : m_fault (m_dat_s z v) = m_fault z := rfl
theorem m_fault_foll (z : SM) (v : (Nat → Int32)) : m_fault (m_foll_s z v) = m_fault z := rfl
theorem m_fault_resv (z : SM) (v : (Nat → Bool)) : m_fault (m_resv_s z v) = m_fault z := rfl
theorem m_fault_plc (z : SM) (v : (Nat → Int32)) : m_fault (m_plc_s z v) = m_fault z := rfl
theorem m_fault_held (z : SM) (v : (Nat → Bool)) : m_fault (m_held_s z v) = m_fault z := rfl
theorem m_fault_ats (z : SM) (v : (Nat → Int32)) : m_fault (m_ats_s z v) = m_fault z := rfl
theorem m_fault_writ (z : SM) (v : (Nat → Int64)) : m_fault (m_writ_s z v) = m_fault z := rfl
theorem m_fault_lines (z : SM) (v : Int32) : m_fault (m_lines_s z v) = m_fault z := rfl
theorem m_fault_full (z : SM) (v : Bool) : m_fault (m_full_s z v) = m_fault z := rfl
theorem m_fault_code (z : SM) (v : Int32) : m_fault (m_code_s z v) = m_fault z := rfl
theorem m_time_codes (z : SM) (v : (Nat → Int32)) : m_time (m_codes_s z v) = m_time z := rfl
theorem m_time_dmin (z : SM) (v : (Nat → Bool)) : m_time (m_dmin_s z v) = m_time z := rfl
theorem m_time_card (z : SM) (v : (Nat → Int64)) : m_time (m_card_s z v) = m_time z := rfl
theorem m_time_cmin (z : SM) (v : (Nat → Bool)) : m_time (m_cmin_s z v) = m_time z := rfl
theorem m_time_cards (z : SM) (v : Int32) : m_time (m_cards_s z v) = m_time z := rfl
theorem m_time_outp (z : SM) (v : (Nat → Int64)) : m_time (m_outp_s z v) = m_time z := rfl
theorem m_time_outs (z : SM) (v : Int32) : m_time (m_outs_s z v) = m_time z := rfl
theorem m_time_dist (z : SM) (v : Int64) : m_time (m_dist_s z v) = m_time z := rfl
theorem m_time_distm (z : SM) (v : Bool) : m_time (m_distm_s z v) = m_time z := rfl
theorem m_time_nxt (z : SM) (v : Int32) : m_time (m_nxt_s z v) = m_time z := rfl
theorem m_time_fault (z : SM) (v : Int32) : m_time (m_fault_s z v) = m_time z := rfl
theorem m_time_time (z : SM) (v : Int64) : m_time (m_time_s z v) = v := rfl
theorem m_time_upper (z : SM) (v : Int64) : m_time (m_upper_s z v) = m_time z := rfl
theorem m_time_lower (z : SM) (v : Int64) : m_time (m_lower_s z v) = m_time z := rfl
theorem m_time_amin (z : SM) (v : Bool) : m_time (m_amin_s z v) = m_time z := rfl
theorem m_time_ovf (z : SM) (v : Bool) : m_time (m_ovf_s z v) = m_time z := rfl
theorem m_time_loc (z : SM) (v : (Nat → Int32)) : m_time (m_loc_s z v) = m_time z := rfl
theorem m_time_ops (z : SM) (v : (Nat → Int32)) : m_time (m_ops_s z v) = m_time z := rfl
theorem m_time_dat (z : SM) (v : (Nat → Int32)) : m_time (m_dat_s z v) = m_time z := rfl
theorem m_time_foll (z : SM) (v : (Nat → Int32)) : m_time (m_foll_s z v) = m_time z := rfl
theorem m_time_resv (z : SM) (v : (Nat → Bool)) : m_time (m_resv_s z v) = m_time z := rfl
theorem m_time_plc (z : SM) (v : (Nat → Int32)) : m_time (m_plc_s z v) = m_time z := rfl
theorem m_time_held (z : SM) (v : (Nat → Bool)) : m_time (m_held_s z v) = m_time z := rfl
theorem m_time_ats (z : SM) (v : (Nat → Int32)) : m_time (m_ats_s z v) = m_time z := rfl
theorem m_time_writ (z : SM) (v : (Nat → Int64)) : m_time (m_writ_s z v) = m_time z := rfl
theorem m_time_lines (z : SM) (v : Int32) : m_time (m_lines_s z v) = m_time z := rfl
theorem m_time_full (z : SM) (v : Bool) : m_time (m_full_s z v) = m_time z := rfl
theorem m_time_code (z : SM) (v : Int32) : m_time (m_code_s z v) = m_time z := rfl
theorem m_upper_codes (z : SM) (v : (Nat → Int32)) : m_upper (m_codes_s z v) = m_upper z := rfl
theorem m_upper_dmin (z : SM) (v : (Nat → Bool)) : m_upper (m_dmin_s z v) = m_upper z := rfl
theorem m_upper_card (z : SM) (v : (Nat → Int64)) : m_upper (m_card_s z v) = m_upper z := rfl
theorem m_upper_cmin (z : SM) (v : (Nat → Bool)) : m_upper (m_cmin_s z v) = m_upper z := rfl
theorem m_upper_cards (z : SM) (v : Int32) : m_upper (m_cards_s z v) = m_upper z := rfl
theorem m_upper_outp (z : SM) (v : (Nat → Int64)) : m_upper (m_outp_s z v) = m_upper z := rfl
theorem m_upper_outs (z : SM) (v : Int32) : m_upper (m_outs_s z v) = m_upper z := rfl
theorem m_upper_dist (z : SM) (v : Int64) : m_upper (m_dist_s z v) = m_upper z := rfl
theorem m_upper_distm (z : SM) (v : Bool) : m_upper (m_distm_s z v) = m_upper z := rfl
theorem m_upper_nxt (z : SM) (v : Int32) : m_upper (m_nxt_s z v) = m_upper z := rfl
theorem m_upper_fault (z : SM) (v : Int32) : m_upper (m_fault_s z v) = m_upper z := rfl
theorem m_upper_time (z : SM) (v : Int64) : m_upper (m_time_s z v) = m_upper z := rfl
theorem m_upper_upper (z : SM) (v : Int64) : m_upper (m_upper_s z v) = v := rfl
theorem m_upper_lower (z : SM) (v : Int64) : m_upper (m_lower_s z v) = m_upper z := rfl
theorem m_upper_amin (z : SM) (v : Bool) : m_upper (m_amin_s z v) = m_upper z := rfl
theorem m_upper_ovf (z : SM) (v : Bool) : m_upper (m_ovf_s z v) = m_upper z := rfl
theorem m_upper_loc (z : SM) (v : (Nat → Int32)) : m_upper (m_loc_s z v) = m_upper z := rfl
theorem m_upper_ops (z : SM) (v : (Nat → Int32)) : m_upper (m_ops_s z v) = m_upper z := rfl
theorem m_upper_dat (z : SM) (v : (Nat → Int32)) : m_upper (m_dat_s z v) = m_upper z := rfl
theorem m_upper_foll (z : SM) (v : (Nat → Int32)) : m_upper (m_foll_s z v) = m_upper z := rfl
theorem m_upper_resv (z : SM) (v : (Nat → Bool)) : m_upper (m_resv_s z v) = m_upper z := rfl
theorem m_upper_plc (z : SM) (v : (Nat → Int32)) : m_upper (m_plc_s z v) = m_upper z := rfl
theorem m_upper_held (z : SM) (v : (Nat → Bool)) : m_upper (m_held_s z v) = m_upper z := rfl
theorem m_upper_ats (z : SM) (v : (Nat → Int32)) : m_upper (m_ats_s z v) = m_upper z := rfl
theorem m_upper_writ (z : SM) (v : (Nat → Int64)) : m_upper (m_writ_s z v) = m_upper z := rfl
theorem m_upper_lines (z : SM) (v : Int32) : m_upper (m_lines_s z v) = m_upper z := rfl
theorem m_upper_full (z : SM) (v : Bool) : m_upper (m_full_s z v) = m_upper z := rfl
theorem m_upper_code (z : SM) (v : Int32) : m_upper (m_code_s z v) = m_upper z := rfl
theorem m_lower_codes (z : SM) (v : (Nat → Int32)) : m_lower (m_codes_s z v) = m_lower z := rfl
theorem m_lower_dmin (z : SM) (v : (Nat → Bool)) : m_lower (m_dmin_s z v) = m_lower z := rfl
theorem m_lower_card (z : SM) (v : (Nat → Int64)) : m_lower (m_card_s z v) = m_lower z := rfl
theorem m_lower_cmin (z : SM) (v : (Nat → Bool)) : m_lower (m_cmin_s z v) = m_lower z := rfl
theorem m_lower_cards (z : SM) (v : Int32) : m_lower (m_cards_s z v) = m_lower z := rfl
theorem m_lower_outp (z : SM) (v : (Nat → Int64)) : m_lower (m_outp_s z v) = m_lower z := rfl
theorem m_lower_outs (z : SM) (v : Int32) : m_lower (m_outs_s z v) = m_lower z := rfl
theorem m_lower_dist (z : SM) (v : Int64) : m_lower (m_dist_s z v) = m_lower z := rfl
theorem m_lower_distm (z : SM) (v : Bool) : m_lower (m_distm_s z v) = m_lower z := rfl
theorem m_lower_nxt (z : SM) (v : Int32) : m_lower (m_nxt_s z v) = m_lower z := rfl
theorem m_lower_fault (z : SM) (v : Int32) : m_lower (m_fault_s z v) = m_lower z := rfl
theorem m_lower_time (z : SM) (v : Int64) : m_lower (m_time_s z v) = m_lower z := rfl
theorem m_lower_upper (z : SM) (v : Int64) : m_lower (m_upper_s z v) = m_lower z := rfl
theorem m_lower_lower (z : SM) (v : Int64) : m_lower (m_lower_s z v) = v := rfl
theorem m_lower_amin (z : SM) (v : Bool) : m_lower (m_amin_s z v) = m_lower z := rfl
theorem m_lower_ovf (z : SM) (v : Bool) : m_lower (m_ovf_s z v) = m_lower z := rfl
theorem m_lower_loc (z : SM) (v : (Nat → Int32)) : m_lower (m_loc_s z v) = m_lower z := rfl
theorem m_lower_ops (z : SM) (v : (Nat → Int32)) : m_lower (m_ops_s z v) = m_lower z := rfl
theorem m_lower_dat (z : SM) (v : (Nat → Int32)) : m_lower (m_dat_s z v) = m_lower z := rfl
theorem m_lower_foll (z : SM) (v : (Nat → Int32)) : m_lower (m_foll_s z v) = m_lower z := rfl
theorem m_lower_resv (z : SM) (v : (Nat → Bool)) : m_lower (m_resv_s z v) = m_lower z := rfl
theorem m_lower_plc (z : SM) (v : (Nat → Int32)) : m_lower (m_plc_s z v) = m_lower z := rfl
theorem m_lower_held (z : SM) (v : (Nat → Bool)) : m_lower (m_held_s z v) = m_lower z := rfl
theorem m_lower_ats (z : SM) (v : (Nat → Int32)) : m_lower (m_ats_s z v) = m_lower z := rfl
theorem m_lower_writ (z : SM) (v : (Nat → Int64)) : m_lower (m_writ_s z v) = m_lower z := rfl
theorem m_lower_lines (z : SM) (v : Int32) : m_lower (m_lines_s z v) = m_lower z := rfl
theorem m_lower_full (z : SM) (v : Bool) : m_lower (m_full_s z v) = m_lower z := rfl
theorem m_lower_code (z : SM) (v : Int32) : m_lower (m_code_s z v) = m_lower z := rfl
theorem m_amin_codes (z : SM) (v : (Nat → Int32)) : m_amin (m_codes_s z v) = m_amin z := rfl
theorem m_amin_dmin (z : SM) (v : (Nat → Bool)) : m_amin (m_dmin_s z v) = m_amin z := rfl
theorem m_amin_card (z : SM) (v : (Nat → Int64)) : m_amin (m_card_s z v) = m_amin z := rfl
theorem m_amin_cmin (z : SM) (v : (Nat → Bool)) : m_amin (m_cmin_s z v) = m_amin z := rfl
theorem m_amin_cards (z : SM) (v : Int32) : m_amin (m_cards_s z v) = m_amin z := rfl
theorem m_amin_outp (z : SM) (v : (Nat → Int64)) : m_amin (m_outp_s z v) = m_amin z := rfl
theorem m_amin_outs (z : SM) (v : Int32) : m_amin (m_outs_s z v) = m_amin z := rfl
theorem m_amin_dist (z : SM) (v : Int64) : m_amin (m_dist_s z v) = m_amin z := rfl
theorem m_amin_distm (z : SM) (v : Bool) : m_amin (m_distm_s z v) = m_amin z := rfl
theorem m_amin_nxt (z : SM) (v : Int32) : m_amin (m_nxt_s z v) = m_amin z := rfl
theorem m_amin_fault (z : SM) (v : Int32) : m_amin (m_fault_s z v) = m_amin z := rfl
theorem m_amin_time (z : SM) (v : Int64) : m_amin (m_time_s z v) = m_amin z := rfl
theorem m_amin_upper (z : SM) (v : Int64) : m_amin (m_upper_s z v) = m_amin z := rfl
theorem m_amin_lower (z : SM) (v : Int64) : m_amin (m_lower_s z v) = m_amin z := rfl
theorem m_amin_amin (z : SM) (v : Bool) : m_amin (m_amin_s z v) = v := rfl
theorem m_amin_ovf (z : SM) (v : Bool) : m_amin (m_ovf_s z v) = m_amin z := rfl
theorem m_amin_loc (z : SM) (v : (Nat → Int32)) : m_amin (m_loc_s z v) = m_amin z := rfl
theorem m_amin_ops (z : SM) (v : (Nat → Int32)) : m_amin (m_ops_s z v) = m_amin z := rfl
theorem m_amin_dat (z : SM) (v : (Nat → Int32)) : m_amin (m_dat_s z v) = m_amin z := rfl
theorem m_amin_foll (z : SM) (v : (Nat → Int32)) : m_amin (m_foll_s z v) = m_amin z := rfl
theorem m_amin_resv (z : SM) (v : (Nat → Bool)) : m_amin (m_resv_s z v) = m_amin z := rfl
theorem m_amin_plc (z : SM) (v : (Nat → Int32)) : m_amin (m_plc_s z v) = m_amin z := rfl
theorem m_amin_held (z : SM) (v : (Nat → Bool)) : m_amin (m_held_s z v) = m_amin z := rfl
theorem m_amin_ats (z : SM) (v : (Nat → Int32)) : m_amin (m_ats_s z v) = m_amin z := rfl
theorem m_amin_writ (z : SM) (v : (Nat → Int64)) : m_amin (m_writ_s z v) = m_amin z := rfl
theorem m_amin_lines (z : SM) (v : Int32) : m_amin (m_lines_s z v) = m_amin z := rfl
theorem m_amin_full (z : SM) (v : Bool) : m_amin (m_full_s z v) = m_amin z := rfl
theorem m_amin_code (z : SM) (v : Int32) : m_amin (m_code_s z v) = m_amin z := rfl
theorem m_ovf_codes (z : SM) (v : (Nat → Int32)) : m_ovf (m_codes_s z v) = m_ovf z := rfl
theorem m_ovf_dmin (z : SM) (v : (Nat → Bool)) : m_ovf (m_dmin_s z v) = m_ovf z := rfl
theorem m_ovf_card (z : SM) (v : (Nat → Int64)) : m_ovf (m_card_s z v) = m_ovf z := rfl
theorem m_ovf_cmin (z : SM) (v : (Nat → Bool)) : m_ovf (m_cmin_s z v) = m_ovf z := rfl
theorem m_ovf_cards (z : SM) (v : Int32) : m_ovf (m_cards_s z v) = m_ovf z := rfl
theorem m_ovf_outp (z : SM) (v : (Nat → Int64)) : m_ovf (m_outp_s z v) = m_ovf z := rfl
theorem m_ovf_outs (z : SM) (v : Int32) : m_ovf (m_outs_s z v) = m_ovf z := rfl
theorem m_ovf_dist (z : SM) (v : Int64) : m_ovf (m_dist_s z v) = m_ovf z := rfl
theorem m_ovf_distm (z : SM) (v : Bool) : m_ovf (m_distm_s z v) = m_ovf z := rfl
theorem m_ovf_nxt (z : SM) (v : Int32) : m_ovf (m_nxt_s z v) = m_ovf z := rfl
theorem m_ovf_fault (z : SM) (v : Int32) : m_ovf (m_fault_s z v) = m_ovf z := rfl
theorem m_ovf_time (z : SM) (v : Int64) : m_ovf (m_time_s z v) = m_ovf z := rfl
theorem m_ovf_upper (z : SM) (v : Int64) : m_ovf (m_upper_s z v) = m_ovf z := rfl
theorem m_ovf_lower (z : SM) (v : Int64) : m_ovf (m_lower_s z v) = m_ovf z := rfl
theorem m_ovf_amin (z : SM) (v : Bool) : m_ovf (m_amin_s z v) = m_ovf z := rfl
theorem m_ovf_ovf (z : SM) (v : Bool) : m_ovf (m_ovf_s z v) = v := rfl
theorem m_ovf_loc (z : SM) (v : (Nat → Int32)) : m_ovf (m_loc_s z v) = m_ovf z := rfl
theorem m_ovf_ops (z : SM) (v : (Nat → Int32)) : m_ovf (m_ops_s z v) = m_ovf z := rfl
theorem m_ovf_dat (z : SM) (v : (Nat → Int32)) : m_ovf (m_dat_s z v) = m_ovf z := rfl
theorem m_ovf_foll (z : SM) (v : (Nat → Int32)) : m_ovf (m_foll_s z v) = m_ovf z := rfl
theorem m_ovf_resv (z : SM) (v : (Nat → Bool)) : m_ovf (m_resv_s z v) = m_ovf z := rfl
theorem m_ovf_plc (z : SM) (v : (Nat → Int32)) : m_ovf (m_plc_s z v) = m_ovf z := rfl
theorem m_ovf_held (z : SM) (v : (Nat → Bool)) : m_ovf (m_held_s z v) = m_ovf z := rfl
theorem m_ovf_ats (z : SM) (v : (Nat → Int32)) : m_ovf (m_ats_s z v) = m_ovf z := rfl
theorem m_ovf_writ (z : SM) (v : (Nat → Int64)) : m_ovf (m_writ_s z v) = m_ovf z := rfl
theorem m_ovf_lines (z : SM) (v : Int32) : m_ovf (m_lines_s z v) = m_ovf z := rfl
theorem m_ovf_full (z : SM) (v : Bool) : m_ovf (m_full_s z v) = m_ovf z := rfl
theorem m_ovf_code (z : SM) (v : Int32) : m_ovf (m_code_s z v) = m_ovf z := rfl
theorem m_loc_codes (z : SM) (v : (Nat → Int32)) : m_loc (m_codes_s z v) = m_loc z := rfl
theorem m_loc_dmin (z : SM) (v : (Nat → Bool)) : m_loc (m_dmin_s z v) = m_loc z := rfl
theorem m_loc_card (z : SM) (v : (Nat → Int64)) : m_loc (m_card_s z v) = m_loc z := rfl
theorem m_loc_cmin (z : SM) (v : (Nat → Bool)) : m_loc (m_cmin_s z v) = m_loc z := rfl
theorem m_loc_cards (z : SM) (v : Int32) : m_loc (m_cards_s z v) = m_loc z := rfl
theorem m_loc_outp (z : SM) (v : (Nat → Int64)) : m_loc (m_outp_s z v) = m_loc z := rfl
theorem m_loc_outs (z : SM) (v : Int32) : m_loc (m_outs_s z v) = m_loc z := rfl
theorem m_loc_dist (z : SM) (v : Int64) : m_loc (m_dist_s z v) = m_loc z := rfl
theorem m_loc_distm (z : SM) (v : Bool) : m_loc (m_distm_s z v) = m_loc z := rfl
theorem m_loc_nxt (z : SM) (v : Int32) : m_loc (m_nxt_s z v) = m_loc z := rfl
theorem m_loc_fault (z : SM) (v : Int32) : m_loc (m_fault_s z v) = m_loc z := rfl
theorem m_loc_time (z : SM) (v : Int64) : m_loc (m_time_s z v) = m_loc z := rfl
theorem m_loc_upper (z : SM) (v : Int64) : m_loc (m_upper_s z v) = m_loc z := rfl
theorem m_loc_lower (z : SM) (v : Int64) : m_loc (m_lower_s z v) = m_loc z := rfl
theorem m_loc_amin (z : SM) (v : Bool) : m_loc (m_amin_s z v) = m_loc z := rfl
theorem m_loc_ovf (z : SM) (v : Bool) : m_loc (m_ovf_s z v) = m_loc z := rfl
theorem m_loc_loc (z : SM) (v : (Nat → Int32)) : m_loc (m_loc_s z v) = v := rfl
theorem m_loc_ops (z : SM) (v : (Nat → Int32)) : m_loc (m_ops_s z v) = m_loc z := rfl
theorem m_loc_dat (z : SM) (v : (Nat → Int32)) : m_loc (m_dat_s z v) = m_loc z := rfl
theorem m_loc_foll (z : SM) (v : (Nat → Int32)) : m_loc (m_foll_s z v) = m_loc z := rfl
theorem m_loc_resv (z : SM) (v : (Nat → Bool)) : m_loc (m_resv_s z v) = m_loc z := rfl
theorem m_loc_plc (z : SM) (v : (Nat → Int32)) : m_loc (m_plc_s z v) = m_loc z := rfl
theorem m_loc_held (z : SM) (v : (Nat → Bool)) : m_loc (m_held_s z v) = m_loc z := rfl
theorem m_loc_ats (z : SM) (v : (Nat → Int32)) : m_loc (m_ats_s z v) = m_loc z := rfl
theorem m_loc_writ (z : SM) (v : (Nat → Int64)) : m_loc (m_writ_s z v) = m_loc z := rfl
theorem m_loc_lines (z : SM) (v : Int32) : m_loc (m_lines_s z v) = m_loc z := rfl
theorem m_loc_full (z : SM) (v : Bool) : m_loc (m_full_s z v) = m_loc z := rfl
theorem m_loc_code (z : SM) (v : Int32) : m_loc (m_code_s z v) = m_loc z := rfl
theorem m_ops_codes (z : SM) (v : (Nat → Int32)) : m_ops (m_codes_s z v) = m_ops z := rfl
theorem m_ops_dmin (z : SM) (v : (Nat → Bool)) : m_ops (m_dmin_s z v) = m_ops z := rfl
theorem m_ops_card (z : SM) (v : (Nat → Int64)) : m_ops (m_card_s z v) = m_ops z := rfl
theorem m_ops_cmin (z : SM) (v : (Nat → Bool)) : m_ops (m_cmin_s z v) = m_ops z := rfl
theorem m_ops_cards (z : SM) (v : Int32) : m_ops (m_cards_s z v) = m_ops z := rfl
theorem m_ops_outp (z : SM) (v : (Nat → Int64)) : m_ops (m_outp_s z v) = m_ops z := rfl
theorem m_ops_outs (z : SM) (v : Int32) : m_ops (m_outs_s z v) = m_ops z := rfl
theorem m_ops_dist (z : SM) (v : Int64) : m_ops (m_dist_s z v) = m_ops z := rfl
theorem m_ops_distm (z : SM) (v : Bool) : m_ops (m_distm_s z v) = m_ops z := rfl
theorem m_ops_nxt (z : SM) (v : Int32) : m_ops (m_nxt_s z v) = m_ops z := rfl
theorem m_ops_fault (z : SM) (v : Int32) : m_ops (m_fault_s z v) = m_ops z := rfl
theorem m_ops_time (z : SM) (v : Int64) : m_ops (m_time_s z v) = m_ops z := rfl
theorem m_ops_upper (z : SM) (v : Int64) : m_ops (m_upper_s z v) = m_ops z := rfl
theorem m_ops_lower (z : SM) (v : Int64) : m_ops (m_lower_s z v) = m_ops z := rfl
theorem m_ops_amin (z : SM) (v : Bool) : m_ops (m_amin_s z v) = m_ops z := rfl
theorem m_ops_ovf (z : SM) (v : Bool) : m_ops (m_ovf_s z v) = m_ops z := rfl
theorem m_ops_loc (z : SM) (v : (Nat → Int32)) : m_ops (m_loc_s z v) = m_ops z := rfl
theorem m_ops_ops (z : SM) (v : (Nat → Int32)) : m_ops (m_ops_s z v) = v := rfl
theorem m_ops_dat (z : SM) (v : (Nat → Int32)) : m_ops (m_dat_s z v) = m_ops z := rfl
theorem m_ops_foll (z : SM) (v : (Nat → Int32)) : m_ops (m_foll_s z v) = m_ops z := rfl
theorem m_ops_resv (z : SM) (v : (Nat → Bool)) : m_ops (m_resv_s z v) = m_ops z := rfl
theorem m_ops_plc (z : SM) (v : (Nat → Int32)) : m_ops (m_plc_s z v) = m_ops z := rfl
theorem m_ops_held (z : SM) (v : (Nat → Bool)) : m_ops (m_held_s z v) = m_ops z := rfl
theorem m_ops_ats (z : SM) (v : (Nat → Int32)) : m_ops (m_ats_s z v) = m_ops z := rfl
theorem m_ops_writ (z : SM) (v : (Nat → Int64)) : m_ops (m_writ_s z v) = m_ops z := rfl
theorem m_ops_lines (z : SM) (v : Int32) : m_ops (m_lines_s z v) = m_ops z := rfl
theorem m_ops_full (z : SM) (v : Bool) : m_ops (m_full_s z v) = m_ops z := rfl
theorem m_ops_code (z : SM) (v : Int32) : m_ops (m_code_s z v) = m_ops z := rfl
theorem m_dat_codes (z : SM) (v : (Nat → Int32)) : m_dat (m_codes_s z v) = m_dat z := rfl
theorem m_dat_dmin (z : SM) (v : (Nat → Bool)) : m_dat (m_dmin_s z v) = m_dat z := rfl
theorem m_dat_card (z : SM) (v : (Nat → Int64)) : m_dat (m_card_s z v) = m_dat z := rfl
theorem m_dat_cmin (z : SM) (v : (Nat → Bool)) : m_dat (m_cmin_s z v) = m_dat z := rfl
theorem m_dat_cards (z : SM) (v : Int32) : m_dat (m_cards_s z v) = m_dat z := rfl
theorem m_dat_outp (z : SM) (v : (Nat → Int64)) : m_dat (m_outp_s z v) = m_dat z := rfl
theorem m_dat_outs (z : SM) (v : Int32) : m_dat (m_outs_s z v) = m_dat z := rfl
theorem m_dat_dist (z : SM) (v : Int64) : m_dat (m_dist_s z v) = m_dat z := rfl
theorem m_dat_distm (z : SM) (v : Bool) : m_dat (m_distm_s z v) = m_dat z := rfl
theorem m_dat_nxt (z : SM) (v : Int32) : m_dat (m_nxt_s z v) = m_dat z := rfl
theorem m_dat_fault (z : SM) (v : Int32) : m_dat (m_fault_s z v) = m_dat z := rfl
theorem m_dat_time (z : SM) (v : Int64) : m_dat (m_time_s z v) = m_dat z := rfl
theorem m_dat_upper (z : SM) (v : Int64) : m_dat (m_upper_s z v) = m_dat z := rfl
theorem m_dat_lower (z : SM) (v : Int64) : m_dat (m_lower_s z v) = m_dat z := rfl
theorem m_dat_amin (z : SM) (v : Bool) : m_dat (m_amin_s z v) = m_dat z := rfl
theorem m_dat_ovf (z : SM) (v : Bool) : m_dat (m_ovf_s z v) = m_dat z := rfl
theorem m_dat_loc (z : SM) (v : (Nat → Int32)) : m_dat (m_loc_s z v) = m_dat z := rfl
theorem m_dat_ops (z : SM) (v : (Nat → Int32)) : m_dat (m_ops_s z v) = m_dat z := rfl
theorem m_dat_dat (z : SM) (v : (Nat → Int32)) : m_dat (m_dat_s z v) = v := rfl
theorem m_dat_foll (z : SM) (v : (Nat → Int32)) : m_dat (m_foll_s z v) = m_dat z := rfl
theorem m_dat_resv (z : SM) (v : (Nat → Bool)) : m_dat (m_resv_s z v) = m_dat z := rfl
theorem m_dat_plc (z : SM) (v : (Nat → Int32)) : m_dat (m_plc_s z v) = m_dat z := rfl
theorem m_dat_held (z : SM) (v : (Nat → Bool)) : m_dat (m_held_s z v) = m_dat z := rfl
theorem m_dat_ats (z : SM) (v : (Nat → Int32)) : m_dat (m_ats_s z v) = m_dat z := rfl
theorem m_dat_writ (z : SM) (v : (Nat → Int64)) : m_dat (m_writ_s z v) = m_dat z := rfl
theorem m_dat_lines (z : SM) (v : Int32) : m_dat (m_lines_s z v) = m_dat z := rfl
theorem m_dat_full (z : SM) (v : Bool) : m_dat (m_full_s z v) = m_dat z := rfl
theorem m_dat_code (z : SM) (v : Int32) : m_dat (m_code_s z v) = m_dat z := rfl
theorem m_foll_codes (z : SM) (v : (Nat → Int32)) : m_foll (m_codes_s z v) = m_foll z := rfl
theorem m_foll_dmin (z : SM) (v : (Nat → Bool)) : m_foll (m_dmin_s z v) = m_foll z := rfl
theorem m_foll_card (z : SM) (v : (Nat → Int64)) : m_foll (m_card_s z v) = m_foll z := rfl
theorem m_foll_cmin (z : SM) (v : (Nat → Bool)) : m_foll (m_cmin_s z v) = m_foll z := rfl
theorem m_foll_cards (z : SM) (v : Int32) : m_foll (m_cards_s z v) = m_foll z := rfl
theorem m_foll_outp (z : SM) (v : (Nat → Int64)) : m_foll (m_outp_s z v) = m_foll z := rfl
theorem m_foll_outs (z : SM) (v : Int32) : m_foll (m_outs_s z v) = m_foll z := rfl
theorem m_foll_dist (z : SM) (v : Int64) : m_foll (m_dist_s z v) = m_foll z := rfl
theorem m_foll_distm (z : SM) (v : Bool) : m_foll (m_distm_s z v) = m_foll z := rfl
theorem m_foll_nxt (z : SM) (v : Int32) : m_foll (m_nxt_s z v) = m_foll z := rfl
theorem m_foll_fault (z : SM) (v : Int32) : m_foll (m_fault_s z v) = m_foll z := rfl
theorem m_foll_time (z : SM) (v : Int64) : m_foll (m_time_s z v) = m_foll z := rfl
theorem m_foll_upper (z : SM) (v : Int64) : m_foll (m_upper_s z v) = m_foll z := rfl
theorem m_foll_lower (z : SM) (v : Int64) : m_foll (m_lower_s z v) = m_foll z := rfl
theorem m_foll_amin (z : SM) (v : Bool) : m_foll (m_amin_s z v) = m_foll z := rfl
theorem m_foll_ovf (z : SM) (v : Bool) : m_foll (m_ovf_s z v) = m_foll z := rfl
theorem m_foll_loc (z : SM) (v : (Nat → Int32)) : m_foll (m_loc_s z v) = m_foll z := rfl
theorem m_foll_ops (z : SM) (v : (Nat → Int32)) : m_foll (m_ops_s z v) = m_foll z := rfl
theorem m_foll_dat (z : SM) (v : (Nat → Int32)) : m_foll (m_dat_s z v) = m_foll z := rfl
theorem m_foll_foll (z : SM) (v : (Nat → Int32)) : m_foll (m_foll_s z v) = v := rfl
theorem m_foll_resv (z : SM) (v : (Nat → Bool)) : m_foll (m_resv_s z v) = m_foll z := rfl
theorem m_foll_plc (z : SM) (v : (Nat → Int32)) : m_foll (m_plc_s z v) = m_foll z := rfl
theorem m_foll_held (z : SM) (v : (Nat → Bool)) : m_foll (m_held_s z v) = m_foll z := rfl
theorem m_foll_ats (z : SM) (v : (Nat → Int32)) : m_foll (m_ats_s z v) = m_foll z := rfl
theorem m_foll_writ (z : SM) (v : (Nat → Int64)) : m_foll (m_writ_s z v) = m_foll z := rfl
theorem m_foll_lines (z : SM) (v : Int32) : m_foll (m_lines_s z v) = m_foll z := rfl
theorem m_foll_full (z : SM) (v : Bool) : m_foll (m_full_s z v) = m_foll z := rfl
theorem m_foll_code (z : SM) (v : Int32) : m_foll (m_code_s z v) = m_foll z := rfl
theorem m_resv_codes (z : SM) (v : (Nat → Int32)) : m_resv (m_codes_s z v) = m_resv z := rfl
theorem m_resv_dmin (z : SM) (v : (Nat → Bool)) : m_resv (m_dmin_s z v) = m_resv z := rfl
theorem m_resv_card (z : SM) (v : (Nat → Int64)) : m_resv (m_card_s z v) = m_resv z := rfl
theorem m_resv_cmin (z : SM) (v : (Nat → Bool)) : m_resv (m_cmin_s z v) = m_resv z := rfl
theorem m_resv_cards (z : SM) (v : Int32) : m_resv (m_cards_s z v) = m_resv z := rfl
theorem m_resv_outp (z : SM) (v : (Nat → Int64)) : m_resv (m_outp_s z v) = m_resv z := rfl
theorem m_resv_outs (z : SM) (v : Int32) : m_resv (m_outs_s z v) = m_resv z := rfl
theorem m_resv_dist (z : SM) (v : Int64) : m_resv (m_dist_s z v) = m_resv z := rfl
theorem m_resv_distm (z : SM) (v : Bool) : m_resv (m_distm_s z v) = m_resv z := rfl
theorem m_resv_nxt (z : SM) (v : Int32) : m_resv (m_nxt_s z v) = m_resv z := rfl
theorem m_resv_fault (z : SM) (v : Int32) : m_resv (m_fault_s z v) = m_resv z := rfl
theorem m_resv_time (z : SM) (v : Int64) : m_resv (m_time_s z v) = m_resv z := rfl
theorem m_resv_upper (z : SM) (v : Int64) : m_resv (m_upper_s z v) = m_resv z := rfl
theorem m_resv_lower (z : SM) (v : Int64) : m_resv (m_lower_s z v) = m_resv z := rfl
theorem m_resv_amin (z : SM) (v : Bool) : m_resv (m_amin_s z v) = m_resv z := rfl
theorem m_resv_ovf (z : SM) (v : Bool) : m_resv (m_ovf_s z v) = m_resv z := rfl
theorem m_resv_loc (z : SM) (v : (Nat → Int32)) : m_resv (m_loc_s z v) = m_resv z := rfl
theorem m_resv_ops (z : SM) (v : (Nat → Int32)) : m_resv (m_ops_s z v) = m_resv z := rfl
theorem m_resv_dat (z : SM) (v : (Nat → Int32)) : m_resv (m_dat_s z v) = m_resv z := rfl
theorem m_resv_foll (z : SM) (v : (Nat → Int32)) : m_resv (m_foll_s z v) = m_resv z := rfl
theorem m_resv_resv (z : SM) (v : (Nat → Bool)) : m_resv (m_resv_s z v) = v := rfl
theorem m_resv_plc (z : SM) (v : (Nat → Int32)) : m_resv (m_plc_s z v) = m_resv z := rfl
theorem m_resv_held (z : SM) (v : (Nat → Bool)) : m_resv (m_held_s z v) = m_resv z := rfl
theorem m_resv_ats (z : SM) (v : (Nat → Int32)) : m_resv (m_ats_s z v) = m_resv z := rfl
theorem m_resv_writ (z : SM) (v : (Nat → Int64)) : m_resv (m_writ_s z v) = m_resv z := rfl
theorem m_resv_lines (z : SM) (v : Int32) : m_resv (m_lines_s z v) = m_resv z := rfl
theorem m_resv_full (z : SM) (v : Bool) : m_resv (m_full_s z v) = m_resv z := rfl
theorem m_resv_code (z : SM) (v : Int32) : m_resv (m_code_s z v) = m_resv z := rfl
theorem m_plc_codes (z : SM) (v : (Nat → Int32)) : m_plc (m_codes_s z v) = m_plc z := rfl
theorem m_plc_dmin (z : SM) (v : (Nat → Bool)) : m_plc (m_dmin_s z v) = m_plc z := rfl
theorem m_plc_card (z : SM) (v : (Nat → Int64)) : m_plc (m_card_s z v) = m_plc z := rfl
theorem m_plc_cmin (z : SM) (v : (Nat → Bool)) : m_plc (m_cmin_s z v) = m_plc z := rfl
theorem m_plc_cards (z : SM) (v : Int32) : m_plc (m_cards_s z v) = m_plc z := rfl
theorem m_plc_outp (z : SM) (v : (Nat → Int64)) : m_plc (m_outp_s z v) = m_plc z := rfl
theorem m_plc_outs (z : SM) (v : Int32) : m_plc (m_outs_s z v) = m_plc z := rfl
theorem m_plc_dist (z : SM) (v : Int64) : m_plc (m_dist_s z v) = m_plc z := rfl
theorem m_plc_distm (z : SM) (v : Bool) : m_plc (m_distm_s z v) = m_plc z := rfl
theorem m_plc_nxt (z : SM) (v : Int32) : m_plc (m_nxt_s z v) = m_plc z := rfl
theorem m_plc_fault (z : SM) (v : Int32) : m_plc (m_fault_s z v) = m_plc z := rfl
theorem m_plc_time (z : SM) (v : Int64) : m_plc (m_time_s z v) = m_plc z := rfl
theorem m_plc_upper (z : SM) (v : Int64) : m_plc (m_upper_s z v) = m_plc z := rfl
theorem m_plc_lower (z : SM) (v : Int64) : m_plc (m_lower_s z v) = m_plc z := rfl
theorem m_plc_amin (z : SM) (v : Bool) : m_plc (m_amin_s z v) = m_plc z := rfl
theorem m_plc_ovf (z : SM) (v : Bool) : m_plc (m_ovf_s z v) = m_plc z := rfl
theorem m_plc_loc (z : SM) (v : (Nat → Int32)) : m_plc (m_loc_s z v) = m_plc z := rfl
theorem m_plc_ops (z : SM) (v : (Nat → Int32)) : m_plc (m_ops_s z v) = m_plc z := rfl
theorem m_plc_dat (z : SM) (v : (Nat → Int32)) : m_plc (m_dat_s z v) = m_plc z := rfl
theorem m_plc_foll (z : SM) (v : (Nat → Int32)) : m_plc (m_foll_s z v) = m_plc z := rfl
theorem m_plc_resv (z : SM) (v : (Nat → Bool)) : m_plc (m_resv_s z v) = m_plc z := rfl
theorem m_plc_plc (z : SM) (v : (Nat → Int32)) : m_plc (m_plc_s z v) = v := rfl
theorem m_plc_held (z : SM) (v : (Nat → Bool)) : m_plc (m_held_s z v) = m_plc z := rfl
theorem m_plc_ats (z : SM) (v : (Nat → Int32)) : m_plc (m_ats_s z v) = m_plc z := rfl
theorem m_plc_writ (z : SM) (v : (Nat → Int64)) : m_plc (m_writ_s z v) = m_plc z := rfl
theorem m_plc_lines (z : SM) (v : Int32) : m_plc (m_lines_s z v) = m_plc z := rfl
theorem m_plc_full (z : SM) (v : Bool) : m_plc (m_full_s z v) = m_plc z := rfl
theorem m_plc_code (z : SM) (v : Int32) : m_plc (m_code_s z v) = m_plc z := rfl
theorem m_held_codes (z : SM) (v : (Nat → Int32)) : m_held (m_codes_s z v) = m_held z := rfl
theorem m_held_dmin (z : SM) (v : (Nat → Bool)) : m_held (m_dmin_s z v) = m_held z := rfl
theorem m_held_card (z : SM) (v : (Nat → Int64)) : m_held (m_card_s z v) = m_held z := rfl
theorem m_held_cmin (z : SM) (v : (Nat → Bool)) : m_held (m_cmin_s z v) = m_held z := rfl
theorem m_held_cards (z : SM) (v : Int32) : m_held (m_cards_s z v) = m_held z := rfl
theorem m_held_outp (z : SM) (v : (Nat → Int64)) : m_held (m_outp_s z v) = m_held z := rfl
theorem m_held_outs (z : SM) (v : Int32) : m_held (m_outs_s z v) = m_held z := rfl
theorem m_held_dist (z : SM) (v : Int64) : m_held (m_dist_s z v) = m_held z := rfl
theorem m_held_distm (z : SM) (v : Bool) : m_held (m_distm_s z v) = m_held z := rfl
theorem m_held_nxt (z : SM) (v : Int32) : m_held (m_nxt_s z v) = m_held z := rfl
theorem m_held_fault (z : SM) (v : Int32) : m_held (m_fault_s z v) = m_held z := rfl
theorem m_held_time (z : SM) (v : Int64) : m_held (m_time_s z v) = m_held z := rfl
theorem m_held_upper (z : SM) (v : Int64) : m_held (m_upper_s z v) = m_held z := rfl
theorem m_held_lower (z : SM) (v : Int64) : m_held (m_lower_s z v) = m_held z := rfl
theorem m_held_amin (z : SM) (v : Bool) : m_held (m_amin_s z v) = m_held z := rfl
theorem m_held_ovf (z : SM) (v : Bool) : m_held (m_ovf_s z v) = m_held z := rfl
theorem m_held_loc (z : SM) (v : (Nat → Int32)) : m_held (m_loc_s z v) = m_held z := rfl
theorem m_held_ops (z : SM) (v : (Nat → Int32)) : m_held (m_ops_s z v) = m_held z := rfl
theorem m_held_dat (z : SM) (v : (Nat → Int32)) : m_held (m_dat_s z v) = m_held z := rfl
theorem m_held_foll (z : SM) (v : (Nat → Int32)) : m_held (m_foll_s z v) = m_held z := rfl
theorem m_held_resv (z : SM) (v : (Nat → Bool)) : m_held (m_resv_s z v) = m_held z := rfl
theorem m_held_plc (z : SM) (v : (Nat → Int32)) : m_held (m_plc_s z v) = m_held z := rfl
theorem m_held_held (z : SM) (v : (Nat → Bool)) : m_held (m_held_s z v) = v := rfl
theorem m_held_ats (z : SM) (v : (Nat → Int32)) : m_held (m_ats_s z v) = m_held z := rfl
theorem m_held_writ (z : SM) (v : (Nat → Int64)) : m_held (m_writ_s z v) = m_held z := rfl
theorem m_held_lines (z : SM) (v : Int32) : m_held (m_lines_s z v) = m_held z := rfl
theorem m_held_full (z : SM) (v : Bool) : m_held (m_full_s z v) = m_held z := rfl
theorem m_held_code (z : SM) (v : Int32) : m_held (m_code_s z v) = m_held z := rfl
theorem m_ats_codes (z : SM) (v : (Nat → Int32)) : m_ats (m_codes_s z v) = m_ats z := rfl
theorem m_ats_dmin (z : SM) (v : (Nat → Bool)) : m_ats (m_dmin_s z v) = m_ats z := rfl
theorem m_ats_card (z : SM) (v : (Nat → Int64)) : m_ats (m_card_s z v) = m_ats z := rfl
theorem m_ats_cmin (z : SM) (v : (Nat → Bool)) : m_ats (m_cmin_s z v) = m_ats z := rfl
theorem m_ats_cards (z : SM) (v : Int32) : m_ats (m_cards_s z v) = m_ats z := rfl
theorem m_ats_outp (z : SM) (v : (Nat → Int64)) : m_ats (m_outp_s z v) = m_ats z := rfl
theorem m_ats_outs (z : SM) (v : Int32) : m_ats (m_outs_s z v) = m_ats z := rfl
theorem m_ats_dist (z : SM) (v : Int64) : m_ats (m_dist_s z v) = m_ats z := rfl
theorem m_ats_distm (z : SM) (v : Bool) : m_ats (m_distm_s z v) = m_ats z := rfl
theorem m_ats_nxt (z : SM) (v : Int32) : m_ats (m_nxt_s z v) = m_ats z := rfl
theorem m_ats_fault (z : SM) (v : Int32) : m_ats (m_fault_s z v) = m_ats z := rfl
theorem m_ats_time (z : SM) (v : Int64) : m_ats (m_time_s z v) = m_ats z := rfl
theorem m_ats_upper (z : SM) (v : Int64) : m_ats (m_upper_s z v) = m_ats z := rfl
theorem m_ats_lower (z : SM) (v : Int64) : m_ats (m_lower_s z v) = m_ats z := rfl
theorem m_ats_amin (z : SM) (v : Bool) : m_ats (m_amin_s z v) = m_ats z := rfl
theorem m_ats_ovf (z : SM) (v : Bool) : m_ats (m_ovf_s z v) = m_ats z := rfl
theorem m_ats_loc (z : SM) (v : (Nat → Int32)) : m_ats (m_loc_s z v) = m_ats z := rfl
theorem m_ats_ops (z : SM) (v : (Nat → Int32)) : m_ats (m_ops_s z v) = m_ats z := rfl
theorem m_ats_dat (z : SM) (v : (Nat → Int32)) : m_ats (m_dat_s z v) = m_ats z := rfl
theorem m_ats_foll (z : SM) (v : (Nat → Int32)) : m_ats (m_foll_s z v) = m_ats z := rfl
theorem m_ats_resv (z : SM) (v : (Nat → Bool)) : m_ats (m_resv_s z v) = m_ats z := rfl
theorem m_ats_plc (z : SM) (v : (Nat → Int32)) : m_ats (m_plc_s z v) = m_ats z := rfl
theorem m_ats_held (z : SM) (v : (Nat → Bool)) : m_ats (m_held_s z v) = m_ats z := rfl
theorem m_ats_ats (z : SM) (v : (Nat → Int32)) : m_ats (m_ats_s z v) = v := rfl
theorem m_ats_writ (z : SM) (v : (Nat → Int64)) : m_ats (m_writ_s z v) = m_ats z := rfl
theorem m_ats_lines (z : SM) (v : Int32) : m_ats (m_lines_s z v) = m_ats z := rfl
theorem m_ats_full (z : SM) (v : Bool) : m_ats (m_full_s z v) = m_ats z := rfl
theorem m_ats_code (z : SM) (v : Int32) : m_ats (m_code_s z v) = m_ats z := rfl
theorem m_writ_codes (z : SM) (v : (Nat → Int32)) : m_writ (m_codes_s z v) = m_writ z := rfl
theorem m_writ_dmin (z : SM) (v : (Nat → Bool)) : m_writ (m_dmin_s z v) = m_writ z := rfl
theorem m_writ_card (z : SM) (v : (Nat → Int64)) : m_writ (m_card_s z v) = m_writ z := rfl
theorem m_writ_cmin (z : SM) (v : (Nat → Bool)) : m_writ (m_cmin_s z v) = m_writ z := rfl
theorem m_writ_cards (z : SM) (v : Int32) : m_writ (m_cards_s z v) = m_writ z := rfl
theorem m_writ_outp (z : SM) (v : (Nat → Int64)) : m_writ (m_outp_s z v) = m_writ z := rfl
theorem m_writ_outs (z : SM) (v : Int32) : m_writ (m_outs_s z v) = m_writ z := rfl
theorem m_writ_dist (z : SM) (v : Int64) : m_writ (m_dist_s z v) = m_writ z := rfl
theorem m_writ_distm (z : SM) (v : Bool) : m_writ (m_distm_s z v) = m_writ z := rfl
theorem m_writ_nxt (z : SM) (v : Int32) : m_writ (m_nxt_s z v) = m_writ z := rfl
theorem m_writ_fault (z : SM) (v : Int32) : m_writ (m_fault_s z v) = m_writ z := rfl
theorem m_writ_time (z : SM) (v : Int64) : m_writ (m_time_s z v) = m_writ z := rfl
theorem m_writ_upper (z : SM) (v : Int64) : m_writ (m_upper_s z v) = m_writ z := rfl
theorem m_writ_lower (z : SM) (v : Int64) : m_writ (m_lower_s z v) = m_writ z := rfl
theorem m_writ_amin (z : SM) (v : Bool) : m_writ (m_amin_s z v) = m_writ z := rfl
theorem m_writ_ovf (z : SM) (v : Bool) : m_writ (m_ovf_s z v) = m_writ z := rfl
theorem m_writ_loc (z : SM) (v : (Nat → Int32)) : m_writ (m_loc_s z v) = m_writ z := rfl
theorem m_writ_ops (z : SM) (v : (Nat → Int32)) : m_writ (m_ops_s z v) = m_writ z := rfl
theorem m_writ_dat (z : SM) (v : (Nat → Int32)) : m_writ (m_dat_s z v) = m_writ z := rfl
theorem m_writ_foll (z : SM) (v : (Nat → Int32)) : m_writ (m_foll_s z v) = m_writ z := rfl
theorem m_writ_resv (z : SM) (v : (Nat → Bool)) : m_writ (m_resv_s z v) = m_writ z := rfl
theorem m_writ_plc (z : SM) (v : (Nat → Int32)) : m_writ (m_plc_s z v) = m_writ z := rfl
theorem m_writ_held (z : SM) (v : (Nat → Bool)) : m_writ (m_held_s z v) = m_writ z := rfl
theorem m_writ_ats (z : SM) (v : (Nat → Int32)) : m_writ (m_ats_s z v) = m_writ z := rfl
theorem m_writ_writ (z : SM) (v : (Nat → Int64)) : m_writ (m_writ_s z v) = v := rfl
theorem m_writ_lines (z : SM) (v : Int32) : m_writ (m_lines_s z v) = m_writ z := rfl
theorem m_writ_full (z : SM) (v : Bool) : m_writ (m_full_s z v) = m_writ z := rfl
theorem m_writ_code (z : SM) (v : Int32) : m_writ (m_code_s z v) = m_writ z := rfl
theorem m_lines_codes (z : SM) (v : (Nat → Int32)) : m_lines (m_codes_s z v) = m_lines z := rfl
theorem m_lines_dmin (z : SM) (v : (Nat → Bool)) : m_lines (m_dmin_s z v) = m_lines z := rfl
theorem m_lines_card (z : SM) (v : (Nat → Int64)) : m_lines (m_card_s z v) = m_lines z := rfl
theorem m_lines_cmin (z : SM) (v : (Nat → Bool)) : m_lines (m_cmin_s z v) = m_lines z := rfl
theorem m_lines_cards (z : SM) (v : Int32) : m_lines (m_cards_s z v) = m_lines z := rfl
theorem m_lines_outp (z : SM) (v : (Nat → Int64)) : m_lines (m_outp_s z v) = m_lines z := rfl
theorem m_lines_outs (z : SM) (v : Int32) : m_lines (m_outs_s z v) = m_lines z := rfl
theorem m_lines_dist (z : SM) (v : Int64) : m_lines (m_dist_s z v) = m_lines z := rfl
theorem m_lines_distm (z : SM) (v : Bool) : m_lines (m_distm_s z v) = m_lines z := rfl
theorem m_lines_nxt (z : SM) (v : Int32) : m_lines (m_nxt_s z v) = m_lines z := rfl
theorem m_lines_fault (z : SM) (v : Int32) : m_lines (m_fault_s z v) = m_lines z := rfl
theorem m_lines_time (z : SM) (v : Int64) : m_lines (m_time_s z v) = m_lines z := rfl
theorem m_lines_upper (z : SM) (v : Int64) : m_lines (m_upper_s z v) = m_lines z := rfl
theorem m_lines_lower (z : SM) (v : Int64) : m_lines (m_lower_s z v) = m_lines z := rfl
theorem m_lines_amin (z : SM) (v : Bool) : m_lines (m_amin_s z v) = m_lines z := rfl
theorem m_lines_ovf (z : SM) (v : Bool) : m_lines (m_ovf_s z v) = m_lines z := rfl
theorem m_lines_loc (z : SM) (v : (Nat → Int32)) : m_lines (m_loc_s z v) = m_lines z := rfl
theorem m_lines_ops (z : SM) (v : (Nat → Int32)) : m_lines (m_ops_s z v) = m_lines z := rfl
theorem m_lines_dat (z : SM) (v : (Nat → Int32)) : m_lines (m_dat_s z v) = m_lines z := rfl
theorem m_lines_foll (z : SM) (v : (Nat → Int32)) : m_lines (m_foll_s z v) = m_lines z := rfl
theorem m_lines_resv (z : SM) (v : (Nat → Bool)) : m_lines (m_resv_s z v) = m_lines z := rfl
theorem m_lines_plc (z : SM) (v : (Nat → Int32)) : m_lines (m_plc_s z v) = m_lines z := rfl
theorem m_lines_held (z : SM) (v : (Nat → Bool)) : m_lines (m_held_s z v) = m_lines z := rfl
theorem m_lines_ats (z : SM) (v : (Nat → Int32)) : m_lines (m_ats_s z v) = m_lines z := rfl
theorem m_lines_writ (z : SM) (v : (Nat → Int64)) : m_lines (m_writ_s z v) = m_lines z := rfl
theorem m_lines_lines (z : SM) (v : Int32) : m_lines (m_lines_s z v) = v := rfl
theorem m_lines_full (z : SM) (v : Bool) : m_lines (m_full_s z v) = m_lines z := rfl
theorem m_lines_code (z : SM) (v : Int32) : m_lines (m_code_s z v) = m_lines z := rfl
theorem m_full_codes (z : SM) (v : (Nat → Int32)) : m_full (m_codes_s z v) = m_full z := rfl
theorem m_full_dmin (z : SM) (v : (Nat → Bool)) : m_full (m_dmin_s z v) = m_full z := rfl
theorem m_full_card (z : SM) (v : (Nat → Int64)) : m_full (m_card_s z v) = m_full z := rfl
theorem m_full_cmin (z : SM) (v : (Nat → Bool)) : m_full (m_cmin_s z v) = m_full z := rfl
theorem m_full_cards (z : SM) (v : Int32) : m_full (m_cards_s z v) = m_full z := rfl
theorem m_full_outp (z : SM) (v : (Nat → Int64)) : m_full (m_outp_s z v) = m_full z := rfl
theorem m_full_outs (z : SM) (v : Int32) : m_full (m_outs_s z v) = m_full z := rfl
theorem m_full_dist (z : SM) (v : Int64) : m_full (m_dist_s z v) = m_full z := rfl
theorem m_full_distm (z : SM) (v : Bool) : m_full (m_distm_s z v) = m_full z := rfl
theorem m_full_nxt (z : SM) (v : Int32) : m_full (m_nxt_s z v) = m_full z := rfl
theorem m_full_fault (z : SM) (v : Int32) : m_full (m_fault_s z v) = m_full z := rfl
theorem m_full_time (z : SM) (v : Int64) : m_full (m_time_s z v) = m_full z := rfl
theorem m_full_upper (z : SM) (v : Int64) : m_full (m_upper_s z v) = m_full z := rfl
theorem m_full_lower (z : SM) (v : Int64) : m_full (m_lower_s z v) = m_full z := rfl
theorem m_full_amin (z : SM) (v : Bool) : m_full (m_amin_s z v) = m_full z := rfl
theorem m_full_ovf (z : SM) (v : Bool) : m_full (m_ovf_s z v) = m_full z := rfl
theorem m_full_loc (z : SM) (v : (Nat → Int32)) : m_full (m_loc_s z v) = m_full z := rfl
theorem m_full_ops (z : SM) (v : (Nat → Int32)) : m_full (m_ops_s z v) = m_full z := rfl
theorem m_full_dat (z : SM) (v : (Nat → Int32)) : m_full (m_dat_s z v) = m_full z := rfl
theorem m_full_foll (z : SM) (v : (Nat → Int32)) : m_full (m_foll_s z v) = m_full z := rfl
theorem m_full_resv (z : SM) (v : (Nat → Bool)) : m_full (m_resv_s z v) = m_full z := rfl
theorem m_full_plc (z : SM) (v : (Nat → Int32)) : m_full (m_plc_s z v) = m_full z := rfl
theorem m_full_held (z : SM) (v : (Nat → Bool)) : m_full (m_held_s z v) = m_full z := rfl
theorem m_full_ats (z : SM) (v : (Nat → Int32)) : m_full (m_ats_s z v) = m_full z := rfl
theorem m_full_writ (z : SM) (v : (Nat → Int64)) : m_full (m_writ_s z v) = m_full z := rfl
theorem m_full_lines (z : SM) (v : Int32) : m_full (m_lines_s z v) = m_full z := rfl
theorem m_full_full (z : SM) (v : Bool) : m_full (m_full_s z v) = v := rfl
theorem m_full_code (z : SM) (v : Int32) : m_full (m_code_s z v) = m_full z := rfl
theorem m_code_codes (z : SM) (v : (Nat → Int32)) : m_code (m_codes_s z v) = m_code z := rfl
theorem m_code_dmin (z : SM) (v : (Nat → Bool)) : m_code (m_dmin_s z v) = m_code z := rfl
theorem m_code_card (z : SM) (v : (Nat → Int64)) : m_code (m_card_s z v) = m_code z := rfl
theorem m_code_cmin (z : SM) (v : (Nat → Bool)) : m_code (m_cmin_s z v) = m_code z := rfl
theorem m_code_cards (z : SM) (v : Int32) : m_code (m_cards_s z v) = m_code z := rfl
theorem m_code_outp (z : SM) (v : (Nat → Int64)) : m_code (m_outp_s z v) = m_code z := rfl
theorem m_code_outs (z : SM) (v : Int32) : m_code (m_outs_s z v) = m_code z := rfl
theorem m_code_dist (z : SM) (v : Int64) : m_code (m_dist_s z v) = m_code z := rfl
theorem m_code_distm (z : SM) (v : Bool) : m_code (m_distm_s z v) = m_code z := rfl
theorem m_code_nxt (z : SM) (v : Int32) : m_code (m_nxt_s z v) = m_code z := rfl
theorem m_code_fault (z : SM) (v : Int32) : m_code (m_fault_s z v) = m_code z := rfl
theorem m_code_time (z : SM) (v : Int64) : m_code (m_time_s z v) = m_code z := rfl
theorem m_code_upper (z : SM) (v : Int64) : m_code (m_upper_s z v) = m_code z := rfl
theorem m_code_lower (z : SM) (v : Int64) : m_code (m_lower_s z v) = m_code z := rfl
theorem m_code_amin (z : SM) (v : Bool) : m_code (m_amin_s z v) = m_code z := rfl
theorem m_code_ovf (z : SM) (v : Bool) : m_code (m_ovf_s z v) = m_code z := rfl
theorem m_code_loc (z : SM) (v : (Nat → Int32)) : m_code (m_loc_s z v) = m_code z := rfl
theorem m_code_ops (z : SM) (v : (Nat → Int32)) : m_code (m_ops_s z v) = m_code z := rfl
theorem m_code_dat (z : SM) (v : (Nat → Int32)) : m_code (m_dat_s z v) = m_code z := rfl
theorem m_code_foll (z : SM) (v : (Nat → Int32)) : m_code (m_foll_s z v) = m_code z := rfl
theorem m_code_resv (z : SM) (v : (Nat → Bool)) : m_code (m_resv_s z v) = m_code z := rfl
theorem m_code_plc (z : SM) (v : (Nat → Int32)) : m_code (m_plc_s z v) = m_code z := rfl
theorem m_code_held (z : SM) (v : (Nat → Bool)) : m_code (m_held_s z v) = m_code z := rfl
theorem m_code_ats (z : SM) (v : (Nat → Int32)) : m_code (m_ats_s z v) = m_code z := rfl
theorem m_code_writ (z : SM) (v : (Nat → Int64)) : m_code (m_writ_s z v) = m_code z := rfl
theorem m_code_lines (z : SM) (v : Int32) : m_code (m_lines_s z v) = m_code z := rfl
theorem m_code_full (z : SM) (v : Bool) : m_code (m_full_s z v) = m_code z := rfl
theorem m_code_code (z : SM) (v : Int32) : m_code (m_code_s z v) = v := rfl
def m_wd (q : Nat → Nat) (cI cJ cZ : ClassId) (z : SM) : va_W := [(q 0, .inr (7, [.int (m_code z), .ref (q 1), .ref (q 2), .long (m_upper z), .long (m_lower z), .long (m_dist z), .int (bb (m_amin z)), .int (bb (m_distm z)), .int (bb (m_ovf z)), .int (m_nxt z), .int (m_fault z), .long (m_time z), .int (m_cards z), .ref (q 3), .ref (q 4), .int (m_outs z), .ref (q 5), .int (m_lines z), .ref (q 6), .ref (q 7), .ref (q 8), .ref (q 9), .ref (q 10), .ref (q 11), .ref (q 12), .ref (q 13), .ref (q 14), .int (bb (m_full z))])),
  (q 1, .inl (cI, 2000, .inl (m_codes z))),
  (q 2, .inl (cZ, 200, .inl (fun j => bb (m_dmin z j)))),
  (q 3, .inl (cJ, 20, .inr (.inl (m_card z)))),
  (q 4, .inl (cZ, 20, .inl (fun j => bb (m_cmin z j)))),
  (q 5, .inl (cJ, 40, .inr (.inl (m_outp z)))),
  (q 6, .inl (cI, 40, .inl (m_loc z))),
  (q 7, .inl (cI, 40, .inl (m_ops z))),
  (q 8, .inl (cI, 40, .inl (m_dat z))),
  (q 9, .inl (cI, 40, .inl (m_foll z))),
  (q 10, .inl (cZ, 200, .inl (fun j => bb (m_resv z j)))),
  (q 11, .inl (cI, 20, .inl (m_plc z))),
  (q 12, .inl (cZ, 200, .inl (fun j => bb (m_held z j)))),
  (q 13, .inl (cI, 40, .inl (m_ats z))),
  (q 14, .inl (cJ, 40, .inr (.inl (m_writ z))))]
def m_qs (q : Nat → Nat) : Nat → Prop := fun a => ∃ k, k < 15 ∧ a = q k
def m_inj (q : Nat → Nat) : Prop := ∀ i j, i < 15 → j < 15 → q i = q j → i = j
theorem m_wd_at (q : Nat → Nat) (cI cJ cZ : ClassId) (z : SM) (k : Nat) (r : Nat × va_E) (h : (m_wd q cI cJ cZ z)[k]? = some r) : k < 15 ∧ r.1 = q k := by
  have hk : k < 15 := (List.getElem?_eq_some_iff.mp h).1
  refine ⟨hk, ?_⟩
  match k, hk with
  | 0, _ => exact congrArg Prod.fst (Option.some.inj h).symm
  | 1, _ => exact congrArg Prod.fst (Option.some.inj h).symm
  | 2, _ => exact congrArg Prod.fst (Option.some.inj h).symm
  | 3, _ => exact congrArg Prod.fst (Option.some.inj h).symm
  | 4, _ => exact congrArg Prod.fst (Option.some.inj h).symm
  | 5, _ => exact congrArg Prod.fst (Option.some.inj h).symm
  | 6, _ => exact congrArg Prod.fst (Option.some.inj h).symm
  | 7, _ => exact congrArg Prod.fst (Option.some.inj h).symm
  | 8, _ => exact congrArg Prod.fst (Option.some.inj h).symm
  | 9, _ => exact congrArg Prod.fst (Option.some.inj h).symm
  | 10, _ => exact congrArg Prod.fst (Option.some.inj h).symm
  | 11, _ => exact congrArg Prod.fst (Option.some.inj h).symm
  | 12, _ => exact congrArg Prod.fst (Option.some.inj h).symm
  | 13, _ => exact congrArg Prod.fst (Option.some.inj h).symm
  | 14, _ => exact congrArg Prod.fst (Option.some.inj h).symm
  | k + 15, h => exact absurd h (by omega)
theorem m_D {q : Nat → Nat} {cI cJ cZ : ClassId} (hq : m_inj q) (z : SM) : va_D (m_qs q) (m_wd q cI cJ cZ z) := by
  refine ⟨fun i j a b hi hj hab => ?_, fun k r h => ?_⟩
  · obtain ⟨h1, h2⟩ := m_wd_at q cI cJ cZ z i a hi
    obtain ⟨h3, h4⟩ := m_wd_at q cI cJ cZ z j b hj
    exact hq i j h1 h3 (by rw [← h2, ← h4]; exact hab)
  · obtain ⟨h1, h2⟩ := m_wd_at q cI cJ cZ z k r h
    exact ⟨k, h1, h2⟩
abbrev m_W (D : va_G) (q : Nat → Nat) (cI cJ cZ : ClassId) (z : SM) (H : Heap) : Prop := va_P D clA (m_wd q cI cJ cZ z) H
def m_C (D : va_G) (q : Nat → Nat) (cI cJ cZ : ClassId) (z : SM) (U : State) : Prop := m_W D q cI cJ cZ z U.heap ∧ va_K D clA (tys3 cI cJ cZ) U
section
variable {s : State} {H : Heap} {D : va_G} {q : Nat → Nat} {cI cJ cZ : ClassId} {z : SM}
theorem m_blind {av : List Value} : FrameBlind (va_Pc av (m_C D q cI cJ cZ z)) := fun a U g mk h => ⟨h.1, h.2.1, va_K.moved (u := U) (U := U.calling g mk a) (Vm.Alike.refl U.vm) h.2.2⟩
theorem m_preS {av : List Value} (hK : va_K D clA (tys3 cI cJ cZ) s) (hP : m_W D q cI cJ cZ z H) : PreS s H (va_Pc av (m_C D q cI cJ cZ z)) av := ⟨m_blind, fun U hU hW => ⟨rfl, by rw [hU]; exact hP, va_K.moved hW.alike hK⟩⟩
theorem m_preV0 {As : List Value} (hK : va_K D clA (tys3 cI cJ cZ) s) (hP : m_W D q cI cJ cZ z H) : PreV s H RMo (q 0) (va_Pc (.ref (q 0) :: As) (m_C D q cI cJ cZ z)) As := ⟨m_blind, va_recv (ci := 7) hK hP rfl (show (m_wd q cI cJ cZ z)[0]? = _ from rfl), fun U hU hW => ⟨rfl, by rw [hU]; exact hP, va_K.moved hW.alike hK⟩⟩
end
section
variable {p : Program} {l : Launch} {e : Env} {R : Room} {s : State} {m : MethodId} {args : Array Value} {below : List Frame} {meth : Method} {c : Code} {H H0 : Heap} {locs : List Loc} {cells slots : Nat} {Q : State → Prop}
variable {cc : ByteArray} {pc : Nat} {ls : Array Slot} {rest : List Value} {D : va_G} {q : Nat → Nat} {cI cJ cZ : ClassId} {z : SM} {own : String} {index : Nat} {Ts : List Cond}
theorem mg0_code (hx : p.tables.exec = Jvm.exec) (hb : c.code = cc) (hts : ∀ w ∈ Ts, w.before args s = true) (hin : ∀ w ∈ u_ws RMo TMo 28, w ∈ Ts) (hown : s.vm.findClass own = some m.cls) (hK : va_K D clA (tys3 cI cJ cZ) s) (hP : m_W D q cI cJ cZ z H) (hlink : (Cond.fieldLink own index "DrumMachineModel" "code" "I").before args s = true) (hdg : decode cc pc = .ok (.getfield index, 3)) (kk : W p l e R s m args below meth c H locs cells slots Q (F0 m (pc + 3) ls (.int (m_code z) :: rest))) : W p l e R s m args below meth c H locs cells slots Q (F0 m pc ls (.ref (q 0) :: rest)) :=
  va_get (ci := 7) (v := .int (m_code z)) (C := RMo) (T := TMo) (N := 28) hx hb hts hin hown hK hP 0 rfl rfl 0 (by decide) hlink (fun _ h => h) rfl hdg kk
theorem mg0_code_e {v : Int32} (hv : m_code z = v) (hx : p.tables.exec = Jvm.exec) (hb : c.code = cc) (hts : ∀ w ∈ Ts, w.before args s = true) (hin : ∀ w ∈ u_ws RMo TMo 28, w ∈ Ts) (hown : s.vm.findClass own = some m.cls) (hK : va_K D clA (tys3 cI cJ cZ) s) (hP : m_W D q cI cJ cZ z H) (hlink : (Cond.fieldLink own index "DrumMachineModel" "code" "I").before args s = true) (hdg : decode cc pc = .ok (.getfield index, 3)) (kk : W p l e R s m args below meth c H locs cells slots Q (F0 m (pc + 3) ls (.int v :: rest))) : W p l e R s m args below meth c H locs cells slots Q (F0 m pc ls (.ref (q 0) :: rest)) := by
  subst hv
  exact mg0_code hx hb hts hin hown hK hP hlink hdg kk
theorem mp0_code (v : Int32) (hq : m_inj q) (hS : va_S (m_qs q) H0 H locs) (hx : p.tables.exec = Jvm.exec) (hb : c.code = cc) (hts : ∀ w ∈ Ts, w.before args s = true) (hin : ∀ w ∈ u_ws RMo TMo 28, w ∈ Ts) (hown : s.vm.findClass own = some m.cls) (hK : va_K D clA (tys3 cI cJ cZ) s) (hP : m_W D q cI cJ cZ z H) (hlink : (Cond.fieldLink own index "DrumMachineModel" "code" "I").before args s = true) (hdg : decode cc pc = .ok (.putfield index, 3)) (kk : ∀ (H1 : Heap) (locs1 : List Loc), m_W D q cI cJ cZ (m_code_s z v) H1 → va_S (m_qs q) H0 H1 locs1 → W p l e R s m args below meth c H1 locs1 cells slots Q (F0 m (pc + 3) ls rest)) : W p l e R s m args below meth c H locs cells slots Q (F0 m pc ls (.int v :: .ref (q 0) :: rest)) :=
  va_put (ci := 7) (v := .int v) (C := RMo) (T := TMo) (N := 28) hx hb hts hin tyMo tyMo_ok nmMo hown hK hP (m_D hq z) hS 0 rfl rfl 0 (by decide) hlink (fun _ h => h) rfl rfl rfl rfl (Nat.le_of_ble_eq_true rfl) hdg (fun H1 locs1 a _ b => kk H1 locs1 a b)
theorem mg0_digits (hx : p.tables.exec = Jvm.exec) (hb : c.code = cc) (hts : ∀ w ∈ Ts, w.before args s = true) (hin : ∀ w ∈ u_ws RMo TMo 28, w ∈ Ts) (hown : s.vm.findClass own = some m.cls) (hK : va_K D clA (tys3 cI cJ cZ) s) (hP : m_W D q cI cJ cZ z H) (hlink : (Cond.fieldLink own index "DrumMachineModel" "digits" "[I").before args s = true) (hdg : decode cc pc = .ok (.getfield index, 3)) (kk : W p l e R s m args below meth c H locs cells slots Q (F0 m (pc + 3) ls (.ref (q 1) :: rest))) : W p l e R s m args below meth c H locs cells slots Q (F0 m pc ls (.ref (q 0) :: rest)) :=
  va_get (ci := 7) (v := .ref (q 1)) (C := RMo) (T := TMo) (N := 28) hx hb hts hin hown hK hP 0 rfl rfl 1 (by decide) hlink (fun _ h => h) rfl hdg kk
theorem mg0_minus (hx : p.tables.exec = Jvm.exec) (hb : c.code = cc) (hts : ∀ w ∈ Ts, w.before args s = true) (hin : ∀ w ∈ u_ws RMo TMo 28, w ∈ Ts) (hown : s.vm.findClass own = some m.cls) (hK : va_K D clA (tys3 cI cJ cZ) s) (hP : m_W D q cI cJ cZ z H) (hlink : (Cond.fieldLink own index "DrumMachineModel" "minus" "[Z").before args s = true) (hdg : decode cc pc = .ok (.getfield index, 3)) (kk : W p l e R s m args below meth c H locs cells slots Q (F0 m (pc + 3) ls (.ref (q 2) :: rest))) : W p l e R s m args below meth c H locs cells slots Q (F0 m pc ls (.ref (q 0) :: rest)) :=
  va_get (ci := 7) (v := .ref (q 2)) (C := RMo) (T := TMo) (N := 28) hx hb hts hin hown hK hP 0 rfl rfl 2 (by decide) hlink (fun _ h => h) rfl hdg kk
theorem mg0_upper (hx : p.tables.exec = Jvm.exec) (hb : c.code = cc) (hts : ∀ w ∈ Ts, w.before args s = true) (hin : ∀ w ∈ u_ws RMo TMo 28, w ∈ Ts) (hown : s.vm.findClass own = some m.cls) (hK : va_K D clA (tys3 cI cJ cZ) s) (hP : m_W D q cI cJ cZ z H) (hlink : (Cond.fieldLink own index "DrumMachineModel" "upper" "J").before args s = true) (hdg : decode cc pc = .ok (.getfield index, 3)) (kk : W p l e R s m args below meth c H locs cells slots Q (F0 m (pc + 3) ls (.long (m_upper z) :: rest))) : W p l e R s m args below meth c H locs cells slots Q (F0 m pc ls (.ref (q 0) :: rest)) :=
  va_get (ci := 7) (v := .long (m_upper z)) (C := RMo) (T := TMo) (N := 28) hx hb hts hin hown hK hP 0 rfl rfl 3 (by decide) hlink (fun _ h => h) rfl hdg kk
theorem mg0_upper_e {v : Int64} (hv : m_upper z = v) (hx : p.tables.exec = Jvm.exec) (hb : c.code = cc) (hts : ∀ w ∈ Ts, w.before args s = true) (hin : ∀ w ∈ u_ws RMo TMo 28, w ∈ Ts) (hown : s.vm.findClass own = some m.cls) (hK : va_K D clA (tys3 cI cJ cZ) s) (hP : m_W D q cI cJ cZ z H) (hlink : (Cond.fieldLink own index "DrumMachineModel" "upper" "J").before args s = true) (hdg : decode cc pc = .ok (.getfield index, 3)) (kk : W p l e R s m args below meth c H locs cells slots Q (F0 m (pc + 3) ls (.long v :: rest))) : W p l e R s m args below meth c H locs cells slots Q (F0 m pc ls (.ref (q 0) :: rest)) := by
  subst hv
  exact mg0_upper hx hb hts hin hown hK hP hlink hdg kk
theorem mp0_upper (v : Int64) (hq : m_inj q) (hS : va_S (m_qs q) H0 H locs) (hx : p.tables.exec = Jvm.exec) (hb : c.code = cc) (hts : ∀ w ∈ Ts, w.before args s = true) (hin : ∀ w ∈ u_ws RMo TMo 28, w ∈ Ts) (hown : s.vm.findClass own = some m.cls) (hK : va_K D clA (tys3 cI cJ cZ) s) (hP : m_W D q cI cJ cZ z H) (hlink : (Cond.fieldLink own index "DrumMachineModel" "upper" "J").before args s = true) (hdg : decode cc pc = .ok (.putfield index, 3)) (kk : ∀ (H1 : Heap) (locs1 : List Loc), m_W D q cI cJ cZ (m_upper_s z v) H1 → va_S (m_qs q) H0 H1 locs1 → W p l e R s m args below meth c H1 locs1 cells slots Q (F0 m (pc + 3) ls rest)) : W p l e R s m args below meth c H locs cells slots Q (F0 m pc ls (.long v :: .ref (q 0) :: rest)) :=
  va_put (ci := 7) (v := .long v) (C := RMo) (T := TMo) (N := 28) hx hb hts hin tyMo tyMo_ok nmMo hown hK hP (m_D hq z) hS 0 rfl rfl 3 (by decide) hlink (fun _ h => h) rfl rfl rfl rfl (Nat.le_of_ble_eq_true rfl) hdg (fun H1 locs1 a _ b => kk H1 locs1 a b)
theorem mg0_lower (hx : p.tables.exec = Jvm.exec) (hb : c.code = cc) (hts : ∀ w ∈ Ts, w.before args s = true) (hin : ∀ w ∈ u_ws RMo TMo 28, w ∈ Ts) (hown : s.vm.findClass own = some m.cls) (hK : va_K D clA (tys3 cI cJ cZ) s) (hP : m_W D q cI cJ cZ z H) (hlink : (Cond.fieldLink own index "DrumMachineModel" "lower" "J").before args s = true) (hdg : decode cc pc = .ok (.getfield index, 3)) (kk : W p l e R s m args below meth c H locs cells slots Q (F0 m (pc + 3) ls (.long (m_lower z) :: rest))) : W p l e R s m args below meth c H locs cells slots Q (F0 m pc ls (.ref (q 0) :: rest)) :=
  va_get (ci := 7) (v := .long (m_lower z)) (C := RMo) (T := TMo) (N := 28) hx hb hts hin hown hK hP 0 rfl rfl 4 (by decide) hlink (fun _ h => h) rfl hdg kk
theorem mg0_lower_e {v : Int64} (hv : m_lower z = v) (hx : p.tables.exec = Jvm.exec) (hb : c.code = cc) (hts : ∀ w ∈ Ts, w.before args s = true) (hin : ∀ w ∈ u_ws RMo TMo 28, w ∈ Ts) (hown : s.vm.findClass own = some m.cls) (hK : va_K D clA (tys3 cI cJ cZ) s) (hP : m_W D q cI cJ cZ z H) (hlink : (Cond.fieldLink own index "DrumMachineModel" "lower" "J").before args s = true) (hdg : decode cc pc = .ok (.getfield index, 3)) (kk : W p l e R s m args below meth c H locs cells slots Q (F0 m (pc + 3) ls (.long v :: rest))) : W p l e R s m args below meth c H locs cells slots Q (F0 m pc ls (.ref (q 0) :: rest)) := by
  subst hv
  exact mg0_lower hx hb hts hin hown hK hP hlink hdg kk
theorem mp0_lower (v : Int64) (hq : m_inj q) (hS : va_S (m_qs q) H0 H locs) (hx : p.tables.exec = Jvm.exec) (hb : c.code = cc) (hts : ∀ w ∈ Ts, w.before args s = true) (hin : ∀ w ∈ u_ws RMo TMo 28, w ∈ Ts) (hown : s.vm.findClass own = some m.cls) (hK : va_K D clA (tys3 cI cJ cZ) s) (hP : m_W D q cI cJ cZ z H) (hlink : (Cond.fieldLink own index "DrumMachineModel" "lower" "J").before args s = true) (hdg : decode cc pc = .ok (.putfield index, 3)) (kk : ∀ (H1 : Heap) (locs1 : List Loc), m_W D q cI cJ cZ (m_lower_s z v) H1 → va_S (m_qs q) H0 H1 locs1 → W p l e R s m args below meth c H1 locs1 cells slots Q (F0 m (pc + 3) ls rest)) : W p l e R s m args below meth c H locs cells slots Q (F0 m pc ls (.long v :: .ref (q 0) :: rest)) :=
  va_put (ci := 7) (v := .long v) (C := RMo) (T := TMo) (N := 28) hx hb hts hin tyMo tyMo_ok nmMo hown hK hP (m_D hq z) hS 0 rfl rfl 4 (by decide) hlink (fun _ h => h) rfl rfl rfl rfl (Nat.le_of_ble_eq_true rfl) hdg (fun H1 locs1 a _ b => kk H1 locs1 a b)
theorem mg0_distributor (hx : p.tables.exec = Jvm.exec) (hb : c.code = cc) (hts : ∀ w ∈ Ts, w.before args s = true) (hin : ∀ w ∈ u_ws RMo TMo 28, w ∈ Ts) (hown : s.vm.findClass own = some m.cls) (hK : va_K D clA (tys3 cI cJ cZ) s) (hP : m_W D q cI cJ cZ z H) (hlink : (Cond.fieldLink own index "DrumMachineModel" "distributor" "J").before args s = true) (hdg : decode cc pc = .ok (.getfield index, 3)) (kk : W p l e R s m args below meth c H locs cells slots Q (F0 m (pc + 3) ls (.long (m_dist z) :: rest))) : W p l e R s m args below meth c H locs cells slots Q (F0 m pc ls (.ref (q 0) :: rest)) :=
  va_get (ci := 7) (v := .long (m_dist z)) (C := RMo) (T := TMo) (N := 28) hx hb hts hin hown hK hP 0 rfl rfl 5 (by decide) hlink (fun _ h => h) rfl hdg kk
theorem mg0_distributor_e {v : Int64} (hv : m_dist z = v) (hx : p.tables.exec = Jvm.exec) (hb : c.code = cc) (hts : ∀ w ∈ Ts, w.before args s = true) (hin : ∀ w ∈ u_ws RMo TMo 28, w ∈ Ts) (hown : s.vm.findClass own = some m.cls) (hK : va_K D clA (tys3 cI cJ cZ) s) (hP : m_W D q cI cJ cZ z H) (hlink : (Cond.fieldLink own index "DrumMachineModel" "distributor" "J").before args s = true) (hdg : decode cc pc = .ok (.getfield index, 3)) (kk : W p l e R s m args below meth c H locs cells slots Q (F0 m (pc + 3) ls (.long v :: rest))) : W p l e R s m args below meth c H locs cells slots Q (F0 m pc ls (.ref (q 0) :: rest)) := by
  subst hv
  exact mg0_distributor hx hb hts hin hown hK hP hlink hdg kk
theorem mp0_distributor (v : Int64) (hq : m_inj q) (hS : va_S (m_qs q) H0 H locs) (hx : p.tables.exec = Jvm.exec) (hb : c.code = cc) (hts : ∀ w ∈ Ts, w.before args s = true) (hin : ∀ w ∈ u_ws RMo TMo 28, w ∈ Ts) (hown : s.vm.findClass own = some m.cls) (hK : va_K D clA (tys3 cI cJ cZ) s) (hP : m_W D q cI cJ cZ z H) (hlink : (Cond.fieldLink own index "DrumMachineModel" "distributor" "J").before args s = true) (hdg : decode cc pc = .ok (.putfield index, 3)) (kk : ∀ (H1 : Heap) (locs1 : List Loc), m_W D q cI cJ cZ (m_dist_s z v) H1 → va_S (m_qs q) H0 H1 locs1 → W p l e R s m args below meth c H1 locs1 cells slots Q (F0 m (pc + 3) ls rest)) : W p l e R s m args below meth c H locs cells slots Q (F0 m pc ls (.long v :: .ref (q 0) :: rest)) :=
  va_put (ci := 7) (v := .long v) (C := RMo) (T := TMo) (N := 28) hx hb hts hin tyMo tyMo_ok nmMo hown hK hP (m_D hq z) hS 0 rfl rfl 5 (by decide) hlink (fun _ h => h) rfl rfl rfl rfl (Nat.le_of_ble_eq_true rfl) hdg (fun H1 locs1 a _ b => kk H1 locs1 a b)
theorem mg0_negative (hx : p.tables.exec = Jvm.exec) (hb : c.code = cc) (hts : ∀ w ∈ Ts, w.before args s = true) (hin : ∀ w ∈ u_ws RMo TMo 28, w ∈ Ts) (hown : s.vm.findClass own = some m.cls) (hK : va_K D clA (tys3 cI cJ cZ) s) (hP : m_W D q cI cJ cZ z H) (hlink : (Cond.fieldLink own index "DrumMachineModel" "negative" "Z").before args s = true) (hdg : decode cc pc = .ok (.getfield index, 3)) (kk : W p l e R s m args below meth c H locs cells slots Q (F0 m (pc + 3) ls (.int (bb (m_amin z)) :: rest))) : W p l e R s m args below meth c H locs cells slots Q (F0 m pc ls (.ref (q 0) :: rest)) :=
  va_get (ci := 7) (v := .int (bb (m_amin z))) (C := RMo) (T := TMo) (N := 28) hx hb hts hin hown hK hP 0 rfl rfl 6 (by decide) hlink (fun _ h => h) rfl hdg kk
theorem mg0_negative_e {v : Bool} (hv : m_amin z = v) (hx : p.tables.exec = Jvm.exec) (hb : c.code = cc) (hts : ∀ w ∈ Ts, w.before args s = true) (hin : ∀ w ∈ u_ws RMo TMo 28, w ∈ Ts) (hown : s.vm.findClass own = some m.cls) (hK : va_K D clA (tys3 cI cJ cZ) s) (hP : m_W D q cI cJ cZ z H) (hlink : (Cond.fieldLink own index "DrumMachineModel" "negative" "Z").before args s = true) (hdg : decode cc pc = .ok (.getfield index, 3)) (kk : W p l e R s m args below meth c H locs cells slots Q (F0 m (pc + 3) ls (.int (bb v) :: rest))) : W p l e R s m args below meth c H locs cells slots Q (F0 m pc ls (.ref (q 0) :: rest)) := by
  subst hv
  exact mg0_negative hx hb hts hin hown hK hP hlink hdg kk
theorem mp0_negative (v : Bool) (hq : m_inj q) (hS : va_S (m_qs q) H0 H locs) (hx : p.tables.exec = Jvm.exec) (hb : c.code = cc) (hts : ∀ w ∈ Ts, w.before args s = true) (hin : ∀ w ∈ u_ws RMo TMo 28, w ∈ Ts) (hown : s.vm.findClass own = some m.cls) (hK : va_K D clA (tys3 cI cJ cZ) s) (hP : m_W D q cI cJ cZ z H) (hlink : (Cond.fieldLink own index "DrumMachineModel" "negative" "Z").before args s = true) (hdg : decode cc pc = .ok (.putfield index, 3)) (kk : ∀ (H1 : Heap) (locs1 : List Loc), m_W D q cI cJ cZ (m_amin_s z v) H1 → va_S (m_qs q) H0 H1 locs1 → W p l e R s m args below meth c H1 locs1 cells slots Q (F0 m (pc + 3) ls rest)) : W p l e R s m args below meth c H locs cells slots Q (F0 m pc ls (.int (bb v) :: .ref (q 0) :: rest)) :=
  va_put (ci := 7) (v := .int (bb v)) (C := RMo) (T := TMo) (N := 28) hx hb hts hin tyMo tyMo_ok nmMo hown hK hP (m_D hq z) hS 0 rfl rfl 6 (by decide) hlink (fun _ h => h) rfl rfl (nz_b v) (fz_b v) (Nat.le_of_ble_eq_true rfl) hdg (fun H1 locs1 a _ b => kk H1 locs1 a b)
theorem mg0_negativeDistributor (hx : p.tables.exec = Jvm.exec) (hb : c.code = cc) (hts : ∀ w ∈ Ts, w.before args s = true) (hin : ∀ w ∈ u_ws RMo TMo 28, w ∈ Ts) (hown : s.vm.findClass own = some m.cls) (hK : va_K D clA (tys3 cI cJ cZ) s) (hP : m_W D q cI cJ cZ z H) (hlink : (Cond.fieldLink own index "DrumMachineModel" "negativeDistributor" "Z").before args s = true) (hdg : decode cc pc = .ok (.getfield index, 3)) (kk : W p l e R s m args below meth c H locs cells slots Q (F0 m (pc + 3) ls (.int (bb (m_distm z)) :: rest))) : W p l e R s m args below meth c H locs cells slots Q (F0 m pc ls (.ref (q 0) :: rest)) :=
  va_get (ci := 7) (v := .int (bb (m_distm z))) (C := RMo) (T := TMo) (N := 28) hx hb hts hin hown hK hP 0 rfl rfl 7 (by decide) hlink (fun _ h => h) rfl hdg kk
theorem mg0_negativeDistributor_e {v : Bool} (hv : m_distm z = v) (hx : p.tables.exec = Jvm.exec) (hb : c.code = cc) (hts : ∀ w ∈ Ts, w.before args s = true) (hin : ∀ w ∈ u_ws RMo TMo 28, w ∈ Ts) (hown : s.vm.findClass own = some m.cls) (hK : va_K D clA (tys3 cI cJ cZ) s) (hP : m_W D q cI cJ cZ z H) (hlink : (Cond.fieldLink own index "DrumMachineModel" "negativeDistributor" "Z").before args s = true) (hdg : decode cc pc = .ok (.getfield index, 3)) (kk : W p l e R s m args below meth c H locs cells slots Q (F0 m (pc + 3) ls (.int (bb v) :: rest))) : W p l e R s m args below meth c H locs cells slots Q (F0 m pc ls (.ref (q 0) :: rest)) := by
  subst hv
  exact mg0_negativeDistributor hx hb hts hin hown hK hP hlink hdg kk
theorem mp0_negativeDistributor (v : Bool) (hq : m_inj q) (hS : va_S (m_qs q) H0 H locs) (hx : p.tables.exec = Jvm.exec) (hb : c.code = cc) (hts : ∀ w ∈ Ts, w.before args s = true) (hin : ∀ w ∈ u_ws RMo TMo 28, w ∈ Ts) (hown : s.vm.findClass own = some m.cls) (hK : va_K D clA (tys3 cI cJ cZ) s) (hP : m_W D q cI cJ cZ z H) (hlink : (Cond.fieldLink own index "DrumMachineModel" "negativeDistributor" "Z").before args s = true) (hdg : decode cc pc = .ok (.putfield index, 3)) (kk : ∀ (H1 : Heap) (locs1 : List Loc), m_W D q cI cJ cZ (m_distm_s z v) H1 → va_S (m_qs q) H0 H1 locs1 → W p l e R s m args below meth c H1 locs1 cells slots Q (F0 m (pc + 3) ls rest)) : W p l e R s m args below meth c H locs cells slots Q (F0 m pc ls (.int (bb v) :: .ref (q 0) :: rest)) :=
  va_put (ci := 7) (v := .int (bb v)) (C := RMo) (T := TMo) (N := 28) hx hb hts hin tyMo tyMo_ok nmMo hown hK hP (m_D hq z) hS 0 rfl rfl 7 (by decide) hlink (fun _ h => h) rfl rfl (nz_b v) (fz_b v) (Nat.le_of_ble_eq_true rfl) hdg (fun H1 locs1 a _ b => kk H1 locs1 a b)
theorem mg0_overflow (hx : p.tables.exec = Jvm.exec) (hb : c.code = cc) (hts : ∀ w ∈ Ts, w.before args s = true) (hin : ∀ w ∈ u_ws RMo TMo 28, w ∈ Ts) (hown : s.vm.findClass own = some m.cls) (hK : va_K D clA (tys3 cI cJ cZ) s) (hP : m_W D q cI cJ cZ z H) (hlink : (Cond.fieldLink own index "DrumMachineModel" "overflow" "Z").before args s = true) (hdg : decode cc pc = .ok (.getfield index, 3)) (kk : W p l e R s m args below meth c H locs cells slots Q (F0 m (pc + 3) ls (.int (bb (m_ovf z)) :: rest))) : W p l e R s m args below meth c H locs cells slots Q (F0 m pc ls (.ref (q 0) :: rest)) :=
  va_get (ci := 7) (v := .int (bb (m_ovf z))) (C := RMo) (T := TMo) (N := 28) hx hb hts hin hown hK hP 0 rfl rfl 8 (by decide) hlink (fun _ h => h) rfl hdg kk
theorem mg0_overflow_e {v : Bool} (hv : m_ovf z = v) (hx : p.tables.exec = Jvm.exec) (hb : c.code = cc) (hts : ∀ w ∈ Ts, w.before args s = true) (hin : ∀ w ∈ u_ws RMo TMo 28, w ∈ Ts) (hown : s.vm.findClass own = some m.cls) (hK : va_K D clA (tys3 cI cJ cZ) s) (hP : m_W D q cI cJ cZ z H) (hlink : (Cond.fieldLink own index "DrumMachineModel" "overflow" "Z").before args s = true) (hdg : decode cc pc = .ok (.getfield index, 3)) (kk : W p l e R s m args below meth c H locs cells slots Q (F0 m (pc + 3) ls (.int (bb v) :: rest))) : W p l e R s m args below meth c H locs cells slots Q (F0 m pc ls (.ref (q 0) :: rest)) := by
  subst hv
  exact mg0_overflow hx hb hts hin hown hK hP hlink hdg kk
theorem mp0_overflow (v : Bool) (hq : m_inj q) (hS : va_S (m_qs q) H0 H locs) (hx : p.tables.exec = Jvm.exec) (hb : c.code = cc) (hts : ∀ w ∈ Ts, w.before args s = true) (hin : ∀ w ∈ u_ws RMo TMo 28, w ∈ Ts) (hown : s.vm.findClass own = some m.cls) (hK : va_K D clA (tys3 cI cJ cZ) s) (hP : m_W D q cI cJ cZ z H) (hlink : (Cond.fieldLink own index "DrumMachineModel" "overflow" "Z").before args s = true) (hdg : decode cc pc = .ok (.putfield index, 3)) (kk : ∀ (H1 : Heap) (locs1 : List Loc), m_W D q cI cJ cZ (m_ovf_s z v) H1 → va_S (m_qs q) H0 H1 locs1 → W p l e R s m args below meth c H1 locs1 cells slots Q (F0 m (pc + 3) ls rest)) : W p l e R s m args below meth c H locs cells slots Q (F0 m pc ls (.int (bb v) :: .ref (q 0) :: rest)) :=
  va_put (ci := 7) (v := .int (bb v)) (C := RMo) (T := TMo) (N := 28) hx hb hts hin tyMo tyMo_ok nmMo hown hK hP (m_D hq z) hS 0 rfl rfl 8 (by decide) hlink (fun _ h => h) rfl rfl (nz_b v) (fz_b v) (Nat.le_of_ble_eq_true rfl) hdg (fun H1 locs1 a _ b => kk H1 locs1 a b)
theorem mg0_next (hx : p.tables.exec = Jvm.exec) (hb : c.code = cc) (hts : ∀ w ∈ Ts, w.before args s = true) (hin : ∀ w ∈ u_ws RMo TMo 28, w ∈ Ts) (hown : s.vm.findClass own = some m.cls) (hK : va_K D clA (tys3 cI cJ cZ) s) (hP : m_W D q cI cJ cZ z H) (hlink : (Cond.fieldLink own index "DrumMachineModel" "next" "I").before args s = true) (hdg : decode cc pc = .ok (.getfield index, 3)) (kk : W p l e R s m args below meth c H locs cells slots Q (F0 m (pc + 3) ls (.int (m_nxt z) :: rest))) : W p l e R s m args below meth c H locs cells slots Q (F0 m pc ls (.ref (q 0) :: rest)) :=
  va_get (ci := 7) (v := .int (m_nxt z)) (C := RMo) (T := TMo) (N := 28) hx hb hts hin hown hK hP 0 rfl rfl 9 (by decide) hlink (fun _ h => h) rfl hdg kk
theorem mg0_next_e {v : Int32} (hv : m_nxt z = v) (hx : p.tables.exec = Jvm.exec) (hb : c.code = cc) (hts : ∀ w ∈ Ts, w.before args s = true) (hin : ∀ w ∈ u_ws RMo TMo 28, w ∈ Ts) (hown : s.vm.findClass own = some m.cls) (hK : va_K D clA (tys3 cI cJ cZ) s) (hP : m_W D q cI cJ cZ z H) (hlink : (Cond.fieldLink own index "DrumMachineModel" "next" "I").before args s = true) (hdg : decode cc pc = .ok (.getfield index, 3)) (kk : W p l e R s m args below meth c H locs cells slots Q (F0 m (pc + 3) ls (.int v :: rest))) : W p l e R s m args below meth c H locs cells slots Q (F0 m pc ls (.ref (q 0) :: rest)) := by
  subst hv
  exact mg0_next hx hb hts hin hown hK hP hlink hdg kk
theorem mp0_next (v : Int32) (hq : m_inj q) (hS : va_S (m_qs q) H0 H locs) (hx : p.tables.exec = Jvm.exec) (hb : c.code = cc) (hts : ∀ w ∈ Ts, w.before args s = true) (hin : ∀ w ∈ u_ws RMo TMo 28, w ∈ Ts) (hown : s.vm.findClass own = some m.cls) (hK : va_K D clA (tys3 cI cJ cZ) s) (hP : m_W D q cI cJ cZ z H) (hlink : (Cond.fieldLink own index "DrumMachineModel" "next" "I").before args s = true) (hdg : decode cc pc = .ok (.putfield index, 3)) (kk : ∀ (H1 : Heap) (locs1 : List Loc), m_W D q cI cJ cZ (m_nxt_s z v) H1 → va_S (m_qs q) H0 H1 locs1 → W p l e R s m args below meth c H1 locs1 cells slots Q (F0 m (pc + 3) ls rest)) : W p l e R s m args below meth c H locs cells slots Q (F0 m pc ls (.int v :: .ref (q 0) :: rest)) :=
  va_put (ci := 7) (v := .int v) (C := RMo) (T := TMo) (N := 28) hx hb hts hin tyMo tyMo_ok nmMo hown hK hP (m_D hq z) hS 0 rfl rfl 9 (by decide) hlink (fun _ h => h) rfl rfl rfl rfl (Nat.le_of_ble_eq_true rfl) hdg (fun H1 locs1 a _ b => kk H1 locs1 a b)
theorem mg0_fault (hx : p.tables.exec = Jvm.exec) (hb : c.code = cc) (hts : ∀ w ∈ Ts, w.before args s = true) (hin : ∀ w ∈ u_ws RMo TMo 28, w ∈ Ts) (hown : s.vm.findClass own = some m.cls) (hK : va_K D clA (tys3 cI cJ cZ) s) (hP : m_W D q cI cJ cZ z H) (hlink : (Cond.fieldLink own index "DrumMachineModel" "fault" "I").before args s = true) (hdg : decode cc pc = .ok (.getfield index, 3)) (kk : W p l e R s m args below meth c H locs cells slots Q (F0 m (pc + 3) ls (.int (m_fault z) :: rest))) : W p l e R s m args below meth c H locs cells slots Q (F0 m pc ls (.ref (q 0) :: rest)) :=
  va_get (ci := 7) (v := .int (m_fault z)) (C := RMo) (T := TMo) (N := 28) hx hb hts hin hown hK hP 0 rfl rfl 10 (by decide) hlink (fun _ h => h) rfl hdg kk
theorem mg0_fault_e {v : Int32} (hv : m_fault z = v) (hx : p.tables.exec = Jvm.exec) (hb : c.code = cc) (hts : ∀ w ∈ Ts, w.before args s = true) (hin : ∀ w ∈ u_ws RMo TMo 28, w ∈ Ts) (hown : s.vm.findClass own = some m.cls) (hK : va_K D clA (tys3 cI cJ cZ) s) (hP : m_W D q cI cJ cZ z H) (hlink : (Cond.fieldLink own index "DrumMachineModel" "fault" "I").before args s = true) (hdg : decode cc pc = .ok (.getfield index, 3)) (kk : W p l e R s m args below meth c H locs cells slots Q (F0 m (pc + 3) ls (.int v :: rest))) : W p l e R s m args below meth c H locs cells slots Q (F0 m pc ls (.ref (q 0) :: rest)) := by
  subst hv
  exact mg0_fault hx hb hts hin hown hK hP hlink hdg kk
theorem mp0_fault (v : Int32) (hq : m_inj q) (hS : va_S (m_qs q) H0 H locs) (hx : p.tables.exec = Jvm.exec) (hb : c.code = cc) (hts : ∀ w ∈ Ts, w.before args s = true) (hin : ∀ w ∈ u_ws RMo TMo 28, w ∈ Ts) (hown : s.vm.findClass own = some m.cls) (hK : va_K D clA (tys3 cI cJ cZ) s) (hP : m_W D q cI cJ cZ z H) (hlink : (Cond.fieldLink own index "DrumMachineModel" "fault" "I").before args s = true) (hdg : decode cc pc = .ok (.putfield index, 3)) (kk : ∀ (H1 : Heap) (locs1 : List Loc), m_W D q cI cJ cZ (m_fault_s z v) H1 → va_S (m_qs q) H0 H1 locs1 → W p l e R s m args below meth c H1 locs1 cells slots Q (F0 m (pc + 3) ls rest)) : W p l e R s m args below meth c H locs cells slots Q (F0 m pc ls (.int v :: .ref (q 0) :: rest)) :=
  va_put (ci := 7) (v := .int v) (C := RMo) (T := TMo) (N := 28) hx hb hts hin tyMo tyMo_ok nmMo hown hK hP (m_D hq z) hS 0 rfl rfl 10 (by decide) hlink (fun _ h => h) rfl rfl rfl rfl (Nat.le_of_ble_eq_true rfl) hdg (fun H1 locs1 a _ b => kk H1 locs1 a b)
theorem mg0_time (hx : p.tables.exec = Jvm.exec) (hb : c.code = cc) (hts : ∀ w ∈ Ts, w.before args s = true) (hin : ∀ w ∈ u_ws RMo TMo 28, w ∈ Ts) (hown : s.vm.findClass own = some m.cls) (hK : va_K D clA (tys3 cI cJ cZ) s) (hP : m_W D q cI cJ cZ z H) (hlink : (Cond.fieldLink own index "DrumMachineModel" "time" "J").before args s = true) (hdg : decode cc pc = .ok (.getfield index, 3)) (kk : W p l e R s m args below meth c H locs cells slots Q (F0 m (pc + 3) ls (.long (m_time z) :: rest))) : W p l e R s m args below meth c H locs cells slots Q (F0 m pc ls (.ref (q 0) :: rest)) :=
  va_get (ci := 7) (v := .long (m_time z)) (C := RMo) (T := TMo) (N := 28) hx hb hts hin hown hK hP 0 rfl rfl 11 (by decide) hlink (fun _ h => h) rfl hdg kk
theorem mg0_time_e {v : Int64} (hv : m_time z = v) (hx : p.tables.exec = Jvm.exec) (hb : c.code = cc) (hts : ∀ w ∈ Ts, w.before args s = true) (hin : ∀ w ∈ u_ws RMo TMo 28, w ∈ Ts) (hown : s.vm.findClass own = some m.cls) (hK : va_K D clA (tys3 cI cJ cZ) s) (hP : m_W D q cI cJ cZ z H) (hlink : (Cond.fieldLink own index "DrumMachineModel" "time" "J").before args s = true) (hdg : decode cc pc = .ok (.getfield index, 3)) (kk : W p l e R s m args below meth c H locs cells slots Q (F0 m (pc + 3) ls (.long v :: rest))) : W p l e R s m args below meth c H locs cells slots Q (F0 m pc ls (.ref (q 0) :: rest)) := by
  subst hv
  exact mg0_time hx hb hts hin hown hK hP hlink hdg kk
theorem mp0_time (v : Int64) (hq : m_inj q) (hS : va_S (m_qs q) H0 H locs) (hx : p.tables.exec = Jvm.exec) (hb : c.code = cc) (hts : ∀ w ∈ Ts, w.before args s = true) (hin : ∀ w ∈ u_ws RMo TMo 28, w ∈ Ts) (hown : s.vm.findClass own = some m.cls) (hK : va_K D clA (tys3 cI cJ cZ) s) (hP : m_W D q cI cJ cZ z H) (hlink : (Cond.fieldLink own index "DrumMachineModel" "time" "J").before args s = true) (hdg : decode cc pc = .ok (.putfield index, 3)) (kk : ∀ (H1 : Heap) (locs1 : List Loc), m_W D q cI cJ cZ (m_time_s z v) H1 → va_S (m_qs q) H0 H1 locs1 → W p l e R s m args below meth c H1 locs1 cells slots Q (F0 m (pc + 3) ls rest)) : W p l e R s m args below meth c H locs cells slots Q (F0 m pc ls (.long v :: .ref (q 0) :: rest)) :=
  va_put (ci := 7) (v := .long v) (C := RMo) (T := TMo) (N := 28) hx hb hts hin tyMo tyMo_ok nmMo hown hK hP (m_D hq z) hS 0 rfl rfl 11 (by decide) hlink (fun _ h => h) rfl rfl rfl rfl (Nat.le_of_ble_eq_true rfl) hdg (fun H1 locs1 a _ b => kk H1 locs1 a b)
theorem mg0_cards (hx : p.tables.exec = Jvm.exec) (hb : c.code = cc) (hts : ∀ w ∈ Ts, w.before args s = true) (hin : ∀ w ∈ u_ws RMo TMo 28, w ∈ Ts) (hown : s.vm.findClass own = some m.cls) (hK : va_K D clA (tys3 cI cJ cZ) s) (hP : m_W D q cI cJ cZ z H) (hlink : (Cond.fieldLink own index "DrumMachineModel" "cards" "I").before args s = true) (hdg : decode cc pc = .ok (.getfield index, 3)) (kk : W p l e R s m args below meth c H locs cells slots Q (F0 m (pc + 3) ls (.int (m_cards z) :: rest))) : W p l e R s m args below meth c H locs cells slots Q (F0 m pc ls (.ref (q 0) :: rest)) :=
  va_get (ci := 7) (v := .int (m_cards z)) (C := RMo) (T := TMo) (N := 28) hx hb hts hin hown hK hP 0 rfl rfl 12 (by decide) hlink (fun _ h => h) rfl hdg kk
theorem mg0_cards_e {v : Int32} (hv : m_cards z = v) (hx : p.tables.exec = Jvm.exec) (hb : c.code = cc) (hts : ∀ w ∈ Ts, w.before args s = true) (hin : ∀ w ∈ u_ws RMo TMo 28, w ∈ Ts) (hown : s.vm.findClass own = some m.cls) (hK : va_K D clA (tys3 cI cJ cZ) s) (hP : m_W D q cI cJ cZ z H) (hlink : (Cond.fieldLink own index "DrumMachineModel" "cards" "I").before args s = true) (hdg : decode cc pc = .ok (.getfield index, 3)) (kk : W p l e R s m args below meth c H locs cells slots Q (F0 m (pc + 3) ls (.int v :: rest))) : W p l e R s m args below meth c H locs cells slots Q (F0 m pc ls (.ref (q 0) :: rest)) := by
  subst hv
  exact mg0_cards hx hb hts hin hown hK hP hlink hdg kk
theorem mp0_cards (v : Int32) (hq : m_inj q) (hS : va_S (m_qs q) H0 H locs) (hx : p.tables.exec = Jvm.exec) (hb : c.code = cc) (hts : ∀ w ∈ Ts, w.before args s = true) (hin : ∀ w ∈ u_ws RMo TMo 28, w ∈ Ts) (hown : s.vm.findClass own = some m.cls) (hK : va_K D clA (tys3 cI cJ cZ) s) (hP : m_W D q cI cJ cZ z H) (hlink : (Cond.fieldLink own index "DrumMachineModel" "cards" "I").before args s = true) (hdg : decode cc pc = .ok (.putfield index, 3)) (kk : ∀ (H1 : Heap) (locs1 : List Loc), m_W D q cI cJ cZ (m_cards_s z v) H1 → va_S (m_qs q) H0 H1 locs1 → W p l e R s m args below meth c H1 locs1 cells slots Q (F0 m (pc + 3) ls rest)) : W p l e R s m args below meth c H locs cells slots Q (F0 m pc ls (.int v :: .ref (q 0) :: rest)) :=
  va_put (ci := 7) (v := .int v) (C := RMo) (T := TMo) (N := 28) hx hb hts hin tyMo tyMo_ok nmMo hown hK hP (m_D hq z) hS 0 rfl rfl 12 (by decide) hlink (fun _ h => h) rfl rfl rfl rfl (Nat.le_of_ble_eq_true rfl) hdg (fun H1 locs1 a _ b => kk H1 locs1 a b)
theorem mg0_card (hx : p.tables.exec = Jvm.exec) (hb : c.code = cc) (hts : ∀ w ∈ Ts, w.before args s = true) (hin : ∀ w ∈ u_ws RMo TMo 28, w ∈ Ts) (hown : s.vm.findClass own = some m.cls) (hK : va_K D clA (tys3 cI cJ cZ) s) (hP : m_W D q cI cJ cZ z H) (hlink : (Cond.fieldLink own index "DrumMachineModel" "card" "[J").before args s = true) (hdg : decode cc pc = .ok (.getfield index, 3)) (kk : W p l e R s m args below meth c H locs cells slots Q (F0 m (pc + 3) ls (.ref (q 3) :: rest))) : W p l e R s m args below meth c H locs cells slots Q (F0 m pc ls (.ref (q 0) :: rest)) :=
  va_get (ci := 7) (v := .ref (q 3)) (C := RMo) (T := TMo) (N := 28) hx hb hts hin hown hK hP 0 rfl rfl 13 (by decide) hlink (fun _ h => h) rfl hdg kk
theorem mg0_cardMinus (hx : p.tables.exec = Jvm.exec) (hb : c.code = cc) (hts : ∀ w ∈ Ts, w.before args s = true) (hin : ∀ w ∈ u_ws RMo TMo 28, w ∈ Ts) (hown : s.vm.findClass own = some m.cls) (hK : va_K D clA (tys3 cI cJ cZ) s) (hP : m_W D q cI cJ cZ z H) (hlink : (Cond.fieldLink own index "DrumMachineModel" "cardMinus" "[Z").before args s = true) (hdg : decode cc pc = .ok (.getfield index, 3)) (kk : W p l e R s m args below meth c H locs cells slots Q (F0 m (pc + 3) ls (.ref (q 4) :: rest))) : W p l e R s m args below meth c H locs cells slots Q (F0 m pc ls (.ref (q 0) :: rest)) :=
  va_get (ci := 7) (v := .ref (q 4)) (C := RMo) (T := TMo) (N := 28) hx hb hts hin hown hK hP 0 rfl rfl 14 (by decide) hlink (fun _ h => h) rfl hdg kk
theorem mg0_outputs (hx : p.tables.exec = Jvm.exec) (hb : c.code = cc) (hts : ∀ w ∈ Ts, w.before args s = true) (hin : ∀ w ∈ u_ws RMo TMo 28, w ∈ Ts) (hown : s.vm.findClass own = some m.cls) (hK : va_K D clA (tys3 cI cJ cZ) s) (hP : m_W D q cI cJ cZ z H) (hlink : (Cond.fieldLink own index "DrumMachineModel" "outputs" "I").before args s = true) (hdg : decode cc pc = .ok (.getfield index, 3)) (kk : W p l e R s m args below meth c H locs cells slots Q (F0 m (pc + 3) ls (.int (m_outs z) :: rest))) : W p l e R s m args below meth c H locs cells slots Q (F0 m pc ls (.ref (q 0) :: rest)) :=
  va_get (ci := 7) (v := .int (m_outs z)) (C := RMo) (T := TMo) (N := 28) hx hb hts hin hown hK hP 0 rfl rfl 15 (by decide) hlink (fun _ h => h) rfl hdg kk
theorem mg0_outputs_e {v : Int32} (hv : m_outs z = v) (hx : p.tables.exec = Jvm.exec) (hb : c.code = cc) (hts : ∀ w ∈ Ts, w.before args s = true) (hin : ∀ w ∈ u_ws RMo TMo 28, w ∈ Ts) (hown : s.vm.findClass own = some m.cls) (hK : va_K D clA (tys3 cI cJ cZ) s) (hP : m_W D q cI cJ cZ z H) (hlink : (Cond.fieldLink own index "DrumMachineModel" "outputs" "I").before args s = true) (hdg : decode cc pc = .ok (.getfield index, 3)) (kk : W p l e R s m args below meth c H locs cells slots Q (F0 m (pc + 3) ls (.int v :: rest))) : W p l e R s m args below meth c H locs cells slots Q (F0 m pc ls (.ref (q 0) :: rest)) := by
  subst hv
  exact mg0_outputs hx hb hts hin hown hK hP hlink hdg kk
theorem mp0_outputs (v : Int32) (hq : m_inj q) (hS : va_S (m_qs q) H0 H locs) (hx : p.tables.exec = Jvm.exec) (hb : c.code = cc) (hts : ∀ w ∈ Ts, w.before args s = true) (hin : ∀ w ∈ u_ws RMo TMo 28, w ∈ Ts) (hown : s.vm.findClass own = some m.cls) (hK : va_K D clA (tys3 cI cJ cZ) s) (hP : m_W D q cI cJ cZ z H) (hlink : (Cond.fieldLink own index "DrumMachineModel" "outputs" "I").before args s = true) (hdg : decode cc pc = .ok (.putfield index, 3)) (kk : ∀ (H1 : Heap) (locs1 : List Loc), m_W D q cI cJ cZ (m_outs_s z v) H1 → va_S (m_qs q) H0 H1 locs1 → W p l e R s m args below meth c H1 locs1 cells slots Q (F0 m (pc + 3) ls rest)) : W p l e R s m args below meth c H locs cells slots Q (F0 m pc ls (.int v :: .ref (q 0) :: rest)) :=
  va_put (ci := 7) (v := .int v) (C := RMo) (T := TMo) (N := 28) hx hb hts hin tyMo tyMo_ok nmMo hown hK hP (m_D hq z) hS 0 rfl rfl 15 (by decide) hlink (fun _ h => h) rfl rfl rfl rfl (Nat.le_of_ble_eq_true rfl) hdg (fun H1 locs1 a _ b => kk H1 locs1 a b)
theorem mg0_output (hx : p.tables.exec = Jvm.exec) (hb : c.code = cc) (hts : ∀ w ∈ Ts, w.before args s = true) (hin : ∀ w ∈ u_ws RMo TMo 28, w ∈ Ts) (hown : s.vm.findClass own = some m.cls) (hK : va_K D clA (tys3 cI cJ cZ) s) (hP : m_W D q cI cJ cZ z H) (hlink : (Cond.fieldLink own index "DrumMachineModel" "output" "[J").before args s = true) (hdg : decode cc pc = .ok (.getfield index, 3)) (kk : W p l e R s m args below meth c H locs cells slots Q (F0 m (pc + 3) ls (.ref (q 5) :: rest))) : W p l e R s m args below meth c H locs cells slots Q (F0 m pc ls (.ref (q 0) :: rest)) :=
  va_get (ci := 7) (v := .ref (q 5)) (C := RMo) (T := TMo) (N := 28) hx hb hts hin hown hK hP 0 rfl rfl 16 (by decide) hlink (fun _ h => h) rfl hdg kk
theorem mg0_lines (hx : p.tables.exec = Jvm.exec) (hb : c.code = cc) (hts : ∀ w ∈ Ts, w.before args s = true) (hin : ∀ w ∈ u_ws RMo TMo 28, w ∈ Ts) (hown : s.vm.findClass own = some m.cls) (hK : va_K D clA (tys3 cI cJ cZ) s) (hP : m_W D q cI cJ cZ z H) (hlink : (Cond.fieldLink own index "DrumMachineModel" "lines" "I").before args s = true) (hdg : decode cc pc = .ok (.getfield index, 3)) (kk : W p l e R s m args below meth c H locs cells slots Q (F0 m (pc + 3) ls (.int (m_lines z) :: rest))) : W p l e R s m args below meth c H locs cells slots Q (F0 m pc ls (.ref (q 0) :: rest)) :=
  va_get (ci := 7) (v := .int (m_lines z)) (C := RMo) (T := TMo) (N := 28) hx hb hts hin hown hK hP 0 rfl rfl 17 (by decide) hlink (fun _ h => h) rfl hdg kk
theorem mg0_lines_e {v : Int32} (hv : m_lines z = v) (hx : p.tables.exec = Jvm.exec) (hb : c.code = cc) (hts : ∀ w ∈ Ts, w.before args s = true) (hin : ∀ w ∈ u_ws RMo TMo 28, w ∈ Ts) (hown : s.vm.findClass own = some m.cls) (hK : va_K D clA (tys3 cI cJ cZ) s) (hP : m_W D q cI cJ cZ z H) (hlink : (Cond.fieldLink own index "DrumMachineModel" "lines" "I").before args s = true) (hdg : decode cc pc = .ok (.getfield index, 3)) (kk : W p l e R s m args below meth c H locs cells slots Q (F0 m (pc + 3) ls (.int v :: rest))) : W p l e R s m args below meth c H locs cells slots Q (F0 m pc ls (.ref (q 0) :: rest)) := by
  subst hv
  exact mg0_lines hx hb hts hin hown hK hP hlink hdg kk
theorem mp0_lines (v : Int32) (hq : m_inj q) (hS : va_S (m_qs q) H0 H locs) (hx : p.tables.exec = Jvm.exec) (hb : c.code = cc) (hts : ∀ w ∈ Ts, w.before args s = true) (hin : ∀ w ∈ u_ws RMo TMo 28, w ∈ Ts) (hown : s.vm.findClass own = some m.cls) (hK : va_K D clA (tys3 cI cJ cZ) s) (hP : m_W D q cI cJ cZ z H) (hlink : (Cond.fieldLink own index "DrumMachineModel" "lines" "I").before args s = true) (hdg : decode cc pc = .ok (.putfield index, 3)) (kk : ∀ (H1 : Heap) (locs1 : List Loc), m_W D q cI cJ cZ (m_lines_s z v) H1 → va_S (m_qs q) H0 H1 locs1 → W p l e R s m args below meth c H1 locs1 cells slots Q (F0 m (pc + 3) ls rest)) : W p l e R s m args below meth c H locs cells slots Q (F0 m pc ls (.int v :: .ref (q 0) :: rest)) :=
  va_put (ci := 7) (v := .int v) (C := RMo) (T := TMo) (N := 28) hx hb hts hin tyMo tyMo_ok nmMo hown hK hP (m_D hq z) hS 0 rfl rfl 17 (by decide) hlink (fun _ h => h) rfl rfl rfl rfl (Nat.le_of_ble_eq_true rfl) hdg (fun H1 locs1 a _ b => kk H1 locs1 a b)
theorem mg0_location (hx : p.tables.exec = Jvm.exec) (hb : c.code = cc) (hts : ∀ w ∈ Ts, w.before args s = true) (hin : ∀ w ∈ u_ws RMo TMo 28, w ∈ Ts) (hown : s.vm.findClass own = some m.cls) (hK : va_K D clA (tys3 cI cJ cZ) s) (hP : m_W D q cI cJ cZ z H) (hlink : (Cond.fieldLink own index "DrumMachineModel" "location" "[I").before args s = true) (hdg : decode cc pc = .ok (.getfield index, 3)) (kk : W p l e R s m args below meth c H locs cells slots Q (F0 m (pc + 3) ls (.ref (q 6) :: rest))) : W p l e R s m args below meth c H locs cells slots Q (F0 m pc ls (.ref (q 0) :: rest)) :=
  va_get (ci := 7) (v := .ref (q 6)) (C := RMo) (T := TMo) (N := 28) hx hb hts hin hown hK hP 0 rfl rfl 18 (by decide) hlink (fun _ h => h) rfl hdg kk
theorem mg0_operation (hx : p.tables.exec = Jvm.exec) (hb : c.code = cc) (hts : ∀ w ∈ Ts, w.before args s = true) (hin : ∀ w ∈ u_ws RMo TMo 28, w ∈ Ts) (hown : s.vm.findClass own = some m.cls) (hK : va_K D clA (tys3 cI cJ cZ) s) (hP : m_W D q cI cJ cZ z H) (hlink : (Cond.fieldLink own index "DrumMachineModel" "operation" "[I").before args s = true) (hdg : decode cc pc = .ok (.getfield index, 3)) (kk : W p l e R s m args below meth c H locs cells slots Q (F0 m (pc + 3) ls (.ref (q 7) :: rest))) : W p l e R s m args below meth c H locs cells slots Q (F0 m pc ls (.ref (q 0) :: rest)) :=
  va_get (ci := 7) (v := .ref (q 7)) (C := RMo) (T := TMo) (N := 28) hx hb hts hin hown hK hP 0 rfl rfl 19 (by decide) hlink (fun _ h => h) rfl hdg kk
theorem mg0_data (hx : p.tables.exec = Jvm.exec) (hb : c.code = cc) (hts : ∀ w ∈ Ts, w.before args s = true) (hin : ∀ w ∈ u_ws RMo TMo 28, w ∈ Ts) (hown : s.vm.findClass own = some m.cls) (hK : va_K D clA (tys3 cI cJ cZ) s) (hP : m_W D q cI cJ cZ z H) (hlink : (Cond.fieldLink own index "DrumMachineModel" "data" "[I").before args s = true) (hdg : decode cc pc = .ok (.getfield index, 3)) (kk : W p l e R s m args below meth c H locs cells slots Q (F0 m (pc + 3) ls (.ref (q 8) :: rest))) : W p l e R s m args below meth c H locs cells slots Q (F0 m pc ls (.ref (q 0) :: rest)) :=
  va_get (ci := 7) (v := .ref (q 8)) (C := RMo) (T := TMo) (N := 28) hx hb hts hin hown hK hP 0 rfl rfl 20 (by decide) hlink (fun _ h => h) rfl hdg kk
theorem mg0_following (hx : p.tables.exec = Jvm.exec) (hb : c.code = cc) (hts : ∀ w ∈ Ts, w.before args s = true) (hin : ∀ w ∈ u_ws RMo TMo 28, w ∈ Ts) (hown : s.vm.findClass own = some m.cls) (hK : va_K D clA (tys3 cI cJ cZ) s) (hP : m_W D q cI cJ cZ z H) (hlink : (Cond.fieldLink own index "DrumMachineModel" "following" "[I").before args s = true) (hdg : decode cc pc = .ok (.getfield index, 3)) (kk : W p l e R s m args below meth c H locs cells slots Q (F0 m (pc + 3) ls (.ref (q 9) :: rest))) : W p l e R s m args below meth c H locs cells slots Q (F0 m pc ls (.ref (q 0) :: rest)) :=
  va_get (ci := 7) (v := .ref (q 9)) (C := RMo) (T := TMo) (N := 28) hx hb hts hin hown hK hP 0 rfl rfl 21 (by decide) hlink (fun _ h => h) rfl hdg kk
theorem mg0_reserved (hx : p.tables.exec = Jvm.exec) (hb : c.code = cc) (hts : ∀ w ∈ Ts, w.before args s = true) (hin : ∀ w ∈ u_ws RMo TMo 28, w ∈ Ts) (hown : s.vm.findClass own = some m.cls) (hK : va_K D clA (tys3 cI cJ cZ) s) (hP : m_W D q cI cJ cZ z H) (hlink : (Cond.fieldLink own index "DrumMachineModel" "reserved" "[Z").before args s = true) (hdg : decode cc pc = .ok (.getfield index, 3)) (kk : W p l e R s m args below meth c H locs cells slots Q (F0 m (pc + 3) ls (.ref (q 10) :: rest))) : W p l e R s m args below meth c H locs cells slots Q (F0 m pc ls (.ref (q 0) :: rest)) :=
  va_get (ci := 7) (v := .ref (q 10)) (C := RMo) (T := TMo) (N := 28) hx hb hts hin hown hK hP 0 rfl rfl 22 (by decide) hlink (fun _ h => h) rfl hdg kk
theorem mg0_places (hx : p.tables.exec = Jvm.exec) (hb : c.code = cc) (hts : ∀ w ∈ Ts, w.before args s = true) (hin : ∀ w ∈ u_ws RMo TMo 28, w ∈ Ts) (hown : s.vm.findClass own = some m.cls) (hK : va_K D clA (tys3 cI cJ cZ) s) (hP : m_W D q cI cJ cZ z H) (hlink : (Cond.fieldLink own index "DrumMachineModel" "places" "[I").before args s = true) (hdg : decode cc pc = .ok (.getfield index, 3)) (kk : W p l e R s m args below meth c H locs cells slots Q (F0 m (pc + 3) ls (.ref (q 11) :: rest))) : W p l e R s m args below meth c H locs cells slots Q (F0 m pc ls (.ref (q 0) :: rest)) :=
  va_get (ci := 7) (v := .ref (q 11)) (C := RMo) (T := TMo) (N := 28) hx hb hts hin hown hK hP 0 rfl rfl 23 (by decide) hlink (fun _ h => h) rfl hdg kk
theorem mg0_held (hx : p.tables.exec = Jvm.exec) (hb : c.code = cc) (hts : ∀ w ∈ Ts, w.before args s = true) (hin : ∀ w ∈ u_ws RMo TMo 28, w ∈ Ts) (hown : s.vm.findClass own = some m.cls) (hK : va_K D clA (tys3 cI cJ cZ) s) (hP : m_W D q cI cJ cZ z H) (hlink : (Cond.fieldLink own index "DrumMachineModel" "held" "[Z").before args s = true) (hdg : decode cc pc = .ok (.getfield index, 3)) (kk : W p l e R s m args below meth c H locs cells slots Q (F0 m (pc + 3) ls (.ref (q 12) :: rest))) : W p l e R s m args below meth c H locs cells slots Q (F0 m pc ls (.ref (q 0) :: rest)) :=
  va_get (ci := 7) (v := .ref (q 12)) (C := RMo) (T := TMo) (N := 28) hx hb hts hin hown hK hP 0 rfl rfl 24 (by decide) hlink (fun _ h => h) rfl hdg kk
theorem mg0_at (hx : p.tables.exec = Jvm.exec) (hb : c.code = cc) (hts : ∀ w ∈ Ts, w.before args s = true) (hin : ∀ w ∈ u_ws RMo TMo 28, w ∈ Ts) (hown : s.vm.findClass own = some m.cls) (hK : va_K D clA (tys3 cI cJ cZ) s) (hP : m_W D q cI cJ cZ z H) (hlink : (Cond.fieldLink own index "DrumMachineModel" "at" "[I").before args s = true) (hdg : decode cc pc = .ok (.getfield index, 3)) (kk : W p l e R s m args below meth c H locs cells slots Q (F0 m (pc + 3) ls (.ref (q 13) :: rest))) : W p l e R s m args below meth c H locs cells slots Q (F0 m pc ls (.ref (q 0) :: rest)) :=
  va_get (ci := 7) (v := .ref (q 13)) (C := RMo) (T := TMo) (N := 28) hx hb hts hin hown hK hP 0 rfl rfl 25 (by decide) hlink (fun _ h => h) rfl hdg kk
theorem mg0_written (hx : p.tables.exec = Jvm.exec) (hb : c.code = cc) (hts : ∀ w ∈ Ts, w.before args s = true) (hin : ∀ w ∈ u_ws RMo TMo 28, w ∈ Ts) (hown : s.vm.findClass own = some m.cls) (hK : va_K D clA (tys3 cI cJ cZ) s) (hP : m_W D q cI cJ cZ z H) (hlink : (Cond.fieldLink own index "DrumMachineModel" "written" "[J").before args s = true) (hdg : decode cc pc = .ok (.getfield index, 3)) (kk : W p l e R s m args below meth c H locs cells slots Q (F0 m (pc + 3) ls (.ref (q 14) :: rest))) : W p l e R s m args below meth c H locs cells slots Q (F0 m pc ls (.ref (q 0) :: rest)) :=
  va_get (ci := 7) (v := .ref (q 14)) (C := RMo) (T := TMo) (N := 28) hx hb hts hin hown hK hP 0 rfl rfl 26 (by decide) hlink (fun _ h => h) rfl hdg kk
theorem mg0_full (hx : p.tables.exec = Jvm.exec) (hb : c.code = cc) (hts : ∀ w ∈ Ts, w.before args s = true) (hin : ∀ w ∈ u_ws RMo TMo 28, w ∈ Ts) (hown : s.vm.findClass own = some m.cls) (hK : va_K D clA (tys3 cI cJ cZ) s) (hP : m_W D q cI cJ cZ z H) (hlink : (Cond.fieldLink own index "DrumMachineModel" "full" "Z").before args s = true) (hdg : decode cc pc = .ok (.getfield index, 3)) (kk : W p l e R s m args below meth c H locs cells slots Q (F0 m (pc + 3) ls (.int (bb (m_full z)) :: rest))) : W p l e R s m args below meth c H locs cells slots Q (F0 m pc ls (.ref (q 0) :: rest)) :=
  va_get (ci := 7) (v := .int (bb (m_full z))) (C := RMo) (T := TMo) (N := 28) hx hb hts hin hown hK hP 0 rfl rfl 27 (by decide) hlink (fun _ h => h) rfl hdg kk
theorem mg0_full_e {v : Bool} (hv : m_full z = v) (hx : p.tables.exec = Jvm.exec) (hb : c.code = cc) (hts : ∀ w ∈ Ts, w.before args s = true) (hin : ∀ w ∈ u_ws RMo TMo 28, w ∈ Ts) (hown : s.vm.findClass own = some m.cls) (hK : va_K D clA (tys3 cI cJ cZ) s) (hP : m_W D q cI cJ cZ z H) (hlink : (Cond.fieldLink own index "DrumMachineModel" "full" "Z").before args s = true) (hdg : decode cc pc = .ok (.getfield index, 3)) (kk : W p l e R s m args below meth c H locs cells slots Q (F0 m (pc + 3) ls (.int (bb v) :: rest))) : W p l e R s m args below meth c H locs cells slots Q (F0 m pc ls (.ref (q 0) :: rest)) := by
  subst hv
  exact mg0_full hx hb hts hin hown hK hP hlink hdg kk
theorem mp0_full (v : Bool) (hq : m_inj q) (hS : va_S (m_qs q) H0 H locs) (hx : p.tables.exec = Jvm.exec) (hb : c.code = cc) (hts : ∀ w ∈ Ts, w.before args s = true) (hin : ∀ w ∈ u_ws RMo TMo 28, w ∈ Ts) (hown : s.vm.findClass own = some m.cls) (hK : va_K D clA (tys3 cI cJ cZ) s) (hP : m_W D q cI cJ cZ z H) (hlink : (Cond.fieldLink own index "DrumMachineModel" "full" "Z").before args s = true) (hdg : decode cc pc = .ok (.putfield index, 3)) (kk : ∀ (H1 : Heap) (locs1 : List Loc), m_W D q cI cJ cZ (m_full_s z v) H1 → va_S (m_qs q) H0 H1 locs1 → W p l e R s m args below meth c H1 locs1 cells slots Q (F0 m (pc + 3) ls rest)) : W p l e R s m args below meth c H locs cells slots Q (F0 m pc ls (.int (bb v) :: .ref (q 0) :: rest)) :=
  va_put (ci := 7) (v := .int (bb v)) (C := RMo) (T := TMo) (N := 28) hx hb hts hin tyMo tyMo_ok nmMo hown hK hP (m_D hq z) hS 0 rfl rfl 27 (by decide) hlink (fun _ h => h) rfl rfl (nz_b v) (fz_b v) (Nat.le_of_ble_eq_true rfl) hdg (fun H1 locs1 a _ b => kk H1 locs1 a b)
theorem ml_codes {i : Int32} (hx : p.tables.exec = Jvm.exec) (hb : c.code = cc) (hK : va_K D clA (tys3 cI cJ cZ) s) (hP : m_W D q cI cJ cZ z H) (hin : vp_in i 2000) (hdg : decode cc pc = .ok (.iaload, 1)) (kk : W p l e R s m args below meth c H locs cells slots Q (F0 m (pc + 1) ls (.int (m_codes z i.toNatClampNeg) :: rest))) : W p l e R s m args below meth c H locs cells slots Q (F0 m pc ls (.int i :: .ref (q 1) :: rest)) :=
  va_iald hx hb hK hP 1 0 rfl rfl hin hdg kk
theorem ml_codes_e {i : Int32} {f : Nat → Int32} (hf : m_codes z = f) (hx : p.tables.exec = Jvm.exec) (hb : c.code = cc) (hK : va_K D clA (tys3 cI cJ cZ) s) (hP : m_W D q cI cJ cZ z H) (hin : vp_in i 2000) (hdg : decode cc pc = .ok (.iaload, 1)) (kk : W p l e R s m args below meth c H locs cells slots Q (F0 m (pc + 1) ls (.int (f i.toNatClampNeg) :: rest))) : W p l e R s m args below meth c H locs cells slots Q (F0 m pc ls (.int i :: .ref (q 1) :: rest)) := by
  subst hf
  exact ml_codes hx hb hK hP hin hdg kk
theorem ms_codes {i : Int32} (v : Int32) (hq : m_inj q) (hS : va_S (m_qs q) H0 H locs) (hx : p.tables.exec = Jvm.exec) (hb : c.code = cc) (hK : va_K D clA (tys3 cI cJ cZ) s) (hP : m_W D q cI cJ cZ z H) (hin : vp_in i 2000) (hdg : decode cc pc = .ok (.iastore, 1)) (kk : ∀ (H1 : Heap) (locs1 : List Loc), m_W D q cI cJ cZ (m_codes_s z (upd (m_codes z) i.toNatClampNeg v)) H1 → va_S (m_qs q) H0 H1 locs1 → W p l e R s m args below meth c H1 locs1 cells slots Q (F0 m (pc + 1) ls rest)) : W p l e R s m args below meth c H locs cells slots Q (F0 m pc ls (.int v :: .int i :: .ref (q 1) :: rest)) :=
  va_iast hx hb hK hP (m_D hq z) hS 1 0 rfl rfl hin hdg (fun H1 locs1 a _ b => kk H1 locs1 a b)
theorem ms_codes_e {i : Int32} (v : Int32) {f : Nat → Int32} (hf : m_codes z = f) (hq : m_inj q) (hS : va_S (m_qs q) H0 H locs) (hx : p.tables.exec = Jvm.exec) (hb : c.code = cc) (hK : va_K D clA (tys3 cI cJ cZ) s) (hP : m_W D q cI cJ cZ z H) (hin : vp_in i 2000) (hdg : decode cc pc = .ok (.iastore, 1)) (kk : ∀ (H1 : Heap) (locs1 : List Loc), m_W D q cI cJ cZ (m_codes_s z (upd f i.toNatClampNeg v)) H1 → va_S (m_qs q) H0 H1 locs1 → W p l e R s m args below meth c H1 locs1 cells slots Q (F0 m (pc + 1) ls rest)) : W p l e R s m args below meth c H locs cells slots Q (F0 m pc ls (.int v :: .int i :: .ref (q 1) :: rest)) := by
  subst hf
  exact ms_codes v hq hS hx hb hK hP hin hdg kk
theorem ml_dmin {i : Int32} (hx : p.tables.exec = Jvm.exec) (hb : c.code = cc) (hK : va_K D clA (tys3 cI cJ cZ) s) (hP : m_W D q cI cJ cZ z H) (hin : vp_in i 200) (hdg : decode cc pc = .ok (.baload, 1)) (kk : W p l e R s m args below meth c H locs cells slots Q (F0 m (pc + 1) ls (.int (bb (m_dmin z i.toNatClampNeg)) :: rest))) : W p l e R s m args below meth c H locs cells slots Q (F0 m pc ls (.int i :: .ref (q 2) :: rest)) :=
  va_zald hx hb hK hP 2 2 rfl rfl hin hdg kk
theorem ml_dmin_e {i : Int32} {f : Nat → Bool} (hf : m_dmin z = f) (hx : p.tables.exec = Jvm.exec) (hb : c.code = cc) (hK : va_K D clA (tys3 cI cJ cZ) s) (hP : m_W D q cI cJ cZ z H) (hin : vp_in i 200) (hdg : decode cc pc = .ok (.baload, 1)) (kk : W p l e R s m args below meth c H locs cells slots Q (F0 m (pc + 1) ls (.int (bb (f i.toNatClampNeg)) :: rest))) : W p l e R s m args below meth c H locs cells slots Q (F0 m pc ls (.int i :: .ref (q 2) :: rest)) := by
  subst hf
  exact ml_dmin hx hb hK hP hin hdg kk
theorem ms_dmin {i : Int32} (v : Bool) (hq : m_inj q) (hS : va_S (m_qs q) H0 H locs) (hx : p.tables.exec = Jvm.exec) (hb : c.code = cc) (hK : va_K D clA (tys3 cI cJ cZ) s) (hP : m_W D q cI cJ cZ z H) (hin : vp_in i 200) (hdg : decode cc pc = .ok (.bastore, 1)) (kk : ∀ (H1 : Heap) (locs1 : List Loc), m_W D q cI cJ cZ (m_dmin_s z (updB (m_dmin z) i.toNatClampNeg v)) H1 → va_S (m_qs q) H0 H1 locs1 → W p l e R s m args below meth c H1 locs1 cells slots Q (F0 m (pc + 1) ls rest)) : W p l e R s m args below meth c H locs cells slots Q (F0 m pc ls (.int (bb v) :: .int i :: .ref (q 2) :: rest)) :=
  va_zast hx hb hK hP (m_D hq z) hS 2 2 rfl rfl hin hdg (fun H1 locs1 a _ b => kk H1 locs1 (by rw [updB_eq] at a; exact a) b)
theorem ms_dmin_e {i : Int32} (v : Bool) {f : Nat → Bool} (hf : m_dmin z = f) (hq : m_inj q) (hS : va_S (m_qs q) H0 H locs) (hx : p.tables.exec = Jvm.exec) (hb : c.code = cc) (hK : va_K D clA (tys3 cI cJ cZ) s) (hP : m_W D q cI cJ cZ z H) (hin : vp_in i 200) (hdg : decode cc pc = .ok (.bastore, 1)) (kk : ∀ (H1 : Heap) (locs1 : List Loc), m_W D q cI cJ cZ (m_dmin_s z (updB f i.toNatClampNeg v)) H1 → va_S (m_qs q) H0 H1 locs1 → W p l e R s m args below meth c H1 locs1 cells slots Q (F0 m (pc + 1) ls rest)) : W p l e R s m args below meth c H locs cells slots Q (F0 m pc ls (.int (bb v) :: .int i :: .ref (q 2) :: rest)) := by
  subst hf
  exact ms_dmin v hq hS hx hb hK hP hin hdg kk
theorem ml_card {i : Int32} (hx : p.tables.exec = Jvm.exec) (hb : c.code = cc) (hK : va_K D clA (tys3 cI cJ cZ) s) (hP : m_W D q cI cJ cZ z H) (hin : vp_in i 20) (hdg : decode cc pc = .ok (.laload, 1)) (kk : W p l e R s m args below meth c H locs cells slots Q (F0 m (pc + 1) ls (.long (m_card z i.toNatClampNeg) :: rest))) : W p l e R s m args below meth c H locs cells slots Q (F0 m pc ls (.int i :: .ref (q 3) :: rest)) :=
  va_lald hx hb hK hP 3 1 rfl rfl hin hdg kk
theorem ml_card_e {i : Int32} {f : Nat → Int64} (hf : m_card z = f) (hx : p.tables.exec = Jvm.exec) (hb : c.code = cc) (hK : va_K D clA (tys3 cI cJ cZ) s) (hP : m_W D q cI cJ cZ z H) (hin : vp_in i 20) (hdg : decode cc pc = .ok (.laload, 1)) (kk : W p l e R s m args below meth c H locs cells slots Q (F0 m (pc + 1) ls (.long (f i.toNatClampNeg) :: rest))) : W p l e R s m args below meth c H locs cells slots Q (F0 m pc ls (.int i :: .ref (q 3) :: rest)) := by
  subst hf
  exact ml_card hx hb hK hP hin hdg kk
theorem ms_card {i : Int32} (v : Int64) (hq : m_inj q) (hS : va_S (m_qs q) H0 H locs) (hx : p.tables.exec = Jvm.exec) (hb : c.code = cc) (hK : va_K D clA (tys3 cI cJ cZ) s) (hP : m_W D q cI cJ cZ z H) (hin : vp_in i 20) (hdg : decode cc pc = .ok (.lastore, 1)) (kk : ∀ (H1 : Heap) (locs1 : List Loc), m_W D q cI cJ cZ (m_card_s z (vp_updL (m_card z) i.toNatClampNeg v)) H1 → va_S (m_qs q) H0 H1 locs1 → W p l e R s m args below meth c H1 locs1 cells slots Q (F0 m (pc + 1) ls rest)) : W p l e R s m args below meth c H locs cells slots Q (F0 m pc ls (.long v :: .int i :: .ref (q 3) :: rest)) :=
  va_last hx hb hK hP (m_D hq z) hS 3 1 rfl rfl hin hdg (fun H1 locs1 a _ b => kk H1 locs1 a b)
theorem ms_card_e {i : Int32} (v : Int64) {f : Nat → Int64} (hf : m_card z = f) (hq : m_inj q) (hS : va_S (m_qs q) H0 H locs) (hx : p.tables.exec = Jvm.exec) (hb : c.code = cc) (hK : va_K D clA (tys3 cI cJ cZ) s) (hP : m_W D q cI cJ cZ z H) (hin : vp_in i 20) (hdg : decode cc pc = .ok (.lastore, 1)) (kk : ∀ (H1 : Heap) (locs1 : List Loc), m_W D q cI cJ cZ (m_card_s z (vp_updL f i.toNatClampNeg v)) H1 → va_S (m_qs q) H0 H1 locs1 → W p l e R s m args below meth c H1 locs1 cells slots Q (F0 m (pc + 1) ls rest)) : W p l e R s m args below meth c H locs cells slots Q (F0 m pc ls (.long v :: .int i :: .ref (q 3) :: rest)) := by
  subst hf
  exact ms_card v hq hS hx hb hK hP hin hdg kk
theorem ml_cmin {i : Int32} (hx : p.tables.exec = Jvm.exec) (hb : c.code = cc) (hK : va_K D clA (tys3 cI cJ cZ) s) (hP : m_W D q cI cJ cZ z H) (hin : vp_in i 20) (hdg : decode cc pc = .ok (.baload, 1)) (kk : W p l e R s m args below meth c H locs cells slots Q (F0 m (pc + 1) ls (.int (bb (m_cmin z i.toNatClampNeg)) :: rest))) : W p l e R s m args below meth c H locs cells slots Q (F0 m pc ls (.int i :: .ref (q 4) :: rest)) :=
  va_zald hx hb hK hP 4 2 rfl rfl hin hdg kk
theorem ml_cmin_e {i : Int32} {f : Nat → Bool} (hf : m_cmin z = f) (hx : p.tables.exec = Jvm.exec) (hb : c.code = cc) (hK : va_K D clA (tys3 cI cJ cZ) s) (hP : m_W D q cI cJ cZ z H) (hin : vp_in i 20) (hdg : decode cc pc = .ok (.baload, 1)) (kk : W p l e R s m args below meth c H locs cells slots Q (F0 m (pc + 1) ls (.int (bb (f i.toNatClampNeg)) :: rest))) : W p l e R s m args below meth c H locs cells slots Q (F0 m pc ls (.int i :: .ref (q 4) :: rest)) := by
  subst hf
  exact ml_cmin hx hb hK hP hin hdg kk
theorem ms_cmin {i : Int32} (v : Bool) (hq : m_inj q) (hS : va_S (m_qs q) H0 H locs) (hx : p.tables.exec = Jvm.exec) (hb : c.code = cc) (hK : va_K D clA (tys3 cI cJ cZ) s) (hP : m_W D q cI cJ cZ z H) (hin : vp_in i 20) (hdg : decode cc pc = .ok (.bastore, 1)) (kk : ∀ (H1 : Heap) (locs1 : List Loc), m_W D q cI cJ cZ (m_cmin_s z (updB (m_cmin z) i.toNatClampNeg v)) H1 → va_S (m_qs q) H0 H1 locs1 → W p l e R s m args below meth c H1 locs1 cells slots Q (F0 m (pc + 1) ls rest)) : W p l e R s m args below meth c H locs cells slots Q (F0 m pc ls (.int (bb v) :: .int i :: .ref (q 4) :: rest)) :=
  va_zast hx hb hK hP (m_D hq z) hS 4 2 rfl rfl hin hdg (fun H1 locs1 a _ b => kk H1 locs1 (by rw [updB_eq] at a; exact a) b)
theorem ms_cmin_e {i : Int32} (v : Bool) {f : Nat → Bool} (hf : m_cmin z = f) (hq : m_inj q) (hS : va_S (m_qs q) H0 H locs) (hx : p.tables.exec = Jvm.exec) (hb : c.code = cc) (hK : va_K D clA (tys3 cI cJ cZ) s) (hP : m_W D q cI cJ cZ z H) (hin : vp_in i 20) (hdg : decode cc pc = .ok (.bastore, 1)) (kk : ∀ (H1 : Heap) (locs1 : List Loc), m_W D q cI cJ cZ (m_cmin_s z (updB f i.toNatClampNeg v)) H1 → va_S (m_qs q) H0 H1 locs1 → W p l e R s m args below meth c H1 locs1 cells slots Q (F0 m (pc + 1) ls rest)) : W p l e R s m args below meth c H locs cells slots Q (F0 m pc ls (.int (bb v) :: .int i :: .ref (q 4) :: rest)) := by
  subst hf
  exact ms_cmin v hq hS hx hb hK hP hin hdg kk
theorem ml_outp {i : Int32} (hx : p.tables.exec = Jvm.exec) (hb : c.code = cc) (hK : va_K D clA (tys3 cI cJ cZ) s) (hP : m_W D q cI cJ cZ z H) (hin : vp_in i 40) (hdg : decode cc pc = .ok (.laload, 1)) (kk : W p l e R s m args below meth c H locs cells slots Q (F0 m (pc + 1) ls (.long (m_outp z i.toNatClampNeg) :: rest))) : W p l e R s m args below meth c H locs cells slots Q (F0 m pc ls (.int i :: .ref (q 5) :: rest)) :=
  va_lald hx hb hK hP 5 1 rfl rfl hin hdg kk
theorem ml_outp_e {i : Int32} {f : Nat → Int64} (hf : m_outp z = f) (hx : p.tables.exec = Jvm.exec) (hb : c.code = cc) (hK : va_K D clA (tys3 cI cJ cZ) s) (hP : m_W D q cI cJ cZ z H) (hin : vp_in i 40) (hdg : decode cc pc = .ok (.laload, 1)) (kk : W p l e R s m args below meth c H locs cells slots Q (F0 m (pc + 1) ls (.long (f i.toNatClampNeg) :: rest))) : W p l e R s m args below meth c H locs cells slots Q (F0 m pc ls (.int i :: .ref (q 5) :: rest)) := by
  subst hf
  exact ml_outp hx hb hK hP hin hdg kk
theorem ms_outp {i : Int32} (v : Int64) (hq : m_inj q) (hS : va_S (m_qs q) H0 H locs) (hx : p.tables.exec = Jvm.exec) (hb : c.code = cc) (hK : va_K D clA (tys3 cI cJ cZ) s) (hP : m_W D q cI cJ cZ z H) (hin : vp_in i 40) (hdg : decode cc pc = .ok (.lastore, 1)) (kk : ∀ (H1 : Heap) (locs1 : List Loc), m_W D q cI cJ cZ (m_outp_s z (vp_updL (m_outp z) i.toNatClampNeg v)) H1 → va_S (m_qs q) H0 H1 locs1 → W p l e R s m args below meth c H1 locs1 cells slots Q (F0 m (pc + 1) ls rest)) : W p l e R s m args below meth c H locs cells slots Q (F0 m pc ls (.long v :: .int i :: .ref (q 5) :: rest)) :=
  va_last hx hb hK hP (m_D hq z) hS 5 1 rfl rfl hin hdg (fun H1 locs1 a _ b => kk H1 locs1 a b)
theorem ms_outp_e {i : Int32} (v : Int64) {f : Nat → Int64} (hf : m_outp z = f) (hq : m_inj q) (hS : va_S (m_qs q) H0 H locs) (hx : p.tables.exec = Jvm.exec) (hb : c.code = cc) (hK : va_K D clA (tys3 cI cJ cZ) s) (hP : m_W D q cI cJ cZ z H) (hin : vp_in i 40) (hdg : decode cc pc = .ok (.lastore, 1)) (kk : ∀ (H1 : Heap) (locs1 : List Loc), m_W D q cI cJ cZ (m_outp_s z (vp_updL f i.toNatClampNeg v)) H1 → va_S (m_qs q) H0 H1 locs1 → W p l e R s m args below meth c H1 locs1 cells slots Q (F0 m (pc + 1) ls rest)) : W p l e R s m args below meth c H locs cells slots Q (F0 m pc ls (.long v :: .int i :: .ref (q 5) :: rest)) := by
  subst hf
  exact ms_outp v hq hS hx hb hK hP hin hdg kk
theorem ml_loc {i : Int32} (hx : p.tables.exec = Jvm.exec) (hb : c.code = cc) (hK : va_K D clA (tys3 cI cJ cZ) s) (hP : m_W D q cI cJ cZ z H) (hin : vp_in i 40) (hdg : decode cc pc = .ok (.iaload, 1)) (kk : W p l e R s m args below meth c H locs cells slots Q (F0 m (pc + 1) ls (.int (m_loc z i.toNatClampNeg) :: rest))) : W p l e R s m args below meth c H locs cells slots Q (F0 m pc ls (.int i :: .ref (q 6) :: rest)) :=
  va_iald hx hb hK hP 6 0 rfl rfl hin hdg kk
theorem ml_loc_e {i : Int32} {f : Nat → Int32} (hf : m_loc z = f) (hx : p.tables.exec = Jvm.exec) (hb : c.code = cc) (hK : va_K D clA (tys3 cI cJ cZ) s) (hP : m_W D q cI cJ cZ z H) (hin : vp_in i 40) (hdg : decode cc pc = .ok (.iaload, 1)) (kk : W p l e R s m args below meth c H locs cells slots Q (F0 m (pc + 1) ls (.int (f i.toNatClampNeg) :: rest))) : W p l e R s m args below meth c H locs cells slots Q (F0 m pc ls (.int i :: .ref (q 6) :: rest)) := by
  subst hf
  exact ml_loc hx hb hK hP hin hdg kk
theorem ms_loc {i : Int32} (v : Int32) (hq : m_inj q) (hS : va_S (m_qs q) H0 H locs) (hx : p.tables.exec = Jvm.exec) (hb : c.code = cc) (hK : va_K D clA (tys3 cI cJ cZ) s) (hP : m_W D q cI cJ cZ z H) (hin : vp_in i 40) (hdg : decode cc pc = .ok (.iastore, 1)) (kk : ∀ (H1 : Heap) (locs1 : List Loc), m_W D q cI cJ cZ (m_loc_s z (upd (m_loc z) i.toNatClampNeg v)) H1 → va_S (m_qs q) H0 H1 locs1 → W p l e R s m args below meth c H1 locs1 cells slots Q (F0 m (pc + 1) ls rest)) : W p l e R s m args below meth c H locs cells slots Q (F0 m pc ls (.int v :: .int i :: .ref (q 6) :: rest)) :=
  va_iast hx hb hK hP (m_D hq z) hS 6 0 rfl rfl hin hdg (fun H1 locs1 a _ b => kk H1 locs1 a b)
theorem ms_loc_e {i : Int32} (v : Int32) {f : Nat → Int32} (hf : m_loc z = f) (hq : m_inj q) (hS : va_S (m_qs q) H0 H locs) (hx : p.tables.exec = Jvm.exec) (hb : c.code = cc) (hK : va_K D clA (tys3 cI cJ cZ) s) (hP : m_W D q cI cJ cZ z H) (hin : vp_in i 40) (hdg : decode cc pc = .ok (.iastore, 1)) (kk : ∀ (H1 : Heap) (locs1 : List Loc), m_W D q cI cJ cZ (m_loc_s z (upd f i.toNatClampNeg v)) H1 → va_S (m_qs q) H0 H1 locs1 → W p l e R s m args below meth c H1 locs1 cells slots Q (F0 m (pc + 1) ls rest)) : W p l e R s m args below meth c H locs cells slots Q (F0 m pc ls (.int v :: .int i :: .ref (q 6) :: rest)) := by
  subst hf
  exact ms_loc v hq hS hx hb hK hP hin hdg kk
theorem ml_ops {i : Int32} (hx : p.tables.exec = Jvm.exec) (hb : c.code = cc) (hK : va_K D clA (tys3 cI cJ cZ) s) (hP : m_W D q cI cJ cZ z H) (hin : vp_in i 40) (hdg : decode cc pc = .ok (.iaload, 1)) (kk : W p l e R s m args below meth c H locs cells slots Q (F0 m (pc + 1) ls (.int (m_ops z i.toNatClampNeg) :: rest))) : W p l e R s m args below meth c H locs cells slots Q (F0 m pc ls (.int i :: .ref (q 7) :: rest)) :=
  va_iald hx hb hK hP 7 0 rfl rfl hin hdg kk
theorem ml_ops_e {i : Int32} {f : Nat → Int32} (hf : m_ops z = f) (hx : p.tables.exec = Jvm.exec) (hb : c.code = cc) (hK : va_K D clA (tys3 cI cJ cZ) s) (hP : m_W D q cI cJ cZ z H) (hin : vp_in i 40) (hdg : decode cc pc = .ok (.iaload, 1)) (kk : W p l e R s m args below meth c H locs cells slots Q (F0 m (pc + 1) ls (.int (f i.toNatClampNeg) :: rest))) : W p l e R s m args below meth c H locs cells slots Q (F0 m pc ls (.int i :: .ref (q 7) :: rest)) := by
  subst hf
  exact ml_ops hx hb hK hP hin hdg kk
theorem ms_ops {i : Int32} (v : Int32) (hq : m_inj q) (hS : va_S (m_qs q) H0 H locs) (hx : p.tables.exec = Jvm.exec) (hb : c.code = cc) (hK : va_K D clA (tys3 cI cJ cZ) s) (hP : m_W D q cI cJ cZ z H) (hin : vp_in i 40) (hdg : decode cc pc = .ok (.iastore, 1)) (kk : ∀ (H1 : Heap) (locs1 : List Loc), m_W D q cI cJ cZ (m_ops_s z (upd (m_ops z) i.toNatClampNeg v)) H1 → va_S (m_qs q) H0 H1 locs1 → W p l e R s m args below meth c H1 locs1 cells slots Q (F0 m (pc + 1) ls rest)) : W p l e R s m args below meth c H locs cells slots Q (F0 m pc ls (.int v :: .int i :: .ref (q 7) :: rest)) :=
  va_iast hx hb hK hP (m_D hq z) hS 7 0 rfl rfl hin hdg (fun H1 locs1 a _ b => kk H1 locs1 a b)
theorem ms_ops_e {i : Int32} (v : Int32) {f : Nat → Int32} (hf : m_ops z = f) (hq : m_inj q) (hS : va_S (m_qs q) H0 H locs) (hx : p.tables.exec = Jvm.exec) (hb : c.code = cc) (hK : va_K D clA (tys3 cI cJ cZ) s) (hP : m_W D q cI cJ cZ z H) (hin : vp_in i 40) (hdg : decode cc pc = .ok (.iastore, 1)) (kk : ∀ (H1 : Heap) (locs1 : List Loc), m_W D q cI cJ cZ (m_ops_s z (upd f i.toNatClampNeg v)) H1 → va_S (m_qs q) H0 H1 locs1 → W p l e R s m args below meth c H1 locs1 cells slots Q (F0 m (pc + 1) ls rest)) : W p l e R s m args below meth c H locs cells slots Q (F0 m pc ls (.int v :: .int i :: .ref (q 7) :: rest)) := by
  subst hf
  exact ms_ops v hq hS hx hb hK hP hin hdg kk
theorem ml_dat {i : Int32} (hx : p.tables.exec = Jvm.exec) (hb : c.code = cc) (hK : va_K D clA (tys3 cI cJ cZ) s) (hP : m_W D q cI cJ cZ z H) (hin : vp_in i 40) (hdg : decode cc pc = .ok (.iaload, 1)) (kk : W p l e R s m args below meth c H locs cells slots Q (F0 m (pc + 1) ls (.int (m_dat z i.toNatClampNeg) :: rest))) : W p l e R s m args below meth c H locs cells slots Q (F0 m pc ls (.int i :: .ref (q 8) :: rest)) :=
  va_iald hx hb hK hP 8 0 rfl rfl hin hdg kk
theorem ml_dat_e {i : Int32} {f : Nat → Int32} (hf : m_dat z = f) (hx : p.tables.exec = Jvm.exec) (hb : c.code = cc) (hK : va_K D clA (tys3 cI cJ cZ) s) (hP : m_W D q cI cJ cZ z H) (hin : vp_in i 40) (hdg : decode cc pc = .ok (.iaload, 1)) (kk : W p l e R s m args below meth c H locs cells slots Q (F0 m (pc + 1) ls (.int (f i.toNatClampNeg) :: rest))) : W p l e R s m args below meth c H locs cells slots Q (F0 m pc ls (.int i :: .ref (q 8) :: rest)) := by
  subst hf
  exact ml_dat hx hb hK hP hin hdg kk
theorem ms_dat {i : Int32} (v : Int32) (hq : m_inj q) (hS : va_S (m_qs q) H0 H locs) (hx : p.tables.exec = Jvm.exec) (hb : c.code = cc) (hK : va_K D clA (tys3 cI cJ cZ) s) (hP : m_W D q cI cJ cZ z H) (hin : vp_in i 40) (hdg : decode cc pc = .ok (.iastore, 1)) (kk : ∀ (H1 : Heap) (locs1 : List Loc), m_W D q cI cJ cZ (m_dat_s z (upd (m_dat z) i.toNatClampNeg v)) H1 → va_S (m_qs q) H0 H1 locs1 → W p l e R s m args below meth c H1 locs1 cells slots Q (F0 m (pc + 1) ls rest)) : W p l e R s m args below meth c H locs cells slots Q (F0 m pc ls (.int v :: .int i :: .ref (q 8) :: rest)) :=
  va_iast hx hb hK hP (m_D hq z) hS 8 0 rfl rfl hin hdg (fun H1 locs1 a _ b => kk H1 locs1 a b)
theorem ms_dat_e {i : Int32} (v : Int32) {f : Nat → Int32} (hf : m_dat z = f) (hq : m_inj q) (hS : va_S (m_qs q) H0 H locs) (hx : p.tables.exec = Jvm.exec) (hb : c.code = cc) (hK : va_K D clA (tys3 cI cJ cZ) s) (hP : m_W D q cI cJ cZ z H) (hin : vp_in i 40) (hdg : decode cc pc = .ok (.iastore, 1)) (kk : ∀ (H1 : Heap) (locs1 : List Loc), m_W D q cI cJ cZ (m_dat_s z (upd f i.toNatClampNeg v)) H1 → va_S (m_qs q) H0 H1 locs1 → W p l e R s m args below meth c H1 locs1 cells slots Q (F0 m (pc + 1) ls rest)) : W p l e R s m args below meth c H locs cells slots Q (F0 m pc ls (.int v :: .int i :: .ref (q 8) :: rest)) := by
  subst hf
  exact ms_dat v hq hS hx hb hK hP hin hdg kk
theorem ml_foll {i : Int32} (hx : p.tables.exec = Jvm.exec) (hb : c.code = cc) (hK : va_K D clA (tys3 cI cJ cZ) s) (hP : m_W D q cI cJ cZ z H) (hin : vp_in i 40) (hdg : decode cc pc = .ok (.iaload, 1)) (kk : W p l e R s m args below meth c H locs cells slots Q (F0 m (pc + 1) ls (.int (m_foll z i.toNatClampNeg) :: rest))) : W p l e R s m args below meth c H locs cells slots Q (F0 m pc ls (.int i :: .ref (q 9) :: rest)) :=
  va_iald hx hb hK hP 9 0 rfl rfl hin hdg kk
theorem ml_foll_e {i : Int32} {f : Nat → Int32} (hf : m_foll z = f) (hx : p.tables.exec = Jvm.exec) (hb : c.code = cc) (hK : va_K D clA (tys3 cI cJ cZ) s) (hP : m_W D q cI cJ cZ z H) (hin : vp_in i 40) (hdg : decode cc pc = .ok (.iaload, 1)) (kk : W p l e R s m args below meth c H locs cells slots Q (F0 m (pc + 1) ls (.int (f i.toNatClampNeg) :: rest))) : W p l e R s m args below meth c H locs cells slots Q (F0 m pc ls (.int i :: .ref (q 9) :: rest)) := by
  subst hf
  exact ml_foll hx hb hK hP hin hdg kk
theorem ms_foll {i : Int32} (v : Int32) (hq : m_inj q) (hS : va_S (m_qs q) H0 H locs) (hx : p.tables.exec = Jvm.exec) (hb : c.code = cc) (hK : va_K D clA (tys3 cI cJ cZ) s) (hP : m_W D q cI cJ cZ z H) (hin : vp_in i 40) (hdg : decode cc pc = .ok (.iastore, 1)) (kk : ∀ (H1 : Heap) (locs1 : List Loc), m_W D q cI cJ cZ (m_foll_s z (upd (m_foll z) i.toNatClampNeg v)) H1 → va_S (m_qs q) H0 H1 locs1 → W p l e R s m args below meth c H1 locs1 cells slots Q (F0 m (pc + 1) ls rest)) : W p l e R s m args below meth c H locs cells slots Q (F0 m pc ls (.int v :: .int i :: .ref (q 9) :: rest)) :=
  va_iast hx hb hK hP (m_D hq z) hS 9 0 rfl rfl hin hdg (fun H1 locs1 a _ b => kk H1 locs1 a b)
theorem ms_foll_e {i : Int32} (v : Int32) {f : Nat → Int32} (hf : m_foll z = f) (hq : m_inj q) (hS : va_S (m_qs q) H0 H locs) (hx : p.tables.exec = Jvm.exec) (hb : c.code = cc) (hK : va_K D clA (tys3 cI cJ cZ) s) (hP : m_W D q cI cJ cZ z H) (hin : vp_in i 40) (hdg : decode cc pc = .ok (.iastore, 1)) (kk : ∀ (H1 : Heap) (locs1 : List Loc), m_W D q cI cJ cZ (m_foll_s z (upd f i.toNatClampNeg v)) H1 → va_S (m_qs q) H0 H1 locs1 → W p l e R s m args below meth c H1 locs1 cells slots Q (F0 m (pc + 1) ls rest)) : W p l e R s m args below meth c H locs cells slots Q (F0 m pc ls (.int v :: .int i :: .ref (q 9) :: rest)) := by
  subst hf
  exact ms_foll v hq hS hx hb hK hP hin hdg kk
theorem ml_resv {i : Int32} (hx : p.tables.exec = Jvm.exec) (hb : c.code = cc) (hK : va_K D clA (tys3 cI cJ cZ) s) (hP : m_W D q cI cJ cZ z H) (hin : vp_in i 200) (hdg : decode cc pc = .ok (.baload, 1)) (kk : W p l e R s m args below meth c H locs cells slots Q (F0 m (pc + 1) ls (.int (bb (m_resv z i.toNatClampNeg)) :: rest))) : W p l e R s m args below meth c H locs cells slots Q (F0 m pc ls (.int i :: .ref (q 10) :: rest)) :=
  va_zald hx hb hK hP 10 2 rfl rfl hin hdg kk
theorem ml_resv_e {i : Int32} {f : Nat → Bool} (hf : m_resv z = f) (hx : p.tables.exec = Jvm.exec) (hb : c.code = cc) (hK : va_K D clA (tys3 cI cJ cZ) s) (hP : m_W D q cI cJ cZ z H) (hin : vp_in i 200) (hdg : decode cc pc = .ok (.baload, 1)) (kk : W p l e R s m args below meth c H locs cells slots Q (F0 m (pc + 1) ls (.int (bb (f i.toNatClampNeg)) :: rest))) : W p l e R s m args below meth c H locs cells slots Q (F0 m pc ls (.int i :: .ref (q 10) :: rest)) := by
  subst hf
  exact ml_resv hx hb hK hP hin hdg kk
theorem ms_resv {i : Int32} (v : Bool) (hq : m_inj q) (hS : va_S (m_qs q) H0 H locs) (hx : p.tables.exec = Jvm.exec) (hb : c.code = cc) (hK : va_K D clA (tys3 cI cJ cZ) s) (hP : m_W D q cI cJ cZ z H) (hin : vp_in i 200) (hdg : decode cc pc = .ok (.bastore, 1)) (kk : ∀ (H1 : Heap) (locs1 : List Loc), m_W D q cI cJ cZ (m_resv_s z (updB (m_resv z) i.toNatClampNeg v)) H1 → va_S (m_qs q) H0 H1 locs1 → W p l e R s m args below meth c H1 locs1 cells slots Q (F0 m (pc + 1) ls rest)) : W p l e R s m args below meth c H locs cells slots Q (F0 m pc ls (.int (bb v) :: .int i :: .ref (q 10) :: rest)) :=
  va_zast hx hb hK hP (m_D hq z) hS 10 2 rfl rfl hin hdg (fun H1 locs1 a _ b => kk H1 locs1 (by rw [updB_eq] at a; exact a) b)
theorem ms_resv_e {i : Int32} (v : Bool) {f : Nat → Bool} (hf : m_resv z = f) (hq : m_inj q) (hS : va_S (m_qs q) H0 H locs) (hx : p.tables.exec = Jvm.exec) (hb : c.code = cc) (hK : va_K D clA (tys3 cI cJ cZ) s) (hP : m_W D q cI cJ cZ z H) (hin : vp_in i 200) (hdg : decode cc pc = .ok (.bastore, 1)) (kk : ∀ (H1 : Heap) (locs1 : List Loc), m_W D q cI cJ cZ (m_resv_s z (updB f i.toNatClampNeg v)) H1 → va_S (m_qs q) H0 H1 locs1 → W p l e R s m args below meth c H1 locs1 cells slots Q (F0 m (pc + 1) ls rest)) : W p l e R s m args below meth c H locs cells slots Q (F0 m pc ls (.int (bb v) :: .int i :: .ref (q 10) :: rest)) := by
  subst hf
  exact ms_resv v hq hS hx hb hK hP hin hdg kk
theorem ml_plc {i : Int32} (hx : p.tables.exec = Jvm.exec) (hb : c.code = cc) (hK : va_K D clA (tys3 cI cJ cZ) s) (hP : m_W D q cI cJ cZ z H) (hin : vp_in i 20) (hdg : decode cc pc = .ok (.iaload, 1)) (kk : W p l e R s m args below meth c H locs cells slots Q (F0 m (pc + 1) ls (.int (m_plc z i.toNatClampNeg) :: rest))) : W p l e R s m args below meth c H locs cells slots Q (F0 m pc ls (.int i :: .ref (q 11) :: rest)) :=
  va_iald hx hb hK hP 11 0 rfl rfl hin hdg kk
theorem ml_plc_e {i : Int32} {f : Nat → Int32} (hf : m_plc z = f) (hx : p.tables.exec = Jvm.exec) (hb : c.code = cc) (hK : va_K D clA (tys3 cI cJ cZ) s) (hP : m_W D q cI cJ cZ z H) (hin : vp_in i 20) (hdg : decode cc pc = .ok (.iaload, 1)) (kk : W p l e R s m args below meth c H locs cells slots Q (F0 m (pc + 1) ls (.int (f i.toNatClampNeg) :: rest))) : W p l e R s m args below meth c H locs cells slots Q (F0 m pc ls (.int i :: .ref (q 11) :: rest)) := by
  subst hf
  exact ml_plc hx hb hK hP hin hdg kk
theorem ms_plc {i : Int32} (v : Int32) (hq : m_inj q) (hS : va_S (m_qs q) H0 H locs) (hx : p.tables.exec = Jvm.exec) (hb : c.code = cc) (hK : va_K D clA (tys3 cI cJ cZ) s) (hP : m_W D q cI cJ cZ z H) (hin : vp_in i 20) (hdg : decode cc pc = .ok (.iastore, 1)) (kk : ∀ (H1 : Heap) (locs1 : List Loc), m_W D q cI cJ cZ (m_plc_s z (upd (m_plc z) i.toNatClampNeg v)) H1 → va_S (m_qs q) H0 H1 locs1 → W p l e R s m args below meth c H1 locs1 cells slots Q (F0 m (pc + 1) ls rest)) : W p l e R s m args below meth c H locs cells slots Q (F0 m pc ls (.int v :: .int i :: .ref (q 11) :: rest)) :=
  va_iast hx hb hK hP (m_D hq z) hS 11 0 rfl rfl hin hdg (fun H1 locs1 a _ b => kk H1 locs1 a b)
theorem ms_plc_e {i : Int32} (v : Int32) {f : Nat → Int32} (hf : m_plc z = f) (hq : m_inj q) (hS : va_S (m_qs q) H0 H locs) (hx : p.tables.exec = Jvm.exec) (hb : c.code = cc) (hK : va_K D clA (tys3 cI cJ cZ) s) (hP : m_W D q cI cJ cZ z H) (hin : vp_in i 20) (hdg : decode cc pc = .ok (.iastore, 1)) (kk : ∀ (H1 : Heap) (locs1 : List Loc), m_W D q cI cJ cZ (m_plc_s z (upd f i.toNatClampNeg v)) H1 → va_S (m_qs q) H0 H1 locs1 → W p l e R s m args below meth c H1 locs1 cells slots Q (F0 m (pc + 1) ls rest)) : W p l e R s m args below meth c H locs cells slots Q (F0 m pc ls (.int v :: .int i :: .ref (q 11) :: rest)) := by
  subst hf
  exact ms_plc v hq hS hx hb hK hP hin hdg kk
theorem ml_held {i : Int32} (hx : p.tables.exec = Jvm.exec) (hb : c.code = cc) (hK : va_K D clA (tys3 cI cJ cZ) s) (hP : m_W D q cI cJ cZ z H) (hin : vp_in i 200) (hdg : decode cc pc = .ok (.baload, 1)) (kk : W p l e R s m args below meth c H locs cells slots Q (F0 m (pc + 1) ls (.int (bb (m_held z i.toNatClampNeg)) :: rest))) : W p l e R s m args below meth c H locs cells slots Q (F0 m pc ls (.int i :: .ref (q 12) :: rest)) :=
  va_zald hx hb hK hP 12 2 rfl rfl hin hdg kk
theorem ml_held_e {i : Int32} {f : Nat → Bool} (hf : m_held z = f) (hx : p.tables.exec = Jvm.exec) (hb : c.code = cc) (hK : va_K D clA (tys3 cI cJ cZ) s) (hP : m_W D q cI cJ cZ z H) (hin : vp_in i 200) (hdg : decode cc pc = .ok (.baload, 1)) (kk : W p l e R s m args below meth c H locs cells slots Q (F0 m (pc + 1) ls (.int (bb (f i.toNatClampNeg)) :: rest))) : W p l e R s m args below meth c H locs cells slots Q (F0 m pc ls (.int i :: .ref (q 12) :: rest)) := by
  subst hf
  exact ml_held hx hb hK hP hin hdg kk
theorem ms_held {i : Int32} (v : Bool) (hq : m_inj q) (hS : va_S (m_qs q) H0 H locs) (hx : p.tables.exec = Jvm.exec) (hb : c.code = cc) (hK : va_K D clA (tys3 cI cJ cZ) s) (hP : m_W D q cI cJ cZ z H) (hin : vp_in i 200) (hdg : decode cc pc = .ok (.bastore, 1)) (kk : ∀ (H1 : Heap) (locs1 : List Loc), m_W D q cI cJ cZ (m_held_s z (updB (m_held z) i.toNatClampNeg v)) H1 → va_S (m_qs q) H0 H1 locs1 → W p l e R s m args below meth c H1 locs1 cells slots Q (F0 m (pc + 1) ls rest)) : W p l e R s m args below meth c H locs cells slots Q (F0 m pc ls (.int (bb v) :: .int i :: .ref (q 12) :: rest)) :=
  va_zast hx hb hK hP (m_D hq z) hS 12 2 rfl rfl hin hdg (fun H1 locs1 a _ b => kk H1 locs1 (by rw [updB_eq] at a; exact a) b)
theorem ms_held_e {i : Int32} (v : Bool) {f : Nat → Bool} (hf : m_held z = f) (hq : m_inj q) (hS : va_S (m_qs q) H0 H locs) (hx : p.tables.exec = Jvm.exec) (hb : c.code = cc) (hK : va_K D clA (tys3 cI cJ cZ) s) (hP : m_W D q cI cJ cZ z H) (hin : vp_in i 200) (hdg : decode cc pc = .ok (.bastore, 1)) (kk : ∀ (H1 : Heap) (locs1 : List Loc), m_W D q cI cJ cZ (m_held_s z (updB f i.toNatClampNeg v)) H1 → va_S (m_qs q) H0 H1 locs1 → W p l e R s m args below meth c H1 locs1 cells slots Q (F0 m (pc + 1) ls rest)) : W p l e R s m args below meth c H locs cells slots Q (F0 m pc ls (.int (bb v) :: .int i :: .ref (q 12) :: rest)) := by
  subst hf
  exact ms_held v hq hS hx hb hK hP hin hdg kk
theorem ml_ats {i : Int32} (hx : p.tables.exec = Jvm.exec) (hb : c.code = cc) (hK : va_K D clA (tys3 cI cJ cZ) s) (hP : m_W D q cI cJ cZ z H) (hin : vp_in i 40) (hdg : decode cc pc = .ok (.iaload, 1)) (kk : W p l e R s m args below meth c H locs cells slots Q (F0 m (pc + 1) ls (.int (m_ats z i.toNatClampNeg) :: rest))) : W p l e R s m args below meth c H locs cells slots Q (F0 m pc ls (.int i :: .ref (q 13) :: rest)) :=
  va_iald hx hb hK hP 13 0 rfl rfl hin hdg kk
theorem ml_ats_e {i : Int32} {f : Nat → Int32} (hf : m_ats z = f) (hx : p.tables.exec = Jvm.exec) (hb : c.code = cc) (hK : va_K D clA (tys3 cI cJ cZ) s) (hP : m_W D q cI cJ cZ z H) (hin : vp_in i 40) (hdg : decode cc pc = .ok (.iaload, 1)) (kk : W p l e R s m args below meth c H locs cells slots Q (F0 m (pc + 1) ls (.int (f i.toNatClampNeg) :: rest))) : W p l e R s m args below meth c H locs cells slots Q (F0 m pc ls (.int i :: .ref (q 13) :: rest)) := by
  subst hf
  exact ml_ats hx hb hK hP hin hdg kk
theorem ms_ats {i : Int32} (v : Int32) (hq : m_inj q) (hS : va_S (m_qs q) H0 H locs) (hx : p.tables.exec = Jvm.exec) (hb : c.code = cc) (hK : va_K D clA (tys3 cI cJ cZ) s) (hP : m_W D q cI cJ cZ z H) (hin : vp_in i 40) (hdg : decode cc pc = .ok (.iastore, 1)) (kk : ∀ (H1 : Heap) (locs1 : List Loc), m_W D q cI cJ cZ (m_ats_s z (upd (m_ats z) i.toNatClampNeg v)) H1 → va_S (m_qs q) H0 H1 locs1 → W p l e R s m args below meth c H1 locs1 cells slots Q (F0 m (pc + 1) ls rest)) : W p l e R s m args below meth c H locs cells slots Q (F0 m pc ls (.int v :: .int i :: .ref (q 13) :: rest)) :=
  va_iast hx hb hK hP (m_D hq z) hS 13 0 rfl rfl hin hdg (fun H1 locs1 a _ b => kk H1 locs1 a b)
theorem ms_ats_e {i : Int32} (v : Int32) {f : Nat → Int32} (hf : m_ats z = f) (hq : m_inj q) (hS : va_S (m_qs q) H0 H locs) (hx : p.tables.exec = Jvm.exec) (hb : c.code = cc) (hK : va_K D clA (tys3 cI cJ cZ) s) (hP : m_W D q cI cJ cZ z H) (hin : vp_in i 40) (hdg : decode cc pc = .ok (.iastore, 1)) (kk : ∀ (H1 : Heap) (locs1 : List Loc), m_W D q cI cJ cZ (m_ats_s z (upd f i.toNatClampNeg v)) H1 → va_S (m_qs q) H0 H1 locs1 → W p l e R s m args below meth c H1 locs1 cells slots Q (F0 m (pc + 1) ls rest)) : W p l e R s m args below meth c H locs cells slots Q (F0 m pc ls (.int v :: .int i :: .ref (q 13) :: rest)) := by
  subst hf
  exact ms_ats v hq hS hx hb hK hP hin hdg kk
theorem ml_writ {i : Int32} (hx : p.tables.exec = Jvm.exec) (hb : c.code = cc) (hK : va_K D clA (tys3 cI cJ cZ) s) (hP : m_W D q cI cJ cZ z H) (hin : vp_in i 40) (hdg : decode cc pc = .ok (.laload, 1)) (kk : W p l e R s m args below meth c H locs cells slots Q (F0 m (pc + 1) ls (.long (m_writ z i.toNatClampNeg) :: rest))) : W p l e R s m args below meth c H locs cells slots Q (F0 m pc ls (.int i :: .ref (q 14) :: rest)) :=
  va_lald hx hb hK hP 14 1 rfl rfl hin hdg kk
theorem ml_writ_e {i : Int32} {f : Nat → Int64} (hf : m_writ z = f) (hx : p.tables.exec = Jvm.exec) (hb : c.code = cc) (hK : va_K D clA (tys3 cI cJ cZ) s) (hP : m_W D q cI cJ cZ z H) (hin : vp_in i 40) (hdg : decode cc pc = .ok (.laload, 1)) (kk : W p l e R s m args below meth c H locs cells slots Q (F0 m (pc + 1) ls (.long (f i.toNatClampNeg) :: rest))) : W p l e R s m args below meth c H locs cells slots Q (F0 m pc ls (.int i :: .ref (q 14) :: rest)) := by
  subst hf
  exact ml_writ hx hb hK hP hin hdg kk
theorem ms_writ {i : Int32} (v : Int64) (hq : m_inj q) (hS : va_S (m_qs q) H0 H locs) (hx : p.tables.exec = Jvm.exec) (hb : c.code = cc) (hK : va_K D clA (tys3 cI cJ cZ) s) (hP : m_W D q cI cJ cZ z H) (hin : vp_in i 40) (hdg : decode cc pc = .ok (.lastore, 1)) (kk : ∀ (H1 : Heap) (locs1 : List Loc), m_W D q cI cJ cZ (m_writ_s z (vp_updL (m_writ z) i.toNatClampNeg v)) H1 → va_S (m_qs q) H0 H1 locs1 → W p l e R s m args below meth c H1 locs1 cells slots Q (F0 m (pc + 1) ls rest)) : W p l e R s m args below meth c H locs cells slots Q (F0 m pc ls (.long v :: .int i :: .ref (q 14) :: rest)) :=
  va_last hx hb hK hP (m_D hq z) hS 14 1 rfl rfl hin hdg (fun H1 locs1 a _ b => kk H1 locs1 a b)
theorem ms_writ_e {i : Int32} (v : Int64) {f : Nat → Int64} (hf : m_writ z = f) (hq : m_inj q) (hS : va_S (m_qs q) H0 H locs) (hx : p.tables.exec = Jvm.exec) (hb : c.code = cc) (hK : va_K D clA (tys3 cI cJ cZ) s) (hP : m_W D q cI cJ cZ z H) (hin : vp_in i 40) (hdg : decode cc pc = .ok (.lastore, 1)) (kk : ∀ (H1 : Heap) (locs1 : List Loc), m_W D q cI cJ cZ (m_writ_s z (vp_updL f i.toNatClampNeg v)) H1 → va_S (m_qs q) H0 H1 locs1 → W p l e R s m args below meth c H1 locs1 cells slots Q (F0 m (pc + 1) ls rest)) : W p l e R s m args below meth c H locs cells slots Q (F0 m pc ls (.long v :: .int i :: .ref (q 14) :: rest)) := by
  subst hf
  exact ms_writ v hq hS hx hb hK hP hin hdg kk
end
