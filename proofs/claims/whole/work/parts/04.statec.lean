/-! state of side c -/
abbrev SC : Type := ((Nat → Int32) × (Nat → Int64) × (Nat → Bool)) × ((Nat → Int64) × (Nat → Bool) × Int32 × Int32) × ((Nat → Int64) × Int32) × (Int64 × Bool × Int32 × Int32 × Int64) × (Int64 × Int64 × Bool × Bool) × ((Nat → Int32) × (Nat → Int32) × (Nat → Int32) × (Nat → Int32) × (Nat → Int32) × (Nat → Int32) × (Nat → Int32) × (Nat → Int32) × (Nat → Bool) × (Nat → Bool) × Int32)
def c_codes (z : SC) : (Nat → Int32) := z.1.1
def c_vals (z : SC) : (Nat → Int64) := z.1.2.1
def c_dmin (z : SC) : (Nat → Bool) := z.1.2.2
def c_cvals (z : SC) : (Nat → Int64) := z.2.1.1
def c_cmin (z : SC) : (Nat → Bool) := z.2.1.2.1
def c_cfirst (z : SC) : Int32 := z.2.1.2.2.1
def c_ccount (z : SC) : Int32 := z.2.1.2.2.2
def c_words (z : SC) : (Nat → Int64) := z.2.2.1.1
def c_pcount (z : SC) : Int32 := z.2.2.1.2
def c_dist (z : SC) : Int64 := z.2.2.2.1.1
def c_distm (z : SC) : Bool := z.2.2.2.1.2.1
def c_nxt (z : SC) : Int32 := z.2.2.2.1.2.2.1
def c_cause (z : SC) : Int32 := z.2.2.2.1.2.2.2.1
def c_time (z : SC) : Int64 := z.2.2.2.1.2.2.2.2
def c_upper (z : SC) : Int64 := z.2.2.2.2.1.1
def c_lower (z : SC) : Int64 := z.2.2.2.2.1.2.1
def c_amin (z : SC) : Bool := z.2.2.2.2.1.2.2.1
def c_ovf (z : SC) : Bool := z.2.2.2.2.1.2.2.2
def c_lparts (z : SC) : (Nat → Int32) := z.2.2.2.2.2.1
def c_ops (z : SC) : (Nat → Int32) := z.2.2.2.2.2.2.1
def c_dparts (z : SC) : (Nat → Int32) := z.2.2.2.2.2.2.2.1
def c_nparts (z : SC) : (Nat → Int32) := z.2.2.2.2.2.2.2.2.1
def c_locs (z : SC) : (Nat → Int32) := z.2.2.2.2.2.2.2.2.2.1
def c_dat (z : SC) : (Nat → Int32) := z.2.2.2.2.2.2.2.2.2.2.1
def c_nexts (z : SC) : (Nat → Int32) := z.2.2.2.2.2.2.2.2.2.2.2.1
def c_syms (z : SC) : (Nat → Int32) := z.2.2.2.2.2.2.2.2.2.2.2.2.1
def c_resv (z : SC) : (Nat → Bool) := z.2.2.2.2.2.2.2.2.2.2.2.2.2.1
def c_taken (z : SC) : (Nat → Bool) := z.2.2.2.2.2.2.2.2.2.2.2.2.2.2.1
def c_acount (z : SC) : Int32 := z.2.2.2.2.2.2.2.2.2.2.2.2.2.2.2
def c_codes_s (z : SC) (v : (Nat → Int32)) : SC := ((v, z.1.2.1, z.1.2.2), z.2.1, z.2.2.1, z.2.2.2.1, z.2.2.2.2.1, z.2.2.2.2.2)
def c_vals_s (z : SC) (v : (Nat → Int64)) : SC := ((z.1.1, v, z.1.2.2), z.2.1, z.2.2.1, z.2.2.2.1, z.2.2.2.2.1, z.2.2.2.2.2)
def c_dmin_s (z : SC) (v : (Nat → Bool)) : SC := ((z.1.1, z.1.2.1, v), z.2.1, z.2.2.1, z.2.2.2.1, z.2.2.2.2.1, z.2.2.2.2.2)
def c_cvals_s (z : SC) (v : (Nat → Int64)) : SC := (z.1, (v, z.2.1.2.1, z.2.1.2.2.1, z.2.1.2.2.2), z.2.2.1, z.2.2.2.1, z.2.2.2.2.1, z.2.2.2.2.2)
def c_cmin_s (z : SC) (v : (Nat → Bool)) : SC := (z.1, (z.2.1.1, v, z.2.1.2.2.1, z.2.1.2.2.2), z.2.2.1, z.2.2.2.1, z.2.2.2.2.1, z.2.2.2.2.2)
def c_cfirst_s (z : SC) (v : Int32) : SC := (z.1, (z.2.1.1, z.2.1.2.1, v, z.2.1.2.2.2), z.2.2.1, z.2.2.2.1, z.2.2.2.2.1, z.2.2.2.2.2)
def c_ccount_s (z : SC) (v : Int32) : SC := (z.1, (z.2.1.1, z.2.1.2.1, z.2.1.2.2.1, v), z.2.2.1, z.2.2.2.1, z.2.2.2.2.1, z.2.2.2.2.2)
def c_words_s (z : SC) (v : (Nat → Int64)) : SC := (z.1, z.2.1, (v, z.2.2.1.2), z.2.2.2.1, z.2.2.2.2.1, z.2.2.2.2.2)
def c_pcount_s (z : SC) (v : Int32) : SC := (z.1, z.2.1, (z.2.2.1.1, v), z.2.2.2.1, z.2.2.2.2.1, z.2.2.2.2.2)
def c_dist_s (z : SC) (v : Int64) : SC := (z.1, z.2.1, z.2.2.1, (v, z.2.2.2.1.2.1, z.2.2.2.1.2.2.1, z.2.2.2.1.2.2.2.1, z.2.2.2.1.2.2.2.2), z.2.2.2.2.1, z.2.2.2.2.2)
def c_distm_s (z : SC) (v : Bool) : SC := (z.1, z.2.1, z.2.2.1, (z.2.2.2.1.1, v, z.2.2.2.1.2.2.1, z.2.2.2.1.2.2.2.1, z.2.2.2.1.2.2.2.2), z.2.2.2.2.1, z.2.2.2.2.2)
def c_nxt_s (z : SC) (v : Int32) : SC := (z.1, z.2.1, z.2.2.1, (z.2.2.2.1.1, z.2.2.2.1.2.1, v, z.2.2.2.1.2.2.2.1, z.2.2.2.1.2.2.2.2), z.2.2.2.2.1, z.2.2.2.2.2)
def c_cause_s (z : SC) (v : Int32) : SC := (z.1, z.2.1, z.2.2.1, (z.2.2.2.1.1, z.2.2.2.1.2.1, z.2.2.2.1.2.2.1, v, z.2.2.2.1.2.2.2.2), z.2.2.2.2.1, z.2.2.2.2.2)
def c_time_s (z : SC) (v : Int64) : SC := (z.1, z.2.1, z.2.2.1, (z.2.2.2.1.1, z.2.2.2.1.2.1, z.2.2.2.1.2.2.1, z.2.2.2.1.2.2.2.1, v), z.2.2.2.2.1, z.2.2.2.2.2)
def c_upper_s (z : SC) (v : Int64) : SC := (z.1, z.2.1, z.2.2.1, z.2.2.2.1, (v, z.2.2.2.2.1.2.1, z.2.2.2.2.1.2.2.1, z.2.2.2.2.1.2.2.2), z.2.2.2.2.2)
def c_lower_s (z : SC) (v : Int64) : SC := (z.1, z.2.1, z.2.2.1, z.2.2.2.1, (z.2.2.2.2.1.1, v, z.2.2.2.2.1.2.2.1, z.2.2.2.2.1.2.2.2), z.2.2.2.2.2)
def c_amin_s (z : SC) (v : Bool) : SC := (z.1, z.2.1, z.2.2.1, z.2.2.2.1, (z.2.2.2.2.1.1, z.2.2.2.2.1.2.1, v, z.2.2.2.2.1.2.2.2), z.2.2.2.2.2)
def c_ovf_s (z : SC) (v : Bool) : SC := (z.1, z.2.1, z.2.2.1, z.2.2.2.1, (z.2.2.2.2.1.1, z.2.2.2.2.1.2.1, z.2.2.2.2.1.2.2.1, v), z.2.2.2.2.2)
def c_lparts_s (z : SC) (v : (Nat → Int32)) : SC := (z.1, z.2.1, z.2.2.1, z.2.2.2.1, z.2.2.2.2.1, (v, z.2.2.2.2.2.2.1, z.2.2.2.2.2.2.2.1, z.2.2.2.2.2.2.2.2.1, z.2.2.2.2.2.2.2.2.2.1, z.2.2.2.2.2.2.2.2.2.2.1, z.2.2.2.2.2.2.2.2.2.2.2.1, z.2.2.2.2.2.2.2.2.2.2.2.2.1, z.2.2.2.2.2.2.2.2.2.2.2.2.2.1, z.2.2.2.2.2.2.2.2.2.2.2.2.2.2.1, z.2.2.2.2.2.2.2.2.2.2.2.2.2.2.2))
def c_ops_s (z : SC) (v : (Nat → Int32)) : SC := (z.1, z.2.1, z.2.2.1, z.2.2.2.1, z.2.2.2.2.1, (z.2.2.2.2.2.1, v, z.2.2.2.2.2.2.2.1, z.2.2.2.2.2.2.2.2.1, z.2.2.2.2.2.2.2.2.2.1, z.2.2.2.2.2.2.2.2.2.2.1, z.2.2.2.2.2.2.2.2.2.2.2.1, z.2.2.2.2.2.2.2.2.2.2.2.2.1, z.2.2.2.2.2.2.2.2.2.2.2.2.2.1, z.2.2.2.2.2.2.2.2.2.2.2.2.2.2.1, z.2.2.2.2.2.2.2.2.2.2.2.2.2.2.2))
def c_dparts_s (z : SC) (v : (Nat → Int32)) : SC := (z.1, z.2.1, z.2.2.1, z.2.2.2.1, z.2.2.2.2.1, (z.2.2.2.2.2.1, z.2.2.2.2.2.2.1, v, z.2.2.2.2.2.2.2.2.1, z.2.2.2.2.2.2.2.2.2.1, z.2.2.2.2.2.2.2.2.2.2.1, z.2.2.2.2.2.2.2.2.2.2.2.1, z.2.2.2.2.2.2.2.2.2.2.2.2.1, z.2.2.2.2.2.2.2.2.2.2.2.2.2.1, z.2.2.2.2.2.2.2.2.2.2.2.2.2.2.1, z.2.2.2.2.2.2.2.2.2.2.2.2.2.2.2))
def c_nparts_s (z : SC) (v : (Nat → Int32)) : SC := (z.1, z.2.1, z.2.2.1, z.2.2.2.1, z.2.2.2.2.1, (z.2.2.2.2.2.1, z.2.2.2.2.2.2.1, z.2.2.2.2.2.2.2.1, v, z.2.2.2.2.2.2.2.2.2.1, z.2.2.2.2.2.2.2.2.2.2.1, z.2.2.2.2.2.2.2.2.2.2.2.1, z.2.2.2.2.2.2.2.2.2.2.2.2.1, z.2.2.2.2.2.2.2.2.2.2.2.2.2.1, z.2.2.2.2.2.2.2.2.2.2.2.2.2.2.1, z.2.2.2.2.2.2.2.2.2.2.2.2.2.2.2))
def c_locs_s (z : SC) (v : (Nat → Int32)) : SC := (z.1, z.2.1, z.2.2.1, z.2.2.2.1, z.2.2.2.2.1, (z.2.2.2.2.2.1, z.2.2.2.2.2.2.1, z.2.2.2.2.2.2.2.1, z.2.2.2.2.2.2.2.2.1, v, z.2.2.2.2.2.2.2.2.2.2.1, z.2.2.2.2.2.2.2.2.2.2.2.1, z.2.2.2.2.2.2.2.2.2.2.2.2.1, z.2.2.2.2.2.2.2.2.2.2.2.2.2.1, z.2.2.2.2.2.2.2.2.2.2.2.2.2.2.1, z.2.2.2.2.2.2.2.2.2.2.2.2.2.2.2))
def c_dat_s (z : SC) (v : (Nat → Int32)) : SC := (z.1, z.2.1, z.2.2.1, z.2.2.2.1, z.2.2.2.2.1, (z.2.2.2.2.2.1, z.2.2.2.2.2.2.1, z.2.2.2.2.2.2.2.1, z.2.2.2.2.2.2.2.2.1, z.2.2.2.2.2.2.2.2.2.1, v, z.2.2.2.2.2.2.2.2.2.2.2.1, z.2.2.2.2.2.2.2.2.2.2.2.2.1, z.2.2.2.2.2.2.2.2.2.2.2.2.2.1, z.2.2.2.2.2.2.2.2.2.2.2.2.2.2.1, z.2.2.2.2.2.2.2.2.2.2.2.2.2.2.2))
def c_nexts_s (z : SC) (v : (Nat → Int32)) : SC := (z.1, z.2.1, z.2.2.1, z.2.2.2.1, z.2.2.2.2.1, (z.2.2.2.2.2.1, z.2.2.2.2.2.2.1, z.2.2.2.2.2.2.2.1, z.2.2.2.2.2.2.2.2.1, z.2.2.2.2.2.2.2.2.2.1, z.2.2.2.2.2.2.2.2.2.2.1, v, z.2.2.2.2.2.2.2.2.2.2.2.2.1, z.2.2.2.2.2.2.2.2.2.2.2.2.2.1, z.2.2.2.2.2.2.2.2.2.2.2.2.2.2.1, z.2.2.2.2.2.2.2.2.2.2.2.2.2.2.2))
def c_syms_s (z : SC) (v : (Nat → Int32)) : SC := (z.1, z.2.1, z.2.2.1, z.2.2.2.1, z.2.2.2.2.1, (z.2.2.2.2.2.1, z.2.2.2.2.2.2.1, z.2.2.2.2.2.2.2.1, z.2.2.2.2.2.2.2.2.1, z.2.2.2.2.2.2.2.2.2.1, z.2.2.2.2.2.2.2.2.2.2.1, z.2.2.2.2.2.2.2.2.2.2.2.1, v, z.2.2.2.2.2.2.2.2.2.2.2.2.2.1, z.2.2.2.2.2.2.2.2.2.2.2.2.2.2.1, z.2.2.2.2.2.2.2.2.2.2.2.2.2.2.2))
def c_resv_s (z : SC) (v : (Nat → Bool)) : SC := (z.1, z.2.1, z.2.2.1, z.2.2.2.1, z.2.2.2.2.1, (z.2.2.2.2.2.1, z.2.2.2.2.2.2.1, z.2.2.2.2.2.2.2.1, z.2.2.2.2.2.2.2.2.1, z.2.2.2.2.2.2.2.2.2.1, z.2.2.2.2.2.2.2.2.2.2.1, z.2.2.2.2.2.2.2.2.2.2.2.1, z.2.2.2.2.2.2.2.2.2.2.2.2.1, v, z.2.2.2.2.2.2.2.2.2.2.2.2.2.2.1, z.2.2.2.2.2.2.2.2.2.2.2.2.2.2.2))
def c_taken_s (z : SC) (v : (Nat → Bool)) : SC := (z.1, z.2.1, z.2.2.1, z.2.2.2.1, z.2.2.2.2.1, (z.2.2.2.2.2.1, z.2.2.2.2.2.2.1, z.2.2.2.2.2.2.2.1, z.2.2.2.2.2.2.2.2.1, z.2.2.2.2.2.2.2.2.2.1, z.2.2.2.2.2.2.2.2.2.2.1, z.2.2.2.2.2.2.2.2.2.2.2.1, z.2.2.2.2.2.2.2.2.2.2.2.2.1, z.2.2.2.2.2.2.2.2.2.2.2.2.2.1, v, z.2.2.2.2.2.2.2.2.2.2.2.2.2.2.2))
def c_acount_s (z : SC) (v : Int32) : SC := (z.1, z.2.1, z.2.2.1, z.2.2.2.1, z.2.2.2.2.1, (z.2.2.2.2.2.1, z.2.2.2.2.2.2.1, z.2.2.2.2.2.2.2.1, z.2.2.2.2.2.2.2.2.1, z.2.2.2.2.2.2.2.2.2.1, z.2.2.2.2.2.2.2.2.2.2.1, z.2.2.2.2.2.2.2.2.2.2.2.1, z.2.2.2.2.2.2.2.2.2.2.2.2.1, z.2.2.2.2.2.2.2.2.2.2.2.2.2.1, z.2.2.2.2.2.2.2.2.2.2.2.2.2.2.1, v))
theorem c_codes_codes (z : SC) (v : (Nat → Int32)) : c_codes (c_codes_s z v) = v := rfl
theorem c_codes_vals (z : SC) (v : (Nat → Int64)) : c_codes (c_vals_s z v) = c_codes z := rfl
theorem c_codes_dmin (z : SC) (v : (Nat → Bool)) : c_codes (c_dmin_s z v) = c_codes z := rfl
theorem c_codes_cvals (z : SC) (v : (Nat → Int64)) : c_codes (c_cvals_s z v) = c_codes z := rfl
theorem c_codes_cmin (z : SC) (v : (Nat → Bool)) : c_codes (c_cmin_s z v) = c_codes z := rfl
theorem c_codes_cfirst (z : SC) (v : Int32) : c_codes (c_cfirst_s z v) = c_codes z := rfl
theorem c_codes_ccount (z : SC) (v : Int32) : c_codes (c_ccount_s z v) = c_codes z := rfl
theorem c_codes_words (z : SC) (v : (Nat → Int64)) : c_codes (c_words_s z v) = c_codes z := rfl
theorem c_codes_pcount (z : SC) (v : Int32) : c_codes (c_pcount_s z v) = c_codes z := rfl
theorem c_codes_dist (z : SC) (v : Int64) : c_codes (c_dist_s z v) = c_codes z := rfl
theorem c_codes_distm (z : SC) (v : Bool) : c_codes (c_distm_s z v) = c_codes z := rfl
theorem c_codes_nxt (z : SC) (v : Int32) : c_codes (c_nxt_s z v) = c_codes z := rfl
theorem c_codes_cause (z : SC) (v : Int32) : c_codes (c_cause_s z v) = c_codes z := rfl
theorem c_codes_time (z : SC) (v : Int64) : c_codes (c_time_s z v) = c_codes z := rfl
theorem c_codes_upper (z : SC) (v : Int64) : c_codes (c_upper_s z v) = c_codes z := rfl
theorem c_codes_lower (z : SC) (v : Int64) : c_codes (c_lower_s z v) = c_codes z := rfl
theorem c_codes_amin (z : SC) (v : Bool) : c_codes (c_amin_s z v) = c_codes z := rfl
theorem c_codes_ovf (z : SC) (v : Bool) : c_codes (c_ovf_s z v) = c_codes z := rfl
theorem c_codes_lparts (z : SC) (v : (Nat → Int32)) : c_codes (c_lparts_s z v) = c_codes z := rfl
theorem c_codes_ops (z : SC) (v : (Nat → Int32)) : c_codes (c_ops_s z v) = c_codes z := rfl
theorem c_codes_dparts (z : SC) (v : (Nat → Int32)) : c_codes (c_dparts_s z v) = c_codes z := rfl
theorem c_codes_nparts (z : SC) (v : (Nat → Int32)) : c_codes (c_nparts_s z v) = c_codes z := rfl
theorem c_codes_locs (z : SC) (v : (Nat → Int32)) : c_codes (c_locs_s z v) = c_codes z := rfl
theorem c_codes_dat (z : SC) (v : (Nat → Int32)) : c_codes (c_dat_s z v) = c_codes z := rfl
theorem c_codes_nexts (z : SC) (v : (Nat → Int32)) : c_codes (c_nexts_s z v) = c_codes z := rfl
theorem c_codes_syms (z : SC) (v : (Nat → Int32)) : c_codes (c_syms_s z v) = c_codes z := rfl
theorem c_codes_resv (z : SC) (v : (Nat → Bool)) : c_codes (c_resv_s z v) = c_codes z := rfl
theorem c_codes_taken (z : SC) (v : (Nat → Bool)) : c_codes (c_taken_s z v) = c_codes z := rfl
theorem c_codes_acount (z : SC) (v : Int32) : c_codes (c_acount_s z v) = c_codes z := rfl
theorem c_vals_codes (z : SC) (v : (Nat → Int32)) : c_vals (c_codes_s z v) = c_vals z := rfl
theorem c_vals_vals (z : SC) (v : (Nat → Int64)) : c_vals (c_vals_s z v) = v := rfl
theorem c_vals_dmin (z : SC) (v : (Nat → Bool)) : c_vals (c_dmin_s z v) = c_vals z := rfl
theorem c_vals_cvals (z : SC) (v : (Nat → Int64)) : c_vals (c_cvals_s z v) = c_vals z := rfl
theorem c_vals_cmin (z : SC) (v : (Nat → Bool)) : c_vals (c_cmin_s z v) = c_vals z := rfl
theorem c_vals_cfirst (z : SC) (v : Int32) : c_vals (c_cfirst_s z v) = c_vals z := rfl
theorem c_vals_ccount (z : SC) (v : Int32) : c_vals (c_ccount_s z v) = c_vals z := rfl
theorem c_vals_words (z : SC) (v : (Nat → Int64)) : c_vals (c_words_s z v) = c_vals z := rfl
theorem c_vals_pcount (z : SC) (v : Int32) : c_vals (c_pcount_s z v) = c_vals z := rfl
theorem c_vals_dist (z : SC) (v : Int64) : c_vals (c_dist_s z v) = c_vals z := rfl
theorem c_vals_distm (z : SC) (v : Bool) : c_vals (c_distm_s z v) = c_vals z := rfl
theorem c_vals_nxt (z : SC) (v : Int32) : c_vals (c_nxt_s z v) = c_vals z := rfl
theorem c_vals_cause (z : SC) (v : Int32) : c_vals (c_cause_s z v) = c_vals z := rfl
theorem c_vals_time (z : SC) (v : Int64) : c_vals (c_time_s z v) = c_vals z := rfl
theorem c_vals_upper (z : SC) (v : Int64) : c_vals (c_upper_s z v) = c_vals z := rfl
theorem c_vals_lower (z : SC) (v : Int64) : c_vals (c_lower_s z v) = c_vals z := rfl
theorem c_vals_amin (z : SC) (v : Bool) : c_vals (c_amin_s z v) = c_vals z := rfl
theorem c_vals_ovf (z : SC) (v : Bool) : c_vals (c_ovf_s z v) = c_vals z := rfl
theorem c_vals_lparts (z : SC) (v : (Nat → Int32)) : c_vals (c_lparts_s z v) = c_vals z := rfl
theorem c_vals_ops (z : SC) (v : (Nat → Int32)) : c_vals (c_ops_s z v) = c_vals z := rfl
theorem c_vals_dparts (z : SC) (v : (Nat → Int32)) : c_vals (c_dparts_s z v) = c_vals z := rfl
theorem c_vals_nparts (z : SC) (v : (Nat → Int32)) : c_vals (c_nparts_s z v) = c_vals z := rfl
theorem c_vals_locs (z : SC) (v : (Nat → Int32)) : c_vals (c_locs_s z v) = c_vals z := rfl
theorem c_vals_dat (z : SC) (v : (Nat → Int32)) : c_vals (c_dat_s z v) = c_vals z := rfl
theorem c_vals_nexts (z : SC) (v : (Nat → Int32)) : c_vals (c_nexts_s z v) = c_vals z := rfl
theorem c_vals_syms (z : SC) (v : (Nat → Int32)) : c_vals (c_syms_s z v) = c_vals z := rfl
theorem c_vals_resv (z : SC) (v : (Nat → Bool)) : c_vals (c_resv_s z v) = c_vals z := rfl
theorem c_vals_taken (z : SC) (v : (Nat → Bool)) : c_vals (c_taken_s z v) = c_vals z := rfl
theorem c_vals_acount (z : SC) (v : Int32) : c_vals (c_acount_s z v) = c_vals z := rfl
theorem c_dmin_codes (z : SC) (v : (Nat → Int32)) : c_dmin (c_codes_s z v) = c_dmin z := rfl
theorem c_dmin_vals (z : SC) (v : (Nat → Int64)) : c_dmin (c_vals_s z v) = c_dmin z := rfl
theorem c_dmin_dmin (z : SC) (v : (Nat → Bool)) : c_dmin (c_dmin_s z v) = v := rfl
theorem c_dmin_cvals (z : SC) (v : (Nat → Int64)) : c_dmin (c_cvals_s z v) = c_dmin z := rfl
theorem c_dmin_cmin (z : SC) (v : (Nat → Bool)) : c_dmin (c_cmin_s z v) = c_dmin z := rfl
theorem c_dmin_cfirst (z : SC) (v : Int32) : c_dmin (c_cfirst_s z v) = c_dmin z := rfl
theorem c_dmin_ccount (z : SC) (v : Int32) : c_dmin (c_ccount_s z v) = c_dmin z := rfl
theorem c_dmin_words (z : SC) (v : (Nat → Int64)) : c_dmin (c_words_s z v) = c_dmin z := rfl
theorem c_dmin_pcount (z : SC) (v : Int32) : c_dmin (c_pcount_s z v) = c_dmin z := rfl
theorem c_dmin_dist (z : SC) (v : Int64) : c_dmin (c_dist_s z v) = c_dmin z := rfl
theorem c_dmin_distm (z : SC) (v : Bool) : c_dmin (c_distm_s z v) = c_dmin z := rfl
theorem c_dmin_nxt (z : SC) (v : Int32) : c_dmin (c_nxt_s z v) = c_dmin z := rfl
theorem c_dmin_cause (z : SC) (v : Int32) : c_dmin (c_cause_s z v) = c_dmin z := rfl
theorem c_dmin_time (z : SC) (v : Int64) : c_dmin (c_time_s z v) = c_dmin z := rfl
theorem c_dmin_upper (z : SC) (v : Int64) : c_dmin (c_upper_s z v) = c_dmin z := rfl
theorem c_dmin_lower (z : SC) (v : Int64) : c_dmin (c_lower_s z v) = c_dmin z := rfl
theorem c_dmin_amin (z : SC) (v : Bool) : c_dmin (c_amin_s z v) = c_dmin z := rfl
theorem c_dmin_ovf (z : SC) (v : Bool) : c_dmin (c_ovf_s z v) = c_dmin z := rfl
theorem c_dmin_lparts (z : SC) (v : (Nat → Int32)) : c_dmin (c_lparts_s z v) = c_dmin z := rfl
theorem c_dmin_ops (z : SC) (v : (Nat → Int32)) : c_dmin (c_ops_s z v) = c_dmin z := rfl
theorem c_dmin_dparts (z : SC) (v : (Nat → Int32)) : c_dmin (c_dparts_s z v) = c_dmin z := rfl
theorem c_dmin_nparts (z : SC) (v : (Nat → Int32)) : c_dmin (c_nparts_s z v) = c_dmin z := rfl
theorem c_dmin_locs (z : SC) (v : (Nat → Int32)) : c_dmin (c_locs_s z v) = c_dmin z := rfl
theorem c_dmin_dat (z : SC) (v : (Nat → Int32)) : c_dmin (c_dat_s z v) = c_dmin z := rfl
theorem c_dmin_nexts (z : SC) (v : (Nat → Int32)) : c_dmin (c_nexts_s z v) = c_dmin z := rfl
theorem c_dmin_syms (z : SC) (v : (Nat → Int32)) : c_dmin (c_syms_s z v) = c_dmin z := rfl
theorem c_dmin_resv (z : SC) (v : (Nat → Bool)) : c_dmin (c_resv_s z v) = c_dmin z := rfl
theorem c_dmin_taken (z : SC) (v : (Nat → Bool)) : c_dmin (c_taken_s z v) = c_dmin z := rfl
theorem c_dmin_acount (z : SC) (v : Int32) : c_dmin (c_acount_s z v) = c_dmin z := rfl
theorem c_cvals_codes (z : SC) (v : (Nat → Int32)) : c_cvals (c_codes_s z v) = c_cvals z := rfl
theorem c_cvals_vals (z : SC) (v : (Nat → Int64)) : c_cvals (c_vals_s z v) = c_cvals z := rfl
theorem c_cvals_dmin (z : SC) (v : (Nat → Bool)) : c_cvals (c_dmin_s z v) = c_cvals z := rfl
theorem c_cvals_cvals (z : SC) (v : (Nat → Int64)) : c_cvals (c_cvals_s z v) = v := rfl
theorem c_cvals_cmin (z : SC) (v : (Nat → Bool)) : c_cvals (c_cmin_s z v) = c_cvals z := rfl
theorem c_cvals_cfirst (z : SC) (v : Int32) : c_cvals (c_cfirst_s z v) = c_cvals z := rfl
theorem c_cvals_ccount (z : SC) (v : Int32) : c_cvals (c_ccount_s z v) = c_cvals z := rfl
theorem c_cvals_words (z : SC) (v : (Nat → Int64)) : c_cvals (c_words_s z v) = c_cvals z := rfl
theorem c_cvals_pcount (z : SC) (v : Int32) : c_cvals (c_pcount_s z v) = c_cvals z := rfl
theorem c_cvals_dist (z : SC) (v : Int64) : c_cvals (c_dist_s z v) = c_cvals z := rfl
theorem c_cvals_distm (z : SC) (v : Bool) : c_cvals (c_distm_s z v) = c_cvals z := rfl
theorem c_cvals_nxt (z : SC) (v : Int32) : c_cvals (c_nxt_s z v) = c_cvals z := rfl
theorem c_cvals_cause (z : SC) (v : Int32) : c_cvals (c_cause_s z v) = c_cvals z := rfl
theorem c_cvals_time (z : SC) (v : Int64) : c_cvals (c_time_s z v) = c_cvals z := rfl
theorem c_cvals_upper (z : SC) (v : Int64) : c_cvals (c_upper_s z v) = c_cvals z := rfl
theorem c_cvals_lower (z : SC) (v : Int64) : c_cvals (c_lower_s z v) = c_cvals z := rfl
theorem c_cvals_amin (z : SC) (v : Bool) : c_cvals (c_amin_s z v) = c_cvals z := rfl
theorem c_cvals_ovf (z : SC) (v : Bool) : c_cvals (c_ovf_s z v) = c_cvals z := rfl
theorem c_cvals_lparts (z : SC) (v : (Nat → Int32)) : c_cvals (c_lparts_s z v) = c_cvals z := rfl
theorem c_cvals_ops (z : SC) (v : (Nat → Int32)) : c_cvals (c_ops_s z v) = c_cvals z := rfl
theorem c_cvals_dparts (z : SC) (v : (Nat → Int32)) : c_cvals (c_dparts_s z v) = c_cvals z := rfl
theorem c_cvals_nparts (z : SC) (v : (Nat → Int32)) : c_cvals (c_nparts_s z v) = c_cvals z := rfl
theorem c_cvals_locs (z : SC) (v : (Nat → Int32)) : c_cvals (c_locs_s z v) = c_cvals z := rfl
theorem c_cvals_dat (z : SC) (v : (Nat → Int32)) : c_cvals (c_dat_s z v) = c_cvals z := rfl
theorem c_cvals_nexts (z : SC) (v : (Nat → Int32)) : c_cvals (c_nexts_s z v) = c_cvals z := rfl
theorem c_cvals_syms (z : SC) (v : (Nat → Int32)) : c_cvals (c_syms_s z v) = c_cvals z := rfl
theorem c_cvals_resv (z : SC) (v : (Nat → Bool)) : c_cvals (c_resv_s z v) = c_cvals z := rfl
theorem c_cvals_taken (z : SC) (v : (Nat → Bool)) : c_cvals (c_taken_s z v) = c_cvals z := rfl
theorem c_cvals_acount (z : SC) (v : Int32) : c_cvals (c_acount_s z v) = c_cvals z := rfl
theorem c_cmin_codes (z : SC) (v : (Nat → Int32)) : c_cmin (c_codes_s z v) = c_cmin z := rfl
theorem c_cmin_vals (z : SC) (v : (Nat → Int64)) : c_cmin (c_vals_s z v) = c_cmin z := rfl
theorem c_cmin_dmin (z : SC) (v : (Nat → Bool)) : c_cmin (c_dmin_s z v) = c_cmin z := rfl
theorem c_cmin_cvals (z : SC) (v : (Nat → Int64)) : c_cmin (c_cvals_s z v) = c_cmin z := rfl
theorem c_cmin_cmin (z : SC) (v : (Nat → Bool)) : c_cmin (c_cmin_s z v) = v := rfl
theorem c_cmin_cfirst (z : SC) (v : Int32) : c_cmin (c_cfirst_s z v) = c_cmin z := rfl
theorem c_cmin_ccount (z : SC) (v : Int32) : c_cmin (c_ccount_s z v) = c_cmin z := rfl
theorem c_cmin_words (z : SC) (v : (Nat → Int64)) : c_cmin (c_words_s z v) = c_cmin z := rfl
theorem c_cmin_pcount (z : SC) (v : Int32) : c_cmin (c_pcount_s z v) = c_cmin z := rfl
theorem c_cmin_dist (z : SC) (v : Int64) : c_cmin (c_dist_s z v) = c_cmin z := rfl
theorem c_cmin_distm (z : SC) (v : Bool) : c_cmin (c_distm_s z v) = c_cmin z := rfl
theorem c_cmin_nxt (z : SC) (v : Int32) : c_cmin (c_nxt_s z v) = c_cmin z := rfl
theorem c_cmin_cause (z : SC) (v : Int32) : c_cmin (c_cause_s z v) = c_cmin z := rfl
theorem c_cmin_time (z : SC) (v : Int64) : c_cmin (c_time_s z v) = c_cmin z := rfl
theorem c_cmin_upper (z : SC) (v : Int64) : c_cmin (c_upper_s z v) = c_cmin z := rfl
theorem c_cmin_lower (z : SC) (v : Int64) : c_cmin (c_lower_s z v) = c_cmin z := rfl
theorem c_cmin_amin (z : SC) (v : Bool) : c_cmin (c_amin_s z v) = c_cmin z := rfl
theorem c_cmin_ovf (z : SC) (v : Bool) : c_cmin (c_ovf_s z v) = c_cmin z := rfl
theorem c_cmin_lparts (z : SC) (v : (Nat → Int32)) : c_cmin (c_lparts_s z v) = c_cmin z := rfl
theorem c_cmin_ops (z : SC) (v : (Nat → Int32)) : c_cmin (c_ops_s z v) = c_cmin z := rfl
theorem c_cmin_dparts (z : SC) (v : (Nat → Int32)) : c_cmin (c_dparts_s z v) = c_cmin z := rfl
theorem c_cmin_nparts (z : SC) (v : (Nat → Int32)) : c_cmin (c_nparts_s z v) = c_cmin z := rfl
theorem c_cmin_locs (z : SC) (v : (Nat → Int32)) : c_cmin (c_locs_s z v) = c_cmin z := rfl
theorem c_cmin_dat (z : SC) (v : (Nat → Int32)) : c_cmin (c_dat_s z v) = c_cmin z := rfl
theorem c_cmin_nexts (z : SC) (v : (Nat → Int32)) : c_cmin (c_nexts_s z v) = c_cmin z := rfl
theorem c_cmin_syms (z : SC) (v : (Nat → Int32)) : c_cmin (c_syms_s z v) = c_cmin z := rfl
theorem c_cmin_resv (z : SC) (v : (Nat → Bool)) : c_cmin (c_resv_s z v) = c_cmin z := rfl
theorem c_cmin_taken (z : SC) (v : (Nat → Bool)) : c_cmin (c_taken_s z v) = c_cmin z := rfl
theorem c_cmin_acount (z : SC) (v : Int32) : c_cmin (c_acount_s z v) = c_cmin z := rfl
theorem c_cfirst_codes (z : SC) (v : (Nat → Int32)) : c_cfirst (c_codes_s z v) = c_cfirst z := rfl
theorem c_cfirst_vals (z : SC) (v : (Nat → Int64)) : c_cfirst (c_vals_s z v) = c_cfirst z := rfl
theorem c_cfirst_dmin (z : SC) (v : (Nat → Bool)) : c_cfirst (c_dmin_s z v) = c_cfirst z := rfl
theorem c_cfirst_cvals (z : SC) (v : (Nat → Int64)) : c_cfirst (c_cvals_s z v) = c_cfirst z := rfl
theorem c_cfirst_cmin (z : SC) (v : (Nat → Bool)) : c_cfirst (c_cmin_s z v) = c_cfirst z := rfl
theorem c_cfirst_cfirst (z : SC) (v : Int32) : c_cfirst (c_cfirst_s z v) = v := rfl
theorem c_cfirst_ccount (z : SC) (v : Int32) : c_cfirst (c_ccount_s z v) = c_cfirst z := rfl
theorem c_cfirst_words (z : SC) (v : (Nat → Int64)) : c_cfirst (c_words_s z v) = c_cfirst z := rfl
theorem c_cfirst_pcount (z : SC) (v : Int32) : c_cfirst (c_pcount_s z v) = c_cfirst z := rfl
theorem c_cfirst_dist (z : SC) (v : Int64) : c_cfirst (c_dist_s z v) = c_cfirst z := rfl
theorem c_cfirst_distm (z : SC) (v : Bool) : c_cfirst (c_distm_s z v) = c_cfirst z := rfl
theorem c_cfirst_nxt (z : SC) (v : Int32) : c_cfirst (c_nxt_s z v) = c_cfirst z := rfl
theorem c_cfirst_cause (z : SC) (v : Int32) : c_cfirst (c_cause_s z v) = c_cfirst z := rfl
theorem c_cfirst_time (z : SC) (v : Int64) : c_cfirst (c_time_s z v) = c_cfirst z := rfl
theorem c_cfirst_upper (z : SC) (v : Int64) : c_cfirst (c_upper_s z v) = c_cfirst z := rfl
theorem c_cfirst_lower (z : SC) (v : Int64) : c_cfirst (c_lower_s z v) = c_cfirst z := rfl
theorem c_cfirst_amin (z : SC) (v : Bool) : c_cfirst (c_amin_s z v) = c_cfirst z := rfl
theorem c_cfirst_ovf (z : SC) (v : Bool) : c_cfirst (c_ovf_s z v) = c_cfirst z := rfl
theorem c_cfirst_lparts (z : SC) (v : (Nat → Int32)) : c_cfirst (c_lparts_s z v) = c_cfirst z := rfl
theorem c_cfirst_ops (z : SC) (v : (Nat → Int32)) : c_cfirst (c_ops_s z v) = c_cfirst z := rfl
theorem c_cfirst_dparts (z : SC) (v : (Nat → Int32)) : c_cfirst (c_dparts_s z v) = c_cfirst z := rfl
theorem c_cfirst_nparts (z : SC) (v : (Nat → Int32)) : c_cfirst (c_nparts_s z v) = c_cfirst z := rfl
theorem c_cfirst_locs (z : SC) (v : (Nat → Int32)) : c_cfirst (c_locs_s z v) = c_cfirst z := rfl
theorem c_cfirst_dat (z : SC) (v : (Nat → Int32)) : c_cfirst (c_dat_s z v) = c_cfirst z := rfl
theorem c_cfirst_nexts (z : SC) (v : (Nat → Int32)) : c_cfirst (c_nexts_s z v) = c_cfirst z := rfl
theorem c_cfirst_syms (z : SC) (v : (Nat → Int32)) : c_cfirst (c_syms_s z v) = c_cfirst z := rfl
theorem c_cfirst_resv (z : SC) (v : (Nat → Bool)) : c_cfirst (c_resv_s z v) = c_cfirst z := rfl
theorem c_cfirst_taken (z : SC) (v : (Nat → Bool)) : c_cfirst (c_taken_s z v) = c_cfirst z := rfl
theorem c_cfirst_acount (z : SC) (v : Int32) : c_cfirst (c_acount_s z v) = c_cfirst z := rfl
theorem c_ccount_codes (z : SC) (v : (Nat → Int32)) : c_ccount (c_codes_s z v) = c_ccount z := rfl
theorem c_ccount_vals (z : SC) (v : (Nat → Int64)) : c_ccount (c_vals_s z v) = c_ccount z := rfl
theorem c_ccount_dmin (z : SC) (v : (Nat → Bool)) : c_ccount (c_dmin_s z v) = c_ccount z := rfl
theorem c_ccount_cvals (z : SC) (v : (Nat → Int64)) : c_ccount (c_cvals_s z v) = c_ccount z := rfl
theorem c_ccount_cmin (z : SC) (v : (Nat → Bool)) : c_ccount (c_cmin_s z v) = c_ccount z := rfl
theorem c_ccount_cfirst (z : SC) (v : Int32) : c_ccount (c_cfirst_s z v) = c_ccount z := rfl
theorem c_ccount_ccount (z : SC) (v : Int32) : c_ccount (c_ccount_s z v) = v := rfl
theorem c_ccount_words (z : SC) (v : (Nat → Int64)) : c_ccount (c_words_s z v) = c_ccount z := rfl
theorem c_ccount_pcount (z : SC) (v : Int32) : c_ccount (c_pcount_s z v) = c_ccount z := rfl
theorem c_ccount_dist (z : SC) (v : Int64) : c_ccount (c_dist_s z v) = c_ccount z := rfl
theorem c_ccount_distm (z : SC) (v : Bool) : c_ccount (c_distm_s z v) = c_ccount z := rfl
theorem c_ccount_nxt (z : SC) (v : Int32) : c_ccount (c_nxt_s z v) = c_ccount z := rfl
theorem c_ccount_cause (z : SC) (v : Int32) : c_ccount (c_cause_s z v) = c_ccount z := rfl
theorem c_ccount_time (z : SC) (v : Int64) : c_ccount (c_time_s z v) = c_ccount z := rfl
theorem c_ccount_upper (z : SC) (v : Int64) : c_ccount (c_upper_s z v) = c_ccount z := rfl
theorem c_ccount_lower (z : SC) (v : Int64) : c_ccount (c_lower_s z v) = c_ccount z := rfl
theorem c_ccount_amin (z : SC) (v : Bool) : c_ccount (c_amin_s z v) = c_ccount z := rfl
theorem c_ccount_ovf (z : SC) (v : Bool) : c_ccount (c_ovf_s z v) = c_ccount z := rfl
theorem c_ccount_lparts (z : SC) (v : (Nat → Int32)) : c_ccount (c_lparts_s z v) = c_ccount z := rfl
theorem c_ccount_ops (z : SC) (v : (Nat → Int32)) : c_ccount (c_ops_s z v) = c_ccount z := rfl
theorem c_ccount_dparts (z : SC) (v : (Nat → Int32)) : c_ccount (c_dparts_s z v) = c_ccount z := rfl
theorem c_ccount_nparts (z : SC) (v : (Nat → Int32)) : c_ccount (c_nparts_s z v) = c_ccount z := rfl
theorem c_ccount_locs (z : SC) (v : (Nat → Int32)) : c_ccount (c_locs_s z v) = c_ccount z := rfl
theorem c_ccount_dat (z : SC) (v : (Nat → Int32)) : c_ccount (c_dat_s z v) = c_ccount z := rfl
theorem c_ccount_nexts (z : SC) (v : (Nat → Int32)) : c_ccount (c_nexts_s z v) = c_ccount z := rfl
theorem c_ccount_syms (z : SC) (v : (Nat → Int32)) : c_ccount (c_syms_s z v) = c_ccount z := rfl
theorem c_ccount_resv (z : SC) (v : (Nat → Bool)) : c_ccount (c_resv_s z v) = c_ccount z := rfl
theorem c_ccount_taken (z : SC) (v : (Nat → Bool)) : c_ccount (c_taken_s z v) = c_ccount z := rfl
theorem c_ccount_acount (z : SC) (v : Int32) : c_ccount (c_acount_s z v) = c_ccount z := rfl
theorem c_words_codes (z : SC) (v : (Nat → Int32)) : c_words (c_codes_s z v) = c_words z := rfl
theorem c_words_vals (z : SC) (v : (Nat → Int64)) : c_words (c_vals_s z v) = c_words z := rfl
theorem c_words_dmin (z : SC) (v : (Nat → Bool)) : c_words (c_dmin_s z v) = c_words z := rfl
theorem c_words_cvals (z : SC) (v : (Nat → Int64)) : c_words (c_cvals_s z v) = c_words z := rfl
theorem c_words_cmin (z : SC) (v : (Nat → Bool)) : c_words (c_cmin_s z v) = c_words z := rfl
theorem c_words_cfirst (z : SC) (v : Int32) : c_words (c_cfirst_s z v) = c_words z := rfl
theorem c_words_ccount (z : SC) (v : Int32) : c_words (c_ccount_s z v) = c_words z := rfl
theorem c_words_words (z : SC) (v : (Nat → Int64)) : c_words (c_words_s z v) = v := rfl
theorem c_words_pcount (z : SC) (v : Int32) : c_words (c_pcount_s z v) = c_words z := rfl
theorem c_words_dist (z : SC) (v : Int64) : c_words (c_dist_s z v) = c_words z := rfl
theorem c_words_distm (z : SC) (v : Bool) : c_words (c_distm_s z v) = c_words z := rfl
theorem c_words_nxt (z : SC) (v : Int32) : c_words (c_nxt_s z v) = c_words z := rfl
theorem c_words_cause (z : SC) (v : Int32) : c_words (c_cause_s z v) = c_words z := rfl
theorem c_words_time (z : SC) (v : Int64) : c_words (c_time_s z v) = c_words z := rfl
theorem c_words_upper (z : SC) (v : Int64) : c_words (c_upper_s z v) = c_words z := rfl
theorem c_words_lower (z : SC) (v : Int64) : c_words (c_lower_s z v) = c_words z := rfl
theorem c_words_amin (z : SC) (v : Bool) : c_words (c_amin_s z v) = c_words z := rfl
theorem c_words_ovf (z : SC) (v : Bool) : c_words (c_ovf_s z v) = c_words z := rfl
theorem c_words_lparts (z : SC) (v : (Nat → Int32)) : c_words (c_lparts_s z v) = c_words z := rfl
theorem c_words_ops (z : SC) (v : (Nat → Int32)) : c_words (c_ops_s z v) = c_words z := rfl
theorem c_words_dparts (z : SC) (v : (Nat → Int32)) : c_words (c_dparts_s z v) = c_words z := rfl
theorem c_words_nparts (z : SC) (v : (Nat → Int32)) : c_words (c_nparts_s z v) = c_words z := rfl
theorem c_words_locs (z : SC) (v : (Nat → Int32)) : c_words (c_locs_s z v) = c_words z := rfl
theorem c_words_dat (z : SC) (v : (Nat → Int32)) : c_words (c_dat_s z v) = c_words z := rfl
theorem c_words_nexts (z : SC) (v : (Nat → Int32)) : c_words (c_nexts_s z v) = c_words z := rfl
theorem c_words_syms (z : SC) (v : (Nat → Int32)) : c_words (c_syms_s z v) = c_words z := rfl
theorem c_words_resv (z : SC) (v : (Nat → Bool)) : c_words (c_resv_s z v) = c_words z := rfl
theorem c_words_taken (z : SC) (v : (Nat → Bool)) : c_words (c_taken_s z v) = c_words z := rfl
theorem c_words_acount (z : SC) (v : Int32) : c_words (c_acount_s z v) = c_words z := rfl
theorem c_pcount_codes (z : SC) (v : (Nat → Int32)) : c_pcount (c_codes_s z v) = c_pcount z := rfl
theorem c_pcount_vals (z : SC) (v : (Nat → Int64)) : c_pcount (c_vals_s z v) = c_pcount z := rfl
theorem c_pcount_dmin (z : SC) (v : (Nat → Bool)) : c_pcount (c_dmin_s z v) = c_pcount z := rfl
theorem c_pcount_cvals (z : SC) (v : (Nat → Int64)) : c_pcount (c_cvals_s z v) = c_pcount z := rfl
theorem c_pcount_cmin (z : SC) (v : (Nat → Bool)) : c_pcount (c_cmin_s z v) = c_pcount z := rfl
theorem c_pcount_cfirst (z : SC) (v : Int32) : c_pcount (c_cfirst_s z v) = c_pcount z := rfl
theorem c_pcount_ccount (z : SC) (v : Int32) : c_pcount (c_ccount_s z v) = c_pcount z := rfl
theorem c_pcount_words (z : SC) (v : (Nat → Int64)) : c_pcount (c_words_s z v) = c_pcount z := rfl
theorem c_pcount_pcount (z : SC) (v : Int32) : c_pcount (c_pcount_s z v) = v := rfl
theorem c_pcount_dist (z : SC) (v : Int64) : c_pcount (c_dist_s z v) = c_pcount z := rfl
theorem c_pcount_distm (z : SC) (v : Bool) : c_pcount (c_distm_s z v) = c_pcount z := rfl
theorem c_pcount_nxt (z : SC) (v : Int32) : c_pcount (c_nxt_s z v) = c_pcount z := rfl
theorem c_pcount_cause (z : SC) (v : Int32) : c_pcount (c_cause_s z v) = c_pcount z := rfl
theorem c_pcount_time (z : SC) (v : Int64) : c_pcount (c_time_s z v) = c_pcount z := rfl
theorem c_pcount_upper (z : SC) (v : Int64) : c_pcount (c_upper_s z v) = c_pcount z := rfl
theorem c_pcount_lower (z : SC) (v : Int64) : c_pcount (c_lower_s z v) = c_pcount z := rfl
theorem c_pcount_amin (z : SC) (v : Bool) : c_pcount (c_amin_s z v) = c_pcount z := rfl
theorem c_pcount_ovf (z : SC) (v : Bool) : c_pcount (c_ovf_s z v) = c_pcount z := rfl
theorem c_pcount_lparts (z : SC) (v : (Nat → Int32)) : c_pcount (c_lparts_s z v) = c_pcount z := rfl
theorem c_pcount_ops (z : SC) (v : (Nat → Int32)) : c_pcount (c_ops_s z v) = c_pcount z := rfl
theorem c_pcount_dparts (z : SC) (v : (Nat → Int32)) : c_pcount (c_dparts_s z v) = c_pcount z := rfl
theorem c_pcount_nparts (z : SC) (v : (Nat → Int32)) : c_pcount (c_nparts_s z v) = c_pcount z := rfl
theorem c_pcount_locs (z : SC) (v : (Nat → Int32)) : c_pcount (c_locs_s z v) = c_pcount z := rfl
theorem c_pcount_dat (z : SC) (v : (Nat → Int32)) : c_pcount (c_dat_s z v) = c_pcount z := rfl
theorem c_pcount_nexts (z : SC) (v : (Nat → Int32)) : c_pcount (c_nexts_s z v) = c_pcount z := rfl
theorem c_pcount_syms (z : SC) (v : (Nat → Int32)) : c_pcount (c_syms_s z v) = c_pcount z := rfl
theorem c_pcount_resv (z : SC) (v : (Nat → Bool)) : c_pcount (c_resv_s z v) = c_pcount z := rfl
theorem c_pcount_taken (z : SC) (v : (Nat → Bool)) : c_pcount (c_taken_s z v) = c_pcount z := rfl
theorem c_pcount_acount (z : SC) (v : Int32) : c_pcount (c_acount_s z v) = c_pcount z := rfl
theorem c_dist_codes (z : SC) (v : (Nat → Int32)) : c_dist (c_codes_s z v) = c_dist z := rfl
theorem c_dist_vals (z : SC) (v : (Nat → Int64)) : c_dist (c_vals_s z v) = c_dist z := rfl
theorem c_dist_dmin (z : SC) (v : (Nat → Bool)) : c_dist (c_dmin_s z v) = c_dist z := rfl
theorem c_dist_cvals (z : SC) (v : (Nat → Int64)) : c_dist (c_cvals_s z v) = c_dist z := rfl
theorem c_dist_cmin (z : SC) (v : (Nat → Bool)) : c_dist (c_cmin_s z v) = c_dist z := rfl
theorem c_dist_cfirst (z : SC) (v : Int32) : c_dist (c_cfirst_s z v) = c_dist z := rfl
theorem c_dist_ccount (z : SC) (v : Int32) : c_dist (c_ccount_s z v) = c_dist z := rfl
theorem c_dist_words (z : SC) (v : (Nat → Int64)) : c_dist (c_words_s z v) = c_dist z := rfl
theorem c_dist_pcount (z : SC) (v : Int32) : c_dist (c_pcount_s z v) = c_dist z := rfl
theorem c_dist_dist (z : SC) (v : Int64) : c_dist (c_dist_s z v) = v := rfl
theorem c_dist_distm (z : SC) (v : Bool) : c_dist (c_distm_s z v) = c_dist z := rfl
theorem c_dist_nxt (z : SC) (v : Int32) : c_dist (c_nxt_s z v) = c_dist z := rfl
theorem c_dist_cause (z : SC) (v : Int32) : c_dist (c_cause_s z v) = c_dist z := rfl
theorem c_dist_time (z : SC) (v : Int64) : c_dist (c_time_s z v) = c_dist z := rfl
theorem c_dist_upper (z : SC) (v : Int64) : c_dist (c_upper_s z v) = c_dist z := rfl
theorem c_dist_lower (z : SC) (v : Int64) : c_dist (c_lower_s z v) = c_dist z := rfl
theorem c_dist_amin (z : SC) (v : Bool) : c_dist (c_amin_s z v) = c_dist z := rfl
theorem c_dist_ovf (z : SC) (v : Bool) : c_dist (c_ovf_s z v) = c_dist z := rfl
theorem c_dist_lparts (z : SC) (v : (Nat → Int32)) : c_dist (c_lparts_s z v) = c_dist z := rfl
theorem c_dist_ops (z : SC) (v : (Nat → Int32)) : c_dist (c_ops_s z v) = c_dist z := rfl
theorem c_dist_dparts (z : SC) (v : (Nat → Int32)) : c_dist (c_dparts_s z v) = c_dist z := rfl
theorem c_dist_nparts (z : SC) (v : (Nat → Int32)) : c_dist (c_nparts_s z v) = c_dist z := rfl
theorem c_dist_locs (z : SC) (v : (Nat → Int32)) : c_dist (c_locs_s z v) = c_dist z := rfl
theorem c_dist_dat (z : SC) (v : (Nat → Int32)) : c_dist (c_dat_s z v) = c_dist z := rfl
theorem c_dist_nexts (z : SC) (v : (Nat → Int32)) : c_dist (c_nexts_s z v) = c_dist z := rfl
theorem c_dist_syms (z : SC) (v : (Nat → Int32)) : c_dist (c_syms_s z v) = c_dist z := rfl
theorem c_dist_resv (z : SC) (v : (Nat → Bool)) : c_dist (c_resv_s z v) = c_dist z := rfl
theorem c_dist_taken (z : SC) (v : (Nat → Bool)) : c_dist (c_taken_s z v) = c_dist z := rfl
theorem c_dist_acount (z : SC) (v : Int32) : c_dist (c_acount_s z v) = c_dist z := rfl
theorem c_distm_codes (z : SC) (v : (Nat → Int32)) : c_distm (c_codes_s z v) = c_distm z := rfl
theorem c_distm_vals (z : SC) (v : (Nat → Int64)) : c_distm (c_vals_s z v) = c_distm z := rfl
theorem c_distm_dmin (z : SC) (v : (Nat → Bool)) : c_distm (c_dmin_s z v) = c_distm z := rfl
theorem c_distm_cvals (z : SC) (v : (Nat → Int64)) : c_distm (c_cvals_s z v) = c_distm z := rfl
theorem c_distm_cmin (z : SC) (v : (Nat → Bool)) : c_distm (c_cmin_s z v) = c_distm z := rfl
theorem c_distm_cfirst (z : SC) (v : Int32) : c_distm (c_cfirst_s z v) = c_distm z := rfl
theorem c_distm_ccount (z : SC) (v : Int32) : c_distm (c_ccount_s z v) = c_distm z := rfl
theorem c_distm_words (z : SC) (v : (Nat → Int64)) : c_distm (c_words_s z v) = c_distm z := rfl
theorem c_distm_pcount (z : SC) (v : Int32) : c_distm (c_pcount_s z v) = c_distm z := rfl
theorem c_distm_dist (z : SC) (v : Int64) : c_distm (c_dist_s z v) = c_distm z := rfl
theorem c_distm_distm (z : SC) (v : Bool) : c_distm (c_distm_s z v) = v := rfl
theorem c_distm_nxt (z : SC) (v : Int32) : c_distm (c_nxt_s z v) = c_distm z := rfl
theorem c_distm_cause (z : SC) (v : Int32) : c_distm (c_cause_s z v) = c_distm z := rfl
theorem c_distm_time (z : SC) (v : Int64) : c_distm (c_time_s z v) = c_distm z := rfl
theorem c_distm_upper (z : SC) (v : Int64) : c_distm (c_upper_s z v) = c_distm z := rfl
theorem c_distm_lower (z : SC) (v : Int64) : c_distm (c_lower_s z v) = c_distm z := rfl
theorem c_distm_amin (z : SC) (v : Bool) : c_distm (c_amin_s z v) = c_distm z := rfl
theorem c_distm_ovf (z : SC) (v : Bool) : c_distm (c_ovf_s z v) = c_distm z := rfl
theorem c_distm_lparts (z : SC) (v : (Nat → Int32)) : c_distm (c_lparts_s z v) = c_distm z := rfl
theorem c_distm_ops (z : SC) (v : (Nat → Int32)) : c_distm (c_ops_s z v) = c_distm z := rfl
theorem c_distm_dparts (z : SC) (v : (Nat → Int32)) : c_distm (c_dparts_s z v) = c_distm z := rfl
theorem c_distm_nparts (z : SC) (v : (Nat → Int32)) : c_distm (c_nparts_s z v) = c_distm z := rfl
theorem c_distm_locs (z : SC) (v : (Nat → Int32)) : c_distm (c_locs_s z v) = c_distm z := rfl
theorem c_distm_dat (z : SC) (v : (Nat → Int32)) : c_distm (c_dat_s z v) = c_distm z := rfl
theorem c_distm_nexts (z : SC) (v : (Nat → Int32)) : c_distm (c_nexts_s z v) = c_distm z := rfl
theorem c_distm_syms (z : SC) (v : (Nat → Int32)) : c_distm (c_syms_s z v) = c_distm z := rfl
theorem c_distm_resv (z : SC) (v : (Nat → Bool)) : c_distm (c_resv_s z v) = c_distm z := rfl
theorem c_distm_taken (z : SC) (v : (Nat → Bool)) : c_distm (c_taken_s z v) = c_distm z := rfl
theorem c_distm_acount (z : SC) (v : Int32) : c_distm (c_acount_s z v) = c_distm z := rfl
theorem c_nxt_codes (z : SC) (v : (Nat → Int32)) : c_nxt (c_codes_s z v) = c_nxt z := rfl
theorem c_nxt_vals (z : SC) (v : (Nat → Int64)) : c_nxt (c_vals_s z v) = c_nxt z := rfl
theorem c_nxt_dmin (z : SC) (v : (Nat → Bool)) : c_nxt (c_dmin_s z v) = c_nxt z := rfl
theorem c_nxt_cvals (z : SC) (v : (Nat → Int64)) : c_nxt (c_cvals_s z v) = c_nxt z := rfl
theorem c_nxt_cmin (z : SC) (v : (Nat → Bool)) : c_nxt (c_cmin_s z v) = c_nxt z := rfl
theorem c_nxt_cfirst (z : SC) (v : Int32) : c_nxt (c_cfirst_s z v) = c_nxt z := rfl
theorem c_nxt_ccount (z : SC) (v : Int32) : c_nxt (c_ccount_s z v) = c_nxt z := rfl
theorem c_nxt_words (z : SC) (v : (Nat → Int64)) : c_nxt (c_words_s z v) = c_nxt z := rfl
theorem c_nxt_pcount (z : SC) (v : Int32) : c_nxt (c_pcount_s z v) = c_nxt z := rfl
theorem c_nxt_dist (z : SC) (v : Int64) : c_nxt (c_dist_s z v) = c_nxt z := rfl
theorem c_nxt_distm (z : SC) (v : Bool) : c_nxt (c_distm_s z v) = c_nxt z := rfl
theorem c_nxt_nxt (z : SC) (v : Int32) : c_nxt (c_nxt_s z v) = v := rfl
theorem c_nxt_cause (z : SC) (v : Int32) : c_nxt (c_cause_s z v) = c_nxt z := rfl
theorem c_nxt_time (z : SC) (v : Int64) : c_nxt (c_time_s z v) = c_nxt z := rfl
theorem c_nxt_upper (z : SC) (v : Int64) : c_nxt (c_upper_s z v) = c_nxt z := rfl
theorem c_nxt_lower (z : SC) (v : Int64) : c_nxt (c_lower_s z v) = c_nxt z := rfl
theorem c_nxt_amin (z : SC) (v : Bool) : c_nxt (c_amin_s z v) = c_nxt z := rfl
theorem c_nxt_ovf (z : SC) (v : Bool) : c_nxt (c_ovf_s z v) = c_nxt z := rfl
theorem c_nxt_lparts (z : SC) (v : (Nat → Int32)) : c_nxt (c_lparts_s z v) = c_nxt z := rfl
theorem c_nxt_ops (z : SC) (v : (Nat → Int32)) : c_nxt (c_ops_s z v) = c_nxt z := rfl
theorem c_nxt_dparts (z : SC) (v : (Nat → Int32)) : c_nxt (c_dparts_s z v) = c_nxt z := rfl
theorem c_nxt_nparts (z : SC) (v : (Nat → Int32)) : c_nxt (c_nparts_s z v) = c_nxt z := rfl
theorem c_nxt_locs (z : SC) (v : (Nat → Int32)) : c_nxt (c_locs_s z v) = c_nxt z := rfl
theorem c_nxt_dat (z : SC) (v : (Nat → Int32)) : c_nxt (c_dat_s z v) = c_nxt z := rfl
theorem c_nxt_nexts (z : SC) (v : (Nat → Int32)) : c_nxt (c_nexts_s z v) = c_nxt z := rfl
theorem c_nxt_syms (z : SC) (v : (Nat → Int32)) : c_nxt (c_syms_s z v) = c_nxt z := rfl
theorem c_nxt_resv (z : SC) (v : (Nat → Bool)) : c_nxt (c_resv_s z v) = c_nxt z := rfl
theorem c_nxt_taken (z : SC) (v : (Nat → Bool)) : c_nxt (c_taken_s z v) = c_nxt z := rfl
theorem c_nxt_acount (z : SC) (v : Int32) : c_nxt (c_acount_s z v) = c_nxt z := rfl
theorem c_cause_codes (z : SC) (v : (Nat → Int32)) : c_cause (c_codes_s z v) = c_cause z := rfl
theorem c_cause_vals (z : SC) (v : (Nat → Int64)) : c_cause (c_vals_s z v) = c_cause z := rfl
theorem c_cause_dmin (z : SC) (v : (Nat → Bool)) : c_cause (c_dmin_s z v) = c_cause z := rfl
theorem c_cause_cvals (z : SC) (v : (Nat → Int64)) : c_cause (c_cvals_s z v) = c_cause z := rfl
theorem c_cause_cmin (z : SC) (v : (Nat → Bool)) : c_cause (c_cmin_s z v) = c_cause z := rfl
theorem c_cause_cfirst (z : SC) (v : Int32) : c_cause (c_cfirst_s z v) = c_cause z := rfl
theorem c_cause_ccount (z : SC) (v : Int32) : c_cause (c_ccount_s z v) = c_cause z := rfl
theorem c_cause_words (z : SC) (v : (Nat → Int64)) : c_cause (c_words_s z v) = c_cause z := rfl
theorem c_cause_pcount (z : SC) (v : Int32) : c_cause (c_pcount_s z v) = c_cause z := rfl
theorem c_cause_dist (z : SC) (v : Int64) : c_cause (c_dist_s z v) = c_cause z := rfl
theorem c_cause_distm (z : SC) (v : Bool) : c_cause (c_distm_s z v) = c_cause z := rfl
theorem c_cause_nxt (z : SC) (v : Int32) : c_cause (c_nxt_s z v) = c_cause z := rfl
theorem c_cause_cause (z : SC) (v : Int32) : c_cause (c_cause_s z v) = v := rfl
theorem c_cause_time (z : SC) (v : Int64) : c_cause (c_time_s z v) = c_cause z := rfl
theorem c_cause_upper (z : SC) (v : Int64) : c_cause (c_upper_s z v) = c_cause z := rfl
theorem c_cause_lower (z : SC) (v : Int64) : c_cause (c_lower_s z v) = c_cause z := rfl
theorem c_cause_amin (z : SC) (v : Bool) : c_cause (c_amin_s z v) = c_cause z := rfl
theorem c_cause_ovf (z : SC) (v : Bool) : c_cause (c_ovf_s z v) = c_cause z := rfl
theorem c_cause_lparts (z : SC) (v : (Nat → Int32)) : c_cause (c_lparts_s z v) = c_cause z := rfl
theorem c_cause_ops (z : SC) (v : (Nat → Int32)) : c_cause (c_ops_s z v) = c_cause z := rfl
theorem c_cause_dparts (z : SC) (v : (Nat → Int32)) : c_cause (c_dparts_s z v) = c_cause z := rfl
theorem c_cause_nparts (z : SC) (v : (Nat → Int32)) : c_cause (c_nparts_s z v) = c_cause z := rfl
theorem c_cause_locs (z : SC) (v : (Nat → Int32)) : c_cause (c_locs_s z v) = c_cause z := rfl
theorem c_cause_dat (z : SC) (v : (Nat → Int32)) : c_cause (c_dat_s z v) = c_cause z := rfl
theorem c_cause_nexts (z : SC) (v : (Nat → Int32)) : c_cause (c_nexts_s z v) = c_cause z := rfl
theorem c_cause_syms (z : SC) (v : (Nat → Int32)) : c_cause (c_syms_s z v) = c_cause z := rfl
theorem c_cause_resv (z : SC) (v : (Nat → Bool)) : c_cause (c_resv_s z v) = c_cause z := rfl
theorem c_cause_taken (z : SC) (v : (Nat → Bool)) : c_cause (c_taken_s z v) = c_cause z := rfl
theorem c_cause_acount (z : SC) (v : Int32) : c_cause (c_acount_s z v) = c_cause z := rfl
theorem c_time_codes (z : SC) (v : (Nat → Int32)) : c_time (c_codes_s z v) = c_time z := rfl
theorem c_time_vals (z : SC) (v : (Nat → Int64)) : c_time (c_vals_s z v) = c_time z := rfl
theorem c_time_dmin (z : SC) (v : (Nat → Bool)) : c_time (c_dmin_s z v) = c_time z := rfl
theorem c_time_cvals (z : SC) (v : (Nat → Int64)) : c_time (c_cvals_s z v) = c_time z := rfl
theorem c_time_cmin (z : SC) (v : (Nat → Bool)) : c_time (c_cmin_s z v) = c_time z := rfl
theorem c_time_cfirst (z : SC) (v : Int32) : c_time (c_cfirst_s z v) = c_time z := rfl
theorem c_time_ccount (z : SC) (v : Int32) : c_time (c_ccount_s z v) = c_time z := rfl
theorem c_time_words (z : SC) (v : (Nat → Int64)) : c_time (c_words_s z v) = c_time z := rfl
theorem c_time_pcount (z : SC) (v : Int32) : c_time (c_pcount_s z v) = c_time z := rfl
theorem c_time_dist (z : SC) (v : Int64) : c_time (c_dist_s z v) = c_time z := rfl
theorem c_time_distm (z : SC) (v : Bool) : c_time (c_distm_s z v) = c_time z := rfl
theorem c_time_nxt (z : SC) (v : Int32) : c_time (c_nxt_s z v) = c_time z := rfl
theorem c_time_cause (z : SC) (v : Int32) : c_time (c_cause_s z v) = c_time z := rfl
theorem c_time_time (z : SC) (v : Int64) : c_time (c_time_s z v) = v := rfl
theorem c_time_upper (z : SC) (v : Int64) : c_time (c_upper_s z v) = c_time z := rfl
theorem c_time_lower (z : SC) (v : Int64) : c_time (c_lower_s z v) = c_time z := rfl
theorem c_time_amin (z : SC) (v : Bool) : c_time (c_amin_s z v) = c_time z := rfl
theorem c_time_ovf (z : SC) (v : Bool) : c_time (c_ovf_s z v) = c_time z := rfl
theorem c_time_lparts (z : SC) (v : (Nat → Int32)) : c_time (c_lparts_s z v) = c_time z := rfl
theorem c_time_ops (z : SC) (v : (Nat → Int32)) : c_time (c_ops_s z v) = c_time z := rfl
theorem c_time_dparts (z : SC) (v : (Nat → Int32)) : c_time (c_dparts_s z v) = c_time z := rfl
theorem c_time_nparts (z : SC) (v : (Nat → Int32)) : c_time (c_nparts_s z v) = c_time z := rfl
theorem c_time_locs (z : SC) (v : (Nat → Int32)) : c_time (c_locs_s z v) = c_time z := rfl
theorem c_time_dat (z : SC) (v : (Nat → Int32)) : c_time (c_dat_s z v) = c_time z := rfl
theorem c_time_nexts (z : SC) (v : (Nat → Int32)) : c_time (c_nexts_s z v) = c_time z := rfl
theorem c_time_syms (z : SC) (v : (Nat → Int32)) : c_time (c_syms_s z v) = c_time z := rfl
theorem c_time_resv (z : SC) (v : (Nat → Bool)) : c_time (c_resv_s z v) = c_time z := rfl
theorem c_time_taken (z : SC) (v : (Nat → Bool)) : c_time (c_taken_s z v) = c_time z := rfl
theorem c_time_acount (z : SC) (v : Int32) : c_time (c_acount_s z v) = c_time z := rfl
theorem c_upper_codes (z : SC) (v : (Nat → Int32)) : c_upper (c_codes_s z v) = c_upper z := rfl
theorem c_upper_vals (z : SC) (v : (Nat → Int64)) : c_upper (c_vals_s z v) = c_upper z := rfl
theorem c_upper_dmin (z : SC) (v : (Nat → Bool)) : c_upper (c_dmin_s z v) = c_upper z := rfl
theorem c_upper_cvals (z : SC) (v : (Nat → Int64)) : c_upper (c_cvals_s z v) = c_upper z := rfl
theorem c_upper_cmin (z : SC) (v : (Nat → Bool)) : c_upper (c_cmin_s z v) = c_upper z := rfl
theorem c_upper_cfirst (z : SC) (v : Int32) : c_upper (c_cfirst_s z v) = c_upper z := rfl
theorem c_upper_ccount (z : SC) (v : Int32) : c_upper (c_ccount_s z v) = c_upper z := rfl
theorem c_upper_words (z : SC) (v : (Nat → Int64)) : c_upper (c_words_s z v) = c_upper z := rfl
theorem c_upper_pcount (z : SC) (v : Int32) : c_upper (c_pcount_s z v) = c_upper z := rfl
theorem c_upper_dist (z : SC) (v : Int64) : c_upper (c_dist_s z v) = c_upper z := rfl
theorem c_upper_distm (z : SC) (v : Bool) : c_upper (c_distm_s z v) = c_upper z := rfl
theorem c_upper_nxt (z : SC) (v : Int32) : c_upper (c_nxt_s z v) = c_upper z := rfl
theorem c_upper_cause (z : SC) (v : Int32) : c_upper (c_cause_s z v) = c_upper z := rfl
theorem c_upper_time (z : SC) (v : Int64) : c_upper (c_time_s z v) = c_upper z := rfl
theorem c_upper_upper (z : SC) (v : Int64) : c_upper (c_upper_s z v) = v := rfl
theorem c_upper_lower (z : SC) (v : Int64) : c_upper (c_lower_s z v) = c_upper z := rfl
theorem c_upper_amin (z : SC) (v : Bool) : c_upper (c_amin_s z v) = c_upper z := rfl
theorem c_upper_ovf (z : SC) (v : Bool) : c_upper (c_ovf_s z v) = c_upper z := rfl
theorem c_upper_lparts (z : SC) (v : (Nat → Int32)) : c_upper (c_lparts_s z v) = c_upper z := rfl
theorem c_upper_ops (z : SC) (v : (Nat → Int32)) : c_upper (c_ops_s z v) = c_upper z := rfl
theorem c_upper_dparts (z : SC) (v : (Nat → Int32)) : c_upper (c_dparts_s z v) = c_upper z := rfl
theorem c_upper_nparts (z : SC) (v : (Nat → Int32)) : c_upper (c_nparts_s z v) = c_upper z := rfl
theorem c_upper_locs (z : SC) (v : (Nat → Int32)) : c_upper (c_locs_s z v) = c_upper z := rfl
theorem c_upper_dat (z : SC) (v : (Nat → Int32)) : c_upper (c_dat_s z v) = c_upper z := rfl
theorem c_upper_nexts (z : SC) (v : (Nat → Int32)) : c_upper (c_nexts_s z v) = c_upper z := rfl
theorem c_upper_syms (z : SC) (v : (Nat → Int32)) : c_upper (c_syms_s z v) = c_upper z := rfl
theorem c_upper_resv (z : SC) (v : (Nat → Bool)) : c_upper (c_resv_s z v) = c_upper z := rfl
theorem c_upper_taken (z : SC) (v : (Nat → Bool)) : c_upper (c_taken_s z v) = c_upper z := rfl
theorem c_upper_acount (z : SC) (v : Int32) : c_upper (c_acount_s z v) = c_upper z := rfl
theorem c_lower_codes (z : SC) (v : (Nat → Int32)) : c_lower (c_codes_s z v) = c_lower z := rfl
theorem c_lower_vals (z : SC) (v : (Nat → Int64)) : c_lower (c_vals_s z v) = c_lower z := rfl
theorem c_lower_dmin (z : SC) (v : (Nat → Bool)) : c_lower (c_dmin_s z v) = c_lower z := rfl
theorem c_lower_cvals (z : SC) (v : (Nat → Int64)) : c_lower (c_cvals_s z v) = c_lower z := rfl
theorem c_lower_cmin (z : SC) (v : (Nat → Bool)) : c_lower (c_cmin_s z v) = c_lower z := rfl
theorem c_lower_cfirst (z : SC) (v : Int32) : c_lower (c_cfirst_s z v) = c_lower z := rfl
theorem c_lower_ccount (z : SC) (v : Int32) : c_lower (c_ccount_s z v) = c_lower z := rfl
theorem c_lower_words (z : SC) (v : (Nat → Int64)) : c_lower (c_words_s z v) = c_lower z := rfl
theorem c_lower_pcount (z : SC) (v : Int32) : c_lower (c_pcount_s z v) = c_lower z := rfl
theorem c_lower_dist (z : SC) (v : Int64) : c_lower (c_dist_s z v) = c_lower z := rfl
theorem c_lower_distm (z : SC) (v : Bool) : c_lower (c_distm_s z v) = c_lower z := rfl
theorem c_lower_nxt (z : SC) (v : Int32) : c_lower (c_nxt_s z v) = c_lower z := rfl
theorem c_lower_cause (z : SC) (v : Int32) : c_lower (c_cause_s z v) = c_lower z := rfl
theorem c_lower_time (z : SC) (v : Int64) : c_lower (c_time_s z v) = c_lower z := rfl
theorem c_lower_upper (z : SC) (v : Int64) : c_lower (c_upper_s z v) = c_lower z := rfl
theorem c_lower_lower (z : SC) (v : Int64) : c_lower (c_lower_s z v) = v := rfl
theorem c_lower_amin (z : SC) (v : Bool) : c_lower (c_amin_s z v) = c_lower z := rfl
theorem c_lower_ovf (z : SC) (v : Bool) : c_lower (c_ovf_s z v) = c_lower z := rfl
theorem c_lower_lparts (z : SC) (v : (Nat → Int32)) : c_lower (c_lparts_s z v) = c_lower z := rfl
theorem c_lower_ops (z : SC) (v : (Nat → Int32)) : c_lower (c_ops_s z v) = c_lower z := rfl
theorem c_lower_dparts (z : SC) (v : (Nat → Int32)) : c_lower (c_dparts_s z v) = c_lower z := rfl
theorem c_lower_nparts (z : SC) (v : (Nat → Int32)) : c_lower (c_nparts_s z v) = c_lower z := rfl
theorem c_lower_locs (z : SC) (v : (Nat → Int32)) : c_lower (c_locs_s z v) = c_lower z := rfl
theorem c_lower_dat (z : SC) (v : (Nat → Int32)) : c_lower (c_dat_s z v) = c_lower z := rfl
theorem c_lower_nexts (z : SC) (v : (Nat → Int32)) : c_lower (c_nexts_s z v) = c_lower z := rfl
theorem c_lower_syms (z : SC) (v : (Nat → Int32)) : c_lower (c_syms_s z v) = c_lower z := rfl
theorem c_lower_resv (z : SC) (v : (Nat → Bool)) : c_lower (c_resv_s z v) = c_lower z := rfl
theorem c_lower_taken (z : SC) (v : (Nat → Bool)) : c_lower (c_taken_s z v) = c_lower z := rfl
theorem c_lower_acount (z : SC) (v : Int32) : c_lower (c_acount_s z v) = c_lower z := rfl
theorem c_amin_codes (z : SC) (v : (Nat → Int32)) : c_amin (c_codes_s z v) = c_amin z := rfl
theorem c_amin_vals (z : SC) (v : (Nat → Int64)) : c_amin (c_vals_s z v) = c_amin z := rfl
theorem c_amin_dmin (z : SC) (v : (Nat → Bool)) : c_amin (c_dmin_s z v) = c_amin z := rfl
theorem c_amin_cvals (z : SC) (v : (Nat → Int64)) : c_amin (c_cvals_s z v) = c_amin z := rfl
theorem c_amin_cmin (z : SC) (v : (Nat → Bool)) : c_amin (c_cmin_s z v) = c_amin z := rfl
theorem c_amin_cfirst (z : SC) (v : Int32) : c_amin (c_cfirst_s z v) = c_amin z := rfl
theorem c_amin_ccount (z : SC) (v : Int32) : c_amin (c_ccount_s z v) = c_amin z := rfl
theorem c_amin_words (z : SC) (v : (Nat → Int64)) : c_amin (c_words_s z v) = c_amin z := rfl
theorem c_amin_pcount (z : SC) (v : Int32) : c_amin (c_pcount_s z v) = c_amin z := rfl
theorem c_amin_dist (z : SC) (v : Int64) : c_amin (c_dist_s z v) = c_amin z := rfl
theorem c_amin_distm (z : SC) (v : Bool) : c_amin (c_distm_s z v) = c_amin z := rfl
theorem c_amin_nxt (z : SC) (v : Int32) : c_amin (c_nxt_s z v) = c_amin z := rfl
theorem c_amin_cause (z : SC) (v : Int32) : c_amin (c_cause_s z v) = c_amin z := rfl
theorem c_amin_time (z : SC) (v : Int64) : c_amin (c_time_s z v) = c_amin z := rfl
theorem c_amin_upper (z : SC) (v : Int64) : c_amin (c_upper_s z v) = c_amin z := rfl
theorem c_amin_lower (z : SC) (v : Int64) : c_amin (c_lower_s z v) = c_amin z := rfl
theorem c_amin_amin (z : SC) (v : Bool) : c_amin (c_amin_s z v) = v := rfl
theorem c_amin_ovf (z : SC) (v : Bool) : c_amin (c_ovf_s z v) = c_amin z := rfl
theorem c_amin_lparts (z : SC) (v : (Nat → Int32)) : c_amin (c_lparts_s z v) = c_amin z := rfl
theorem c_amin_ops (z : SC) (v : (Nat → Int32)) : c_amin (c_ops_s z v) = c_amin z := rfl
theorem c_amin_dparts (z : SC) (v : (Nat → Int32)) : c_amin (c_dparts_s z v) = c_amin z := rfl
theorem c_amin_nparts (z : SC) (v : (Nat → Int32)) : c_amin (c_nparts_s z v) = c_amin z := rfl
theorem c_amin_locs (z : SC) (v : (Nat → Int32)) : c_amin (c_locs_s z v) = c_amin z := rfl
theorem c_amin_dat (z : SC) (v : (Nat → Int32)) : c_amin (c_dat_s z v) = c_amin z := rfl
theorem c_amin_nexts (z : SC) (v : (Nat → Int32)) : c_amin (c_nexts_s z v) = c_amin z := rfl
theorem c_amin_syms (z : SC) (v : (Nat → Int32)) : c_amin (c_syms_s z v) = c_amin z := rfl
theorem c_amin_resv (z : SC) (v : (Nat → Bool)) : c_amin (c_resv_s z v) = c_amin z := rfl
theorem c_amin_taken (z : SC) (v : (Nat → Bool)) : c_amin (c_taken_s z v) = c_amin z := rfl
theorem c_amin_acount (z : SC) (v : Int32) : c_amin (c_acount_s z v) = c_amin z := rfl
theorem c_ovf_codes (z : SC) (v : (Nat → Int32)) : c_ovf (c_codes_s z v) = c_ovf z := rfl
theorem c_ovf_vals (z : SC) (v : (Nat → Int64)) : c_ovf (c_vals_s z v) = c_ovf z := rfl
theorem c_ovf_dmin (z : SC) (v : (Nat → Bool)) : c_ovf (c_dmin_s z v) = c_ovf z := rfl
theorem c_ovf_cvals (z : SC) (v : (Nat → Int64)) : c_ovf (c_cvals_s z v) = c_ovf z := rfl
theorem c_ovf_cmin (z : SC) (v : (Nat → Bool)) : c_ovf (c_cmin_s z v) = c_ovf z := rfl
theorem c_ovf_cfirst (z : SC) (v : Int32) : c_ovf (c_cfirst_s z v) = c_ovf z := rfl
theorem c_ovf_ccount (z : SC) (v : Int32) : c_ovf (c_ccount_s z v) = c_ovf z := rfl
theorem c_ovf_words (z : SC) (v : (Nat → Int64)) : c_ovf (c_words_s z v) = c_ovf z := rfl
theorem c_ovf_pcount (z : SC) (v : Int32) : c_ovf (c_pcount_s z v) = c_ovf z := rfl
theorem c_ovf_dist (z : SC) (v : Int64) : c_ovf (c_dist_s z v) = c_ovf z := rfl
theorem c_ovf_distm (z : SC) (v : Bool) : c_ovf (c_distm_s z v) = c_ovf z := rfl
theorem c_ovf_nxt (z : SC) (v : Int32) : c_ovf (c_nxt_s z v) = c_ovf z := rfl
theorem c_ovf_cause (z : SC) (v : Int32) : c_ovf (c_cause_s z v) = c_ovf z := rfl
theorem c_ovf_time (z : SC) (v : Int64) : c_ovf (c_time_s z v) = c_ovf z := rfl
theorem c_ovf_upper (z : SC) (v : Int64) : c_ovf (c_upper_s z v) = c_ovf z := rfl
theorem c_ovf_lower (z : SC) (v : Int64) : c_ovf (c_lower_s z v) = c_ovf z := rfl
theorem c_ovf_amin (z : SC) (v : Bool) : c_ovf (c_amin_s z v) = c_ovf z := rfl
theorem c_ovf_ovf (z : SC) (v : Bool) : c_ovf (c_ovf_s z v) = v := rfl
theorem c_ovf_lparts (z : SC) (v : (Nat → Int32)) : c_ovf (c_lparts_s z v) = c_ovf z := rfl
theorem c_ovf_ops (z : SC) (v : (Nat → Int32)) : c_ovf (c_ops_s z v) = c_ovf z := rfl
theorem c_ovf_dparts (z : SC) (v : (Nat → Int32)) : c_ovf (c_dparts_s z v) = c_ovf z := rfl
theorem c_ovf_nparts (z : SC) (v : (Nat → Int32)) : c_ovf (c_nparts_s z v) = c_ovf z := rfl
theorem c_ovf_locs (z : SC) (v : (Nat → Int32)) : c_ovf (c_locs_s z v) = c_ovf z := rfl
theorem c_ovf_dat (z : SC) (v : (Nat → Int32)) : c_ovf (c_dat_s z v) = c_ovf z := rfl
theorem c_ovf_nexts (z : SC) (v : (Nat → Int32)) : c_ovf (c_nexts_s z v) = c_ovf z := rfl
theorem c_ovf_syms (z : SC) (v : (Nat → Int32)) : c_ovf (c_syms_s z v) = c_ovf z := rfl
theorem c_ovf_resv (z : SC) (v : (Nat → Bool)) : c_ovf (c_resv_s z v) = c_ovf z := rfl
theorem c_ovf_taken (z : SC) (v : (Nat → Bool)) : c_ovf (c_taken_s z v) = c_ovf z := rfl
theorem c_ovf_acount (z : SC) (v : Int32) : c_ovf (c_acount_s z v) = c_ovf z := rfl
theorem c_lparts_codes (z : SC) (v : (Nat → Int32)) : c_lparts (c_codes_s z v) = c_lparts z := rfl
theorem c_lparts_vals (z : SC) (v : (Nat → Int64)) : c_lparts (c_vals_s z v) = c_lparts z := rfl
theorem c_lparts_dmin (z : SC) (v : (Nat → Bool)) : c_lparts (c_dmin_s z v) = c_lparts z := rfl
theorem c_lparts_cvals (z : SC) (v : (Nat → Int64)) : c_lparts (c_cvals_s z v) = c_lparts z := rfl
theorem c_lparts_cmin (z : SC) (v : (Nat → Bool)) : c_lparts (c_cmin_s z v) = c_lparts z := rfl
theorem c_lparts_cfirst (z : SC) (v : Int32) : c_lparts (c_cfirst_s z v) = c_lparts z := rfl
theorem c_lparts_ccount (z : SC) (v : Int32) : c_lparts (c_ccount_s z v) = c_lparts z := rfl
theorem c_lparts_words (z : SC) (v : (Nat → Int64)) : c_lparts (c_words_s z v) = c_lparts z := rfl
theorem c_lparts_pcount (z : SC) (v : Int32) : c_lparts (c_pcount_s z v) = c_lparts z := rfl
theorem c_lparts_dist (z : SC) (v : Int64) : c_lparts (c_dist_s z v) = c_lparts z := rfl
theorem c_lparts_distm (z : SC) (v : Bool) : c_lparts (c_distm_s z v) = c_lparts z := rfl
theorem c_lparts_nxt (z : SC) (v : Int32) : c_lparts (c_nxt_s z v) = c_lparts z := rfl
theorem c_lparts_cause (z : SC) (v : Int32) : c_lparts (c_cause_s z v) = c_lparts z := rfl
theorem c_lparts_time (z : SC) (v : Int64) : c_lparts (c_time_s z v) = c_lparts z := rfl
theorem c_lparts_upper (z : SC) (v : Int64) : c_lparts (c_upper_s z v) = c_lparts z := rfl
theorem c_lparts_lower (z : SC) (v : Int64) : c_lparts (c_lower_s z v) = c_lparts z := rfl
theorem c_lparts_amin (z : SC) (v : Bool) : c_lparts (c_amin_s z v) = c_lparts z := rfl
theorem c_lparts_ovf (z : SC) (v : Bool) : c_lparts (c_ovf_s z v) = c_lparts z := rfl
theorem c_lparts_lparts (z : SC) (v : (Nat → Int32)) : c_lparts (c_lparts_s z v) = v := rfl
theorem c_lparts_ops (z : SC) (v : (Nat → Int32)) : c_lparts (c_ops_s z v) = c_lparts z := rfl
theorem c_lparts_dparts (z : SC) (v : (Nat → Int32)) : c_lparts (c_dparts_s z v) = c_lparts z := rfl
theorem c_lparts_nparts (z : SC) (v : (Nat → Int32)) : c_lparts (c_nparts_s z v) = c_lparts z := rfl
theorem c_lparts_locs (z : SC) (v : (Nat → Int32)) : c_lparts (c_locs_s z v) = c_lparts z := rfl
theorem c_lparts_dat (z : SC) (v : (Nat → Int32)) : c_lparts (c_dat_s z v) = c_lparts z := rfl
theorem c_lparts_nexts (z : SC) (v : (Nat → Int32)) : c_lparts (c_nexts_s z v) = c_lparts z := rfl
theorem c_lparts_syms (z : SC) (v : (Nat → Int32)) : c_lparts (c_syms_s z v) = c_lparts z := rfl
theorem c_lparts_resv (z : SC) (v : (Nat → Bool)) : c_lparts (c_resv_s z v) = c_lparts z := rfl
theorem c_lparts_taken (z : SC) (v : (Nat → Bool)) : c_lparts (c_taken_s z v) = c_lparts z := rfl
theorem c_lparts_acount (z : SC) (v : Int32) : c_lparts (c_acount_s z v) = c_lparts z := rfl
theorem c_ops_codes (z : SC) (v : (Nat → Int32)) : c_ops (c_codes_s z v) = c_ops z := rfl
theorem c_ops_vals (z : SC) (v : (Nat → Int64)) : c_ops (c_vals_s z v) = c_ops z := rfl
theorem c_ops_dmin (z : SC) (v : (Nat → Bool)) : c_ops (c_dmin_s z v) = c_ops z := rfl
theorem c_ops_cvals (z : SC) (v : (Nat → Int64)) : c_ops (c_cvals_s z v) = c_ops z := rfl
theorem c_ops_cmin (z : SC) (v : (Nat → Bool)) : c_ops (c_cmin_s z v) = c_ops z := rfl
theorem c_ops_cfirst (z : SC) (v : Int32) : c_ops (c_cfirst_s z v) = c_ops z := rfl
theorem c_ops_ccount (z : SC) (v : Int32) : c_ops (c_ccount_s z v) = c_ops z := rfl
theorem c_ops_words (z : SC) (v : (Nat → Int64)) : c_ops (c_words_s z v) = c_ops z := rfl
theorem c_ops_pcount (z : SC) (v : Int32) : c_ops (c_pcount_s z v) = c_ops z := rfl
theorem c_ops_dist (z : SC) (v : Int64) : c_ops (c_dist_s z v) = c_ops z := rfl
theorem c_ops_distm (z : SC) (v : Bool) : c_ops (c_distm_s z v) = c_ops z := rfl
theorem c_ops_nxt (z : SC) (v : Int32) : c_ops (c_nxt_s z v) = c_ops z := rfl
theorem c_ops_cause (z : SC) (v : Int32) : c_ops (c_cause_s z v) = c_ops z := rfl
theorem c_ops_time (z : SC) (v : Int64) : c_ops (c_time_s z v) = c_ops z := rfl
theorem c_ops_upper (z : SC) (v : Int64) : c_ops (c_upper_s z v) = c_ops z := rfl
theorem c_ops_lower (z : SC) (v : Int64) : c_ops (c_lower_s z v) = c_ops z := rfl
theorem c_ops_amin (z : SC) (v : Bool) : c_ops (c_amin_s z v) = c_ops z := rfl
theorem c_ops_ovf (z : SC) (v : Bool) : c_ops (c_ovf_s z v) = c_ops z := rfl
theorem c_ops_lparts (z : SC) (v : (Nat → Int32)) : c_ops (c_lparts_s z v) = c_ops z := rfl
theorem c_ops_ops (z : SC) (v : (Nat → Int32)) : c_ops (c_ops_s z v) = v := rfl
theorem c_ops_dparts (z : SC) (v : (Nat → Int32)) : c_ops (c_dparts_s z v) = c_ops z := rfl
theorem c_ops_nparts (z : SC) (v : (Nat → Int32)) : c_ops (c_nparts_s z v) = c_ops z := rfl
theorem c_ops_locs (z : SC) (v : (Nat → Int32)) : c_ops (c_locs_s z v) = c_ops z := rfl
theorem c_ops_dat (z : SC) (v : (Nat → Int32)) : c_ops (c_dat_s z v) = c_ops z := rfl
theorem c_ops_nexts (z : SC) (v : (Nat → Int32)) : c_ops (c_nexts_s z v) = c_ops z := rfl
theorem c_ops_syms (z : SC) (v : (Nat → Int32)) : c_ops (c_syms_s z v) = c_ops z := rfl
theorem c_ops_resv (z : SC) (v : (Nat → Bool)) : c_ops (c_resv_s z v) = c_ops z := rfl
theorem c_ops_taken (z : SC) (v : (Nat → Bool)) : c_ops (c_taken_s z v) = c_ops z := rfl
theorem c_ops_acount (z : SC) (v : Int32) : c_ops (c_acount_s z v) = c_ops z := rfl
theorem c_dparts_codes (z : SC) (v : (Nat → Int32)) : c_dparts (c_codes_s z v) = c_dparts z := rfl
theorem c_dparts_vals (z : SC) (v : (Nat → Int64)) : c_dparts (c_vals_s z v) = c_dparts z := rfl
theorem c_dparts_dmin (z : SC) (v : (Nat → Bool)) : c_dparts (c_dmin_s z v) = c_dparts z := rfl
theorem c_dparts_cvals (z : SC) (v : (Nat → Int64)) : c_dparts (c_cvals_s z v) = c_dparts z := rfl
theorem c_dparts_cmin (z : SC) (v : (Nat → Bool)) : c_dparts (c_cmin_s z v) = c_dparts z := rfl
theorem c_dparts_cfirst (z : SC) (v : Int32) : c_dparts (c_cfirst_s z v) = c_dparts z := rfl
theorem c_dparts_ccount (z : SC) (v : Int32) : c_dparts (c_ccount_s z v) = c_dparts z := rfl
theorem c_dparts_words (z : SC) (v : (Nat → Int64)) : c_dparts (c_words_s z v) = c_dparts z := rfl
theorem c_dparts_pcount (z : SC) (v : Int32) : c_dparts (c_pcount_s z v) = c_dparts z := rfl
theorem c_dparts_dist (z : SC) (v : Int64) : c_dparts (c_dist_s z v) = c_dparts z := rfl
theorem c_dparts_distm (z : SC) (v : Bool) : c_dparts (c_distm_s z v) = c_dparts z := rfl
theorem c_dparts_nxt (z : SC) (v : Int32) : c_dparts (c_nxt_s z v) = c_dparts z := rfl
theorem c_dparts_cause (z : SC) (v : Int32) : c_dparts (c_cause_s z v) = c_dparts z := rfl
theorem c_dparts_time (z : SC) (v : Int64) : c_dparts (c_time_s z v) = c_dparts z := rfl
theorem c_dparts_upper (z : SC) (v : Int64) : c_dparts (c_upper_s z v) = c_dparts z := rfl
theorem c_dparts_lower (z : SC) (v : Int64) : c_dparts (c_lower_s z v) = c_dparts z := rfl
theorem c_dparts_amin (z : SC) (v : Bool) : c_dparts (c_amin_s z v) = c_dparts z := rfl
theorem c_dparts_ovf (z : SC) (v : Bool) : c_dparts (c_ovf_s z v) = c_dparts z := rfl
theorem c_dparts_lparts (z : SC) (v : (Nat → Int32)) : c_dparts (c_lparts_s z v) = c_dparts z := rfl
theorem c_dparts_ops (z : SC) (v : (Nat → Int32)) : c_dparts (c_ops_s z v) = c_dparts z := rfl
theorem c_dparts_dparts (z : SC) (v : (Nat → Int32)) : c_dparts (c_dparts_s z v) = v := rfl
theorem c_dparts_nparts (z : SC) (v : (Nat → Int32)) : c_dparts (c_nparts_s z v) = c_dparts z := rfl
theorem c_dparts_locs (z : SC) (v : (Nat → Int32)) : c_dparts (c_locs_s z v) = c_dparts z := rfl
theorem c_dparts_dat (z : SC) (v : (Nat → Int32)) : c_dparts (c_dat_s z v) = c_dparts z := rfl
theorem c_dparts_nexts (z : SC) (v : (Nat → Int32)) : c_dparts (c_nexts_s z v) = c_dparts z := rfl
theorem c_dparts_syms (z : SC) (v : (Nat → Int32)) : c_dparts (c_syms_s z v) = c_dparts z := rfl
theorem c_dparts_resv (z : SC) (v : (Nat → Bool)) : c_dparts (c_resv_s z v) = c_dparts z := rfl
theorem c_dparts_taken (z : SC) (v : (Nat → Bool)) : c_dparts (c_taken_s z v) = c_dparts z := rfl
theorem c_dparts_acount (z : SC) (v : Int32) : c_dparts (c_acount_s z v) = c_dparts z := rfl
theorem c_nparts_codes (z : SC) (v : (Nat → Int32)) : c_nparts (c_codes_s z v) = c_nparts z := rfl
theorem c_nparts_vals (z : SC) (v : (Nat → Int64)) : c_nparts (c_vals_s z v) = c_nparts z := rfl
theorem c_nparts_dmin (z : SC) (v : (Nat → Bool)) : c_nparts (c_dmin_s z v) = c_nparts z := rfl
theorem c_nparts_cvals (z : SC) (v : (Nat → Int64)) : c_nparts (c_cvals_s z v) = c_nparts z := rfl
theorem c_nparts_cmin (z : SC) (v : (Nat → Bool)) : c_nparts (c_cmin_s z v) = c_nparts z := rfl
theorem c_nparts_cfirst (z : SC) (v : Int32) : c_nparts (c_cfirst_s z v) = c_nparts z := rfl
theorem c_nparts_ccount (z : SC) (v : Int32) : c_nparts (c_ccount_s z v) = c_nparts z := rfl
theorem c_nparts_words (z : SC) (v : (Nat → Int64)) : c_nparts (c_words_s z v) = c_nparts z := rfl
theorem c_nparts_pcount (z : SC) (v : Int32) : c_nparts (c_pcount_s z v) = c_nparts z := rfl
theorem c_nparts_dist (z : SC) (v : Int64) : c_nparts (c_dist_s z v) = c_nparts z := rfl
theorem c_nparts_distm (z : SC) (v : Bool) : c_nparts (c_distm_s z v) = c_nparts z := rfl
theorem c_nparts_nxt (z : SC) (v : Int32) : c_nparts (c_nxt_s z v) = c_nparts z := rfl
theorem c_nparts_cause (z : SC) (v : Int32) : c_nparts (c_cause_s z v) = c_nparts z := rfl
theorem c_nparts_time (z : SC) (v : Int64) : c_nparts (c_time_s z v) = c_nparts z := rfl
theorem c_nparts_upper (z : SC) (v : Int64) : c_nparts (c_upper_s z v) = c_nparts z := rfl
theorem c_nparts_lower (z : SC) (v : Int64) : c_nparts (c_lower_s z v) = c_nparts z := rfl
theorem c_nparts_amin (z : SC) (v : Bool) : c_nparts (c_amin_s z v) = c_nparts z := rfl
theorem c_nparts_ovf (z : SC) (v : Bool) : c_nparts (c_ovf_s z v) = c_nparts z := rfl
theorem c_nparts_lparts (z : SC) (v : (Nat → Int32)) : c_nparts (c_lparts_s z v) = c_nparts z := rfl
theorem c_nparts_ops (z : SC) (v : (Nat → Int32)) : c_nparts (c_ops_s z v) = c_nparts z := rfl
theorem c_nparts_dparts (z : SC) (v : (Nat → Int32)) : c_nparts (c_dparts_s z v) = c_nparts z := rfl
theorem c_nparts_nparts (z : SC) (v : (Nat → Int32)) : c_nparts (c_nparts_s z v) = v := rfl
theorem c_nparts_locs (z : SC) (v : (Nat → Int32)) : c_nparts (c_locs_s z v) = c_nparts z := rfl
theorem c_nparts_dat (z : SC) (v : (Nat → Int32)) : c_nparts (c_dat_s z v) = c_nparts z := rfl
theorem c_nparts_nexts (z : SC) (v : (Nat → Int32)) : c_nparts (c_nexts_s z v) = c_nparts z := rfl
theorem c_nparts_syms (z : SC) (v : (Nat → Int32)) : c_nparts (c_syms_s z v) = c_nparts z := rfl
theorem c_nparts_resv (z : SC) (v : (Nat → Bool)) : c_nparts (c_resv_s z v) = c_nparts z := rfl
theorem c_nparts_taken (z : SC) (v : (Nat → Bool)) : c_nparts (c_taken_s z v) = c_nparts z := rfl
theorem c_nparts_acount (z : SC) (v : Int32) : c_nparts (c_acount_s z v) = c_nparts z := rfl
theorem c_locs_codes (z : SC) (v : (Nat → Int32)) : c_locs (c_codes_s z v) = c_locs z := rfl
theorem c_locs_vals (z : SC) (v : (Nat → Int64)) : c_locs (c_vals_s z v) = c_locs z := rfl
theorem c_locs_dmin (z : SC) (v : (Nat → Bool)) : c_locs (c_dmin_s z v) = c_locs z := rfl
theorem c_locs_cvals (z : SC) (v : (Nat → Int64)) : c_locs (c_cvals_s z v) = c_locs z := rfl
theorem c_locs_cmin (z : SC) (v : (Nat → Bool)) : c_locs (c_cmin_s z v) = c_locs z := rfl
theorem c_locs_cfirst (z : SC) (v : Int32) : c_locs (c_cfirst_s z v) = c_locs z := rfl
theorem c_locs_ccount (z : SC) (v : Int32) : c_locs (c_ccount_s z v) = c_locs z := rfl
theorem c_locs_words (z : SC) (v : (Nat → Int64)) : c_locs (c_words_s z v) = c_locs z := rfl
theorem c_locs_pcount (z : SC) (v : Int32) : c_locs (c_pcount_s z v) = c_locs z := rfl
theorem c_locs_dist (z : SC) (v : Int64) : c_locs (c_dist_s z v) = c_locs z := rfl
theorem c_locs_distm (z : SC) (v : Bool) : c_locs (c_distm_s z v) = c_locs z := rfl
theorem c_locs_nxt (z : SC) (v : Int32) : c_locs (c_nxt_s z v) = c_locs z := rfl
theorem c_locs_cause (z : SC) (v : Int32) : c_locs (c_cause_s z v) = c_locs z := rfl
theorem c_locs_time (z : SC) (v : Int64) : c_locs (c_time_s z v) = c_locs z := rfl
theorem c_locs_upper (z : SC) (v : Int64) : c_locs (c_upper_s z v) = c_locs z := rfl
theorem c_locs_lower (z : SC) (v : Int64) : c_locs (c_lower_s z v) = c_locs z := rfl
theorem c_locs_amin (z : SC) (v : Bool) : c_locs (c_amin_s z v) = c_locs z := rfl
theorem c_locs_ovf (z : SC) (v : Bool) : c_locs (c_ovf_s z v) = c_locs z := rfl
theorem c_locs_lparts (z : SC) (v : (Nat → Int32)) : c_locs (c_lparts_s z v) = c_locs z := rfl
theorem c_locs_ops (z : SC) (v : (Nat → Int32)) : c_locs (c_ops_s z v) = c_locs z := rfl
theorem c_locs_dparts (z : SC) (v : (Nat → Int32)) : c_locs (c_dparts_s z v) = c_locs z := rfl
theorem c_locs_nparts (z : SC) (v : (Nat → Int32)) : c_locs (c_nparts_s z v) = c_locs z := rfl
theorem c_locs_locs (z : SC) (v : (Nat → Int32)) : c_locs (c_locs_s z v) = v := rfl
theorem c_locs_dat (z : SC) (v : (Nat → Int32)) : c_locs (c_dat_s z v) = c_locs z := rfl
theorem c_locs_nexts (z : SC) (v : (Nat → Int32)) : c_locs (c_nexts_s z v) = c_locs z := rfl
theorem c_locs_syms (z : SC) (v : (Nat → Int32)) : c_locs (c_syms_s z v) = c_locs z := rfl
theorem c_locs_resv (z : SC) (v : (Nat → Bool)) : c_locs (c_resv_s z v) = c_locs z := rfl
theorem c_locs_taken (z : SC) (v : (Nat → Bool)) : c_locs (c_taken_s z v) = c_locs z := rfl
theorem c_locs_acount (z : SC) (v : Int32) : c_locs (c_acount_s z v) = c_locs z := rfl
theorem c_dat_codes (z : SC) (v : (Nat → Int32)) : c_dat (c_codes_s z v) = c_dat z := rfl
theorem c_dat_vals (z : SC) (v : (Nat → Int64)) : c_dat (c_vals_s z v) = c_dat z := rfl
theorem c_dat_dmin (z : SC) (v : (Nat → Bool)) : c_dat (c_dmin_s z v) = c_dat z := rfl
theorem c_dat_cvals (z : SC) (v : (Nat → Int64)) : c_dat (c_cvals_s z v) = c_dat z := rfl
theorem c_dat_cmin (z : SC) (v : (Nat → Bool)) : c_dat (c_cmin_s z v) = c_dat z := rfl
theorem c_dat_cfirst (z : SC) (v : Int32) : c_dat (c_cfirst_s z v) = c_dat z := rfl
theorem c_dat_ccount (z : SC) (v : Int32) : c_dat (c_ccount_s z v) = c_dat z := rfl
theorem c_dat_words (z : SC) (v : (Nat → Int64)) : c_dat (c_words_s z v) = c_dat z := rfl
theorem c_dat_pcount (z : SC) (v : Int32) : c_dat (c_pcount_s z v) = c_dat z := rfl
theorem c_dat_dist (z : SC) (v : Int64) : c_dat (c_dist_s z v) = c_dat z := rfl
theorem c_dat_distm (z : SC) (v : Bool) : c_dat (c_distm_s z v) = c_dat z := rfl
theorem c_dat_nxt (z : SC) (v : Int32) : c_dat (c_nxt_s z v) = c_dat z := rfl
theorem c_dat_cause (z : SC) (v : Int32) : c_dat (c_cause_s z v) = c_dat z := rfl
theorem c_dat_time (z : SC) (v : Int64) : c_dat (c_time_s z v) = c_dat z := rfl
theorem c_dat_upper (z : SC) (v : Int64) : c_dat (c_upper_s z v) = c_dat z := rfl
theorem c_dat_lower (z : SC) (v : Int64) : c_dat (c_lower_s z v) = c_dat z := rfl
theorem c_dat_amin (z : SC) (v : Bool) : c_dat (c_amin_s z v) = c_dat z := rfl
theorem c_dat_ovf (z : SC) (v : Bool) : c_dat (c_ovf_s z v) = c_dat z := rfl
theorem c_dat_lparts (z : SC) (v : (Nat → Int32)) : c_dat (c_lparts_s z v) = c_dat z := rfl
theorem c_dat_ops (z : SC) (v : (Nat → Int32)) : c_dat (c_ops_s z v) = c_dat z := rfl
theorem c_dat_dparts (z : SC) (v : (Nat → Int32)) : c_dat (c_dparts_s z v) = c_dat z := rfl
theorem c_dat_nparts (z : SC) (v : (Nat → Int32)) : c_dat (c_nparts_s z v) = c_dat z := rfl
theorem c_dat_locs (z : SC) (v : (Nat → Int32)) : c_dat (c_locs_s z v) = c_dat z := rfl
theorem c_dat_dat (z : SC) (v : (Nat → Int32)) : c_dat (c_dat_s z v) = v := rfl
theorem c_dat_nexts (z : SC) (v : (Nat → Int32)) : c_dat (c_nexts_s z v) = c_dat z := rfl
theorem c_dat_syms (z : SC) (v : (Nat → Int32)) : c_dat (c_syms_s z v) = c_dat z := rfl
theorem c_dat_resv (z : SC) (v : (Nat → Bool)) : c_dat (c_resv_s z v) = c_dat z := rfl
theorem c_dat_taken (z : SC) (v : (Nat → Bool)) : c_dat (c_taken_s z v) = c_dat z := rfl
theorem c_dat_acount (z : SC) (v : Int32) : c_dat (c_acount_s z v) = c_dat z := rfl
theorem c_nexts_codes (z : SC) (v : (Nat → Int32)) : c_nexts (c_codes_s z v) = c_nexts z := rfl
theorem c_nexts_vals (z : SC) (v : (Nat → Int64)) : c_nexts (c_vals_s z v) = c_nexts z := rfl
theorem c_nexts_dmin (z : SC) (v : (Nat → Bool)) : c_nexts (c_dmin_s z v) = c_nexts z := rfl
theorem c_nexts_cvals (z : SC) (v : (Nat → Int64)) : c_nexts (c_cvals_s z v) = c_nexts z := rfl
theorem c_nexts_cmin (z : SC) (v : (Nat → Bool)) : c_nexts (c_cmin_s z v) = c_nexts z := rfl
theorem c_nexts_cfirst (z : SC) (v : Int32) : c_nexts (c_cfirst_s z v) = c_nexts z := rfl
theorem c_nexts_ccount (z : SC) (v : Int32) : c_nexts (c_ccount_s z v) = c_nexts z := rfl
theorem c_nexts_words (z : SC) (v : (Nat → Int64)) : c_nexts (c_words_s z v) = c_nexts z := rfl
theorem c_nexts_pcount (z : SC) (v : Int32) : c_nexts (c_pcount_s z v) = c_nexts z := rfl
theorem c_nexts_dist (z : SC) (v : Int64) : c_nexts (c_dist_s z v) = c_nexts z := rfl
theorem c_nexts_distm (z : SC) (v : Bool) : c_nexts (c_distm_s z v) = c_nexts z := rfl
theorem c_nexts_nxt (z : SC) (v : Int32) : c_nexts (c_nxt_s z v) = c_nexts z := rfl
theorem c_nexts_cause (z : SC) (v : Int32) : c_nexts (c_cause_s z v) = c_nexts z := rfl
theorem c_nexts_time (z : SC) (v : Int64) : c_nexts (c_time_s z v) = c_nexts z := rfl
theorem c_nexts_upper (z : SC) (v : Int64) : c_nexts (c_upper_s z v) = c_nexts z := rfl
theorem c_nexts_lower (z : SC) (v : Int64) : c_nexts (c_lower_s z v) = c_nexts z := rfl
theorem c_nexts_amin (z : SC) (v : Bool) : c_nexts (c_amin_s z v) = c_nexts z := rfl
theorem c_nexts_ovf (z : SC) (v : Bool) : c_nexts (c_ovf_s z v) = c_nexts z := rfl
theorem c_nexts_lparts (z : SC) (v : (Nat → Int32)) : c_nexts (c_lparts_s z v) = c_nexts z := rfl
theorem c_nexts_ops (z : SC) (v : (Nat → Int32)) : c_nexts (c_ops_s z v) = c_nexts z := rfl
theorem c_nexts_dparts (z : SC) (v : (Nat → Int32)) : c_nexts (c_dparts_s z v) = c_nexts z := rfl
theorem c_nexts_nparts (z : SC) (v : (Nat → Int32)) : c_nexts (c_nparts_s z v) = c_nexts z := rfl
theorem c_nexts_locs (z : SC) (v : (Nat → Int32)) : c_nexts (c_locs_s z v) = c_nexts z := rfl
theorem c_nexts_dat (z : SC) (v : (Nat → Int32)) : c_nexts (c_dat_s z v) = c_nexts z := rfl
theorem c_nexts_nexts (z : SC) (v : (Nat → Int32)) : c_nexts (c_nexts_s z v) = v := rfl
theorem c_nexts_syms (z : SC) (v : (Nat → Int32)) : c_nexts (c_syms_s z v) = c_nexts z := rfl
theorem c_nexts_resv (z : SC) (v : (Nat → Bool)) : c_nexts (c_resv_s z v) = c_nexts z := rfl
theorem c_nexts_taken (z : SC) (v : (Nat → Bool)) : c_nexts (c_taken_s z v) = c_nexts z := rfl
theorem c_nexts_acount (z : SC) (v : Int32) : c_nexts (c_acount_s z v) = c_nexts z := rfl
theorem c_syms_codes (z : SC) (v : (Nat → Int32)) : c_syms (c_codes_s z v) = c_syms z := rfl
theorem c_syms_vals (z : SC) (v : (Nat → Int64)) : c_syms (c_vals_s z v) = c_syms z := rfl
theorem c_syms_dmin (z : SC) (v : (Nat → Bool)) : c_syms (c_dmin_s z v) = c_syms z := rfl
theorem c_syms_cvals (z : SC) (v : (Nat → Int64)) : c_syms (c_cvals_s z v) = c_syms z := rfl
theorem c_syms_cmin (z : SC) (v : (Nat → Bool)) : c_syms (c_cmin_s z v) = c_syms z := rfl
theorem c_syms_cfirst (z : SC) (v : Int32) : c_syms (c_cfirst_s z v) = c_syms z := rfl
theorem c_syms_ccount (z : SC) (v : Int32) : c_syms (c_ccount_s z v) = c_syms z := rfl
theorem c_syms_words (z : SC) (v : (Nat → Int64)) : c_syms (c_words_s z v) = c_syms z := rfl
theorem c_syms_pcount (z : SC) (v : Int32) : c_syms (c_pcount_s z v) = c_syms z := rfl
theorem c_syms_dist (z : SC) (v : Int64) : c_syms (c_dist_s z v) = c_syms z := rfl
theorem c_syms_distm (z : SC) (v : Bool) : c_syms (c_distm_s z v) = c_syms z := rfl
theorem c_syms_nxt (z : SC) (v : Int32) : c_syms (c_nxt_s z v) = c_syms z := rfl
theorem c_syms_cause (z : SC) (v : Int32) : c_syms (c_cause_s z v) = c_syms z := rfl
theorem c_syms_time (z : SC) (v : Int64) : c_syms (c_time_s z v) = c_syms z := rfl
theorem c_syms_upper (z : SC) (v : Int64) : c_syms (c_upper_s z v) = c_syms z := rfl
theorem c_syms_lower (z : SC) (v : Int64) : c_syms (c_lower_s z v) = c_syms z := rfl
theorem c_syms_amin (z : SC) (v : Bool) : c_syms (c_amin_s z v) = c_syms z := rfl
theorem c_syms_ovf (z : SC) (v : Bool) : c_syms (c_ovf_s z v) = c_syms z := rfl
theorem c_syms_lparts (z : SC) (v : (Nat → Int32)) : c_syms (c_lparts_s z v) = c_syms z := rfl
theorem c_syms_ops (z : SC) (v : (Nat → Int32)) : c_syms (c_ops_s z v) = c_syms z := rfl
theorem c_syms_dparts (z : SC) (v : (Nat → Int32)) : c_syms (c_dparts_s z v) = c_syms z := rfl
theorem c_syms_nparts (z : SC) (v : (Nat → Int32)) : c_syms (c_nparts_s z v) = c_syms z := rfl
theorem c_syms_locs (z : SC) (v : (Nat → Int32)) : c_syms (c_locs_s z v) = c_syms z := rfl
theorem c_syms_dat (z : SC) (v : (Nat → Int32)) : c_syms (c_dat_s z v) = c_syms z := rfl
theorem c_syms_nexts (z : SC) (v : (Nat → Int32)) : c_syms (c_nexts_s z v) = c_syms z := rfl
theorem c_syms_syms (z : SC) (v : (Nat → Int32)) : c_syms (c_syms_s z v) = v := rfl
theorem c_syms_resv (z : SC) (v : (Nat → Bool)) : c_syms (c_resv_s z v) = c_syms z := rfl
theorem c_syms_taken (z : SC) (v : (Nat → Bool)) : c_syms (c_taken_s z v) = c_syms z := rfl
theorem c_syms_acount (z : SC) (v : Int32) : c_syms (c_acount_s z v) = c_syms z := rfl
theorem c_resv_codes (z : SC) (v : (Nat → Int32)) : c_resv (c_codes_s z v) = c_resv z := rfl
theorem c_resv_vals (z : SC) (v : (Nat → Int64)) : c_resv (c_vals_s z v) = c_resv z := rfl
theorem c_resv_dmin (z : SC) (v : (Nat → Bool)) : c_resv (c_dmin_s z v) = c_resv z := rfl
theorem c_resv_cvals (z : SC) (v : (Nat → Int64)) : c_resv (c_cvals_s z v) = c_resv z := rfl
theorem c_resv_cmin (z : SC) (v : (Nat → Bool)) : c_resv (c_cmin_s z v) = c_resv z := rfl
theorem c_resv_cfirst (z : SC) (v : Int32) : c_resv (c_cfirst_s z v) = c_resv z := rfl
theorem c_resv_ccount (z : SC) (v : Int32) : c_resv (c_ccount_s z v) = c_resv z := rfl
theorem c_resv_words (z : SC) (v : (Nat → Int64)) : c_resv (c_words_s z v) = c_resv z := rfl
theorem c_resv_pcount (z : SC) (v : Int32) : c_resv (c_pcount_s z v) = c_resv z := rfl
theorem c_resv_dist (z : SC) (v : Int64) : c_resv (c_dist_s z v) = c_resv z := rfl
theorem c_resv_distm (z : SC) (v : Bool) : c_resv (c_distm_s z v) = c_resv z := rfl
theorem c_resv_nxt (z : SC) (v : Int32) : c_resv (c_nxt_s z v) = c_resv z := rfl
theorem c_resv_cause (z : SC) (v : Int32) : c_resv (c_cause_s z v) = c_resv z := rfl
theorem c_resv_time (z : SC) (v : Int64) : c_resv (c_time_s z v) = c_resv z := rfl
theorem c_resv_upper (z : SC) (v : Int64) : c_resv (c_upper_s z v) = c_resv z := rfl
theorem c_resv_lower (z : SC) (v : Int64) : c_resv (c_lower_s z v) = c_resv z := rfl
theorem c_resv_amin (z : SC) (v : Bool) : c_resv (c_amin_s z v) = c_resv z := rfl
theorem c_resv_ovf (z : SC) (v : Bool) : c_resv (c_ovf_s z v) = c_resv z := rfl
theorem c_resv_lparts (z : SC) (v : (Nat → Int32)) : c_resv (c_lparts_s z v) = c_resv z := rfl
theorem c_resv_ops (z : SC) (v : (Nat → Int32)) : c_resv (c_ops_s z v) = c_resv z := rfl
theorem c_resv_dparts (z : SC) (v : (Nat → Int32)) : c_resv (c_dparts_s z v) = c_resv z := rfl
theorem c_resv_nparts (z : SC) (v : (Nat → Int32)) : c_resv (c_nparts_s z v) = c_resv z := rfl
theorem c_resv_locs (z : SC) (v : (Nat → Int32)) : c_resv (c_locs_s z v) = c_resv z := rfl
theorem c_resv_dat (z : SC) (v : (Nat → Int32)) : c_resv (c_dat_s z v) = c_resv z := rfl
theorem c_resv_nexts (z : SC) (v : (Nat → Int32)) : c_resv (c_nexts_s z v) = c_resv z := rfl
theorem c_resv_syms (z : SC) (v : (Nat → Int32)) : c_resv (c_syms_s z v) = c_resv z := rfl
theorem c_resv_resv (z : SC) (v : (Nat → Bool)) : c_resv (c_resv_s z v) = v := rfl
theorem c_resv_taken (z : SC) (v : (Nat → Bool)) : c_resv (c_taken_s z v) = c_resv z := rfl
theorem c_resv_acount (z : SC) (v : Int32) : c_resv (c_acount_s z v) = c_resv z := rfl
theorem c_taken_codes (z : SC) (v : (Nat → Int32)) : c_taken (c_codes_s z v) = c_taken z := rfl
theorem c_taken_vals (z : SC) (v : (Nat → Int64)) : c_taken (c_vals_s z v) = c_taken z := rfl
theorem c_taken_dmin (z : SC) (v : (Nat → Bool)) : c_taken (c_dmin_s z v) = c_taken z := rfl
theorem c_taken_cvals (z : SC) (v : (Nat → Int64)) : c_taken (c_cvals_s z v) = c_taken z := rfl
theorem c_taken_cmin (z : SC) (v : (Nat → Bool)) : c_taken (c_cmin_s z v) = c_taken z := rfl
theorem c_taken_cfirst (z : SC) (v : Int32) : c_taken (c_cfirst_s z v) = c_taken z := rfl
theorem c_taken_ccount (z : SC) (v : Int32) : c_taken (c_ccount_s z v) = c_taken z := rfl
theorem c_taken_words (z : SC) (v : (Nat → Int64)) : c_taken (c_words_s z v) = c_taken z := rfl
theorem c_taken_pcount (z : SC) (v : Int32) : c_taken (c_pcount_s z v) = c_taken z := rfl
theorem c_taken_dist (z : SC) (v : Int64) : c_taken (c_dist_s z v) = c_taken z := rfl
theorem c_taken_distm (z : SC) (v : Bool) : c_taken (c_distm_s z v) = c_taken z := rfl
theorem c_taken_nxt (z : SC) (v : Int32) : c_taken (c_nxt_s z v) = c_taken z := rfl
theorem c_taken_cause (z : SC) (v : Int32) : c_taken (c_cause_s z v) = c_taken z := rfl
theorem c_taken_time (z : SC) (v : Int64) : c_taken (c_time_s z v) = c_taken z := rfl
theorem c_taken_upper (z : SC) (v : Int64) : c_taken (c_upper_s z v) = c_taken z := rfl
theorem c_taken_lower (z : SC) (v : Int64) : c_taken (c_lower_s z v) = c_taken z := rfl
theorem c_taken_amin (z : SC) (v : Bool) : c_taken (c_amin_s z v) = c_taken z := rfl
theorem c_taken_ovf (z : SC) (v : Bool) : c_taken (c_ovf_s z v) = c_taken z := rfl
theorem c_taken_lparts (z : SC) (v : (Nat → Int32)) : c_taken (c_lparts_s z v) = c_taken z := rfl
theorem c_taken_ops (z : SC) (v : (Nat → Int32)) : c_taken (c_ops_s z v) = c_taken z := rfl
theorem c_taken_dparts (z : SC) (v : (Nat → Int32)) : c_taken (c_dparts_s z v) = c_taken z := rfl
theorem c_taken_nparts (z : SC) (v : (Nat → Int32)) : c_taken (c_nparts_s z v) = c_taken z := rfl
theorem c_taken_locs (z : SC) (v : (Nat → Int32)) : c_taken (c_locs_s z v) = c_taken z := rfl
theorem c_taken_dat (z : SC) (v : (Nat → Int32)) : c_taken (c_dat_s z v) = c_taken z := rfl
theorem c_taken_nexts (z : SC) (v : (Nat → Int32)) : c_taken (c_nexts_s z v) = c_taken z := rfl
theorem c_taken_syms (z : SC) (v : (Nat → Int32)) : c_taken (c_syms_s z v) = c_taken z := rfl
theorem c_taken_resv (z : SC) (v : (Nat → Bool)) : c_taken (c_resv_s z v) = c_taken z := rfl
theorem c_taken_taken (z : SC) (v : (Nat → Bool)) : c_taken (c_taken_s z v) = v := rfl
theorem c_taken_acount (z : SC) (v : Int32) : c_taken (c_acount_s z v) = c_taken z := rfl
theorem c_acount_codes (z : SC) (v : (Nat → Int32)) : c_acount (c_codes_s z v) = c_acount z := rfl
theorem c_acount_vals (z : SC) (v : (Nat → Int64)) : c_acount (c_vals_s z v) = c_acount z := rfl
theorem c_acount_dmin (z : SC) (v : (Nat → Bool)) : c_acount (c_dmin_s z v) = c_acount z := rfl
theorem c_acount_cvals (z : SC) (v : (Nat → Int64)) : c_acount (c_cvals_s z v) = c_acount z := rfl
theorem c_acount_cmin (z : SC) (v : (Nat → Bool)) : c_acount (c_cmin_s z v) = c_acount z := rfl
theorem c_acount_cfirst (z : SC) (v : Int32) : c_acount (c_cfirst_s z v) = c_acount z := rfl
theorem c_acount_ccount (z : SC) (v : Int32) : c_acount (c_ccount_s z v) = c_acount z := rfl
theorem c_acount_words (z : SC) (v : (Nat → Int64)) : c_acount (c_words_s z v) = c_acount z := rfl
theorem c_acount_pcount (z : SC) (v : Int32) : c_acount (c_pcount_s z v) = c_acount z := rfl
theorem c_acount_dist (z : SC) (v : Int64) : c_acount (c_dist_s z v) = c_acount z := rfl
theorem c_acount_distm (z : SC) (v : Bool) : c_acount (c_distm_s z v) = c_acount z := rfl
theorem c_acount_nxt (z : SC) (v : Int32) : c_acount (c_nxt_s z v) = c_acount z := rfl
theorem c_acount_cause (z : SC) (v : Int32) : c_acount (c_cause_s z v) = c_acount z := rfl
theorem c_acount_time (z : SC) (v : Int64) : c_acount (c_time_s z v) = c_acount z := rfl
theorem c_acount_upper (z : SC) (v : Int64) : c_acount (c_upper_s z v) = c_acount z := rfl
theorem c_acount_lower (z : SC) (v : Int64) : c_acount (c_lower_s z v) = c_acount z := rfl
theorem c_acount_amin (z : SC) (v : Bool) : c_acount (c_amin_s z v) = c_acount z := rfl
theorem c_acount_ovf (z : SC) (v : Bool) : c_acount (c_ovf_s z v) = c_acount z := rfl
theorem c_acount_lparts (z : SC) (v : (Nat → Int32)) : c_acount (c_lparts_s z v) = c_acount z := rfl
theorem c_acount_ops (z : SC) (v : (Nat → Int32)) : c_acount (c_ops_s z v) = c_acount z := rfl
theorem c_acount_dparts (z : SC) (v : (Nat → Int32)) : c_acount (c_dparts_s z v) = c_acount z := rfl
theorem c_acount_nparts (z : SC) (v : (Nat → Int32)) : c_acount (c_nparts_s z v) = c_acount z := rfl
theorem c_acount_locs (z : SC) (v : (Nat → Int32)) : c_acount (c_locs_s z v) = c_acount z := rfl
theorem c_acount_dat (z : SC) (v : (Nat → Int32)) : c_acount (c_dat_s z v) = c_acount z := rfl
theorem c_acount_nexts (z : SC) (v : (Nat → Int32)) : c_acount (c_nexts_s z v) = c_acount z := rfl
theorem c_acount_syms (z : SC) (v : (Nat → Int32)) : c_acount (c_syms_s z v) = c_acount z := rfl
theorem c_acount_resv (z : SC) (v : (Nat → Bool)) : c_acount (c_resv_s z v) = c_acount z := rfl
theorem c_acount_taken (z : SC) (v : (Nat → Bool)) : c_acount (c_taken_s z v) = c_acount z := rfl
theorem c_acount_acount (z : SC) (v : Int32) : c_acount (c_acount_s z v) = v := rfl
def c_wd (q : Nat → Nat) (cI cJ cZ : ClassId) (z : SC) : va_W := [(q 0, .inr (0, [.ref (q 1), .ref (q 2), .ref (q 3), .ref (q 4), .ref (q 6)])),
  (q 1, .inr (1, [.ref (q 7), .ref (q 8), .ref (q 9)])),
  (q 2, .inr (2, [.ref (q 10), .ref (q 11), .int (c_cfirst z), .int (c_ccount z)])),
  (q 3, .inr (3, [.ref (q 12), .int (c_pcount z)])),
  (q 4, .inr (4, [.ref (q 1), .ref (q 2), .ref (q 3), .ref (q 5), .long (c_dist z), .int (bb (c_distm z)), .int (c_nxt z), .int (c_cause z), .long (c_time z)])),
  (q 5, .inr (5, [.long (c_upper z), .long (c_lower z), .int (bb (c_amin z)), .int (bb (c_ovf z))])),
  (q 6, .inr (6, [.ref (q 13), .ref (q 14), .ref (q 15), .ref (q 16), .ref (q 17), .ref (q 18), .ref (q 19), .ref (q 20), .ref (q 21), .ref (q 22), .int (c_acount z)])),
  (q 7, .inl (cI, 2000, .inl (c_codes z))),
  (q 8, .inl (cJ, 200, .inr (.inl (c_vals z)))),
  (q 9, .inl (cZ, 200, .inl (fun j => bb (c_dmin z j)))),
  (q 10, .inl (cJ, 20, .inr (.inl (c_cvals z)))),
  (q 11, .inl (cZ, 20, .inl (fun j => bb (c_cmin z j)))),
  (q 12, .inl (cJ, 40, .inr (.inl (c_words z)))),
  (q 13, .inl (cI, 40, .inl (c_lparts z))),
  (q 14, .inl (cI, 40, .inl (c_ops z))),
  (q 15, .inl (cI, 40, .inl (c_dparts z))),
  (q 16, .inl (cI, 40, .inl (c_nparts z))),
  (q 17, .inl (cI, 40, .inl (c_locs z))),
  (q 18, .inl (cI, 40, .inl (c_dat z))),
  (q 19, .inl (cI, 40, .inl (c_nexts z))),
  (q 20, .inl (cI, 20, .inl (c_syms z))),
  (q 21, .inl (cZ, 200, .inl (fun j => bb (c_resv z j)))),
  (q 22, .inl (cZ, 200, .inl (fun j => bb (c_taken z j))))]
def c_qs (q : Nat → Nat) : Nat → Prop := fun a => ∃ k, k < 23 ∧ a = q k
def c_inj (q : Nat → Nat) : Prop := ∀ i j, i < 23 → j < 23 → q i = q j → i = j
theorem c_wd_at (q : Nat → Nat) (cI cJ cZ : ClassId) (z : SC) (k : Nat) (r : Nat × va_E) (h : (c_wd q cI cJ cZ z)[k]? = some r) : k < 23 ∧ r.1 = q k := by
  have hk : k < 23 := (List.getElem?_eq_some_iff.mp h).1
  refine ⟨hk, ?_⟩
  match k, hk with
  | 0, _ => exact congrArg Prod.fst (Option.some.inj h).symm
  | 1, _ => exact congrArg Prod.fst (Option.some.inj h).symm
  | 2, _ => exact congrArg Prod.fst (Option.some.inj h).symm
  | 3, _ => exact congrArg Prod.fst (Option.some.inj h).symm
  | 4, _ => exact congrArg Prod.fst (Option.some.inj h).symm
  | 5, _ => exact congrArg Prod.fst (Option.some.inj h).symm
  | 6, _ => exact congrArg Prod.fst (Option.some.inj h).symm
  | 7, _ => exact congrArg Prod.fst (Option.some.inj h).symm
  | 8, _ => exact congrArg Prod.fst (Option.some.inj h).symm
  | 9, _ => exact congrArg Prod.fst (Option.some.inj h).symm
  | 10, _ => exact congrArg Prod.fst (Option.some.inj h).symm
  | 11, _ => exact congrArg Prod.fst (Option.some.inj h).symm
  | 12, _ => exact congrArg Prod.fst (Option.some.inj h).symm
  | 13, _ => exact congrArg Prod.fst (Option.some.inj h).symm
  | 14, _ => exact congrArg Prod.fst (Option.some.inj h).symm
  | 15, _ => exact congrArg Prod.fst (Option.some.inj h).symm
  | 16, _ => exact congrArg Prod.fst (Option.some.inj h).symm
  | 17, _ => exact congrArg Prod.fst (Option.some.inj h).symm
  | 18, _ => exact congrArg Prod.fst (Option.some.inj h).symm
  | 19, _ => exact congrArg Prod.fst (Option.some.inj h).symm
  | 20, _ => exact congrArg Prod.fst (Option.some.inj h).symm
  | 21, _ => exact congrArg Prod.fst (Option.some.inj h).symm
  | 22, _ => exact congrArg Prod.fst (Option.some.inj h).symm
  | k + 23, h => exact absurd h (by omega)
theorem c_D {q : Nat → Nat} {cI cJ cZ : ClassId} (hq : c_inj q) (z : SC) : va_D (c_qs q) (c_wd q cI cJ cZ z) := by
  refine ⟨fun i j a b hi hj hab => ?_, fun k r h => ?_⟩
  · obtain ⟨h1, h2⟩ := c_wd_at q cI cJ cZ z i a hi
    obtain ⟨h3, h4⟩ := c_wd_at q cI cJ cZ z j b hj
    exact hq i j h1 h3 (by rw [← h2, ← h4]; exact hab)
  · obtain ⟨h1, h2⟩ := c_wd_at q cI cJ cZ z k r h
    exact ⟨k, h1, h2⟩
abbrev c_W (D : va_G) (q : Nat → Nat) (cI cJ cZ : ClassId) (z : SC) (H : Heap) : Prop := va_P D clA (c_wd q cI cJ cZ z) H
def c_C (D : va_G) (q : Nat → Nat) (cI cJ cZ : ClassId) (z : SC) (U : State) : Prop := c_W D q cI cJ cZ z U.heap ∧ va_K D clA (tys3 cI cJ cZ) U
section
variable {s : State} {H : Heap} {D : va_G} {q : Nat → Nat} {cI cJ cZ : ClassId} {z : SC}
theorem c_blind {av : List Value} : FrameBlind (va_Pc av (c_C D q cI cJ cZ z)) := fun a U g mk h => ⟨h.1, h.2.1, va_K.moved (u := U) (U := U.calling g mk a) (Vm.Alike.refl U.vm) h.2.2⟩
theorem c_preS {av : List Value} (hK : va_K D clA (tys3 cI cJ cZ) s) (hP : c_W D q cI cJ cZ z H) : PreS s H (va_Pc av (c_C D q cI cJ cZ z)) av := ⟨c_blind, fun U hU hW => ⟨rfl, by rw [hU]; exact hP, va_K.moved hW.alike hK⟩⟩
theorem c_preV0 {As : List Value} (hK : va_K D clA (tys3 cI cJ cZ) s) (hP : c_W D q cI cJ cZ z H) : PreV s H RDM (q 0) (va_Pc (.ref (q 0) :: As) (c_C D q cI cJ cZ z)) As := ⟨c_blind, va_recv (ci := 0) hK hP rfl (show (c_wd q cI cJ cZ z)[0]? = _ from rfl), fun U hU hW => ⟨rfl, by rw [hU]; exact hP, va_K.moved hW.alike hK⟩⟩
theorem c_preV1 {As : List Value} (hK : va_K D clA (tys3 cI cJ cZ) s) (hP : c_W D q cI cJ cZ z H) : PreV s H RDr (q 1) (va_Pc (.ref (q 1) :: As) (c_C D q cI cJ cZ z)) As := ⟨c_blind, va_recv (ci := 1) hK hP rfl (show (c_wd q cI cJ cZ z)[1]? = _ from rfl), fun U hU hW => ⟨rfl, by rw [hU]; exact hP, va_K.moved hW.alike hK⟩⟩
theorem c_preV2 {As : List Value} (hK : va_K D clA (tys3 cI cJ cZ) s) (hP : c_W D q cI cJ cZ z H) : PreV s H RCd (q 2) (va_Pc (.ref (q 2) :: As) (c_C D q cI cJ cZ z)) As := ⟨c_blind, va_recv (ci := 2) hK hP rfl (show (c_wd q cI cJ cZ z)[2]? = _ from rfl), fun U hU hW => ⟨rfl, by rw [hU]; exact hP, va_K.moved hW.alike hK⟩⟩
theorem c_preV3 {As : List Value} (hK : va_K D clA (tys3 cI cJ cZ) s) (hP : c_W D q cI cJ cZ z H) : PreV s H RPu (q 3) (va_Pc (.ref (q 3) :: As) (c_C D q cI cJ cZ z)) As := ⟨c_blind, va_recv (ci := 3) hK hP rfl (show (c_wd q cI cJ cZ z)[3]? = _ from rfl), fun U hU hW => ⟨rfl, by rw [hU]; exact hP, va_K.moved hW.alike hK⟩⟩
theorem c_preV4 {As : List Value} (hK : va_K D clA (tys3 cI cJ cZ) s) (hP : c_W D q cI cJ cZ z H) : PreV s H RPr (q 4) (va_Pc (.ref (q 4) :: As) (c_C D q cI cJ cZ z)) As := ⟨c_blind, va_recv (ci := 4) hK hP rfl (show (c_wd q cI cJ cZ z)[4]? = _ from rfl), fun U hU hW => ⟨rfl, by rw [hU]; exact hP, va_K.moved hW.alike hK⟩⟩
theorem c_preV5 {As : List Value} (hK : va_K D clA (tys3 cI cJ cZ) s) (hP : c_W D q cI cJ cZ z H) : PreV s H RAc (q 5) (va_Pc (.ref (q 5) :: As) (c_C D q cI cJ cZ z)) As := ⟨c_blind, va_recv (ci := 5) hK hP rfl (show (c_wd q cI cJ cZ z)[5]? = _ from rfl), fun U hU hW => ⟨rfl, by rw [hU]; exact hP, va_K.moved hW.alike hK⟩⟩
theorem c_preV6 {As : List Value} (hK : va_K D clA (tys3 cI cJ cZ) s) (hP : c_W D q cI cJ cZ z H) : PreV s H RAs (q 6) (va_Pc (.ref (q 6) :: As) (c_C D q cI cJ cZ z)) As := ⟨c_blind, va_recv (ci := 6) hK hP rfl (show (c_wd q cI cJ cZ z)[6]? = _ from rfl), fun U hU hW => ⟨rfl, by rw [hU]; exact hP, va_K.moved hW.alike hK⟩⟩
end
section
variable {p : Program} {l : Launch} {e : Env} {R : Room} {s : State} {m : MethodId} {args : Array Value} {below : List Frame} {meth : Method} {c : Code} {H H0 : Heap} {locs : List Loc} {cells slots : Nat} {Q : State → Prop}
variable {cc : ByteArray} {pc : Nat} {ls : Array Slot} {rest : List Value} {D : va_G} {q : Nat → Nat} {cI cJ cZ : ClassId} {z : SC} {own : String} {index : Nat} {Ts : List Cond}
theorem cg0_drum (hx : p.tables.exec = Jvm.exec) (hb : c.code = cc) (hts : ∀ w ∈ Ts, w.before args s = true) (hin : ∀ w ∈ u_ws RDM TDM 5, w ∈ Ts) (hown : s.vm.findClass own = some m.cls) (hK : va_K D clA (tys3 cI cJ cZ) s) (hP : c_W D q cI cJ cZ z H) (hlink : (Cond.fieldLink own index "DrumMachine" "drum" "LDrumMachine$Drum;").before args s = true) (hdg : decode cc pc = .ok (.getfield index, 3)) (kk : W p l e R s m args below meth c H locs cells slots Q (F0 m (pc + 3) ls (.ref (q 1) :: rest))) : W p l e R s m args below meth c H locs cells slots Q (F0 m pc ls (.ref (q 0) :: rest)) :=
  va_get (ci := 0) (v := .ref (q 1)) (C := RDM) (T := TDM) (N := 5) hx hb hts hin hown hK hP 0 rfl rfl 0 (by decide) hlink (fun _ h => h) rfl hdg kk
theorem cg0_cards (hx : p.tables.exec = Jvm.exec) (hb : c.code = cc) (hts : ∀ w ∈ Ts, w.before args s = true) (hin : ∀ w ∈ u_ws RDM TDM 5, w ∈ Ts) (hown : s.vm.findClass own = some m.cls) (hK : va_K D clA (tys3 cI cJ cZ) s) (hP : c_W D q cI cJ cZ z H) (hlink : (Cond.fieldLink own index "DrumMachine" "cards" "LDrumMachine$CardDeck;").before args s = true) (hdg : decode cc pc = .ok (.getfield index, 3)) (kk : W p l e R s m args below meth c H locs cells slots Q (F0 m (pc + 3) ls (.ref (q 2) :: rest))) : W p l e R s m args below meth c H locs cells slots Q (F0 m pc ls (.ref (q 0) :: rest)) :=
  va_get (ci := 0) (v := .ref (q 2)) (C := RDM) (T := TDM) (N := 5) hx hb hts hin hown hK hP 0 rfl rfl 1 (by decide) hlink (fun _ h => h) rfl hdg kk
theorem cg0_punch (hx : p.tables.exec = Jvm.exec) (hb : c.code = cc) (hts : ∀ w ∈ Ts, w.before args s = true) (hin : ∀ w ∈ u_ws RDM TDM 5, w ∈ Ts) (hown : s.vm.findClass own = some m.cls) (hK : va_K D clA (tys3 cI cJ cZ) s) (hP : c_W D q cI cJ cZ z H) (hlink : (Cond.fieldLink own index "DrumMachine" "punch" "LDrumMachine$Punch;").before args s = true) (hdg : decode cc pc = .ok (.getfield index, 3)) (kk : W p l e R s m args below meth c H locs cells slots Q (F0 m (pc + 3) ls (.ref (q 3) :: rest))) : W p l e R s m args below meth c H locs cells slots Q (F0 m pc ls (.ref (q 0) :: rest)) :=
  va_get (ci := 0) (v := .ref (q 3)) (C := RDM) (T := TDM) (N := 5) hx hb hts hin hown hK hP 0 rfl rfl 2 (by decide) hlink (fun _ h => h) rfl hdg kk
theorem cg0_processor (hx : p.tables.exec = Jvm.exec) (hb : c.code = cc) (hts : ∀ w ∈ Ts, w.before args s = true) (hin : ∀ w ∈ u_ws RDM TDM 5, w ∈ Ts) (hown : s.vm.findClass own = some m.cls) (hK : va_K D clA (tys3 cI cJ cZ) s) (hP : c_W D q cI cJ cZ z H) (hlink : (Cond.fieldLink own index "DrumMachine" "processor" "LDrumMachine$Processor;").before args s = true) (hdg : decode cc pc = .ok (.getfield index, 3)) (kk : W p l e R s m args below meth c H locs cells slots Q (F0 m (pc + 3) ls (.ref (q 4) :: rest))) : W p l e R s m args below meth c H locs cells slots Q (F0 m pc ls (.ref (q 0) :: rest)) :=
  va_get (ci := 0) (v := .ref (q 4)) (C := RDM) (T := TDM) (N := 5) hx hb hts hin hown hK hP 0 rfl rfl 3 (by decide) hlink (fun _ h => h) rfl hdg kk
theorem cg0_assembler (hx : p.tables.exec = Jvm.exec) (hb : c.code = cc) (hts : ∀ w ∈ Ts, w.before args s = true) (hin : ∀ w ∈ u_ws RDM TDM 5, w ∈ Ts) (hown : s.vm.findClass own = some m.cls) (hK : va_K D clA (tys3 cI cJ cZ) s) (hP : c_W D q cI cJ cZ z H) (hlink : (Cond.fieldLink own index "DrumMachine" "assembler" "LDrumMachine$Assembler;").before args s = true) (hdg : decode cc pc = .ok (.getfield index, 3)) (kk : W p l e R s m args below meth c H locs cells slots Q (F0 m (pc + 3) ls (.ref (q 6) :: rest))) : W p l e R s m args below meth c H locs cells slots Q (F0 m pc ls (.ref (q 0) :: rest)) :=
  va_get (ci := 0) (v := .ref (q 6)) (C := RDM) (T := TDM) (N := 5) hx hb hts hin hown hK hP 0 rfl rfl 4 (by decide) hlink (fun _ h => h) rfl hdg kk
theorem cg1_codes (hx : p.tables.exec = Jvm.exec) (hb : c.code = cc) (hts : ∀ w ∈ Ts, w.before args s = true) (hin : ∀ w ∈ u_ws RDr TDr 3, w ∈ Ts) (hown : s.vm.findClass own = some m.cls) (hK : va_K D clA (tys3 cI cJ cZ) s) (hP : c_W D q cI cJ cZ z H) (hlink : (Cond.fieldLink own index "DrumMachine$Drum" "codes" "[I").before args s = true) (hdg : decode cc pc = .ok (.getfield index, 3)) (kk : W p l e R s m args below meth c H locs cells slots Q (F0 m (pc + 3) ls (.ref (q 7) :: rest))) : W p l e R s m args below meth c H locs cells slots Q (F0 m pc ls (.ref (q 1) :: rest)) :=
  va_get (ci := 1) (v := .ref (q 7)) (C := RDr) (T := TDr) (N := 3) hx hb hts hin hown hK hP 1 rfl rfl 0 (by decide) hlink (fun _ h => h) rfl hdg kk
theorem cg1_values (hx : p.tables.exec = Jvm.exec) (hb : c.code = cc) (hts : ∀ w ∈ Ts, w.before args s = true) (hin : ∀ w ∈ u_ws RDr TDr 3, w ∈ Ts) (hown : s.vm.findClass own = some m.cls) (hK : va_K D clA (tys3 cI cJ cZ) s) (hP : c_W D q cI cJ cZ z H) (hlink : (Cond.fieldLink own index "DrumMachine$Drum" "values" "[J").before args s = true) (hdg : decode cc pc = .ok (.getfield index, 3)) (kk : W p l e R s m args below meth c H locs cells slots Q (F0 m (pc + 3) ls (.ref (q 8) :: rest))) : W p l e R s m args below meth c H locs cells slots Q (F0 m pc ls (.ref (q 1) :: rest)) :=
  va_get (ci := 1) (v := .ref (q 8)) (C := RDr) (T := TDr) (N := 3) hx hb hts hin hown hK hP 1 rfl rfl 1 (by decide) hlink (fun _ h => h) rfl hdg kk
theorem cg1_minus (hx : p.tables.exec = Jvm.exec) (hb : c.code = cc) (hts : ∀ w ∈ Ts, w.before args s = true) (hin : ∀ w ∈ u_ws RDr TDr 3, w ∈ Ts) (hown : s.vm.findClass own = some m.cls) (hK : va_K D clA (tys3 cI cJ cZ) s) (hP : c_W D q cI cJ cZ z H) (hlink : (Cond.fieldLink own index "DrumMachine$Drum" "minus" "[Z").before args s = true) (hdg : decode cc pc = .ok (.getfield index, 3)) (kk : W p l e R s m args below meth c H locs cells slots Q (F0 m (pc + 3) ls (.ref (q 9) :: rest))) : W p l e R s m args below meth c H locs cells slots Q (F0 m pc ls (.ref (q 1) :: rest)) :=
  va_get (ci := 1) (v := .ref (q 9)) (C := RDr) (T := TDr) (N := 3) hx hb hts hin hown hK hP 1 rfl rfl 2 (by decide) hlink (fun _ h => h) rfl hdg kk
theorem cg2_values (hx : p.tables.exec = Jvm.exec) (hb : c.code = cc) (hts : ∀ w ∈ Ts, w.before args s = true) (hin : ∀ w ∈ u_ws RCd TCd 4, w ∈ Ts) (hown : s.vm.findClass own = some m.cls) (hK : va_K D clA (tys3 cI cJ cZ) s) (hP : c_W D q cI cJ cZ z H) (hlink : (Cond.fieldLink own index "DrumMachine$CardDeck" "values" "[J").before args s = true) (hdg : decode cc pc = .ok (.getfield index, 3)) (kk : W p l e R s m args below meth c H locs cells slots Q (F0 m (pc + 3) ls (.ref (q 10) :: rest))) : W p l e R s m args below meth c H locs cells slots Q (F0 m pc ls (.ref (q 2) :: rest)) :=
  va_get (ci := 2) (v := .ref (q 10)) (C := RCd) (T := TCd) (N := 4) hx hb hts hin hown hK hP 2 rfl rfl 0 (by decide) hlink (fun _ h => h) rfl hdg kk
theorem cg2_minus (hx : p.tables.exec = Jvm.exec) (hb : c.code = cc) (hts : ∀ w ∈ Ts, w.before args s = true) (hin : ∀ w ∈ u_ws RCd TCd 4, w ∈ Ts) (hown : s.vm.findClass own = some m.cls) (hK : va_K D clA (tys3 cI cJ cZ) s) (hP : c_W D q cI cJ cZ z H) (hlink : (Cond.fieldLink own index "DrumMachine$CardDeck" "minus" "[Z").before args s = true) (hdg : decode cc pc = .ok (.getfield index, 3)) (kk : W p l e R s m args below meth c H locs cells slots Q (F0 m (pc + 3) ls (.ref (q 11) :: rest))) : W p l e R s m args below meth c H locs cells slots Q (F0 m pc ls (.ref (q 2) :: rest)) :=
  va_get (ci := 2) (v := .ref (q 11)) (C := RCd) (T := TCd) (N := 4) hx hb hts hin hown hK hP 2 rfl rfl 1 (by decide) hlink (fun _ h => h) rfl hdg kk
theorem cg2_first (hx : p.tables.exec = Jvm.exec) (hb : c.code = cc) (hts : ∀ w ∈ Ts, w.before args s = true) (hin : ∀ w ∈ u_ws RCd TCd 4, w ∈ Ts) (hown : s.vm.findClass own = some m.cls) (hK : va_K D clA (tys3 cI cJ cZ) s) (hP : c_W D q cI cJ cZ z H) (hlink : (Cond.fieldLink own index "DrumMachine$CardDeck" "first" "I").before args s = true) (hdg : decode cc pc = .ok (.getfield index, 3)) (kk : W p l e R s m args below meth c H locs cells slots Q (F0 m (pc + 3) ls (.int (c_cfirst z) :: rest))) : W p l e R s m args below meth c H locs cells slots Q (F0 m pc ls (.ref (q 2) :: rest)) :=
  va_get (ci := 2) (v := .int (c_cfirst z)) (C := RCd) (T := TCd) (N := 4) hx hb hts hin hown hK hP 2 rfl rfl 2 (by decide) hlink (fun _ h => h) rfl hdg kk
theorem cg2_first_e {v : Int32} (hv : c_cfirst z = v) (hx : p.tables.exec = Jvm.exec) (hb : c.code = cc) (hts : ∀ w ∈ Ts, w.before args s = true) (hin : ∀ w ∈ u_ws RCd TCd 4, w ∈ Ts) (hown : s.vm.findClass own = some m.cls) (hK : va_K D clA (tys3 cI cJ cZ) s) (hP : c_W D q cI cJ cZ z H) (hlink : (Cond.fieldLink own index "DrumMachine$CardDeck" "first" "I").before args s = true) (hdg : decode cc pc = .ok (.getfield index, 3)) (kk : W p l e R s m args below meth c H locs cells slots Q (F0 m (pc + 3) ls (.int v :: rest))) : W p l e R s m args below meth c H locs cells slots Q (F0 m pc ls (.ref (q 2) :: rest)) := by
  subst hv
  exact cg2_first hx hb hts hin hown hK hP hlink hdg kk
theorem cp2_first (v : Int32) (hq : c_inj q) (hS : va_S (c_qs q) H0 H locs) (hx : p.tables.exec = Jvm.exec) (hb : c.code = cc) (hts : ∀ w ∈ Ts, w.before args s = true) (hin : ∀ w ∈ u_ws RCd TCd 4, w ∈ Ts) (hown : s.vm.findClass own = some m.cls) (hK : va_K D clA (tys3 cI cJ cZ) s) (hP : c_W D q cI cJ cZ z H) (hlink : (Cond.fieldLink own index "DrumMachine$CardDeck" "first" "I").before args s = true) (hdg : decode cc pc = .ok (.putfield index, 3)) (kk : ∀ (H1 : Heap) (locs1 : List Loc), c_W D q cI cJ cZ (c_cfirst_s z v) H1 → va_S (c_qs q) H0 H1 locs1 → W p l e R s m args below meth c H1 locs1 cells slots Q (F0 m (pc + 3) ls rest)) : W p l e R s m args below meth c H locs cells slots Q (F0 m pc ls (.int v :: .ref (q 2) :: rest)) :=
  va_put (ci := 2) (v := .int v) (C := RCd) (T := TCd) (N := 4) hx hb hts hin tyCd tyCd_ok nmCd hown hK hP (c_D hq z) hS 2 rfl rfl 2 (by decide) hlink (fun _ h => h) rfl rfl rfl rfl (Nat.le_of_ble_eq_true rfl) hdg (fun H1 locs1 a _ b => kk H1 locs1 a b)
theorem cg2_count (hx : p.tables.exec = Jvm.exec) (hb : c.code = cc) (hts : ∀ w ∈ Ts, w.before args s = true) (hin : ∀ w ∈ u_ws RCd TCd 4, w ∈ Ts) (hown : s.vm.findClass own = some m.cls) (hK : va_K D clA (tys3 cI cJ cZ) s) (hP : c_W D q cI cJ cZ z H) (hlink : (Cond.fieldLink own index "DrumMachine$CardDeck" "count" "I").before args s = true) (hdg : decode cc pc = .ok (.getfield index, 3)) (kk : W p l e R s m args below meth c H locs cells slots Q (F0 m (pc + 3) ls (.int (c_ccount z) :: rest))) : W p l e R s m args below meth c H locs cells slots Q (F0 m pc ls (.ref (q 2) :: rest)) :=
  va_get (ci := 2) (v := .int (c_ccount z)) (C := RCd) (T := TCd) (N := 4) hx hb hts hin hown hK hP 2 rfl rfl 3 (by decide) hlink (fun _ h => h) rfl hdg kk
theorem cg2_count_e {v : Int32} (hv : c_ccount z = v) (hx : p.tables.exec = Jvm.exec) (hb : c.code = cc) (hts : ∀ w ∈ Ts, w.before args s = true) (hin : ∀ w ∈ u_ws RCd TCd 4, w ∈ Ts) (hown : s.vm.findClass own = some m.cls) (hK : va_K D clA (tys3 cI cJ cZ) s) (hP : c_W D q cI cJ cZ z H) (hlink : (Cond.fieldLink own index "DrumMachine$CardDeck" "count" "I").before args s = true) (hdg : decode cc pc = .ok (.getfield index, 3)) (kk : W p l e R s m args below meth c H locs cells slots Q (F0 m (pc + 3) ls (.int v :: rest))) : W p l e R s m args below meth c H locs cells slots Q (F0 m pc ls (.ref (q 2) :: rest)) := by
  subst hv
  exact cg2_count hx hb hts hin hown hK hP hlink hdg kk
theorem cp2_count (v : Int32) (hq : c_inj q) (hS : va_S (c_qs q) H0 H locs) (hx : p.tables.exec = Jvm.exec) (hb : c.code = cc) (hts : ∀ w ∈ Ts, w.before args s = true) (hin : ∀ w ∈ u_ws RCd TCd 4, w ∈ Ts) (hown : s.vm.findClass own = some m.cls) (hK : va_K D clA (tys3 cI cJ cZ) s) (hP : c_W D q cI cJ cZ z H) (hlink : (Cond.fieldLink own index "DrumMachine$CardDeck" "count" "I").before args s = true) (hdg : decode cc pc = .ok (.putfield index, 3)) (kk : ∀ (H1 : Heap) (locs1 : List Loc), c_W D q cI cJ cZ (c_ccount_s z v) H1 → va_S (c_qs q) H0 H1 locs1 → W p l e R s m args below meth c H1 locs1 cells slots Q (F0 m (pc + 3) ls rest)) : W p l e R s m args below meth c H locs cells slots Q (F0 m pc ls (.int v :: .ref (q 2) :: rest)) :=
  va_put (ci := 2) (v := .int v) (C := RCd) (T := TCd) (N := 4) hx hb hts hin tyCd tyCd_ok nmCd hown hK hP (c_D hq z) hS 2 rfl rfl 3 (by decide) hlink (fun _ h => h) rfl rfl rfl rfl (Nat.le_of_ble_eq_true rfl) hdg (fun H1 locs1 a _ b => kk H1 locs1 a b)
theorem cg3_words (hx : p.tables.exec = Jvm.exec) (hb : c.code = cc) (hts : ∀ w ∈ Ts, w.before args s = true) (hin : ∀ w ∈ u_ws RPu TPu 2, w ∈ Ts) (hown : s.vm.findClass own = some m.cls) (hK : va_K D clA (tys3 cI cJ cZ) s) (hP : c_W D q cI cJ cZ z H) (hlink : (Cond.fieldLink own index "DrumMachine$Punch" "words" "[J").before args s = true) (hdg : decode cc pc = .ok (.getfield index, 3)) (kk : W p l e R s m args below meth c H locs cells slots Q (F0 m (pc + 3) ls (.ref (q 12) :: rest))) : W p l e R s m args below meth c H locs cells slots Q (F0 m pc ls (.ref (q 3) :: rest)) :=
  va_get (ci := 3) (v := .ref (q 12)) (C := RPu) (T := TPu) (N := 2) hx hb hts hin hown hK hP 3 rfl rfl 0 (by decide) hlink (fun _ h => h) rfl hdg kk
theorem cg3_count (hx : p.tables.exec = Jvm.exec) (hb : c.code = cc) (hts : ∀ w ∈ Ts, w.before args s = true) (hin : ∀ w ∈ u_ws RPu TPu 2, w ∈ Ts) (hown : s.vm.findClass own = some m.cls) (hK : va_K D clA (tys3 cI cJ cZ) s) (hP : c_W D q cI cJ cZ z H) (hlink : (Cond.fieldLink own index "DrumMachine$Punch" "count" "I").before args s = true) (hdg : decode cc pc = .ok (.getfield index, 3)) (kk : W p l e R s m args below meth c H locs cells slots Q (F0 m (pc + 3) ls (.int (c_pcount z) :: rest))) : W p l e R s m args below meth c H locs cells slots Q (F0 m pc ls (.ref (q 3) :: rest)) :=
  va_get (ci := 3) (v := .int (c_pcount z)) (C := RPu) (T := TPu) (N := 2) hx hb hts hin hown hK hP 3 rfl rfl 1 (by decide) hlink (fun _ h => h) rfl hdg kk
theorem cg3_count_e {v : Int32} (hv : c_pcount z = v) (hx : p.tables.exec = Jvm.exec) (hb : c.code = cc) (hts : ∀ w ∈ Ts, w.before args s = true) (hin : ∀ w ∈ u_ws RPu TPu 2, w ∈ Ts) (hown : s.vm.findClass own = some m.cls) (hK : va_K D clA (tys3 cI cJ cZ) s) (hP : c_W D q cI cJ cZ z H) (hlink : (Cond.fieldLink own index "DrumMachine$Punch" "count" "I").before args s = true) (hdg : decode cc pc = .ok (.getfield index, 3)) (kk : W p l e R s m args below meth c H locs cells slots Q (F0 m (pc + 3) ls (.int v :: rest))) : W p l e R s m args below meth c H locs cells slots Q (F0 m pc ls (.ref (q 3) :: rest)) := by
  subst hv
  exact cg3_count hx hb hts hin hown hK hP hlink hdg kk
theorem cp3_count (v : Int32) (hq : c_inj q) (hS : va_S (c_qs q) H0 H locs) (hx : p.tables.exec = Jvm.exec) (hb : c.code = cc) (hts : ∀ w ∈ Ts, w.before args s = true) (hin : ∀ w ∈ u_ws RPu TPu 2, w ∈ Ts) (hown : s.vm.findClass own = some m.cls) (hK : va_K D clA (tys3 cI cJ cZ) s) (hP : c_W D q cI cJ cZ z H) (hlink : (Cond.fieldLink own index "DrumMachine$Punch" "count" "I").before args s = true) (hdg : decode cc pc = .ok (.putfield index, 3)) (kk : ∀ (H1 : Heap) (locs1 : List Loc), c_W D q cI cJ cZ (c_pcount_s z v) H1 → va_S (c_qs q) H0 H1 locs1 → W p l e R s m args below meth c H1 locs1 cells slots Q (F0 m (pc + 3) ls rest)) : W p l e R s m args below meth c H locs cells slots Q (F0 m pc ls (.int v :: .ref (q 3) :: rest)) :=
  va_put (ci := 3) (v := .int v) (C := RPu) (T := TPu) (N := 2) hx hb hts hin tyPu tyPu_ok nmPu hown hK hP (c_D hq z) hS 3 rfl rfl 1 (by decide) hlink (fun _ h => h) rfl rfl rfl rfl (Nat.le_of_ble_eq_true rfl) hdg (fun H1 locs1 a _ b => kk H1 locs1 a b)
theorem cg4_drum (hx : p.tables.exec = Jvm.exec) (hb : c.code = cc) (hts : ∀ w ∈ Ts, w.before args s = true) (hin : ∀ w ∈ u_ws RPr TPr 9, w ∈ Ts) (hown : s.vm.findClass own = some m.cls) (hK : va_K D clA (tys3 cI cJ cZ) s) (hP : c_W D q cI cJ cZ z H) (hlink : (Cond.fieldLink own index "DrumMachine$Processor" "drum" "LDrumMachine$Drum;").before args s = true) (hdg : decode cc pc = .ok (.getfield index, 3)) (kk : W p l e R s m args below meth c H locs cells slots Q (F0 m (pc + 3) ls (.ref (q 1) :: rest))) : W p l e R s m args below meth c H locs cells slots Q (F0 m pc ls (.ref (q 4) :: rest)) :=
  va_get (ci := 4) (v := .ref (q 1)) (C := RPr) (T := TPr) (N := 9) hx hb hts hin hown hK hP 4 rfl rfl 0 (by decide) hlink (fun _ h => h) rfl hdg kk
theorem cg4_cards (hx : p.tables.exec = Jvm.exec) (hb : c.code = cc) (hts : ∀ w ∈ Ts, w.before args s = true) (hin : ∀ w ∈ u_ws RPr TPr 9, w ∈ Ts) (hown : s.vm.findClass own = some m.cls) (hK : va_K D clA (tys3 cI cJ cZ) s) (hP : c_W D q cI cJ cZ z H) (hlink : (Cond.fieldLink own index "DrumMachine$Processor" "cards" "LDrumMachine$CardDeck;").before args s = true) (hdg : decode cc pc = .ok (.getfield index, 3)) (kk : W p l e R s m args below meth c H locs cells slots Q (F0 m (pc + 3) ls (.ref (q 2) :: rest))) : W p l e R s m args below meth c H locs cells slots Q (F0 m pc ls (.ref (q 4) :: rest)) :=
  va_get (ci := 4) (v := .ref (q 2)) (C := RPr) (T := TPr) (N := 9) hx hb hts hin hown hK hP 4 rfl rfl 1 (by decide) hlink (fun _ h => h) rfl hdg kk
theorem cg4_punch (hx : p.tables.exec = Jvm.exec) (hb : c.code = cc) (hts : ∀ w ∈ Ts, w.before args s = true) (hin : ∀ w ∈ u_ws RPr TPr 9, w ∈ Ts) (hown : s.vm.findClass own = some m.cls) (hK : va_K D clA (tys3 cI cJ cZ) s) (hP : c_W D q cI cJ cZ z H) (hlink : (Cond.fieldLink own index "DrumMachine$Processor" "punch" "LDrumMachine$Punch;").before args s = true) (hdg : decode cc pc = .ok (.getfield index, 3)) (kk : W p l e R s m args below meth c H locs cells slots Q (F0 m (pc + 3) ls (.ref (q 3) :: rest))) : W p l e R s m args below meth c H locs cells slots Q (F0 m pc ls (.ref (q 4) :: rest)) :=
  va_get (ci := 4) (v := .ref (q 3)) (C := RPr) (T := TPr) (N := 9) hx hb hts hin hown hK hP 4 rfl rfl 2 (by decide) hlink (fun _ h => h) rfl hdg kk
theorem cg4_accumulator (hx : p.tables.exec = Jvm.exec) (hb : c.code = cc) (hts : ∀ w ∈ Ts, w.before args s = true) (hin : ∀ w ∈ u_ws RPr TPr 9, w ∈ Ts) (hown : s.vm.findClass own = some m.cls) (hK : va_K D clA (tys3 cI cJ cZ) s) (hP : c_W D q cI cJ cZ z H) (hlink : (Cond.fieldLink own index "DrumMachine$Processor" "accumulator" "LDrumMachine$Accumulator;").before args s = true) (hdg : decode cc pc = .ok (.getfield index, 3)) (kk : W p l e R s m args below meth c H locs cells slots Q (F0 m (pc + 3) ls (.ref (q 5) :: rest))) : W p l e R s m args below meth c H locs cells slots Q (F0 m pc ls (.ref (q 4) :: rest)) :=
  va_get (ci := 4) (v := .ref (q 5)) (C := RPr) (T := TPr) (N := 9) hx hb hts hin hown hK hP 4 rfl rfl 3 (by decide) hlink (fun _ h => h) rfl hdg kk
theorem cg4_distributor (hx : p.tables.exec = Jvm.exec) (hb : c.code = cc) (hts : ∀ w ∈ Ts, w.before args s = true) (hin : ∀ w ∈ u_ws RPr TPr 9, w ∈ Ts) (hown : s.vm.findClass own = some m.cls) (hK : va_K D clA (tys3 cI cJ cZ) s) (hP : c_W D q cI cJ cZ z H) (hlink : (Cond.fieldLink own index "DrumMachine$Processor" "distributor" "J").before args s = true) (hdg : decode cc pc = .ok (.getfield index, 3)) (kk : W p l e R s m args below meth c H locs cells slots Q (F0 m (pc + 3) ls (.long (c_dist z) :: rest))) : W p l e R s m args below meth c H locs cells slots Q (F0 m pc ls (.ref (q 4) :: rest)) :=
  va_get (ci := 4) (v := .long (c_dist z)) (C := RPr) (T := TPr) (N := 9) hx hb hts hin hown hK hP 4 rfl rfl 4 (by decide) hlink (fun _ h => h) rfl hdg kk
theorem cg4_distributor_e {v : Int64} (hv : c_dist z = v) (hx : p.tables.exec = Jvm.exec) (hb : c.code = cc) (hts : ∀ w ∈ Ts, w.before args s = true) (hin : ∀ w ∈ u_ws RPr TPr 9, w ∈ Ts) (hown : s.vm.findClass own = some m.cls) (hK : va_K D clA (tys3 cI cJ cZ) s) (hP : c_W D q cI cJ cZ z H) (hlink : (Cond.fieldLink own index "DrumMachine$Processor" "distributor" "J").before args s = true) (hdg : decode cc pc = .ok (.getfield index, 3)) (kk : W p l e R s m args below meth c H locs cells slots Q (F0 m (pc + 3) ls (.long v :: rest))) : W p l e R s m args below meth c H locs cells slots Q (F0 m pc ls (.ref (q 4) :: rest)) := by
  subst hv
  exact cg4_distributor hx hb hts hin hown hK hP hlink hdg kk
theorem cp4_distributor (v : Int64) (hq : c_inj q) (hS : va_S (c_qs q) H0 H locs) (hx : p.tables.exec = Jvm.exec) (hb : c.code = cc) (hts : ∀ w ∈ Ts, w.before args s = true) (hin : ∀ w ∈ u_ws RPr TPr 9, w ∈ Ts) (hown : s.vm.findClass own = some m.cls) (hK : va_K D clA (tys3 cI cJ cZ) s) (hP : c_W D q cI cJ cZ z H) (hlink : (Cond.fieldLink own index "DrumMachine$Processor" "distributor" "J").before args s = true) (hdg : decode cc pc = .ok (.putfield index, 3)) (kk : ∀ (H1 : Heap) (locs1 : List Loc), c_W D q cI cJ cZ (c_dist_s z v) H1 → va_S (c_qs q) H0 H1 locs1 → W p l e R s m args below meth c H1 locs1 cells slots Q (F0 m (pc + 3) ls rest)) : W p l e R s m args below meth c H locs cells slots Q (F0 m pc ls (.long v :: .ref (q 4) :: rest)) :=
  va_put (ci := 4) (v := .long v) (C := RPr) (T := TPr) (N := 9) hx hb hts hin tyPr tyPr_ok nmPr hown hK hP (c_D hq z) hS 4 rfl rfl 4 (by decide) hlink (fun _ h => h) rfl rfl rfl rfl (Nat.le_of_ble_eq_true rfl) hdg (fun H1 locs1 a _ b => kk H1 locs1 a b)
theorem cg4_distributorMinus (hx : p.tables.exec = Jvm.exec) (hb : c.code = cc) (hts : ∀ w ∈ Ts, w.before args s = true) (hin : ∀ w ∈ u_ws RPr TPr 9, w ∈ Ts) (hown : s.vm.findClass own = some m.cls) (hK : va_K D clA (tys3 cI cJ cZ) s) (hP : c_W D q cI cJ cZ z H) (hlink : (Cond.fieldLink own index "DrumMachine$Processor" "distributorMinus" "Z").before args s = true) (hdg : decode cc pc = .ok (.getfield index, 3)) (kk : W p l e R s m args below meth c H locs cells slots Q (F0 m (pc + 3) ls (.int (bb (c_distm z)) :: rest))) : W p l e R s m args below meth c H locs cells slots Q (F0 m pc ls (.ref (q 4) :: rest)) :=
  va_get (ci := 4) (v := .int (bb (c_distm z))) (C := RPr) (T := TPr) (N := 9) hx hb hts hin hown hK hP 4 rfl rfl 5 (by decide) hlink (fun _ h => h) rfl hdg kk
theorem cg4_distributorMinus_e {v : Bool} (hv : c_distm z = v) (hx : p.tables.exec = Jvm.exec) (hb : c.code = cc) (hts : ∀ w ∈ Ts, w.before args s = true) (hin : ∀ w ∈ u_ws RPr TPr 9, w ∈ Ts) (hown : s.vm.findClass own = some m.cls) (hK : va_K D clA (tys3 cI cJ cZ) s) (hP : c_W D q cI cJ cZ z H) (hlink : (Cond.fieldLink own index "DrumMachine$Processor" "distributorMinus" "Z").before args s = true) (hdg : decode cc pc = .ok (.getfield index, 3)) (kk : W p l e R s m args below meth c H locs cells slots Q (F0 m (pc + 3) ls (.int (bb v) :: rest))) : W p l e R s m args below meth c H locs cells slots Q (F0 m pc ls (.ref (q 4) :: rest)) := by
  subst hv
  exact cg4_distributorMinus hx hb hts hin hown hK hP hlink hdg kk
theorem cp4_distributorMinus (v : Bool) (hq : c_inj q) (hS : va_S (c_qs q) H0 H locs) (hx : p.tables.exec = Jvm.exec) (hb : c.code = cc) (hts : ∀ w ∈ Ts, w.before args s = true) (hin : ∀ w ∈ u_ws RPr TPr 9, w ∈ Ts) (hown : s.vm.findClass own = some m.cls) (hK : va_K D clA (tys3 cI cJ cZ) s) (hP : c_W D q cI cJ cZ z H) (hlink : (Cond.fieldLink own index "DrumMachine$Processor" "distributorMinus" "Z").before args s = true) (hdg : decode cc pc = .ok (.putfield index, 3)) (kk : ∀ (H1 : Heap) (locs1 : List Loc), c_W D q cI cJ cZ (c_distm_s z v) H1 → va_S (c_qs q) H0 H1 locs1 → W p l e R s m args below meth c H1 locs1 cells slots Q (F0 m (pc + 3) ls rest)) : W p l e R s m args below meth c H locs cells slots Q (F0 m pc ls (.int (bb v) :: .ref (q 4) :: rest)) :=
  va_put (ci := 4) (v := .int (bb v)) (C := RPr) (T := TPr) (N := 9) hx hb hts hin tyPr tyPr_ok nmPr hown hK hP (c_D hq z) hS 4 rfl rfl 5 (by decide) hlink (fun _ h => h) rfl rfl (nz_b v) (fz_b v) (Nat.le_of_ble_eq_true rfl) hdg (fun H1 locs1 a _ b => kk H1 locs1 a b)
theorem cg4_next (hx : p.tables.exec = Jvm.exec) (hb : c.code = cc) (hts : ∀ w ∈ Ts, w.before args s = true) (hin : ∀ w ∈ u_ws RPr TPr 9, w ∈ Ts) (hown : s.vm.findClass own = some m.cls) (hK : va_K D clA (tys3 cI cJ cZ) s) (hP : c_W D q cI cJ cZ z H) (hlink : (Cond.fieldLink own index "DrumMachine$Processor" "next" "I").before args s = true) (hdg : decode cc pc = .ok (.getfield index, 3)) (kk : W p l e R s m args below meth c H locs cells slots Q (F0 m (pc + 3) ls (.int (c_nxt z) :: rest))) : W p l e R s m args below meth c H locs cells slots Q (F0 m pc ls (.ref (q 4) :: rest)) :=
  va_get (ci := 4) (v := .int (c_nxt z)) (C := RPr) (T := TPr) (N := 9) hx hb hts hin hown hK hP 4 rfl rfl 6 (by decide) hlink (fun _ h => h) rfl hdg kk
theorem cg4_next_e {v : Int32} (hv : c_nxt z = v) (hx : p.tables.exec = Jvm.exec) (hb : c.code = cc) (hts : ∀ w ∈ Ts, w.before args s = true) (hin : ∀ w ∈ u_ws RPr TPr 9, w ∈ Ts) (hown : s.vm.findClass own = some m.cls) (hK : va_K D clA (tys3 cI cJ cZ) s) (hP : c_W D q cI cJ cZ z H) (hlink : (Cond.fieldLink own index "DrumMachine$Processor" "next" "I").before args s = true) (hdg : decode cc pc = .ok (.getfield index, 3)) (kk : W p l e R s m args below meth c H locs cells slots Q (F0 m (pc + 3) ls (.int v :: rest))) : W p l e R s m args below meth c H locs cells slots Q (F0 m pc ls (.ref (q 4) :: rest)) := by
  subst hv
  exact cg4_next hx hb hts hin hown hK hP hlink hdg kk
theorem cp4_next (v : Int32) (hq : c_inj q) (hS : va_S (c_qs q) H0 H locs) (hx : p.tables.exec = Jvm.exec) (hb : c.code = cc) (hts : ∀ w ∈ Ts, w.before args s = true) (hin : ∀ w ∈ u_ws RPr TPr 9, w ∈ Ts) (hown : s.vm.findClass own = some m.cls) (hK : va_K D clA (tys3 cI cJ cZ) s) (hP : c_W D q cI cJ cZ z H) (hlink : (Cond.fieldLink own index "DrumMachine$Processor" "next" "I").before args s = true) (hdg : decode cc pc = .ok (.putfield index, 3)) (kk : ∀ (H1 : Heap) (locs1 : List Loc), c_W D q cI cJ cZ (c_nxt_s z v) H1 → va_S (c_qs q) H0 H1 locs1 → W p l e R s m args below meth c H1 locs1 cells slots Q (F0 m (pc + 3) ls rest)) : W p l e R s m args below meth c H locs cells slots Q (F0 m pc ls (.int v :: .ref (q 4) :: rest)) :=
  va_put (ci := 4) (v := .int v) (C := RPr) (T := TPr) (N := 9) hx hb hts hin tyPr tyPr_ok nmPr hown hK hP (c_D hq z) hS 4 rfl rfl 6 (by decide) hlink (fun _ h => h) rfl rfl rfl rfl (Nat.le_of_ble_eq_true rfl) hdg (fun H1 locs1 a _ b => kk H1 locs1 a b)
theorem cg4_cause (hx : p.tables.exec = Jvm.exec) (hb : c.code = cc) (hts : ∀ w ∈ Ts, w.before args s = true) (hin : ∀ w ∈ u_ws RPr TPr 9, w ∈ Ts) (hown : s.vm.findClass own = some m.cls) (hK : va_K D clA (tys3 cI cJ cZ) s) (hP : c_W D q cI cJ cZ z H) (hlink : (Cond.fieldLink own index "DrumMachine$Processor" "cause" "I").before args s = true) (hdg : decode cc pc = .ok (.getfield index, 3)) (kk : W p l e R s m args below meth c H locs cells slots Q (F0 m (pc + 3) ls (.int (c_cause z) :: rest))) : W p l e R s m args below meth c H locs cells slots Q (F0 m pc ls (.ref (q 4) :: rest)) :=
  va_get (ci := 4) (v := .int (c_cause z)) (C := RPr) (T := TPr) (N := 9) hx hb hts hin hown hK hP 4 rfl rfl 7 (by decide) hlink (fun _ h => h) rfl hdg kk
theorem cg4_cause_e {v : Int32} (hv : c_cause z = v) (hx : p.tables.exec = Jvm.exec) (hb : c.code = cc) (hts : ∀ w ∈ Ts, w.before args s = true) (hin : ∀ w ∈ u_ws RPr TPr 9, w ∈ Ts) (hown : s.vm.findClass own = some m.cls) (hK : va_K D clA (tys3 cI cJ cZ) s) (hP : c_W D q cI cJ cZ z H) (hlink : (Cond.fieldLink own index "DrumMachine$Processor" "cause" "I").before args s = true) (hdg : decode cc pc = .ok (.getfield index, 3)) (kk : W p l e R s m args below meth c H locs cells slots Q (F0 m (pc + 3) ls (.int v :: rest))) : W p l e R s m args below meth c H locs cells slots Q (F0 m pc ls (.ref (q 4) :: rest)) := by
  subst hv
  exact cg4_cause hx hb hts hin hown hK hP hlink hdg kk
theorem cp4_cause (v : Int32) (hq : c_inj q) (hS : va_S (c_qs q) H0 H locs) (hx : p.tables.exec = Jvm.exec) (hb : c.code = cc) (hts : ∀ w ∈ Ts, w.before args s = true) (hin : ∀ w ∈ u_ws RPr TPr 9, w ∈ Ts) (hown : s.vm.findClass own = some m.cls) (hK : va_K D clA (tys3 cI cJ cZ) s) (hP : c_W D q cI cJ cZ z H) (hlink : (Cond.fieldLink own index "DrumMachine$Processor" "cause" "I").before args s = true) (hdg : decode cc pc = .ok (.putfield index, 3)) (kk : ∀ (H1 : Heap) (locs1 : List Loc), c_W D q cI cJ cZ (c_cause_s z v) H1 → va_S (c_qs q) H0 H1 locs1 → W p l e R s m args below meth c H1 locs1 cells slots Q (F0 m (pc + 3) ls rest)) : W p l e R s m args below meth c H locs cells slots Q (F0 m pc ls (.int v :: .ref (q 4) :: rest)) :=
  va_put (ci := 4) (v := .int v) (C := RPr) (T := TPr) (N := 9) hx hb hts hin tyPr tyPr_ok nmPr hown hK hP (c_D hq z) hS 4 rfl rfl 7 (by decide) hlink (fun _ h => h) rfl rfl rfl rfl (Nat.le_of_ble_eq_true rfl) hdg (fun H1 locs1 a _ b => kk H1 locs1 a b)
theorem cg4_time (hx : p.tables.exec = Jvm.exec) (hb : c.code = cc) (hts : ∀ w ∈ Ts, w.before args s = true) (hin : ∀ w ∈ u_ws RPr TPr 9, w ∈ Ts) (hown : s.vm.findClass own = some m.cls) (hK : va_K D clA (tys3 cI cJ cZ) s) (hP : c_W D q cI cJ cZ z H) (hlink : (Cond.fieldLink own index "DrumMachine$Processor" "time" "J").before args s = true) (hdg : decode cc pc = .ok (.getfield index, 3)) (kk : W p l e R s m args below meth c H locs cells slots Q (F0 m (pc + 3) ls (.long (c_time z) :: rest))) : W p l e R s m args below meth c H locs cells slots Q (F0 m pc ls (.ref (q 4) :: rest)) :=
  va_get (ci := 4) (v := .long (c_time z)) (C := RPr) (T := TPr) (N := 9) hx hb hts hin hown hK hP 4 rfl rfl 8 (by decide) hlink (fun _ h => h) rfl hdg kk
theorem cg4_time_e {v : Int64} (hv : c_time z = v) (hx : p.tables.exec = Jvm.exec) (hb : c.code = cc) (hts : ∀ w ∈ Ts, w.before args s = true) (hin : ∀ w ∈ u_ws RPr TPr 9, w ∈ Ts) (hown : s.vm.findClass own = some m.cls) (hK : va_K D clA (tys3 cI cJ cZ) s) (hP : c_W D q cI cJ cZ z H) (hlink : (Cond.fieldLink own index "DrumMachine$Processor" "time" "J").before args s = true) (hdg : decode cc pc = .ok (.getfield index, 3)) (kk : W p l e R s m args below meth c H locs cells slots Q (F0 m (pc + 3) ls (.long v :: rest))) : W p l e R s m args below meth c H locs cells slots Q (F0 m pc ls (.ref (q 4) :: rest)) := by
  subst hv
  exact cg4_time hx hb hts hin hown hK hP hlink hdg kk
theorem cp4_time (v : Int64) (hq : c_inj q) (hS : va_S (c_qs q) H0 H locs) (hx : p.tables.exec = Jvm.exec) (hb : c.code = cc) (hts : ∀ w ∈ Ts, w.before args s = true) (hin : ∀ w ∈ u_ws RPr TPr 9, w ∈ Ts) (hown : s.vm.findClass own = some m.cls) (hK : va_K D clA (tys3 cI cJ cZ) s) (hP : c_W D q cI cJ cZ z H) (hlink : (Cond.fieldLink own index "DrumMachine$Processor" "time" "J").before args s = true) (hdg : decode cc pc = .ok (.putfield index, 3)) (kk : ∀ (H1 : Heap) (locs1 : List Loc), c_W D q cI cJ cZ (c_time_s z v) H1 → va_S (c_qs q) H0 H1 locs1 → W p l e R s m args below meth c H1 locs1 cells slots Q (F0 m (pc + 3) ls rest)) : W p l e R s m args below meth c H locs cells slots Q (F0 m pc ls (.long v :: .ref (q 4) :: rest)) :=
  va_put (ci := 4) (v := .long v) (C := RPr) (T := TPr) (N := 9) hx hb hts hin tyPr tyPr_ok nmPr hown hK hP (c_D hq z) hS 4 rfl rfl 8 (by decide) hlink (fun _ h => h) rfl rfl rfl rfl (Nat.le_of_ble_eq_true rfl) hdg (fun H1 locs1 a _ b => kk H1 locs1 a b)
theorem cg5_upper (hx : p.tables.exec = Jvm.exec) (hb : c.code = cc) (hts : ∀ w ∈ Ts, w.before args s = true) (hin : ∀ w ∈ u_ws RAc TAc 4, w ∈ Ts) (hown : s.vm.findClass own = some m.cls) (hK : va_K D clA (tys3 cI cJ cZ) s) (hP : c_W D q cI cJ cZ z H) (hlink : (Cond.fieldLink own index "DrumMachine$Accumulator" "upper" "J").before args s = true) (hdg : decode cc pc = .ok (.getfield index, 3)) (kk : W p l e R s m args below meth c H locs cells slots Q (F0 m (pc + 3) ls (.long (c_upper z) :: rest))) : W p l e R s m args below meth c H locs cells slots Q (F0 m pc ls (.ref (q 5) :: rest)) :=
  va_get (ci := 5) (v := .long (c_upper z)) (C := RAc) (T := TAc) (N := 4) hx hb hts hin hown hK hP 5 rfl rfl 0 (by decide) hlink (fun _ h => h) rfl hdg kk
theorem cg5_upper_e {v : Int64} (hv : c_upper z = v) (hx : p.tables.exec = Jvm.exec) (hb : c.code = cc) (hts : ∀ w ∈ Ts, w.before args s = true) (hin : ∀ w ∈ u_ws RAc TAc 4, w ∈ Ts) (hown : s.vm.findClass own = some m.cls) (hK : va_K D clA (tys3 cI cJ cZ) s) (hP : c_W D q cI cJ cZ z H) (hlink : (Cond.fieldLink own index "DrumMachine$Accumulator" "upper" "J").before args s = true) (hdg : decode cc pc = .ok (.getfield index, 3)) (kk : W p l e R s m args below meth c H locs cells slots Q (F0 m (pc + 3) ls (.long v :: rest))) : W p l e R s m args below meth c H locs cells slots Q (F0 m pc ls (.ref (q 5) :: rest)) := by
  subst hv
  exact cg5_upper hx hb hts hin hown hK hP hlink hdg kk
theorem cp5_upper (v : Int64) (hq : c_inj q) (hS : va_S (c_qs q) H0 H locs) (hx : p.tables.exec = Jvm.exec) (hb : c.code = cc) (hts : ∀ w ∈ Ts, w.before args s = true) (hin : ∀ w ∈ u_ws RAc TAc 4, w ∈ Ts) (hown : s.vm.findClass own = some m.cls) (hK : va_K D clA (tys3 cI cJ cZ) s) (hP : c_W D q cI cJ cZ z H) (hlink : (Cond.fieldLink own index "DrumMachine$Accumulator" "upper" "J").before args s = true) (hdg : decode cc pc = .ok (.putfield index, 3)) (kk : ∀ (H1 : Heap) (locs1 : List Loc), c_W D q cI cJ cZ (c_upper_s z v) H1 → va_S (c_qs q) H0 H1 locs1 → W p l e R s m args below meth c H1 locs1 cells slots Q (F0 m (pc + 3) ls rest)) : W p l e R s m args below meth c H locs cells slots Q (F0 m pc ls (.long v :: .ref (q 5) :: rest)) :=
  va_put (ci := 5) (v := .long v) (C := RAc) (T := TAc) (N := 4) hx hb hts hin tyAc tyAc_ok nmAc hown hK hP (c_D hq z) hS 5 rfl rfl 0 (by decide) hlink (fun _ h => h) rfl rfl rfl rfl (Nat.le_of_ble_eq_true rfl) hdg (fun H1 locs1 a _ b => kk H1 locs1 a b)
theorem cg5_lower (hx : p.tables.exec = Jvm.exec) (hb : c.code = cc) (hts : ∀ w ∈ Ts, w.before args s = true) (hin : ∀ w ∈ u_ws RAc TAc 4, w ∈ Ts) (hown : s.vm.findClass own = some m.cls) (hK : va_K D clA (tys3 cI cJ cZ) s) (hP : c_W D q cI cJ cZ z H) (hlink : (Cond.fieldLink own index "DrumMachine$Accumulator" "lower" "J").before args s = true) (hdg : decode cc pc = .ok (.getfield index, 3)) (kk : W p l e R s m args below meth c H locs cells slots Q (F0 m (pc + 3) ls (.long (c_lower z) :: rest))) : W p l e R s m args below meth c H locs cells slots Q (F0 m pc ls (.ref (q 5) :: rest)) :=
  va_get (ci := 5) (v := .long (c_lower z)) (C := RAc) (T := TAc) (N := 4) hx hb hts hin hown hK hP 5 rfl rfl 1 (by decide) hlink (fun _ h => h) rfl hdg kk
theorem cg5_lower_e {v : Int64} (hv : c_lower z = v) (hx : p.tables.exec = Jvm.exec) (hb : c.code = cc) (hts : ∀ w ∈ Ts, w.before args s = true) (hin : ∀ w ∈ u_ws RAc TAc 4, w ∈ Ts) (hown : s.vm.findClass own = some m.cls) (hK : va_K D clA (tys3 cI cJ cZ) s) (hP : c_W D q cI cJ cZ z H) (hlink : (Cond.fieldLink own index "DrumMachine$Accumulator" "lower" "J").before args s = true) (hdg : decode cc pc = .ok (.getfield index, 3)) (kk : W p l e R s m args below meth c H locs cells slots Q (F0 m (pc + 3) ls (.long v :: rest))) : W p l e R s m args below meth c H locs cells slots Q (F0 m pc ls (.ref (q 5) :: rest)) := by
  subst hv
  exact cg5_lower hx hb hts hin hown hK hP hlink hdg kk
theorem cp5_lower (v : Int64) (hq : c_inj q) (hS : va_S (c_qs q) H0 H locs) (hx : p.tables.exec = Jvm.exec) (hb : c.code = cc) (hts : ∀ w ∈ Ts, w.before args s = true) (hin : ∀ w ∈ u_ws RAc TAc 4, w ∈ Ts) (hown : s.vm.findClass own = some m.cls) (hK : va_K D clA (tys3 cI cJ cZ) s) (hP : c_W D q cI cJ cZ z H) (hlink : (Cond.fieldLink own index "DrumMachine$Accumulator" "lower" "J").before args s = true) (hdg : decode cc pc = .ok (.putfield index, 3)) (kk : ∀ (H1 : Heap) (locs1 : List Loc), c_W D q cI cJ cZ (c_lower_s z v) H1 → va_S (c_qs q) H0 H1 locs1 → W p l e R s m args below meth c H1 locs1 cells slots Q (F0 m (pc + 3) ls rest)) : W p l e R s m args below meth c H locs cells slots Q (F0 m pc ls (.long v :: .ref (q 5) :: rest)) :=
  va_put (ci := 5) (v := .long v) (C := RAc) (T := TAc) (N := 4) hx hb hts hin tyAc tyAc_ok nmAc hown hK hP (c_D hq z) hS 5 rfl rfl 1 (by decide) hlink (fun _ h => h) rfl rfl rfl rfl (Nat.le_of_ble_eq_true rfl) hdg (fun H1 locs1 a _ b => kk H1 locs1 a b)
theorem cg5_minus (hx : p.tables.exec = Jvm.exec) (hb : c.code = cc) (hts : ∀ w ∈ Ts, w.before args s = true) (hin : ∀ w ∈ u_ws RAc TAc 4, w ∈ Ts) (hown : s.vm.findClass own = some m.cls) (hK : va_K D clA (tys3 cI cJ cZ) s) (hP : c_W D q cI cJ cZ z H) (hlink : (Cond.fieldLink own index "DrumMachine$Accumulator" "minus" "Z").before args s = true) (hdg : decode cc pc = .ok (.getfield index, 3)) (kk : W p l e R s m args below meth c H locs cells slots Q (F0 m (pc + 3) ls (.int (bb (c_amin z)) :: rest))) : W p l e R s m args below meth c H locs cells slots Q (F0 m pc ls (.ref (q 5) :: rest)) :=
  va_get (ci := 5) (v := .int (bb (c_amin z))) (C := RAc) (T := TAc) (N := 4) hx hb hts hin hown hK hP 5 rfl rfl 2 (by decide) hlink (fun _ h => h) rfl hdg kk
theorem cg5_minus_e {v : Bool} (hv : c_amin z = v) (hx : p.tables.exec = Jvm.exec) (hb : c.code = cc) (hts : ∀ w ∈ Ts, w.before args s = true) (hin : ∀ w ∈ u_ws RAc TAc 4, w ∈ Ts) (hown : s.vm.findClass own = some m.cls) (hK : va_K D clA (tys3 cI cJ cZ) s) (hP : c_W D q cI cJ cZ z H) (hlink : (Cond.fieldLink own index "DrumMachine$Accumulator" "minus" "Z").before args s = true) (hdg : decode cc pc = .ok (.getfield index, 3)) (kk : W p l e R s m args below meth c H locs cells slots Q (F0 m (pc + 3) ls (.int (bb v) :: rest))) : W p l e R s m args below meth c H locs cells slots Q (F0 m pc ls (.ref (q 5) :: rest)) := by
  subst hv
  exact cg5_minus hx hb hts hin hown hK hP hlink hdg kk
theorem cp5_minus (v : Bool) (hq : c_inj q) (hS : va_S (c_qs q) H0 H locs) (hx : p.tables.exec = Jvm.exec) (hb : c.code = cc) (hts : ∀ w ∈ Ts, w.before args s = true) (hin : ∀ w ∈ u_ws RAc TAc 4, w ∈ Ts) (hown : s.vm.findClass own = some m.cls) (hK : va_K D clA (tys3 cI cJ cZ) s) (hP : c_W D q cI cJ cZ z H) (hlink : (Cond.fieldLink own index "DrumMachine$Accumulator" "minus" "Z").before args s = true) (hdg : decode cc pc = .ok (.putfield index, 3)) (kk : ∀ (H1 : Heap) (locs1 : List Loc), c_W D q cI cJ cZ (c_amin_s z v) H1 → va_S (c_qs q) H0 H1 locs1 → W p l e R s m args below meth c H1 locs1 cells slots Q (F0 m (pc + 3) ls rest)) : W p l e R s m args below meth c H locs cells slots Q (F0 m pc ls (.int (bb v) :: .ref (q 5) :: rest)) :=
  va_put (ci := 5) (v := .int (bb v)) (C := RAc) (T := TAc) (N := 4) hx hb hts hin tyAc tyAc_ok nmAc hown hK hP (c_D hq z) hS 5 rfl rfl 2 (by decide) hlink (fun _ h => h) rfl rfl (nz_b v) (fz_b v) (Nat.le_of_ble_eq_true rfl) hdg (fun H1 locs1 a _ b => kk H1 locs1 a b)
theorem cg5_overflow (hx : p.tables.exec = Jvm.exec) (hb : c.code = cc) (hts : ∀ w ∈ Ts, w.before args s = true) (hin : ∀ w ∈ u_ws RAc TAc 4, w ∈ Ts) (hown : s.vm.findClass own = some m.cls) (hK : va_K D clA (tys3 cI cJ cZ) s) (hP : c_W D q cI cJ cZ z H) (hlink : (Cond.fieldLink own index "DrumMachine$Accumulator" "overflow" "Z").before args s = true) (hdg : decode cc pc = .ok (.getfield index, 3)) (kk : W p l e R s m args below meth c H locs cells slots Q (F0 m (pc + 3) ls (.int (bb (c_ovf z)) :: rest))) : W p l e R s m args below meth c H locs cells slots Q (F0 m pc ls (.ref (q 5) :: rest)) :=
  va_get (ci := 5) (v := .int (bb (c_ovf z))) (C := RAc) (T := TAc) (N := 4) hx hb hts hin hown hK hP 5 rfl rfl 3 (by decide) hlink (fun _ h => h) rfl hdg kk
theorem cg5_overflow_e {v : Bool} (hv : c_ovf z = v) (hx : p.tables.exec = Jvm.exec) (hb : c.code = cc) (hts : ∀ w ∈ Ts, w.before args s = true) (hin : ∀ w ∈ u_ws RAc TAc 4, w ∈ Ts) (hown : s.vm.findClass own = some m.cls) (hK : va_K D clA (tys3 cI cJ cZ) s) (hP : c_W D q cI cJ cZ z H) (hlink : (Cond.fieldLink own index "DrumMachine$Accumulator" "overflow" "Z").before args s = true) (hdg : decode cc pc = .ok (.getfield index, 3)) (kk : W p l e R s m args below meth c H locs cells slots Q (F0 m (pc + 3) ls (.int (bb v) :: rest))) : W p l e R s m args below meth c H locs cells slots Q (F0 m pc ls (.ref (q 5) :: rest)) := by
  subst hv
  exact cg5_overflow hx hb hts hin hown hK hP hlink hdg kk
theorem cp5_overflow (v : Bool) (hq : c_inj q) (hS : va_S (c_qs q) H0 H locs) (hx : p.tables.exec = Jvm.exec) (hb : c.code = cc) (hts : ∀ w ∈ Ts, w.before args s = true) (hin : ∀ w ∈ u_ws RAc TAc 4, w ∈ Ts) (hown : s.vm.findClass own = some m.cls) (hK : va_K D clA (tys3 cI cJ cZ) s) (hP : c_W D q cI cJ cZ z H) (hlink : (Cond.fieldLink own index "DrumMachine$Accumulator" "overflow" "Z").before args s = true) (hdg : decode cc pc = .ok (.putfield index, 3)) (kk : ∀ (H1 : Heap) (locs1 : List Loc), c_W D q cI cJ cZ (c_ovf_s z v) H1 → va_S (c_qs q) H0 H1 locs1 → W p l e R s m args below meth c H1 locs1 cells slots Q (F0 m (pc + 3) ls rest)) : W p l e R s m args below meth c H locs cells slots Q (F0 m pc ls (.int (bb v) :: .ref (q 5) :: rest)) :=
  va_put (ci := 5) (v := .int (bb v)) (C := RAc) (T := TAc) (N := 4) hx hb hts hin tyAc tyAc_ok nmAc hown hK hP (c_D hq z) hS 5 rfl rfl 3 (by decide) hlink (fun _ h => h) rfl rfl (nz_b v) (fz_b v) (Nat.le_of_ble_eq_true rfl) hdg (fun H1 locs1 a _ b => kk H1 locs1 a b)
theorem cg6_locationParts (hx : p.tables.exec = Jvm.exec) (hb : c.code = cc) (hts : ∀ w ∈ Ts, w.before args s = true) (hin : ∀ w ∈ u_ws RAs TAs 11, w ∈ Ts) (hown : s.vm.findClass own = some m.cls) (hK : va_K D clA (tys3 cI cJ cZ) s) (hP : c_W D q cI cJ cZ z H) (hlink : (Cond.fieldLink own index "DrumMachine$Assembler" "locationParts" "[I").before args s = true) (hdg : decode cc pc = .ok (.getfield index, 3)) (kk : W p l e R s m args below meth c H locs cells slots Q (F0 m (pc + 3) ls (.ref (q 13) :: rest))) : W p l e R s m args below meth c H locs cells slots Q (F0 m pc ls (.ref (q 6) :: rest)) :=
  va_get (ci := 6) (v := .ref (q 13)) (C := RAs) (T := TAs) (N := 11) hx hb hts hin hown hK hP 6 rfl rfl 0 (by decide) hlink (fun _ h => h) rfl hdg kk
theorem cg6_operations (hx : p.tables.exec = Jvm.exec) (hb : c.code = cc) (hts : ∀ w ∈ Ts, w.before args s = true) (hin : ∀ w ∈ u_ws RAs TAs 11, w ∈ Ts) (hown : s.vm.findClass own = some m.cls) (hK : va_K D clA (tys3 cI cJ cZ) s) (hP : c_W D q cI cJ cZ z H) (hlink : (Cond.fieldLink own index "DrumMachine$Assembler" "operations" "[I").before args s = true) (hdg : decode cc pc = .ok (.getfield index, 3)) (kk : W p l e R s m args below meth c H locs cells slots Q (F0 m (pc + 3) ls (.ref (q 14) :: rest))) : W p l e R s m args below meth c H locs cells slots Q (F0 m pc ls (.ref (q 6) :: rest)) :=
  va_get (ci := 6) (v := .ref (q 14)) (C := RAs) (T := TAs) (N := 11) hx hb hts hin hown hK hP 6 rfl rfl 1 (by decide) hlink (fun _ h => h) rfl hdg kk
theorem cg6_dataParts (hx : p.tables.exec = Jvm.exec) (hb : c.code = cc) (hts : ∀ w ∈ Ts, w.before args s = true) (hin : ∀ w ∈ u_ws RAs TAs 11, w ∈ Ts) (hown : s.vm.findClass own = some m.cls) (hK : va_K D clA (tys3 cI cJ cZ) s) (hP : c_W D q cI cJ cZ z H) (hlink : (Cond.fieldLink own index "DrumMachine$Assembler" "dataParts" "[I").before args s = true) (hdg : decode cc pc = .ok (.getfield index, 3)) (kk : W p l e R s m args below meth c H locs cells slots Q (F0 m (pc + 3) ls (.ref (q 15) :: rest))) : W p l e R s m args below meth c H locs cells slots Q (F0 m pc ls (.ref (q 6) :: rest)) :=
  va_get (ci := 6) (v := .ref (q 15)) (C := RAs) (T := TAs) (N := 11) hx hb hts hin hown hK hP 6 rfl rfl 2 (by decide) hlink (fun _ h => h) rfl hdg kk
theorem cg6_nextParts (hx : p.tables.exec = Jvm.exec) (hb : c.code = cc) (hts : ∀ w ∈ Ts, w.before args s = true) (hin : ∀ w ∈ u_ws RAs TAs 11, w ∈ Ts) (hown : s.vm.findClass own = some m.cls) (hK : va_K D clA (tys3 cI cJ cZ) s) (hP : c_W D q cI cJ cZ z H) (hlink : (Cond.fieldLink own index "DrumMachine$Assembler" "nextParts" "[I").before args s = true) (hdg : decode cc pc = .ok (.getfield index, 3)) (kk : W p l e R s m args below meth c H locs cells slots Q (F0 m (pc + 3) ls (.ref (q 16) :: rest))) : W p l e R s m args below meth c H locs cells slots Q (F0 m pc ls (.ref (q 6) :: rest)) :=
  va_get (ci := 6) (v := .ref (q 16)) (C := RAs) (T := TAs) (N := 11) hx hb hts hin hown hK hP 6 rfl rfl 3 (by decide) hlink (fun _ h => h) rfl hdg kk
theorem cg6_locations (hx : p.tables.exec = Jvm.exec) (hb : c.code = cc) (hts : ∀ w ∈ Ts, w.before args s = true) (hin : ∀ w ∈ u_ws RAs TAs 11, w ∈ Ts) (hown : s.vm.findClass own = some m.cls) (hK : va_K D clA (tys3 cI cJ cZ) s) (hP : c_W D q cI cJ cZ z H) (hlink : (Cond.fieldLink own index "DrumMachine$Assembler" "locations" "[I").before args s = true) (hdg : decode cc pc = .ok (.getfield index, 3)) (kk : W p l e R s m args below meth c H locs cells slots Q (F0 m (pc + 3) ls (.ref (q 17) :: rest))) : W p l e R s m args below meth c H locs cells slots Q (F0 m pc ls (.ref (q 6) :: rest)) :=
  va_get (ci := 6) (v := .ref (q 17)) (C := RAs) (T := TAs) (N := 11) hx hb hts hin hown hK hP 6 rfl rfl 4 (by decide) hlink (fun _ h => h) rfl hdg kk
theorem cg6_data (hx : p.tables.exec = Jvm.exec) (hb : c.code = cc) (hts : ∀ w ∈ Ts, w.before args s = true) (hin : ∀ w ∈ u_ws RAs TAs 11, w ∈ Ts) (hown : s.vm.findClass own = some m.cls) (hK : va_K D clA (tys3 cI cJ cZ) s) (hP : c_W D q cI cJ cZ z H) (hlink : (Cond.fieldLink own index "DrumMachine$Assembler" "data" "[I").before args s = true) (hdg : decode cc pc = .ok (.getfield index, 3)) (kk : W p l e R s m args below meth c H locs cells slots Q (F0 m (pc + 3) ls (.ref (q 18) :: rest))) : W p l e R s m args below meth c H locs cells slots Q (F0 m pc ls (.ref (q 6) :: rest)) :=
  va_get (ci := 6) (v := .ref (q 18)) (C := RAs) (T := TAs) (N := 11) hx hb hts hin hown hK hP 6 rfl rfl 5 (by decide) hlink (fun _ h => h) rfl hdg kk
theorem cg6_nexts (hx : p.tables.exec = Jvm.exec) (hb : c.code = cc) (hts : ∀ w ∈ Ts, w.before args s = true) (hin : ∀ w ∈ u_ws RAs TAs 11, w ∈ Ts) (hown : s.vm.findClass own = some m.cls) (hK : va_K D clA (tys3 cI cJ cZ) s) (hP : c_W D q cI cJ cZ z H) (hlink : (Cond.fieldLink own index "DrumMachine$Assembler" "nexts" "[I").before args s = true) (hdg : decode cc pc = .ok (.getfield index, 3)) (kk : W p l e R s m args below meth c H locs cells slots Q (F0 m (pc + 3) ls (.ref (q 19) :: rest))) : W p l e R s m args below meth c H locs cells slots Q (F0 m pc ls (.ref (q 6) :: rest)) :=
  va_get (ci := 6) (v := .ref (q 19)) (C := RAs) (T := TAs) (N := 11) hx hb hts hin hown hK hP 6 rfl rfl 6 (by decide) hlink (fun _ h => h) rfl hdg kk
theorem cg6_symbolPlaces (hx : p.tables.exec = Jvm.exec) (hb : c.code = cc) (hts : ∀ w ∈ Ts, w.before args s = true) (hin : ∀ w ∈ u_ws RAs TAs 11, w ∈ Ts) (hown : s.vm.findClass own = some m.cls) (hK : va_K D clA (tys3 cI cJ cZ) s) (hP : c_W D q cI cJ cZ z H) (hlink : (Cond.fieldLink own index "DrumMachine$Assembler" "symbolPlaces" "[I").before args s = true) (hdg : decode cc pc = .ok (.getfield index, 3)) (kk : W p l e R s m args below meth c H locs cells slots Q (F0 m (pc + 3) ls (.ref (q 20) :: rest))) : W p l e R s m args below meth c H locs cells slots Q (F0 m pc ls (.ref (q 6) :: rest)) :=
  va_get (ci := 6) (v := .ref (q 20)) (C := RAs) (T := TAs) (N := 11) hx hb hts hin hown hK hP 6 rfl rfl 7 (by decide) hlink (fun _ h => h) rfl hdg kk
theorem cg6_reserved (hx : p.tables.exec = Jvm.exec) (hb : c.code = cc) (hts : ∀ w ∈ Ts, w.before args s = true) (hin : ∀ w ∈ u_ws RAs TAs 11, w ∈ Ts) (hown : s.vm.findClass own = some m.cls) (hK : va_K D clA (tys3 cI cJ cZ) s) (hP : c_W D q cI cJ cZ z H) (hlink : (Cond.fieldLink own index "DrumMachine$Assembler" "reserved" "[Z").before args s = true) (hdg : decode cc pc = .ok (.getfield index, 3)) (kk : W p l e R s m args below meth c H locs cells slots Q (F0 m (pc + 3) ls (.ref (q 21) :: rest))) : W p l e R s m args below meth c H locs cells slots Q (F0 m pc ls (.ref (q 6) :: rest)) :=
  va_get (ci := 6) (v := .ref (q 21)) (C := RAs) (T := TAs) (N := 11) hx hb hts hin hown hK hP 6 rfl rfl 8 (by decide) hlink (fun _ h => h) rfl hdg kk
theorem cg6_taken (hx : p.tables.exec = Jvm.exec) (hb : c.code = cc) (hts : ∀ w ∈ Ts, w.before args s = true) (hin : ∀ w ∈ u_ws RAs TAs 11, w ∈ Ts) (hown : s.vm.findClass own = some m.cls) (hK : va_K D clA (tys3 cI cJ cZ) s) (hP : c_W D q cI cJ cZ z H) (hlink : (Cond.fieldLink own index "DrumMachine$Assembler" "taken" "[Z").before args s = true) (hdg : decode cc pc = .ok (.getfield index, 3)) (kk : W p l e R s m args below meth c H locs cells slots Q (F0 m (pc + 3) ls (.ref (q 22) :: rest))) : W p l e R s m args below meth c H locs cells slots Q (F0 m pc ls (.ref (q 6) :: rest)) :=
  va_get (ci := 6) (v := .ref (q 22)) (C := RAs) (T := TAs) (N := 11) hx hb hts hin hown hK hP 6 rfl rfl 9 (by decide) hlink (fun _ h => h) rfl hdg kk
theorem cg6_count (hx : p.tables.exec = Jvm.exec) (hb : c.code = cc) (hts : ∀ w ∈ Ts, w.before args s = true) (hin : ∀ w ∈ u_ws RAs TAs 11, w ∈ Ts) (hown : s.vm.findClass own = some m.cls) (hK : va_K D clA (tys3 cI cJ cZ) s) (hP : c_W D q cI cJ cZ z H) (hlink : (Cond.fieldLink own index "DrumMachine$Assembler" "count" "I").before args s = true) (hdg : decode cc pc = .ok (.getfield index, 3)) (kk : W p l e R s m args below meth c H locs cells slots Q (F0 m (pc + 3) ls (.int (c_acount z) :: rest))) : W p l e R s m args below meth c H locs cells slots Q (F0 m pc ls (.ref (q 6) :: rest)) :=
  va_get (ci := 6) (v := .int (c_acount z)) (C := RAs) (T := TAs) (N := 11) hx hb hts hin hown hK hP 6 rfl rfl 10 (by decide) hlink (fun _ h => h) rfl hdg kk
theorem cg6_count_e {v : Int32} (hv : c_acount z = v) (hx : p.tables.exec = Jvm.exec) (hb : c.code = cc) (hts : ∀ w ∈ Ts, w.before args s = true) (hin : ∀ w ∈ u_ws RAs TAs 11, w ∈ Ts) (hown : s.vm.findClass own = some m.cls) (hK : va_K D clA (tys3 cI cJ cZ) s) (hP : c_W D q cI cJ cZ z H) (hlink : (Cond.fieldLink own index "DrumMachine$Assembler" "count" "I").before args s = true) (hdg : decode cc pc = .ok (.getfield index, 3)) (kk : W p l e R s m args below meth c H locs cells slots Q (F0 m (pc + 3) ls (.int v :: rest))) : W p l e R s m args below meth c H locs cells slots Q (F0 m pc ls (.ref (q 6) :: rest)) := by
  subst hv
  exact cg6_count hx hb hts hin hown hK hP hlink hdg kk
theorem cp6_count (v : Int32) (hq : c_inj q) (hS : va_S (c_qs q) H0 H locs) (hx : p.tables.exec = Jvm.exec) (hb : c.code = cc) (hts : ∀ w ∈ Ts, w.before args s = true) (hin : ∀ w ∈ u_ws RAs TAs 11, w ∈ Ts) (hown : s.vm.findClass own = some m.cls) (hK : va_K D clA (tys3 cI cJ cZ) s) (hP : c_W D q cI cJ cZ z H) (hlink : (Cond.fieldLink own index "DrumMachine$Assembler" "count" "I").before args s = true) (hdg : decode cc pc = .ok (.putfield index, 3)) (kk : ∀ (H1 : Heap) (locs1 : List Loc), c_W D q cI cJ cZ (c_acount_s z v) H1 → va_S (c_qs q) H0 H1 locs1 → W p l e R s m args below meth c H1 locs1 cells slots Q (F0 m (pc + 3) ls rest)) : W p l e R s m args below meth c H locs cells slots Q (F0 m pc ls (.int v :: .ref (q 6) :: rest)) :=
  va_put (ci := 6) (v := .int v) (C := RAs) (T := TAs) (N := 11) hx hb hts hin tyAs tyAs_ok nmAs hown hK hP (c_D hq z) hS 6 rfl rfl 10 (by decide) hlink (fun _ h => h) rfl rfl rfl rfl (Nat.le_of_ble_eq_true rfl) hdg (fun H1 locs1 a _ b => kk H1 locs1 a b)
theorem cl_codes {i : Int32} (hx : p.tables.exec = Jvm.exec) (hb : c.code = cc) (hK : va_K D clA (tys3 cI cJ cZ) s) (hP : c_W D q cI cJ cZ z H) (hin : vp_in i 2000) (hdg : decode cc pc = .ok (.iaload, 1)) (kk : W p l e R s m args below meth c H locs cells slots Q (F0 m (pc + 1) ls (.int (c_codes z i.toNatClampNeg) :: rest))) : W p l e R s m args below meth c H locs cells slots Q (F0 m pc ls (.int i :: .ref (q 7) :: rest)) :=
  va_iald hx hb hK hP 7 0 rfl rfl hin hdg kk
theorem cl_codes_e {i : Int32} {f : Nat → Int32} (hf : c_codes z = f) (hx : p.tables.exec = Jvm.exec) (hb : c.code = cc) (hK : va_K D clA (tys3 cI cJ cZ) s) (hP : c_W D q cI cJ cZ z H) (hin : vp_in i 2000) (hdg : decode cc pc = .ok (.iaload, 1)) (kk : W p l e R s m args below meth c H locs cells slots Q (F0 m (pc + 1) ls (.int (f i.toNatClampNeg) :: rest))) : W p l e R s m args below meth c H locs cells slots Q (F0 m pc ls (.int i :: .ref (q 7) :: rest)) := by
  subst hf
  exact cl_codes hx hb hK hP hin hdg kk
theorem cs_codes {i : Int32} (v : Int32) (hq : c_inj q) (hS : va_S (c_qs q) H0 H locs) (hx : p.tables.exec = Jvm.exec) (hb : c.code = cc) (hK : va_K D clA (tys3 cI cJ cZ) s) (hP : c_W D q cI cJ cZ z H) (hin : vp_in i 2000) (hdg : decode cc pc = .ok (.iastore, 1)) (kk : ∀ (H1 : Heap) (locs1 : List Loc), c_W D q cI cJ cZ (c_codes_s z (upd (c_codes z) i.toNatClampNeg v)) H1 → va_S (c_qs q) H0 H1 locs1 → W p l e R s m args below meth c H1 locs1 cells slots Q (F0 m (pc + 1) ls rest)) : W p l e R s m args below meth c H locs cells slots Q (F0 m pc ls (.int v :: .int i :: .ref (q 7) :: rest)) :=
  va_iast hx hb hK hP (c_D hq z) hS 7 0 rfl rfl hin hdg (fun H1 locs1 a _ b => kk H1 locs1 a b)
theorem cs_codes_e {i : Int32} (v : Int32) {f : Nat → Int32} (hf : c_codes z = f) (hq : c_inj q) (hS : va_S (c_qs q) H0 H locs) (hx : p.tables.exec = Jvm.exec) (hb : c.code = cc) (hK : va_K D clA (tys3 cI cJ cZ) s) (hP : c_W D q cI cJ cZ z H) (hin : vp_in i 2000) (hdg : decode cc pc = .ok (.iastore, 1)) (kk : ∀ (H1 : Heap) (locs1 : List Loc), c_W D q cI cJ cZ (c_codes_s z (upd f i.toNatClampNeg v)) H1 → va_S (c_qs q) H0 H1 locs1 → W p l e R s m args below meth c H1 locs1 cells slots Q (F0 m (pc + 1) ls rest)) : W p l e R s m args below meth c H locs cells slots Q (F0 m pc ls (.int v :: .int i :: .ref (q 7) :: rest)) := by
  subst hf
  exact cs_codes v hq hS hx hb hK hP hin hdg kk
theorem cl_vals {i : Int32} (hx : p.tables.exec = Jvm.exec) (hb : c.code = cc) (hK : va_K D clA (tys3 cI cJ cZ) s) (hP : c_W D q cI cJ cZ z H) (hin : vp_in i 200) (hdg : decode cc pc = .ok (.laload, 1)) (kk : W p l e R s m args below meth c H locs cells slots Q (F0 m (pc + 1) ls (.long (c_vals z i.toNatClampNeg) :: rest))) : W p l e R s m args below meth c H locs cells slots Q (F0 m pc ls (.int i :: .ref (q 8) :: rest)) :=
  va_lald hx hb hK hP 8 1 rfl rfl hin hdg kk
theorem cl_vals_e {i : Int32} {f : Nat → Int64} (hf : c_vals z = f) (hx : p.tables.exec = Jvm.exec) (hb : c.code = cc) (hK : va_K D clA (tys3 cI cJ cZ) s) (hP : c_W D q cI cJ cZ z H) (hin : vp_in i 200) (hdg : decode cc pc = .ok (.laload, 1)) (kk : W p l e R s m args below meth c H locs cells slots Q (F0 m (pc + 1) ls (.long (f i.toNatClampNeg) :: rest))) : W p l e R s m args below meth c H locs cells slots Q (F0 m pc ls (.int i :: .ref (q 8) :: rest)) := by
  subst hf
  exact cl_vals hx hb hK hP hin hdg kk
theorem cs_vals {i : Int32} (v : Int64) (hq : c_inj q) (hS : va_S (c_qs q) H0 H locs) (hx : p.tables.exec = Jvm.exec) (hb : c.code = cc) (hK : va_K D clA (tys3 cI cJ cZ) s) (hP : c_W D q cI cJ cZ z H) (hin : vp_in i 200) (hdg : decode cc pc = .ok (.lastore, 1)) (kk : ∀ (H1 : Heap) (locs1 : List Loc), c_W D q cI cJ cZ (c_vals_s z (vp_updL (c_vals z) i.toNatClampNeg v)) H1 → va_S (c_qs q) H0 H1 locs1 → W p l e R s m args below meth c H1 locs1 cells slots Q (F0 m (pc + 1) ls rest)) : W p l e R s m args below meth c H locs cells slots Q (F0 m pc ls (.long v :: .int i :: .ref (q 8) :: rest)) :=
  va_last hx hb hK hP (c_D hq z) hS 8 1 rfl rfl hin hdg (fun H1 locs1 a _ b => kk H1 locs1 a b)
theorem cs_vals_e {i : Int32} (v : Int64) {f : Nat → Int64} (hf : c_vals z = f) (hq : c_inj q) (hS : va_S (c_qs q) H0 H locs) (hx : p.tables.exec = Jvm.exec) (hb : c.code = cc) (hK : va_K D clA (tys3 cI cJ cZ) s) (hP : c_W D q cI cJ cZ z H) (hin : vp_in i 200) (hdg : decode cc pc = .ok (.lastore, 1)) (kk : ∀ (H1 : Heap) (locs1 : List Loc), c_W D q cI cJ cZ (c_vals_s z (vp_updL f i.toNatClampNeg v)) H1 → va_S (c_qs q) H0 H1 locs1 → W p l e R s m args below meth c H1 locs1 cells slots Q (F0 m (pc + 1) ls rest)) : W p l e R s m args below meth c H locs cells slots Q (F0 m pc ls (.long v :: .int i :: .ref (q 8) :: rest)) := by
  subst hf
  exact cs_vals v hq hS hx hb hK hP hin hdg kk
theorem cl_dmin {i : Int32} (hx : p.tables.exec = Jvm.exec) (hb : c.code = cc) (hK : va_K D clA (tys3 cI cJ cZ) s) (hP : c_W D q cI cJ cZ z H) (hin : vp_in i 200) (hdg : decode cc pc = .ok (.baload, 1)) (kk : W p l e R s m args below meth c H locs cells slots Q (F0 m (pc + 1) ls (.int (bb (c_dmin z i.toNatClampNeg)) :: rest))) : W p l e R s m args below meth c H locs cells slots Q (F0 m pc ls (.int i :: .ref (q 9) :: rest)) :=
  va_zald hx hb hK hP 9 2 rfl rfl hin hdg kk
theorem cl_dmin_e {i : Int32} {f : Nat → Bool} (hf : c_dmin z = f) (hx : p.tables.exec = Jvm.exec) (hb : c.code = cc) (hK : va_K D clA (tys3 cI cJ cZ) s) (hP : c_W D q cI cJ cZ z H) (hin : vp_in i 200) (hdg : decode cc pc = .ok (.baload, 1)) (kk : W p l e R s m args below meth c H locs cells slots Q (F0 m (pc + 1) ls (.int (bb (f i.toNatClampNeg)) :: rest))) : W p l e R s m args below meth c H locs cells slots Q (F0 m pc ls (.int i :: .ref (q 9) :: rest)) := by
  subst hf
  exact cl_dmin hx hb hK hP hin hdg kk
theorem cs_dmin {i : Int32} (v : Bool) (hq : c_inj q) (hS : va_S (c_qs q) H0 H locs) (hx : p.tables.exec = Jvm.exec) (hb : c.code = cc) (hK : va_K D clA (tys3 cI cJ cZ) s) (hP : c_W D q cI cJ cZ z H) (hin : vp_in i 200) (hdg : decode cc pc = .ok (.bastore, 1)) (kk : ∀ (H1 : Heap) (locs1 : List Loc), c_W D q cI cJ cZ (c_dmin_s z (updB (c_dmin z) i.toNatClampNeg v)) H1 → va_S (c_qs q) H0 H1 locs1 → W p l e R s m args below meth c H1 locs1 cells slots Q (F0 m (pc + 1) ls rest)) : W p l e R s m args below meth c H locs cells slots Q (F0 m pc ls (.int (bb v) :: .int i :: .ref (q 9) :: rest)) :=
  va_zast hx hb hK hP (c_D hq z) hS 9 2 rfl rfl hin hdg (fun H1 locs1 a _ b => kk H1 locs1 (by rw [updB_eq] at a; exact a) b)
theorem cs_dmin_e {i : Int32} (v : Bool) {f : Nat → Bool} (hf : c_dmin z = f) (hq : c_inj q) (hS : va_S (c_qs q) H0 H locs) (hx : p.tables.exec = Jvm.exec) (hb : c.code = cc) (hK : va_K D clA (tys3 cI cJ cZ) s) (hP : c_W D q cI cJ cZ z H) (hin : vp_in i 200) (hdg : decode cc pc = .ok (.bastore, 1)) (kk : ∀ (H1 : Heap) (locs1 : List Loc), c_W D q cI cJ cZ (c_dmin_s z (updB f i.toNatClampNeg v)) H1 → va_S (c_qs q) H0 H1 locs1 → W p l e R s m args below meth c H1 locs1 cells slots Q (F0 m (pc + 1) ls rest)) : W p l e R s m args below meth c H locs cells slots Q (F0 m pc ls (.int (bb v) :: .int i :: .ref (q 9) :: rest)) := by
  subst hf
  exact cs_dmin v hq hS hx hb hK hP hin hdg kk
theorem cl_cvals {i : Int32} (hx : p.tables.exec = Jvm.exec) (hb : c.code = cc) (hK : va_K D clA (tys3 cI cJ cZ) s) (hP : c_W D q cI cJ cZ z H) (hin : vp_in i 20) (hdg : decode cc pc = .ok (.laload, 1)) (kk : W p l e R s m args below meth c H locs cells slots Q (F0 m (pc + 1) ls (.long (c_cvals z i.toNatClampNeg) :: rest))) : W p l e R s m args below meth c H locs cells slots Q (F0 m pc ls (.int i :: .ref (q 10) :: rest)) :=
  va_lald hx hb hK hP 10 1 rfl rfl hin hdg kk
theorem cl_cvals_e {i : Int32} {f : Nat → Int64} (hf : c_cvals z = f) (hx : p.tables.exec = Jvm.exec) (hb : c.code = cc) (hK : va_K D clA (tys3 cI cJ cZ) s) (hP : c_W D q cI cJ cZ z H) (hin : vp_in i 20) (hdg : decode cc pc = .ok (.laload, 1)) (kk : W p l e R s m args below meth c H locs cells slots Q (F0 m (pc + 1) ls (.long (f i.toNatClampNeg) :: rest))) : W p l e R s m args below meth c H locs cells slots Q (F0 m pc ls (.int i :: .ref (q 10) :: rest)) := by
  subst hf
  exact cl_cvals hx hb hK hP hin hdg kk
theorem cs_cvals {i : Int32} (v : Int64) (hq : c_inj q) (hS : va_S (c_qs q) H0 H locs) (hx : p.tables.exec = Jvm.exec) (hb : c.code = cc) (hK : va_K D clA (tys3 cI cJ cZ) s) (hP : c_W D q cI cJ cZ z H) (hin : vp_in i 20) (hdg : decode cc pc = .ok (.lastore, 1)) (kk : ∀ (H1 : Heap) (locs1 : List Loc), c_W D q cI cJ cZ (c_cvals_s z (vp_updL (c_cvals z) i.toNatClampNeg v)) H1 → va_S (c_qs q) H0 H1 locs1 → W p l e R s m args below meth c H1 locs1 cells slots Q (F0 m (pc + 1) ls rest)) : W p l e R s m args below meth c H locs cells slots Q (F0 m pc ls (.long v :: .int i :: .ref (q 10) :: rest)) :=
  va_last hx hb hK hP (c_D hq z) hS 10 1 rfl rfl hin hdg (fun H1 locs1 a _ b => kk H1 locs1 a b)
theorem cs_cvals_e {i : Int32} (v : Int64) {f : Nat → Int64} (hf : c_cvals z = f) (hq : c_inj q) (hS : va_S (c_qs q) H0 H locs) (hx : p.tables.exec = Jvm.exec) (hb : c.code = cc) (hK : va_K D clA (tys3 cI cJ cZ) s) (hP : c_W D q cI cJ cZ z H) (hin : vp_in i 20) (hdg : decode cc pc = .ok (.lastore, 1)) (kk : ∀ (H1 : Heap) (locs1 : List Loc), c_W D q cI cJ cZ (c_cvals_s z (vp_updL f i.toNatClampNeg v)) H1 → va_S (c_qs q) H0 H1 locs1 → W p l e R s m args below meth c H1 locs1 cells slots Q (F0 m (pc + 1) ls rest)) : W p l e R s m args below meth c H locs cells slots Q (F0 m pc ls (.long v :: .int i :: .ref (q 10) :: rest)) := by
  subst hf
  exact cs_cvals v hq hS hx hb hK hP hin hdg kk
theorem cl_cmin {i : Int32} (hx : p.tables.exec = Jvm.exec) (hb : c.code = cc) (hK : va_K D clA (tys3 cI cJ cZ) s) (hP : c_W D q cI cJ cZ z H) (hin : vp_in i 20) (hdg : decode cc pc = .ok (.baload, 1)) (kk : W p l e R s m args below meth c H locs cells slots Q (F0 m (pc + 1) ls (.int (bb (c_cmin z i.toNatClampNeg)) :: rest))) : W p l e R s m args below meth c H locs cells slots Q (F0 m pc ls (.int i :: .ref (q 11) :: rest)) :=
  va_zald hx hb hK hP 11 2 rfl rfl hin hdg kk
theorem cl_cmin_e {i : Int32} {f : Nat → Bool} (hf : c_cmin z = f) (hx : p.tables.exec = Jvm.exec) (hb : c.code = cc) (hK : va_K D clA (tys3 cI cJ cZ) s) (hP : c_W D q cI cJ cZ z H) (hin : vp_in i 20) (hdg : decode cc pc = .ok (.baload, 1)) (kk : W p l e R s m args below meth c H locs cells slots Q (F0 m (pc + 1) ls (.int (bb (f i.toNatClampNeg)) :: rest))) : W p l e R s m args below meth c H locs cells slots Q (F0 m pc ls (.int i :: .ref (q 11) :: rest)) := by
  subst hf
  exact cl_cmin hx hb hK hP hin hdg kk
theorem cs_cmin {i : Int32} (v : Bool) (hq : c_inj q) (hS : va_S (c_qs q) H0 H locs) (hx : p.tables.exec = Jvm.exec) (hb : c.code = cc) (hK : va_K D clA (tys3 cI cJ cZ) s) (hP : c_W D q cI cJ cZ z H) (hin : vp_in i 20) (hdg : decode cc pc = .ok (.bastore, 1)) (kk : ∀ (H1 : Heap) (locs1 : List Loc), c_W D q cI cJ cZ (c_cmin_s z (updB (c_cmin z) i.toNatClampNeg v)) H1 → va_S (c_qs q) H0 H1 locs1 → W p l e R s m args below meth c H1 locs1 cells slots Q (F0 m (pc + 1) ls rest)) : W p l e R s m args below meth c H locs cells slots Q (F0 m pc ls (.int (bb v) :: .int i :: .ref (q 11) :: rest)) :=
  va_zast hx hb hK hP (c_D hq z) hS 11 2 rfl rfl hin hdg (fun H1 locs1 a _ b => kk H1 locs1 (by rw [updB_eq] at a; exact a) b)
theorem cs_cmin_e {i : Int32} (v : Bool) {f : Nat → Bool} (hf : c_cmin z = f) (hq : c_inj q) (hS : va_S (c_qs q) H0 H locs) (hx : p.tables.exec = Jvm.exec) (hb : c.code = cc) (hK : va_K D clA (tys3 cI cJ cZ) s) (hP : c_W D q cI cJ cZ z H) (hin : vp_in i 20) (hdg : decode cc pc = .ok (.bastore, 1)) (kk : ∀ (H1 : Heap) (locs1 : List Loc), c_W D q cI cJ cZ (c_cmin_s z (updB f i.toNatClampNeg v)) H1 → va_S (c_qs q) H0 H1 locs1 → W p l e R s m args below meth c H1 locs1 cells slots Q (F0 m (pc + 1) ls rest)) : W p l e R s m args below meth c H locs cells slots Q (F0 m pc ls (.int (bb v) :: .int i :: .ref (q 11) :: rest)) := by
  subst hf
  exact cs_cmin v hq hS hx hb hK hP hin hdg kk
theorem cl_words {i : Int32} (hx : p.tables.exec = Jvm.exec) (hb : c.code = cc) (hK : va_K D clA (tys3 cI cJ cZ) s) (hP : c_W D q cI cJ cZ z H) (hin : vp_in i 40) (hdg : decode cc pc = .ok (.laload, 1)) (kk : W p l e R s m args below meth c H locs cells slots Q (F0 m (pc + 1) ls (.long (c_words z i.toNatClampNeg) :: rest))) : W p l e R s m args below meth c H locs cells slots Q (F0 m pc ls (.int i :: .ref (q 12) :: rest)) :=
  va_lald hx hb hK hP 12 1 rfl rfl hin hdg kk
theorem cl_words_e {i : Int32} {f : Nat → Int64} (hf : c_words z = f) (hx : p.tables.exec = Jvm.exec) (hb : c.code = cc) (hK : va_K D clA (tys3 cI cJ cZ) s) (hP : c_W D q cI cJ cZ z H) (hin : vp_in i 40) (hdg : decode cc pc = .ok (.laload, 1)) (kk : W p l e R s m args below meth c H locs cells slots Q (F0 m (pc + 1) ls (.long (f i.toNatClampNeg) :: rest))) : W p l e R s m args below meth c H locs cells slots Q (F0 m pc ls (.int i :: .ref (q 12) :: rest)) := by
  subst hf
  exact cl_words hx hb hK hP hin hdg kk
theorem cs_words {i : Int32} (v : Int64) (hq : c_inj q) (hS : va_S (c_qs q) H0 H locs) (hx : p.tables.exec = Jvm.exec) (hb : c.code = cc) (hK : va_K D clA (tys3 cI cJ cZ) s) (hP : c_W D q cI cJ cZ z H) (hin : vp_in i 40) (hdg : decode cc pc = .ok (.lastore, 1)) (kk : ∀ (H1 : Heap) (locs1 : List Loc), c_W D q cI cJ cZ (c_words_s z (vp_updL (c_words z) i.toNatClampNeg v)) H1 → va_S (c_qs q) H0 H1 locs1 → W p l e R s m args below meth c H1 locs1 cells slots Q (F0 m (pc + 1) ls rest)) : W p l e R s m args below meth c H locs cells slots Q (F0 m pc ls (.long v :: .int i :: .ref (q 12) :: rest)) :=
  va_last hx hb hK hP (c_D hq z) hS 12 1 rfl rfl hin hdg (fun H1 locs1 a _ b => kk H1 locs1 a b)
theorem cs_words_e {i : Int32} (v : Int64) {f : Nat → Int64} (hf : c_words z = f) (hq : c_inj q) (hS : va_S (c_qs q) H0 H locs) (hx : p.tables.exec = Jvm.exec) (hb : c.code = cc) (hK : va_K D clA (tys3 cI cJ cZ) s) (hP : c_W D q cI cJ cZ z H) (hin : vp_in i 40) (hdg : decode cc pc = .ok (.lastore, 1)) (kk : ∀ (H1 : Heap) (locs1 : List Loc), c_W D q cI cJ cZ (c_words_s z (vp_updL f i.toNatClampNeg v)) H1 → va_S (c_qs q) H0 H1 locs1 → W p l e R s m args below meth c H1 locs1 cells slots Q (F0 m (pc + 1) ls rest)) : W p l e R s m args below meth c H locs cells slots Q (F0 m pc ls (.long v :: .int i :: .ref (q 12) :: rest)) := by
  subst hf
  exact cs_words v hq hS hx hb hK hP hin hdg kk
theorem cl_lparts {i : Int32} (hx : p.tables.exec = Jvm.exec) (hb : c.code = cc) (hK : va_K D clA (tys3 cI cJ cZ) s) (hP : c_W D q cI cJ cZ z H) (hin : vp_in i 40) (hdg : decode cc pc = .ok (.iaload, 1)) (kk : W p l e R s m args below meth c H locs cells slots Q (F0 m (pc + 1) ls (.int (c_lparts z i.toNatClampNeg) :: rest))) : W p l e R s m args below meth c H locs cells slots Q (F0 m pc ls (.int i :: .ref (q 13) :: rest)) :=
  va_iald hx hb hK hP 13 0 rfl rfl hin hdg kk
theorem cl_lparts_e {i : Int32} {f : Nat → Int32} (hf : c_lparts z = f) (hx : p.tables.exec = Jvm.exec) (hb : c.code = cc) (hK : va_K D clA (tys3 cI cJ cZ) s) (hP : c_W D q cI cJ cZ z H) (hin : vp_in i 40) (hdg : decode cc pc = .ok (.iaload, 1)) (kk : W p l e R s m args below meth c H locs cells slots Q (F0 m (pc + 1) ls (.int (f i.toNatClampNeg) :: rest))) : W p l e R s m args below meth c H locs cells slots Q (F0 m pc ls (.int i :: .ref (q 13) :: rest)) := by
  subst hf
  exact cl_lparts hx hb hK hP hin hdg kk
theorem cs_lparts {i : Int32} (v : Int32) (hq : c_inj q) (hS : va_S (c_qs q) H0 H locs) (hx : p.tables.exec = Jvm.exec) (hb : c.code = cc) (hK : va_K D clA (tys3 cI cJ cZ) s) (hP : c_W D q cI cJ cZ z H) (hin : vp_in i 40) (hdg : decode cc pc = .ok (.iastore, 1)) (kk : ∀ (H1 : Heap) (locs1 : List Loc), c_W D q cI cJ cZ (c_lparts_s z (upd (c_lparts z) i.toNatClampNeg v)) H1 → va_S (c_qs q) H0 H1 locs1 → W p l e R s m args below meth c H1 locs1 cells slots Q (F0 m (pc + 1) ls rest)) : W p l e R s m args below meth c H locs cells slots Q (F0 m pc ls (.int v :: .int i :: .ref (q 13) :: rest)) :=
  va_iast hx hb hK hP (c_D hq z) hS 13 0 rfl rfl hin hdg (fun H1 locs1 a _ b => kk H1 locs1 a b)
theorem cs_lparts_e {i : Int32} (v : Int32) {f : Nat → Int32} (hf : c_lparts z = f) (hq : c_inj q) (hS : va_S (c_qs q) H0 H locs) (hx : p.tables.exec = Jvm.exec) (hb : c.code = cc) (hK : va_K D clA (tys3 cI cJ cZ) s) (hP : c_W D q cI cJ cZ z H) (hin : vp_in i 40) (hdg : decode cc pc = .ok (.iastore, 1)) (kk : ∀ (H1 : Heap) (locs1 : List Loc), c_W D q cI cJ cZ (c_lparts_s z (upd f i.toNatClampNeg v)) H1 → va_S (c_qs q) H0 H1 locs1 → W p l e R s m args below meth c H1 locs1 cells slots Q (F0 m (pc + 1) ls rest)) : W p l e R s m args below meth c H locs cells slots Q (F0 m pc ls (.int v :: .int i :: .ref (q 13) :: rest)) := by
  subst hf
  exact cs_lparts v hq hS hx hb hK hP hin hdg kk
theorem cl_ops {i : Int32} (hx : p.tables.exec = Jvm.exec) (hb : c.code = cc) (hK : va_K D clA (tys3 cI cJ cZ) s) (hP : c_W D q cI cJ cZ z H) (hin : vp_in i 40) (hdg : decode cc pc = .ok (.iaload, 1)) (kk : W p l e R s m args below meth c H locs cells slots Q (F0 m (pc + 1) ls (.int (c_ops z i.toNatClampNeg) :: rest))) : W p l e R s m args below meth c H locs cells slots Q (F0 m pc ls (.int i :: .ref (q 14) :: rest)) :=
  va_iald hx hb hK hP 14 0 rfl rfl hin hdg kk
theorem cl_ops_e {i : Int32} {f : Nat → Int32} (hf : c_ops z = f) (hx : p.tables.exec = Jvm.exec) (hb : c.code = cc) (hK : va_K D clA (tys3 cI cJ cZ) s) (hP : c_W D q cI cJ cZ z H) (hin : vp_in i 40) (hdg : decode cc pc = .ok (.iaload, 1)) (kk : W p l e R s m args below meth c H locs cells slots Q (F0 m (pc + 1) ls (.int (f i.toNatClampNeg) :: rest))) : W p l e R s m args below meth c H locs cells slots Q (F0 m pc ls (.int i :: .ref (q 14) :: rest)) := by
  subst hf
  exact cl_ops hx hb hK hP hin hdg kk
theorem cs_ops {i : Int32} (v : Int32) (hq : c_inj q) (hS : va_S (c_qs q) H0 H locs) (hx : p.tables.exec = Jvm.exec) (hb : c.code = cc) (hK : va_K D clA (tys3 cI cJ cZ) s) (hP : c_W D q cI cJ cZ z H) (hin : vp_in i 40) (hdg : decode cc pc = .ok (.iastore, 1)) (kk : ∀ (H1 : Heap) (locs1 : List Loc), c_W D q cI cJ cZ (c_ops_s z (upd (c_ops z) i.toNatClampNeg v)) H1 → va_S (c_qs q) H0 H1 locs1 → W p l e R s m args below meth c H1 locs1 cells slots Q (F0 m (pc + 1) ls rest)) : W p l e R s m args below meth c H locs cells slots Q (F0 m pc ls (.int v :: .int i :: .ref (q 14) :: rest)) :=
  va_iast hx hb hK hP (c_D hq z) hS 14 0 rfl rfl hin hdg (fun H1 locs1 a _ b => kk H1 locs1 a b)
theorem cs_ops_e {i : Int32} (v : Int32) {f : Nat → Int32} (hf : c_ops z = f) (hq : c_inj q) (hS : va_S (c_qs q) H0 H locs) (hx : p.tables.exec = Jvm.exec) (hb : c.code = cc) (hK : va_K D clA (tys3 cI cJ cZ) s) (hP : c_W D q cI cJ cZ z H) (hin : vp_in i 40) (hdg : decode cc pc = .ok (.iastore, 1)) (kk : ∀ (H1 : Heap) (locs1 : List Loc), c_W D q cI cJ cZ (c_ops_s z (upd f i.toNatClampNeg v)) H1 → va_S (c_qs q) H0 H1 locs1 → W p l e R s m args below meth c H1 locs1 cells slots Q (F0 m (pc + 1) ls rest)) : W p l e R s m args below meth c H locs cells slots Q (F0 m pc ls (.int v :: .int i :: .ref (q 14) :: rest)) := by
  subst hf
  exact cs_ops v hq hS hx hb hK hP hin hdg kk
theorem cl_dparts {i : Int32} (hx : p.tables.exec = Jvm.exec) (hb : c.code = cc) (hK : va_K D clA (tys3 cI cJ cZ) s) (hP : c_W D q cI cJ cZ z H) (hin : vp_in i 40) (hdg : decode cc pc = .ok (.iaload, 1)) (kk : W p l e R s m args below meth c H locs cells slots Q (F0 m (pc + 1) ls (.int (c_dparts z i.toNatClampNeg) :: rest))) : W p l e R s m args below meth c H locs cells slots Q (F0 m pc ls (.int i :: .ref (q 15) :: rest)) :=
  va_iald hx hb hK hP 15 0 rfl rfl hin hdg kk
theorem cl_dparts_e {i : Int32} {f : Nat → Int32} (hf : c_dparts z = f) (hx : p.tables.exec = Jvm.exec) (hb : c.code = cc) (hK : va_K D clA (tys3 cI cJ cZ) s) (hP : c_W D q cI cJ cZ z H) (hin : vp_in i 40) (hdg : decode cc pc = .ok (.iaload, 1)) (kk : W p l e R s m args below meth c H locs cells slots Q (F0 m (pc + 1) ls (.int (f i.toNatClampNeg) :: rest))) : W p l e R s m args below meth c H locs cells slots Q (F0 m pc ls (.int i :: .ref (q 15) :: rest)) := by
  subst hf
  exact cl_dparts hx hb hK hP hin hdg kk
theorem cs_dparts {i : Int32} (v : Int32) (hq : c_inj q) (hS : va_S (c_qs q) H0 H locs) (hx : p.tables.exec = Jvm.exec) (hb : c.code = cc) (hK : va_K D clA (tys3 cI cJ cZ) s) (hP : c_W D q cI cJ cZ z H) (hin : vp_in i 40) (hdg : decode cc pc = .ok (.iastore, 1)) (kk : ∀ (H1 : Heap) (locs1 : List Loc), c_W D q cI cJ cZ (c_dparts_s z (upd (c_dparts z) i.toNatClampNeg v)) H1 → va_S (c_qs q) H0 H1 locs1 → W p l e R s m args below meth c H1 locs1 cells slots Q (F0 m (pc + 1) ls rest)) : W p l e R s m args below meth c H locs cells slots Q (F0 m pc ls (.int v :: .int i :: .ref (q 15) :: rest)) :=
  va_iast hx hb hK hP (c_D hq z) hS 15 0 rfl rfl hin hdg (fun H1 locs1 a _ b => kk H1 locs1 a b)
theorem cs_dparts_e {i : Int32} (v : Int32) {f : Nat → Int32} (hf : c_dparts z = f) (hq : c_inj q) (hS : va_S (c_qs q) H0 H locs) (hx : p.tables.exec = Jvm.exec) (hb : c.code = cc) (hK : va_K D clA (tys3 cI cJ cZ) s) (hP : c_W D q cI cJ cZ z H) (hin : vp_in i 40) (hdg : decode cc pc = .ok (.iastore, 1)) (kk : ∀ (H1 : Heap) (locs1 : List Loc), c_W D q cI cJ cZ (c_dparts_s z (upd f i.toNatClampNeg v)) H1 → va_S (c_qs q) H0 H1 locs1 → W p l e R s m args below meth c H1 locs1 cells slots Q (F0 m (pc + 1) ls rest)) : W p l e R s m args below meth c H locs cells slots Q (F0 m pc ls (.int v :: .int i :: .ref (q 15) :: rest)) := by
  subst hf
  exact cs_dparts v hq hS hx hb hK hP hin hdg kk
theorem cl_nparts {i : Int32} (hx : p.tables.exec = Jvm.exec) (hb : c.code = cc) (hK : va_K D clA (tys3 cI cJ cZ) s) (hP : c_W D q cI cJ cZ z H) (hin : vp_in i 40) (hdg : decode cc pc = .ok (.iaload, 1)) (kk : W p l e R s m args below meth c H locs cells slots Q (F0 m (pc + 1) ls (.int (c_nparts z i.toNatClampNeg) :: rest))) : W p l e R s m args below meth c H locs cells slots Q (F0 m pc ls (.int i :: .ref (q 16) :: rest)) :=
  va_iald hx hb hK hP 16 0 rfl rfl hin hdg kk
theorem cl_nparts_e {i : Int32} {f : Nat → Int32} (hf : c_nparts z = f) (hx : p.tables.exec = Jvm.exec) (hb : c.code = cc) (hK : va_K D clA (tys3 cI cJ cZ) s) (hP : c_W D q cI cJ cZ z H) (hin : vp_in i 40) (hdg : decode cc pc = .ok (.iaload, 1)) (kk : W p l e R s m args below meth c H locs cells slots Q (F0 m (pc + 1) ls (.int (f i.toNatClampNeg) :: rest))) : W p l e R s m args below meth c H locs cells slots Q (F0 m pc ls (.int i :: .ref (q 16) :: rest)) := by
  subst hf
  exact cl_nparts hx hb hK hP hin hdg kk
theorem cs_nparts {i : Int32} (v : Int32) (hq : c_inj q) (hS : va_S (c_qs q) H0 H locs) (hx : p.tables.exec = Jvm.exec) (hb : c.code = cc) (hK : va_K D clA (tys3 cI cJ cZ) s) (hP : c_W D q cI cJ cZ z H) (hin : vp_in i 40) (hdg : decode cc pc = .ok (.iastore, 1)) (kk : ∀ (H1 : Heap) (locs1 : List Loc), c_W D q cI cJ cZ (c_nparts_s z (upd (c_nparts z) i.toNatClampNeg v)) H1 → va_S (c_qs q) H0 H1 locs1 → W p l e R s m args below meth c H1 locs1 cells slots Q (F0 m (pc + 1) ls rest)) : W p l e R s m args below meth c H locs cells slots Q (F0 m pc ls (.int v :: .int i :: .ref (q 16) :: rest)) :=
  va_iast hx hb hK hP (c_D hq z) hS 16 0 rfl rfl hin hdg (fun H1 locs1 a _ b => kk H1 locs1 a b)
theorem cs_nparts_e {i : Int32} (v : Int32) {f : Nat → Int32} (hf : c_nparts z = f) (hq : c_inj q) (hS : va_S (c_qs q) H0 H locs) (hx : p.tables.exec = Jvm.exec) (hb : c.code = cc) (hK : va_K D clA (tys3 cI cJ cZ) s) (hP : c_W D q cI cJ cZ z H) (hin : vp_in i 40) (hdg : decode cc pc = .ok (.iastore, 1)) (kk : ∀ (H1 : Heap) (locs1 : List Loc), c_W D q cI cJ cZ (c_nparts_s z (upd f i.toNatClampNeg v)) H1 → va_S (c_qs q) H0 H1 locs1 → W p l e R s m args below meth c H1 locs1 cells slots Q (F0 m (pc + 1) ls rest)) : W p l e R s m args below meth c H locs cells slots Q (F0 m pc ls (.int v :: .int i :: .ref (q 16) :: rest)) := by
  subst hf
  exact cs_nparts v hq hS hx hb hK hP hin hdg kk
theorem cl_locs {i : Int32} (hx : p.tables.exec = Jvm.exec) (hb : c.code = cc) (hK : va_K D clA (tys3 cI cJ cZ) s) (hP : c_W D q cI cJ cZ z H) (hin : vp_in i 40) (hdg : decode cc pc = .ok (.iaload, 1)) (kk : W p l e R s m args below meth c H locs cells slots Q (F0 m (pc + 1) ls (.int (c_locs z i.toNatClampNeg) :: rest))) : W p l e R s m args below meth c H locs cells slots Q (F0 m pc ls (.int i :: .ref (q 17) :: rest)) :=
  va_iald hx hb hK hP 17 0 rfl rfl hin hdg kk
theorem cl_locs_e {i : Int32} {f : Nat → Int32} (hf : c_locs z = f) (hx : p.tables.exec = Jvm.exec) (hb : c.code = cc) (hK : va_K D clA (tys3 cI cJ cZ) s) (hP : c_W D q cI cJ cZ z H) (hin : vp_in i 40) (hdg : decode cc pc = .ok (.iaload, 1)) (kk : W p l e R s m args below meth c H locs cells slots Q (F0 m (pc + 1) ls (.int (f i.toNatClampNeg) :: rest))) : W p l e R s m args below meth c H locs cells slots Q (F0 m pc ls (.int i :: .ref (q 17) :: rest)) := by
  subst hf
  exact cl_locs hx hb hK hP hin hdg kk
theorem cs_locs {i : Int32} (v : Int32) (hq : c_inj q) (hS : va_S (c_qs q) H0 H locs) (hx : p.tables.exec = Jvm.exec) (hb : c.code = cc) (hK : va_K D clA (tys3 cI cJ cZ) s) (hP : c_W D q cI cJ cZ z H) (hin : vp_in i 40) (hdg : decode cc pc = .ok (.iastore, 1)) (kk : ∀ (H1 : Heap) (locs1 : List Loc), c_W D q cI cJ cZ (c_locs_s z (upd (c_locs z) i.toNatClampNeg v)) H1 → va_S (c_qs q) H0 H1 locs1 → W p l e R s m args below meth c H1 locs1 cells slots Q (F0 m (pc + 1) ls rest)) : W p l e R s m args below meth c H locs cells slots Q (F0 m pc ls (.int v :: .int i :: .ref (q 17) :: rest)) :=
  va_iast hx hb hK hP (c_D hq z) hS 17 0 rfl rfl hin hdg (fun H1 locs1 a _ b => kk H1 locs1 a b)
theorem cs_locs_e {i : Int32} (v : Int32) {f : Nat → Int32} (hf : c_locs z = f) (hq : c_inj q) (hS : va_S (c_qs q) H0 H locs) (hx : p.tables.exec = Jvm.exec) (hb : c.code = cc) (hK : va_K D clA (tys3 cI cJ cZ) s) (hP : c_W D q cI cJ cZ z H) (hin : vp_in i 40) (hdg : decode cc pc = .ok (.iastore, 1)) (kk : ∀ (H1 : Heap) (locs1 : List Loc), c_W D q cI cJ cZ (c_locs_s z (upd f i.toNatClampNeg v)) H1 → va_S (c_qs q) H0 H1 locs1 → W p l e R s m args below meth c H1 locs1 cells slots Q (F0 m (pc + 1) ls rest)) : W p l e R s m args below meth c H locs cells slots Q (F0 m pc ls (.int v :: .int i :: .ref (q 17) :: rest)) := by
  subst hf
  exact cs_locs v hq hS hx hb hK hP hin hdg kk
theorem cl_dat {i : Int32} (hx : p.tables.exec = Jvm.exec) (hb : c.code = cc) (hK : va_K D clA (tys3 cI cJ cZ) s) (hP : c_W D q cI cJ cZ z H) (hin : vp_in i 40) (hdg : decode cc pc = .ok (.iaload, 1)) (kk : W p l e R s m args below meth c H locs cells slots Q (F0 m (pc + 1) ls (.int (c_dat z i.toNatClampNeg) :: rest))) : W p l e R s m args below meth c H locs cells slots Q (F0 m pc ls (.int i :: .ref (q 18) :: rest)) :=
  va_iald hx hb hK hP 18 0 rfl rfl hin hdg kk
theorem cl_dat_e {i : Int32} {f : Nat → Int32} (hf : c_dat z = f) (hx : p.tables.exec = Jvm.exec) (hb : c.code = cc) (hK : va_K D clA (tys3 cI cJ cZ) s) (hP : c_W D q cI cJ cZ z H) (hin : vp_in i 40) (hdg : decode cc pc = .ok (.iaload, 1)) (kk : W p l e R s m args below meth c H locs cells slots Q (F0 m (pc + 1) ls (.int (f i.toNatClampNeg) :: rest))) : W p l e R s m args below meth c H locs cells slots Q (F0 m pc ls (.int i :: .ref (q 18) :: rest)) := by
  subst hf
  exact cl_dat hx hb hK hP hin hdg kk
theorem cs_dat {i : Int32} (v : Int32) (hq : c_inj q) (hS : va_S (c_qs q) H0 H locs) (hx : p.tables.exec = Jvm.exec) (hb : c.code = cc) (hK : va_K D clA (tys3 cI cJ cZ) s) (hP : c_W D q cI cJ cZ z H) (hin : vp_in i 40) (hdg : decode cc pc = .ok (.iastore, 1)) (kk : ∀ (H1 : Heap) (locs1 : List Loc), c_W D q cI cJ cZ (c_dat_s z (upd (c_dat z) i.toNatClampNeg v)) H1 → va_S (c_qs q) H0 H1 locs1 → W p l e R s m args below meth c H1 locs1 cells slots Q (F0 m (pc + 1) ls rest)) : W p l e R s m args below meth c H locs cells slots Q (F0 m pc ls (.int v :: .int i :: .ref (q 18) :: rest)) :=
  va_iast hx hb hK hP (c_D hq z) hS 18 0 rfl rfl hin hdg (fun H1 locs1 a _ b => kk H1 locs1 a b)
theorem cs_dat_e {i : Int32} (v : Int32) {f : Nat → Int32} (hf : c_dat z = f) (hq : c_inj q) (hS : va_S (c_qs q) H0 H locs) (hx : p.tables.exec = Jvm.exec) (hb : c.code = cc) (hK : va_K D clA (tys3 cI cJ cZ) s) (hP : c_W D q cI cJ cZ z H) (hin : vp_in i 40) (hdg : decode cc pc = .ok (.iastore, 1)) (kk : ∀ (H1 : Heap) (locs1 : List Loc), c_W D q cI cJ cZ (c_dat_s z (upd f i.toNatClampNeg v)) H1 → va_S (c_qs q) H0 H1 locs1 → W p l e R s m args below meth c H1 locs1 cells slots Q (F0 m (pc + 1) ls rest)) : W p l e R s m args below meth c H locs cells slots Q (F0 m pc ls (.int v :: .int i :: .ref (q 18) :: rest)) := by
  subst hf
  exact cs_dat v hq hS hx hb hK hP hin hdg kk
theorem cl_nexts {i : Int32} (hx : p.tables.exec = Jvm.exec) (hb : c.code = cc) (hK : va_K D clA (tys3 cI cJ cZ) s) (hP : c_W D q cI cJ cZ z H) (hin : vp_in i 40) (hdg : decode cc pc = .ok (.iaload, 1)) (kk : W p l e R s m args below meth c H locs cells slots Q (F0 m (pc + 1) ls (.int (c_nexts z i.toNatClampNeg) :: rest))) : W p l e R s m args below meth c H locs cells slots Q (F0 m pc ls (.int i :: .ref (q 19) :: rest)) :=
  va_iald hx hb hK hP 19 0 rfl rfl hin hdg kk
theorem cl_nexts_e {i : Int32} {f : Nat → Int32} (hf : c_nexts z = f) (hx : p.tables.exec = Jvm.exec) (hb : c.code = cc) (hK : va_K D clA (tys3 cI cJ cZ) s) (hP : c_W D q cI cJ cZ z H) (hin : vp_in i 40) (hdg : decode cc pc = .ok (.iaload, 1)) (kk : W p l e R s m args below meth c H locs cells slots Q (F0 m (pc + 1) ls (.int (f i.toNatClampNeg) :: rest))) : W p l e R s m args below meth c H locs cells slots Q (F0 m pc ls (.int i :: .ref (q 19) :: rest)) := by
  subst hf
  exact cl_nexts hx hb hK hP hin hdg kk
theorem cs_nexts {i : Int32} (v : Int32) (hq : c_inj q) (hS : va_S (c_qs q) H0 H locs) (hx : p.tables.exec = Jvm.exec) (hb : c.code = cc) (hK : va_K D clA (tys3 cI cJ cZ) s) (hP : c_W D q cI cJ cZ z H) (hin : vp_in i 40) (hdg : decode cc pc = .ok (.iastore, 1)) (kk : ∀ (H1 : Heap) (locs1 : List Loc), c_W D q cI cJ cZ (c_nexts_s z (upd (c_nexts z) i.toNatClampNeg v)) H1 → va_S (c_qs q) H0 H1 locs1 → W p l e R s m args below meth c H1 locs1 cells slots Q (F0 m (pc + 1) ls rest)) : W p l e R s m args below meth c H locs cells slots Q (F0 m pc ls (.int v :: .int i :: .ref (q 19) :: rest)) :=
  va_iast hx hb hK hP (c_D hq z) hS 19 0 rfl rfl hin hdg (fun H1 locs1 a _ b => kk H1 locs1 a b)
theorem cs_nexts_e {i : Int32} (v : Int32) {f : Nat → Int32} (hf : c_nexts z = f) (hq : c_inj q) (hS : va_S (c_qs q) H0 H locs) (hx : p.tables.exec = Jvm.exec) (hb : c.code = cc) (hK : va_K D clA (tys3 cI cJ cZ) s) (hP : c_W D q cI cJ cZ z H) (hin : vp_in i 40) (hdg : decode cc pc = .ok (.iastore, 1)) (kk : ∀ (H1 : Heap) (locs1 : List Loc), c_W D q cI cJ cZ (c_nexts_s z (upd f i.toNatClampNeg v)) H1 → va_S (c_qs q) H0 H1 locs1 → W p l e R s m args below meth c H1 locs1 cells slots Q (F0 m (pc + 1) ls rest)) : W p l e R s m args below meth c H locs cells slots Q (F0 m pc ls (.int v :: .int i :: .ref (q 19) :: rest)) := by
  subst hf
  exact cs_nexts v hq hS hx hb hK hP hin hdg kk
theorem cl_syms {i : Int32} (hx : p.tables.exec = Jvm.exec) (hb : c.code = cc) (hK : va_K D clA (tys3 cI cJ cZ) s) (hP : c_W D q cI cJ cZ z H) (hin : vp_in i 20) (hdg : decode cc pc = .ok (.iaload, 1)) (kk : W p l e R s m args below meth c H locs cells slots Q (F0 m (pc + 1) ls (.int (c_syms z i.toNatClampNeg) :: rest))) : W p l e R s m args below meth c H locs cells slots Q (F0 m pc ls (.int i :: .ref (q 20) :: rest)) :=
  va_iald hx hb hK hP 20 0 rfl rfl hin hdg kk
theorem cl_syms_e {i : Int32} {f : Nat → Int32} (hf : c_syms z = f) (hx : p.tables.exec = Jvm.exec) (hb : c.code = cc) (hK : va_K D clA (tys3 cI cJ cZ) s) (hP : c_W D q cI cJ cZ z H) (hin : vp_in i 20) (hdg : decode cc pc = .ok (.iaload, 1)) (kk : W p l e R s m args below meth c H locs cells slots Q (F0 m (pc + 1) ls (.int (f i.toNatClampNeg) :: rest))) : W p l e R s m args below meth c H locs cells slots Q (F0 m pc ls (.int i :: .ref (q 20) :: rest)) := by
  subst hf
  exact cl_syms hx hb hK hP hin hdg kk
theorem cs_syms {i : Int32} (v : Int32) (hq : c_inj q) (hS : va_S (c_qs q) H0 H locs) (hx : p.tables.exec = Jvm.exec) (hb : c.code = cc) (hK : va_K D clA (tys3 cI cJ cZ) s) (hP : c_W D q cI cJ cZ z H) (hin : vp_in i 20) (hdg : decode cc pc = .ok (.iastore, 1)) (kk : ∀ (H1 : Heap) (locs1 : List Loc), c_W D q cI cJ cZ (c_syms_s z (upd (c_syms z) i.toNatClampNeg v)) H1 → va_S (c_qs q) H0 H1 locs1 → W p l e R s m args below meth c H1 locs1 cells slots Q (F0 m (pc + 1) ls rest)) : W p l e R s m args below meth c H locs cells slots Q (F0 m pc ls (.int v :: .int i :: .ref (q 20) :: rest)) :=
  va_iast hx hb hK hP (c_D hq z) hS 20 0 rfl rfl hin hdg (fun H1 locs1 a _ b => kk H1 locs1 a b)
theorem cs_syms_e {i : Int32} (v : Int32) {f : Nat → Int32} (hf : c_syms z = f) (hq : c_inj q) (hS : va_S (c_qs q) H0 H locs) (hx : p.tables.exec = Jvm.exec) (hb : c.code = cc) (hK : va_K D clA (tys3 cI cJ cZ) s) (hP : c_W D q cI cJ cZ z H) (hin : vp_in i 20) (hdg : decode cc pc = .ok (.iastore, 1)) (kk : ∀ (H1 : Heap) (locs1 : List Loc), c_W D q cI cJ cZ (c_syms_s z (upd f i.toNatClampNeg v)) H1 → va_S (c_qs q) H0 H1 locs1 → W p l e R s m args below meth c H1 locs1 cells slots Q (F0 m (pc + 1) ls rest)) : W p l e R s m args below meth c H locs cells slots Q (F0 m pc ls (.int v :: .int i :: .ref (q 20) :: rest)) := by
  subst hf
  exact cs_syms v hq hS hx hb hK hP hin hdg kk
theorem cl_resv {i : Int32} (hx : p.tables.exec = Jvm.exec) (hb : c.code = cc) (hK : va_K D clA (tys3 cI cJ cZ) s) (hP : c_W D q cI cJ cZ z H) (hin : vp_in i 200) (hdg : decode cc pc = .ok (.baload, 1)) (kk : W p l e R s m args below meth c H locs cells slots Q (F0 m (pc + 1) ls (.int (bb (c_resv z i.toNatClampNeg)) :: rest))) : W p l e R s m args below meth c H locs cells slots Q (F0 m pc ls (.int i :: .ref (q 21) :: rest)) :=
  va_zald hx hb hK hP 21 2 rfl rfl hin hdg kk
theorem cl_resv_e {i : Int32} {f : Nat → Bool} (hf : c_resv z = f) (hx : p.tables.exec = Jvm.exec) (hb : c.code = cc) (hK : va_K D clA (tys3 cI cJ cZ) s) (hP : c_W D q cI cJ cZ z H) (hin : vp_in i 200) (hdg : decode cc pc = .ok (.baload, 1)) (kk : W p l e R s m args below meth c H locs cells slots Q (F0 m (pc + 1) ls (.int (bb (f i.toNatClampNeg)) :: rest))) : W p l e R s m args below meth c H locs cells slots Q (F0 m pc ls (.int i :: .ref (q 21) :: rest)) := by
  subst hf
  exact cl_resv hx hb hK hP hin hdg kk
theorem cs_resv {i : Int32} (v : Bool) (hq : c_inj q) (hS : va_S (c_qs q) H0 H locs) (hx : p.tables.exec = Jvm.exec) (hb : c.code = cc) (hK : va_K D clA (tys3 cI cJ cZ) s) (hP : c_W D q cI cJ cZ z H) (hin : vp_in i 200) (hdg : decode cc pc = .ok (.bastore, 1)) (kk : ∀ (H1 : Heap) (locs1 : List Loc), c_W D q cI cJ cZ (c_resv_s z (updB (c_resv z) i.toNatClampNeg v)) H1 → va_S (c_qs q) H0 H1 locs1 → W p l e R s m args below meth c H1 locs1 cells slots Q (F0 m (pc + 1) ls rest)) : W p l e R s m args below meth c H locs cells slots Q (F0 m pc ls (.int (bb v) :: .int i :: .ref (q 21) :: rest)) :=
  va_zast hx hb hK hP (c_D hq z) hS 21 2 rfl rfl hin hdg (fun H1 locs1 a _ b => kk H1 locs1 (by rw [updB_eq] at a; exact a) b)
theorem cs_resv_e {i : Int32} (v : Bool) {f : Nat → Bool} (hf : c_resv z = f) (hq : c_inj q) (hS : va_S (c_qs q) H0 H locs) (hx : p.tables.exec = Jvm.exec) (hb : c.code = cc) (hK : va_K D clA (tys3 cI cJ cZ) s) (hP : c_W D q cI cJ cZ z H) (hin : vp_in i 200) (hdg : decode cc pc = .ok (.bastore, 1)) (kk : ∀ (H1 : Heap) (locs1 : List Loc), c_W D q cI cJ cZ (c_resv_s z (updB f i.toNatClampNeg v)) H1 → va_S (c_qs q) H0 H1 locs1 → W p l e R s m args below meth c H1 locs1 cells slots Q (F0 m (pc + 1) ls rest)) : W p l e R s m args below meth c H locs cells slots Q (F0 m pc ls (.int (bb v) :: .int i :: .ref (q 21) :: rest)) := by
  subst hf
  exact cs_resv v hq hS hx hb hK hP hin hdg kk
theorem cl_taken {i : Int32} (hx : p.tables.exec = Jvm.exec) (hb : c.code = cc) (hK : va_K D clA (tys3 cI cJ cZ) s) (hP : c_W D q cI cJ cZ z H) (hin : vp_in i 200) (hdg : decode cc pc = .ok (.baload, 1)) (kk : W p l e R s m args below meth c H locs cells slots Q (F0 m (pc + 1) ls (.int (bb (c_taken z i.toNatClampNeg)) :: rest))) : W p l e R s m args below meth c H locs cells slots Q (F0 m pc ls (.int i :: .ref (q 22) :: rest)) :=
  va_zald hx hb hK hP 22 2 rfl rfl hin hdg kk
theorem cl_taken_e {i : Int32} {f : Nat → Bool} (hf : c_taken z = f) (hx : p.tables.exec = Jvm.exec) (hb : c.code = cc) (hK : va_K D clA (tys3 cI cJ cZ) s) (hP : c_W D q cI cJ cZ z H) (hin : vp_in i 200) (hdg : decode cc pc = .ok (.baload, 1)) (kk : W p l e R s m args below meth c H locs cells slots Q (F0 m (pc + 1) ls (.int (bb (f i.toNatClampNeg)) :: rest))) : W p l e R s m args below meth c H locs cells slots Q (F0 m pc ls (.int i :: .ref (q 22) :: rest)) := by
  subst hf
  exact cl_taken hx hb hK hP hin hdg kk
theorem cs_taken {i : Int32} (v : Bool) (hq : c_inj q) (hS : va_S (c_qs q) H0 H locs) (hx : p.tables.exec = Jvm.exec) (hb : c.code = cc) (hK : va_K D clA (tys3 cI cJ cZ) s) (hP : c_W D q cI cJ cZ z H) (hin : vp_in i 200) (hdg : decode cc pc = .ok (.bastore, 1)) (kk : ∀ (H1 : Heap) (locs1 : List Loc), c_W D q cI cJ cZ (c_taken_s z (updB (c_taken z) i.toNatClampNeg v)) H1 → va_S (c_qs q) H0 H1 locs1 → W p l e R s m args below meth c H1 locs1 cells slots Q (F0 m (pc + 1) ls rest)) : W p l e R s m args below meth c H locs cells slots Q (F0 m pc ls (.int (bb v) :: .int i :: .ref (q 22) :: rest)) :=
  va_zast hx hb hK hP (c_D hq z) hS 22 2 rfl rfl hin hdg (fun H1 locs1 a _ b => kk H1 locs1 (by rw [updB_eq] at a; exact a) b)
theorem cs_taken_e {i : Int32} (v : Bool) {f : Nat → Bool} (hf : c_taken z = f) (hq : c_inj q) (hS : va_S (c_qs q) H0 H locs) (hx : p.tables.exec = Jvm.exec) (hb : c.code = cc) (hK : va_K D clA (tys3 cI cJ cZ) s) (hP : c_W D q cI cJ cZ z H) (hin : vp_in i 200) (hdg : decode cc pc = .ok (.bastore, 1)) (kk : ∀ (H1 : Heap) (locs1 : List Loc), c_W D q cI cJ cZ (c_taken_s z (updB f i.toNatClampNeg v)) H1 → va_S (c_qs q) H0 H1 locs1 → W p l e R s m args below meth c H1 locs1 cells slots Q (F0 m (pc + 1) ls rest)) : W p l e R s m args below meth c H locs cells slots Q (F0 m pc ls (.int (bb v) :: .int i :: .ref (q 22) :: rest)) := by
  subst hf
  exact cs_taken v hq hS hx hb hK hP hin hdg kk
end
