def cqT : Nat → Nat := fun k => [0, 4, 7, 9, 10, 11, 1, 2, 3, 5, 6, 8, 12, 13, 14, 15, 16, 17, 18, 19, 20, 21].getD k 0
def cq (a n : Nat) : Nat → Nat
  | 0 => a
  | k + 1 => n + cqT k
theorem cqT_inj : ∀ i, i < 22 → ∀ j, j < 22 → cqT i = cqT j → i = j := by decide +kernel
theorem cq_inj {a n : Nat} (h : a < n) : c_inj (cq a n) := by
  intro i j hi hj hij
  cases i with
  | zero => cases j with
    | zero => rfl
    | succ j => exact absurd hij (by show a ≠ n + cqT j; omega)
  | succ i => cases j with
    | zero => exact absurd hij (by show n + cqT i ≠ a; omega)
    | succ j =>
      have h2 : n + cqT i = n + cqT j := hij
      rw [cqT_inj i (by omega) j (by omega) (by omega)]
theorem cqT_lt : ∀ i, i < 22 → cqT i < 22 := by decide +kernel
theorem cq_ge {a n : Nat} (h : a < n) : ∀ x, c_qs (cq a n) x → a ≤ x ∧ x < n + 22 := by
  intro x ⟨k, hk, hx⟩
  cases k with
  | zero => have h2 : x = a := hx; omega
  | succ k =>
    have h2 : x = n + cqT k := hx
    have h3 := cqT_lt k (by omega)
    omega
theorem mq_ge {a n : Nat} (h : a < n) : ∀ x, m_qs (mq a n) x → a ≤ x ∧ x < n + 14 := by
  intro x ⟨k, hk, hx⟩
  cases k with
  | zero => have h2 : x = a := hx; omega
  | succ k => have h2 : x = n + k := hx; omega
def zCv (fx fy : Nat → Int32) : SC := ((fx, fun _ => 0, fun _ => false), (fun _ => 0, fun _ => false, 0, 0), (fun _ => 0, 0), (0, false, 0, 0, 0), (0, 0, false, false), (fun _ => 0, fun _ => 0, fun _ => 0, fun _ => 0, fun _ => 0, fun _ => 0, fun _ => 0, fy, fun _ => false, fun _ => false, 0))
set_option maxRecDepth 100000 in
theorem dm_world0 {D : va_G} {cI cJ cZ : ClassId} {a n : Nat} {H : Heap} {fx fy : Nat → Int32} (h : va_P D clA [(a, .inr (0, [.ref (n), .ref (n + 4), .ref (n + 7), .ref (n + 9), .ref (n + 11)])), (n, .inr (1, [.ref (n + 1), .ref (n + 2), .ref (n + 3)])), (n + 1, .inl (cI, 2000, .inl (fx))), (n + 2, .inl (cJ, 200, .inr (.inl (fun _ => 0)))), (n + 3, .inl (cZ, 200, .inl (fun _ => bb false))), (n + 4, .inr (2, [.ref (n + 5), .ref (n + 6), .int 0, .int 0])), (n + 5, .inl (cJ, 20, .inr (.inl (fun _ => 0)))), (n + 6, .inl (cZ, 20, .inl (fun _ => bb false))), (n + 7, .inr (3, [.ref (n + 8), .int 0])), (n + 8, .inl (cJ, 40, .inr (.inl (fun _ => 0)))), (n + 9, .inr (4, [.ref (n), .ref (n + 4), .ref (n + 7), .ref (n + 10), .long 0, .int 0, .int 0, .int 0, .long 0])), (n + 10, .inr (5, [.long 0, .long 0, .int 0, .int 0])), (n + 11, .inr (6, [.ref (n + 12), .ref (n + 13), .ref (n + 14), .ref (n + 15), .ref (n + 16), .ref (n + 17), .ref (n + 18), .ref (n + 19), .ref (n + 20), .ref (n + 21), .int 0])), (n + 12, .inl (cI, 40, .inl (fun _ => 0))), (n + 13, .inl (cI, 40, .inl (fun _ => 0))), (n + 14, .inl (cI, 40, .inl (fun _ => 0))), (n + 15, .inl (cI, 40, .inl (fun _ => 0))), (n + 16, .inl (cI, 40, .inl (fun _ => 0))), (n + 17, .inl (cI, 40, .inl (fun _ => 0))), (n + 18, .inl (cI, 40, .inl (fun _ => 0))), (n + 19, .inl (cI, 20, .inl (fy))), (n + 20, .inl (cZ, 200, .inl (fun _ => bb false))), (n + 21, .inl (cZ, 200, .inl (fun _ => bb false)))] H) : c_W D (cq a n) cI cJ cZ (zCv fx fy) H := h.sub (ws' := c_wd (cq a n) cI cJ cZ (zCv fx fy)) [0, 1, 5, 8, 10, 11, 12, 2, 3, 4, 6, 7, 9, 13, 14, 15, 16, 17, 18, 19, 20, 21, 22] rfl
def zC0 : SC := zCv (fAr_fillX (fun _ => 0) (fDr_codeOf 0)) (fAr_fillY (fun _ => 0) ((-1)))
theorem dm_world {D : va_G} {cI cJ cZ : ClassId} {a n : Nat} {H : Heap} (h : va_P D clA [(a, .inr (0, [.ref (n), .ref (n + 4), .ref (n + 7), .ref (n + 9), .ref (n + 11)])), (n, .inr (1, [.ref (n + 1), .ref (n + 2), .ref (n + 3)])), (n + 1, .inl (cI, 2000, .inl (fAr_fillX (fun _ => 0) (fDr_codeOf 0)))), (n + 2, .inl (cJ, 200, .inr (.inl (fun _ => 0)))), (n + 3, .inl (cZ, 200, .inl (fun _ => bb false))), (n + 4, .inr (2, [.ref (n + 5), .ref (n + 6), .int 0, .int 0])), (n + 5, .inl (cJ, 20, .inr (.inl (fun _ => 0)))), (n + 6, .inl (cZ, 20, .inl (fun _ => bb false))), (n + 7, .inr (3, [.ref (n + 8), .int 0])), (n + 8, .inl (cJ, 40, .inr (.inl (fun _ => 0)))), (n + 9, .inr (4, [.ref (n), .ref (n + 4), .ref (n + 7), .ref (n + 10), .long 0, .int 0, .int 0, .int 0, .long 0])), (n + 10, .inr (5, [.long 0, .long 0, .int 0, .int 0])), (n + 11, .inr (6, [.ref (n + 12), .ref (n + 13), .ref (n + 14), .ref (n + 15), .ref (n + 16), .ref (n + 17), .ref (n + 18), .ref (n + 19), .ref (n + 20), .ref (n + 21), .int 0])), (n + 12, .inl (cI, 40, .inl (fun _ => 0))), (n + 13, .inl (cI, 40, .inl (fun _ => 0))), (n + 14, .inl (cI, 40, .inl (fun _ => 0))), (n + 15, .inl (cI, 40, .inl (fun _ => 0))), (n + 16, .inl (cI, 40, .inl (fun _ => 0))), (n + 17, .inl (cI, 40, .inl (fun _ => 0))), (n + 18, .inl (cI, 40, .inl (fun _ => 0))), (n + 19, .inl (cI, 20, .inl (fAr_fillY (fun _ => 0) ((-1))))), (n + 20, .inl (cZ, 200, .inl (fun _ => bb false))), (n + 21, .inl (cZ, 200, .inl (fun _ => bb false)))] H) : c_W D (cq a n) cI cJ cZ zC0 H := dm_world0 h
