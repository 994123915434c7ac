def fAr_fillX_5  : Nat → SX → Int32 → Nat → Nat → SX
  | 0, z, v, v2, v3 => z
  | fu + 1, z, v, v2, v3 => (if v3 ≤ v2 then z else fAr_fillX_5 fu (x_arr_s z (upd (x_arr z) ((nI (v2)).toNatClampNeg) v)) v (v2 + 1) v3)
def fAr_fillX (z0 : SX) (v : Int32) : SX :=
  fAr_fillX_5 2001 z0 v 0 2000
set_option maxHeartbeats 4000000 in
set_option maxRecDepth 100000 in
theorem kAr_fillX (l : Launch) (D : va_G) (q : Nat → Nat) (cI cJ cZ : ClassId) (hq : x_inj q) (z0 : SX) (v : Int32)  : Met l yAr_fill wsAr_fill { frames := 0, cells := 0, slots := 0, locals := 0 } (va_Pc [.ref (q 0), .int (v)] (x_C D q cI cJ cZ z0)) (cQw none (x_W D q cI cJ cZ (fAr_fillX z0 v)) (x_qs q)) 0 0 (x_qs q) := by
  refine va_MetF (cc := ccAr_fill) (maxL := 4) (ret := none) (by decide +kernel) rfl ?_
  intro p e s m args below meth c s₁ B hml hv
  obtain ⟨rfl, hP, hK⟩ := hv
  have hx := B.exec
  have hb := B.bytes
  have hr := B.returns
  have hts := atoms_spec (ws := wsAr_fill) B.pre
  have hown : s.vm.findClass RAr = some m.cls := findClass_of_methodNamed B.named
  have hlocks := B.notSynchronized
  have hS : va_S (x_qs q) s.heap s.heap [] := va_S.rf
  have hl := lv_entry ([.ref (q 0), .int (v)]) (n := 4) (Nat.le_of_ble_eq_true rfl)
  rw [lg_entry_eq]
  generalize (lg_sl ([.ref (q 0), .int (v)]) ++ List.replicate (4 - (lg_sl ([.ref (q 0), .int (v)])).length) Slot.unset).toArray = ls at hl ⊢
  have hl : lv_has ls 4 [(0, .ref (q 0)), (1, .int (v))] := hl
  have hB5 : ∀ (n5 : Nat) (H : Heap) (locs : List Loc) (ls : Array Slot) (z : SX) (v2 : Nat) (v3 : Nat), 2000 - v2 < n5 → fAr_fillX z0 v = fAr_fillX_5 n5 z v v2 v3 → (v2 ≤ 2000) → (v3 = 2000) → x_W D q cI cJ cZ z H → va_S (x_qs q) s.heap H locs → lv_has ls 4 [(0, .ref (q 0)), (1, .int (v)), (2, .int (nI (v2))), (3, .int (nI (v3)))] → W p l e (headSpec wsAr_fill { frames := 0, cells := 0, slots := 0, locals := 0 }).room s m ([.ref (q 0), .int (v)] : List Value).toArray below meth c H locs 0 0 (MQ below (cQw none (x_W D q cI cJ cZ (fAr_fillX z0 v)) (x_qs q)) ([.ref (q 0), .int (v)] : List Value).toArray s 0 0 (x_qs q)) (F0 m 5 ls []) := by
    intro n5
    induction n5 with
    | zero => intro H locs ls z v2 v3 hn5; exact absurd hn5 (Nat.not_lt_zero _)
    | succ n5 ih5 =>
      intro H locs ls z v2 v3 hn5 hR h2 h3 hP hS hl
      rw [fAr_fillX_5.eq_2] at hR
      refine lv_iload_n hx hb dAr_fill_5 rfl (lv_at hl 2 rfl) ?_
      refine lv_iload_n hx hb dAr_fill_6 rfl (lv_at hl 3 rfl) ?_
      refine wn_ge (x := v2) (y := v3) hx hb (by omega) (by omega) dAr_fill_7 rfl (fun h7 => ?_) (fun h7 => ?_)
      · have hR := hR.trans (if_pos h7)
        exact W.vret hx hb hr (fun t ht _ => ⟨rfl, by rw [hR, ht]; exact hP, hS.F ht⟩) hS.2.2 dAr_fill_20
      · have hR := hR.trans (if_neg h7)
        refine lv_aload_n hx hb dAr_fill_10 rfl (lv_at hl 0 rfl) ?_
        refine lv_iload_n hx hb dAr_fill_11 rfl (lv_at hl 2 rfl) ?_
        refine lv_iload_n hx hb dAr_fill_12 rfl (lv_at hl 1 rfl) ?_
        refine xs_arr v hq hS hx hb hK hP (vp_in_nI (by omega) (by decide)) dAr_fill_13 (fun H locs hP hS => ?_)
        refine lv_iinc (k := 2) (lv' := [(2, .int (nI (v2 + 1))), (0, .ref (q 0)), (1, .int (v)), (3, .int (nI (v3)))]) hx hb dAr_fill_14 hl rfl (nI_1 _) (by decide) rfl (fun ls hl => ?_)
        refine lv_goto hx hb dAr_fill_17 rfl ?_
        exact ih5 H locs ls (x_arr_s z (upd (x_arr z) ((nI (v2)).toNatClampNeg) v)) (v2 + 1) v3 (by omega) hR (by first | assumption | omega) (by first | assumption | omega) hP hS (lv_sub hl [1, 2, 0, 3] rfl)
  have hR := fAr_fillX.eq_1 z0 v
  refine lv_iconst (v := 0) hx hb dAr_fill_0 (by decide) ?_
  refine lv_istore_n (lv' := [(2, .int (nI (0))), (0, .ref (q 0)), (1, .int (v))]) hx hb dAr_fill_1 rfl hl (by decide) rfl (fun ls hl => ?_)
  refine lv_aload_n hx hb dAr_fill_2 rfl (lv_at hl 1 rfl) ?_
  refine va_alen (v := 2000) hx hb hK hP 0 0 rfl rfl rfl dAr_fill_3 ?_
  refine lv_istore_n (lv' := [(3, .int (nI (2000))), (2, .int (nI (0))), (0, .ref (q 0)), (1, .int (v))]) hx hb dAr_fill_4 rfl hl (by decide) rfl (fun ls hl => ?_)
  exact hB5 2001 s.heap [] ls z0 0 2000 (by omega) hR (by first | assumption | omega) (by first | assumption | omega) hP hS (lv_sub hl [2, 3, 1, 0] rfl)
def fAr_fillY_5  : Nat → SY → Int32 → Nat → Nat → SY
  | 0, z, v, v2, v3 => z
  | fu + 1, z, v, v2, v3 => (if v3 ≤ v2 then z else fAr_fillY_5 fu (y_arr_s z (upd (y_arr z) ((nI (v2)).toNatClampNeg) v)) v (v2 + 1) v3)
def fAr_fillY (z0 : SY) (v : Int32) : SY :=
  fAr_fillY_5 21 z0 v 0 20
set_option maxHeartbeats 4000000 in
set_option maxRecDepth 100000 in
theorem kAr_fillY (l : Launch) (D : va_G) (q : Nat → Nat) (cI cJ cZ : ClassId) (hq : y_inj q) (z0 : SY) (v : Int32)  : Met l yAr_fill wsAr_fill { frames := 0, cells := 0, slots := 0, locals := 0 } (va_Pc [.ref (q 0), .int (v)] (y_C D q cI cJ cZ z0)) (cQw none (y_W D q cI cJ cZ (fAr_fillY z0 v)) (y_qs q)) 0 0 (y_qs q) := by
  refine va_MetF (cc := ccAr_fill) (maxL := 4) (ret := none) (by decide +kernel) rfl ?_
  intro p e s m args below meth c s₁ B hml hv
  obtain ⟨rfl, hP, hK⟩ := hv
  have hx := B.exec
  have hb := B.bytes
  have hr := B.returns
  have hts := atoms_spec (ws := wsAr_fill) B.pre
  have hown : s.vm.findClass RAr = some m.cls := findClass_of_methodNamed B.named
  have hlocks := B.notSynchronized
  have hS : va_S (y_qs q) s.heap s.heap [] := va_S.rf
  have hl := lv_entry ([.ref (q 0), .int (v)]) (n := 4) (Nat.le_of_ble_eq_true rfl)
  rw [lg_entry_eq]
  generalize (lg_sl ([.ref (q 0), .int (v)]) ++ List.replicate (4 - (lg_sl ([.ref (q 0), .int (v)])).length) Slot.unset).toArray = ls at hl ⊢
  have hl : lv_has ls 4 [(0, .ref (q 0)), (1, .int (v))] := hl
  have hB5 : ∀ (n5 : Nat) (H : Heap) (locs : List Loc) (ls : Array Slot) (z : SY) (v2 : Nat) (v3 : Nat), 20 - v2 < n5 → fAr_fillY z0 v = fAr_fillY_5 n5 z v v2 v3 → (v2 ≤ 20) → (v3 = 20) → y_W D q cI cJ cZ z H → va_S (y_qs q) s.heap H locs → lv_has ls 4 [(0, .ref (q 0)), (1, .int (v)), (2, .int (nI (v2))), (3, .int (nI (v3)))] → W p l e (headSpec wsAr_fill { frames := 0, cells := 0, slots := 0, locals := 0 }).room s m ([.ref (q 0), .int (v)] : List Value).toArray below meth c H locs 0 0 (MQ below (cQw none (y_W D q cI cJ cZ (fAr_fillY z0 v)) (y_qs q)) ([.ref (q 0), .int (v)] : List Value).toArray s 0 0 (y_qs q)) (F0 m 5 ls []) := by
    intro n5
    induction n5 with
    | zero => intro H locs ls z v2 v3 hn5; exact absurd hn5 (Nat.not_lt_zero _)
    | succ n5 ih5 =>
      intro H locs ls z v2 v3 hn5 hR h2 h3 hP hS hl
      rw [fAr_fillY_5.eq_2] at hR
      refine lv_iload_n hx hb dAr_fill_5 rfl (lv_at hl 2 rfl) ?_
      refine lv_iload_n hx hb dAr_fill_6 rfl (lv_at hl 3 rfl) ?_
      refine wn_ge (x := v2) (y := v3) hx hb (by omega) (by omega) dAr_fill_7 rfl (fun h7 => ?_) (fun h7 => ?_)
      · have hR := hR.trans (if_pos h7)
        exact W.vret hx hb hr (fun t ht _ => ⟨rfl, by rw [hR, ht]; exact hP, hS.F ht⟩) hS.2.2 dAr_fill_20
      · have hR := hR.trans (if_neg h7)
        refine lv_aload_n hx hb dAr_fill_10 rfl (lv_at hl 0 rfl) ?_
        refine lv_iload_n hx hb dAr_fill_11 rfl (lv_at hl 2 rfl) ?_
        refine lv_iload_n hx hb dAr_fill_12 rfl (lv_at hl 1 rfl) ?_
        refine ys_arr v hq hS hx hb hK hP (vp_in_nI (by omega) (by decide)) dAr_fill_13 (fun H locs hP hS => ?_)
        refine lv_iinc (k := 2) (lv' := [(2, .int (nI (v2 + 1))), (0, .ref (q 0)), (1, .int (v)), (3, .int (nI (v3)))]) hx hb dAr_fill_14 hl rfl (nI_1 _) (by decide) rfl (fun ls hl => ?_)
        refine lv_goto hx hb dAr_fill_17 rfl ?_
        exact ih5 H locs ls (y_arr_s z (upd (y_arr z) ((nI (v2)).toNatClampNeg) v)) (v2 + 1) v3 (by omega) hR (by first | assumption | omega) (by first | assumption | omega) hP hS (lv_sub hl [1, 2, 0, 3] rfl)
  have hR := fAr_fillY.eq_1 z0 v
  refine lv_iconst (v := 0) hx hb dAr_fill_0 (by decide) ?_
  refine lv_istore_n (lv' := [(2, .int (nI (0))), (0, .ref (q 0)), (1, .int (v))]) hx hb dAr_fill_1 rfl hl (by decide) rfl (fun ls hl => ?_)
  refine lv_aload_n hx hb dAr_fill_2 rfl (lv_at hl 1 rfl) ?_
  refine va_alen (v := 20) hx hb hK hP 0 0 rfl rfl rfl dAr_fill_3 ?_
  refine lv_istore_n (lv' := [(3, .int (nI (20))), (2, .int (nI (0))), (0, .ref (q 0)), (1, .int (v))]) hx hb dAr_fill_4 rfl hl (by decide) rfl (fun ls hl => ?_)
  exact hB5 21 s.heap [] ls z0 0 20 (by omega) hR (by first | assumption | omega) (by first | assumption | omega) hP hS (lv_sub hl [2, 3, 1, 0] rfl)
