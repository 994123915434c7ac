/-! ===== the law: its loop ===== -/
theorem i32_and31 (x : Int32) : 0 ≤ (x &&& 31).toInt ∧ (x &&& 31).toInt < 32 := by
  rw [Kit.i32_mask x 31 (k := 5) (by decide) (by decide)]
  omega
theorem nI_5 {t : Nat} (ht : t ≤ 600) : nI (5 * t) + Int32.ofInt 5 = nI (5 * (t + 1)) := by
  have e5 : (Int32.ofInt 5).toInt = 5 := by decide
  apply Int32.toInt_inj.mp
  rw [Kit.i32_add (by rw [e5, nI_toInt (by omega)]; omega) (by rw [e5, nI_toInt (by omega)]; omega), e5, nI_toInt (by omega), nI_toInt (by omega)]
  omega
theorem L_5 {L : Nat} (hL : L ≤ 2560) : (Int32.ofNat L - 5).toInt = (L : Int) - 5 := by
  have e5 : (5 : Int32).toInt = 5 := by decide
  have eL : (Int32.ofNat L).toInt = L := nI_toInt (n := L) (by omega)
  rw [Kit.i32_sub (by rw [eL, e5]; omega) (by rw [eL, e5]; omega), eL, e5]
set_option maxHeartbeats 4000000 in
theorem loop_W {p : Program} {l : Launch} {e : Env} {s : State} {m : MethodId} {below : List Frame} {meth : Method} {c : Code} {b L : Nat} {xs : Nat → Int32} {D : va_G} {q r : Nat → Nat} {o : Nat} {cI cJ cZ : ClassId} (E : LE p l s m meth c b L xs D q r o cI cJ cZ) : ∀ (k t : Nat) (H : Heap) (locs : List Loc) (ls : Array Slot) (z : SC) (mm : SM) (f : Nat → Int64), 513 - t < k → t ≤ 512 → Lz s D q r o cI cJ cZ H locs z mm f (120000 * (t : Int)) → lv_has ls 8 [(0, .ref b), (1, .ref (q 0)), (2, .ref (r 0)), (3, .ref o), (4, .int (nI (5 * t)))] → W p l e room_1 s m #[Value.ref b] below meth c H locs (39 + t) (6187 + 6 * t) (lw_Z below #[Value.ref b] s) (F0 m 23 ls []) := by
  intro k
  induction k with
  | zero => intro t H locs ls z mm f h; omega
  | succ k ih =>
    intro t H locs ls z mm f hk ht hS hl
    have E0 := E
    obtain ⟨hx, hb, hr, hml, hown, hts, hX, hbl, hlocks, hK, hz, hnc, hfl, hqi, hri, hqA, hrA, hoA, hqr, hoq, hor, hL⟩ := E
    have hS0 := hS
    obtain ⟨hP, hO, hM, hS, hF⟩ := hS
    have hbA : ¬ lA s b := fun h => Nat.not_le_of_lt hbl h
    refine lv_iload hx hb dL_23 (lv_at hl 4 rfl) ?_
    refine lv_aload_n hx hb dL_25 rfl (lv_at hl 0 rfl) ?_
    refine va_slen hx hb hX hbl hbA hS dL_26 ?_
    refine lv_iconst (v := 5) hx hb dL_27 (by decide) ?_
    refine lv_isub hx hb dL_28 ?_
    refine lv_icmp_gt (tgt := 1081) hx hb dL_29 rfl (fun _ => ?_) (fun h => ?_)
    · refine lv_iconst (v := 1) hx hb dL_1081 (by decide) ?_
      refine va_forget hS.2.2 ?_
      refine W.widen (k := 1082) (n := 14493) (by omega) (by omega) ?_
      exact lw_ret hx hb hr hlocks dL_1082
    · have hn : 5 * t + 5 ≤ L := by
        rw [Int32.lt_iff_toInt_lt, L_5 hL, nI_toInt (by omega)] at h
        omega
      refine lv_aload_n hx hb dL_32 rfl (lv_at hl 0 rfl) ?_
      refine lv_iload hx hb dL_33 (lv_at hl 4 rfl) ?_
      refine va_sld hx hb hX hbl hbA hS (vp_in_nI (by omega) (by omega)) dL_35 ?_
      refine lv_bipush (v := 31) hx hb dL_36 (by decide) ?_
      refine lv_iand hx hb dL_38 ?_
      have hv := i32_and31 (xs (nI (5 * t)).toNatClampNeg)
      generalize xs (nI (5 * t)).toNatClampNeg &&& 31 = w at hv ⊢
      have kk : KA p l e s m below meth c b D q r o cI cJ cZ (5 * t) (39 + t + 1) (6187 + 6 * t + 6) (120000 * (t : Int) + 120000) := by
        intro H1 locs1 ls1 z1 m1 f1 hS1 hl1
        refine lv_iinc (k := 4) (lv' := [(4, .int (nI (5 * (t + 1)))), (0, .ref b), (1, .ref (q 0)), (2, .ref (r 0)), (3, .ref o)]) hx hb dL_1075 hl1 rfl (nI_5 (by omega)) (by decide) rfl (fun ls hl => ?_)
        refine lv_goto (tgt := 23) hx hb dL_1078 rfl ?_
        have hl := lv_sub hl [1, 2, 3, 4, 0] rfl
        have eT : 120000 * (((t + 1 : Nat)) : Int) = 120000 * (t : Int) + 120000 := by omega
        have h2 := ih (t + 1) H1 locs1 ls z1 m1 f1 (by omega) (by omega) (by rw [eT]; exact hS1) hl
        have e1 : 39 + (t + 1) = 39 + t + 1 := by omega
        have e2 : 6187 + 6 * (t + 1) = 6187 + 6 * t + 6 := by omega
        rw [e1, e2] at h2
        exact h2
      have hT : 120000 * (t : Int) + 120000 ≤ 4000000000000000000 := by omega
      have hc : 39 + t + 1 ≤ 1082 := by omega
      have hsl : 6187 + 6 * t + 6 ≤ 14493 := by omega
      have hw : w.toInt = 0 ∨ w.toInt = 1 ∨ w.toInt = 2 ∨ w.toInt = 3 ∨ w.toInt = 4 ∨ w.toInt = 5 ∨ w.toInt = 6 ∨ w.toInt = 7 ∨ w.toInt = 8 ∨ w.toInt = 9 ∨ w.toInt = 10 ∨ w.toInt = 11 ∨ w.toInt = 12 ∨ w.toInt = 13 ∨ w.toInt = 14 ∨ w.toInt = 15 ∨ w.toInt = 16 ∨ w.toInt = 17 ∨ 17 < w.toInt := by omega
      rcases hw with h | h | h | h | h | h | h | h | h | h | h | h | h | h | h | h | h | h | h
      · refine lv_tableIn (off := 85) (tgt := 124) hx hb dL_39 (by rw [h]; decide) (by rw [h]; decide) (by rw [h]; decide) rfl ?_
        exact arm_0 E0 hS0 hT hc hsl hn hl kk
      · refine lv_tableIn (off := 193) (tgt := 232) hx hb dL_39 (by rw [h]; decide) (by rw [h]; decide) (by rw [h]; decide) rfl ?_
        exact arm_1 E0 hS0 hT hc hsl hn hl kk
      · refine lv_tableIn (off := 280) (tgt := 319) hx hb dL_39 (by rw [h]; decide) (by rw [h]; decide) (by rw [h]; decide) rfl ?_
        exact arm_2 E0 hS0 hT hc hsl hn hl kk
      · refine lv_tableIn (off := 396) (tgt := 435) hx hb dL_39 (by rw [h]; decide) (by rw [h]; decide) (by rw [h]; decide) rfl ?_
        exact arm_3 E0 hS0 hT hc hsl hn hl kk
      · refine lv_tableIn (off := 488) (tgt := 527) hx hb dL_39 (by rw [h]; decide) (by rw [h]; decide) (by rw [h]; decide) rfl ?_
        exact arm_4 E0 hS0 hT hc hsl hn hl kk
      · refine lv_tableIn (off := 524) (tgt := 563) hx hb dL_39 (by rw [h]; decide) (by rw [h]; decide) (by rw [h]; decide) rfl ?_
        exact arm_5 E0 hS0 hT hc hsl hn hl kk
      · refine lv_tableIn (off := 535) (tgt := 574) hx hb dL_39 (by rw [h]; decide) (by rw [h]; decide) (by rw [h]; decide) rfl ?_
        exact arm_6 E0 hS0 hT hc hsl hn hl kk
      · refine lv_tableIn (off := 607) (tgt := 646) hx hb dL_39 (by rw [h]; decide) (by rw [h]; decide) (by rw [h]; decide) rfl ?_
        exact arm_7 E0 hS0 hT hc hsl hn hl kk
      · refine lv_tableIn (off := 663) (tgt := 702) hx hb dL_39 (by rw [h]; decide) (by rw [h]; decide) (by rw [h]; decide) rfl ?_
        exact arm_8 E0 hS0 hT hc hsl hn hl kk
      · refine lv_tableIn (off := 699) (tgt := 738) hx hb dL_39 (by rw [h]; decide) (by rw [h]; decide) (by rw [h]; decide) rfl ?_
        exact arm_9 E0 hS0 hT hc hsl hn hl kk
      · refine lv_tableIn (off := 755) (tgt := 794) hx hb dL_39 (by rw [h]; decide) (by rw [h]; decide) (by rw [h]; decide) rfl ?_
        exact arm_10 E0 hS0 hT hc hsl hn hl kk
      · refine lv_tableIn (off := 768) (tgt := 807) hx hb dL_39 (by rw [h]; decide) (by rw [h]; decide) (by rw [h]; decide) rfl ?_
        exact arm_11 E0 hS0 hT hc hsl hn hl kk
      · refine lv_tableIn (off := 782) (tgt := 821) hx hb dL_39 (by rw [h]; decide) (by rw [h]; decide) (by rw [h]; decide) rfl ?_
        exact arm_12 E0 hS0 hT hc hsl hn hl kk
      · refine lv_tableIn (off := 837) (tgt := 876) hx hb dL_39 (by rw [h]; decide) (by rw [h]; decide) (by rw [h]; decide) rfl ?_
        exact arm_13 E0 hS0 hT hc hsl hn hl kk
      · refine lv_tableIn (off := 900) (tgt := 939) hx hb dL_39 (by rw [h]; decide) (by rw [h]; decide) (by rw [h]; decide) rfl ?_
        exact arm_14 E0 hS0 hT hc hsl hn hl kk
      · refine lv_tableIn (off := 913) (tgt := 952) hx hb dL_39 (by rw [h]; decide) (by rw [h]; decide) (by rw [h]; decide) rfl ?_
        exact arm_15 E0 hS0 hT hc hsl hn hl kk
      · refine lv_tableIn (off := 968) (tgt := 1007) hx hb dL_39 (by rw [h]; decide) (by rw [h]; decide) (by rw [h]; decide) rfl ?_
        exact arm_16 E0 hS0 hT hc hsl hn hl kk
      · refine lv_tableIn (off := 1023) (tgt := 1062) hx hb dL_39 (by rw [h]; decide) (by rw [h]; decide) (by rw [h]; decide) rfl ?_
        exact arm_17 E0 hS0 hT hc hsl hn hl kk
      · refine lv_tableOut (tgt := 1075) hx hb dL_39 (.inr h) rfl ?_
        refine w_pad (cells' := 39 + t + 1) (slots' := 6187 + 6 * t + 6) (Nat.le_add_right _ _) (Nat.le_add_right _ _) ?_
        exact kk _ _ _ _ _ _ ⟨hP, hO, hM, hS, RF_le hF (by omega)⟩ hl
