set_option maxHeartbeats 4000000 in
/-- from the entry, for every script of at most 2560 ints, the law comes to its end with true -/
theorem whole_start {p : Program} {e : Env} {s : State} {m : MethodId} {below : List Frame} {meth : Method} {c : Code} (l : Launch) {b L : Nat} {xs : Nat → Int32} (hfl : l.flags = pinnedFlags ++ [noTraceFlag]) (hL : L ≤ 2560) (C0 : lw_At p s m meth c b L xs) : W p l e room_1 s m #[Value.ref b] below meth c s.heap [] 0 0 (lw_Z below #[Value.ref b] s) (entryFrame m ([Value.ref b] : List Value).toArray 8) := by
  obtain ⟨hx, hb, hr, hml, hown, hts0, hX, hbl, hlocks, hgv⟩ := C0
  have hts : ∀ w ∈ Cond.tt :: wsA, w.before #[Value.ref b] s = true := fun w h => (List.mem_cons.mp h).elim (fun e => e ▸ rfl) (fun h => hts0 w (List.mem_filter.mp h).1)
  have hown : s.vm.findClass RLa = some m.cls := hown
  obtain ⟨D, cI, cJ, cZ, hK⟩ := lw_K hts
  have hz : xZ s := lw_xZ hts0 hgv
  have hnc : ncZ s := lw_nc hgv
  have hS : va_S (lA s) s.heap s.heap [] := va_S.rf
  have hA : ∀ x, s.heap.size ≤ x → lA s x := fun _ h => h
  have hl := lv_entry ([.ref b]) (n := 8) (Nat.le_of_ble_eq_true rfl)
  rw [lg_entry_eq]
  generalize (lg_sl ([.ref b]) ++ List.replicate (8 - (lg_sl ([.ref b])).length) Slot.unset).toArray = ls at hl ⊢
  have hl : lv_has ls 8 [(0, .ref b)] := hl
  obtain ⟨N, hN⟩ : ∃ N, s.heap.size = N := ⟨_, rfl⟩
  refine nwO2 (h := N) (ci := 0) (C := RDM) (T := TDM) (N := 5) tyDM (fs := [.null, .null, .null, .null, .null]) hx hb hts (fun w h => List.mem_cons_of_mem _ (inADM w h)) tyDM_ok hown (hts _ (List.mem_cons_of_mem _ wm1_20)) (hts _ (List.mem_cons_of_mem _ wm1_21)) (hts _ (List.mem_cons_of_mem _ wm1_1)) hK hS hN rfl (fun j hj => blDM j hj) (Nat.le_of_ble_eq_true rfl) (Nat.le_of_ble_eq_true rfl) dL_0 (fun H hz1 hP _ hS => ?_)
  refine lv_dup hx hb dL_3 rfl ?_
  refine cl_ct (b := N) (h := N + 1) (W.runI (As := []) (rest := [.ref N]) ⟨hx, hb, hml, hown, hts⟩ (kDM_init l D cI cJ cZ N (N + 1)) (cwI 0 hts (gI wm1_24) rfl rfl rfl (hts _ (List.mem_cons_of_mem _ wm1_1)) (hts _ (List.mem_cons_of_mem _ wm1_22)) (hts _ (List.mem_cons_of_mem _ wm1_23)) rfl (by decide +kernel) ⟨Nat.le_of_ble_eq_true rfl, Nat.le_of_ble_eq_true rfl⟩) (nC_pre hK hP hz1) rfl rfl hl.1 rfl (lv_room (Nat.le_of_ble_eq_true rfl)) dL_4 ⟨Nat.le_of_ble_eq_true rfl, Nat.le_of_ble_eq_true rfl⟩) hS hz1 (hA N (Nat.le_of_eq hN)) hA (fun H locs hz2 hP _ hS => ?_)
  have hC : c_W D (cq N (N + 1)) cI cJ cZ zC0 H := dm_world hP
  clear hP
  refine lv_astore_n (lv' := [(1, .ref N), (0, .ref b)]) hx hb dL_7 rfl hl (by decide) rfl (fun ls hl => ?_)
  refine nwO2 (h := N + 23) (ci := 7) (C := RMo) (T := TMo) (N := 28) tyMo (fs := [.int 0, .null, .null, .long 0, .long 0, .long 0, .int 0, .int 0, .int 0, .int 0, .int 0, .long 0, .int 0, .null, .null, .int 0, .null, .int 0, .null, .null, .null, .null, .null, .null, .null, .null, .null, .int 0]) hx hb hts (fun w h => List.mem_cons_of_mem _ (inAMo w h)) tyMo_ok hown (hts _ (List.mem_cons_of_mem _ wm4_173)) (hts _ (List.mem_cons_of_mem _ wm4_174)) (hts _ (List.mem_cons_of_mem _ wm1_9)) hK hS hz2 rfl (fun j hj => blMo j hj) (Nat.le_of_ble_eq_true rfl) (Nat.le_of_ble_eq_true rfl) dL_8 (fun H2 hz3 hP2 hk2 hS => ?_)
  have hC2 : c_W D (cq N (N + 1)) cI cJ cZ zC0 H2 := c_up2 hC (fun x hx => hk2 x (by have := (cq_ge (Nat.lt_succ_self N) x hx).2; omega))
  refine lv_dup hx hb dL_11 rfl ?_
  refine cl_ct (b := N + 23) (h := N + 24) (W.runI (As := []) (rest := [.ref (N + 23)]) ⟨hx, hb, hml, hown, hts⟩ (kMo_init l D cI cJ cZ (N + 23) (N + 24)) (cwI 0 hts (gI wm4_177) rfl rfl rfl (hts _ (List.mem_cons_of_mem _ wm1_9)) (hts _ (List.mem_cons_of_mem _ wm4_175)) (hts _ (List.mem_cons_of_mem _ wm4_176)) rfl (by decide +kernel) ⟨Nat.le_of_ble_eq_true rfl, Nat.le_of_ble_eq_true rfl⟩) (nC_pre hK hP2 hz3) rfl rfl hl.1 rfl (lv_room (Nat.le_of_ble_eq_true rfl)) dL_12 ⟨Nat.le_of_ble_eq_true rfl, Nat.le_of_ble_eq_true rfl⟩) hS hz3 (hA (N + 23) (by omega)) hA (fun H3 locs hz4 hM3 hk3 hS => ?_)
  have hC3 : c_W D (cq N (N + 1)) cI cJ cZ zC0 H3 := c_up2 hC2 (fun x hx => hk3 x (by have := (cq_ge (Nat.lt_succ_self N) x hx).2; omega) (by have := (cq_ge (Nat.lt_succ_self N) x hx).2; omega))
  have hM3 : m_W D (mq (N + 23) (N + 24)) cI cJ cZ zMi H3 := hM3
  refine lv_astore_n (lv' := [(2, .ref (N + 23)), (1, .ref N), (0, .ref b)]) hx hb dL_15 rfl hl (by decide) rfl (fun ls hl => ?_)
  refine lv_iconst (v := 1) hx hb dL_16 (by decide) ?_
  refine nwJ2 (h := N + 38) hx hb (hts _ (List.mem_cons_of_mem _ wm1_51)) hK hS hz4 (Nat.le_of_ble_eq_true rfl) (Nat.le_of_ble_eq_true rfl) dL_17 (fun H4 hz5 hO hk4 hS => ?_)
  have hC4 : c_W D (cq N (N + 1)) cI cJ cZ zC0 H4 := c_up2 hC3 (fun x hx => hk4 x (by have := (cq_ge (Nat.lt_succ_self N) x hx).2; omega))
  have hM4 : m_W D (mq (N + 23) (N + 24)) cI cJ cZ zMi H4 := m_up2 hM3 (fun x hx => hk4 x (by have := (mq_ge (Nat.lt_succ_self (N + 23)) x hx).2; omega))
  refine lv_astore_n (lv' := [(3, .ref (N + 38)), (2, .ref (N + 23)), (1, .ref N), (0, .ref b)]) hx hb dL_19 rfl hl (by decide) rfl (fun ls hl => ?_)
  refine lv_iconst (v := 0) hx hb dL_20 (by decide) ?_
  refine lv_istore (lv' := [(4, .int (nI (5 * 0))), (3, .ref (N + 38)), (2, .ref (N + 23)), (1, .ref N), (0, .ref b)]) hx hb dL_21 hl (by decide) rfl (fun ls hl => ?_)
  have hl := lv_sub hl [4, 3, 2, 1, 0] rfl
  have hcq := fun x hx => cq_ge (Nat.lt_succ_self N) x hx
  have hmq := fun x hx => mq_ge (Nat.lt_succ_self (N + 23)) x hx
  have E : LE p l s m meth c b L xs D (cq N (N + 1)) (mq (N + 23) (N + 24)) (N + 38) cI cJ cZ := ⟨hx, hb, hr, hml, hown, hts, hX, hbl, hlocks, hK, hz, hnc, hfl, cq_inj (Nat.lt_succ_self N), mq_inj (Nat.lt_succ_self (N + 23)), fun x hx => by have := (hcq x hx).1; omega, fun x hx => by have := (hmq x hx).1; omega, by omega, fun x h1 h2 => by have := (hcq x h1).2; have := (hmq x h2).1; omega, fun h => by have := (hcq _ h).2; omega, fun h => by have := (hmq _ h).2; omega, hL⟩
  exact loop_W E 600 0 H4 locs ls zC0 zMi (fun _ => 0) (by omega) (by omega) ⟨hC4, hO, hM4, hS, RF_0⟩ hl
