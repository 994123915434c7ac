/-! ===== the law: its start ===== -/
section
variable {p : Program} {l : Launch} {e : Env} {R : Room} {s : State} {m : MethodId} {args : Array Value} {below : List Frame} {meth : Method} {c : Code} {H : Heap} {locs : List Loc} {cells slots : Nat} {Q : State → Prop}
variable {cc : ByteArray} {pc : Nat} {ls : Array Slot} {rest : List Value} {D : va_G} {cI cJ cZ : ClassId} {A : Nat → Prop} {H0 : Heap}
theorem nwJ2 {h : Nat} (hx : p.tables.exec = Jvm.exec) (hb : c.code = cc) (harr : (Cond.arrayClass .long).before args s = true) (hK : va_K D clA (tys3 cI cJ cZ) s) (hS : va_S A H0 H locs) (hz : H.size = h) (hcells : cells + 1 ≤ R.cells) (hslots : slots + 1 ≤ R.slots) (hdg : decode cc pc = .ok (.newarray .long, 2))
    (kk : ∀ H1 : Heap, H1.size = h + 1 → oA h cJ (fun _ => 0) H1 → (∀ q, q < h → H1[q]? = H[q]?) → va_S A H0 H1 locs → W p l e R s m args below meth c H1 locs (cells + 1) (slots + 1) Q (F0 m (pc + 2) ls (.ref h :: rest))) : W p l e R s m args below meth c H locs cells slots Q (F0 m pc ls (.int 1 :: rest)) := by
  subst hz
  refine va_newaK (atype := .long) hx hb harr rfl hdg rfl (by decide) (N := 1) (by decide) (by decide) hcells hslots rfl fun H1 cA e1 z1 o1 hAr hNm => ?_
  have hcA : cA = cJ := Option.some.inj (hNm.symm.trans (hK.2 1 _ rfl).2)
  subst hcA
  exact kk H1 z1 e1 o1 ⟨Nat.le_trans hS.1 (by omega), fun x h1 h2 => (o1 x (Nat.lt_of_lt_of_le h1 hS.1)).trans (hS.2.1 x h1 h2), hS.2.2⟩
theorem nwO2 {h N ci index : Nat} {own C : String} {T : u_T} {Ts : List Cond} (ty : Nat → FieldType) {fs : List Value} (hx : p.tables.exec = Jvm.exec) (hb : c.code = cc) (hts : ∀ w ∈ Ts, w.before args s = true) (hin : ∀ w ∈ u_ws C T N, w ∈ Ts) (hty : ∀ k, k < N → parseFieldDescriptor (T k).2.2.1 = some (ty k)) (hown : s.vm.findClass own = some m.cls) (hcl : (Cond.classLink own index C).before args s = true) (hinst : (Cond.instantiable C N).before args s = true) (hini : (Cond.initialized C).before args s = true)
    (hK : va_K D clA (tys3 cI cJ cZ) s) (hS : va_S A H0 H locs) (hz : H.size = h) (hc : clA[ci]? = some (C, T, N)) (hfs : ∀ j, j < N → defaultValue (ty j) = vp_V fs j) (hcells : cells + 1 ≤ R.cells) (hslots : slots + N ≤ R.slots) (hdg : decode cc pc = .ok (.new index, 3))
    (kk : ∀ H1 : Heap, H1.size = h + 1 → va_P D clA [(h, .inr (ci, fs))] H1 → (∀ q, q < h → H1[q]? = H[q]?) → va_S A H0 H1 locs → W p l e R s m args below meth c H1 locs (cells + 1) (slots + N) Q (F0 m (pc + 3) ls (.ref h :: rest))) : W p l e R s m args below meth c H locs cells slots Q (F0 m pc ls rest) := by
  subst hz
  have hKn := hK.1 ci _ hc
  refine W.newcK hx hb hown hcl hinst hini rfl hdg hcells hslots hKn.2.1 rfl fun H1 kC hkC e1 z1 o1 => ?_
  refine kk H1 z1 (fun k x hx => ?_) o1 ⟨Nat.le_trans hS.1 (by omega), fun x h1 h2 => (o1 x (Nat.lt_of_lt_of_le h1 hS.1)).trans (hS.2.1 x h1 h2), hS.2.2⟩
  have hz : k < 1 := (List.getElem?_eq_some_iff.mp hx).1
  rw [show k = 0 by omega] at hx
  cases hx
  exact ⟨_, hc, (u_born ty hts hin hKn hkC e1 hty).to hfs⟩
end
theorem arr_of {s : State} {args : Array Value} {ty : FieldType} (hty : ∀ C, ty ≠ .object C) (h : (Cond.arrayClass ty).before args s = true) : ∃ cA : ClassId, ArrOfT s cA ty ∧ va_RA s cA ty := by
  obtain ⟨cA, k, comp, h1, h2, h3⟩ := Cond.arrayClass_spec h
  refine ⟨cA, fun n z => ⟨fun k h => (by cases h), k, h2, comp, h3⟩, ?_⟩
  cases ty with
  | object C => exact absurd rfl (hty C)
  | _ => exact h1
def pick8 {α : Type} (a b c d e f g h : α) : Nat → α
  | 0 => a
  | 1 => b
  | 2 => c
  | 3 => d
  | 4 => e
  | 5 => f
  | 6 => g
  | _ => h
theorem lw_K {s : State} {args : Array Value} (hts : ∀ w ∈ Cond.tt :: wsA, w.before args s = true) : ∃ (D : va_G) (cI cJ cZ : ClassId), va_K D clA (tys3 cI cJ cZ) s := by
  obtain ⟨c0, i0, h0⟩ := u_known (C := RDM) (T := TDM) (N := 5) hts (fun w h => List.mem_cons_of_mem _ (inADM w h)) (hts _ (List.mem_cons_of_mem _ wm1_21))
  obtain ⟨c1, i1, h1⟩ := u_known (C := RDr) (T := TDr) (N := 3) hts (fun w h => List.mem_cons_of_mem _ (inADr w h)) (hts _ (List.mem_cons_of_mem _ wm1_29))
  obtain ⟨c2, i2, h2⟩ := u_known (C := RCd) (T := TCd) (N := 4) hts (fun w h => List.mem_cons_of_mem _ (inACd w h)) (hts _ (List.mem_cons_of_mem _ wm1_54))
  obtain ⟨c3, i3, h3⟩ := u_known (C := RPu) (T := TPu) (N := 2) hts (fun w h => List.mem_cons_of_mem _ (inAPu w h)) (hts _ (List.mem_cons_of_mem _ wm1_73))
  obtain ⟨c4, i4, h4⟩ := u_known (C := RPr) (T := TPr) (N := 9) hts (fun w h => List.mem_cons_of_mem _ (inAPr w h)) (hts _ (List.mem_cons_of_mem _ wm1_86))
  obtain ⟨c5, i5, h5⟩ := u_known (C := RAc) (T := TAc) (N := 4) hts (fun w h => List.mem_cons_of_mem _ (inAAc w h)) (hts _ (List.mem_cons_of_mem _ wm1_92))
  obtain ⟨c6, i6, h6⟩ := u_known (C := RAs) (T := TAs) (N := 11) hts (fun w h => List.mem_cons_of_mem _ (inAAs w h)) (hts _ (List.mem_cons_of_mem _ wm1_139))
  obtain ⟨c7, i7, h7⟩ := u_known (C := RMo) (T := TMo) (N := 28) hts (fun w h => List.mem_cons_of_mem _ (inAMo w h)) (hts _ (List.mem_cons_of_mem _ wm4_174))
  obtain ⟨cI, aI1, aI2⟩ := arr_of (ty := .int) (fun C h => by cases h) (hts _ (List.mem_cons_of_mem _ wm1_50))
  obtain ⟨cJ, aJ1, aJ2⟩ := arr_of (ty := .long) (fun C h => by cases h) (hts _ (List.mem_cons_of_mem _ wm1_51))
  obtain ⟨cZ, aZ1, aZ2⟩ := arr_of (ty := .boolean) (fun C h => by cases h) (hts _ (List.mem_cons_of_mem _ wm1_52))
  refine ⟨(pick8 c0 c1 c2 c3 c4 c5 c6 c7, pick8 i0 i1 i2 i3 i4 i5 i6 i7), cI, cJ, cZ, fun k q hq => ?_, fun k q hq => ?_⟩
  · match k, hq with
    | 0, hq => cases hq; exact h0
    | 1, hq => cases hq; exact h1
    | 2, hq => cases hq; exact h2
    | 3, hq => cases hq; exact h3
    | 4, hq => cases hq; exact h4
    | 5, hq => cases hq; exact h5
    | 6, hq => cases hq; exact h6
    | 7, hq => cases hq; exact h7
    | k + 8, hq => cases hq
  · match k, hq with
    | 0, hq => cases hq; exact ⟨aI1, aI2⟩
    | 1, hq => cases hq; exact ⟨aJ1, aJ2⟩
    | 2, hq => cases hq; exact ⟨aZ1, aZ2⟩
    | k + 3, hq => cases hq
theorem lw_nc {s : State} {b : Nat} (h : (Jvm.Cond.and given_1 narrow_1).before #[Value.ref b] s = true) : ncZ s := by
  have hs := flat_of_before _ h
  intro r hr
  simp only [ncL, List.mem_cons, List.not_mem_nil, or_false] at hr
  rcases hr with rfl | rfl | rfl
  · exact hs (Cond.not (.castable "java/lang/IllegalArgumentException" "java/lang/IndexOutOfBoundsException")) (by decide +kernel)
  · exact hs (Cond.not (.castable "java/lang/IllegalStateException" "java/lang/IllegalArgumentException")) (by decide +kernel)
  · exact hs (Cond.not (.castable "java/lang/UnsupportedOperationException" "java/lang/IllegalStateException")) (by decide +kernel)
theorem exW_in : ∀ a ∈ exW, a ∈ lw_tbl := by decide +kernel
theorem stL_in : ∀ r ∈ stL, Cond.stringRef RDM r.1 r.2 ∈ lw_tbl := by decide +kernel
theorem lw_xZ {s : State} {b : Nat} (hts : ∀ w ∈ lw_tbl, w.before #[Value.ref b] s = true) (h : (Jvm.Cond.and given_1 narrow_1).before #[Value.ref b] s = true) : xZ s := by
  have hs := flat_of_before _ h
  refine ⟨⟨⟨?_, ?_⟩, ⟨?_, ?_⟩⟩, fun r hr => ?_, fun a ha => ?_⟩
  · exact hts (Cond.laysStatic Bundle.tN "UNASSIGNED_STACK" Bundle.steD) (by decide +kernel)
  · exact hs (Cond.isRef (.static Bundle.tN "UNASSIGNED_STACK" Bundle.steD)) (by decide +kernel)
  · exact hts (Cond.laysStatic Bundle.tN "SUPPRESSED_SENTINEL" Bundle.listD) (by decide +kernel)
  · exact hs (Cond.isRef (.static Bundle.tN "SUPPRESSED_SENTINEL" Bundle.listD)) (by decide +kernel)
  · exact hts _ (stL_in r hr)
  · exact face_mv (State.WarmedH.refl s) (exW_ok a ha).1 (exW_ok a ha).2 (hts a (exW_in a ha))
