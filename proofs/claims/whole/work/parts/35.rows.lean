/-! ===== rows for the law's helpers: the class's world, and beside it the array 'out' ===== -/
def ncL : List (String × String) := [("java/lang/IllegalArgumentException", "java/lang/IndexOutOfBoundsException"), ("java/lang/IllegalStateException", "java/lang/IllegalArgumentException"), ("java/lang/UnsupportedOperationException", "java/lang/IllegalStateException")]
def ncZ (U : State) : Prop := ∀ r ∈ ncL, (Cond.not (.castable r.1 r.2)).before #[] U = true
theorem ncZ_mv {s U : State} (hW : s.WarmedH U.vm) (h : ncZ s) : ncZ U := fun r hr => nc_mv hW (h r hr)
def oA (o : Nat) (cJ : ClassId) (f : Nat → Int64) (H : Heap) : Prop := H[o]? = some (vp_cell cJ (1, .inr (.inl f)))
theorem oA.lt {o : Nat} {cJ : ClassId} {f : Nat → Int64} {H : Heap} (h : oA o cJ f H) : o < H.size := (Array.getElem?_eq_some_iff.mp h).1
theorem oA.kept {o : Nat} {cJ : ClassId} {f : Nat → Int64} {H H1 : Heap} (h : oA o cJ f H) (hk : H1[o]? = H[o]?) : oA o cJ f H1 := by
  unfold oA
  rw [hk]
  exact h
def hC (D : va_G) (q : Nat → Nat) (cI cJ cZ : ClassId) (o : Nat) (z : SC) (f : Nat → Int64) (U : State) : Prop := c_C D q cI cJ cZ z U ∧ xZ U ∧ ncZ U ∧ oA o cJ f U.heap
def hA (q : Nat → Nat) (o : Nat) : Nat → Prop := fun a => c_qs q a ∨ a = o
def hQ (D : va_G) (q : Nat → Nat) (cI cJ cZ : ClassId) (o : Nat) (r : Int32 × SC × (Nat → Int64)) : Array Value → State → Outcome → State → Prop := fun _ st o' t => o' = .returned (some (.int r.1)) ∧ c_W D q cI cJ cZ r.2.1 t.heap ∧ oA o cJ r.2.2 t.heap ∧ va_F (hA q o) st t
theorem c_up2 {D : va_G} {q : Nat → Nat} {cI cJ cZ : ClassId} {z : SC} {H H' : Heap} (h : c_W D q cI cJ cZ z H) (hu : ∀ a, c_qs q a → H'[a]? = H[a]?) : c_W D q cI cJ cZ z H' := by
  intro k r hr
  have h1 := h k r hr
  have h0 : c_qs q r.1 := ⟨k, (c_wd_at q cI cJ cZ z k r hr).1, (c_wd_at q cI cJ cZ z k r hr).2⟩
  obtain ⟨a, x | o⟩ := r
  · show H'[a]? = _
    rw [hu a h0]
    exact h1
  · obtain ⟨w, h2, h3⟩ := h1
    obtain ⟨cell, h4, h5⟩ := h3
    exact ⟨w, h2, cell, by rw [hu a h0]; exact h4, h5⟩
section
variable {p : Program} {l : Launch} {e : Env} {R : Room} {s : State} {m : MethodId} {args : Array Value} {below : List Frame} {meth : Method} {c : Code} {H : Heap} {locs : List Loc} {cells slots : Nat} {Q : State → Prop}
variable {cc : ByteArray} {pc : Nat} {ls : Array Slot} {rest : List Value} {D : va_G} {q : Nat → Nat} {cI cJ cZ : ClassId} {z : SC}
theorem c_preT {As : List Value} (hK : va_K D clA (tys3 cI cJ cZ) s) (hP : c_W D q cI cJ cZ z H) (hz : ∀ U : State, U.heap = H → s.WarmedH U.vm → xZ U) : PreV s H RDM (q 0) (va_Pc (.ref (q 0) :: As) (c_Ct D q cI cJ cZ z)) As :=
  ⟨fun a U g mk h => ⟨h.1, ⟨h.2.1.1, va_K.moved (u := U) (U := U.calling g mk a) (Vm.Alike.refl U.vm) h.2.1.2⟩, xZ_mv (s := U) (U := U.calling g mk a) (State.WarmedH.refl U) (fun _ _ h _ => h) h.2.2⟩, (c_preV0 (As := As) hK hP).2.1, fun U hU hW => ⟨rfl, ⟨by rw [hU]; exact hP, va_K.moved hW.alike hK⟩, hz U hU hW⟩⟩
theorem xZ_at (hz : xZ s) : ∀ U : State, U.heap = s.heap → s.WarmedH U.vm → xZ U := fun U hU hW => xZ_mv hW (fun q cell h _ => by rw [hU]; exact h) hz
theorem w_pad {cells' slots' : Nat} {g : JFrame} (h1 : cells ≤ cells') (h2 : slots ≤ slots') (k : W p l e R s m args below meth c H locs cells' slots' Q g) : W p l e R s m args below meth c H locs cells slots Q g :=
  fun T hT X => k T hT { X with same := X.same.weaken (fun _ hy _ => hy) h1 h2 }
theorem cl_w2 {v : Option Value} {st0 : List Value} {a : Array Value} {P : Heap → Prop} {A A1 : Nat → Prop} {free : Addr → Prop} {H0 : Heap} (hr : CallRun p l e R s m args below meth c H locs cells slots 0 0 (F0 m pc ls st0) rest (cQw v P A1 a) free) (hS : va_S A H0 H locs) (hA : ∀ q, A1 q → A q) (hf : ∀ q, free q → A q)
    (kk : ∀ (H1 : Heap) (locs1 : List Loc), P H1 → (∀ q, q < H.size → ¬ A1 q → H1[q]? = H[q]?) → va_S A H0 H1 locs1 → W p l e R s m args below meth c H1 locs1 cells slots Q (F0 m (pc + 3) ls (v.toList ++ rest))) : W p l e R s m args below meth c H locs cells slots Q (F0 m pc ls st0) := by
  intro T hT X
  obtain ⟨v', st₀, t, T', L, h0, X', hL, e1, ⟨hv, hP, hz, hk⟩, st⟩ := hr T hT X
  cases hv
  rw [h0] at hz hk
  obtain ⟨t2, a1, b1⟩ := kk T'.heap (locs ++ L) (by rw [e1]; exact hP) (by rw [e1]; exact hk)
    ⟨Nat.le_trans hS.1 (by rw [e1]; exact hz), fun q h1 h2 => by rw [e1, hk q (Nat.lt_of_lt_of_le h1 hS.1) (fun z => h2 (hA q z))]; exact hS.2.1 q h1 h2, fun q hq => by
      rcases List.mem_append.mp hq with h | h
      · exact hS.2.2 q h
      · exact hf _ (hL q h)⟩ T' rfl X'
  exact ⟨t2, st t2 a1, b1⟩
theorem ow_last {A : Nat → Prop} {H0 : Heap} {o : Nat} {f : Nat → Int64} {x : Int64} (hx : p.tables.exec = Jvm.exec) (hb : c.code = cc) (hK : va_K D clA (tys3 cI cJ cZ) s) (hO : oA o cJ f H) (hS : va_S A H0 H locs) (hAo : A o) (hdg : decode cc pc = .ok (.lastore, 1))
    (kk : ∀ (H1 : Heap) (locs1 : List Loc), oA o cJ (vp_updL f 0 x) H1 → (∀ q, q ≠ o → H1[q]? = H[q]?) → va_S A H0 H1 locs1 → W p l e R s m args below meth c H1 locs1 cells slots Q (F0 m (pc + 1) ls rest)) : W p l e R s m args below meth c H locs cells slots Q (F0 m pc ls (.long x :: .int 0 :: .ref o :: rest)) := by
  refine W.last hx hb hO ((hK.2 1 _ rfl).1 1 (fun j => .long (f j))) (fun q => by cases q) (by show ¬ ((0 : Int32) < 0 ∨ (arrV _ _ _).slots.size ≤ _); rw [arrV_size]; show ¬ ((0 : Int32) < 0 ∨ 1 ≤ Int32.toNatClampNeg 0); decide) rfl rfl hdg fun H1 e z oq => ?_
  refine kk H1 _ ?_ oq (hS.put z oq hAo)
  show H1[o]? = some (vp_cell _ _)
  rw [e]
  rw [vp_cell_l, vp_cell_l, arrV_store]
  rfl
end
theorem hd_tab {p : Program} {l : Launch} {x : MethodName} {S : Spec} {code : ByteArray} {maxLocals : Nat} {ret : Option FieldType} {e : Env} {s : State} {m : MethodId} {args : Array Value} {below : List Frame} {meth : Method} {c : Code} {s₁ : State} {hs : List (Nat × Nat × Nat × Nat)}
    (B : BodyLoose p l x S code maxLocals ret e s m args below meth c s₁) (h : (Cond.codeWith x code maxLocals ret hs).before args s = true) : c.exceptionTable.toList.map (fun h => (h.startPc, h.endPc, h.handlerPc, h.catchType)) = hs := by
  obtain ⟨m', meth', c', hn', hm', hc', -, -, he', -⟩ := Cond.codeWith_spec h
  cases B.named.symm.trans hn'
  cases B.method.symm.trans hm'
  cases (Stand.of_body B).code.symm.trans hc'
  exact he'
theorem wm2_3 : Cond.classLink RLa 15 "java/lang/IllegalArgumentException" ∈ wsA := memA2 (i := 3) rfl rfl
theorem wm2_2 : Cond.classLink RLa 13 "java/lang/IndexOutOfBoundsException" ∈ wsA := memA2 (i := 2) rfl rfl
theorem wm2_85 : Cond.instantiable "java/lang/IllegalArgumentException" 6 ∈ wsA := memA2 (i := 85) rfl rfl
theorem wm2_12 : Cond.instantiable "java/lang/IndexOutOfBoundsException" 6 ∈ wsA := memA2 (i := 12) rfl rfl
theorem wm2_136 : Cond.classLink RLa 25 "java/lang/IllegalStateException" ∈ wsA := memA2 (i := 136) rfl rfl
theorem wm2_147 : Cond.instantiable "java/lang/IllegalStateException" 6 ∈ wsA := memA2 (i := 147) rfl rfl
theorem wm2_225 : Cond.classLink RLa 39 "java/lang/UnsupportedOperationException" ∈ wsA := memA2 (i := 225) rfl rfl
theorem wm3_57 : Cond.instantiable "java/lang/UnsupportedOperationException" 6 ∈ wsA := memA3 (i := 57) rfl rfl
