/-! ===== catching: the search through the table of the method's own code; a row's class may be linked there for the first time ===== -/
theorem sk_row {Q : Handler → Pre} {E : CtlPost} {e : Env} {d : Bool} {acts : List Action} {s : State} {f : JFrame} {a : Addr} {x : ExceptionTableEntry} {t : List ExceptionTableEntry} {c : ClassId} {cell : Cell} (hx : x.startPc ≤ f.pc ∧ f.pc < x.endPc) (h0 : x.catchType ≠ 0)
    (hl : s.vm.ClassLinks e.platform f.method.cls x.catchType c) (hcell : s.heap[a]? = some cell) (hobj : cell.vm = .none) (hk : ∃ k, s.vm.classes[cell.cls]? = some k) (hc : ∃ k, s.vm.classes[c]? = some k) :
    wp (findHandler.go f a (x :: t)) Q E e d acts s ↔ (if s.vm.assignable cell.cls c = true then Q (.found x.handlerPc) d acts (s.setVm (s.vm.noted f.method.cls x.catchType (.cls c))) else wp (findHandler.go f a t) Q E e d acts (s.setVm (s.vm.noted f.method.cls x.catchType (.cls c)))) := by
  obtain ⟨g1, g2⟩ := (resolveClass_links e.toSetting hl).op (op := VmOp.resolveClass f.method.cls x.catchType) rfl
  have al : s.vm.Alike (s.vm.noted f.method.cls x.catchType (.cls c)) := (Vm.Alike.refl s.vm).noted _ _ _
  obtain ⟨k1, hk⟩ := hk
  obtain ⟨k2, hc⟩ := hc
  obtain ⟨k3, hk3, -⟩ := al.2.2 _ _ hk
  obtain ⟨k4, hk4, -⟩ := al.2.2 _ _ hc
  have hcov : (decide (x.startPc ≤ f.pc) && decide (f.pc < x.endPc)) = true := by simp [hx.1, hx.2]
  have has := al.assignable cell.cls c
  cases hfit : s.vm.assignable cell.cls c with
  | true =>
    rw [hfit] at has
    simp [findHandler.go, hx.1, hx.2, h0, g1, g2, hcell, hobj, hk3, hk4, has, VmOp.dirties, VmOp.acts]
  | false =>
    rw [hfit] at has
    simp [findHandler.go, hx.1, hx.2, h0, g1, g2, hcell, hobj, hk3, hk4, has, VmOp.dirties, VmOp.acts]
/-- the table's rows, one after the other: not this one, not this one, this one -/
def ctF (own E : String) (args : Array Value) (s : State) (pc hpc : Nat) : List (Nat × Nat × Nat × Nat) → Prop
  | [] => False
  | x :: t => x.1 ≤ pc ∧ pc < x.2.1 ∧ x.2.2.2 ≠ 0 ∧ ∃ name : String, (Cond.classLink own x.2.2.2 name).before args s = true ∧ (((Cond.castable E name).before args s = true ∧ x.2.2.1 = hpc) ∨ ((Cond.not (.castable E name)).before args s = true ∧ ctF own E args s pc hpc t))
theorem ct_find {e : Env} {s0 : State} {f : JFrame} {a : Addr} {cell : Cell} {own E : String} {args : Array Value} {hpc : Nat} (hobj : cell.vm = .none) (hown : s0.vm.findClass own = some f.method.cls) (hE : s0.vm.findClass E = some cell.cls) (hpl : e.platform.magicAccessors = ({} : Platform).magicAccessors) (hk : ∃ k, s0.vm.classes[cell.cls]? = some k) :
    ∀ (es : List ExceptionTableEntry) (S : State), s0.WarmedH S.vm → S.heap[a]? = some cell → ctF own E args s0 f.pc hpc (es.map (fun h => (h.startPc, h.endPc, h.handlerPc, h.catchType))) →
      ∃ vm', s0.WarmedH vm' ∧ ∀ (Q : Handler → Pre) (E' : CtlPost) (d : Bool) (acts : List Action), wp (findHandler.go f a es) Q E' e d acts S ↔ Q (.found hpc) d acts (S.setVm vm') := by
  intro es
  induction es with
  | nil => intro S _ _ h; exact h.elim
  | cons x t ih =>
    intro S hW hc h
    obtain ⟨b1, b2, b3, name, hln, hcase⟩ := h
    obtain ⟨c', hc', hcl⟩ := Cond.classLink_spec hown hln e.platform hpl
    obtain ⟨dk, _, _, kt, hd, _, _, _, _, hkt, _, hopen⟩ := hcl.here
    obtain ⟨k0, hk0⟩ := hk
    obtain ⟨k1, hk1, -⟩ := hW.alike.2.2 _ _ hk0
    obtain ⟨k2, hk2, -⟩ := hW.alike.2.2 _ _ hkt
    have hN : s0.WarmedH (S.vm.noted f.method.cls x.catchType (.cls c')) := hW.noted hd hopen (State.rightAt_cls hcl)
    have row : ∀ (Q : Handler → Pre) (E' : CtlPost) (d : Bool) (acts : List Action), wp (findHandler.go f a (x :: t)) Q E' e d acts S ↔ _ := fun Q E' d acts => sk_row (Q := Q) (E := E') (d := d) (acts := acts) (t := t) ⟨b1, b2⟩ b3 (hW.classLinks hcl) hc hobj ⟨k1, hk1⟩ ⟨k2, hk2⟩
    have has : S.vm.assignable cell.cls c' = s0.vm.assignable cell.cls c' := hW.alike.assignable _ _
    rcases hcase with ⟨hyes, hpc⟩ | ⟨hno, hrest⟩
    · obtain ⟨c3, cT, w1, w2, w3⟩ := Cond.castable_spec hyes
      cases Option.some.inj (w1.symm.trans hE)
      cases Option.some.inj (w2.symm.trans hc')
      refine ⟨_, hN, fun Q E' d acts => (row Q E' d acts).trans ?_⟩
      rw [has, w3, if_pos rfl, ← hpc]
    · have hv := Cond.holds_not_iff.mp hno
      simp only [Cond.value, hE, hc'] at hv
      have hv : s0.vm.assignable cell.cls c' = false := by simpa using hv
      obtain ⟨vm', hW', hq⟩ := ih (S.setVm (S.vm.noted f.method.cls x.catchType (.cls c'))) hN hc hrest
      refine ⟨vm', hW', fun Q E' d acts => (row Q E' d acts).trans ?_⟩
      rw [has, hv, if_neg (by decide)]
      exact hq Q E' d acts
theorem ct_step {e : Env} {s : State} {a : Addr} {f : JFrame} {r : List Frame} {pc : Nat} {vm' : Vm} (h : ∀ (Q : Handler → Pre) (E : CtlPost) (d : Bool) (acts : List Action), wp (findHandler f a) Q E e d acts s ↔ Q (.found pc) d acts (s.setVm vm')) :
    (stepThrowing e s a (.java f :: r)).1 = (s.setVm vm').setFrames (.java { f with pc := pc, stack := [.ref a] } :: r) := by
  simp only [stepThrowing, searchFrame, vmDo]
  generalize hr : Sem.go _ e false [] s = res
  obtain ⟨as, rfl, -⟩ := Sem.eq_ok_of hr (a := Handler.found pc) (s' := s.setVm vm') (acts' := []) (by simp [h _ _ _ _])
  rfl
theorem nc_mv {a b : String} {A A' : Array Value} {s U : State} (hW : s.WarmedH U.vm) (h : (Cond.not (.castable a b)).before A s = true) : (Cond.not (.castable a b)).before A' U = true := by
  simp only [Cond.before, Cond.holds, Cond.value, hW.alike.findClass, hW.alike.assignable] at h ⊢
  exact h
section
variable {p : Program} {l : Launch} {e : Env} {R : Room} {s : State} {m : MethodId} {args : Array Value} {below : List Frame} {meth : Method} {c : Code} {H : Heap} {locs : List Loc} {cells slots : Nat} {Q : State → Prop} {P : Heap → Prop} {A B : Nat → Prop}
variable {cc : ByteArray} {pc : Nat} {ls : Array Slot} {rest As : List Value} {Ts ws ws' : List Cond} {bytes : ByteArray} {nL maxL index n : Nat} {own C : String} {y : MethodName} {ret : Option FieldType} {rm : Room} {Pc : Array Value → State → Prop} {b : Addr}
/-- a call that throws, caught by the method's own table -/
theorem ct_row (S : CallFix p m c cc nL s args Ts own) {E : String} {H0 : Heap} {hs : List (Nat × Nat × Nat × Nat)} {hpc : Nat} (hM : MetR l y ws rm Pc E P A) (cw : CallW R s args own C index y bytes maxL ret ws rm 1 6 n) (hp : PreV s H C b Pc As)
    (hn : As.length = n) (hsize : ls.size = nL) (hW8 : (rest.map fun v => v.category).sum ≤ 8) (hdg : decode cc pc = .ok (.invokevirtual index, 3)) (hf : cells + 1 ≤ R.cells ∧ slots + 6 ≤ R.slots)
    (hS : va_S B H0 H locs) (hAB : ∀ q, A q → B q) (htab : c.exceptionTable.toList.map (fun h => (h.startPc, h.endPc, h.handlerPc, h.catchType)) = hs) (hct : ctF own E args s pc hpc hs) (hki : (Cond.instantiable E 6).before args s = true)
    (kk : ∀ (x : Nat) (H1 : Heap) (locs1 : List Loc), P H1 → (∀ q, q < H.size → ¬ A q → H1[q]? = H[q]?) → va_S B H0 H1 locs1 → W p l e R s m args below meth c H1 locs1 (cells + 1) (slots + 6) Q (F0 m hpc ls [.ref x])) :
    W p l e R s m args below meth c H locs cells slots Q (F0 m pc ls (As.reverse ++ .ref b :: rest)) := by
  obtain ⟨⟨hrc, hrs, hfr, hlo, hws, hcw, hcode, hini, hy, hlen, hl⟩, hin, hse⟩ := cw
  obtain ⟨hx, hb, hml, ho, -⟩ := S
  obtain ⟨hblind, ⟨cellB, hcB, hoB, hclB⟩, hPc⟩ := hp
  intro T hT X
  obtain ⟨mk, methM, hnamed, hmethM, hstM, habM⟩ := Cond.instanceMethod_spec hin
  obtain ⟨methM', cM, hmethM', hcM, -, hlM, -, -, -, hsigM⟩ := Cond.code_spec hnamed hcode
  cases hmethM.symm.trans hmethM'
  obtain ⟨c2, r2, m2, q1, q2, q3, q4, kP, hkP, hkPi⟩ := Cond.selects_spec hse
  cases hclB.symm.trans q1
  cases (State.methodFound?_of_named hnamed hy).symm.trans q2
  cases hnamed.symm.trans q3
  have hselP : selectMethod e.platform s.vm cellB.cls mk = .method mk := by rw [Launch.admits_selectMethod X.admits]; exact q4
  obtain ⟨vm₁, X₁, hstep₁⟩ := X.invokevirtual hx ho hl hnamed hmethM hstM hkP hkPi hy (a := b) (cell := cellB) (by rw [hT]; exact hcB)
    (fun z h => by rw [h] at hoB; cases hoB) hselP hmethM habM hkP hkPi (g := F0 m pc ls (As.reverse ++ .ref b :: rest)) rfl (argsL := As) (rest := rest) (hn.trans (hlen _ hsigM)) rfl (by rw [hb]; exact hdg)
  have hinitY : kP.init = .initialized := Cond.initialized_spec (findClass_of_methodNamed hnamed) hkP hini
  obtain ⟨kP', hkP', heP⟩ := X₁.warmed.alike.2.2 _ _ hkP
  have h : At (T.setVm vm₁) (F0 m pc ls rest).method c below := X₁.here
  have hnm : (T.setVm vm₁).methodNamed? y = some mk := X₁.named hnamed
  have hmM : (T.setVm vm₁).vm.method? mk = some methM := by rw [X₁.warmed.alike.method?]; exact hmethM
  have hlo' : 2 * (F0 m pc ls rest).monitorRoom + ((F0 m pc ls rest).stack.map fun v => v.category).sum + (cM.maxLocals + 11) + rm.locals ≤ R.locals := by
    rw [hlM]
    show 2 * 0 + (rest.map fun v => v.category).sum + (maxL + 11) + rm.locals ≤ R.locals
    omega
  have happ : (headSpec ws rm).appliesLoose y e.platform ((T.setVm vm₁).calling (F0 m pc ls rest) mk (Value.ref b :: As).toArray) = true :=
    Spec.appliesLoose_calling (g := F0 m pc ls rest) h (by rw [hb]; exact hdg) hnm hkP' (by rw [heP]; exact hinitY)
      (X₁.room_calling (g := F0 m pc ls rest) (R' := (headSpec ws rm).room) (hsize.trans hml.symm) hmM hcM hfr hlo' (by rw [show (headSpec ws rm).room.cells = 1 from hrc]; exact hf.1) (by rw [show (headSpec ws rm).room.slots = 6 from hrs]; exact hf.2)) (atoms_intro fun w hw => hws w hw _ _ X₁.warmed)
  obtain ⟨mid, hmid⟩ := h.above
  have hfm : ((T.setVm vm₁).setTop (F0 m pc ls rest)).frames = (.java (F0 m pc ls rest) :: mid) ++ below := by rw [State.frames_setTop' _ h.top, hmid]; rfl
  obtain ⟨o, s₂, hsteps, hrun, hend, hq⟩ := Steps.callFree hM p X.admits X.cas X.clock (acts := []) hfm happ (hblind _ _ _ _ (hPc (T.setVm vm₁) hT X₁.warmed)) trivial
  have hq' : tR E P A (Value.ref b :: As).toArray ((T.setVm vm₁).calling (F0 m pc ls rest) mk (Value.ref b :: As).toArray) o s₂ := hq
  obtain ⟨x, ce, L, rfl, u1, u2, u3, u4, u5, u6, u7, u8, u9⟩ := hq'
  rw [State.frames_setTop' _ h.top, X₁.tail] at hend
  obtain ⟨T', X', hWT, hsT, ht⟩ := X₁.outOfThrown (g := F0 m pc ls rest) rfl (mk := mk) (a := (Value.ref b :: As).toArray) hend u5 u6
  have hheap : s₂.heap = T'.heap := by rw [ht, Stand.throwing_heap]
  have hE : s.vm.findClass E = some ce.cls := by
    have h1 : (T.setVm vm₁).vm.findClass E = some ce.cls := u4
    rw [X₁.warmed.alike.findClass] at h1
    exact h1
  have hpl : e.platform.magicAccessors = ({} : Platform).magicAccessors := by rw [X.admits.platform]
  obtain ⟨cX, kX, hcX, hkX, -⟩ := Cond.instantiable_spec hki
  cases Option.some.inj (hcX.symm.trans hE)
  have hvmS : (((T'.setTop (F0 m pc ls rest)).pushFrame (.throwing x)) : State).vm = T'.vm := Stand.throwing_vm _ _ _
  obtain ⟨vm', hW', hgo⟩ := ct_find (e := e) (s0 := s) (f := F0 m pc ls rest) (a := x) (cell := ce) (own := own) (E := E) (args := args) (hpc := hpc) u3 ho hE hpl ⟨kX, hkX⟩ c.exceptionTable.toList ((T'.setTop (F0 m pc ls rest)).pushFrame (.throwing x)) (by rw [hvmS]; exact X'.warmed) (by rw [← ht]; exact u2) (by rw [htab]; exact hct)
  have hfind : ∀ (Q : Handler → Pre) (E : CtlPost) (d : Bool) (acts : List Action), wp (findHandler (F0 m pc ls rest) x) Q E e d acts ((T'.setTop (F0 m pc ls rest)).pushFrame (.throwing x)) ↔ Q (.found hpc) d acts (((T'.setTop (F0 m pc ls rest)).pushFrame (.throwing x)).setVm vm') := fun Q E d acts =>
    (Jvm.W.findHandler_eq (by rw [hvmS]; exact X'.method') X'.code).trans (hgo Q E d acts)
  have hK : (∀ q, q < H.size → ¬ A q → T'.heap[q]? = H[q]?) := by
    intro q hq hA
    have h1 : T.heap.size = H.size := by rw [hT]
    have h2 := u8 q (by show q < T.heap.size; rw [h1]; exact hq) hA
    rw [← hheap, h2]
    show T.heap[q]? = H[q]?
    rw [hT]
  have hz : H.size ≤ T'.heap.size := by
    have h1 := hsT.2.1
    have h2 : T.heap.size ≤ T'.heap.size := h1
    rw [hT] at h2
    exact h2
  have hS' : va_S B H0 T'.heap (locs ++ L) := by
    refine ⟨Nat.le_trans hS.1 hz, fun q h1 h2 => ?_, fun q hq => ?_⟩
    · rw [hK q (Nat.lt_of_lt_of_le h1 hS.1) (fun z => h2 (hAB q z))]
      exact hS.2.1 q h1 h2
    · rcases List.mem_append.mp hq with h1 | h1
      · exact hS.2.2 q h1
      · exact hAB _ (u7 q h1)
  obtain ⟨t, a1, a2⟩ := kk x T'.heap (locs ++ L) (by rw [← hheap]; exact u9) hK hS' (T'.setVm vm') rfl (X'.noted hW')
  refine ⟨t, hstep₁ _ (fun acts => ?_), a2⟩
  rw [doInvoke_state]
  refine hsteps.trans ?_
  rw [ht]
  have h' : At T' (F0 m pc ls rest).method c below := X'.here
  obtain ⟨hgo', hw'⟩ := h'.throwing x
  refine Steps.head hgo' hw' ?_
  rw [stepThread_throwing (frames_entered h'.top _), ct_step hfind]
  obtain ⟨g₀, hg₀⟩ := Option.isSome_iff_exists.mp h'.top
  obtain ⟨r, hr⟩ := State.topJava?_eq_some.mp hg₀
  have hr' : (T'.setVm vm').frames = .java g₀ :: r := hr
  rw [State.setTop_of_frames _ hr'] at a1
  have e1 : ((((T'.setTop (F0 m pc ls rest)).pushFrame (.throwing x)) : State).setVm vm').setFrames (.java { F0 m pc ls rest with pc := hpc, stack := [.ref x] } :: T'.frames.tail) = (T'.setVm vm').setFrames (.java (F0 m hpc ls [.ref x]) :: r) := by
    rw [hr, List.tail_cons, State.pushFrame, State.setTop_of_frames _ hr]
    have e2 : ∀ (F G : List Frame), (((T'.setFrames F).setFrames G).setVm vm') = (T'.setVm vm').setFrames G := fun F G => by rw [State.setFrames_setFrames]; rfl
    rw [e2, State.setFrames_setFrames]
  rw [e1]
  exact a1
end
