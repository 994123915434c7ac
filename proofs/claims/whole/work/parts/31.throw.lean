/-! ===== throwing behind writes: the walk taken up anew from the state that it has come to ===== -/
theorem rebase {p : Program} {l : Launch} {e : Env} {R : Room} {s : State} {m : MethodId} {args : Array Value} {below : List Frame} {meth : Method} {c : Code} {T : State} {locs : List Loc}
    (X : Stand p l e R s m args below meth c T locs 0 0) : Stand p l e R ({ s with heap := T.heap, slotsUsed := T.slotsUsed } : State) m args below meth c T [] 0 0 := by
  have hr : ({ s with heap := T.heap, slotsUsed := T.slotsUsed } : State).hasRoom e.platform R = true := by
    have h := X.room
    have h1 : T.heap.size ≤ s.heap.size + 0 := X.heapSize
    have h2 : T.slotsUsed ≤ s.slotsUsed + 0 := X.used
    have h3 : ({ s with heap := T.heap, slotsUsed := T.slotsUsed } : State).slotsTrue = true := X.book
    simp only [State.hasRoom, Bool.and_eq_true, decide_eq_true_eq] at h ⊢
    obtain ⟨⟨⟨⟨a1, a2⟩, a3⟩, a4⟩, a5⟩ := h
    exact ⟨⟨⟨⟨a1, a2⟩, by show T.heap.size + R.cells ≤ _; omega⟩, by show T.slotsUsed + R.slots ≤ _; omega⟩, h3⟩
  have hsame : ({ s with heap := T.heap, slotsUsed := T.slotsUsed } : State).sameButNew (T.setVm s.vm) [] 0 0 := by
    refine ⟨?_, Nat.le_refl _, Nat.le_refl _, ?_, ?_, fun a cell h => ⟨cell, h, rfl, rfl, fun _ _ => rfl⟩⟩
    · have h := X.same.1
      exact h
    · show T.slotsUsed = T.slotsUsed + ((T.heap.toList.drop T.heap.size).map (·.slots.size)).sum
      rw [List.drop_of_length_le (by simp)]
      rfl
    · show ((T.heap.toList.drop T.heap.size).map (·.slots.size)).sum ≤ 0
      rw [List.drop_of_length_le (by simp)]
      exact Nat.le_refl _
  exact ⟨X.admits, X.cas, X.clock, X.frames, hr, X.hears, X.method, X.code, X.here, X.tail, X.warmed, X.limits, X.bytes, hsame⟩
/-- how a method ends that throws a new exception of class E, behind it a heap of which P holds, nothing but the cells A written -/
def tR (E : String) (P : Heap → Prop) (A : Nat → Prop) : Array Value → State → Outcome → State → Prop := fun _ st o t => ∃ (x : Addr) (ce : Cell) (L : List Loc), o = .threw x ∧ st.heap.size ≤ x ∧ t.heap[x]? = some ce ∧ ce.vm = .none ∧ st.vm.findClass E = some ce.cls ∧ st.WarmedH t.vm ∧ st.sameButNew ({ t with vm := st.vm } : State) L 1 6 ∧ (∀ q ∈ L, A q.base) ∧ (∀ q, q < st.heap.size → ¬ A q → t.heap[q]? = st.heap[q]?) ∧ P t.heap
def MetR (l : Launch) (y : MethodName) (ws : List Cond) (rm : Room) (Pc : Array Value → State → Prop) (E : String) (P : Heap → Prop) (A : Nat → Prop) : Prop := MetFree l y (headSpec ws rm) Pc (fun _ _ _ _ _ => True) (tR E P A)
def RQ (below : List Frame) (E : String) (a : Array Value) (s : State) (P : Heap → Prop) (A : Nat → Prop) : State → Prop := fun t => ∃ o, t.status = .running ∧ Ended t below o ∧ tR E P A a s o t
theorem MetR.ofW {l : Launch} {y : MethodName} {ws ws' : List Cond} {rm : Room} {Pc : Array Value → State → Prop} {E : String} {P : Heap → Prop} {A : Nat → Prop} {cc : ByteArray} {maxL : Nat} {ret : Option FieldType}
    (hy : plainName y.cls = true) (hw : ws = Cond.code y cc maxL ret :: ws')
    (body : ∀ p e s m args below meth c s₁, BodyLoose p l y (headSpec ws rm) cc maxL ret e s m args below meth c s₁ → c.maxLocals = maxL → c.exceptionTable.isEmpty = true → Pc args s →
      W p l e (headSpec ws rm).room s m args below meth c s.heap [] 0 0 (RQ below E args s P A) (entryFrame m args maxL)) : MetR l y ws rm Pc E P A := by
  refine MetFree.of_bodyS (code := cc) (maxLocals := maxL) (ret := ret) hy ?_ ?_
  · intro args s m h hn
    obtain ⟨meth, c, h1, h2, h3, h4, h5, h6, -, -⟩ := Cond.code_spec hn (atoms_spec (ws := ws) h _ (by rw [hw]; exact List.mem_cons_self))
    exact ⟨meth, c, h1, h2, h3, h4, h5, h6⟩
  · intro p e s m args below meth c s₁ B hml hP _
    have hh0 : s₁.heap = s.heap := by rw [B.state]; rfl
    have hnh := B.noHandlers (atoms_spec (ws := ws) B.pre _ (by rw [hw]; exact List.mem_cons_self))
    obtain ⟨t, a1, o, b1, b2, b3⟩ := body p e s m args below meth c s₁ B hml hnh hP s₁ hh0 (Stand.of_body B)
    exact ⟨t, o, a1, b1, b2, b3⟩
theorem sbn_nil {s t : State} {k n : Nat} (h : s.sameButNew t [] k n) : ∀ q, q < s.heap.size → t.heap[q]? = s.heap[q]? := by
  intro q hq
  obtain ⟨c', h1, h2, h3, h4⟩ := h.2.2.2.2.2 q s.heap[q] (Array.getElem?_eq_getElem hq)
  rw [Array.getElem?_eq_getElem hq, h1, h2]
  have e : c'.slots = s.heap[q].slots := Array.ext_getElem? (fun i => h4 i List.not_mem_nil)
  rw [e]
/-- the texts of the class's messages -/
def stL : List (Nat × String) := [(52, "no such address"), (65, "a word has ten digits"), (76, "no such bit"), (85, "a card has ten digits"), (93, "too many cards are still to be read"), (109, "no such operation"), (118, "no such part"), (121, "too many lines"), (137, "there are no lines"), (145, "the lines can't be placed"), (158, "no such symbol"), (164, "an address has four digits"), (169, "no such number of steps"), (174, "the machine is stopped"), (195, "no such register"), (206, "no such sign"), (227, "no such word of the output")]
def stZ (U : State) : Prop := ∀ r ∈ stL, (Cond.stringRef RDM r.1 r.2).before #[] U = true
theorem stR_mv {own tx : String} {i : Nat} {s U : State} (hW : s.WarmedH U.vm) (h : (Cond.stringRef own i tx).before #[] s = true) : (Cond.stringRef own i tx).before #[] U = true := by
  cases hc : s.vm.findClass own with
  | none => simp [Cond.before, Cond.holds, Cond.value, hc] at h
  | some cur =>
    obtain ⟨k, cf, j, a, -, -, -, -, -, hev⟩ := Cond.stringRef_spec hc h
    exact (vk_R.warm hW (vk_R.of h hev)).1
theorem stZ_mv {s U : State} (hW : s.WarmedH U.vm) (h : stZ s) : stZ U := fun r hr => stR_mv hW (h r hr)
def exN : List String := ["java/lang/RuntimeException", "java/lang/Exception"]
theorem exN_fit : ∀ n ∈ exN, Bundle.fit n = true := by decide +kernel
def thL : List Cond := [.laysStatic Bundle.tN "UNASSIGNED_STACK" Bundle.steD, .isRef (.static Bundle.tN "UNASSIGNED_STACK" Bundle.steD), .laysStatic Bundle.tN "SUPPRESSED_SENTINEL" Bundle.listD, .isRef (.static Bundle.tN "SUPPRESSED_SENTINEL" Bundle.listD)]
theorem thL_at {args : Array Value} {U : State} (hz : thZ U) : ∀ a ∈ thL, a.before args U = true := by
  intro a ha
  simp only [thL, List.mem_cons, List.not_mem_nil, or_false] at ha
  rcases ha with rfl | rfl | rfl | rfl
  · exact hz.1.1
  · exact hz.1.2
  · exact hz.2.1
  · exact hz.2.2
def exW : List Cond := [.declares ⟨"java/lang/RuntimeException", "<init>", "(Ljava/lang/String;)V"⟩, .declares ⟨"java/lang/Exception", "<init>", "(Ljava/lang/String;)V"⟩, .declares ⟨"java/lang/Throwable", "<init>", "(Ljava/lang/String;)V"⟩, .castable "java/lang/IndexOutOfBoundsException" "java/lang/IndexOutOfBoundsException", .castable "java/lang/IllegalArgumentException" "java/lang/IllegalArgumentException", .castable "java/lang/IllegalStateException" "java/lang/IllegalStateException", .castable "java/lang/UnsupportedOperationException" "java/lang/UnsupportedOperationException"]
def exA (U : State) : Prop := ∀ a ∈ exW, a.before #[] U = true
theorem exW_ok : ∀ a ∈ exW, a.onTables = true ∧ a.keepsFace = true := by decide +kernel
theorem face_mv {a : Cond} {A A' : Array Value} {s U : State} (hW : s.WarmedH U.vm) (h1 : a.onTables = true) (h2 : a.keepsFace = true) (h : a.before A s = true) : a.before A' U = true := by
  have h3 := Cond.before_shiftedFace (State.Shifted.of_warmed hW) a h2 h
  rw [Cond.onTables_vm (A' := A') (U' := U) U.vm a h1, State.setVm_self] at h3
  exact h3
theorem exA_mv {s U : State} (hW : s.WarmedH U.vm) (h : exA s) : exA U := fun a ha => face_mv hW (exW_ok a ha).1 (exW_ok a ha).2 (h a ha)
theorem exA_at {args : Array Value} {U : State} (h : exA U) : ∀ a ∈ exW, a.before args U = true := fun a ha => face_mv (State.WarmedH.refl U) (exW_ok a ha).1 (exW_ok a ha).2 (h a ha)
def xZ (U : State) : Prop := thZ U ∧ stZ U ∧ exA U
theorem xZ_mv {s U : State} (hW : s.WarmedH U.vm) (hh : ∀ (q : Nat) (cell : Cell), s.heap[q]? = some cell → cell.vm.isStatics = true → U.heap[q]? = some cell) (h : xZ s) : xZ U := ⟨thZ_mv hW.alike hh h.1, stZ_mv hW h.2.1, exA_mv hW h.2.2⟩
def isX (own : String) (p : Program) (s : State) (m : MethodId) (meth : Method) (c : Code) (cc : ByteArray) (ls : Array Slot) : Prop := p.tables.exec = Jvm.exec ∧ c.code = cc ∧ ls.size = c.maxLocals ∧ c.exceptionTable.isEmpty = true ∧ s.vm.findClass own = some m.cls ∧ meth.locks = false
section
variable {p : Program} {l : Launch} {e : Env} {R : Room} {s : State} {m : MethodId} {args : Array Value} {below : List Frame} {meth : Method} {c : Code} {H : Heap} {locs : List Loc} {P : Heap → Prop} {A : Nat → Prop}
variable {cc : ByteArray} {pc : Nat} {ls : Array Slot} {rest : List Value}
theorem tw_thr (hfl : l.flags = pinnedFlags ++ [noTraceFlag]) (hS : va_S A s.heap H locs) (hst : ∀ (q : Nat) (cell : Cell), A q → s.heap[q]? = some cell → cell.vm.isStatics = false) (hPH : ∀ H' : Heap, (∀ a, a < H.size → H'[a]? = H[a]?) → P H')
    {own E tx : String} {names : List String} {i1 i2 ic : Nat} (F : isX own p s m meth c cc ls) (hE : Bundle.fit E = true) (hnames : ∀ n ∈ names, Bundle.fit n = true)
    {Ts : List Cond} (hts : ∀ w ∈ Ts, w.before args s = true) (hgood : ∀ w ∈ Ts, (w.onTables && w.keeps) = true ∨ ∃ ty, w = .arrayClass ty) (hz : xZ s)
    (hat : ∀ (U : State), (∀ w ∈ Ts, w.before args U = true) → xZ U → ∀ a ∈ Bundle.ownAtoms own ic E names, a.before args U = true)
    (hcl : Cond.classLink own i1 E ∈ Ts) (hini : Cond.initialized E ∈ Ts) (hstr : ∀ U : State, s.WarmedH U.vm → (Cond.stringRef own i2 tx).before args U = true)
    (d1 : decode cc pc = .ok (.new i1, 3)) (d2 : decode cc (pc + 3) = .ok (.dup, 1)) (d3 : decode cc (pc + 4) = .ok (.ldc i2, 2)) (d4 : decode cc (pc + 6) = .ok (.invokespecial ic, 3)) (d5 : decode cc (pc + 9) = .ok (.athrow, 1))
    (hfr : names.length + 3 < R.frames) (hlo : 1 + (13 * (names.length + 1) + 42) ≤ R.locals) (hce : 1 ≤ R.cells) (hsl : 6 ≤ R.slots) :
    W p l e R s m args below meth c H locs 0 0 (RQ below E args s P A) (F0 m pc ls []) := by
  obtain ⟨hx, hb, hml, hnh, hown, hlocks⟩ := F
  intro T hT X
  have hts' : ∀ w ∈ Ts, w.before args ({ s with heap := T.heap, slotsUsed := T.slotsUsed } : State) = true := fun w hw => word_at (U := ({ s with heap := T.heap, slotsUsed := T.slotsUsed } : State)) (State.WarmedH.refl s) (hgood w hw) (hts w hw)
  have hz' : xZ ({ s with heap := T.heap, slotsUsed := T.slotsUsed } : State) := by
    refine xZ_mv (s := s) (State.WarmedH.refl s) (fun q cell h1 h2 => ?_) hz
    have hq : q < s.heap.size := (Array.getElem?_eq_some_iff.mp h1).1
    show T.heap[q]? = some cell
    rw [hT, hS.2.1 q hq (fun hA => by have := hst q cell hA h1; rw [h2] at this; cases this)]
    exact h1
  obtain ⟨t, st, o, h1, h2, x, ce, e1, e2, e3, e4, e5, e6, e7⟩ := tw_throw (s := ({ s with heap := T.heap, slotsUsed := T.slotsUsed } : State)) (e := e) (R := R) (args := args) (below := below) (l := l) (ls := ls) (tx := tx) hfl hx hb hml hnh hown hE hnames (hat _ hts' hz') (hts' _ hcl) (hts' _ hini) (hstr _ (State.WarmedH.refl s)) d1 d2 d3 d4 d5 hfr hlo hce hsl hlocks T rfl (rebase X)
  have hk := sbn_nil e7
  have hsz : s.heap.size ≤ T.heap.size := X.same.2.1
  have hsame : s.sameButNew ({ t with vm := s.vm } : State) locs 1 6 := by
    have h3 := X.same.trans (u := ({ t with vm := s.vm } : State)) (l2 := []) (c2 := 1) (n2 := 6) ?_
    · rw [List.append_nil, Nat.zero_add, Nat.zero_add] at h3
      exact h3
    · obtain ⟨k1, k2, k3, k4, k5, k6⟩ := e7
      refine ⟨?_, k2, k3, k4, k5, k6⟩
      have e : (T.setVm s.vm).setFrames t.frames = ({ s.setFrames t.frames with heap := T.heap, slotsUsed := T.slotsUsed } : State) := by
        refine (congrArg (·.setFrames t.frames) X.same.1).trans ?_
        show ({ (s.setFrames (T.setVm s.vm).frames).setFrames t.frames with heap := T.heap, slotsUsed := T.slotsUsed } : State) = _
        rw [State.setFrames_setFrames]
      show ({ t with vm := s.vm } : State) = ({ (T.setVm s.vm).setFrames t.frames with heap := t.heap, slotsUsed := t.slotsUsed } : State)
      rw [e]
      exact k1
  refine ⟨t, st, o, h1, h2, x, ce, locs, e1, Nat.le_trans hsz e2, e3, e4, e5, e6, hsame, hS.2.2, fun q hq hA => ?_, hPH _ (fun a ha => ?_)⟩
  · exact (hk q (Nat.lt_of_lt_of_le hq hsz)).trans (by show T.heap[q]? = _; rw [hT]; exact hS.2.1 q hq hA)
  · rw [← hT]
    exact hk a (by show a < T.heap.size; rw [hT]; exact ha)
end
def c_Ct (D : va_G) (q : Nat → Nat) (cI cJ cZ : ClassId) (z : SC) (U : State) : Prop := c_C D q cI cJ cZ z U ∧ xZ U
theorem va_P_up {D : va_G} {cl : List vw_C} {ws : va_W} {H H' : Heap} (h : va_P D cl ws H) (hu : ∀ a, a < H.size → H'[a]? = H[a]?) : va_P D cl ws H' := by
  intro k r hr
  have h1 := h k r hr
  obtain ⟨a, x | o⟩ := r
  · show H'[a]? = _
    have h2 : H[a]? = some (vp_cell x.1 x.2) := h1
    rw [hu a (Array.getElem?_eq_some_iff.mp h2).1]
    exact h2
  · obtain ⟨w, h2, h3⟩ := h1
    obtain ⟨cell, h4, h5⟩ := h3
    exact ⟨w, h2, cell, by rw [hu a (Array.getElem?_eq_some_iff.mp h4).1]; exact h4, h5⟩
theorem c_up {D : va_G} {q : Nat → Nat} {cI cJ cZ : ClassId} {z : SC} {H : Heap} (h : c_W D q cI cJ cZ z H) : ∀ H' : Heap, (∀ a, a < H.size → H'[a]? = H[a]?) → c_W D q cI cJ cZ z H' := fun _ hu => va_P_up h hu
theorem vp_cell_ns (cA : ClassId) (a : vp_A) : (vp_cell cA a).vm.isStatics = false := by
  obtain ⟨n, f⟩ := a
  rcases f with f | f | f | f | f <;> rfl
theorem c_ns {D : va_G} {q : Nat → Nat} {cI cJ cZ : ClassId} {z : SC} {H : Heap} (h : c_W D q cI cJ cZ z H) : ∀ (a : Nat) (cell : Cell), c_qs q a → H[a]? = some cell → cell.vm.isStatics = false := by
  intro a cell ⟨k, hk, ha⟩ hc
  have hr : ∃ r, (c_wd q cI cJ cZ z)[k]? = some r := ⟨_, List.getElem?_eq_getElem (show k < (c_wd q cI cJ cZ z).length from hk)⟩
  obtain ⟨r, hr⟩ := hr
  have h1 := h k r hr
  have h0 := (c_wd_at q cI cJ cZ z k r hr).2
  obtain ⟨b, x | o⟩ := r
  · have h2 : H[b]? = some (vp_cell x.1 x.2) := h1
    have h3 : b = q k := h0
    rw [ha, ← h3, h2] at hc
    rw [← Option.some.inj hc]
    exact vp_cell_ns x.1 x.2
  · obtain ⟨w, h2, cell', h4, h5, h6, -⟩ := h1
    have h3 : b = q k := h0
    rw [ha, ← h3] at hc
    have h4 : H[b]? = some cell' := h4
    rw [h4] at hc
    rw [← Option.some.inj hc]
    first | rw [h5]; rfl | rw [h6]; rfl
theorem own_54m : ∀ a ∈ Bundle.ownAtoms RDM 54 "java/lang/IndexOutOfBoundsException" exN, a ∈ wsA ∨ a ∈ thL ∨ a ∈ exW := by decide +kernel
theorem own_54 {args : Array Value} (U : State) (h : ∀ w ∈ wsA, w.before args U = true) (hz : xZ U) : ∀ a ∈ Bundle.ownAtoms RDM 54 "java/lang/IndexOutOfBoundsException" exN, a.before args U = true := fun a ha => (own_54m a ha).elim (h a) (fun h1 => h1.elim (thL_at hz.1 a) (exA_at hz.2.2 a))
theorem own_67m : ∀ a ∈ Bundle.ownAtoms RDM 67 "java/lang/IllegalArgumentException" exN, a ∈ wsA ∨ a ∈ thL ∨ a ∈ exW := by decide +kernel
theorem own_67 {args : Array Value} (U : State) (h : ∀ w ∈ wsA, w.before args U = true) (hz : xZ U) : ∀ a ∈ Bundle.ownAtoms RDM 67 "java/lang/IllegalArgumentException" exN, a.before args U = true := fun a ha => (own_67m a ha).elim (h a) (fun h1 => h1.elim (thL_at hz.1 a) (exA_at hz.2.2 a))
theorem own_95m : ∀ a ∈ Bundle.ownAtoms RDM 95 "java/lang/IllegalStateException" exN, a ∈ wsA ∨ a ∈ thL ∨ a ∈ exW := by decide +kernel
theorem own_95 {args : Array Value} (U : State) (h : ∀ w ∈ wsA, w.before args U = true) (hz : xZ U) : ∀ a ∈ Bundle.ownAtoms RDM 95 "java/lang/IllegalStateException" exN, a.before args U = true := fun a ha => (own_95m a ha).elim (h a) (fun h1 => h1.elim (thL_at hz.1 a) (exA_at hz.2.2 a))
theorem own_147m : ∀ a ∈ Bundle.ownAtoms RDM 147 "java/lang/UnsupportedOperationException" exN, a ∈ wsA ∨ a ∈ thL ∨ a ∈ exW := by decide +kernel
theorem own_147 {args : Array Value} (U : State) (h : ∀ w ∈ wsA, w.before args U = true) (hz : xZ U) : ∀ a ∈ Bundle.ownAtoms RDM 147 "java/lang/UnsupportedOperationException" exN, a.before args U = true := fun a ha => (own_147m a ha).elim (h a) (fun h1 => h1.elim (thL_at hz.1 a) (exA_at hz.2.2 a))
