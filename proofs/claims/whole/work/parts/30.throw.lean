/-! ===== throwing and catching: my own rows ===== -/
/-- a static field of Throwable that holds a reference or null -/
def thS (f d : String) (U : State) : Prop := (Cond.laysStatic Bundle.tN f d).before #[] U = true ∧ (Cond.isRef (.static Bundle.tN f d)).before #[] U = true
def thZ (U : State) : Prop := thS "UNASSIGNED_STACK" Bundle.steD U ∧ thS "SUPPRESSED_SENTINEL" Bundle.listD U
theorem thS_mv {f d : String} {s U : State} (hal : s.vm.Alike U.vm) (hh : ∀ (q : Nat) (cell : Cell), s.heap[q]? = some cell → cell.vm.isStatics = true → U.heap[q]? = some cell) (h : thS f d s) : thS f d U := by
  obtain ⟨c, k, i, fd, a, cell, hc, hf, hst, hsta, hcell, hiss, hcls, hlt, hty⟩ := Cond.laysStatic_spec h.1
  have hcell' : U.heap[a]? = some cell := hh a cell hcell hiss
  obtain ⟨u, hu⟩ := Cond.staticRefV hf hst hsta hcell hiss h.2
  obtain ⟨k', hf', he⟩ := State.fieldFound?_setVm hal hf
  have hf2 : U.fieldFound? Bundle.tN f d = some (c, k', i, fd) := hf'
  have hc2 : U.vm.findClass Bundle.tN = some c := by rw [hal.findClass]; exact hc
  have hs2 : k'.statics = some a := by rw [he]; exact hsta
  refine ⟨Cond.laysStatic_of hc2 hf2 hst hs2 hcell' hiss hcls hlt (by rw [he]; exact hty), ?_⟩
  have ev : (Term.static Bundle.tN f d).eval #[] U none [] U = some u.v := by
    simp [Term.eval, State.fieldNamed?, hf2, hst, hs2, hcell', hiss, hu]
  simp only [Cond.before, Cond.holds, Cond.value, ev]
  obtain ⟨v, hv⟩ := u
  cases v <;> simp [Value.isRef] at hv ⊢
theorem thZ_mv {s U : State} (hal : s.vm.Alike U.vm) (hh : ∀ (q : Nat) (cell : Cell), s.heap[q]? = some cell → cell.vm.isStatics = true → U.heap[q]? = some cell) (h : thZ s) : thZ U := ⟨thS_mv hal hh h.1, thS_mv hal hh h.2⟩
/-- how a method ends that throws a new exception of class E -/
def tQ (E : String) (mc ms : Nat) : Array Value → State → Outcome → State → Prop := fun _ st o t => ∃ (x : Addr) (ce : Cell), o = .threw x ∧ st.heap.size ≤ x ∧ t.heap[x]? = some ce ∧ ce.vm = .none ∧ st.vm.findClass E = some ce.cls ∧ st.WarmedH t.vm ∧ st.sameButNew ({ t with vm := st.vm } : State) [] mc ms
def MetT (l : Launch) (y : MethodName) (ws : List Cond) (rm : Room) (Pc : Array Value → State → Prop) (E : String) (mc ms : Nat) : Prop := MetFree l y (headSpec ws rm) Pc (fun _ _ _ _ _ => True) (tQ E mc ms)
def TQ (below : List Frame) (E : String) (a : Array Value) (s : State) (mc ms : Nat) : State → Prop := fun t => ∃ o, t.status = .running ∧ Ended t below o ∧ tQ E mc ms a s o t
theorem MetT.ofW {l : Launch} {y : MethodName} {ws ws' : List Cond} {rm : Room} {Pc : Array Value → State → Prop} {E : String} {mc ms : Nat} {cc : ByteArray} {maxL : Nat} {ret : Option FieldType}
    (hy : plainName y.cls = true) (hw : ws = Cond.code y cc maxL ret :: ws')
    (body : ∀ p e s m args below meth c s₁, BodyLoose p l y (headSpec ws rm) cc maxL ret e s m args below meth c s₁ → c.maxLocals = maxL → c.exceptionTable.isEmpty = true → Pc args s →
      W p l e (headSpec ws rm).room s m args below meth c s.heap [] 0 0 (TQ below E args s mc ms) (entryFrame m args maxL)) : MetT l y ws rm Pc E mc ms := by
  refine MetFree.of_bodyS (code := cc) (maxLocals := maxL) (ret := ret) hy ?_ ?_
  · intro args s m h hn
    obtain ⟨meth, c, h1, h2, h3, h4, h5, h6, -, -⟩ := Cond.code_spec hn (atoms_spec (ws := ws) h _ (by rw [hw]; exact List.mem_cons_self))
    exact ⟨meth, c, h1, h2, h3, h4, h5, h6⟩
  · intro p e s m args below meth c s₁ B hml hP _
    have hh0 : s₁.heap = s.heap := by rw [B.state]; rfl
    have hnh := B.noHandlers (atoms_spec (ws := ws) B.pre _ (by rw [hw]; exact List.mem_cons_self))
    obtain ⟨t, a1, o, b1, b2, b3⟩ := body p e s m args below meth c s₁ B hml hnh hP s₁ hh0 (Stand.of_body B)
    exact ⟨t, o, a1, b1, b2, b3⟩
section
variable {p : Program} {l : Launch} {e : Env} {R : Room} {s : State} {m : MethodId} {args : Array Value} {below : List Frame} {meth : Method} {c : Code} {H : Heap} {locs : List Loc} {cells slots : Nat} {Q : State → Prop}
variable {cc : ByteArray} {pc : Nat} {ls : Array Slot} {rest : List Value}
/-- 'throw new E("..")': new, dup, ldc, invokespecial, athrow -/
theorem tw_throw (hfl : l.flags = pinnedFlags ++ [noTraceFlag]) (hx : p.tables.exec = Jvm.exec) (hb : c.code = cc) (hml : ls.size = c.maxLocals) (hnh : c.exceptionTable.isEmpty = true) {own E tx : String} {names : List String} {i1 i2 ic : Nat} (hown : s.vm.findClass own = some m.cls)
    (hE : Bundle.fit E = true) (hnames : ∀ n ∈ names, Bundle.fit n = true) (h : ∀ a ∈ Bundle.ownAtoms own ic E names, a.before args s = true)
    (hcl : (Cond.classLink own i1 E).before args s = true) (hini : (Cond.initialized E).before args s = true) (hstr : (Cond.stringRef own i2 tx).before args s = true)
    (d1 : decode cc pc = .ok (.new i1, 3)) (d2 : decode cc (pc + 3) = .ok (.dup, 1)) (d3 : decode cc (pc + 4) = .ok (.ldc i2, 2)) (d4 : decode cc (pc + 6) = .ok (.invokespecial ic, 3)) (d5 : decode cc (pc + 9) = .ok (.athrow, 1))
    (hfr : names.length + 3 < R.frames) (hlo : 1 + (13 * (names.length + 1) + 42) ≤ R.locals) (hce : 1 ≤ R.cells) (hsl : 6 ≤ R.slots) (hlocks : meth.locks = false) :
    W p l e R s m args below meth c s.heap [] 0 0 (TQ below E args s 1 6) (F0 m pc ls []) := by
  have hins : (Cond.instantiable E 6).before args s = true := h _ (by simp [Bundle.ownAtoms])
  refine W.newc hx hb hown hcl hins hini rfl d1 (by omega) (by omega) fun cC kC h1 h2 h3 h4 => ?_
  refine W.eq (g2 := F0 m (pc + 3) ls [.ref s.heap.size]) rfl ?_
  refine lv_dup hx hb d2 rfl ?_
  obtain ⟨k, cf, i, q, -, -, -, -, -, hev⟩ := Cond.stringRef_spec hown hstr
  refine va_ldcS (tx := tx) (q := q) hx hb hown (vk_R.of (A := args) hstr hev) d3 ?_
  intro T hT X
  have hnew : T.heap[s.heap.size]? = some (freshCell cC kC) := by
    rw [hT]
    simp [freshCell]
  obtain ⟨U, st, run, ended, warm, same, ce, hce1, O⟩ := X.ctorThrowS hx (Launch.traces_off hfl X.admits) (own := own) (cls := E) (names := names) (ic := ic) hown hE hnames h
    (fun y hy => by cases hy) (a := s.heap.size) h1 h2 hnew (Nat.le_refl _) (msg := .ref q) rfl (g := F0 m (pc + 6) ls [.ref q, .ref s.heap.size, .ref s.heap.size]) rfl hml rfl rfl (rest := []) rfl
    (by rw [hb]; exact d4) (by rw [hb]; exact d5) (fun y hy => by
      have : c.exceptionTable.toList = [] := by simpa using hnh
      rw [this] at hy
      cases hy) hfr (by simpa [F0, JFrame.monitorRoom, Value.category] using hlo) (hlocks := hlocks)
  exact ⟨U, st, .threw s.heap.size, run, ended, s.heap.size, ce, rfl, Nat.le_refl _, hce1, O.vm, O.cls, warm, by simpa [h4] using same⟩
end
