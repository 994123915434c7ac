/-! ===== the law: calls of its helpers (methods with a table of handlers), of the reference, of the class ===== -/
section
variable {p : Program} {l : Launch} {e : Env} {R : Room} {s : State} {m : MethodId} {args : Array Value} {below : List Frame} {meth : Method} {c : Code} {H : Heap} {locs : List Loc} {cells slots : Nat} {Q : State → Prop} {T : State}
theorem callSW (X : Stand p l e R s m args below meth c T locs cells slots) (hexec : p.tables.exec = Jvm.exec) {own : String} {index : Nat} {y : MethodName} {bytes : ByteArray} {maxL : Nat} {ret : Option FieldType} {hh : List (Nat × Nat × Nat × Nat)}
    (hown : s.vm.findClass own = some m.cls) (hlink : (Cond.methodLink own index y).before args s = true) (hstat : (Cond.static y).before args s = true) (hinit : (Cond.initialized y.cls).before args s = true)
    (hcode : (Cond.codeWith y bytes maxL ret hh).before args s = true) (hy : y.cls ≠ "java/lang/invoke/MethodHandle" ∧ y.cls ≠ "java/lang/invoke/VarHandle")
    {W : Nat} {Pre : Pt → Array Value → Prop} {Post : Pt → Array Value → Option Value → Pt → Prop} (hK : Back l R p e below s args y 3 W Pre Post)
    {g : JFrame} (hg : g.method = m) (hsize : g.locals.size = c.maxLocals) {argsL rest : List Value} (hlen : ∀ sig, parseMethodDescriptor y.desc = some sig → argsL.length = sig.parameters.length)
    (hstack : g.stack = argsL.reverse ++ rest) (hW : 2 * g.monitorRoom + (rest.map fun v => v.category).sum ≤ W) (hdg : decode c.code g.pc = .ok (.invokestatic index, 3))
    (hpre : ∀ vm₁, s.WarmedH vm₁ → Pre ⟨T.setVm vm₁, locs, cells, slots⟩ argsL.toArray) :
    ∃ (v : Option Value) (vm₁ : Vm) (B : Pt), s.WarmedH vm₁ ∧ Stand p l e R s m args below meth c B.U B.locs B.cells B.slots ∧ Post ⟨T.setVm vm₁, locs, cells, slots⟩ argsL.toArray v B ∧
      ∀ target, Steps p.tables e below (B.U.setTop { g with pc := g.pc + 3, stack := v.toList ++ rest }) target → Steps p.tables e below (T.setTop g) target := by
  obtain ⟨mk, methM, cM, hnamed, hmethM, -, -, -, -, -, -, hsigM⟩ := Cond.codeWith_spec hcode
  have hstatic : methM.isStatic = true := Cond.static_spec hnamed hmethM hstat
  obtain ⟨kP, hkP, -⟩ := className_of_methodNamed hnamed
  have hinitP : kP.init = .initialized := Cond.initialized_spec (findClass_of_methodNamed hnamed) hkP hinit
  obtain ⟨vm₁, X₁, hstep₁⟩ := X.invokestatic hexec hown hlink hnamed hmethM hstatic hkP hinitP hy (g := g) hg (argsL := argsL) (rest := rest) (hlen _ hsigM) hstack hdg
  obtain ⟨v, B, X', hpost, hsteps⟩ := hK m meth c ⟨T.setVm vm₁, locs, cells, slots⟩ { g with stack := rest } (.invokestatic index) mk argsL.toArray X₁ hg hsize hdg hW (X₁.named hnamed) (hpre vm₁ X₁.warmed)
  exact ⟨v, vm₁, B, X₁.warmed, X', hpost, fun target h => hstep₁ _ fun acts => by rw [doInvoke_state]; exact hsteps.trans h⟩
theorem runSW {y : MethodName} {bytes cc : ByteArray} {maxL nL mc ms n index : Nat} {ret : Option FieldType} {hh : List (Nat × Nat × Nat × Nat)} {ws : List Cond} {rm : Room} {Pc : Array Value → State → Prop} {Qc : Array Value → State → Outcome → State → Prop} {free : Addr → Prop} {Ts : List Cond} {own : String} {As rest : List Value} {g : JFrame}
    (S : CallFix p m c cc nL s args Ts own) (hM : Met l y ws rm Pc Qc mc ms free) (hrc : rm.cells = mc) (hrs : rm.slots = ms) (hR : rm.frames + 1 ≤ R.frames ∧ 8 + (maxL + 11) + rm.locals ≤ R.locals) (hw : ws = Cond.codeWith y bytes maxL ret hh :: wsA) (hcw : Cond.codeWith y bytes maxL ret hh ∈ wsA) (hts : ∀ w ∈ wsA, w.before args s = true)
    (hini : (Cond.initialized y.cls).before args s = true) (hstt : (Cond.static y).before args s = true) (hl : (Cond.methodLink own index y).before args s = true)
    (hd : y.cls ≠ "java/lang/invoke/MethodHandle" ∧ y.cls ≠ "java/lang/invoke/VarHandle" ∧ (parseMethodDescriptor y.desc).map (fun d => d.parameters.length) = some n) (hp : PreS s H Pc As)
    (hg : g.method = m) (hn : As.length = n) (hsize : g.locals.size = nL) (hstack : g.stack = As.reverse ++ rest) (hW : 2 * g.monitorRoom + (rest.map fun v => v.category).sum ≤ 8) (hdg : decode cc g.pc = .ok (.invokestatic index, 3)) (hf : cells + mc ≤ R.cells ∧ slots + ms ≤ R.slots) :
    CallRun p l e R s m args below meth c H locs cells slots mc ms g rest (Qc As.toArray) (free) := by
  have hts2 : ∀ w ∈ Cond.tt :: wsA, w.before args s = true := fun w h => (List.mem_cons.mp h).elim (fun e => e ▸ rfl) (hts w)
  have hws : ∀ w ∈ ws, ∀ (a' : Array Value) (U : State), s.WarmedH U.vm → w.before a' U = true := by
    rw [hw]
    exact pay_in hts2 (gI hcw)
  have hK : Back l R p e below s args y 3 8 (PreOf R mc ms Pc) (PostOf Qc mc ms free) := va_backW (hh := hh) (bytes := bytes) (maxL := maxL) (ret := ret) hM hp.1 hrc hrs hR.1 hR.2 hws (by rw [hw]; exact List.mem_cons_self) (fun a' U hW => word_at hW (Or.inl (by first | rfl | simp [Cond.onTables, Cond.keeps, Cond.steady])) hini)
  have hcode := hts _ hcw
  have hlen : ∀ sig, parseMethodDescriptor y.desc = some sig → n = sig.parameters.length := fun sig h => by
    have h2 := hd.2.2
    rw [h] at h2
    exact (Option.some.inj h2).symm
  obtain ⟨hx, hb, hml, ho, -⟩ := S
  intro T hT X
  obtain ⟨v, vm₁, ⟨U', l2, c2, s2⟩, hW₁, X', ⟨g', mk, t, L, e1, e2, hq, h1, hL, h2, h3⟩, st⟩ := callSW X hx (bytes := bytes) (maxL := maxL) (ret := ret) (hh := hh) ho hl hstt hini hcode ⟨hd.1, hd.2.1⟩ hK hg (hsize.trans hml.symm) (argsL := As) (rest := rest) (fun sig h => hn.trans (hlen sig h)) hstack hW (by rw [hb]; exact hdg)
    (fun vm₁ hW₁ => ⟨hf.1, hf.2, hp.2 (T.setVm vm₁) hT hW₁⟩)
  dsimp only [Pt.U, Pt.locs, Pt.cells, Pt.slots] at X' e1 e2 h1 h2 h3 st
  subst h1; subst h2; subst h3
  exact ⟨v, (T.setVm vm₁).calling g' mk As.toArray, t, U', L, hT, X', hL, e1, hq, st⟩
end
theorem c_at {D : va_G} {q : Nat → Nat} {cI cJ cZ : ClassId} {z : SC} {H : Heap} (h : c_W D q cI cJ cZ z H) {x : Nat} (hx : c_qs q x) : x < H.size := by
  obtain ⟨k, hk, rfl⟩ := hx
  have hl : (c_wd q cI cJ cZ z).length = 23 := rfl
  have h1 : (c_wd q cI cJ cZ z)[k]? = some ((c_wd q cI cJ cZ z)[k]'(by omega)) := List.getElem?_eq_getElem _
  have h2 := (c_wd_at q cI cJ cZ z k _ h1).2
  have h3 := (h k _ h1).lt
  rwa [h2] at h3
theorem m_at {D : va_G} {q : Nat → Nat} {cI cJ cZ : ClassId} {z : SM} {H : Heap} (h : m_W D q cI cJ cZ z H) {x : Nat} (hx : m_qs q x) : x < H.size := by
  obtain ⟨k, hk, rfl⟩ := hx
  have hl : (m_wd q cI cJ cZ z).length = 15 := rfl
  have h1 : (m_wd q cI cJ cZ z)[k]? = some ((m_wd q cI cJ cZ z)[k]'(by omega)) := List.getElem?_eq_getElem _
  have h2 := (m_wd_at q cI cJ cZ z k _ h1).2
  have h3 := (h k _ h1).lt
  rwa [h2] at h3
theorem m_up2 {D : va_G} {q : Nat → Nat} {cI cJ cZ : ClassId} {z : SM} {H H' : Heap} (h : m_W D q cI cJ cZ z H) (hu : ∀ a, m_qs q a → H'[a]? = H[a]?) : m_W D q cI cJ cZ z H' := by
  intro k r hr
  have h1 := h k r hr
  have h0 : m_qs q r.1 := ⟨k, (m_wd_at q cI cJ cZ z k r hr).1, (m_wd_at q cI cJ cZ z k r hr).2⟩
  obtain ⟨a, x | o⟩ := r
  · show H'[a]? = _
    rw [hu a h0]
    exact h1
  · obtain ⟨w, h2, h3⟩ := h1
    obtain ⟨cell, h4, h5⟩ := h3
    exact ⟨w, h2, cell, by rw [hu a h0]; exact h4, h5⟩
section
variable {p : Program} {l : Launch} {e : Env} {R : Room} {s : State} {m : MethodId} {args : Array Value} {below : List Frame} {meth : Method} {c : Code} {H : Heap} {locs : List Loc} {cells slots : Nat} {Q : State → Prop}
variable {cc : ByteArray} {pc : Nat} {ls : Array Slot} {rest : List Value} {D : va_G} {q r : Nat → Nat} {o : Nat} {cI cJ cZ : ClassId} {z : SC} {mm : SM} {f : Nat → Int64} {A : Nat → Prop} {H0 : Heap}
theorem hp_pre {As : List Value} (hK : va_K D clA (tys3 cI cJ cZ) s) (hP : c_W D q cI cJ cZ z H) (hz : ∀ U : State, U.heap = H → s.WarmedH U.vm → xZ U) (hn : ncZ s) (hO : oA o cJ f H) : PreS s H (va_Pc As (hC D q cI cJ cZ o z f)) As :=
  ⟨fun a U g mk h => ⟨h.1, ⟨h.2.1.1, va_K.moved (u := U) (U := U.calling g mk a) (Vm.Alike.refl U.vm) h.2.1.2⟩, xZ_mv (s := U) (U := U.calling g mk a) (State.WarmedH.refl U) (fun _ _ h _ => h) h.2.2.1, ncZ_mv (s := U) (U := U.calling g mk a) (State.WarmedH.refl U) h.2.2.2.1, h.2.2.2.2⟩,
    fun U hU hW => ⟨rfl, ⟨by rw [hU]; exact hP, va_K.moved hW.alike hK⟩, hz U hU hW, ncZ_mv hW hn, by rw [hU]; exact hO⟩⟩
theorem hp_go {g : Int32 × SC × (Nat → Int64)} {a : Array Value} {st0 : List Value} (hr : CallRun p l e R s m args below meth c H locs cells slots 1 6 (F0 m pc ls st0) rest (hQ D q cI cJ cZ o g a) (hA q o)) (hS : va_S A H0 H locs) (hAA : ∀ x, hA q o x → A x) (hm : m_W D r cI cJ cZ mm H) (hd : ∀ x, m_qs r x → ¬ hA q o x)
    (kk : ∀ (H1 : Heap) (locs1 : List Loc), c_W D q cI cJ cZ g.2.1 H1 → oA o cJ g.2.2 H1 → m_W D r cI cJ cZ mm H1 → va_S A H0 H1 locs1 → W p l e R s m args below meth c H1 locs1 (cells + 1) (slots + 6) Q (F0 m (pc + 3) ls (.int g.1 :: rest))) : W p l e R s m args below meth c H locs cells slots Q (F0 m pc ls st0) := by
  intro T hT X
  obtain ⟨v', st₀, t, T', L, h0, X', hL, e1, ⟨hv, hP, hO, hz, hk⟩, st⟩ := hr T hT X
  cases hv
  rw [h0] at hz hk
  obtain ⟨t2, a1, b1⟩ := kk T'.heap (locs ++ L) (by rw [e1]; exact hP) (by rw [e1]; exact hO) (by rw [e1]; exact m_up2 hm (fun x hx => hk x (m_at hm hx) (hd x hx)))
    ⟨Nat.le_trans hS.1 (by rw [e1]; exact hz), fun q h1 h2 => by rw [e1, hk q (Nat.lt_of_lt_of_le h1 hS.1) (fun z => h2 (hAA q z))]; exact hS.2.1 q h1 h2, fun q hq => by
      rcases List.mem_append.mp hq with h | h
      · exact hS.2.2 q h
      · exact hAA _ (hL q h)⟩ T' rfl X'
  exact ⟨t2, st t2 a1, b1⟩
theorem mo_go {v : Option Value} {mm' : SM} {a : Array Value} {st0 : List Value} (hr : CallRun p l e R s m args below meth c H locs cells slots 0 0 (F0 m pc ls st0) rest (cQw v (m_W D r cI cJ cZ mm') (m_qs r) a) (m_qs r)) (hS : va_S A H0 H locs) (hAA : ∀ x, m_qs r x → A x) (hc : c_W D q cI cJ cZ z H) (hO : oA o cJ f H) (hd : ∀ x, c_qs q x → ¬ m_qs r x) (ho : ¬ m_qs r o)
    (kk : ∀ (H1 : Heap) (locs1 : List Loc), c_W D q cI cJ cZ z H1 → oA o cJ f H1 → m_W D r cI cJ cZ mm' H1 → va_S A H0 H1 locs1 → W p l e R s m args below meth c H1 locs1 cells slots Q (F0 m (pc + 3) ls (v.toList ++ rest))) : W p l e R s m args below meth c H locs cells slots Q (F0 m pc ls st0) :=
  cl_w2 hr hS hAA hAA (fun H1 locs1 hP hk hS1 => kk H1 locs1 (c_up2 hc (fun x hx => hk x (c_at hc hx) (hd x hx))) (hO.kept (hk o hO.lt ho)) hP hS1)
theorem cl_go {v : Option Value} {z' : SC} {a : Array Value} {st0 : List Value} (hr : CallRun p l e R s m args below meth c H locs cells slots 0 0 (F0 m pc ls st0) rest (cQw v (c_W D q cI cJ cZ z') (c_qs q) a) (c_qs q)) (hS : va_S A H0 H locs) (hAA : ∀ x, c_qs q x → A x) (hm : m_W D r cI cJ cZ mm H) (hO : oA o cJ f H) (hd : ∀ x, m_qs r x → ¬ c_qs q x) (ho : ¬ c_qs q o)
    (kk : ∀ (H1 : Heap) (locs1 : List Loc), c_W D q cI cJ cZ z' H1 → oA o cJ f H1 → m_W D r cI cJ cZ mm H1 → va_S A H0 H1 locs1 → W p l e R s m args below meth c H1 locs1 cells slots Q (F0 m (pc + 3) ls (v.toList ++ rest))) : W p l e R s m args below meth c H locs cells slots Q (F0 m pc ls st0) :=
  cl_w2 hr hS hAA hAA (fun H1 locs1 hP hk hS1 => kk H1 locs1 hP (hO.kept (hk o hO.lt ho)) (m_up2 hm (fun x hx => hk x (m_at hm hx) (hd x hx))) hS1)
/-- the number that the helper left in 'out' -/
theorem ow_lald (hx : p.tables.exec = Jvm.exec) (hb : c.code = cc) (hK : va_K D clA (tys3 cI cJ cZ) s) (hO : oA o cJ f H) (hdg : decode cc pc = .ok (.laload, 1))
    (kk : W p l e R s m args below meth c H locs cells slots Q (F0 m (pc + 1) ls (.long (f 0) :: rest))) : W p l e R s m args below meth c H locs cells slots Q (F0 m pc ls (.int 0 :: .ref o :: rest)) := by
  have hP : va_P D clA [(o, .inl (cJ, 1, .inr (.inl f)))] H := by
    intro k w hw
    cases k with
    | zero => cases hw; exact hO
    | succ k => cases hw
  exact va_lald hx hb hK hP 0 1 rfl rfl (i := 0) (vp_in_nI (n := 0) (by decide) (by decide)) hdg kk
/-- a word of the script: aload_0, iload 4, iconst j, iadd, iaload -/
theorem sc_row {b L n j : Nat} {xs : Nat → Int32} {lv : List (Nat × Value)} (hx : p.tables.exec = Jvm.exec) (hb : c.code = cc) (hX : va_X b L xs s H0) (hbl : b < H0.size) (hbA : ¬ A b) (hS : va_S A H0 H locs) (hn : n + j < L) (hL : L ≤ 2560) (hl0 : ls[0]? = some (.val (.ref b))) (hl4 : ls[4]? = some (.val (.int (nI n))))
    (d0 : decode cc pc = .ok (.aload_n 0, 1)) (d1 : decode cc (pc + 1) = .ok (.iload 4, 2)) (d3 : decode cc (pc + 3) = .ok (.iconst j, 1)) (d4 : decode cc (pc + 4) = .ok (.iadd, 1)) (d5 : decode cc (pc + 5) = .ok (.iaload, 1)) (hj : Int32.ofInt (j : Int) = nI j)
    (kk : W p l e R s m args below meth c H locs cells slots Q (F0 m (pc + 6) ls (.int (xs (n + j)) :: rest))) : W p l e R s m args below meth c H locs cells slots Q (F0 m pc ls rest) := by
  refine lv_aload_n hx hb d0 rfl hl0 ?_
  refine lv_iload hx hb d1 hl4 ?_
  refine lv_iconst (v := nI j) hx hb d3 hj ?_
  refine lv_iadd hx hb d4 ?_
  have e : nI n + nI j = nI (n + j) := by
    apply Int32.toInt_inj.mp
    rw [Kit.i32_add (by rw [nI_toInt (by omega), nI_toInt (by omega)]; omega) (by rw [nI_toInt (by omega), nI_toInt (by omega)]; omega), nI_toInt (by omega), nI_toInt (by omega), nI_toInt (by omega)]
    omega
  rw [e]
  refine va_sld hx hb hX hbl hbA hS (vp_in_nI hn (by omega)) d5 ?_
  rw [nI_clamp (by omega)]
  exact kk
def nz (x : Int32) : Bool := if x = 0 then false else true
/-- x != 0 -/
theorem nz_row {x : Int32} (hx : p.tables.exec = Jvm.exec) (hb : c.code = cc) (d0 : decode cc pc = .ok (.ifCond .eq 7, 3)) (d3 : decode cc (pc + 3) = .ok (.iconst 1, 1)) (d4 : decode cc (pc + 4) = .ok (.goto 4, 3)) (d7 : decode cc (pc + 7) = .ok (.iconst 0, 1))
    (kk : W p l e R s m args below meth c H locs cells slots Q (F0 m (pc + 8) ls (.int (bb (nz x)) :: rest))) : W p l e R s m args below meth c H locs cells slots Q (F0 m pc ls (.int x :: rest)) := by
  refine lv_if_eq (tgt := pc + 7) hx hb d0 (by omega) (fun h => ?_) (fun h => ?_)
  · have e : bb (nz x) = 0 := by unfold nz; rw [if_pos h]; rfl
    rw [e] at kk
    exact lv_iconst (v := 0) hx hb d7 (by decide) kk
  · have e : bb (nz x) = 1 := by unfold nz; rw [if_neg h]; rfl
    rw [e] at kk
    refine lv_iconst (v := 1) hx hb d3 (by decide) ?_
    exact lv_goto (tgt := pc + 8) hx hb d4 (by omega) kk
/-- b ? 1L : 0L -/
theorem nl_row {b : Bool} (hx : p.tables.exec = Jvm.exec) (hb : c.code = cc) (d0 : decode cc pc = .ok (.ifCond .eq 7, 3)) (d3 : decode cc (pc + 3) = .ok (.lconst 1, 1)) (d4 : decode cc (pc + 4) = .ok (.goto 4, 3)) (d7 : decode cc (pc + 7) = .ok (.lconst 0, 1))
    (kk : W p l e R s m args below meth c H locs cells slots Q (F0 m (pc + 8) ls (.long (bl b) :: rest))) : W p l e R s m args below meth c H locs cells slots Q (F0 m pc ls (.int (bb b) :: rest)) := by
  refine lv_if_eq (tgt := pc + 7) hx hb d0 (by omega) (fun h => ?_) (fun h => ?_)
  · have e : bl b = 0 := by cases b; rfl; exact absurd h (by decide)
    rw [e] at kk
    exact lv_lconst (v := 0) hx hb d7 (by decide) kk
  · have e : bl b = 1 := by cases b; exact absurd rfl h; rfl
    rw [e] at kk
    refine lv_lconst (v := 1) hx hb d3 (by decide) ?_
    exact lv_goto (tgt := pc + 8) hx hb d4 (by omega) kk
end
