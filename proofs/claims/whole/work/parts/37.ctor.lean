/-! ===== rows for constructors: cells are made one behind the other, at addresses that are counted ===== -/
def nA (a n : Nat) : Nat → Prop := fun q => q = a ∨ n ≤ q
def nC (D : va_G) (cI cJ cZ : ClassId) (w : va_W) (n : Nat) (U : State) : Prop := U.heap.size = n ∧ va_P D clA w U.heap ∧ va_K D clA (tys3 cI cJ cZ) U
def nQ (D : va_G) (w' : va_W) (a n k : Nat) : Array Value → State → Outcome → State → Prop := fun _ st o t => o = .returned none ∧ t.heap.size = n + k ∧ va_P D clA w' t.heap ∧ va_F (nA a n) st t
def inc : List Nat → Prop
  | [] => True
  | [_] => True
  | x :: y :: t => x < y ∧ inc (y :: t)
theorem inc_lt : ∀ (l : List Nat) (x : Nat), inc (x :: l) → ∀ y ∈ l, x < y := by
  intro l
  induction l with
  | nil => intro x _ y hy; cases hy
  | cons z t ih =>
    intro x h y hy
    rcases List.mem_cons.mp hy with rfl | hy
    · exact h.1
    · exact Nat.lt_trans h.1 (ih z h.2 y hy)
theorem inc_tl {x : Nat} {l : List Nat} (h : inc (x :: l)) : inc l := by
  cases l with
  | nil => trivial
  | cons y t => exact h.2
theorem inc_inj : ∀ (l : List Nat), inc l → ∀ (i j x : Nat), l[i]? = some x → l[j]? = some x → i = j := by
  intro l
  induction l with
  | nil => intro _ i j x h; simp at h
  | cons y t ih =>
    intro h i j x hi hj
    cases i with
    | zero =>
      cases j with
      | zero => rfl
      | succ j =>
        have h1 : y = x := by simpa using hi
        have h2 := inc_lt t y h x (List.mem_of_getElem? (by simpa using hj))
        omega
    | succ i =>
      cases j with
      | zero =>
        have h1 : y = x := by simpa using hj
        have h2 := inc_lt t y h x (List.mem_of_getElem? (by simpa using hi))
        omega
      | succ j => rw [ih (inc_tl h) i j x (by simpa using hi) (by simpa using hj)]
theorem vD_inc {A : Nat → Prop} {ws : va_W} (h : inc (ws.map (fun x => x.1))) (hA : ∀ x ∈ ws, A x.1) : va_D A ws := by
  refine ⟨fun i j p q hi hj hpq => inc_inj _ h i j p.1 ?_ ?_, fun k q hk => hA q (List.mem_of_getElem? hk)⟩
  · rw [List.getElem?_map, hi]; rfl
  · rw [List.getElem?_map, hj, hpq]; rfl
section
variable {p : Program} {l : Launch} {e : Env} {R : Room} {s : State} {m : MethodId} {args : Array Value} {below : List Frame} {meth : Method} {c : Code} {H H0 : Heap} {locs : List Loc} {cells slots : Nat} {Q : State → Prop}
variable {cc : ByteArray} {pc : Nat} {ls : Array Slot} {rest : List Value} {D : va_G} {cI cJ cZ : ClassId} {A : Nat → Prop} {ws : va_W}
theorem w_size {g : JFrame} (k : H.size ≤ s.heap.size + cells → W p l e R s m args below meth c H locs cells slots Q g) : W p l e R s m args below meth c H locs cells slots Q g :=
  fun T hT X => k (by rw [← hT]; exact X.heapSize) T hT X
theorem nw_I {h N' : Nat} {k : Int32} (hx : p.tables.exec = Jvm.exec) (hb : c.code = cc) (harr : (Cond.arrayClass .int).before args s = true) (hK : va_K D clA (tys3 cI cJ cZ) s) (hP : va_P D clA ws H) (hD : va_D A ws) (hS : va_S A H0 H locs) (hA : ∀ q, H0.size ≤ q → A q) (hz : H.size = h) (hn : ¬ k < 0) (hN : k.toNatClampNeg = N') (hbytes : N' * 4 ≤ 536870912) (hcells : cells + 1 ≤ R.cells) (hslots : slots + N' ≤ R.slots) (hdg : decode cc pc = .ok (.newarray .int, 2))
    (kk : ∀ H1 : Heap, H1.size = h + 1 → va_P D clA (ws ++ [(h, .inl (cI, N', .inl (fun _ => 0)))]) H1 → va_D A (ws ++ [(h, .inl (cI, N', .inl (fun _ => 0)))]) → va_S A H0 H1 locs → W p l e R s m args below meth c H1 locs (cells + 1) (slots + N') Q (F0 m (pc + 2) ls (.ref h :: rest))) : W p l e R s m args below meth c H locs cells slots Q (F0 m pc ls (.int k :: rest)) := by
  subst hz
  refine va_newaK (atype := .int) hx hb harr rfl hdg rfl hn hN hbytes hcells hslots rfl fun H1 cA e1 z1 o1 hAr hNm => ?_
  have hcA : cA = cI := Option.some.inj (hNm.symm.trans (hK.2 0 _ rfl).2)
  subst hcA
  have hk : ∀ (k : Nat) (x : Nat × va_E), ws[k]? = some x → H1[x.1]? = H[x.1]? := fun k x hx => o1 x.1 ((hP k x hx).lt)
  refine kk H1 z1 ((hP.kept hk).app (fun k x hx => ?_)) (hD.push hP rfl (hA _ hS.1)) ⟨Nat.le_trans hS.1 (by omega), fun x h1 h2 => (o1 x (Nat.lt_of_lt_of_le h1 hS.1)).trans (hS.2.1 x h1 h2), hS.2.2⟩
  have hz : k < 1 := (List.getElem?_eq_some_iff.mp hx).1
  rw [show k = 0 by omega] at hx
  cases hx
  exact e1
theorem nw_J {h N' : Nat} {k : Int32} (hx : p.tables.exec = Jvm.exec) (hb : c.code = cc) (harr : (Cond.arrayClass .long).before args s = true) (hK : va_K D clA (tys3 cI cJ cZ) s) (hP : va_P D clA ws H) (hD : va_D A ws) (hS : va_S A H0 H locs) (hA : ∀ q, H0.size ≤ q → A q) (hz : H.size = h) (hn : ¬ k < 0) (hN : k.toNatClampNeg = N') (hbytes : N' * 8 ≤ 536870912) (hcells : cells + 1 ≤ R.cells) (hslots : slots + N' ≤ R.slots) (hdg : decode cc pc = .ok (.newarray .long, 2))
    (kk : ∀ H1 : Heap, H1.size = h + 1 → va_P D clA (ws ++ [(h, .inl (cJ, N', .inr (.inl (fun _ => 0))))]) H1 → va_D A (ws ++ [(h, .inl (cJ, N', .inr (.inl (fun _ => 0))))]) → va_S A H0 H1 locs → W p l e R s m args below meth c H1 locs (cells + 1) (slots + N') Q (F0 m (pc + 2) ls (.ref h :: rest))) : W p l e R s m args below meth c H locs cells slots Q (F0 m pc ls (.int k :: rest)) := by
  subst hz
  refine va_newaK (atype := .long) hx hb harr rfl hdg rfl hn hN hbytes hcells hslots rfl fun H1 cA e1 z1 o1 hAr hNm => ?_
  have hcA : cA = cJ := Option.some.inj (hNm.symm.trans (hK.2 1 _ rfl).2)
  subst hcA
  have hk : ∀ (k : Nat) (x : Nat × va_E), ws[k]? = some x → H1[x.1]? = H[x.1]? := fun k x hx => o1 x.1 ((hP k x hx).lt)
  refine kk H1 z1 ((hP.kept hk).app (fun k x hx => ?_)) (hD.push hP rfl (hA _ hS.1)) ⟨Nat.le_trans hS.1 (by omega), fun x h1 h2 => (o1 x (Nat.lt_of_lt_of_le h1 hS.1)).trans (hS.2.1 x h1 h2), hS.2.2⟩
  have hz : k < 1 := (List.getElem?_eq_some_iff.mp hx).1
  rw [show k = 0 by omega] at hx
  cases hx
  exact e1
theorem nw_Z {h N' : Nat} {k : Int32} (hx : p.tables.exec = Jvm.exec) (hb : c.code = cc) (harr : (Cond.arrayClass .boolean).before args s = true) (hK : va_K D clA (tys3 cI cJ cZ) s) (hP : va_P D clA ws H) (hD : va_D A ws) (hS : va_S A H0 H locs) (hA : ∀ q, H0.size ≤ q → A q) (hz : H.size = h) (hn : ¬ k < 0) (hN : k.toNatClampNeg = N') (hbytes : N' * 1 ≤ 536870912) (hcells : cells + 1 ≤ R.cells) (hslots : slots + N' ≤ R.slots) (hdg : decode cc pc = .ok (.newarray .boolean, 2))
    (kk : ∀ H1 : Heap, H1.size = h + 1 → va_P D clA (ws ++ [(h, .inl (cZ, N', .inl (fun _ => bb false)))]) H1 → va_D A (ws ++ [(h, .inl (cZ, N', .inl (fun _ => bb false)))]) → va_S A H0 H1 locs → W p l e R s m args below meth c H1 locs (cells + 1) (slots + N') Q (F0 m (pc + 2) ls (.ref h :: rest))) : W p l e R s m args below meth c H locs cells slots Q (F0 m pc ls (.int k :: rest)) := by
  subst hz
  refine va_newaK (atype := .boolean) hx hb harr rfl hdg rfl hn hN hbytes hcells hslots rfl fun H1 cA e1 z1 o1 hAr hNm => ?_
  have hcA : cA = cZ := Option.some.inj (hNm.symm.trans (hK.2 2 _ rfl).2)
  subst hcA
  have hk : ∀ (k : Nat) (x : Nat × va_E), ws[k]? = some x → H1[x.1]? = H[x.1]? := fun k x hx => o1 x.1 ((hP k x hx).lt)
  refine kk H1 z1 ((hP.kept hk).app (fun k x hx => ?_)) (hD.push hP rfl (hA _ hS.1)) ⟨Nat.le_trans hS.1 (by omega), fun x h1 h2 => (o1 x (Nat.lt_of_lt_of_le h1 hS.1)).trans (hS.2.1 x h1 h2), hS.2.2⟩
  have hz : k < 1 := (List.getElem?_eq_some_iff.mp hx).1
  rw [show k = 0 by omega] at hx
  cases hx
  exact e1
theorem nw_O {h N ci index : Nat} {own C : String} {T : u_T} {Ts : List Cond} (ty : Nat → FieldType) {fs : List Value} (hx : p.tables.exec = Jvm.exec) (hb : c.code = cc) (hts : ∀ w ∈ Ts, w.before args s = true) (hin : ∀ w ∈ u_ws C T N, w ∈ Ts) (hty : ∀ k, k < N → parseFieldDescriptor (T k).2.2.1 = some (ty k)) (hown : s.vm.findClass own = some m.cls) (hcl : (Cond.classLink own index C).before args s = true) (hinst : (Cond.instantiable C N).before args s = true) (hini : (Cond.initialized C).before args s = true)
    (hK : va_K D clA (tys3 cI cJ cZ) s) (hP : va_P D clA ws H) (hD : va_D A ws) (hS : va_S A H0 H locs) (hA : ∀ q, H0.size ≤ q → A q) (hz : H.size = h) (hc : clA[ci]? = some (C, T, N)) (hfs : ∀ j, j < N → defaultValue (ty j) = vp_V fs j) (hcells : cells + 1 ≤ R.cells) (hslots : slots + N ≤ R.slots) (hdg : decode cc pc = .ok (.new index, 3))
    (kk : ∀ H1 : Heap, H1.size = h + 1 → va_P D clA (ws ++ [(h, .inr (ci, fs))]) H1 → va_D A (ws ++ [(h, .inr (ci, fs))]) → va_S A H0 H1 locs → W p l e R s m args below meth c H1 locs (cells + 1) (slots + N) Q (F0 m (pc + 3) ls (.ref h :: rest))) : W p l e R s m args below meth c H locs cells slots Q (F0 m pc ls rest) := by
  subst hz
  have hKn := hK.1 ci _ hc
  refine W.newcK hx hb hown hcl hinst hini rfl hdg hcells hslots hKn.2.1 rfl fun H1 kC hkC e1 z1 o1 => ?_
  have hk : ∀ (k : Nat) (x : Nat × va_E), ws[k]? = some x → H1[x.1]? = H[x.1]? := fun k x hx => o1 x.1 ((hP k x hx).lt)
  refine kk H1 z1 ((hP.kept hk).app (fun k x hx => ?_)) (hD.push hP rfl (hA _ hS.1)) ⟨Nat.le_trans hS.1 (by omega), fun x h1 h2 => (o1 x (Nat.lt_of_lt_of_le h1 hS.1)).trans (hS.2.1 x h1 h2), hS.2.2⟩
  have hz : k < 1 := (List.getElem?_eq_some_iff.mp hx).1
  rw [show k = 0 by omega] at hx
  cases hx
  exact ⟨_, hc, (u_born ty hts hin hKn hkC e1 hty).to hfs⟩
/-- a constructor's call -/
theorem cl_ct {st0 : List Value} {a : Array Value} {b h k ms : Nat} {w' : va_W} (hr : CallRun p l e R s m args below meth c H locs cells slots k ms (F0 m pc ls st0) rest (nQ D w' b h k a) (nA b h)) (hS : va_S A H0 H locs) (hz : H.size = h) (hb : A b) (hA : ∀ q, H0.size ≤ q → A q)
    (kk : ∀ (H1 : Heap) (locs1 : List Loc), H1.size = h + k → va_P D clA w' H1 → (∀ q, q < h → q ≠ b → H1[q]? = H[q]?) → va_S A H0 H1 locs1 → W p l e R s m args below meth c H1 locs1 (cells + k) (slots + ms) Q (F0 m (pc + 3) ls rest)) : W p l e R s m args below meth c H locs cells slots Q (F0 m pc ls st0) := by
  intro T hT X
  obtain ⟨v', st₀, t, T', L, h0, X', hL, e1, ⟨hv, hsz, hP, hz2, hk⟩, st⟩ := hr T hT X
  cases hv
  rw [h0] at hz2 hk
  have hAf : ∀ q, nA b h q → A q := fun q hq => by
    rcases hq with rfl | hq
    · exact hb
    · exact hA q (Nat.le_trans hS.1 (by omega))
  obtain ⟨t2, a1, b1⟩ := kk T'.heap (locs ++ L) (by rw [e1]; exact hsz) (by rw [e1]; exact hP) (fun q h1 h2 => by rw [e1]; exact hk q (by omega) (fun hq => by rcases hq with hq | hq <;> omega))
    ⟨Nat.le_trans hS.1 (by rw [e1]; exact hz2), fun q h1 h2 => by rw [e1, hk q (Nat.lt_of_lt_of_le h1 hS.1) (fun z => h2 (hAf q z))]; exact hS.2.1 q h1 h2, fun q hq => by
      rcases List.mem_append.mp hq with h | h
      · exact hS.2.2 q h
      · exact hAf _ (hL q h)⟩ T' rfl X'
  exact ⟨t2, st t2 a1, b1⟩
theorem nC_pre {b n : Nat} {w : va_W} {As : List Value} (hK : va_K D clA (tys3 cI cJ cZ) s) (hP : va_P D clA w H) (hz : H.size = n) : PreS s H (va_Pc (.ref b :: As) (nC D cI cJ cZ w n)) (.ref b :: As) :=
  ⟨fun a U g mk h => ⟨h.1, h.2.1, h.2.2.1, va_K.moved (u := U) (U := U.calling g mk a) (Vm.Alike.refl U.vm) h.2.2.2⟩, fun U hU hW => ⟨rfl, by rw [hU]; exact hz, by rw [hU]; exact hP, va_K.moved hW.alike hK⟩⟩
theorem vP_join {w1 w2 : va_W} {H1 : Heap} {h b : Nat} (hP : va_P D clA w1 H) (hz : H.size = h) (hk : ∀ q, q < h → q ≠ b → H1[q]? = H[q]?) (hne : ∀ x ∈ w1, x.1 ≠ b) (h2 : va_P D clA w2 H1) : va_P D clA (w1 ++ w2) H1 :=
  (hP.kept (fun k x hx => hk x.1 (by rw [← hz]; exact (hP k x hx).lt) (hne x (List.mem_of_getElem? hx)))).app h2
end
theorem sz_0 {x n S : Nat} (hsz : S = n) (hle : x ≤ S + 0) (h9 : S ≤ x) : x = n := by omega
theorem sz_eq {x n S j : Nat} (hsz : S = n) (hle : x ≤ S + (j + 1)) (h9 : n + j < x) : x = n + (j + 1) := by omega
theorem ad_a {a n k : Nat} (h : a < n) : a < n + k := by omega
theorem ad_k {n i k : Nat} (h : i < k) : n + i < n + k := by omega
theorem ad_0 {n k : Nat} (h : 0 < k) : n < n + k := by omega
theorem an_a {a n k : Nat} (h : a < n) : a ≠ n + k := by omega
theorem an_k {n i k : Nat} (h : i ≠ k) : n + i ≠ n + k := by omega
theorem an_0 {n k : Nat} (h : 0 ≠ k) : n ≠ n + k := by omega
theorem an_00 {n k : Nat} (h : k ≠ 0) : n + k ≠ n := by omega
/-! state of side x -/
abbrev SX : Type := ((Nat → Int32))
def x_arr (z : SX) : (Nat → Int32) := z
def x_arr_s (z : SX) (v : (Nat → Int32)) : SX := (v)
theorem x_arr_arr (z : SX) (v : (Nat → Int32)) : x_arr (x_arr_s z v) = v := rfl
def x_wd (q : Nat → Nat) (cI cJ cZ : ClassId) (z : SX) : va_W := [(q 0, .inl (cI, 2000, .inl (x_arr z)))]
def x_qs (q : Nat → Nat) : Nat → Prop := fun a => ∃ k, k < 1 ∧ a = q k
def x_inj (q : Nat → Nat) : Prop := ∀ i j, i < 1 → j < 1 → q i = q j → i = j
theorem x_wd_at (q : Nat → Nat) (cI cJ cZ : ClassId) (z : SX) (k : Nat) (r : Nat × va_E) (h : (x_wd q cI cJ cZ z)[k]? = some r) : k < 1 ∧ r.1 = q k := by
  have hk : k < 1 := (List.getElem?_eq_some_iff.mp h).1
  refine ⟨hk, ?_⟩
  match k, hk with
  | 0, _ => exact congrArg Prod.fst (Option.some.inj h).symm
  | k + 1, h => exact absurd h (by omega)
theorem x_D {q : Nat → Nat} {cI cJ cZ : ClassId} (hq : x_inj q) (z : SX) : va_D (x_qs q) (x_wd q cI cJ cZ z) := by
  refine ⟨fun i j a b hi hj hab => ?_, fun k r h => ?_⟩
  · obtain ⟨h1, h2⟩ := x_wd_at q cI cJ cZ z i a hi
    obtain ⟨h3, h4⟩ := x_wd_at q cI cJ cZ z j b hj
    exact hq i j h1 h3 (by rw [← h2, ← h4]; exact hab)
  · obtain ⟨h1, h2⟩ := x_wd_at q cI cJ cZ z k r h
    exact ⟨k, h1, h2⟩
abbrev x_W (D : va_G) (q : Nat → Nat) (cI cJ cZ : ClassId) (z : SX) (H : Heap) : Prop := va_P D clA (x_wd q cI cJ cZ z) H
def x_C (D : va_G) (q : Nat → Nat) (cI cJ cZ : ClassId) (z : SX) (U : State) : Prop := x_W D q cI cJ cZ z U.heap ∧ va_K D clA (tys3 cI cJ cZ) U
section
variable {s : State} {H : Heap} {D : va_G} {q : Nat → Nat} {cI cJ cZ : ClassId} {z : SX}
theorem x_blind {av : List Value} : FrameBlind (va_Pc av (x_C D q cI cJ cZ z)) := fun a U g mk h => ⟨h.1, h.2.1, va_K.moved (u := U) (U := U.calling g mk a) (Vm.Alike.refl U.vm) h.2.2⟩
theorem x_preS {av : List Value} (hK : va_K D clA (tys3 cI cJ cZ) s) (hP : x_W D q cI cJ cZ z H) : PreS s H (va_Pc av (x_C D q cI cJ cZ z)) av := ⟨x_blind, fun U hU hW => ⟨rfl, by rw [hU]; exact hP, va_K.moved hW.alike hK⟩⟩
end
section
variable {p : Program} {l : Launch} {e : Env} {R : Room} {s : State} {m : MethodId} {args : Array Value} {below : List Frame} {meth : Method} {c : Code} {H H0 : Heap} {locs : List Loc} {cells slots : Nat} {Q : State → Prop}
variable {cc : ByteArray} {pc : Nat} {ls : Array Slot} {rest : List Value} {D : va_G} {q : Nat → Nat} {cI cJ cZ : ClassId} {z : SX} {own : String} {index : Nat} {Ts : List Cond}
theorem xl_arr {i : Int32} (hx : p.tables.exec = Jvm.exec) (hb : c.code = cc) (hK : va_K D clA (tys3 cI cJ cZ) s) (hP : x_W D q cI cJ cZ z H) (hin : vp_in i 2000) (hdg : decode cc pc = .ok (.iaload, 1)) (kk : W p l e R s m args below meth c H locs cells slots Q (F0 m (pc + 1) ls (.int (x_arr z i.toNatClampNeg) :: rest))) : W p l e R s m args below meth c H locs cells slots Q (F0 m pc ls (.int i :: .ref (q 0) :: rest)) :=
  va_iald hx hb hK hP 0 0 rfl rfl hin hdg kk
theorem xl_arr_e {i : Int32} {f : Nat → Int32} (hf : x_arr z = f) (hx : p.tables.exec = Jvm.exec) (hb : c.code = cc) (hK : va_K D clA (tys3 cI cJ cZ) s) (hP : x_W D q cI cJ cZ z H) (hin : vp_in i 2000) (hdg : decode cc pc = .ok (.iaload, 1)) (kk : W p l e R s m args below meth c H locs cells slots Q (F0 m (pc + 1) ls (.int (f i.toNatClampNeg) :: rest))) : W p l e R s m args below meth c H locs cells slots Q (F0 m pc ls (.int i :: .ref (q 0) :: rest)) := by
  subst hf
  exact xl_arr hx hb hK hP hin hdg kk
theorem xs_arr {i : Int32} (v : Int32) (hq : x_inj q) (hS : va_S (x_qs q) H0 H locs) (hx : p.tables.exec = Jvm.exec) (hb : c.code = cc) (hK : va_K D clA (tys3 cI cJ cZ) s) (hP : x_W D q cI cJ cZ z H) (hin : vp_in i 2000) (hdg : decode cc pc = .ok (.iastore, 1)) (kk : ∀ (H1 : Heap) (locs1 : List Loc), x_W D q cI cJ cZ (x_arr_s z (upd (x_arr z) i.toNatClampNeg v)) H1 → va_S (x_qs q) H0 H1 locs1 → W p l e R s m args below meth c H1 locs1 cells slots Q (F0 m (pc + 1) ls rest)) : W p l e R s m args below meth c H locs cells slots Q (F0 m pc ls (.int v :: .int i :: .ref (q 0) :: rest)) :=
  va_iast hx hb hK hP (x_D hq z) hS 0 0 rfl rfl hin hdg (fun H1 locs1 a _ b => kk H1 locs1 a b)
theorem xs_arr_e {i : Int32} (v : Int32) {f : Nat → Int32} (hf : x_arr z = f) (hq : x_inj q) (hS : va_S (x_qs q) H0 H locs) (hx : p.tables.exec = Jvm.exec) (hb : c.code = cc) (hK : va_K D clA (tys3 cI cJ cZ) s) (hP : x_W D q cI cJ cZ z H) (hin : vp_in i 2000) (hdg : decode cc pc = .ok (.iastore, 1)) (kk : ∀ (H1 : Heap) (locs1 : List Loc), x_W D q cI cJ cZ (x_arr_s z (upd f i.toNatClampNeg v)) H1 → va_S (x_qs q) H0 H1 locs1 → W p l e R s m args below meth c H1 locs1 cells slots Q (F0 m (pc + 1) ls rest)) : W p l e R s m args below meth c H locs cells slots Q (F0 m pc ls (.int v :: .int i :: .ref (q 0) :: rest)) := by
  subst hf
  exact xs_arr v hq hS hx hb hK hP hin hdg kk
end
/-! state of side y -/
abbrev SY : Type := ((Nat → Int32))
def y_arr (z : SY) : (Nat → Int32) := z
def y_arr_s (z : SY) (v : (Nat → Int32)) : SY := (v)
theorem y_arr_arr (z : SY) (v : (Nat → Int32)) : y_arr (y_arr_s z v) = v := rfl
def y_wd (q : Nat → Nat) (cI cJ cZ : ClassId) (z : SY) : va_W := [(q 0, .inl (cI, 20, .inl (y_arr z)))]
def y_qs (q : Nat → Nat) : Nat → Prop := fun a => ∃ k, k < 1 ∧ a = q k
def y_inj (q : Nat → Nat) : Prop := ∀ i j, i < 1 → j < 1 → q i = q j → i = j
theorem y_wd_at (q : Nat → Nat) (cI cJ cZ : ClassId) (z : SY) (k : Nat) (r : Nat × va_E) (h : (y_wd q cI cJ cZ z)[k]? = some r) : k < 1 ∧ r.1 = q k := by
  have hk : k < 1 := (List.getElem?_eq_some_iff.mp h).1
  refine ⟨hk, ?_⟩
  match k, hk with
  | 0, _ => exact congrArg Prod.fst (Option.some.inj h).symm
  | k + 1, h => exact absurd h (by omega)
theorem y_D {q : Nat → Nat} {cI cJ cZ : ClassId} (hq : y_inj q) (z : SY) : va_D (y_qs q) (y_wd q cI cJ cZ z) := by
  refine ⟨fun i j a b hi hj hab => ?_, fun k r h => ?_⟩
  · obtain ⟨h1, h2⟩ := y_wd_at q cI cJ cZ z i a hi
    obtain ⟨h3, h4⟩ := y_wd_at q cI cJ cZ z j b hj
    exact hq i j h1 h3 (by rw [← h2, ← h4]; exact hab)
  · obtain ⟨h1, h2⟩ := y_wd_at q cI cJ cZ z k r h
    exact ⟨k, h1, h2⟩
abbrev y_W (D : va_G) (q : Nat → Nat) (cI cJ cZ : ClassId) (z : SY) (H : Heap) : Prop := va_P D clA (y_wd q cI cJ cZ z) H
def y_C (D : va_G) (q : Nat → Nat) (cI cJ cZ : ClassId) (z : SY) (U : State) : Prop := y_W D q cI cJ cZ z U.heap ∧ va_K D clA (tys3 cI cJ cZ) U
section
variable {s : State} {H : Heap} {D : va_G} {q : Nat → Nat} {cI cJ cZ : ClassId} {z : SY}
theorem y_blind {av : List Value} : FrameBlind (va_Pc av (y_C D q cI cJ cZ z)) := fun a U g mk h => ⟨h.1, h.2.1, va_K.moved (u := U) (U := U.calling g mk a) (Vm.Alike.refl U.vm) h.2.2⟩
theorem y_preS {av : List Value} (hK : va_K D clA (tys3 cI cJ cZ) s) (hP : y_W D q cI cJ cZ z H) : PreS s H (va_Pc av (y_C D q cI cJ cZ z)) av := ⟨y_blind, fun U hU hW => ⟨rfl, by rw [hU]; exact hP, va_K.moved hW.alike hK⟩⟩
end
section
variable {p : Program} {l : Launch} {e : Env} {R : Room} {s : State} {m : MethodId} {args : Array Value} {below : List Frame} {meth : Method} {c : Code} {H H0 : Heap} {locs : List Loc} {cells slots : Nat} {Q : State → Prop}
variable {cc : ByteArray} {pc : Nat} {ls : Array Slot} {rest : List Value} {D : va_G} {q : Nat → Nat} {cI cJ cZ : ClassId} {z : SY} {own : String} {index : Nat} {Ts : List Cond}
theorem yl_arr {i : Int32} (hx : p.tables.exec = Jvm.exec) (hb : c.code = cc) (hK : va_K D clA (tys3 cI cJ cZ) s) (hP : y_W D q cI cJ cZ z H) (hin : vp_in i 20) (hdg : decode cc pc = .ok (.iaload, 1)) (kk : W p l e R s m args below meth c H locs cells slots Q (F0 m (pc + 1) ls (.int (y_arr z i.toNatClampNeg) :: rest))) : W p l e R s m args below meth c H locs cells slots Q (F0 m pc ls (.int i :: .ref (q 0) :: rest)) :=
  va_iald hx hb hK hP 0 0 rfl rfl hin hdg kk
theorem yl_arr_e {i : Int32} {f : Nat → Int32} (hf : y_arr z = f) (hx : p.tables.exec = Jvm.exec) (hb : c.code = cc) (hK : va_K D clA (tys3 cI cJ cZ) s) (hP : y_W D q cI cJ cZ z H) (hin : vp_in i 20) (hdg : decode cc pc = .ok (.iaload, 1)) (kk : W p l e R s m args below meth c H locs cells slots Q (F0 m (pc + 1) ls (.int (f i.toNatClampNeg) :: rest))) : W p l e R s m args below meth c H locs cells slots Q (F0 m pc ls (.int i :: .ref (q 0) :: rest)) := by
  subst hf
  exact yl_arr hx hb hK hP hin hdg kk
theorem ys_arr {i : Int32} (v : Int32) (hq : y_inj q) (hS : va_S (y_qs q) H0 H locs) (hx : p.tables.exec = Jvm.exec) (hb : c.code = cc) (hK : va_K D clA (tys3 cI cJ cZ) s) (hP : y_W D q cI cJ cZ z H) (hin : vp_in i 20) (hdg : decode cc pc = .ok (.iastore, 1)) (kk : ∀ (H1 : Heap) (locs1 : List Loc), y_W D q cI cJ cZ (y_arr_s z (upd (y_arr z) i.toNatClampNeg v)) H1 → va_S (y_qs q) H0 H1 locs1 → W p l e R s m args below meth c H1 locs1 cells slots Q (F0 m (pc + 1) ls rest)) : W p l e R s m args below meth c H locs cells slots Q (F0 m pc ls (.int v :: .int i :: .ref (q 0) :: rest)) :=
  va_iast hx hb hK hP (y_D hq z) hS 0 0 rfl rfl hin hdg (fun H1 locs1 a _ b => kk H1 locs1 a b)
theorem ys_arr_e {i : Int32} (v : Int32) {f : Nat → Int32} (hf : y_arr z = f) (hq : y_inj q) (hS : va_S (y_qs q) H0 H locs) (hx : p.tables.exec = Jvm.exec) (hb : c.code = cc) (hK : va_K D clA (tys3 cI cJ cZ) s) (hP : y_W D q cI cJ cZ z H) (hin : vp_in i 20) (hdg : decode cc pc = .ok (.iastore, 1)) (kk : ∀ (H1 : Heap) (locs1 : List Loc), y_W D q cI cJ cZ (y_arr_s z (upd f i.toNatClampNeg v)) H1 → va_S (y_qs q) H0 H1 locs1 → W p l e R s m args below meth c H1 locs1 cells slots Q (F0 m (pc + 1) ls rest)) : W p l e R s m args below meth c H locs cells slots Q (F0 m pc ls (.int v :: .int i :: .ref (q 0) :: rest)) := by
  subst hf
  exact ys_arr v hq hS hx hb hK hP hin hdg kk
end
