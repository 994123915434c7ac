theorem dMo_add_0 : decode ccMo_add 0 = .ok (.iload 5, 2) := by decide +kernel
theorem dMo_add_2 : decode ccMo_add 2 = .ok (.aload_n 0, 1) := by decide +kernel
theorem dMo_add_3 : decode ccMo_add 3 = .ok (.getfield 111, 3) := by decide +kernel
theorem dMo_add_6 : decode ccMo_add 6 = .ok (.if_icmp .ne 72, 3) := by decide +kernel
theorem dMo_add_9 : decode ccMo_add 9 = .ok (.aload_n 0, 1) := by decide +kernel
theorem dMo_add_10 : decode ccMo_add 10 = .ok (.getfield 115, 3) := by decide +kernel
theorem dMo_add_13 : decode ccMo_add 13 = .ok (.lload_n 3, 1) := by decide +kernel
theorem dMo_add_14 : decode ccMo_add 14 = .ok (.ladd, 1) := by decide +kernel
theorem dMo_add_15 : decode ccMo_add 15 = .ok (.lstore 6, 2) := by decide +kernel
theorem dMo_add_17 : decode ccMo_add 17 = .ok (.aload_n 0, 1) := by decide +kernel
theorem dMo_add_18 : decode ccMo_add 18 = .ok (.lload 6, 2) := by decide +kernel
theorem dMo_add_20 : decode ccMo_add 20 = .ok (.ldc2_w 65, 3) := by decide +kernel
theorem dMo_add_23 : decode ccMo_add 23 = .ok (.lrem, 1) := by decide +kernel
theorem dMo_add_24 : decode ccMo_add 24 = .ok (.putfield 115, 3) := by decide +kernel
theorem dMo_add_27 : decode ccMo_add 27 = .ok (.aload_n 0, 1) := by decide +kernel
theorem dMo_add_28 : decode ccMo_add 28 = .ok (.getfield 118, 3) := by decide +kernel
theorem dMo_add_31 : decode ccMo_add 31 = .ok (.lload_n 1, 1) := by decide +kernel
theorem dMo_add_32 : decode ccMo_add 32 = .ok (.ladd, 1) := by decide +kernel
theorem dMo_add_33 : decode ccMo_add 33 = .ok (.lload 6, 2) := by decide +kernel
theorem dMo_add_35 : decode ccMo_add 35 = .ok (.ldc2_w 65, 3) := by decide +kernel
theorem dMo_add_38 : decode ccMo_add 38 = .ok (.ldiv, 1) := by decide +kernel
theorem dMo_add_39 : decode ccMo_add 39 = .ok (.ladd, 1) := by decide +kernel
theorem dMo_add_40 : decode ccMo_add 40 = .ok (.lstore 6, 2) := by decide +kernel
theorem dMo_add_42 : decode ccMo_add 42 = .ok (.aload_n 0, 1) := by decide +kernel
theorem dMo_add_43 : decode ccMo_add 43 = .ok (.lload 6, 2) := by decide +kernel
theorem dMo_add_45 : decode ccMo_add 45 = .ok (.ldc2_w 65, 3) := by decide +kernel
theorem dMo_add_48 : decode ccMo_add 48 = .ok (.lrem, 1) := by decide +kernel
theorem dMo_add_49 : decode ccMo_add 49 = .ok (.putfield 118, 3) := by decide +kernel
theorem dMo_add_52 : decode ccMo_add 52 = .ok (.aload_n 0, 1) := by decide +kernel
theorem dMo_add_53 : decode ccMo_add 53 = .ok (.aload_n 0, 1) := by decide +kernel
theorem dMo_add_54 : decode ccMo_add 54 = .ok (.getfield 121, 3) := by decide +kernel
theorem dMo_add_57 : decode ccMo_add 57 = .ok (.ifCond .ne 12, 3) := by decide +kernel
theorem dMo_add_60 : decode ccMo_add 60 = .ok (.lload 6, 2) := by decide +kernel
theorem dMo_add_62 : decode ccMo_add 62 = .ok (.ldc2_w 65, 3) := by decide +kernel
theorem dMo_add_65 : decode ccMo_add 65 = .ok (.lcmp, 1) := by decide +kernel
theorem dMo_add_66 : decode ccMo_add 66 = .ok (.ifCond .lt 7, 3) := by decide +kernel
theorem dMo_add_69 : decode ccMo_add 69 = .ok (.iconst 1, 1) := by decide +kernel
theorem dMo_add_70 : decode ccMo_add 70 = .ok (.goto 4, 3) := by decide +kernel
theorem dMo_add_73 : decode ccMo_add 73 = .ok (.iconst 0, 1) := by decide +kernel
theorem dMo_add_74 : decode ccMo_add 74 = .ok (.putfield 121, 3) := by decide +kernel
theorem dMo_add_77 : decode ccMo_add 77 = .ok (.return_, 1) := by decide +kernel
theorem dMo_add_78 : decode ccMo_add 78 = .ok (.aload_n 0, 1) := by decide +kernel
theorem dMo_add_79 : decode ccMo_add 79 = .ok (.getfield 118, 3) := by decide +kernel
theorem dMo_add_82 : decode ccMo_add 82 = .ok (.lload_n 1, 1) := by decide +kernel
theorem dMo_add_83 : decode ccMo_add 83 = .ok (.lcmp, 1) := by decide +kernel
theorem dMo_add_84 : decode ccMo_add 84 = .ok (.ifCond .gt 21, 3) := by decide +kernel
theorem dMo_add_87 : decode ccMo_add 87 = .ok (.aload_n 0, 1) := by decide +kernel
theorem dMo_add_88 : decode ccMo_add 88 = .ok (.getfield 118, 3) := by decide +kernel
theorem dMo_add_91 : decode ccMo_add 91 = .ok (.lload_n 1, 1) := by decide +kernel
theorem dMo_add_92 : decode ccMo_add 92 = .ok (.lcmp, 1) := by decide +kernel
theorem dMo_add_93 : decode ccMo_add 93 = .ok (.ifCond .ne 16, 3) := by decide +kernel
theorem dMo_add_96 : decode ccMo_add 96 = .ok (.aload_n 0, 1) := by decide +kernel
theorem dMo_add_97 : decode ccMo_add 97 = .ok (.getfield 115, 3) := by decide +kernel
theorem dMo_add_100 : decode ccMo_add 100 = .ok (.lload_n 3, 1) := by decide +kernel
theorem dMo_add_101 : decode ccMo_add 101 = .ok (.lcmp, 1) := by decide +kernel
theorem dMo_add_102 : decode ccMo_add 102 = .ok (.ifCond .lt 7, 3) := by decide +kernel
theorem dMo_add_105 : decode ccMo_add 105 = .ok (.iconst 1, 1) := by decide +kernel
theorem dMo_add_106 : decode ccMo_add 106 = .ok (.goto 4, 3) := by decide +kernel
theorem dMo_add_109 : decode ccMo_add 109 = .ok (.iconst 0, 1) := by decide +kernel
theorem dMo_add_110 : decode ccMo_add 110 = .ok (.istore 6, 2) := by decide +kernel
theorem dMo_add_112 : decode ccMo_add 112 = .ok (.iload 6, 2) := by decide +kernel
theorem dMo_add_114 : decode ccMo_add 114 = .ok (.ifCond .eq 10, 3) := by decide +kernel
theorem dMo_add_117 : decode ccMo_add 117 = .ok (.aload_n 0, 1) := by decide +kernel
theorem dMo_add_118 : decode ccMo_add 118 = .ok (.getfield 118, 3) := by decide +kernel
theorem dMo_add_121 : decode ccMo_add 121 = .ok (.goto 4, 3) := by decide +kernel
theorem dMo_add_124 : decode ccMo_add 124 = .ok (.lload_n 1, 1) := by decide +kernel
theorem dMo_add_125 : decode ccMo_add 125 = .ok (.lstore 7, 2) := by decide +kernel
theorem dMo_add_127 : decode ccMo_add 127 = .ok (.iload 6, 2) := by decide +kernel
theorem dMo_add_129 : decode ccMo_add 129 = .ok (.ifCond .eq 10, 3) := by decide +kernel
theorem dMo_add_132 : decode ccMo_add 132 = .ok (.aload_n 0, 1) := by decide +kernel
theorem dMo_add_133 : decode ccMo_add 133 = .ok (.getfield 115, 3) := by decide +kernel
theorem dMo_add_136 : decode ccMo_add 136 = .ok (.goto 4, 3) := by decide +kernel
theorem dMo_add_139 : decode ccMo_add 139 = .ok (.lload_n 3, 1) := by decide +kernel
theorem dMo_add_140 : decode ccMo_add 140 = .ok (.lstore 9, 2) := by decide +kernel
theorem dMo_add_142 : decode ccMo_add 142 = .ok (.iload 6, 2) := by decide +kernel
theorem dMo_add_144 : decode ccMo_add 144 = .ok (.ifCond .eq 7, 3) := by decide +kernel
theorem dMo_add_147 : decode ccMo_add 147 = .ok (.lload_n 1, 1) := by decide +kernel
theorem dMo_add_148 : decode ccMo_add 148 = .ok (.goto 7, 3) := by decide +kernel
theorem dMo_add_151 : decode ccMo_add 151 = .ok (.aload_n 0, 1) := by decide +kernel
theorem dMo_add_152 : decode ccMo_add 152 = .ok (.getfield 118, 3) := by decide +kernel
theorem dMo_add_155 : decode ccMo_add 155 = .ok (.lstore 11, 2) := by decide +kernel
theorem dMo_add_157 : decode ccMo_add 157 = .ok (.iload 6, 2) := by decide +kernel
theorem dMo_add_159 : decode ccMo_add 159 = .ok (.ifCond .eq 7, 3) := by decide +kernel
theorem dMo_add_162 : decode ccMo_add 162 = .ok (.lload_n 3, 1) := by decide +kernel
theorem dMo_add_163 : decode ccMo_add 163 = .ok (.goto 7, 3) := by decide +kernel
theorem dMo_add_166 : decode ccMo_add 166 = .ok (.aload_n 0, 1) := by decide +kernel
theorem dMo_add_167 : decode ccMo_add 167 = .ok (.getfield 115, 3) := by decide +kernel
theorem dMo_add_170 : decode ccMo_add 170 = .ok (.lstore 13, 2) := by decide +kernel
theorem dMo_add_172 : decode ccMo_add 172 = .ok (.aload_n 0, 1) := by decide +kernel
theorem dMo_add_173 : decode ccMo_add 173 = .ok (.iload 6, 2) := by decide +kernel
theorem dMo_add_175 : decode ccMo_add 175 = .ok (.ifCond .eq 10, 3) := by decide +kernel
theorem dMo_add_178 : decode ccMo_add 178 = .ok (.aload_n 0, 1) := by decide +kernel
theorem dMo_add_179 : decode ccMo_add 179 = .ok (.getfield 111, 3) := by decide +kernel
theorem dMo_add_182 : decode ccMo_add 182 = .ok (.goto 5, 3) := by decide +kernel
theorem dMo_add_185 : decode ccMo_add 185 = .ok (.iload 5, 2) := by decide +kernel
theorem dMo_add_187 : decode ccMo_add 187 = .ok (.putfield 111, 3) := by decide +kernel
theorem dMo_add_190 : decode ccMo_add 190 = .ok (.aload_n 0, 1) := by decide +kernel
theorem dMo_add_191 : decode ccMo_add 191 = .ok (.lload 9, 2) := by decide +kernel
theorem dMo_add_193 : decode ccMo_add 193 = .ok (.lload 13, 2) := by decide +kernel
theorem dMo_add_195 : decode ccMo_add 195 = .ok (.lsub, 1) := by decide +kernel
theorem dMo_add_196 : decode ccMo_add 196 = .ok (.putfield 115, 3) := by decide +kernel
theorem dMo_add_199 : decode ccMo_add 199 = .ok (.aload_n 0, 1) := by decide +kernel
theorem dMo_add_200 : decode ccMo_add 200 = .ok (.lload 7, 2) := by decide +kernel
theorem dMo_add_202 : decode ccMo_add 202 = .ok (.lload 11, 2) := by decide +kernel
theorem dMo_add_204 : decode ccMo_add 204 = .ok (.lsub, 1) := by decide +kernel
theorem dMo_add_205 : decode ccMo_add 205 = .ok (.putfield 118, 3) := by decide +kernel
theorem dMo_add_208 : decode ccMo_add 208 = .ok (.aload_n 0, 1) := by decide +kernel
theorem dMo_add_209 : decode ccMo_add 209 = .ok (.getfield 115, 3) := by decide +kernel
theorem dMo_add_212 : decode ccMo_add 212 = .ok (.lconst 0, 1) := by decide +kernel
theorem dMo_add_213 : decode ccMo_add 213 = .ok (.lcmp, 1) := by decide +kernel
theorem dMo_add_214 : decode ccMo_add 214 = .ok (.ifCond .ge 25, 3) := by decide +kernel
theorem dMo_add_217 : decode ccMo_add 217 = .ok (.aload_n 0, 1) := by decide +kernel
theorem dMo_add_218 : decode ccMo_add 218 = .ok (.dup, 1) := by decide +kernel
theorem dMo_add_219 : decode ccMo_add 219 = .ok (.getfield 115, 3) := by decide +kernel
theorem dMo_add_222 : decode ccMo_add 222 = .ok (.ldc2_w 65, 3) := by decide +kernel
theorem dMo_add_225 : decode ccMo_add 225 = .ok (.ladd, 1) := by decide +kernel
theorem dMo_add_226 : decode ccMo_add 226 = .ok (.putfield 115, 3) := by decide +kernel
theorem dMo_add_229 : decode ccMo_add 229 = .ok (.aload_n 0, 1) := by decide +kernel
theorem dMo_add_230 : decode ccMo_add 230 = .ok (.dup, 1) := by decide +kernel
theorem dMo_add_231 : decode ccMo_add 231 = .ok (.getfield 118, 3) := by decide +kernel
theorem dMo_add_234 : decode ccMo_add 234 = .ok (.lconst 1, 1) := by decide +kernel
theorem dMo_add_235 : decode ccMo_add 235 = .ok (.lsub, 1) := by decide +kernel
theorem dMo_add_236 : decode ccMo_add 236 = .ok (.putfield 118, 3) := by decide +kernel
theorem dMo_add_239 : decode ccMo_add 239 = .ok (.return_, 1) := by decide +kernel
def fMo_add_208  (z : SM) : SM :=
  (if 0 ≤ (m_lower z) then z else m_upper_s (m_lower_s z ((m_lower z) + 10000000000)) ((m_upper z) - 1))
def fMo_add_187  (z : SM) (s1 : Bool) (v7 : Int64) (v9 : Int64) (v11 : Int64) (v13 : Int64) : SM :=
  fMo_add_208 (m_upper_s (m_lower_s (m_amin_s z s1) (v9 - v13)) (v7 - v11))
def fMo_add_170  (z : SM) (s0 : Int64) (b : Bool) (v6 : Bool) (v7 : Int64) (v9 : Int64) (v11 : Int64) : SM :=
  (if v6 = true then fMo_add_187 z (m_amin z) v7 v9 v11 s0 else fMo_add_187 z b v7 v9 v11 s0)
def fMo_add_155  (z : SM) (s0 : Int64) (w : Int64) (b : Bool) (v6 : Bool) (v7 : Int64) (v9 : Int64) : SM :=
  (if v6 = true then fMo_add_170 z w b v6 v7 v9 s0 else fMo_add_170 z (m_lower z) b v6 v7 v9 s0)
def fMo_add_140  (z : SM) (s0 : Int64) (u : Int64) (w : Int64) (b : Bool) (v6 : Bool) (v7 : Int64) : SM :=
  (if v6 = true then fMo_add_155 z u w b v6 v7 s0 else fMo_add_155 z (m_upper z) w b v6 v7 s0)
def fMo_add_125  (z : SM) (s0 : Int64) (u : Int64) (w : Int64) (b : Bool) (v6 : Bool) : SM :=
  (if v6 = true then fMo_add_140 z (m_lower z) u w b v6 s0 else fMo_add_140 z w u w b v6 s0)
def fMo_add_112  (z : SM) (u : Int64) (w : Int64) (b : Bool) (v6 : Bool) : SM :=
  (if v6 = true then fMo_add_125 z (m_upper z) u w b v6 else fMo_add_125 z u u w b v6)
def fMo_add_110  (z : SM) (s0 : Bool) (u : Int64) (w : Int64) (b : Bool) : SM :=
  fMo_add_112 z u w b s0
def fMo_add_109  (z : SM) (u : Int64) (w : Int64) (b : Bool) : SM :=
  fMo_add_110 z false u w b
def fMo_add_105  (z : SM) (u : Int64) (w : Int64) (b : Bool) : SM :=
  fMo_add_110 z true u w b
def fMo_add_42  (z : SM) (v6 : Int64) : SM :=
  (if (m_ovf z) = true then m_ovf_s (m_upper_s z (v6 % 10000000000)) true else (if v6 < 10000000000 then m_ovf_s (m_upper_s z (v6 % 10000000000)) false else m_ovf_s (m_upper_s z (v6 % 10000000000)) true))
def fMo_add (z0 : SM) (u : Int64) (w : Int64) (b : Bool) : SM :=
  (if b = (m_amin z0) then fMo_add_42 (m_lower_s z0 (((m_lower z0) + w) % 10000000000)) (((m_upper z0) + u) + (((m_lower z0) + w) / 10000000000)) else (if u < (m_upper z0) then fMo_add_105 z0 u w b else (if (m_upper z0) = u then (if (m_lower z0) < w then fMo_add_109 z0 u w b else fMo_add_105 z0 u w b) else fMo_add_109 z0 u w b)))
set_option maxHeartbeats 4000000 in
set_option maxRecDepth 100000 in
theorem kMo_add (l : Launch) (D : va_G) (q : Nat → Nat) (cI cJ cZ : ClassId) (hq : m_inj q) (z0 : SM) (u : Int64) (w : Int64) (b : Bool)  : Met l yMo_add wsMo_add { frames := 0, cells := 0, slots := 0, locals := 0 } (va_Pc [.ref (q 0), .long (u), .long (w), .int (bb (b))] (m_C D q cI cJ cZ z0)) (cQw none (m_W D q cI cJ cZ (fMo_add z0 u w b)) (m_qs q)) 0 0 (m_qs q) := by
  refine Met.ofW (cc := ccMo_add) (maxL := 15) (ret := none) (by decide +kernel) rfl ?_
  intro p e s m args below meth c s₁ B hml hv
  obtain ⟨rfl, hP, hK⟩ := hv
  have hx := B.exec
  have hb := B.bytes
  have hr := B.returns
  have hts := atoms_spec (ws := wsMo_add) B.pre
  have hown : s.vm.findClass RMo = some m.cls := findClass_of_methodNamed B.named
  have hlocks := B.notSynchronized
  have w0 := hts (.fieldLink RMo 115 "DrumMachineModel" "lower" "J") (List.mem_cons_of_mem _ wm4_192)
  have w1 := hts (.constantLong RMo 65 (10000000000)) (List.mem_cons_of_mem _ wm5_47)
  have w2 := hts (.fieldLink RMo 118 "DrumMachineModel" "upper" "J") (List.mem_cons_of_mem _ wm4_191)
  have w3 := hts (.fieldLink RMo 111 "DrumMachineModel" "negative" "Z") (List.mem_cons_of_mem _ wm4_194)
  have w4 := hts (.fieldLink RMo 121 "DrumMachineModel" "overflow" "Z") (List.mem_cons_of_mem _ wm4_196)
  have i0 : ∀ w ∈ u_ws RMo TMo 28, w ∈ wsMo_add := fun w h => List.mem_cons_of_mem _ (inAMo w h)
  have hS : va_S (m_qs q) s.heap s.heap [] := va_S.rf
  have hl := lv_entry ([.ref (q 0), .long (u), .long (w), .int (bb (b))]) (n := 15) (Nat.le_of_ble_eq_true rfl)
  rw [lg_entry_eq]
  generalize (lg_sl ([.ref (q 0), .long (u), .long (w), .int (bb (b))]) ++ List.replicate (15 - (lg_sl ([.ref (q 0), .long (u), .long (w), .int (bb (b))])).length) Slot.unset).toArray = ls at hl ⊢
  have hl : lv_has ls 15 [(0, .ref (q 0)), (1, .long (u)), (3, .long (w)), (5, .int (bb (b)))] := hl
  have hB208 : ∀ (H : Heap) (locs : List Loc) (ls : Array Slot) (z : SM), fMo_add z0 u w b = fMo_add_208 z → m_W D q cI cJ cZ z H → va_S (m_qs q) s.heap H locs → lv_has ls 15 [(0, .ref (q 0))] → W p l e (headSpec wsMo_add { frames := 0, cells := 0, slots := 0, locals := 0 }).room s m ([.ref (q 0), .long (u), .long (w), .int (bb (b))] : List Value).toArray below meth c H locs 0 0 (MQ below (cQw none (m_W D q cI cJ cZ (fMo_add z0 u w b)) (m_qs q)) ([.ref (q 0), .long (u), .long (w), .int (bb (b))] : List Value).toArray s 0 0 (m_qs q)) (F0 m 208 ls []) := by
    intro H locs ls z hR hP hS hl
    rw [fMo_add_208.eq_1] at hR
    refine lv_aload_n hx hb dMo_add_208 rfl (lv_at hl 0 rfl) ?_
    refine mg0_lower hx hb hts i0 hown hK hP w0 dMo_add_209 ?_
    refine lv_lconst (v := 0) hx hb dMo_add_212 (by decide) ?_
    refine lc_ge hx hb dMo_add_213 dMo_add_214 rfl (fun h213 => ?_) (fun h213 => ?_)
    · have hR := hR.trans (if_pos h213)
      exact W.vret hx hb hr (fun t ht _ => ⟨rfl, by rw [hR, ht]; exact hP, hS.F ht⟩) hS.2.2 dMo_add_239
    · have hR := hR.trans (if_neg h213)
      refine lv_aload_n hx hb dMo_add_217 rfl (lv_at hl 0 rfl) ?_
      refine lv_dup hx hb dMo_add_218 rfl ?_
      refine mg0_lower hx hb hts i0 hown hK hP w0 dMo_add_219 ?_
      refine lv_ldc2 (v := 10000000000) hx hb hown w1 dMo_add_222 ?_
      refine lv_ladd hx hb dMo_add_225 ?_
      refine mp0_lower ((m_lower z) + 10000000000) hq hS hx hb hts i0 hown hK hP w0 dMo_add_226 (fun H locs hP hS => ?_)
      refine lv_aload_n hx hb dMo_add_229 rfl (lv_at hl 0 rfl) ?_
      refine lv_dup hx hb dMo_add_230 rfl ?_
      refine mg0_upper_e (v := m_upper z) ((m_upper_lower _ _).trans (rfl)) hx hb hts i0 hown hK hP w2 dMo_add_231 ?_
      refine lv_lconst (v := 1) hx hb dMo_add_234 (by decide) ?_
      refine lv_lsub hx hb dMo_add_235 ?_
      refine mp0_upper ((m_upper z) - 1) hq hS hx hb hts i0 hown hK hP w2 dMo_add_236 (fun H locs hP hS => ?_)
      exact W.vret hx hb hr (fun t ht _ => ⟨rfl, by rw [hR, ht]; exact hP, hS.F ht⟩) hS.2.2 dMo_add_239
  have hB187 : ∀ (H : Heap) (locs : List Loc) (ls : Array Slot) (z : SM) (s1 : Bool) (v7 : Int64) (v9 : Int64) (v11 : Int64) (v13 : Int64), fMo_add z0 u w b = fMo_add_187 z s1 v7 v9 v11 v13 → m_W D q cI cJ cZ z H → va_S (m_qs q) s.heap H locs → lv_has ls 15 [(0, .ref (q 0)), (7, .long (v7)), (9, .long (v9)), (11, .long (v11)), (13, .long (v13))] → W p l e (headSpec wsMo_add { frames := 0, cells := 0, slots := 0, locals := 0 }).room s m ([.ref (q 0), .long (u), .long (w), .int (bb (b))] : List Value).toArray below meth c H locs 0 0 (MQ below (cQw none (m_W D q cI cJ cZ (fMo_add z0 u w b)) (m_qs q)) ([.ref (q 0), .long (u), .long (w), .int (bb (b))] : List Value).toArray s 0 0 (m_qs q)) (F0 m 187 ls [.int (bb (s1)), .ref (q 0)]) := by
    intro H locs ls z s1 v7 v9 v11 v13 hR hP hS hl
    rw [fMo_add_187.eq_1] at hR
    refine mp0_negative s1 hq hS hx hb hts i0 hown hK hP w3 dMo_add_187 (fun H locs hP hS => ?_)
    refine lv_aload_n hx hb dMo_add_190 rfl (lv_at hl 0 rfl) ?_
    refine lv_lload hx hb dMo_add_191 (lv_at hl 2 rfl) ?_
    refine lv_lload hx hb dMo_add_193 (lv_at hl 4 rfl) ?_
    refine lv_lsub hx hb dMo_add_195 ?_
    refine mp0_lower (v9 - v13) hq hS hx hb hts i0 hown hK hP w0 dMo_add_196 (fun H locs hP hS => ?_)
    refine lv_aload_n hx hb dMo_add_199 rfl (lv_at hl 0 rfl) ?_
    refine lv_lload hx hb dMo_add_200 (lv_at hl 1 rfl) ?_
    refine lv_lload hx hb dMo_add_202 (lv_at hl 3 rfl) ?_
    refine lv_lsub hx hb dMo_add_204 ?_
    refine mp0_upper (v7 - v11) hq hS hx hb hts i0 hown hK hP w2 dMo_add_205 (fun H locs hP hS => ?_)
    exact hB208 H locs ls (m_upper_s (m_lower_s (m_amin_s z s1) (v9 - v13)) (v7 - v11)) hR hP hS (lv_sub hl [0] rfl)
  have hB170 : ∀ (H : Heap) (locs : List Loc) (ls : Array Slot) (z : SM) (s0 : Int64) (v6 : Bool) (v7 : Int64) (v9 : Int64) (v11 : Int64), fMo_add z0 u w b = fMo_add_170 z s0 b v6 v7 v9 v11 → m_W D q cI cJ cZ z H → va_S (m_qs q) s.heap H locs → lv_has ls 15 [(0, .ref (q 0)), (5, .int (bb (b))), (6, .int (bb (v6))), (7, .long (v7)), (9, .long (v9)), (11, .long (v11))] → W p l e (headSpec wsMo_add { frames := 0, cells := 0, slots := 0, locals := 0 }).room s m ([.ref (q 0), .long (u), .long (w), .int (bb (b))] : List Value).toArray below meth c H locs 0 0 (MQ below (cQw none (m_W D q cI cJ cZ (fMo_add z0 u w b)) (m_qs q)) ([.ref (q 0), .long (u), .long (w), .int (bb (b))] : List Value).toArray s 0 0 (m_qs q)) (F0 m 170 ls [.long (s0)]) := by
    intro H locs ls z s0 v6 v7 v9 v11 hR hP hS hl
    rw [fMo_add_170.eq_1] at hR
    refine lv_lstore (lv' := [(13, .long (s0)), (0, .ref (q 0)), (5, .int (bb (b))), (6, .int (bb (v6))), (7, .long (v7)), (9, .long (v9)), (11, .long (v11))]) hx hb dMo_add_170 hl (by decide) rfl (fun ls hl => ?_)
    refine lv_aload_n hx hb dMo_add_172 rfl (lv_at hl 1 rfl) ?_
    refine lv_iload hx hb dMo_add_173 (lv_at hl 3 rfl) ?_
    refine wz_ifeq hx hb dMo_add_175 rfl (fun h175 => ?_) (fun h175 => ?_)
    · have hR := hR.trans (if_neg h175)
      refine lv_iload hx hb dMo_add_185 (lv_at hl 2 rfl) ?_
      exact hB187 H locs ls z b v7 v9 v11 s0 hR hP hS (lv_sub hl [1, 4, 5, 6, 0] rfl)
    · have hR := hR.trans (if_pos h175)
      refine lv_aload_n hx hb dMo_add_178 rfl (lv_at hl 1 rfl) ?_
      refine mg0_negative hx hb hts i0 hown hK hP w3 dMo_add_179 ?_
      refine lv_goto hx hb dMo_add_182 rfl ?_
      exact hB187 H locs ls z (m_amin z) v7 v9 v11 s0 hR hP hS (lv_sub hl [1, 4, 5, 6, 0] rfl)
  have hB155 : ∀ (H : Heap) (locs : List Loc) (ls : Array Slot) (z : SM) (s0 : Int64) (v6 : Bool) (v7 : Int64) (v9 : Int64), fMo_add z0 u w b = fMo_add_155 z s0 w b v6 v7 v9 → m_W D q cI cJ cZ z H → va_S (m_qs q) s.heap H locs → lv_has ls 15 [(0, .ref (q 0)), (3, .long (w)), (5, .int (bb (b))), (6, .int (bb (v6))), (7, .long (v7)), (9, .long (v9))] → W p l e (headSpec wsMo_add { frames := 0, cells := 0, slots := 0, locals := 0 }).room s m ([.ref (q 0), .long (u), .long (w), .int (bb (b))] : List Value).toArray below meth c H locs 0 0 (MQ below (cQw none (m_W D q cI cJ cZ (fMo_add z0 u w b)) (m_qs q)) ([.ref (q 0), .long (u), .long (w), .int (bb (b))] : List Value).toArray s 0 0 (m_qs q)) (F0 m 155 ls [.long (s0)]) := by
    intro H locs ls z s0 v6 v7 v9 hR hP hS hl
    rw [fMo_add_155.eq_1] at hR
    refine lv_lstore (lv' := [(11, .long (s0)), (0, .ref (q 0)), (3, .long (w)), (5, .int (bb (b))), (6, .int (bb (v6))), (7, .long (v7)), (9, .long (v9))]) hx hb dMo_add_155 hl (by decide) rfl (fun ls hl => ?_)
    refine lv_iload hx hb dMo_add_157 (lv_at hl 4 rfl) ?_
    refine wz_ifeq hx hb dMo_add_159 rfl (fun h159 => ?_) (fun h159 => ?_)
    · have hR := hR.trans (if_neg h159)
      refine lv_aload_n hx hb dMo_add_166 rfl (lv_at hl 1 rfl) ?_
      refine mg0_lower hx hb hts i0 hown hK hP w0 dMo_add_167 ?_
      exact hB170 H locs ls z (m_lower z) v6 v7 v9 s0 hR hP hS (lv_sub hl [1, 3, 4, 5, 6, 0] rfl)
    · have hR := hR.trans (if_pos h159)
      refine lv_lload_n hx hb dMo_add_162 rfl (lv_at hl 2 rfl) ?_
      refine lv_goto hx hb dMo_add_163 rfl ?_
      exact hB170 H locs ls z w v6 v7 v9 s0 hR hP hS (lv_sub hl [1, 3, 4, 5, 6, 0] rfl)
  have hB140 : ∀ (H : Heap) (locs : List Loc) (ls : Array Slot) (z : SM) (s0 : Int64) (v6 : Bool) (v7 : Int64), fMo_add z0 u w b = fMo_add_140 z s0 u w b v6 v7 → m_W D q cI cJ cZ z H → va_S (m_qs q) s.heap H locs → lv_has ls 15 [(0, .ref (q 0)), (1, .long (u)), (3, .long (w)), (5, .int (bb (b))), (6, .int (bb (v6))), (7, .long (v7))] → W p l e (headSpec wsMo_add { frames := 0, cells := 0, slots := 0, locals := 0 }).room s m ([.ref (q 0), .long (u), .long (w), .int (bb (b))] : List Value).toArray below meth c H locs 0 0 (MQ below (cQw none (m_W D q cI cJ cZ (fMo_add z0 u w b)) (m_qs q)) ([.ref (q 0), .long (u), .long (w), .int (bb (b))] : List Value).toArray s 0 0 (m_qs q)) (F0 m 140 ls [.long (s0)]) := by
    intro H locs ls z s0 v6 v7 hR hP hS hl
    rw [fMo_add_140.eq_1] at hR
    refine lv_lstore (lv' := [(9, .long (s0)), (0, .ref (q 0)), (1, .long (u)), (3, .long (w)), (5, .int (bb (b))), (6, .int (bb (v6))), (7, .long (v7))]) hx hb dMo_add_140 hl (by decide) rfl (fun ls hl => ?_)
    refine lv_iload hx hb dMo_add_142 (lv_at hl 5 rfl) ?_
    refine wz_ifeq hx hb dMo_add_144 rfl (fun h144 => ?_) (fun h144 => ?_)
    · have hR := hR.trans (if_neg h144)
      refine lv_aload_n hx hb dMo_add_151 rfl (lv_at hl 1 rfl) ?_
      refine mg0_upper hx hb hts i0 hown hK hP w2 dMo_add_152 ?_
      exact hB155 H locs ls z (m_upper z) v6 v7 s0 hR hP hS (lv_sub hl [1, 3, 4, 5, 6, 0] rfl)
    · have hR := hR.trans (if_pos h144)
      refine lv_lload_n hx hb dMo_add_147 rfl (lv_at hl 2 rfl) ?_
      refine lv_goto hx hb dMo_add_148 rfl ?_
      exact hB155 H locs ls z u v6 v7 s0 hR hP hS (lv_sub hl [1, 3, 4, 5, 6, 0] rfl)
  have hB125 : ∀ (H : Heap) (locs : List Loc) (ls : Array Slot) (z : SM) (s0 : Int64) (v6 : Bool), fMo_add z0 u w b = fMo_add_125 z s0 u w b v6 → m_W D q cI cJ cZ z H → va_S (m_qs q) s.heap H locs → lv_has ls 15 [(0, .ref (q 0)), (1, .long (u)), (3, .long (w)), (5, .int (bb (b))), (6, .int (bb (v6)))] → W p l e (headSpec wsMo_add { frames := 0, cells := 0, slots := 0, locals := 0 }).room s m ([.ref (q 0), .long (u), .long (w), .int (bb (b))] : List Value).toArray below meth c H locs 0 0 (MQ below (cQw none (m_W D q cI cJ cZ (fMo_add z0 u w b)) (m_qs q)) ([.ref (q 0), .long (u), .long (w), .int (bb (b))] : List Value).toArray s 0 0 (m_qs q)) (F0 m 125 ls [.long (s0)]) := by
    intro H locs ls z s0 v6 hR hP hS hl
    rw [fMo_add_125.eq_1] at hR
    refine lv_lstore (lv' := [(7, .long (s0)), (0, .ref (q 0)), (1, .long (u)), (3, .long (w)), (5, .int (bb (b))), (6, .int (bb (v6)))]) hx hb dMo_add_125 hl (by decide) rfl (fun ls hl => ?_)
    refine lv_iload hx hb dMo_add_127 (lv_at hl 5 rfl) ?_
    refine wz_ifeq hx hb dMo_add_129 rfl (fun h129 => ?_) (fun h129 => ?_)
    · have hR := hR.trans (if_neg h129)
      refine lv_lload_n hx hb dMo_add_139 rfl (lv_at hl 3 rfl) ?_
      exact hB140 H locs ls z w v6 s0 hR hP hS (lv_sub hl [1, 2, 3, 4, 5, 0] rfl)
    · have hR := hR.trans (if_pos h129)
      refine lv_aload_n hx hb dMo_add_132 rfl (lv_at hl 1 rfl) ?_
      refine mg0_lower hx hb hts i0 hown hK hP w0 dMo_add_133 ?_
      refine lv_goto hx hb dMo_add_136 rfl ?_
      exact hB140 H locs ls z (m_lower z) v6 s0 hR hP hS (lv_sub hl [1, 2, 3, 4, 5, 0] rfl)
  have hB112 : ∀ (H : Heap) (locs : List Loc) (ls : Array Slot) (z : SM) (v6 : Bool), fMo_add z0 u w b = fMo_add_112 z u w b v6 → m_W D q cI cJ cZ z H → va_S (m_qs q) s.heap H locs → lv_has ls 15 [(0, .ref (q 0)), (1, .long (u)), (3, .long (w)), (5, .int (bb (b))), (6, .int (bb (v6)))] → W p l e (headSpec wsMo_add { frames := 0, cells := 0, slots := 0, locals := 0 }).room s m ([.ref (q 0), .long (u), .long (w), .int (bb (b))] : List Value).toArray below meth c H locs 0 0 (MQ below (cQw none (m_W D q cI cJ cZ (fMo_add z0 u w b)) (m_qs q)) ([.ref (q 0), .long (u), .long (w), .int (bb (b))] : List Value).toArray s 0 0 (m_qs q)) (F0 m 112 ls []) := by
    intro H locs ls z v6 hR hP hS hl
    rw [fMo_add_112.eq_1] at hR
    refine lv_iload hx hb dMo_add_112 (lv_at hl 4 rfl) ?_
    refine wz_ifeq hx hb dMo_add_114 rfl (fun h114 => ?_) (fun h114 => ?_)
    · have hR := hR.trans (if_neg h114)
      refine lv_lload_n hx hb dMo_add_124 rfl (lv_at hl 1 rfl) ?_
      exact hB125 H locs ls z u v6 hR hP hS (lv_sub hl [0, 1, 2, 3, 4] rfl)
    · have hR := hR.trans (if_pos h114)
      refine lv_aload_n hx hb dMo_add_117 rfl (lv_at hl 0 rfl) ?_
      refine mg0_upper hx hb hts i0 hown hK hP w2 dMo_add_118 ?_
      refine lv_goto hx hb dMo_add_121 rfl ?_
      exact hB125 H locs ls z (m_upper z) v6 hR hP hS (lv_sub hl [0, 1, 2, 3, 4] rfl)
  have hB110 : ∀ (H : Heap) (locs : List Loc) (ls : Array Slot) (z : SM) (s0 : Bool), fMo_add z0 u w b = fMo_add_110 z s0 u w b → m_W D q cI cJ cZ z H → va_S (m_qs q) s.heap H locs → lv_has ls 15 [(0, .ref (q 0)), (1, .long (u)), (3, .long (w)), (5, .int (bb (b)))] → W p l e (headSpec wsMo_add { frames := 0, cells := 0, slots := 0, locals := 0 }).room s m ([.ref (q 0), .long (u), .long (w), .int (bb (b))] : List Value).toArray below meth c H locs 0 0 (MQ below (cQw none (m_W D q cI cJ cZ (fMo_add z0 u w b)) (m_qs q)) ([.ref (q 0), .long (u), .long (w), .int (bb (b))] : List Value).toArray s 0 0 (m_qs q)) (F0 m 110 ls [.int (bb (s0))]) := by
    intro H locs ls z s0 hR hP hS hl
    rw [fMo_add_110.eq_1] at hR
    refine lv_istore (lv' := [(6, .int (bb (s0))), (0, .ref (q 0)), (1, .long (u)), (3, .long (w)), (5, .int (bb (b)))]) hx hb dMo_add_110 hl (by decide) rfl (fun ls hl => ?_)
    exact hB112 H locs ls z s0 hR hP hS (lv_sub hl [1, 2, 3, 4, 0] rfl)
  have hB109 : ∀ (H : Heap) (locs : List Loc) (ls : Array Slot) (z : SM), fMo_add z0 u w b = fMo_add_109 z u w b → m_W D q cI cJ cZ z H → va_S (m_qs q) s.heap H locs → lv_has ls 15 [(0, .ref (q 0)), (1, .long (u)), (3, .long (w)), (5, .int (bb (b)))] → W p l e (headSpec wsMo_add { frames := 0, cells := 0, slots := 0, locals := 0 }).room s m ([.ref (q 0), .long (u), .long (w), .int (bb (b))] : List Value).toArray below meth c H locs 0 0 (MQ below (cQw none (m_W D q cI cJ cZ (fMo_add z0 u w b)) (m_qs q)) ([.ref (q 0), .long (u), .long (w), .int (bb (b))] : List Value).toArray s 0 0 (m_qs q)) (F0 m 109 ls []) := by
    intro H locs ls z hR hP hS hl
    rw [fMo_add_109.eq_1] at hR
    refine lv_iconst (v := 0) hx hb dMo_add_109 (by decide) ?_
    exact hB110 H locs ls z false hR hP hS (lv_sub hl [0, 1, 2, 3] rfl)
  have hB105 : ∀ (H : Heap) (locs : List Loc) (ls : Array Slot) (z : SM), fMo_add z0 u w b = fMo_add_105 z u w b → m_W D q cI cJ cZ z H → va_S (m_qs q) s.heap H locs → lv_has ls 15 [(0, .ref (q 0)), (1, .long (u)), (3, .long (w)), (5, .int (bb (b)))] → W p l e (headSpec wsMo_add { frames := 0, cells := 0, slots := 0, locals := 0 }).room s m ([.ref (q 0), .long (u), .long (w), .int (bb (b))] : List Value).toArray below meth c H locs 0 0 (MQ below (cQw none (m_W D q cI cJ cZ (fMo_add z0 u w b)) (m_qs q)) ([.ref (q 0), .long (u), .long (w), .int (bb (b))] : List Value).toArray s 0 0 (m_qs q)) (F0 m 105 ls []) := by
    intro H locs ls z hR hP hS hl
    rw [fMo_add_105.eq_1] at hR
    refine lv_iconst (v := 1) hx hb dMo_add_105 (by decide) ?_
    refine lv_goto hx hb dMo_add_106 rfl ?_
    exact hB110 H locs ls z true hR hP hS (lv_sub hl [0, 1, 2, 3] rfl)
  have hB42 : ∀ (H : Heap) (locs : List Loc) (ls : Array Slot) (z : SM) (v6 : Int64), fMo_add z0 u w b = fMo_add_42 z v6 → m_W D q cI cJ cZ z H → va_S (m_qs q) s.heap H locs → lv_has ls 15 [(0, .ref (q 0)), (6, .long (v6))] → W p l e (headSpec wsMo_add { frames := 0, cells := 0, slots := 0, locals := 0 }).room s m ([.ref (q 0), .long (u), .long (w), .int (bb (b))] : List Value).toArray below meth c H locs 0 0 (MQ below (cQw none (m_W D q cI cJ cZ (fMo_add z0 u w b)) (m_qs q)) ([.ref (q 0), .long (u), .long (w), .int (bb (b))] : List Value).toArray s 0 0 (m_qs q)) (F0 m 42 ls []) := by
    intro H locs ls z v6 hR hP hS hl
    rw [fMo_add_42.eq_1] at hR
    refine lv_aload_n hx hb dMo_add_42 rfl (lv_at hl 0 rfl) ?_
    refine lv_lload hx hb dMo_add_43 (lv_at hl 1 rfl) ?_
    refine lv_ldc2 (v := 10000000000) hx hb hown w1 dMo_add_45 ?_
    refine lm_lrem hx hb dMo_add_48 (by decide) ?_
    refine mp0_upper (v6 % 10000000000) hq hS hx hb hts i0 hown hK hP w2 dMo_add_49 (fun H locs hP hS => ?_)
    refine lv_aload_n hx hb dMo_add_52 rfl (lv_at hl 0 rfl) ?_
    refine lv_aload_n hx hb dMo_add_53 rfl (lv_at hl 0 rfl) ?_
    refine mg0_overflow_e (v := m_ovf z) ((m_ovf_upper _ _).trans (rfl)) hx hb hts i0 hown hK hP w4 dMo_add_54 ?_
    refine wz_ifne hx hb dMo_add_57 rfl (fun h57 => ?_) (fun h57 => ?_)
    · have hR := hR.trans (if_pos h57)
      refine lv_iconst (v := 1) hx hb dMo_add_69 (by decide) ?_
      refine lv_goto hx hb dMo_add_70 rfl ?_
      refine mp0_overflow (true) hq hS hx hb hts i0 hown hK hP w4 dMo_add_74 (fun H locs hP hS => ?_)
      exact W.vret hx hb hr (fun t ht _ => ⟨rfl, by rw [hR, ht]; exact hP, hS.F ht⟩) hS.2.2 dMo_add_77
    · have hR := hR.trans (if_neg h57)
      refine lv_lload hx hb dMo_add_60 (lv_at hl 1 rfl) ?_
      refine lv_ldc2 (v := 10000000000) hx hb hown w1 dMo_add_62 ?_
      refine lc_lt hx hb dMo_add_65 dMo_add_66 rfl (fun h65 => ?_) (fun h65 => ?_)
      · have hR := hR.trans (if_pos h65)
        refine lv_iconst (v := 0) hx hb dMo_add_73 (by decide) ?_
        refine mp0_overflow false hq hS hx hb hts i0 hown hK hP w4 dMo_add_74 (fun H locs hP hS => ?_)
        exact W.vret hx hb hr (fun t ht _ => ⟨rfl, by rw [hR, ht]; exact hP, hS.F ht⟩) hS.2.2 dMo_add_77
      · have hR := hR.trans (if_neg h65)
        refine lv_iconst (v := 1) hx hb dMo_add_69 (by decide) ?_
        refine lv_goto hx hb dMo_add_70 rfl ?_
        refine mp0_overflow (true) hq hS hx hb hts i0 hown hK hP w4 dMo_add_74 (fun H locs hP hS => ?_)
        exact W.vret hx hb hr (fun t ht _ => ⟨rfl, by rw [hR, ht]; exact hP, hS.F ht⟩) hS.2.2 dMo_add_77
  have hR := fMo_add.eq_1 z0 u w b
  refine lv_iload hx hb dMo_add_0 (lv_at hl 3 rfl) ?_
  refine lv_aload_n hx hb dMo_add_2 rfl (lv_at hl 0 rfl) ?_
  refine mg0_negative hx hb hts i0 hown hK hP w3 dMo_add_3 ?_
  refine wz_cmpne hx hb dMo_add_6 rfl (fun h6 => ?_) (fun h6 => ?_)
  · have hR := hR.trans (if_neg h6)
    refine lv_aload_n hx hb dMo_add_78 rfl (lv_at hl 0 rfl) ?_
    refine mg0_upper hx hb hts i0 hown hK hP w2 dMo_add_79 ?_
    refine lv_lload_n hx hb dMo_add_82 rfl (lv_at hl 1 rfl) ?_
    refine lc_gt hx hb dMo_add_83 dMo_add_84 rfl (fun h83 => ?_) (fun h83 => ?_)
    · have hR := hR.trans (if_pos h83)
      exact hB105 s.heap [] ls z0 hR hP hS (lv_sub hl [0, 1, 2, 3] rfl)
    · have hR := hR.trans (if_neg h83)
      refine lv_aload_n hx hb dMo_add_87 rfl (lv_at hl 0 rfl) ?_
      refine mg0_upper hx hb hts i0 hown hK hP w2 dMo_add_88 ?_
      refine lv_lload_n hx hb dMo_add_91 rfl (lv_at hl 1 rfl) ?_
      refine lc_ne hx hb dMo_add_92 dMo_add_93 rfl (fun h92 => ?_) (fun h92 => ?_)
      · have hR := hR.trans (if_neg h92)
        exact hB109 s.heap [] ls z0 hR hP hS (lv_sub hl [0, 1, 2, 3] rfl)
      · have hR := hR.trans (if_pos h92)
        refine lv_aload_n hx hb dMo_add_96 rfl (lv_at hl 0 rfl) ?_
        refine mg0_lower hx hb hts i0 hown hK hP w0 dMo_add_97 ?_
        refine lv_lload_n hx hb dMo_add_100 rfl (lv_at hl 2 rfl) ?_
        refine lc_lt hx hb dMo_add_101 dMo_add_102 rfl (fun h101 => ?_) (fun h101 => ?_)
        · have hR := hR.trans (if_pos h101)
          exact hB109 s.heap [] ls z0 hR hP hS (lv_sub hl [0, 1, 2, 3] rfl)
        · have hR := hR.trans (if_neg h101)
          exact hB105 s.heap [] ls z0 hR hP hS (lv_sub hl [0, 1, 2, 3] rfl)
  · have hR := hR.trans (if_pos h6)
    refine lv_aload_n hx hb dMo_add_9 rfl (lv_at hl 0 rfl) ?_
    refine mg0_lower hx hb hts i0 hown hK hP w0 dMo_add_10 ?_
    refine lv_lload_n hx hb dMo_add_13 rfl (lv_at hl 2 rfl) ?_
    refine lv_ladd hx hb dMo_add_14 ?_
    refine lv_lstore (lv' := [(6, .long ((m_lower z0) + w)), (0, .ref (q 0)), (1, .long (u)), (3, .long (w)), (5, .int (bb (b)))]) hx hb dMo_add_15 hl (by decide) rfl (fun ls hl => ?_)
    refine lv_aload_n hx hb dMo_add_17 rfl (lv_at hl 1 rfl) ?_
    refine lv_lload hx hb dMo_add_18 (lv_at hl 0 rfl) ?_
    refine lv_ldc2 (v := 10000000000) hx hb hown w1 dMo_add_20 ?_
    refine lm_lrem hx hb dMo_add_23 (by decide) ?_
    refine mp0_lower (((m_lower z0) + w) % 10000000000) hq hS hx hb hts i0 hown hK hP w0 dMo_add_24 (fun H locs hP hS => ?_)
    refine lv_aload_n hx hb dMo_add_27 rfl (lv_at hl 1 rfl) ?_
    refine mg0_upper_e (v := m_upper z0) ((m_upper_lower _ _).trans (rfl)) hx hb hts i0 hown hK hP w2 dMo_add_28 ?_
    refine lv_lload_n hx hb dMo_add_31 rfl (lv_at hl 2 rfl) ?_
    refine lv_ladd hx hb dMo_add_32 ?_
    refine lv_lload hx hb dMo_add_33 (lv_at hl 0 rfl) ?_
    refine lv_ldc2 (v := 10000000000) hx hb hown w1 dMo_add_35 ?_
    refine lv_ldiv hx hb dMo_add_38 (by decide) ?_
    refine lv_ladd hx hb dMo_add_39 ?_
    refine lv_lstore (lv' := [(6, .long (((m_upper z0) + u) + (((m_lower z0) + w) / 10000000000))), (0, .ref (q 0)), (1, .long (u)), (3, .long (w)), (5, .int (bb (b)))]) hx hb dMo_add_40 hl (by decide) rfl (fun ls hl => ?_)
    exact hB42 H locs ls (m_lower_s z0 (((m_lower z0) + w) % 10000000000)) (((m_upper z0) + u) + (((m_lower z0) + w) / 10000000000)) hR hP hS (lv_sub hl [1, 0] rfl)
theorem un_ne {x : Int64} {k : Nat} (hk : k ≤ 9) (hu : k ≤ 9 → x.toInt = 10 ^ (9 - k)) : ¬ x = 0 := by
  intro h
  have h1 := hu hk
  rw [h] at h1
  have e : (0 : Int64).toInt = 0 := by decide
  rw [e] at h1
  have h9 : k = 0 ∨ k = 1 ∨ k = 2 ∨ k = 3 ∨ k = 4 ∨ k = 5 ∨ k = 6 ∨ k = 7 ∨ k = 8 ∨ k = 9 := by omega
  rcases h9 with rfl | rfl | rfl | rfl | rfl | rfl | rfl | rfl | rfl | rfl <;> (revert h1; decide)
theorem un_s {x : Int64} {k : Nat} (hu : k ≤ 9 → x.toInt = 10 ^ (9 - k)) : k + 1 ≤ 9 → (x / 10).toInt = 10 ^ (9 - (k + 1)) := by
  intro hk
  have h1 := hu (by omega)
  have e : (10 : Int64).toInt = 10 := by decide
  have h9 : k = 0 ∨ k = 1 ∨ k = 2 ∨ k = 3 ∨ k = 4 ∨ k = 5 ∨ k = 6 ∨ k = 7 ∨ k = 8 := by omega
  rcases h9 with rfl | rfl | rfl | rfl | rfl | rfl | rfl | rfl | rfl <;> (rw [Kit.i64_div (by rw [h1, e]; decide), h1, e]; decide)
theorem dMo_multiply_0 : decode ccMo_multiply 0 = .ok (.aload_n 0, 1) := by decide +kernel
theorem dMo_multiply_1 : decode ccMo_multiply 1 = .ok (.getfield 118, 3) := by decide +kernel
theorem dMo_multiply_4 : decode ccMo_multiply 4 = .ok (.lstore 4, 2) := by decide +kernel
theorem dMo_multiply_6 : decode ccMo_multiply 6 = .ok (.lconst 0, 1) := by decide +kernel
theorem dMo_multiply_7 : decode ccMo_multiply 7 = .ok (.lstore 6, 2) := by decide +kernel
theorem dMo_multiply_9 : decode ccMo_multiply 9 = .ok (.lconst 0, 1) := by decide +kernel
theorem dMo_multiply_10 : decode ccMo_multiply 10 = .ok (.lstore 8, 2) := by decide +kernel
theorem dMo_multiply_12 : decode ccMo_multiply 12 = .ok (.ldc2_w 124, 3) := by decide +kernel
theorem dMo_multiply_15 : decode ccMo_multiply 15 = .ok (.lstore 10, 2) := by decide +kernel
theorem dMo_multiply_17 : decode ccMo_multiply 17 = .ok (.iconst 0, 1) := by decide +kernel
theorem dMo_multiply_18 : decode ccMo_multiply 18 = .ok (.istore 12, 2) := by decide +kernel
theorem dMo_multiply_20 : decode ccMo_multiply 20 = .ok (.iload 12, 2) := by decide +kernel
theorem dMo_multiply_22 : decode ccMo_multiply 22 = .ok (.bipush 10, 2) := by decide +kernel
theorem dMo_multiply_24 : decode ccMo_multiply 24 = .ok (.if_icmp .ge 66, 3) := by decide +kernel
theorem dMo_multiply_27 : decode ccMo_multiply 27 = .ok (.lload 4, 2) := by decide +kernel
theorem dMo_multiply_29 : decode ccMo_multiply 29 = .ok (.lload 10, 2) := by decide +kernel
theorem dMo_multiply_31 : decode ccMo_multiply 31 = .ok (.ldiv, 1) := by decide +kernel
theorem dMo_multiply_32 : decode ccMo_multiply 32 = .ok (.ldc2_w 67, 3) := by decide +kernel
theorem dMo_multiply_35 : decode ccMo_multiply 35 = .ok (.lrem, 1) := by decide +kernel
theorem dMo_multiply_36 : decode ccMo_multiply 36 = .ok (.l2i, 1) := by decide +kernel
theorem dMo_multiply_37 : decode ccMo_multiply 37 = .ok (.istore 13, 2) := by decide +kernel
theorem dMo_multiply_39 : decode ccMo_multiply 39 = .ok (.ldc2_w 67, 3) := by decide +kernel
theorem dMo_multiply_42 : decode ccMo_multiply 42 = .ok (.lload 8, 2) := by decide +kernel
theorem dMo_multiply_44 : decode ccMo_multiply 44 = .ok (.lmul, 1) := by decide +kernel
theorem dMo_multiply_45 : decode ccMo_multiply 45 = .ok (.iload 13, 2) := by decide +kernel
theorem dMo_multiply_47 : decode ccMo_multiply 47 = .ok (.i2l, 1) := by decide +kernel
theorem dMo_multiply_48 : decode ccMo_multiply 48 = .ok (.lload_n 1, 1) := by decide +kernel
theorem dMo_multiply_49 : decode ccMo_multiply 49 = .ok (.lmul, 1) := by decide +kernel
theorem dMo_multiply_50 : decode ccMo_multiply 50 = .ok (.ladd, 1) := by decide +kernel
theorem dMo_multiply_51 : decode ccMo_multiply 51 = .ok (.lstore 8, 2) := by decide +kernel
theorem dMo_multiply_53 : decode ccMo_multiply 53 = .ok (.ldc2_w 67, 3) := by decide +kernel
theorem dMo_multiply_56 : decode ccMo_multiply 56 = .ok (.lload 6, 2) := by decide +kernel
theorem dMo_multiply_58 : decode ccMo_multiply 58 = .ok (.lmul, 1) := by decide +kernel
theorem dMo_multiply_59 : decode ccMo_multiply 59 = .ok (.lload 8, 2) := by decide +kernel
theorem dMo_multiply_61 : decode ccMo_multiply 61 = .ok (.ldc2_w 65, 3) := by decide +kernel
theorem dMo_multiply_64 : decode ccMo_multiply 64 = .ok (.ldiv, 1) := by decide +kernel
theorem dMo_multiply_65 : decode ccMo_multiply 65 = .ok (.ladd, 1) := by decide +kernel
theorem dMo_multiply_66 : decode ccMo_multiply 66 = .ok (.lstore 6, 2) := by decide +kernel
theorem dMo_multiply_68 : decode ccMo_multiply 68 = .ok (.lload 8, 2) := by decide +kernel
theorem dMo_multiply_70 : decode ccMo_multiply 70 = .ok (.ldc2_w 65, 3) := by decide +kernel
theorem dMo_multiply_73 : decode ccMo_multiply 73 = .ok (.lrem, 1) := by decide +kernel
theorem dMo_multiply_74 : decode ccMo_multiply 74 = .ok (.lstore 8, 2) := by decide +kernel
theorem dMo_multiply_76 : decode ccMo_multiply 76 = .ok (.lload 10, 2) := by decide +kernel
theorem dMo_multiply_78 : decode ccMo_multiply 78 = .ok (.ldc2_w 67, 3) := by decide +kernel
theorem dMo_multiply_81 : decode ccMo_multiply 81 = .ok (.ldiv, 1) := by decide +kernel
theorem dMo_multiply_82 : decode ccMo_multiply 82 = .ok (.lstore 10, 2) := by decide +kernel
theorem dMo_multiply_84 : decode ccMo_multiply 84 = .ok (.iinc 12 1, 3) := by decide +kernel
theorem dMo_multiply_87 : decode ccMo_multiply 87 = .ok (.goto (-67), 3) := by decide +kernel
theorem dMo_multiply_90 : decode ccMo_multiply 90 = .ok (.lload 8, 2) := by decide +kernel
theorem dMo_multiply_92 : decode ccMo_multiply 92 = .ok (.aload_n 0, 1) := by decide +kernel
theorem dMo_multiply_93 : decode ccMo_multiply 93 = .ok (.getfield 115, 3) := by decide +kernel
theorem dMo_multiply_96 : decode ccMo_multiply 96 = .ok (.ladd, 1) := by decide +kernel
theorem dMo_multiply_97 : decode ccMo_multiply 97 = .ok (.lstore 8, 2) := by decide +kernel
theorem dMo_multiply_99 : decode ccMo_multiply 99 = .ok (.lload 6, 2) := by decide +kernel
theorem dMo_multiply_101 : decode ccMo_multiply 101 = .ok (.lload 8, 2) := by decide +kernel
theorem dMo_multiply_103 : decode ccMo_multiply 103 = .ok (.ldc2_w 65, 3) := by decide +kernel
theorem dMo_multiply_106 : decode ccMo_multiply 106 = .ok (.ldiv, 1) := by decide +kernel
theorem dMo_multiply_107 : decode ccMo_multiply 107 = .ok (.ladd, 1) := by decide +kernel
theorem dMo_multiply_108 : decode ccMo_multiply 108 = .ok (.lstore 6, 2) := by decide +kernel
theorem dMo_multiply_110 : decode ccMo_multiply 110 = .ok (.aload_n 0, 1) := by decide +kernel
theorem dMo_multiply_111 : decode ccMo_multiply 111 = .ok (.lload 8, 2) := by decide +kernel
theorem dMo_multiply_113 : decode ccMo_multiply 113 = .ok (.ldc2_w 65, 3) := by decide +kernel
theorem dMo_multiply_116 : decode ccMo_multiply 116 = .ok (.lrem, 1) := by decide +kernel
theorem dMo_multiply_117 : decode ccMo_multiply 117 = .ok (.putfield 115, 3) := by decide +kernel
theorem dMo_multiply_120 : decode ccMo_multiply 120 = .ok (.aload_n 0, 1) := by decide +kernel
theorem dMo_multiply_121 : decode ccMo_multiply 121 = .ok (.lload 6, 2) := by decide +kernel
theorem dMo_multiply_123 : decode ccMo_multiply 123 = .ok (.ldc2_w 65, 3) := by decide +kernel
theorem dMo_multiply_126 : decode ccMo_multiply 126 = .ok (.lrem, 1) := by decide +kernel
theorem dMo_multiply_127 : decode ccMo_multiply 127 = .ok (.putfield 118, 3) := by decide +kernel
theorem dMo_multiply_130 : decode ccMo_multiply 130 = .ok (.aload_n 0, 1) := by decide +kernel
theorem dMo_multiply_131 : decode ccMo_multiply 131 = .ok (.aload_n 0, 1) := by decide +kernel
theorem dMo_multiply_132 : decode ccMo_multiply 132 = .ok (.getfield 111, 3) := by decide +kernel
theorem dMo_multiply_135 : decode ccMo_multiply 135 = .ok (.iload_n 3, 1) := by decide +kernel
theorem dMo_multiply_136 : decode ccMo_multiply 136 = .ok (.if_icmp .eq 7, 3) := by decide +kernel
theorem dMo_multiply_139 : decode ccMo_multiply 139 = .ok (.iconst 1, 1) := by decide +kernel
theorem dMo_multiply_140 : decode ccMo_multiply 140 = .ok (.goto 4, 3) := by decide +kernel
theorem dMo_multiply_143 : decode ccMo_multiply 143 = .ok (.iconst 0, 1) := by decide +kernel
theorem dMo_multiply_144 : decode ccMo_multiply 144 = .ok (.putfield 111, 3) := by decide +kernel
theorem dMo_multiply_147 : decode ccMo_multiply 147 = .ok (.return_, 1) := by decide +kernel
def fMo_multiply_90  (z : SM) (b : Bool) (v6 : Int64) (v8 : Int64) : SM :=
  (if (m_amin z) = b then m_amin_s (m_upper_s (m_lower_s z ((v8 + (m_lower z)) % 10000000000)) ((v6 + ((v8 + (m_lower z)) / 10000000000)) % 10000000000)) false else m_amin_s (m_upper_s (m_lower_s z ((v8 + (m_lower z)) % 10000000000)) ((v6 + ((v8 + (m_lower z)) / 10000000000)) % 10000000000)) true)
def fMo_multiply_39 (k20 : SM → Int64 → Bool → Int64 → Int64 → Int64 → Int64 → Nat → (SM)) (z : SM) (v : Int64) (b : Bool) (v4 : Int64) (v6 : Int64) (v8 : Int64) (v10 : Int64) (v12 : Nat) (v13 : Int32) : SM :=
  k20 z v b v4 ((10 * v6) + (((10 * v8) + (v13.toInt64 * v)) / 10000000000)) (((10 * v8) + (v13.toInt64 * v)) % 10000000000) (v10 / 10) (v12 + 1)
def fMo_multiply_20  : Nat → SM → Int64 → Bool → Int64 → Int64 → Int64 → Int64 → Nat → SM
  | 0, z, v, b, v4, v6, v8, v10, v12 => z
  | fu + 1, z, v, b, v4, v6, v8, v10, v12 => (if 10 ≤ v12 then fMo_multiply_90 z b v6 v8 else fMo_multiply_39 (fMo_multiply_20 fu) z v b v4 v6 v8 v10 v12 (((v4 / v10) % 10).toInt32))
def fMo_multiply (z0 : SM) (v : Int64) (b : Bool) : SM :=
  fMo_multiply_20 11 z0 v b (m_upper z0) 0 0 1000000000 0
set_option maxHeartbeats 4000000 in
set_option maxRecDepth 100000 in
theorem kMo_multiply (l : Launch) (D : va_G) (q : Nat → Nat) (cI cJ cZ : ClassId) (hq : m_inj q) (z0 : SM) (v : Int64) (b : Bool)  : Met l yMo_multiply wsMo_multiply { frames := 0, cells := 0, slots := 0, locals := 0 } (va_Pc [.ref (q 0), .long (v), .int (bb (b))] (m_C D q cI cJ cZ z0)) (cQw none (m_W D q cI cJ cZ (fMo_multiply z0 v b)) (m_qs q)) 0 0 (m_qs q) := by
  refine Met.ofW (cc := ccMo_multiply) (maxL := 14) (ret := none) (by decide +kernel) rfl ?_
  intro p e s m args below meth c s₁ B hml hv
  obtain ⟨rfl, hP, hK⟩ := hv
  have hx := B.exec
  have hb := B.bytes
  have hr := B.returns
  have hts := atoms_spec (ws := wsMo_multiply) B.pre
  have hown : s.vm.findClass RMo = some m.cls := findClass_of_methodNamed B.named
  have hlocks := B.notSynchronized
  have w0 := hts (.fieldLink RMo 115 "DrumMachineModel" "lower" "J") (List.mem_cons_of_mem _ wm4_192)
  have w1 := hts (.constantLong RMo 65 (10000000000)) (List.mem_cons_of_mem _ wm5_47)
  have w2 := hts (.fieldLink RMo 118 "DrumMachineModel" "upper" "J") (List.mem_cons_of_mem _ wm4_191)
  have w3 := hts (.fieldLink RMo 111 "DrumMachineModel" "negative" "Z") (List.mem_cons_of_mem _ wm4_194)
  have w4 := hts (.constantLong RMo 67 (10)) (List.mem_cons_of_mem _ wm4_183)
  have w5 := hts (.constantLong RMo 124 (1000000000)) (List.mem_cons_of_mem _ wm5_114)
  have i0 : ∀ w ∈ u_ws RMo TMo 28, w ∈ wsMo_multiply := fun w h => List.mem_cons_of_mem _ (inAMo w h)
  have hS : va_S (m_qs q) s.heap s.heap [] := va_S.rf
  have hl := lv_entry ([.ref (q 0), .long (v), .int (bb (b))]) (n := 14) (Nat.le_of_ble_eq_true rfl)
  rw [lg_entry_eq]
  generalize (lg_sl ([.ref (q 0), .long (v), .int (bb (b))]) ++ List.replicate (14 - (lg_sl ([.ref (q 0), .long (v), .int (bb (b))])).length) Slot.unset).toArray = ls at hl ⊢
  have hl : lv_has ls 14 [(0, .ref (q 0)), (1, .long (v)), (3, .int (bb (b)))] := hl
  have hB90 : ∀ (H : Heap) (locs : List Loc) (ls : Array Slot) (z : SM) (v6 : Int64) (v8 : Int64), fMo_multiply z0 v b = fMo_multiply_90 z b v6 v8 → m_W D q cI cJ cZ z H → va_S (m_qs q) s.heap H locs → lv_has ls 14 [(0, .ref (q 0)), (3, .int (bb (b))), (6, .long (v6)), (8, .long (v8))] → W p l e (headSpec wsMo_multiply { frames := 0, cells := 0, slots := 0, locals := 0 }).room s m ([.ref (q 0), .long (v), .int (bb (b))] : List Value).toArray below meth c H locs 0 0 (MQ below (cQw none (m_W D q cI cJ cZ (fMo_multiply z0 v b)) (m_qs q)) ([.ref (q 0), .long (v), .int (bb (b))] : List Value).toArray s 0 0 (m_qs q)) (F0 m 90 ls []) := by
    intro H locs ls z v6 v8 hR hP hS hl
    rw [fMo_multiply_90.eq_1] at hR
    refine lv_lload hx hb dMo_multiply_90 (lv_at hl 3 rfl) ?_
    refine lv_aload_n hx hb dMo_multiply_92 rfl (lv_at hl 0 rfl) ?_
    refine mg0_lower hx hb hts i0 hown hK hP w0 dMo_multiply_93 ?_
    refine lv_ladd hx hb dMo_multiply_96 ?_
    refine lv_lstore (lv' := [(8, .long (v8 + (m_lower z))), (0, .ref (q 0)), (3, .int (bb (b))), (6, .long (v6))]) hx hb dMo_multiply_97 hl (by decide) rfl (fun ls hl => ?_)
    refine lv_lload hx hb dMo_multiply_99 (lv_at hl 3 rfl) ?_
    refine lv_lload hx hb dMo_multiply_101 (lv_at hl 0 rfl) ?_
    refine lv_ldc2 (v := 10000000000) hx hb hown w1 dMo_multiply_103 ?_
    refine lv_ldiv hx hb dMo_multiply_106 (by decide) ?_
    refine lv_ladd hx hb dMo_multiply_107 ?_
    refine lv_lstore (lv' := [(6, .long (v6 + ((v8 + (m_lower z)) / 10000000000))), (8, .long (v8 + (m_lower z))), (0, .ref (q 0)), (3, .int (bb (b)))]) hx hb dMo_multiply_108 hl (by decide) rfl (fun ls hl => ?_)
    refine lv_aload_n hx hb dMo_multiply_110 rfl (lv_at hl 2 rfl) ?_
    refine lv_lload hx hb dMo_multiply_111 (lv_at hl 1 rfl) ?_
    refine lv_ldc2 (v := 10000000000) hx hb hown w1 dMo_multiply_113 ?_
    refine lm_lrem hx hb dMo_multiply_116 (by decide) ?_
    refine mp0_lower ((v8 + (m_lower z)) % 10000000000) hq hS hx hb hts i0 hown hK hP w0 dMo_multiply_117 (fun H locs hP hS => ?_)
    refine lv_aload_n hx hb dMo_multiply_120 rfl (lv_at hl 2 rfl) ?_
    refine lv_lload hx hb dMo_multiply_121 (lv_at hl 0 rfl) ?_
    refine lv_ldc2 (v := 10000000000) hx hb hown w1 dMo_multiply_123 ?_
    refine lm_lrem hx hb dMo_multiply_126 (by decide) ?_
    refine mp0_upper ((v6 + ((v8 + (m_lower z)) / 10000000000)) % 10000000000) hq hS hx hb hts i0 hown hK hP w2 dMo_multiply_127 (fun H locs hP hS => ?_)
    refine lv_aload_n hx hb dMo_multiply_130 rfl (lv_at hl 2 rfl) ?_
    refine lv_aload_n hx hb dMo_multiply_131 rfl (lv_at hl 2 rfl) ?_
    refine mg0_negative_e (v := m_amin z) ((m_amin_upper _ _).trans ((m_amin_lower _ _).trans (rfl))) hx hb hts i0 hown hK hP w3 dMo_multiply_132 ?_
    refine lv_iload_n hx hb dMo_multiply_135 rfl (lv_at hl 3 rfl) ?_
    refine wz_cmpeq hx hb dMo_multiply_136 rfl (fun h136 => ?_) (fun h136 => ?_)
    · have hR := hR.trans (if_pos h136)
      refine lv_iconst (v := 0) hx hb dMo_multiply_143 (by decide) ?_
      refine mp0_negative false hq hS hx hb hts i0 hown hK hP w3 dMo_multiply_144 (fun H locs hP hS => ?_)
      exact W.vret hx hb hr (fun t ht _ => ⟨rfl, by rw [hR, ht]; exact hP, hS.F ht⟩) hS.2.2 dMo_multiply_147
    · have hR := hR.trans (if_neg h136)
      refine lv_iconst (v := 1) hx hb dMo_multiply_139 (by decide) ?_
      refine lv_goto hx hb dMo_multiply_140 rfl ?_
      refine mp0_negative (true) hq hS hx hb hts i0 hown hK hP w3 dMo_multiply_144 (fun H locs hP hS => ?_)
      exact W.vret hx hb hr (fun t ht _ => ⟨rfl, by rw [hR, ht]; exact hP, hS.F ht⟩) hS.2.2 dMo_multiply_147
  have hB20 : ∀ (n20 : Nat) (H : Heap) (locs : List Loc) (ls : Array Slot) (z : SM) (v4 : Int64) (v6 : Int64) (v8 : Int64) (v10 : Int64) (v12 : Nat), 10 - v12 < n20 → fMo_multiply z0 v b = fMo_multiply_20 n20 z v b v4 v6 v8 v10 v12 → (v12 ≤ 10) → (v12 ≤ 9 → v10.toInt = 10 ^ (9 - v12)) → m_W D q cI cJ cZ z H → va_S (m_qs q) s.heap H locs → lv_has ls 14 [(0, .ref (q 0)), (1, .long (v)), (3, .int (bb (b))), (4, .long (v4)), (6, .long (v6)), (8, .long (v8)), (10, .long (v10)), (12, .int (nI (v12)))] → W p l e (headSpec wsMo_multiply { frames := 0, cells := 0, slots := 0, locals := 0 }).room s m ([.ref (q 0), .long (v), .int (bb (b))] : List Value).toArray below meth c H locs 0 0 (MQ below (cQw none (m_W D q cI cJ cZ (fMo_multiply z0 v b)) (m_qs q)) ([.ref (q 0), .long (v), .int (bb (b))] : List Value).toArray s 0 0 (m_qs q)) (F0 m 20 ls []) := by
    intro n20
    induction n20 with
    | zero => intro H locs ls z v4 v6 v8 v10 v12 hn20; exact absurd hn20 (Nat.not_lt_zero _)
    | succ n20 ih20 =>
      intro H locs ls z v4 v6 v8 v10 v12 hn20 hR h12 hu hP hS hl
      rw [fMo_multiply_20.eq_2] at hR
      have hB39 : ∀ (H : Heap) (locs : List Loc) (ls : Array Slot) (z : SM) (v4 : Int64) (v6 : Int64) (v8 : Int64) (v10 : Int64) (v12 : Nat) (v13 : Int32), fMo_multiply z0 v b = fMo_multiply_39 (fMo_multiply_20 n20) z v b v4 v6 v8 v10 v12 v13 → (v12 ≤ 9) → (v12 ≤ 9 → v10.toInt = 10 ^ (9 - v12)) → (10 - v12 < n20 + 1) → m_W D q cI cJ cZ z H → va_S (m_qs q) s.heap H locs → lv_has ls 14 [(0, .ref (q 0)), (1, .long (v)), (3, .int (bb (b))), (4, .long (v4)), (6, .long (v6)), (8, .long (v8)), (10, .long (v10)), (12, .int (nI (v12))), (13, .int (v13))] → W p l e (headSpec wsMo_multiply { frames := 0, cells := 0, slots := 0, locals := 0 }).room s m ([.ref (q 0), .long (v), .int (bb (b))] : List Value).toArray below meth c H locs 0 0 (MQ below (cQw none (m_W D q cI cJ cZ (fMo_multiply z0 v b)) (m_qs q)) ([.ref (q 0), .long (v), .int (bb (b))] : List Value).toArray s 0 0 (m_qs q)) (F0 m 39 ls []) := by
        intro H locs ls z v4 v6 v8 v10 v12 v13 hR h12 hu hm hP hS hl
        rw [fMo_multiply_39.eq_1] at hR
        refine lv_ldc2 (v := 10) hx hb hown w4 dMo_multiply_39 ?_
        refine lv_lload hx hb dMo_multiply_42 (lv_at hl 5 rfl) ?_
        refine lv_lmul hx hb dMo_multiply_44 ?_
        refine lv_iload hx hb dMo_multiply_45 (lv_at hl 8 rfl) ?_
        refine lv_i2l hx hb dMo_multiply_47 rfl ?_
        refine lv_lload_n hx hb dMo_multiply_48 rfl (lv_at hl 1 rfl) ?_
        refine lv_lmul hx hb dMo_multiply_49 ?_
        refine lv_ladd hx hb dMo_multiply_50 ?_
        refine lv_lstore (lv' := [(8, .long ((10 * v8) + (v13.toInt64 * v))), (0, .ref (q 0)), (1, .long (v)), (3, .int (bb (b))), (4, .long (v4)), (6, .long (v6)), (10, .long (v10)), (12, .int (nI (v12))), (13, .int (v13))]) hx hb dMo_multiply_51 hl (by decide) rfl (fun ls hl => ?_)
        refine lv_ldc2 (v := 10) hx hb hown w4 dMo_multiply_53 ?_
        refine lv_lload hx hb dMo_multiply_56 (lv_at hl 5 rfl) ?_
        refine lv_lmul hx hb dMo_multiply_58 ?_
        refine lv_lload hx hb dMo_multiply_59 (lv_at hl 0 rfl) ?_
        refine lv_ldc2 (v := 10000000000) hx hb hown w1 dMo_multiply_61 ?_
        refine lv_ldiv hx hb dMo_multiply_64 (by decide) ?_
        refine lv_ladd hx hb dMo_multiply_65 ?_
        refine lv_lstore (lv' := [(6, .long ((10 * v6) + (((10 * v8) + (v13.toInt64 * v)) / 10000000000))), (8, .long ((10 * v8) + (v13.toInt64 * v))), (0, .ref (q 0)), (1, .long (v)), (3, .int (bb (b))), (4, .long (v4)), (10, .long (v10)), (12, .int (nI (v12))), (13, .int (v13))]) hx hb dMo_multiply_66 hl (by decide) rfl (fun ls hl => ?_)
        refine lv_lload hx hb dMo_multiply_68 (lv_at hl 1 rfl) ?_
        refine lv_ldc2 (v := 10000000000) hx hb hown w1 dMo_multiply_70 ?_
        refine lm_lrem hx hb dMo_multiply_73 (by decide) ?_
        refine lv_lstore (lv' := [(8, .long (((10 * v8) + (v13.toInt64 * v)) % 10000000000)), (6, .long ((10 * v6) + (((10 * v8) + (v13.toInt64 * v)) / 10000000000))), (0, .ref (q 0)), (1, .long (v)), (3, .int (bb (b))), (4, .long (v4)), (10, .long (v10)), (12, .int (nI (v12))), (13, .int (v13))]) hx hb dMo_multiply_74 hl (by decide) rfl (fun ls hl => ?_)
        refine lv_lload hx hb dMo_multiply_76 (lv_at hl 6 rfl) ?_
        refine lv_ldc2 (v := 10) hx hb hown w4 dMo_multiply_78 ?_
        refine lv_ldiv hx hb dMo_multiply_81 (by decide) ?_
        refine lv_lstore (lv' := [(10, .long (v10 / 10)), (8, .long (((10 * v8) + (v13.toInt64 * v)) % 10000000000)), (6, .long ((10 * v6) + (((10 * v8) + (v13.toInt64 * v)) / 10000000000))), (0, .ref (q 0)), (1, .long (v)), (3, .int (bb (b))), (4, .long (v4)), (12, .int (nI (v12))), (13, .int (v13))]) hx hb dMo_multiply_82 hl (by decide) rfl (fun ls hl => ?_)
        refine lv_iinc (k := 7) (lv' := [(12, .int (nI (v12 + 1))), (10, .long (v10 / 10)), (8, .long (((10 * v8) + (v13.toInt64 * v)) % 10000000000)), (6, .long ((10 * v6) + (((10 * v8) + (v13.toInt64 * v)) / 10000000000))), (0, .ref (q 0)), (1, .long (v)), (3, .int (bb (b))), (4, .long (v4)), (13, .int (v13))]) hx hb dMo_multiply_84 hl rfl (nI_1 _) (by decide) rfl (fun ls hl => ?_)
        refine lv_goto hx hb dMo_multiply_87 rfl ?_
        exact ih20 H locs ls z v4 ((10 * v6) + (((10 * v8) + (v13.toInt64 * v)) / 10000000000)) (((10 * v8) + (v13.toInt64 * v)) % 10000000000) (v10 / 10) (v12 + 1) (by omega) hR (by first | assumption | omega) (un_s hu) hP hS (lv_sub hl [4, 5, 6, 7, 3, 2, 1, 0] rfl)
      refine lv_iload hx hb dMo_multiply_20 (lv_at hl 7 rfl) ?_
      refine lv_bipush (v := 10) hx hb dMo_multiply_22 (by decide) ?_
      refine wn_ge (x := v12) (y := 10) hx hb (by omega) (by omega) dMo_multiply_24 rfl (fun h24 => ?_) (fun h24 => ?_)
      · have hR := hR.trans (if_pos h24)
        exact hB90 H locs ls z v6 v8 hR hP hS (lv_sub hl [0, 2, 4, 5] rfl)
      · have hR := hR.trans (if_neg h24)
        refine lv_lload hx hb dMo_multiply_27 (lv_at hl 3 rfl) ?_
        refine lv_lload hx hb dMo_multiply_29 (lv_at hl 6 rfl) ?_
        refine lv_ldiv hx hb dMo_multiply_31 (un_ne (by omega) hu) ?_
        refine lv_ldc2 (v := 10) hx hb hown w4 dMo_multiply_32 ?_
        refine lm_lrem hx hb dMo_multiply_35 (by decide) ?_
        refine lv_l2i hx hb dMo_multiply_36 rfl ?_
        refine lv_istore (lv' := [(13, .int (((v4 / v10) % 10).toInt32)), (0, .ref (q 0)), (1, .long (v)), (3, .int (bb (b))), (4, .long (v4)), (6, .long (v6)), (8, .long (v8)), (10, .long (v10)), (12, .int (nI (v12)))]) hx hb dMo_multiply_37 hl (by decide) rfl (fun ls hl => ?_)
        exact hB39 H locs ls z v4 v6 v8 v10 v12 (((v4 / v10) % 10).toInt32) hR (by first | assumption | omega) (by first | assumption | omega) (by first | assumption | omega) hP hS (lv_sub hl [1, 2, 3, 4, 5, 6, 7, 8, 0] rfl)
  have hR := fMo_multiply.eq_1 z0 v b
  refine lv_aload_n hx hb dMo_multiply_0 rfl (lv_at hl 0 rfl) ?_
  refine mg0_upper hx hb hts i0 hown hK hP w2 dMo_multiply_1 ?_
  refine lv_lstore (lv' := [(4, .long (m_upper z0)), (0, .ref (q 0)), (1, .long (v)), (3, .int (bb (b)))]) hx hb dMo_multiply_4 hl (by decide) rfl (fun ls hl => ?_)
  refine lv_lconst (v := 0) hx hb dMo_multiply_6 (by decide) ?_
  refine lv_lstore (lv' := [(6, .long (0)), (4, .long (m_upper z0)), (0, .ref (q 0)), (1, .long (v)), (3, .int (bb (b)))]) hx hb dMo_multiply_7 hl (by decide) rfl (fun ls hl => ?_)
  refine lv_lconst (v := 0) hx hb dMo_multiply_9 (by decide) ?_
  refine lv_lstore (lv' := [(8, .long (0)), (6, .long (0)), (4, .long (m_upper z0)), (0, .ref (q 0)), (1, .long (v)), (3, .int (bb (b)))]) hx hb dMo_multiply_10 hl (by decide) rfl (fun ls hl => ?_)
  refine lv_ldc2 (v := 1000000000) hx hb hown w5 dMo_multiply_12 ?_
  refine lv_lstore (lv' := [(10, .long (1000000000)), (8, .long (0)), (6, .long (0)), (4, .long (m_upper z0)), (0, .ref (q 0)), (1, .long (v)), (3, .int (bb (b)))]) hx hb dMo_multiply_15 hl (by decide) rfl (fun ls hl => ?_)
  refine lv_iconst (v := 0) hx hb dMo_multiply_17 (by decide) ?_
  refine lv_istore (lv' := [(12, .int (nI (0))), (10, .long (1000000000)), (8, .long (0)), (6, .long (0)), (4, .long (m_upper z0)), (0, .ref (q 0)), (1, .long (v)), (3, .int (bb (b)))]) hx hb dMo_multiply_18 hl (by decide) rfl (fun ls hl => ?_)
  exact hB20 11 s.heap [] ls z0 (m_upper z0) 0 0 1000000000 0 (by omega) hR (by first | assumption | omega) (fun _ => by decide) hP hS (lv_sub hl [5, 6, 7, 4, 3, 2, 1, 0] rfl)
theorem dMo_divide_0 : decode ccMo_divide 0 = .ok (.aload_n 0, 1) := by decide +kernel
theorem dMo_divide_1 : decode ccMo_divide 1 = .ok (.getfield 118, 3) := by decide +kernel
theorem dMo_divide_4 : decode ccMo_divide 4 = .ok (.lstore 4, 2) := by decide +kernel
theorem dMo_divide_6 : decode ccMo_divide 6 = .ok (.lconst 0, 1) := by decide +kernel
theorem dMo_divide_7 : decode ccMo_divide 7 = .ok (.lstore 6, 2) := by decide +kernel
theorem dMo_divide_9 : decode ccMo_divide 9 = .ok (.ldc2_w 124, 3) := by decide +kernel
theorem dMo_divide_12 : decode ccMo_divide 12 = .ok (.lstore 8, 2) := by decide +kernel
theorem dMo_divide_14 : decode ccMo_divide 14 = .ok (.iconst 0, 1) := by decide +kernel
theorem dMo_divide_15 : decode ccMo_divide 15 = .ok (.istore 10, 2) := by decide +kernel
theorem dMo_divide_17 : decode ccMo_divide 17 = .ok (.iload 10, 2) := by decide +kernel
theorem dMo_divide_19 : decode ccMo_divide 19 = .ok (.bipush 10, 2) := by decide +kernel
theorem dMo_divide_21 : decode ccMo_divide 21 = .ok (.if_icmp .ge 56, 3) := by decide +kernel
theorem dMo_divide_24 : decode ccMo_divide 24 = .ok (.ldc2_w 67, 3) := by decide +kernel
theorem dMo_divide_27 : decode ccMo_divide 27 = .ok (.lload 4, 2) := by decide +kernel
theorem dMo_divide_29 : decode ccMo_divide 29 = .ok (.lmul, 1) := by decide +kernel
theorem dMo_divide_30 : decode ccMo_divide 30 = .ok (.aload_n 0, 1) := by decide +kernel
theorem dMo_divide_31 : decode ccMo_divide 31 = .ok (.getfield 115, 3) := by decide +kernel
theorem dMo_divide_34 : decode ccMo_divide 34 = .ok (.lload 8, 2) := by decide +kernel
theorem dMo_divide_36 : decode ccMo_divide 36 = .ok (.ldiv, 1) := by decide +kernel
theorem dMo_divide_37 : decode ccMo_divide 37 = .ok (.ldc2_w 67, 3) := by decide +kernel
theorem dMo_divide_40 : decode ccMo_divide 40 = .ok (.lrem, 1) := by decide +kernel
theorem dMo_divide_41 : decode ccMo_divide 41 = .ok (.ladd, 1) := by decide +kernel
theorem dMo_divide_42 : decode ccMo_divide 42 = .ok (.lstore 4, 2) := by decide +kernel
theorem dMo_divide_44 : decode ccMo_divide 44 = .ok (.ldc2_w 67, 3) := by decide +kernel
theorem dMo_divide_47 : decode ccMo_divide 47 = .ok (.lload 6, 2) := by decide +kernel
theorem dMo_divide_49 : decode ccMo_divide 49 = .ok (.lmul, 1) := by decide +kernel
theorem dMo_divide_50 : decode ccMo_divide 50 = .ok (.lload 4, 2) := by decide +kernel
theorem dMo_divide_52 : decode ccMo_divide 52 = .ok (.lload_n 1, 1) := by decide +kernel
theorem dMo_divide_53 : decode ccMo_divide 53 = .ok (.ldiv, 1) := by decide +kernel
theorem dMo_divide_54 : decode ccMo_divide 54 = .ok (.ladd, 1) := by decide +kernel
theorem dMo_divide_55 : decode ccMo_divide 55 = .ok (.lstore 6, 2) := by decide +kernel
theorem dMo_divide_57 : decode ccMo_divide 57 = .ok (.lload 4, 2) := by decide +kernel
theorem dMo_divide_59 : decode ccMo_divide 59 = .ok (.lload_n 1, 1) := by decide +kernel
theorem dMo_divide_60 : decode ccMo_divide 60 = .ok (.lrem, 1) := by decide +kernel
theorem dMo_divide_61 : decode ccMo_divide 61 = .ok (.lstore 4, 2) := by decide +kernel
theorem dMo_divide_63 : decode ccMo_divide 63 = .ok (.lload 8, 2) := by decide +kernel
theorem dMo_divide_65 : decode ccMo_divide 65 = .ok (.ldc2_w 67, 3) := by decide +kernel
theorem dMo_divide_68 : decode ccMo_divide 68 = .ok (.ldiv, 1) := by decide +kernel
theorem dMo_divide_69 : decode ccMo_divide 69 = .ok (.lstore 8, 2) := by decide +kernel
theorem dMo_divide_71 : decode ccMo_divide 71 = .ok (.iinc 10 1, 3) := by decide +kernel
theorem dMo_divide_74 : decode ccMo_divide 74 = .ok (.goto (-57), 3) := by decide +kernel
theorem dMo_divide_77 : decode ccMo_divide 77 = .ok (.aload_n 0, 1) := by decide +kernel
theorem dMo_divide_78 : decode ccMo_divide 78 = .ok (.lload 4, 2) := by decide +kernel
theorem dMo_divide_80 : decode ccMo_divide 80 = .ok (.putfield 118, 3) := by decide +kernel
theorem dMo_divide_83 : decode ccMo_divide 83 = .ok (.aload_n 0, 1) := by decide +kernel
theorem dMo_divide_84 : decode ccMo_divide 84 = .ok (.lload 6, 2) := by decide +kernel
theorem dMo_divide_86 : decode ccMo_divide 86 = .ok (.putfield 115, 3) := by decide +kernel
theorem dMo_divide_89 : decode ccMo_divide 89 = .ok (.aload_n 0, 1) := by decide +kernel
theorem dMo_divide_90 : decode ccMo_divide 90 = .ok (.aload_n 0, 1) := by decide +kernel
theorem dMo_divide_91 : decode ccMo_divide 91 = .ok (.getfield 111, 3) := by decide +kernel
theorem dMo_divide_94 : decode ccMo_divide 94 = .ok (.iload_n 3, 1) := by decide +kernel
theorem dMo_divide_95 : decode ccMo_divide 95 = .ok (.if_icmp .eq 7, 3) := by decide +kernel
theorem dMo_divide_98 : decode ccMo_divide 98 = .ok (.iconst 1, 1) := by decide +kernel
theorem dMo_divide_99 : decode ccMo_divide 99 = .ok (.goto 4, 3) := by decide +kernel
theorem dMo_divide_102 : decode ccMo_divide 102 = .ok (.iconst 0, 1) := by decide +kernel
theorem dMo_divide_103 : decode ccMo_divide 103 = .ok (.putfield 111, 3) := by decide +kernel
theorem dMo_divide_106 : decode ccMo_divide 106 = .ok (.return_, 1) := by decide +kernel
def fMo_divide_17  : Nat → SM → Int64 → Bool → Int64 → Int64 → Int64 → Nat → SM
  | 0, z, v, b, v4, v6, v8, v10 => z
  | fu + 1, z, v, b, v4, v6, v8, v10 => (if 10 ≤ v10 then (if (m_amin z) = b then m_amin_s (m_lower_s (m_upper_s z v4) v6) false else m_amin_s (m_lower_s (m_upper_s z v4) v6) true) else fMo_divide_17 fu z v b (((10 * v4) + (((m_lower z) / v8) % 10)) % v) ((10 * v6) + (((10 * v4) + (((m_lower z) / v8) % 10)) / v)) (v8 / 10) (v10 + 1))
def fMo_divide (z0 : SM) (v : Int64) (b : Bool) : SM :=
  fMo_divide_17 11 z0 v b (m_upper z0) 0 1000000000 0
set_option maxHeartbeats 4000000 in
set_option maxRecDepth 100000 in
theorem kMo_divide (l : Launch) (D : va_G) (q : Nat → Nat) (cI cJ cZ : ClassId) (hq : m_inj q) (z0 : SM) (v : Int64) (b : Bool) (hv : ¬ v = 0) : Met l yMo_divide wsMo_divide { frames := 0, cells := 0, slots := 0, locals := 0 } (va_Pc [.ref (q 0), .long (v), .int (bb (b))] (m_C D q cI cJ cZ z0)) (cQw none (m_W D q cI cJ cZ (fMo_divide z0 v b)) (m_qs q)) 0 0 (m_qs q) := by
  refine Met.ofW (cc := ccMo_divide) (maxL := 11) (ret := none) (by decide +kernel) rfl ?_
  intro p e s m args below meth c s₁ B hml hv
  obtain ⟨rfl, hP, hK⟩ := hv
  have hx := B.exec
  have hb := B.bytes
  have hr := B.returns
  have hts := atoms_spec (ws := wsMo_divide) B.pre
  have hown : s.vm.findClass RMo = some m.cls := findClass_of_methodNamed B.named
  have hlocks := B.notSynchronized
  have w0 := hts (.fieldLink RMo 118 "DrumMachineModel" "upper" "J") (List.mem_cons_of_mem _ wm4_191)
  have w1 := hts (.fieldLink RMo 115 "DrumMachineModel" "lower" "J") (List.mem_cons_of_mem _ wm4_192)
  have w2 := hts (.fieldLink RMo 111 "DrumMachineModel" "negative" "Z") (List.mem_cons_of_mem _ wm4_194)
  have w3 := hts (.constantLong RMo 67 (10)) (List.mem_cons_of_mem _ wm4_183)
  have w4 := hts (.constantLong RMo 124 (1000000000)) (List.mem_cons_of_mem _ wm5_114)
  have i0 : ∀ w ∈ u_ws RMo TMo 28, w ∈ wsMo_divide := fun w h => List.mem_cons_of_mem _ (inAMo w h)
  have hS : va_S (m_qs q) s.heap s.heap [] := va_S.rf
  have hl := lv_entry ([.ref (q 0), .long (v), .int (bb (b))]) (n := 11) (Nat.le_of_ble_eq_true rfl)
  rw [lg_entry_eq]
  generalize (lg_sl ([.ref (q 0), .long (v), .int (bb (b))]) ++ List.replicate (11 - (lg_sl ([.ref (q 0), .long (v), .int (bb (b))])).length) Slot.unset).toArray = ls at hl ⊢
  have hl : lv_has ls 11 [(0, .ref (q 0)), (1, .long (v)), (3, .int (bb (b)))] := hl
  have hB17 : ∀ (n17 : Nat) (H : Heap) (locs : List Loc) (ls : Array Slot) (z : SM) (v4 : Int64) (v6 : Int64) (v8 : Int64) (v10 : Nat), 10 - v10 < n17 → fMo_divide z0 v b = fMo_divide_17 n17 z v b v4 v6 v8 v10 → (v10 ≤ 10) → (v10 ≤ 9 → v8.toInt = 10 ^ (9 - v10)) → m_W D q cI cJ cZ z H → va_S (m_qs q) s.heap H locs → lv_has ls 11 [(0, .ref (q 0)), (1, .long (v)), (3, .int (bb (b))), (4, .long (v4)), (6, .long (v6)), (8, .long (v8)), (10, .int (nI (v10)))] → W p l e (headSpec wsMo_divide { frames := 0, cells := 0, slots := 0, locals := 0 }).room s m ([.ref (q 0), .long (v), .int (bb (b))] : List Value).toArray below meth c H locs 0 0 (MQ below (cQw none (m_W D q cI cJ cZ (fMo_divide z0 v b)) (m_qs q)) ([.ref (q 0), .long (v), .int (bb (b))] : List Value).toArray s 0 0 (m_qs q)) (F0 m 17 ls []) := by
    intro n17
    induction n17 with
    | zero => intro H locs ls z v4 v6 v8 v10 hn17; exact absurd hn17 (Nat.not_lt_zero _)
    | succ n17 ih17 =>
      intro H locs ls z v4 v6 v8 v10 hn17 hR h10 hu hP hS hl
      rw [fMo_divide_17.eq_2] at hR
      refine lv_iload hx hb dMo_divide_17 (lv_at hl 6 rfl) ?_
      refine lv_bipush (v := 10) hx hb dMo_divide_19 (by decide) ?_
      refine wn_ge (x := v10) (y := 10) hx hb (by omega) (by omega) dMo_divide_21 rfl (fun h21 => ?_) (fun h21 => ?_)
      · have hR := hR.trans (if_pos h21)
        refine lv_aload_n hx hb dMo_divide_77 rfl (lv_at hl 0 rfl) ?_
        refine lv_lload hx hb dMo_divide_78 (lv_at hl 3 rfl) ?_
        refine mp0_upper v4 hq hS hx hb hts i0 hown hK hP w0 dMo_divide_80 (fun H locs hP hS => ?_)
        refine lv_aload_n hx hb dMo_divide_83 rfl (lv_at hl 0 rfl) ?_
        refine lv_lload hx hb dMo_divide_84 (lv_at hl 4 rfl) ?_
        refine mp0_lower v6 hq hS hx hb hts i0 hown hK hP w1 dMo_divide_86 (fun H locs hP hS => ?_)
        refine lv_aload_n hx hb dMo_divide_89 rfl (lv_at hl 0 rfl) ?_
        refine lv_aload_n hx hb dMo_divide_90 rfl (lv_at hl 0 rfl) ?_
        refine mg0_negative_e (v := m_amin z) ((m_amin_lower _ _).trans ((m_amin_upper _ _).trans (rfl))) hx hb hts i0 hown hK hP w2 dMo_divide_91 ?_
        refine lv_iload_n hx hb dMo_divide_94 rfl (lv_at hl 2 rfl) ?_
        refine wz_cmpeq hx hb dMo_divide_95 rfl (fun h95 => ?_) (fun h95 => ?_)
        · have hR := hR.trans (if_pos h95)
          refine lv_iconst (v := 0) hx hb dMo_divide_102 (by decide) ?_
          refine mp0_negative false hq hS hx hb hts i0 hown hK hP w2 dMo_divide_103 (fun H locs hP hS => ?_)
          exact W.vret hx hb hr (fun t ht _ => ⟨rfl, by rw [hR, ht]; exact hP, hS.F ht⟩) hS.2.2 dMo_divide_106
        · have hR := hR.trans (if_neg h95)
          refine lv_iconst (v := 1) hx hb dMo_divide_98 (by decide) ?_
          refine lv_goto hx hb dMo_divide_99 rfl ?_
          refine mp0_negative (true) hq hS hx hb hts i0 hown hK hP w2 dMo_divide_103 (fun H locs hP hS => ?_)
          exact W.vret hx hb hr (fun t ht _ => ⟨rfl, by rw [hR, ht]; exact hP, hS.F ht⟩) hS.2.2 dMo_divide_106
      · have hR := hR.trans (if_neg h21)
        refine lv_ldc2 (v := 10) hx hb hown w3 dMo_divide_24 ?_
        refine lv_lload hx hb dMo_divide_27 (lv_at hl 3 rfl) ?_
        refine lv_lmul hx hb dMo_divide_29 ?_
        refine lv_aload_n hx hb dMo_divide_30 rfl (lv_at hl 0 rfl) ?_
        refine mg0_lower hx hb hts i0 hown hK hP w1 dMo_divide_31 ?_
        refine lv_lload hx hb dMo_divide_34 (lv_at hl 5 rfl) ?_
        refine lv_ldiv hx hb dMo_divide_36 (un_ne (by omega) hu) ?_
        refine lv_ldc2 (v := 10) hx hb hown w3 dMo_divide_37 ?_
        refine lm_lrem hx hb dMo_divide_40 (by decide) ?_
        refine lv_ladd hx hb dMo_divide_41 ?_
        refine lv_lstore (lv' := [(4, .long ((10 * v4) + (((m_lower z) / v8) % 10))), (0, .ref (q 0)), (1, .long (v)), (3, .int (bb (b))), (6, .long (v6)), (8, .long (v8)), (10, .int (nI (v10)))]) hx hb dMo_divide_42 hl (by decide) rfl (fun ls hl => ?_)
        refine lv_ldc2 (v := 10) hx hb hown w3 dMo_divide_44 ?_
        refine lv_lload hx hb dMo_divide_47 (lv_at hl 4 rfl) ?_
        refine lv_lmul hx hb dMo_divide_49 ?_
        refine lv_lload hx hb dMo_divide_50 (lv_at hl 0 rfl) ?_
        refine lv_lload_n hx hb dMo_divide_52 rfl (lv_at hl 2 rfl) ?_
        refine lv_ldiv hx hb dMo_divide_53 hv ?_
        refine lv_ladd hx hb dMo_divide_54 ?_
        refine lv_lstore (lv' := [(6, .long ((10 * v6) + (((10 * v4) + (((m_lower z) / v8) % 10)) / v))), (4, .long ((10 * v4) + (((m_lower z) / v8) % 10))), (0, .ref (q 0)), (1, .long (v)), (3, .int (bb (b))), (8, .long (v8)), (10, .int (nI (v10)))]) hx hb dMo_divide_55 hl (by decide) rfl (fun ls hl => ?_)
        refine lv_lload hx hb dMo_divide_57 (lv_at hl 1 rfl) ?_
        refine lv_lload_n hx hb dMo_divide_59 rfl (lv_at hl 3 rfl) ?_
        refine lm_lrem hx hb dMo_divide_60 hv ?_
        refine lv_lstore (lv' := [(4, .long (((10 * v4) + (((m_lower z) / v8) % 10)) % v)), (6, .long ((10 * v6) + (((10 * v4) + (((m_lower z) / v8) % 10)) / v))), (0, .ref (q 0)), (1, .long (v)), (3, .int (bb (b))), (8, .long (v8)), (10, .int (nI (v10)))]) hx hb dMo_divide_61 hl (by decide) rfl (fun ls hl => ?_)
        refine lv_lload hx hb dMo_divide_63 (lv_at hl 5 rfl) ?_
        refine lv_ldc2 (v := 10) hx hb hown w3 dMo_divide_65 ?_
        refine lv_ldiv hx hb dMo_divide_68 (by decide) ?_
        refine lv_lstore (lv' := [(8, .long (v8 / 10)), (4, .long (((10 * v4) + (((m_lower z) / v8) % 10)) % v)), (6, .long ((10 * v6) + (((10 * v4) + (((m_lower z) / v8) % 10)) / v))), (0, .ref (q 0)), (1, .long (v)), (3, .int (bb (b))), (10, .int (nI (v10)))]) hx hb dMo_divide_69 hl (by decide) rfl (fun ls hl => ?_)
        refine lv_iinc (k := 6) (lv' := [(10, .int (nI (v10 + 1))), (8, .long (v8 / 10)), (4, .long (((10 * v4) + (((m_lower z) / v8) % 10)) % v)), (6, .long ((10 * v6) + (((10 * v4) + (((m_lower z) / v8) % 10)) / v))), (0, .ref (q 0)), (1, .long (v)), (3, .int (bb (b)))]) hx hb dMo_divide_71 hl rfl (nI_1 _) (by decide) rfl (fun ls hl => ?_)
        refine lv_goto hx hb dMo_divide_74 rfl ?_
        exact ih17 H locs ls z (((10 * v4) + (((m_lower z) / v8) % 10)) % v) ((10 * v6) + (((10 * v4) + (((m_lower z) / v8) % 10)) / v)) (v8 / 10) (v10 + 1) (by omega) hR (by first | assumption | omega) (un_s hu) hP hS (lv_sub hl [4, 5, 6, 2, 3, 1, 0] rfl)
  have hR := fMo_divide.eq_1 z0 v b
  refine lv_aload_n hx hb dMo_divide_0 rfl (lv_at hl 0 rfl) ?_
  refine mg0_upper hx hb hts i0 hown hK hP w0 dMo_divide_1 ?_
  refine lv_lstore (lv' := [(4, .long (m_upper z0)), (0, .ref (q 0)), (1, .long (v)), (3, .int (bb (b)))]) hx hb dMo_divide_4 hl (by decide) rfl (fun ls hl => ?_)
  refine lv_lconst (v := 0) hx hb dMo_divide_6 (by decide) ?_
  refine lv_lstore (lv' := [(6, .long (0)), (4, .long (m_upper z0)), (0, .ref (q 0)), (1, .long (v)), (3, .int (bb (b)))]) hx hb dMo_divide_7 hl (by decide) rfl (fun ls hl => ?_)
  refine lv_ldc2 (v := 1000000000) hx hb hown w4 dMo_divide_9 ?_
  refine lv_lstore (lv' := [(8, .long (1000000000)), (6, .long (0)), (4, .long (m_upper z0)), (0, .ref (q 0)), (1, .long (v)), (3, .int (bb (b)))]) hx hb dMo_divide_12 hl (by decide) rfl (fun ls hl => ?_)
  refine lv_iconst (v := 0) hx hb dMo_divide_14 (by decide) ?_
  refine lv_istore (lv' := [(10, .int (nI (0))), (8, .long (1000000000)), (6, .long (0)), (4, .long (m_upper z0)), (0, .ref (q 0)), (1, .long (v)), (3, .int (bb (b)))]) hx hb dMo_divide_15 hl (by decide) rfl (fun ls hl => ?_)
  exact hB17 11 s.heap [] ls z0 (m_upper z0) 0 1000000000 0 (by omega) hR (by first | assumption | omega) (fun _ => by decide) hP hS (lv_sub hl [4, 5, 6, 3, 2, 1, 0] rfl)
theorem kb_b {a : Int32} {k n : Nat} (ha : a.toInt ≤ n) (hk : k ≤ n) (hn : n < 100000) (h : ¬ a ≤ nI k) : k + 1 ≤ n := by
  have := lk_lt h
  rw [nI_toInt (by omega)] at this
  omega
theorem kb_m {a : Int32} {k n j : Nat} (ha : a.toInt ≤ n) (hk : k ≤ n) (hn : n < 100000) (h : ¬ a ≤ nI k) (hj : n - k < j + 1) : n - (k + 1) < j := by
  have := lk_lt h
  rw [nI_toInt (by omega)] at this
  omega
