/-! what a method that may throw asks of its start, and its ends -/
abbrev xIOB : String := "java/lang/IndexOutOfBoundsException"
abbrev xIAE : String := "java/lang/IllegalArgumentException"
abbrev xISE : String := "java/lang/IllegalStateException"
abbrev xUP : List String := ["java/lang/RuntimeException", "java/lang/Exception"]
abbrev xSUP : List String := ["java/lang/RuntimeException", "java/lang/Exception", Bundle.tN]
def STRS : List (Nat × String) := [(72, "no such line"), (98, "the piece cannot be divided by that line"), (119, "the cell cannot be given to that piece"), (124, "the cell cannot be taken from its piece"), (132, "the pieces cannot be joined"), (144, "the piece is original"), (153, "no such heart"), (155, "no such width"), (168, "there are as many bars as can be"), (170, "no such heat"), (175, "the piece has as many layers as can be"), (186, "the piece is not broken"), (191, "the piece is original and not broken"), (217, "no such thing to tell"), (274, "no such panel"), (277, "no such wind"), (285, "there never was such a piece, or no such place"), (293, "no such piece"), (295, "no such cell"), (300, "no such colour"), (302, "no such hour")]
def THR (A : Nat → Prop) (U : State) (H : Heap) : Prop := vx_Zq Bundle.tN "UNASSIGNED_STACK" Bundle.steD A U H ∧ vx_Zq Bundle.tN "SUPPRESSED_SENTINEL" Bundle.listD A U H ∧ (∀ E ∈ [xIOB, xIAE, xISE], va_Nw (.castable E E) U) ∧ (∀ q ∈ STRS, ∃ a, vk_R RX4 q.1 q.2 a U) ∧ ∀ X ∈ xSUP, va_Nw (.declares (Bundle.initS X)) U
theorem THR.call {s U : State} {H : Heap} {locs : List Loc} {A0 A1 : Nat → Prop} (h : THR A0 s s.heap) (hS : va_S A0 s.heap H locs) (hF : ∀ q, A1 q → A0 q) (hU : U.heap = H) (hW : s.WarmedH U.vm) : THR A1 U U.heap := by
  obtain ⟨h1, h2, h3, h4, h5⟩ := h
  refine ⟨?_, ?_, fun E hE => va_Nw.warmC hW (h3 E hE), fun q hq => by obtain ⟨a, ha⟩ := h4 q hq; exact ⟨a, ha.warm hW⟩, fun X hX => va_Nw.warmD hW (h5 X hX)⟩
  · exact vx_Zq.moved hW.alike ((h1.kept (H1 := U.heap) (fun a ha hA => by rw [hU]; exact hS.2.1 a ha hA)).narrow hF)
  · exact vx_Zq.moved hW.alike ((h2.kept (H1 := U.heap) (fun a ha hA => by rw [hU]; exact hS.2.1 a ha hA)).narrow hF)
def PREX (D : va_G) (cI cJ cZ cO : ClassId) (W : va_W) (sz : Nat) (U : State) : Prop := PRE D cI cJ cZ cO W sz U ∧ THR (va_A W sz) U U.heap
theorem PREX.blind {av : List Value} {D : va_G} {cI cJ cZ cO : ClassId} {W : va_W} {sz : Nat} : FrameBlind (va_Pc av (PREX D cI cJ cZ cO W sz)) := fun a U g mk q => by
  obtain ⟨q0, ⟨q1, qP, qK, qD, qE⟩, t1, t2, t3, t4, t5⟩ := q
  exact ⟨q0, ⟨q1, qP, va_K.moved (u := U) (U := U.calling g mk a) (Vm.Alike.refl U.vm) qK, qD, qE.same (U := U.calling g mk a) rfl⟩, vx_Zq.moved (u := U) (U := U.calling g mk a) (Vm.Alike.refl U.vm) t1, vx_Zq.moved (u := U) (U := U.calling g mk a) (Vm.Alike.refl U.vm) t2, fun E hE => va_Nw.same (U := U.calling g mk a) rfl rfl (t3 E hE), fun z hz => by obtain ⟨b, hb⟩ := t4 z hz; exact ⟨b, vk_R.same (u := U) (U := U.calling g mk a) rfl hb⟩, fun X hX => va_Nw.same (U := U.calling g mk a) rfl rfl (t5 X hX)⟩
theorem hnot_xIAE : ∀ w ∈ (vx_atS RX4 74 xIAE xUP).filter (fun w => !goodWord w), w ∈ [Cond.declares (Bundle.initS "java/lang/RuntimeException"), Cond.declares (Bundle.initS "java/lang/Exception"), Cond.declares (Bundle.initS Bundle.tN), Cond.castable xIAE xIAE] := by decide +kernel
theorem hgood_xIAE : ∀ w ∈ Cond.classLink RX4 70 xIAE :: Cond.initialized xIAE :: vx_atS RX4 74 xIAE xUP, vx_ot w = true := by decide +kernel
theorem hnot_xISE : ∀ w ∈ (vx_atS RX4 100 xISE xUP).filter (fun w => !goodWord w), w ∈ [Cond.declares (Bundle.initS "java/lang/RuntimeException"), Cond.declares (Bundle.initS "java/lang/Exception"), Cond.declares (Bundle.initS Bundle.tN), Cond.castable xISE xISE] := by decide +kernel
theorem hgood_xISE : ∀ w ∈ Cond.classLink RX4 96 xISE :: Cond.initialized xISE :: vx_atS RX4 100 xISE xUP, vx_ot w = true := by decide +kernel
theorem hnot_xIOB : ∀ w ∈ (vx_atS RX4 276 xIOB xUP).filter (fun w => !goodWord w), w ∈ [Cond.declares (Bundle.initS "java/lang/RuntimeException"), Cond.declares (Bundle.initS "java/lang/Exception"), Cond.declares (Bundle.initS Bundle.tN), Cond.castable xIOB xIOB] := by decide +kernel
theorem hgood_xIOB : ∀ w ∈ Cond.classLink RX4 272 xIOB :: Cond.initialized xIOB :: vx_atS RX4 276 xIOB xUP, vx_ot w = true := by decide +kernel
section THRW
variable {p : Program} {l : Launch} {e : Env} {R : Room} {s : State} {m : MethodId} {args : Array Value} {below : List Frame} {meth : Method} {c : Code} {H : Heap} {locs : List Loc} {cells slots : Nat} {Q : State → Prop}
variable {D : va_G} {cI cJ cZ cO : ClassId} {A0 : Nat → Prop} {H0 : Heap}
theorem Cut.preSX {S : Type} {wc : va_W} {w1 wa : S → va_W} {av : List Value} (h : Cut D A0 H wc w1 wa) (hK : va_K D vwCl (TY cI cJ cZ cO) s) (hE : EN s) (hT : THR A0 s s.heap) (hS : va_S A0 s.heap H locs) : PreS s H (va_Pc av (PREX D cI cJ cZ cO wc H.size)) av :=
  ⟨PREX.blind, fun U hU hW => ⟨rfl, ⟨by rw [hU], by rw [hU]; exact h.1, va_K.moved hW.alike hK, h.2.1, hE.warm hW⟩, by exact hT.call hS h.2.2.1 hU hW⟩⟩
theorem Cut.preVX {S : Type} {wc : va_W} {w1 wa : S → va_W} {As : List Value} {C : String} {T : u_T} {N qb ci b : Nat} {fs : List Value} (h : Cut D A0 H wc w1 wa) (hK : va_K D vwCl (TY cI cJ cZ cO) s) (hE : EN s) (hT : THR A0 s s.heap) (hS : va_S A0 s.heap H locs) (hb : wc[qb]? = some (b, .inr (ci, fs))) (hc : vwCl[ci]? = some (C, T, N)) : PreV s H C b (va_Pc (.ref b :: As) (PREX D cI cJ cZ cO wc H.size)) As :=
  ⟨PREX.blind, va_recv (q := (C, T, N)) hK h.1 hc hb, fun U hU hW => ⟨rfl, ⟨by rw [hU], by rw [hU]; exact h.1, va_K.moved hW.alike hK, h.2.1, hE.warm hW⟩, by exact hT.call hS h.2.2.1 hU hW⟩⟩
theorem met_goX {y : MethodName} {ws ws' : List Cond} {rm : Room} {cc : ByteArray} {maxL : Nat} {ret : Option FieldType} {av : List Value} {W0 : va_W} {sz : Nat} {Qc : Array Value → State → Outcome → State → Prop} {XC : String → State → State → Prop} {mc ms : Nat} {free : Addr → Prop}
    (own : String) (ho : y.cls = own) (hy : plainName y.cls = true) (hw : ws = Cond.code y cc maxL ret :: ws') (hlen : (lg_sl av).length ≤ maxL)
    (body : ∀ (p : Program) (e : Env) (s : State) (m : MethodId) (args : Array Value) (below : List Frame) (meth : Method) (c : Code) (ls : Array Slot), p.tables.exec = Jvm.exec → c.code = cc → meth.sig.returnType = ret → (∀ w ∈ ws, w.before args s = true) → s.vm.findClass own = some m.cls → meth.locks = false → meth.name = y.name → c.maxLocals = maxL → (∀ x ∈ c.exceptionTable.toList, False) → s.heap.size = sz → va_P D vwCl W0 s.heap → va_K D vwCl (TY cI cJ cZ cO) s → EN s → THR (va_A W0 sz) s s.heap → va_D (va_A W0 sz) W0 → (∀ q : Nat, s.heap.size ≤ q → va_A W0 sz q) → va_S (va_A W0 sz) s.heap s.heap [] → lv_has ls maxL (lv_args 0 av) →
      W p l e rm s m args below meth c s.heap [] 0 0 (vx_MQ below Qc XC args s mc ms free) (F0 m 0 ls [])) : vx_Met l y ws rm (va_Pc av (PREX D cI cJ cZ cO W0 sz)) Qc XC mc ms free := by
  refine vx_ofW (cc := cc) (maxL := maxL) (ret := ret) hy hw ?_
  intro p e s m args below meth c s₁ B hml ht hv
  obtain ⟨rfl, ⟨hsz, hP, hK, hD0, hE⟩, hT⟩ := hv
  have hown : s.vm.findClass y.cls = some m.cls := findClass_of_methodNamed B.named
  have hin : meth.name = y.name := (name_of_methodNamed B.named B.method).1
  have h := lv_entry av hlen
  rw [lg_entry_eq]
  exact body p e s m _ below meth c _ B.exec B.bytes B.returns (atoms_spec (ws := ws) B.pre) (by rw [← ho]; exact hown) B.notSynchronized hin hml ht hsz hP hK hE hT (hD0.self) (fun q h => Or.inr (by rw [← hsz]; exact h)) va_S.rf h
theorem va_P.keep {w : va_W} {H1 : Heap} (hP : va_P D vwCl w H) (hk : ∀ q : Nat, q < H.size → H1[q]? = H[q]?) : va_P D vwCl w H1 := fun k q hq => (hP k q hq).kept (hk q.1 (hP k q hq).lt)
section X1
variable {S : Type} {px : String → S → Prop} {Wf : S → va_W} {Qc : Array Value → State → Outcome → State → Prop} {A : Nat → Prop} {pc mc ms : Nat} {ls : Array Slot} {rest : List Value}
theorem out_x {E : String} {ce : Cell} {q : Addr} (u : S) (ht : ∀ x ∈ c.exceptionTable.toList, False) (hlocks : meth.locks = false) (hcell : H[q]? = some ce) (hv : ce.vm = .none) (hcl : s.vm.findClass E = some ce.cls) (hw : px E u) (hP : va_P D vwCl (Wf u) H) (hD : va_D A (Wf u)) (hS : va_S A s.heap H locs) (hc : cells ≤ mc) (hs : slots ≤ ms) : vx_W p l e R s m args below meth c H locs cells slots (vx_MQ below Qc (vx_X (fun _ => True) (fun E u t => px E u ∧ POST D A (Wf u) t) A) args s mc ms A) (F0 m pc ls rest) q :=
  vx_out (fun x hx => (ht x hx).elim) hlocks hcell hv hcl (fun t h1 _ => ⟨u, trivial, ⟨hw, by show va_P D vwCl (Wf u) t.heap; rw [h1]; exact hP, hD⟩, hS.F h1⟩) hS.2.2 hc hs
theorem thr_S {cc : ByteArray} (hexec : p.tables.exec = Jvm.exec) (hb : c.code = cc) (hl : l.stackTraces = false) {cls text : String} {ik is ic : Nat} (u : S)
    (hown : s.vm.findClass RX4 = some m.cls) (hcls : Bundle.fit cls = true) (hin : cls ∈ [xIOB, xIAE, xISE])
    (hk : (Cond.classLink RX4 ik cls).before args s = true) (hini : (Cond.initialized cls).before args s = true) (hst : (is, text) ∈ STRS) (hat : ∀ w ∈ (vx_atS RX4 ic cls xUP).filter goodWord, w.before args s = true)
    (hnot : ∀ w ∈ (vx_atS RX4 ic cls xUP).filter (fun w => !goodWord w), w ∈ [Cond.declares (Bundle.initS "java/lang/RuntimeException"), Cond.declares (Bundle.initS "java/lang/Exception"), Cond.declares (Bundle.initS Bundle.tN), Cond.castable cls cls])
    (hgood : ∀ w ∈ Cond.classLink RX4 ik cls :: Cond.initialized cls :: vx_atS RX4 ic cls xUP, vx_ot w = true)
    (hT : THR A s s.heap) (hS : va_S A s.heap H locs) (hsize : ls.size = c.maxLocals)
    (d0 : decode cc pc = .ok (.new ik, 3)) (d3 : decode cc (pc + 3) = .ok (.dup, 1)) (d4 : decode cc (pc + 4) = .ok (.ldc is, 2)) (d6 : decode cc (pc + 6) = .ok (.invokespecial ic, 3)) (d9 : decode cc (pc + 9) = .ok (.athrow, 1))
    (ht : ∀ x ∈ c.exceptionTable.toList, False) (hRframes : 5 < R.frames) (hRlocals : (rest.map fun v => v.category).sum + 82 ≤ R.locals) (hRcells : cells + 1 ≤ R.cells) (hRslots : slots + 6 ≤ R.slots) (hlocks : meth.locks = false)
    (hw : px cls u) (hP : va_P D vwCl (Wf u) H) (hD : va_D A (Wf u)) (hc : cells + 1 ≤ mc) (hs : slots + 6 ≤ ms) :
    W p l e R s m args below meth c H locs cells slots (vx_MQ below Qc (vx_X (fun _ => True) (fun E u t => px E u ∧ POST D A (Wf u) t) A) args s mc ms A) (F0 m pc ls rest) := by
  obtain ⟨sa, hstr⟩ := hT.2.2.2.1 _ hst
  exact vx_throwS (names := xUP) hexec hb hl hown hcls (by decide +kernel) hk hini hstr (vx_hat hat hnot (vx_c (va_Nw.use rfl (hT.2.2.2.2 _ (by decide))) (vx_c (va_Nw.use rfl (hT.2.2.2.2 _ (by decide))) (vx_c (va_Nw.use rfl (hT.2.2.2.2 _ (by decide))) (vx_c (va_Nw.use rfl (hT.2.2.1 cls hin)) vx_n))))) hgood hT.1 hT.2.1 hS hsize d0 d3 d4 d6 d9 (fun x hx => (ht x hx).elim) hRframes hRlocals hRcells hRslots hlocks
    (fun t _ h1 h2 => ⟨u, trivial, ⟨hw, hP.keep h2, hD⟩, Nat.le_trans hS.1 h1, fun q g1 g2 => by rw [h2 q (Nat.lt_of_lt_of_le g1 hS.1)]; exact hS.2.1 q g1 g2⟩) hS.2.2 hc hs
theorem thr_SW {cc : ByteArray} (hexec : p.tables.exec = Jvm.exec) (hb : c.code = cc) (hl : l.stackTraces = false) {cls text : String} {ik is ic : Nat} (u : S)
    (hown : s.vm.findClass RX4 = some m.cls) (hcls : Bundle.fit cls = true) (hin : cls ∈ [xIOB, xIAE, xISE])
    (hk : (Cond.classLink RX4 ik cls).before args s = true) (hini : (Cond.initialized cls).before args s = true) (hst : (is, text) ∈ STRS) (hat : ∀ w ∈ (vx_atS RX4 ic cls xUP).filter goodWord, w.before args s = true)
    (hnot : ∀ w ∈ (vx_atS RX4 ic cls xUP).filter (fun w => !goodWord w), w ∈ [Cond.declares (Bundle.initS "java/lang/RuntimeException"), Cond.declares (Bundle.initS "java/lang/Exception"), Cond.declares (Bundle.initS Bundle.tN), Cond.castable cls cls])
    (hgood : ∀ w ∈ Cond.classLink RX4 ik cls :: Cond.initialized cls :: vx_atS RX4 ic cls xUP, vx_ot w = true)
    (hT : THR A s s.heap) (hS : va_S A s.heap H locs) (hsize : ls.size = c.maxLocals)
    (d0 : decode cc pc = .ok (.new ik, 3)) (d3 : decode cc (pc + 3) = .ok (.dup, 1)) (d4 : decode cc (pc + 4) = .ok (.ldc_w is, 3)) (d7 : decode cc (pc + 7) = .ok (.invokespecial ic, 3)) (d10 : decode cc (pc + 10) = .ok (.athrow, 1))
    (ht : ∀ x ∈ c.exceptionTable.toList, False) (hRframes : 5 < R.frames) (hRlocals : (rest.map fun v => v.category).sum + 82 ≤ R.locals) (hRcells : cells + 1 ≤ R.cells) (hRslots : slots + 6 ≤ R.slots) (hlocks : meth.locks = false)
    (hw : px cls u) (hP : va_P D vwCl (Wf u) H) (hD : va_D A (Wf u)) (hc : cells + 1 ≤ mc) (hs : slots + 6 ≤ ms) :
    W p l e R s m args below meth c H locs cells slots (vx_MQ below Qc (vx_X (fun _ => True) (fun E u t => px E u ∧ POST D A (Wf u) t) A) args s mc ms A) (F0 m pc ls rest) := by
  obtain ⟨sa, hstr⟩ := hT.2.2.2.1 _ hst
  exact vx_throwSW (names := xUP) hexec hb hl hown hcls (by decide +kernel) hk hini hstr (vx_hat hat hnot (vx_c (va_Nw.use rfl (hT.2.2.2.2 _ (by decide))) (vx_c (va_Nw.use rfl (hT.2.2.2.2 _ (by decide))) (vx_c (va_Nw.use rfl (hT.2.2.2.2 _ (by decide))) (vx_c (va_Nw.use rfl (hT.2.2.1 cls hin)) vx_n))))) hgood hT.1 hT.2.1 hS hsize d0 d3 d4 d7 d10 (fun x hx => (ht x hx).elim) hRframes hRlocals hRcells hRslots hlocks
    (fun t _ h1 h2 => ⟨u, trivial, ⟨hw, hP.keep h2, hD⟩, Nat.le_trans hS.1 h1, fun q g1 g2 => by rw [h2 q (Nat.lt_of_lt_of_le g1 hS.1)]; exact hS.2.1 q g1 g2⟩) hS.2.2 hc hs
end X1
section X2
variable {wc : va_W} {st0 rest : List Value} {pc mc ms : Nat} {ls : Array Slot} {av : Array Value}
theorem cx_i {S : Type} {post : Int32 → S → Prop} {px : String → S → Prop} {w1 wa : S → va_W} (hC : Cut D A0 H wc w1 wa) (hS : va_S A0 H0 H locs)
    (hr : vx_Run p l e R s m args below meth c H locs cells slots mc ms (F0 m pc ls st0) rest (va_Qi post (fun u t => POST D (va_A wc H.size) (w1 u) t) (va_A wc H.size) av) (vx_X (fun _ => True) (fun E u t => px E u ∧ POST D (va_A wc H.size) (w1 u) t) (va_A wc H.size)) (va_A wc H.size))
    (kx : ∀ (E : String) (ce : Cell) (q9 : Addr) (u : S) (H1 : Heap) (locs1 : List Loc), px E u → va_P D vwCl (wa u) H1 → va_D A0 (wa u) → va_S A0 H0 H1 locs1 → H1[q9]? = some ce → ce.vm = .none → s.vm.findClass E = some ce.cls → vx_W p l e R s m args below meth c H1 locs1 (cells + mc) (slots + ms) Q (F0 m pc ls rest) q9)
    (kk : ∀ (r : Int32) (u : S) (H1 : Heap) (locs1 : List Loc), post r u → va_P D vwCl (wa u) H1 → va_D A0 (wa u) → va_S A0 H0 H1 locs1 → W p l e R s m args below meth c H1 locs1 (cells + mc) (slots + ms) Q (F0 m (pc + 3) ls (.int r :: rest))) : W p l e R s m args below meth c H locs cells slots Q (F0 m pc ls st0) := by
  refine vx_calli hr hS (fun q _ h => hC.2.2.1 q h) hC.2.2.1 (fun q _ h => hC.2.2.1 q h) (fun E ce q9 u t H1 locs1 ht hvm _ hB hz1 hk1 hS g1 g2 g3 => ?_) (fun r u t H1 locs1 ht hvm hw hB hz1 hk1 hS => ?_)
  · obtain ⟨hw, hP1, hD1⟩ := hB
    rw [ht] at hP1
    obtain ⟨hP, hD⟩ := hC.2.2.2 u H1 hP1 hD1 hk1
    exact kx E ce q9 u H1 locs1 hw hP hD hS g1 g2 g3
  · obtain ⟨hP1, hD1⟩ := hB
    rw [ht] at hP1
    obtain ⟨hP, hD⟩ := hC.2.2.2 u H1 hP1 hD1 hk1
    exact kk r u H1 locs1 hw hP hD hS
theorem cx_v {S : Type} {post : S → Prop} {px : String → S → Prop} {w1 wa : S → va_W} (hC : Cut D A0 H wc w1 wa) (hS : va_S A0 H0 H locs)
    (hr : vx_Run p l e R s m args below meth c H locs cells slots mc ms (F0 m pc ls st0) rest (va_Qv post (fun u t => POST D (va_A wc H.size) (w1 u) t) (va_A wc H.size) av) (vx_X (fun _ => True) (fun E u t => px E u ∧ POST D (va_A wc H.size) (w1 u) t) (va_A wc H.size)) (va_A wc H.size))
    (kx : ∀ (E : String) (ce : Cell) (q9 : Addr) (u : S) (H1 : Heap) (locs1 : List Loc), px E u → va_P D vwCl (wa u) H1 → va_D A0 (wa u) → va_S A0 H0 H1 locs1 → H1[q9]? = some ce → ce.vm = .none → s.vm.findClass E = some ce.cls → vx_W p l e R s m args below meth c H1 locs1 (cells + mc) (slots + ms) Q (F0 m pc ls rest) q9)
    (kk : ∀ (u : S) (H1 : Heap) (locs1 : List Loc), post u → va_P D vwCl (wa u) H1 → va_D A0 (wa u) → va_S A0 H0 H1 locs1 → W p l e R s m args below meth c H1 locs1 (cells + mc) (slots + ms) Q (F0 m (pc + 3) ls rest)) : W p l e R s m args below meth c H locs cells slots Q (F0 m pc ls st0) := by
  refine vx_callv hr hS (fun q _ h => hC.2.2.1 q h) hC.2.2.1 (fun q _ h => hC.2.2.1 q h) (fun E ce q9 u t H1 locs1 ht hvm _ hB hz1 hk1 hS g1 g2 g3 => ?_) (fun u t H1 locs1 ht hvm hw hB hz1 hk1 hS => ?_)
  · obtain ⟨hw, hP1, hD1⟩ := hB
    rw [ht] at hP1
    obtain ⟨hP, hD⟩ := hC.2.2.2 u H1 hP1 hD1 hk1
    exact kx E ce q9 u H1 locs1 hw hP hD hS g1 g2 g3
  · obtain ⟨hP1, hD1⟩ := hB
    rw [ht] at hP1
    obtain ⟨hP, hD⟩ := hC.2.2.2 u H1 hP1 hD1 hk1
    exact kk u H1 locs1 hw hP hD hS
theorem vx_callr {free : Addr → Prop} {A1 AX : Nat → Prop} {a : Array Value} {S SX : Type} {post : S → Prop} {px : SX → Prop} {B : S → Nat → State → Prop} {BX : String → SX → State → Prop} (hr : vx_Run p l e R s m args below meth c H locs cells slots mc ms (F0 m pc ls st0) rest (va_Qr post B A1 a) (vx_X px BX AX) free) (hS : va_S A0 H0 H locs) (hA : ∀ q, q < H.size → A1 q → A0 q) (hf : ∀ q, free q → A0 q) (hAX : ∀ q, q < H.size → AX q → A0 q)
    (kx : ∀ (E : String) (ce : Cell) (q9 : Addr) (u : SX) (t : State) (H1 : Heap) (locs1 : List Loc), t.heap = H1 → s.vm.Alike t.vm → px u → BX E u t → H.size ≤ H1.size → (∀ q : Nat, q < H.size → ¬ AX q → H1[q]? = H[q]?) → va_S A0 H0 H1 locs1 → H1[q9]? = some ce → ce.vm = .none → s.vm.findClass E = some ce.cls → vx_W p l e R s m args below meth c H1 locs1 (cells + mc) (slots + ms) Q (F0 m pc ls rest) q9)
    (kk : ∀ (u : S) (ra : Nat) (t : State) (H1 : Heap) (locs1 : List Loc), t.heap = H1 → s.vm.Alike t.vm → post u → B u ra t → H.size ≤ H1.size → (∀ q : Nat, q < H.size → ¬ A1 q → H1[q]? = H[q]?) → va_S A0 H0 H1 locs1 → W p l e R s m args below meth c H1 locs1 (cells + mc) (slots + ms) Q (F0 m (pc + 3) ls (.ref ra :: rest))) : W p l e R s m args below meth c H locs cells slots Q (F0 m pc ls st0) := by
  intro T hT X
  rcases hr T hT X with ⟨v, st₀, t, T', L, h0, X', hL, e1, e2, ⟨⟨u, ra, hv, hp, hb⟩, hF⟩, st⟩ | ⟨q, st₀, t, T', L, E, ce, h0, X', hL, e1, e2, ⟨u, hp, hb, hF⟩, hce, hcv, hcl, st⟩
  · cases hv
    obtain ⟨k1, k2, k3⟩ := vx_keep h0 e1 hS hA hf hL hF
    obtain ⟨t2, a1, b1⟩ := kk u ra t T'.heap (locs ++ L) e1.symm (by rw [← e2]; exact X'.warmed.alike) hp hb k1 k2 k3 T' rfl X'
    exact ⟨t2, st t2 a1, b1⟩
  · obtain ⟨k1, k2, k3⟩ := vx_keep h0 e1 hS hAX hf hL hF
    obtain ⟨t2, a1, b1⟩ := kx E ce q u t T'.heap (locs ++ L) e1.symm (by rw [← e2]; exact X'.warmed.alike) hp hb k1 k2 k3 (by rw [e1]; exact hce) hcv hcl T' rfl X'
    exact ⟨t2, st.trans a1, b1⟩
theorem cx_r {S : Type} {post : S → Prop} {px : String → S → Prop} {ra : S → Nat} {w1 wa : S → va_W} (hC : Cut D A0 H wc w1 wa) (hS : va_S A0 H0 H locs)
    (hr : vx_Run p l e R s m args below meth c H locs cells slots mc ms (F0 m pc ls st0) rest (va_Qr post (fun u a t => a = ra u ∧ POST D (va_A wc H.size) (w1 u) t) (va_A wc H.size) av) (vx_X (fun _ => True) (fun E u t => px E u ∧ POST D (va_A wc H.size) (w1 u) t) (va_A wc H.size)) (va_A wc H.size))
    (kx : ∀ (E : String) (ce : Cell) (q9 : Addr) (u : S) (H1 : Heap) (locs1 : List Loc), px E u → va_P D vwCl (wa u) H1 → va_D A0 (wa u) → va_S A0 H0 H1 locs1 → H1[q9]? = some ce → ce.vm = .none → s.vm.findClass E = some ce.cls → vx_W p l e R s m args below meth c H1 locs1 (cells + mc) (slots + ms) Q (F0 m pc ls rest) q9)
    (kk : ∀ (u : S) (H1 : Heap) (locs1 : List Loc), post u → va_P D vwCl (wa u) H1 → va_D A0 (wa u) → va_S A0 H0 H1 locs1 → W p l e R s m args below meth c H1 locs1 (cells + mc) (slots + ms) Q (F0 m (pc + 3) ls (.ref (ra u) :: rest))) : W p l e R s m args below meth c H locs cells slots Q (F0 m pc ls st0) := by
  refine vx_callr hr hS (fun q _ h => hC.2.2.1 q h) hC.2.2.1 (fun q _ h => hC.2.2.1 q h) (fun E ce q9 u t H1 locs1 ht hvm _ hB hz1 hk1 hS g1 g2 g3 => ?_) (fun u a t H1 locs1 ht hvm hw hB hz1 hk1 hS => ?_)
  · obtain ⟨hw, hP1, hD1⟩ := hB
    rw [ht] at hP1
    obtain ⟨hP, hD⟩ := hC.2.2.2 u H1 hP1 hD1 hk1
    exact kx E ce q9 u H1 locs1 hw hP hD hS g1 g2 g3
  · obtain ⟨rfl, hP1, hD1⟩ := hB
    rw [ht] at hP1
    obtain ⟨hP, hD⟩ := hC.2.2.2 u H1 hP1 hD1 hk1
    exact kk u H1 locs1 hw hP hD hS
end X2
end THRW
section RETS2
variable {p : Program} {l : Launch} {e : Env} {R : Room} {s : State} {m : MethodId} {args : Array Value} {below : List Frame} {meth : Method} {c : Code} {H : Heap} {locs : List Loc} {cells slots : Nat}
variable {D : va_G} {A : Nat → Prop} {cc : ByteArray} {pc : Nat} {ls : Array Slot}
theorem rt_r {S : Type} {post : S → Prop} {ra : S → Nat} {Wf : S → va_W} {C : String} (u : S) (hx : p.tables.exec = Jvm.exec) (hb : c.code = cc) (hr : meth.sig.returnType = some (.object C)) (hlocks : meth.locks = false) (hw : post u) (hP : va_P D vwCl (Wf u) H) (hD : va_D A (Wf u)) (hS : va_S A s.heap H locs) (hdg : decode cc pc = .ok (.areturn, 1)) : W p l e R s m args below meth c H locs cells slots (MQ below (va_Qr post (fun u a9 t => a9 = ra u ∧ POST D A (Wf u) t) A) args s cells slots A) (F0 m pc ls [.ref (ra u)]) :=
  W.aret hx hb hr (Or.inl ⟨C, rfl⟩) (Or.inr ⟨_, rfl⟩) (fun t ht hW => ⟨⟨u, ra u, rfl, hw, rfl, by show va_P D vwCl (Wf u) t.heap; rw [ht]; exact hP, hD⟩, hS.F ht⟩) hS.2.2 hdg hlocks
theorem rt_q {S : Type} {post : Option Nat → S → Prop} {Wf : S → va_W} {C : String} {v : Option Nat} (u : S) (hx : p.tables.exec = Jvm.exec) (hb : c.code = cc) (hr : meth.sig.returnType = some (.object C)) (hlocks : meth.locks = false) (hw : post v u) (hP : va_P D vwCl (Wf u) H) (hD : va_D A (Wf u)) (hS : va_S A s.heap H locs) (hdg : decode cc pc = .ok (.areturn, 1)) : W p l e R s m args below meth c H locs cells slots (MQ below (va_Qq post (fun u t => POST D A (Wf u) t) A) args s cells slots A) (F0 m pc ls [va_rf v]) :=
  W.aret hx hb hr (Or.inl ⟨C, rfl⟩) (by cases v with | none => exact Or.inl rfl | some a => exact Or.inr ⟨a, rfl⟩) (fun t ht hW => ⟨⟨v, u, rfl, hw, by show va_P D vwCl (Wf u) t.heap; rw [ht]; exact hP, hD⟩, hS.F ht⟩) hS.2.2 hdg hlocks
end RETS2
/-- a piece's cells -/
abbrev PF (cI : ClassId) (ad : Nat → Nat) (af : Nat → Nat → Nat) (q_colour q_state q_layers q_thingCount q_original : Nat → Int32) (q_heats q_firings q_things : Nat → Nat → Int32) : Nat → va_W := fun i => [(ad i, .inr (3, [.ref (af i 0), .ref (af i 1), .ref (af i 2), .int (q_colour i), .int (q_state i), .int (q_layers i), .int (q_thingCount i), .int (q_original i)])), (af i 0, .inl (cI, 5, .inl (q_heats i))), (af i 1, .inl (cI, 5, .inl (q_firings i))), (af i 2, .inl (cI, 20, .inl (q_things i)))]
