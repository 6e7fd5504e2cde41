/-! ArrayList: what its methods ask of the start besides the world; rows -/
def LST (tD mi : Nat) (A : Nat → Prop) (U : State) (H : Heap) : Prop := va_Z "java/util/ArrayList" "DEFAULTCAPACITY_EMPTY_ELEMENTDATA" "[Ljava/lang/Object;" (.ref tD) A U H ∧ va_T (.object "java/lang/Object") tD 0 (fun _ => .null) A U H ∧ va_AO "java/lang/Object" U ∧ va_Mi "[Ljava/lang/Object;" mi U ∧ va_Dc U ∧ va_Nw (.castable RX2 "java/lang/Object") U
theorem LST.call {tD mi : Nat} {s U : State} {H : Heap} {locs : List Loc} {A0 A1 : Nat → Prop} (h : LST tD mi A0 s s.heap) (hS : va_S A0 s.heap H locs) (hF : ∀ q, A1 q → A0 q) (hU : U.heap = H) (hW : s.WarmedH U.vm) : LST tD mi A1 U U.heap := by
  obtain ⟨h1, h2, h3, h4, h5, h6⟩ := h
  refine ⟨?_, ?_, va_AO.moved hW.alike h3, va_Mi.moved hW.alike h4, va_Dc.moved hW.alike h5, va_Nw.warmC hW h6⟩
  · exact va_Z.moved hW.alike ((h1.kept (H1 := U.heap) (fun a ha hA => by rw [hU]; exact hS.2.1 a ha hA)).narrow hF)
  · exact va_T.moved hW.alike ((h2.kept (H1 := U.heap) (fun a ha hA => by rw [hU]; exact hS.2.1 a ha hA)).narrow hF)
def PREL (tD mi : Nat) (D : va_G) (cI cJ cZ cO : ClassId) (W : va_W) (sz : Nat) (U : State) : Prop := PRE D cI cJ cZ cO W sz U ∧ LST tD mi (va_A W sz) U U.heap
theorem PREL.blind {av : List Value} {tD mi : Nat} {D : va_G} {cI cJ cZ cO : ClassId} {W : va_W} {sz : Nat} : FrameBlind (va_Pc av (PREL tD mi D cI cJ cZ cO W sz)) := fun a U g mk q => by
  obtain ⟨q0, ⟨q1, qP, qK, qD, qE⟩, t1, t2, t3, t4, t5, t6⟩ := q
  exact ⟨q0, ⟨q1, qP, va_K.moved (u := U) (U := U.calling g mk a) (Vm.Alike.refl U.vm) qK, qD, qE.same (U := U.calling g mk a) rfl⟩, va_Z.moved (u := U) (U := U.calling g mk a) (Vm.Alike.refl U.vm) t1, va_T.moved (u := U) (U := U.calling g mk a) (Vm.Alike.refl U.vm) t2, va_AO.moved (u := U) (U := U.calling g mk a) (Vm.Alike.refl U.vm) t3, va_Mi.moved (u := U) (U := U.calling g mk a) (Vm.Alike.refl U.vm) t4, va_Dc.moved (u := U) (U := U.calling g mk a) (Vm.Alike.refl U.vm) t5, va_Nw.same (U := U.calling g mk a) rfl rfl t6⟩
theorem met_goL {l : Launch} {tD mi : Nat} {D : va_G} {cI cJ cZ cO : ClassId} {y : MethodName} {ws ws' : List Cond} {rm : Room} {cc : ByteArray} {maxL : Nat} {ret : Option FieldType} {av : List Value} {W0 : va_W} {sz : Nat} {Qc : Array Value → State → Outcome → State → Prop} {mc ms : Nat} {free : Addr → Prop}
    (own : String) (ho : y.cls = own) (hy : plainName y.cls = true) (hw : ws = Cond.code y cc maxL ret :: ws') (hlen : (lg_sl av).length ≤ maxL)
    (body : ∀ (p : Program) (e : Env) (s : State) (m : MethodId) (args : Array Value) (below : List Frame) (meth : Method) (c : Code) (ls : Array Slot), p.tables.exec = Jvm.exec → c.code = cc → meth.sig.returnType = ret → (∀ w ∈ ws, w.before args s = true) → s.vm.findClass own = some m.cls → meth.locks = false → meth.name = y.name → c.maxLocals = maxL → s.heap.size = sz → va_P D vwCl W0 s.heap → va_K D vwCl (TY cI cJ cZ cO) s → EN s → LST tD mi (va_A W0 sz) s s.heap → va_D (va_A W0 sz) W0 → (∀ q : Nat, s.heap.size ≤ q → va_A W0 sz q) → va_S (va_A W0 sz) s.heap s.heap [] → lv_has ls maxL (lv_args 0 av) →
      W p l e rm s m args below meth c s.heap [] 0 0 (MQ below Qc args s mc ms free) (F0 m 0 ls [])) : Met l y ws rm (va_Pc av (PREL tD mi D cI cJ cZ cO W0 sz)) Qc mc ms free := by
  refine Met.ofW (cc := cc) (maxL := maxL) (ret := ret) hy hw ?_
  intro p e s m args below meth c s₁ B hml hv
  obtain ⟨rfl, ⟨hsz, hP, hK, hD0, hE⟩, hL⟩ := hv
  have hown : s.vm.findClass y.cls = some m.cls := findClass_of_methodNamed B.named
  have hin : meth.name = y.name := (name_of_methodNamed B.named B.method).1
  have h := lv_entry av hlen
  rw [lg_entry_eq]
  exact body p e s m _ below meth c _ B.exec B.bytes B.returns (atoms_spec (ws := ws) B.pre) (by rw [← ho]; exact hown) B.notSynchronized hin hml hsz hP hK hE hL (hD0.self) (fun q h => Or.inr (by rw [← hsz]; exact h)) va_S.rf h
section LROW
variable {p : Program} {l : Launch} {e : Env} {R : Room} {s : State} {m : MethodId} {args : Array Value} {below : List Frame} {meth : Method} {c : Code} {H : Heap} {locs : List Loc} {cells slots : Nat} {Q : State → Prop}
variable {D : va_G} {cI cJ cZ cO : ClassId} {A0 : Nat → Prop} {H0 : Heap} {tD mi : Nat}
/-- a callee that takes the whole world -/
theorem cut_all {S : Type} {W0 : va_W} {w1 : S → va_W} (hP : va_P D vwCl W0 H) (hD : va_D A0 W0) (hS : va_S A0 H0 H locs) (hA : ∀ q, H0.size ≤ q → A0 q) : Cut D A0 H W0 w1 w1 := by
  have hF : ∀ q, va_A W0 H.size q → A0 q := by
    intro q h
    rcases h with ⟨k, e, h⟩ | h
    · exact hD.2 k _ h
    · exact hA q (Nat.le_trans hS.1 h)
  exact ⟨hP, hD.weaken (fun _ _ _ _ => trivial), hF, fun u H1 h1 h2 h3 => ⟨h1, h2.1, fun k q hk => hF _ (h2.2 k q hk)⟩⟩
theorem Cut.preSL {S : Type} {wc : va_W} {w1 wa : S → va_W} {av : List Value} (h : Cut D A0 H wc w1 wa) (hK : va_K D vwCl (TY cI cJ cZ cO) s) (hE : EN s) (hL : LST tD mi A0 s s.heap) (hS : va_S A0 s.heap H locs) : PreS s H (va_Pc av (PREL tD mi D cI cJ cZ cO wc H.size)) av :=
  ⟨PREL.blind, fun U hU hW => ⟨rfl, ⟨by rw [hU], by rw [hU]; exact h.1, va_K.moved hW.alike hK, h.2.1, hE.warm hW⟩, hL.call hS h.2.2.1 hU hW⟩⟩
theorem Cut.preVL {S : Type} {wc : va_W} {w1 wa : S → va_W} {As : List Value} {C : String} {T : u_T} {N qb ci b : Nat} {fs : List Value} (h : Cut D A0 H wc w1 wa) (hK : va_K D vwCl (TY cI cJ cZ cO) s) (hE : EN s) (hL : LST tD mi A0 s s.heap) (hS : va_S A0 s.heap H locs) (hb : wc[qb]? = some (b, .inr (ci, fs))) (hc : vwCl[ci]? = some (C, T, N)) : PreV s H C b (va_Pc (.ref b :: As) (PREL tD mi D cI cJ cZ cO wc H.size)) As :=
  ⟨PREL.blind, va_recv (q := (C, T, N)) hK h.1 hc hb, fun U hU hW => ⟨rfl, ⟨by rw [hU], by rw [hU]; exact h.1, va_K.moved hW.alike hK, h.2.1, hE.warm hW⟩, hL.call hS h.2.2.1 hU hW⟩⟩
theorem w_rot {X pl : va_W} {c : Nat × va_E} (h : va_P D vwCl ((X ++ pl) ++ [c]) H ∧ va_D A0 ((X ++ pl) ++ [c])) : va_P D vwCl ((X ++ [c]) ++ pl) H ∧ va_D A0 ((X ++ [c]) ++ pl) := by
  simp only [va_P_app, va_D_app, List.mem_append] at h ⊢
  obtain ⟨⟨⟨p1, p2⟩, p3⟩, ⟨d1, d2, x1⟩, d3, x2⟩ := h
  refine ⟨⟨⟨p1, p3⟩, p2⟩, ⟨d1, d3, fun a ha b hb => x2 a (Or.inl ha) b hb⟩, d2, fun a ha b hb => ?_⟩
  rcases ha with ha | ha
  · exact x1 a ha b hb
  · exact fun z => x2 b (Or.inr hb) a ha z.symm
theorem rt_ra {S : Type} {post : S → Prop} {ra : S → Nat} {Wf : S → va_W} {A : Nat → Prop} {cc : ByteArray} {pc : Nat} {ls : Array Slot} {ft : FieldType} (u : S) (hx : p.tables.exec = Jvm.exec) (hb : c.code = cc) (hr : meth.sig.returnType = some (.array ft)) (hlocks : meth.locks = false) (hw : post u) (hP : va_P D vwCl (Wf u) H) (hD : va_D A (Wf u)) (hS : va_S A s.heap H locs) (hdg : decode cc pc = .ok (.areturn, 1)) : W p l e R s m args below meth c H locs cells slots (MQ below (va_Qr post (fun u a9 t => a9 = ra u ∧ POST D A (Wf u) t) A) args s cells slots A) (F0 m pc ls [.ref (ra u)]) :=
  W.aret hx hb hr (Or.inr ⟨_, rfl⟩) (Or.inr ⟨_, rfl⟩) (fun t ht hW => ⟨⟨u, ra u, rfl, hw, rfl, by show va_P D vwCl (Wf u) t.heap; rw [ht]; exact hP, hD⟩, hS.F ht⟩) hS.2.2 hdg hlocks
/-- a new row of references -/
theorem nw_o {ws : va_W} {cc : ByteArray} {pc : Nat} {ls : Array Slot} {rest : List Value} (hx : p.tables.exec = Jvm.exec) (hb : c.code = cc) {own : String} {index : Nat} (hown : s.vm.findClass own = some m.cls) (hclink : (Cond.classLink own index "java/lang/Object").before args s = true) (hover : va_AO "java/lang/Object" s) (hK : va_K D vwCl (TY cI cJ cZ cO) s) (hP : va_P D vwCl ws H) (hD : va_D A0 ws) (hS : va_S A0 H0 H locs) (hA : ∀ q, H0.size ≤ q → A0 q)
    {n : Int32} {N' : Nat} (hn : ¬ n < 0) (hN : n.toNatClampNeg = N') (hbytes : N' * 4 ≤ 536870912) (hcells : cells + 1 ≤ R.cells) (hslots : slots + N' ≤ R.slots) (hdg : decode cc pc = .ok (.anewarray index, 3))
    (kk : ∀ (q : Nat) (H1 : Heap), va_P D vwCl (ws ++ [(q, .inl (cO, N', .inr (.inr (.inr (.inr (fun _ => none))))))]) H1 → va_D A0 (ws ++ [(q, .inl (cO, N', .inr (.inr (.inr (.inr (fun _ => none))))))]) → va_S A0 H0 H1 locs →
      W p l e R s m args below meth c H1 locs (cells + 1) (slots + N') Q (F0 m (pc + 3) ls (.ref q :: rest))) : W p l e R s m args below meth c H locs cells slots Q (F0 m pc ls (.int n :: rest)) := by
  refine va_newq hx hb hown hclink hover hK hP hD hS hA hn hN hbytes hcells hslots hdg (fun q cA H1 hK1 hP1 hD1 hS1 => ?_)
  have e : cA = cO := ty_o (hK1.2 4 _ rfl).2 (hK.2 3 _ rfl).2
  subst e
  exact kk q H1 hP1 hD1 hS1
end LROW
abbrev RR (f : Nat → Option Nat) : (Nat → Int32) ⊕ (Nat → Int64) ⊕ (Nat → UInt32) ⊕ (Nat → UInt64) ⊕ (Nat → Option Nat) := .inr (.inr (.inr (.inr f)))
/-- each of the first n places holds a piece's cell of the rest -/
def ELM (pl : va_W) (el : Nat → Option Nat) (n : Nat) : Prop := ∀ i, i < n → ∀ y, el i = some y → ∃ (k : Nat) (vs : List Value), pl[k]? = some (y, .inr (3, vs))
theorem ELM.cell {s : State} {D : va_G} {cI cJ cZ cO : ClassId} {X pl : va_W} {el : Nat → Option Nat} {n : Nat} {H : Heap} (h : ELM pl el n) (hK : va_K D vwCl (TY cI cJ cZ cO) s) (hP : va_P D vwCl (X ++ pl) H) : ∀ i, i < n → ∀ y, el i = some y → ∃ cellV : Cell, H[y]? = some cellV ∧ cellV.vm.isStatics = false ∧ s.vm.findClass RX2 = some cellV.cls := fun i hi y hy => by
  obtain ⟨k, vs, hk⟩ := h i hi y hy
  exact va_recv (q := (RX2, TX2, 8)) (q0 := k) (ci := 3) hK (va_P_app.mp hP).2 rfl hk
/-! ArraysSupport.newLength, where it does not overflow -/
abbrev rm_J8_newLength_cabcc : Room := { frames := 1, cells := 0, slots := 0, locals := 30 }
set_option maxHeartbeats 4000000 in
set_option maxRecDepth 100000 in
theorem c_J8_newLength_cabcc (l : Launch) (D : va_G) (cI cJ cZ cO : ClassId) (tD mi : Nat) (X : va_W) (sz : Nat) (p1 p2 p3 r : Int32) (hr0 : p1 + (if p2 < p3 then p3 else p2) = r) (h1 : 0 < r) (h2 : r ≤ 2147483639) : Met l yJ8_newLength_cabcc wsJ8_newLength_cabcc rm_J8_newLength_cabcc (va_Pc [.int p1, .int p2, .int p3] (PREL tD mi D cI cJ cZ cO X sz)) (va_Qi (fun v (_ : Unit) => v = r) (fun u t => POST D (va_A X sz) X t) (va_A X sz)) 0 0 (va_A X sz) := by
  refine met_goL (cc := cJ8_newLength_cabcc) (maxL := 4) (ret := some .int) RJ8 rfl (by decide) rfl (Nat.le_of_ble_eq_true rfl) ?_
  intro p e s m args below meth c ls hx hb hr hts hown hlocks hin hml hsz hP hK hE hL hD hA hS hl
  generalize va_A X sz = A at hD hA hS hL ⊢
  have hl : lv_has ls 4 [(0, .int p1), (1, .int p2), (2, .int p3)] := hl
  refine lv_iload_n hx hb dJ8_newLength_cabcc_0 rfl (lv_at hl 0 rfl) ?_
  refine lv_iload_n hx hb dJ8_newLength_cabcc_1 rfl (lv_at hl 1 rfl) ?_
  refine lv_iload_n hx hb dJ8_newLength_cabcc_2 rfl (lv_at hl 2 rfl) ?_
  refine va_mmax (R := rm_J8_newLength_cabcc) (rest := [.int p1]) hx hb (hml.trans hl.1.symm) hown (hts (.methodLink RJ8 194 Lib.Math.max.name) (List.mem_of_getElem? (i := 1) rfl)) (hts (.static Lib.Math.max.name) (List.mem_of_getElem? (i := 2) rfl)) (hts (.initialized "java/lang/Math") (List.mem_of_getElem? (i := 3) rfl)) (hts (.code Lib.Math.max.name Lib.Math.max.code 2 (some .int)) (List.mem_of_getElem? (i := 4) rfl)) (by decide) (Nat.le_of_ble_eq_true rfl) (Nat.zero_le _) (Nat.zero_le _) dJ8_newLength_cabcc_3 ?_
  refine lv_iadd hx hb dJ8_newLength_cabcc_6 ?_
  rw [hr0]
  refine lv_istore_n (lv' := [(3, .int r), (0, .int p1), (1, .int p2), (2, .int p3)]) hx hb dJ8_newLength_cabcc_7 rfl hl (by decide) rfl (fun ls hl => ?_)
  refine lv_iconst (v := 0) hx hb dJ8_newLength_cabcc_8 (by decide) ?_
  refine lv_iload_n hx hb dJ8_newLength_cabcc_9 rfl (lv_at hl 0 rfl) ?_
  refine lv_icmp_ge (tgt := 21) hx hb dJ8_newLength_cabcc_10 (by decide) (fun z => absurd z (by rw [fa_le]; rw [fa_lt] at h1; omega)) (fun _ => ?_)
  refine lv_iload_n hx hb dJ8_newLength_cabcc_13 rfl (lv_at hl 0 rfl) ?_
  refine lv_ldc (v := 2147483639) hx hb hown (hts (.constant RJ8 200 (2147483639)) (List.mem_of_getElem? (i := 5) rfl)) dJ8_newLength_cabcc_14 ?_
  refine lv_icmp_gt (tgt := 21) hx hb dJ8_newLength_cabcc_16 (by decide) (fun z => absurd z (by rw [fa_lt]; rw [fa_le] at h2; omega)) (fun _ => ?_)
  refine lv_iload_n hx hb dJ8_newLength_cabcc_19 rfl (lv_at hl 0 rfl) ?_
  exact rt_i (S := Unit) (post := fun v _ => v = r) (Wf := fun _ => X) () hx hb hr hlocks rfl hP hD hS dJ8_newLength_cabcc_20
/-! Arrays.copyOf of a row that grows -/
abbrev WL (cO : ClassId) (hl e q : Nat) (md : Int32) (er : Nat) (sz : Int32) (cap : Nat) (el : Nat → Option Nat) (vs : List Value) : va_W := [(hl, .inr (0, [.int md, .ref er, .int sz])), (e, .inl (cO, cap, RR el)), (q, .inr (3, vs))]
abbrev rm_J7_copyOf_6403c : Room := { frames := 1, cells := 1, slots := 90, locals := 40 }
set_option maxHeartbeats 4000000 in
set_option maxRecDepth 100000 in
theorem c_J7_copyOf_6403c (l : Launch) (D : va_G) (cI cJ cZ cO : ClassId) (tD mi : Nat) (hl0 e0 q0 : Nat) (md : Int32) (er : Nat) (z : Int32) (cap N : Nat) (el : Nat → Option Nat) (vs : List Value) (pl : va_W) (sz : Nat) (hN : cap ≤ N) (hN2 : N ≤ 90) (hel : ELM pl el cap) : Met l yJ7_copyOf_6403c wsJ7_copyOf_6403c rm_J7_copyOf_6403c (va_Pc [.ref e0, .int (nI N), .ref mi] (PREL tD mi D cI cJ cZ cO (WL cO hl0 e0 q0 md er z cap el vs ++ pl) sz)) (va_Qr (fun (_ : Nat) => True) (fun u a t => a = u ∧ POST D (va_A (WL cO hl0 e0 q0 md er z cap el vs ++ pl) sz) ((WL cO hl0 e0 q0 md er z cap el vs ++ [(u, .inl (cO, N, RR (va_cpy el (fun _ => none) 0 0 cap)))]) ++ pl) t) (va_A (WL cO hl0 e0 q0 md er z cap el vs ++ pl) sz)) 1 90 (va_A (WL cO hl0 e0 q0 md er z cap el vs ++ pl) sz) := by
  refine met_goL (cc := cJ7_copyOf_6403c) (maxL := 4) (ret := some (.array (.object "java/lang/Object"))) RJ7 rfl (by decide) rfl (Nat.le_of_ble_eq_true rfl) ?_
  intro p e s m args below meth c ls hx hb hr hts hown hlocks hin hml hsz hP hK hE hL hD hA hS hl
  generalize va_A (WL cO hl0 e0 q0 md er z cap el vs ++ pl) sz = A at hD hA hS hL ⊢
  have hl : lv_has ls 4 [(0, .ref e0), (1, .int (nI N)), (2, .ref mi)] := hl
  obtain ⟨-, -, hAO, hMi, hDc, hcast⟩ := hL
  refine lv_aload_n hx hb dJ7_copyOf_6403c_0 rfl (lv_at hl 2 rfl) ?_
  refine va_ldcM hx hb hown (hts (.classLink RJ7 110 "[Ljava/lang/Object;") (List.mem_of_getElem? (i := 1) rfl)) hMi dJ7_copyOf_6403c_1 ?_
  refine lv_acmp_ne (rx := some mi) (ry := some mi) (tgt := 13) hx hb dJ7_copyOf_6403c_3 (by decide) (fun z => absurd rfl z) (fun _ => ?_)
  refine lv_iload_n hx hb dJ7_copyOf_6403c_6 rfl (lv_at hl 1 rfl) ?_
  refine nw_o (N' := N) hx hb hown (hts (.classLink RJ7 2 "java/lang/Object") (List.mem_of_getElem? (i := 2) rfl)) hAO hK hP hD hS hA (nI_pos (by omega)) (nI_clamp (by omega)) (by omega) (Nat.le_of_ble_eq_true rfl) (by show 0 + N ≤ 90; omega) dJ7_copyOf_6403c_7 (fun u H hP hD hS => ?_)
  obtain ⟨hP, hD⟩ := w_rot ⟨hP, hD⟩
  refine W.widen (k := 1) (n := 90) (Nat.le_of_ble_eq_true rfl) (by omega) ?_
  refine lv_goto (tgt := 24) hx hb dJ7_copyOf_6403c_10 (by decide) ?_
  refine lv_astore_n (lv' := [(3, .ref u), (0, .ref e0), (1, .int (nI N)), (2, .ref mi)]) hx hb dJ7_copyOf_6403c_24 rfl hl (by decide) rfl (fun ls hl => ?_)
  refine lv_aload_n hx hb dJ7_copyOf_6403c_25 rfl (lv_at hl 1 rfl) ?_
  refine lv_iconst (v := 0) hx hb dJ7_copyOf_6403c_26 (by decide) ?_
  refine lv_aload_n hx hb dJ7_copyOf_6403c_27 rfl (lv_at hl 0 rfl) ?_
  refine lv_iconst (v := 0) hx hb dJ7_copyOf_6403c_28 (by decide) ?_
  refine lv_aload_n hx hb dJ7_copyOf_6403c_29 rfl (lv_at hl 1 rfl) ?_
  refine va_alen (v := nI cap) hx hb hK hP 1 3 rfl rfl rfl dJ7_copyOf_6403c_30 ?_
  refine lv_iload_n hx hb dJ7_copyOf_6403c_31 rfl (lv_at hl 2 rfl) ?_
  refine va_mmin (R := rm_J7_copyOf_6403c) (rest := [.int 0, .ref u, .int 0, .ref e0]) hx hb (hml.trans hl.1.symm) hown (hts (.methodLink RJ7 304 Lib.Math.min.name) (List.mem_of_getElem? (i := 3) rfl)) (hts (.static Lib.Math.min.name) (List.mem_of_getElem? (i := 4) rfl)) (hts (.initialized "java/lang/Math") (List.mem_of_getElem? (i := 5) rfl)) (hts (.code Lib.Math.min.name Lib.Math.min.code 2 (some .int)) (List.mem_of_getElem? (i := 6) rfl)) (by decide) (Nat.le_of_ble_eq_true rfl) (Nat.le_of_ble_eq_true rfl) (Nat.le_of_ble_eq_true rfl) dJ7_copyOf_6403c_32 ?_
  have em : (if nI N < nI cap then nI N else nI cap) = nI cap := if_neg (nI_nlt hN (by omega))
  rw [em]
  have hc0 : (nI cap).toNatClampNeg = cap := nI_clamp (by omega)
  have h00 : (0 : Int32).toNatClampNeg = 0 := rfl
  refine va_copyq (C := RX2) hx hb (hml.trans hl.1.symm) hown (hts (.methodLink RJ7 150 arraycopyName) (List.mem_of_getElem? (i := 7) rfl)) (hts (.native arraycopyName) (List.mem_of_getElem? (i := 8) rfl)) (hts (.static arraycopyName) (List.mem_of_getElem? (i := 9) rfl)) (hts (.initialized "java/lang/System") (List.mem_of_getElem? (i := 10) rfl)) hK hP hD hS 1 3 3 3 rfl rfl rfl rfl (by decide) (by decide) (nI_pos (by omega)) (by rw [hc0, h00]; omega) (by rw [hc0, h00]; omega) (fun i hi y hy => ?_) (vb_asgC hcast) (by decide) (Nat.le_of_ble_eq_true rfl) dJ7_copyOf_6403c_35 (fun H locs hP hD hS => ?_)
  · rw [hc0] at hi
    rw [h00, Nat.zero_add] at hy
    exact hel.cell hK hP i hi y hy
  rw [hc0, h00] at hP hD
  refine lv_aload_n hx hb dJ7_copyOf_6403c_38 rfl (lv_at hl 0 rfl) ?_
  exact rt_ra (S := Nat) (post := fun _ => True) (ra := fun u => u) (Wf := fun u => ((WL cO hl0 e0 q0 md er z cap el vs ++ [(u, .inl (cO, N, RR (va_cpy el (fun _ => none) 0 0 cap)))]) ++ pl)) u hx hb hr hlocks trivial hP hD hS dJ7_copyOf_6403c_39
abbrev rm_J7_copyOf_1904c : Room := { frames := 2, cells := 1, slots := 90, locals := 70 }
set_option maxHeartbeats 4000000 in
set_option maxRecDepth 100000 in
theorem c_J7_copyOf_1904c (l : Launch) (D : va_G) (cI cJ cZ cO : ClassId) (tD mi : Nat) (hl0 e0 q0 : Nat) (md : Int32) (er : Nat) (z : Int32) (cap N : Nat) (el : Nat → Option Nat) (vs : List Value) (pl : va_W) (sz : Nat) (hN : cap ≤ N) (hN2 : N ≤ 90) (hel : ELM pl el cap) : Met l yJ7_copyOf_1904c wsJ7_copyOf_1904c rm_J7_copyOf_1904c (va_Pc [.ref e0, .int (nI N)] (PREL tD mi D cI cJ cZ cO (WL cO hl0 e0 q0 md er z cap el vs ++ pl) sz)) (va_Qr (fun (_ : Nat) => True) (fun u a t => a = u ∧ POST D (va_A (WL cO hl0 e0 q0 md er z cap el vs ++ pl) sz) ((WL cO hl0 e0 q0 md er z cap el vs ++ [(u, .inl (cO, N, RR (va_cpy el (fun _ => none) 0 0 cap)))]) ++ pl) t) (va_A (WL cO hl0 e0 q0 md er z cap el vs ++ pl) sz)) 1 90 (va_A (WL cO hl0 e0 q0 md er z cap el vs ++ pl) sz) := by
  refine met_goL (cc := cJ7_copyOf_1904c) (maxL := 2) (ret := some (.array (.object "java/lang/Object"))) RJ7 rfl (by decide) rfl (Nat.le_of_ble_eq_true rfl) ?_
  intro p e s m args below meth c ls hx hb hr hts hown hlocks hin hml hsz hP hK hE hL hD hA hS hl
  generalize va_A (WL cO hl0 e0 q0 md er z cap el vs ++ pl) sz = A at hD hA hS hL ⊢
  have hl : lv_has ls 2 [(0, .ref e0), (1, .int (nI N))] := hl
  refine lv_aload_n hx hb dJ7_copyOf_1904c_0 rfl (lv_at hl 0 rfl) ?_
  refine lv_iload_n hx hb dJ7_copyOf_1904c_1 rfl (lv_at hl 1 rfl) ?_
  refine lv_aload_n hx hb dJ7_copyOf_1904c_2 rfl (lv_at hl 0 rfl) ?_
  refine va_getC (C := "[Ljava/lang/Object;") hx hb (hml.trans hl.1.symm) hown (hts (.methodLink RJ7 86 ⟨"java/lang/Object", "getClass", "()Ljava/lang/Class;"⟩) (List.mem_of_getElem? (i := 1) rfl)) (va_Dc.use hL.2.2.2.2.1) (hts (.selects "[Ljava/lang/Object;" ⟨"java/lang/Object", "getClass", "()Ljava/lang/Class;"⟩ ⟨"java/lang/Object", "getClass", "()Ljava/lang/Class;"⟩) (List.mem_of_getElem? (i := 2) rfl)) (hts (.instanceMethod ⟨"java/lang/Object", "getClass", "()Ljava/lang/Class;"⟩) (List.mem_of_getElem? (i := 3) rfl)) (hts (.native ⟨"java/lang/Object", "getClass", "()Ljava/lang/Class;"⟩) (List.mem_of_getElem? (i := 4) rfl)) hL.2.2.2.1 ⟨_, hP 1 _ rfl, rfl, va_nmO (hK.2 3 _ rfl).2 rfl⟩ (by decide) (Nat.le_of_ble_eq_true rfl) dJ7_copyOf_1904c_3 ?_
  have hCut := cut_all (w1 := fun (u : Nat) => ((WL cO hl0 e0 q0 md er z cap el vs ++ [(u, .inl (cO, N, RR (va_cpy el (fun _ => none) 0 0 cap)))]) ++ pl)) hP hD hS hA
  refine ca_r (ra := fun (u : Nat) => u) hCut hS (va_runS (As := [.ref e0, .int (nI N), .ref mi]) (rest := []) ⟨hx, hb, hml, hown, hts⟩ (c_J7_copyOf_6403c l D cI cJ cZ cO tD mi hl0 e0 q0 md er z cap N el vs pl _ hN hN2 hel) (va_cwS 3 hts gJ7_copyOf_1904c_J7_copyOf_6403c rfl rfl rfl (by decide +kernel) ⟨Nat.le_of_ble_eq_true rfl, Nat.le_of_ble_eq_true rfl⟩) (hCut.preSL hK hE hL hS) rfl rfl hl.1 rfl (lv_room (Nat.le_of_ble_eq_true rfl)) dJ7_copyOf_1904c_6 ⟨Nat.le_of_ble_eq_true rfl, Nat.le_of_ble_eq_true rfl⟩) (fun u H locs hw hP hD hS => ?_)
  refine W.widen (k := 1) (n := 90) (Nat.le_of_ble_eq_true rfl) (Nat.le_of_ble_eq_true rfl) ?_
  exact rt_ra (S := Nat) (post := fun _ => True) (ra := fun u => u) (Wf := fun u => ((WL cO hl0 e0 q0 md er z cap el vs ++ [(u, .inl (cO, N, RR (va_cpy el (fun _ => none) 0 0 cap)))]) ++ pl)) u hx hb hr hlocks trivial hP hD hS dJ7_copyOf_1904c_9
