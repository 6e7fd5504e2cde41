/-! THE WORLDS OF THIS CLAIM: what every contract of ours says of the state, and the call with its frame in one row -/
abbrev TY (cI cJ cZ cO : ClassId) : List (ClassId × FieldType) := [(cI, .int), (cJ, .long), (cZ, .int), (cO, .object "java/lang/Object")]
/-- links between nest mates -/
def NESTM : List (String × Nat × MethodName × String) := [(RX4, 11, yX0_init, RX4), (RX4, 25, yX3_init, RX4), (RX4, 38, yX1_init, RX4), (RX0, 62, yX4_isNumber, RX4), (RX1, 37, yX4_isNumber, RX4), (RX3, 33, yX4_isRowLine, RX4)]
def NESTF : List (String × Nat × String × String × String × String) := [(RX4, 101, RX2, "colour", "I", RX4), (RX4, 172, RX2, "layers", "I", RX4), (RX4, 183, RX2, "state", "I", RX4), (RX4, 237, RX1, "sheetsUsed", "I", RX4), (RX4, 84, RX2, "original", "Z", RX4)]
def EN (U : State) : Prop := (∀ w ∈ NESTM, va_Nw (.methodLinkNest w.1 w.2.1 w.2.2.1 w.2.2.2) U) ∧ ∀ w ∈ NESTF, va_Nw (.fieldLinkNest w.1 w.2.1 w.2.2.1 w.2.2.2.1 w.2.2.2.2.1 w.2.2.2.2.2) U
theorem EN.warm {s U : State} (hW : s.WarmedH U.vm) (h : EN s) : EN U := ⟨fun w hw => va_Nw.warmM hW (h.1 w hw), fun w hw => va_Nw.warmF hW (h.2 w hw)⟩
theorem EN.same {s U : State} (e : s.vm = U.vm) (h : EN s) : EN U := ⟨fun w hw => va_Nw.same rfl e (h.1 w hw), fun w hw => va_Nw.same rfl e (h.2 w hw)⟩
def PRE (D : va_G) (cI cJ cZ cO : ClassId) (W : va_W) (sz : Nat) (U : State) : Prop := U.heap.size = sz ∧ va_P D vwCl W U.heap ∧ va_K D vwCl (TY cI cJ cZ cO) U ∧ va_D (fun _ => True) W ∧ EN U
def POST (D : va_G) (A : Nat → Prop) (W : va_W) (t : State) : Prop := va_P D vwCl W t.heap ∧ va_D A W
theorem PRE.blind {av : List Value} {D : va_G} {cI cJ cZ cO : ClassId} {W : va_W} {sz : Nat} : FrameBlind (va_Pc av (PRE D cI cJ cZ cO W sz)) := fun a U g mk q => by
  obtain ⟨q0, q1, qP, qK, qD, qE⟩ := q
  exact ⟨q0, q1, qP, va_K.moved (u := U) (U := U.calling g mk a) (Vm.Alike.refl U.vm) qK, qD, qE.same (U := U.calling g mk a) rfl⟩
/-- loops: a body with the loop's own next turn as an argument -/
def lpN {σ : Type} (F : (σ → Prop) → σ → Prop) : Nat → σ → Prop
  | 0, _ => False
  | n + 1, s => F (lpN F n) s
def lp {σ : Type} (F : (σ → Prop) → σ → Prop) (s : σ) : Prop := ∃ n, lpN F n s
theorem lp_inv {σ : Type} {F : (σ → Prop) → σ → Prop} (I : σ → Prop) (μ : σ → Nat) (hs : ∀ (K : σ → Prop) (s : σ), I s → (∀ s', I s' → μ s' < μ s → K s') → F K s) (s : σ) (h : I s) : lp F s := by
  have key : ∀ (n : Nat) (s : σ), I s → μ s < n → lpN F n s := by
    intro n
    induction n with
    | zero => intro s _ h; exact absurd h (Nat.not_lt_zero _)
    | succ n ih => intro s hi hm; exact hs _ s hi (fun s' h1 h2 => ih s' h1 (by omega))
  exact ⟨μ s + 1, key _ s h (Nat.lt_succ_self _)⟩
theorem lp_elim {σ : Type} {F : (σ → Prop) → σ → Prop} {G : σ → Prop} (step : ∀ (K : σ → Prop), (∀ s, K s → G s) → ∀ s, F K s → G s) : ∀ s, lp F s → G s := by
  intro s ⟨n, h⟩
  have key : ∀ (n : Nat) (s : σ), lpN F n s → G s := by
    intro n
    induction n with
    | zero => intro s h; exact h.elim
    | succ n ih => intro s h; exact step _ ih s h
  exact key n s h
theorem mem_seg {L S : List Cond} (p n : Nat) (h : (L.drop p).take n = S) : ∀ w ∈ S, w ∈ L := fun w hw => by
  rw [← h] at hw
  exact List.mem_of_mem_drop (List.mem_of_mem_take hw)
theorem tsw_8 {x : Int32} (h0 : ¬ x = 0) (h1 : ¬ x = 1) (h2 : ¬ x = 2) (h3 : ¬ x = 3) (h4 : ¬ x = 4) (h5 : ¬ x = 5) (h6 : ¬ x = 6) (h7 : ¬ x = 7) : x.toInt < 0 ∨ 7 < x.toInt := by
  rw [← Int32.toInt_inj] at h0 h1 h2 h3 h4 h5 h6 h7
  simp only [Int32.reduceToInt] at h0 h1 h2 h3 h4 h5 h6 h7
  omega
theorem tsw_10 {x : Int32} (h0 : ¬ x = 0) (h1 : ¬ x = 1) (h2 : ¬ x = 2) (h3 : ¬ x = 3) (h4 : ¬ x = 4) (h5 : ¬ x = 5) (h6 : ¬ x = 6) (h7 : ¬ x = 7) (h8 : ¬ x = 8) (h9 : ¬ x = 9) : x.toInt < 0 ∨ 9 < x.toInt := by
  rw [← Int32.toInt_inj] at h0 h1 h2 h3 h4 h5 h6 h7 h8 h9
  simp only [Int32.reduceToInt] at h0 h1 h2 h3 h4 h5 h6 h7 h8 h9
  omega
theorem vp_lit {i : Int32} {n : Nat} (h : decide (0 ≤ i.toInt ∧ i.toInt < n) = true) : vp_in i n := vp_in_iff.mpr (of_decide_eq_true h)
theorem zr_ok {v : Int32} (h : v = 0 ∨ v = 1) : narrow .boolean (.int v) = .int v := by rcases h with rfl | rfl <;> rfl
section BASE
variable {p : Program} {l : Launch} {e : Env} {R : Room} {s : State} {m : MethodId} {args : Array Value} {below : List Frame} {meth : Method} {c : Code} {H : Heap} {locs : List Loc} {cells slots : Nat} {Q : State → Prop}
variable {D : va_G} {cI cJ cZ cO : ClassId}
theorem met_go {y : MethodName} {ws ws' : List Cond} {rm : Room} {cc : ByteArray} {maxL : Nat} {ret : Option FieldType} {av : List Value} {W0 : va_W} {sz : Nat} {Qc : Array Value → State → Outcome → State → Prop} {mc ms : Nat} {free : Addr → Prop}
    (own : String) (ho : y.cls = own) (hy : plainName y.cls = true) (hw : ws = Cond.code y cc maxL ret :: ws') (hlen : (lg_sl av).length ≤ maxL)
    (body : ∀ (p : Program) (e : Env) (s : State) (m : MethodId) (args : Array Value) (below : List Frame) (meth : Method) (c : Code) (ls : Array Slot), p.tables.exec = Jvm.exec → c.code = cc → meth.sig.returnType = ret → (∀ w ∈ ws, w.before args s = true) → s.vm.findClass own = some m.cls → meth.locks = false → meth.name = y.name → c.maxLocals = maxL → s.heap.size = sz → va_P D vwCl W0 s.heap → va_K D vwCl (TY cI cJ cZ cO) s → EN s → va_D (va_A W0 sz) W0 → (∀ q : Nat, s.heap.size ≤ q → va_A W0 sz q) → va_S (va_A W0 sz) s.heap s.heap [] → lv_has ls maxL (lv_args 0 av) →
      W p l e rm s m args below meth c s.heap [] 0 0 (MQ below Qc args s mc ms free) (F0 m 0 ls [])) : Met l y ws rm (va_Pc av (PRE D cI cJ cZ cO W0 sz)) Qc mc ms free := by
  refine Met.ofW (cc := cc) (maxL := maxL) (ret := ret) hy hw ?_
  intro p e s m args below meth c s₁ B hml hv
  obtain ⟨rfl, hsz, hP, hK, hD0, hE⟩ := hv
  have hown : s.vm.findClass y.cls = some m.cls := findClass_of_methodNamed B.named
  have hin : meth.name = y.name := (name_of_methodNamed B.named B.method).1
  have h := lv_entry av hlen
  rw [lg_entry_eq]
  exact body p e s m _ below meth c _ B.exec B.bytes B.returns (atoms_spec (ws := ws) B.pre) (by rw [← ho]; exact hown) B.notSynchronized hin hml hsz hP hK hE (hD0.self) (fun q h => Or.inr (by rw [← hsz]; exact h)) va_S.rf h
theorem jn {A0 : Nat → Prop} {X cx wr w1 X' pl : va_W} {H1 : Heap} {t : State} (hP : va_P D vwCl (X ++ pl) H) (hD : va_D A0 (X ++ pl)) (isC isR is2 : List Nat) (hC : isC.map (fun i => X[i]?) = cx.map some) (hR : isR.map (fun i => X[i]?) = wr.map some) (hn : va_nd isR = true) (hdis : ∀ i ∈ isR, i ∉ isC) (hs2 : is2.map (fun i => (wr ++ w1)[i]?) = X'.map some) (hn2 : va_nd is2 = true)
    (hk : ∀ q : Nat, q < H.size → ¬ va_A cx H.size q → H1[q]? = H[q]?) (hF : ∀ q, va_A cx H.size q → A0 q) (ht : t.heap = H1) (hB : POST D (va_A cx H.size) w1 t) : va_P D vwCl (X' ++ pl) H1 ∧ va_D A0 (X' ++ pl) := by
  obtain ⟨hP1, hD1⟩ := hB
  rw [ht] at hP1
  obtain ⟨g1, g2⟩ := va_joinQ hP hD isC isR hC hR hn hdis hk hF hP1 hD1
  exact ⟨g1.part is2 hs2, g2.part is2 hn2 hs2⟩
theorem jn0 {A0 : Nat → Prop} {X cx wr w1 X' : va_W} {H1 : Heap} {t : State} (hP : va_P D vwCl X H) (hD : va_D A0 X) (isC isR is2 : List Nat) (hC : isC.map (fun i => X[i]?) = cx.map some) (hR : isR.map (fun i => X[i]?) = wr.map some) (hn : va_nd isR = true) (hdis : ∀ i ∈ isR, i ∉ isC) (hs2 : is2.map (fun i => (wr ++ w1)[i]?) = X'.map some) (hn2 : va_nd is2 = true)
    (hk : ∀ q : Nat, q < H.size → ¬ va_A cx H.size q → H1[q]? = H[q]?) (hF : ∀ q, va_A cx H.size q → A0 q) (ht : t.heap = H1) (hB : POST D (va_A cx H.size) w1 t) : va_P D vwCl X' H1 ∧ va_D A0 X' := by
  have h := jn (pl := []) (by rw [List.append_nil]; exact hP) (by rw [List.append_nil]; exact hD) isC isR is2 hC hR hn hdis hs2 hn2 hk hF ht hB
  rw [List.append_nil] at h
  exact h
theorem va_free0 {A0 : Nat → Prop} {X cx pl : va_W} {H0 : Heap} (hD : va_D A0 (X ++ pl)) (hS : va_S A0 H0 H locs) (hA : ∀ q, H0.size ≤ q → A0 q) (isC : List Nat) (hC : isC.map (fun i => X[i]?) = cx.map some) : ∀ q, va_A cx H.size q → A0 q := by
  intro q h
  rcases h with ⟨k, e, h⟩ | h
  · obtain ⟨i, h1, h2⟩ := va_in_of isC hC h
    have h2' : (X ++ pl)[i]? = some (q, e) := by rw [List.getElem?_append_left (List.getElem?_eq_some_iff.mp h2).1]; exact h2
    exact hD.2 i _ h2'
  · exact hA q (Nat.le_trans hS.1 h)
theorem va_P.pre {X cx pl : va_W} (h : va_P D vwCl (X ++ pl) H) (is : List Nat) (hs : is.map (fun i => X[i]?) = cx.map some) : va_P D vwCl cx H := fun k q hk => by
  obtain ⟨i, h1, h2⟩ := va_in_of is hs hk
  exact h i q (by rw [List.getElem?_append_left (List.getElem?_eq_some_iff.mp h2).1]; exact h2)
theorem va_D.pre {A0 : Nat → Prop} {X cx pl : va_W} (h : va_D A0 (X ++ pl)) (is : List Nat) (hn : va_nd is = true) (hs : is.map (fun i => X[i]?) = cx.map some) : va_D A0 cx := by
  have h1 := h.part is hn hs
  refine h1.by id (fun k q hq => ?_) (fun i j _ _ e => e)
  show (cx ++ pl)[k]? = some q
  rw [List.getElem?_append_left (List.getElem?_eq_some_iff.mp hq).1]
  exact hq
/-- what a callee asks of its start, out of the caller's world -/
theorem preS {A0 : Nat → Prop} {X cx pl : va_W} {av : List Value} (hK : va_K D vwCl (TY cI cJ cZ cO) s) (hE : EN s) (hP : va_P D vwCl (X ++ pl) H) (hD : va_D A0 (X ++ pl)) (isC : List Nat) (hn : va_nd isC = true) (hC : isC.map (fun i => X[i]?) = cx.map some) : PreS s H (va_Pc av (PRE D cI cJ cZ cO cx H.size)) av :=
  ⟨PRE.blind, fun U hU hW => ⟨rfl, by rw [hU], by rw [hU]; exact hP.pre isC hC, va_K.moved hW.alike hK, (hD.pre isC hn hC).weaken (fun _ _ _ _ => trivial), hE.warm hW⟩⟩
theorem preV {A0 : Nat → Prop} {X cx pl : va_W} {As : List Value} {C : String} {T : u_T} {N qb ci b : Nat} {fs : List Value} (hK : va_K D vwCl (TY cI cJ cZ cO) s) (hE : EN s) (hP : va_P D vwCl (X ++ pl) H) (hD : va_D A0 (X ++ pl)) (isC : List Nat) (hn : va_nd isC = true) (hC : isC.map (fun i => X[i]?) = cx.map some) (hb : cx[qb]? = some (b, .inr (ci, fs))) (hc : vwCl[ci]? = some (C, T, N)) : PreV s H C b (va_Pc (.ref b :: As) (PRE D cI cJ cZ cO cx H.size)) As :=
  ⟨PRE.blind, va_recv (q := (C, T, N)) hK (hP.pre isC hC) hc hb, fun U hU hW => ⟨rfl, by rw [hU], by rw [hU]; exact hP.pre isC hC, va_K.moved hW.alike hK, (hD.pre isC hn hC).weaken (fun _ _ _ _ => trivial), hE.warm hW⟩⟩
section STORES
variable {cc : ByteArray} {pc : Nat} {ls : Array Slot} {rest : List Value} {cl : List vw_C} {A : Nat → Prop} {a : Nat} {tys : List (ClassId × FieldType)} {ws : va_W} {H0 : Heap}
theorem st_i (hexec : p.tables.exec = Jvm.exec) (hb : c.code = cc) (hK : va_K D cl tys s) (hP : va_P D cl ws H) (hD : va_D A ws) (hS : va_S A H0 H locs) (q0 t0 : Nat) {cA : ClassId} {n : Nat} {f : Nat → Int32} (ha : ws[q0]? = some (a, .inl (cA, n, .inl f))) (ht : tys[t0]? = some (cA, .int)) {i : Int32} {x : Int32} (hin : vp_in i n) (hdg : decode cc pc = .ok (.iastore, 1))
    (kk : ∀ (f' : Nat → Int32), f' = upd f i.toNatClampNeg x → ∀ (H1 : Heap) (locs1 : List Loc), va_P D cl (ws.set q0 (a, .inl (cA, n, .inl f'))) H1 → va_D A (ws.set q0 (a, .inl (cA, n, .inl f'))) → va_S A H0 H1 locs1 → W p l e R s m args below meth c H1 locs1 cells slots Q (F0 m (pc + 1) ls rest)) : W p l e R s m args below meth c H locs cells slots Q (F0 m pc ls (.int x :: .int i :: .ref a :: rest)) :=
  va_iast hexec hb hK hP hD hS q0 t0 ha ht hin hdg (kk _ rfl)
theorem st_z (hexec : p.tables.exec = Jvm.exec) (hb : c.code = cc) (hK : va_K D cl tys s) (hP : va_P D cl ws H) (hD : va_D A ws) (hS : va_S A H0 H locs) (q0 t0 : Nat) {cA : ClassId} {n : Nat} {f : Nat → Int32} (ha : ws[q0]? = some (a, .inl (cA, n, .inl f))) (ht : tys[t0]? = some (cA, .boolean)) {i : Int32} {x : Int32} (hin : vp_in i n) (hdg : decode cc pc = .ok (.bastore, 1))
    (kk : ∀ (f' : Nat → Int32), f' = upd f i.toNatClampNeg (vp_nar .boolean x) → ∀ (H1 : Heap) (locs1 : List Loc), va_P D cl (ws.set q0 (a, .inl (cA, n, .inl f'))) H1 → va_D A (ws.set q0 (a, .inl (cA, n, .inl f'))) → va_S A H0 H1 locs1 → W p l e R s m args below meth c H1 locs1 cells slots Q (F0 m (pc + 1) ls rest)) : W p l e R s m args below meth c H locs cells slots Q (F0 m pc ls (.int x :: .int i :: .ref a :: rest)) :=
  va_zast hexec hb hK hP hD hS q0 t0 ha ht hin hdg (kk _ rfl)
theorem st_l (hexec : p.tables.exec = Jvm.exec) (hb : c.code = cc) (hK : va_K D cl tys s) (hP : va_P D cl ws H) (hD : va_D A ws) (hS : va_S A H0 H locs) (q0 t0 : Nat) {cA : ClassId} {n : Nat} {f : Nat → Int64} (ha : ws[q0]? = some (a, .inl (cA, n, .inr (.inl f)))) (ht : tys[t0]? = some (cA, .long)) {i : Int32} {x : Int64} (hin : vp_in i n) (hdg : decode cc pc = .ok (.lastore, 1))
    (kk : ∀ (f' : Nat → Int64), f' = vp_updL f i.toNatClampNeg x → ∀ (H1 : Heap) (locs1 : List Loc), va_P D cl (ws.set q0 (a, .inl (cA, n, .inr (.inl f')))) H1 → va_D A (ws.set q0 (a, .inl (cA, n, .inr (.inl f')))) → va_S A H0 H1 locs1 → W p l e R s m args below meth c H1 locs1 cells slots Q (F0 m (pc + 1) ls rest)) : W p l e R s m args below meth c H locs cells slots Q (F0 m pc ls (.long x :: .int i :: .ref a :: rest)) :=
  va_last hexec hb hK hP hD hS q0 t0 ha ht hin hdg (kk _ rfl)
end STORES
section CALLS
variable {A0 : Nat → Prop} {H0 : Heap} {X cx wr pl : va_W} {y : MethodName} {bytes cc : ByteArray} {maxL nL mc ms n index : Nat} {ret : Option FieldType} {ws : List Cond} {rm : Room} {Ts : List Cond} {own C : String} {b : Addr} {As rest : List Value} {st0 : List Value} {pc : Nat} {ls : Array Slot} {av : Array Value}
/-- behind a call: the world anew, in its own order -/
theorem af_i {S : Type} {post : Int32 → S → Prop} {w1 X' : S → va_W} (hP : va_P D vwCl (X ++ pl) H) (hD : va_D A0 (X ++ pl)) (hS : va_S A0 H0 H locs) (hA : ∀ q, H0.size ≤ q → A0 q)
    (isC isR is2 : List Nat) (hC : isC.map (fun i => X[i]?) = cx.map some) (hR : isR.map (fun i => X[i]?) = (isR.filterMap (fun i => X[i]?)).map some) (hn : va_nd isR = true) (hdis : ∀ i ∈ isR, i ∉ isC) (hs2 : ∀ u, is2.map (fun i => (isR.filterMap (fun i => X[i]?) ++ w1 u)[i]?) = (X' u).map some) (hn2 : va_nd is2 = true)
    (hr : va_Run p l e R s m args below meth c H locs cells slots mc ms (F0 m pc ls st0) rest (va_Qi post (fun u t => POST D (va_A cx H.size) (w1 u) t) (va_A cx H.size) av) (va_A cx H.size))
    (kk : ∀ (r : Int32) (u : S) (H1 : Heap) (locs1 : List Loc), post r u → va_P D vwCl (X' u ++ pl) H1 → va_D A0 (X' u ++ pl) → va_S A0 H0 H1 locs1 → W p l e R s m args below meth c H1 locs1 (cells + mc) (slots + ms) Q (F0 m (pc + 3) ls (.int r :: rest))) : W p l e R s m args below meth c H locs cells slots Q (F0 m pc ls st0) := by
  have hF := va_free0 hD hS hA isC hC
  refine va_calli hr hS (fun q _ h => hF q h) hF (fun r u t H1 locs1 ht hvm hw hB hz1 hk1 hS => ?_)
  obtain ⟨hP, hD⟩ := jn hP hD isC isR is2 hC hR hn hdis (hs2 u) hn2 hk1 hF ht hB
  exact kk r u H1 locs1 hw hP hD hS
theorem af_l {S : Type} {post : Int64 → S → Prop} {w1 X' : S → va_W} (hP : va_P D vwCl (X ++ pl) H) (hD : va_D A0 (X ++ pl)) (hS : va_S A0 H0 H locs) (hA : ∀ q, H0.size ≤ q → A0 q)
    (isC isR is2 : List Nat) (hC : isC.map (fun i => X[i]?) = cx.map some) (hR : isR.map (fun i => X[i]?) = (isR.filterMap (fun i => X[i]?)).map some) (hn : va_nd isR = true) (hdis : ∀ i ∈ isR, i ∉ isC) (hs2 : ∀ u, is2.map (fun i => (isR.filterMap (fun i => X[i]?) ++ w1 u)[i]?) = (X' u).map some) (hn2 : va_nd is2 = true)
    (hr : va_Run p l e R s m args below meth c H locs cells slots mc ms (F0 m pc ls st0) rest (va_Ql post (fun u t => POST D (va_A cx H.size) (w1 u) t) (va_A cx H.size) av) (va_A cx H.size))
    (kk : ∀ (r : Int64) (u : S) (H1 : Heap) (locs1 : List Loc), post r u → va_P D vwCl (X' u ++ pl) H1 → va_D A0 (X' u ++ pl) → va_S A0 H0 H1 locs1 → W p l e R s m args below meth c H1 locs1 (cells + mc) (slots + ms) Q (F0 m (pc + 3) ls (.long r :: rest))) : W p l e R s m args below meth c H locs cells slots Q (F0 m pc ls st0) := by
  have hF := va_free0 hD hS hA isC hC
  refine va_calll hr hS (fun q _ h => hF q h) hF (fun r u t H1 locs1 ht hvm hw hB hz1 hk1 hS => ?_)
  obtain ⟨hP, hD⟩ := jn hP hD isC isR is2 hC hR hn hdis (hs2 u) hn2 hk1 hF ht hB
  exact kk r u H1 locs1 hw hP hD hS
theorem af_v {S : Type} {post : S → Prop} {w1 X' : S → va_W} (hP : va_P D vwCl (X ++ pl) H) (hD : va_D A0 (X ++ pl)) (hS : va_S A0 H0 H locs) (hA : ∀ q, H0.size ≤ q → A0 q)
    (isC isR is2 : List Nat) (hC : isC.map (fun i => X[i]?) = cx.map some) (hR : isR.map (fun i => X[i]?) = (isR.filterMap (fun i => X[i]?)).map some) (hn : va_nd isR = true) (hdis : ∀ i ∈ isR, i ∉ isC) (hs2 : ∀ u, is2.map (fun i => (isR.filterMap (fun i => X[i]?) ++ w1 u)[i]?) = (X' u).map some) (hn2 : va_nd is2 = true)
    (hr : va_Run p l e R s m args below meth c H locs cells slots mc ms (F0 m pc ls st0) rest (va_Qv post (fun u t => POST D (va_A cx H.size) (w1 u) t) (va_A cx H.size) av) (va_A cx H.size))
    (kk : ∀ (u : S) (H1 : Heap) (locs1 : List Loc), post u → va_P D vwCl (X' u ++ pl) H1 → va_D A0 (X' u ++ pl) → va_S A0 H0 H1 locs1 → W p l e R s m args below meth c H1 locs1 (cells + mc) (slots + ms) Q (F0 m (pc + 3) ls rest)) : W p l e R s m args below meth c H locs cells slots Q (F0 m pc ls st0) := by
  have hF := va_free0 hD hS hA isC hC
  refine va_callv hr hS (fun q _ h => hF q h) hF (fun u t H1 locs1 ht hvm hw hB hz1 hk1 hS => ?_)
  obtain ⟨hP, hD⟩ := jn hP hD isC isR is2 hC hR hn hdis (hs2 u) hn2 hk1 hF ht hB
  exact kk u H1 locs1 hw hP hD hS
end CALLS
end BASE
section RETS
variable {p : Program} {l : Launch} {e : Env} {R : Room} {s : State} {m : MethodId} {args : Array Value} {below : List Frame} {meth : Method} {c : Code} {H : Heap} {locs : List Loc} {cells slots : Nat}
variable {D : va_G} {A : Nat → Prop} {cc : ByteArray} {pc : Nat} {ls : Array Slot}
theorem rt_i {S : Type} {post : Int32 → S → Prop} {Wf : S → va_W} {v : Int32} (u : S) (hx : p.tables.exec = Jvm.exec) (hb : c.code = cc) (hr : meth.sig.returnType = some .int) (hlocks : meth.locks = false) (hw : post v u) (hP : va_P D vwCl (Wf u) H) (hD : va_D A (Wf u)) (hS : va_S A s.heap H locs) (hdg : decode cc pc = .ok (.ireturn, 1)) : W p l e R s m args below meth c H locs cells slots (MQ below (va_Qi post (fun u t => POST D A (Wf u) t) A) args s cells slots A) (F0 m pc ls [.int v]) :=
  W.iret hx hb hr (fun t ht hW => ⟨⟨v, u, rfl, hw, by rw [ht]; exact hP, hD⟩, hS.F ht⟩) hS.2.2 hdg hlocks
theorem rt_z {S : Type} {post : Int32 → S → Prop} {Wf : S → va_W} {v : Int32} (u : S) (hx : p.tables.exec = Jvm.exec) (hb : c.code = cc) (hr : meth.sig.returnType = some .boolean) (hlocks : meth.locks = false) (hv : v = 0 ∨ v = 1) (hw : post v u) (hP : va_P D vwCl (Wf u) H) (hD : va_D A (Wf u)) (hS : va_S A s.heap H locs) (hdg : decode cc pc = .ok (.ireturn, 1)) : W p l e R s m args below meth c H locs cells slots (MQ below (va_Qi post (fun u t => POST D A (Wf u) t) A) args s cells slots A) (F0 m pc ls [.int v]) :=
  W.zret hx hb hr (zr_ok hv) (fun t ht hW => ⟨⟨v, u, rfl, hw, by rw [ht]; exact hP, hD⟩, hS.F ht⟩) hS.2.2 hdg hlocks
theorem rt_l {S : Type} {post : Int64 → S → Prop} {Wf : S → va_W} {v : Int64} (u : S) (hx : p.tables.exec = Jvm.exec) (hb : c.code = cc) (hr : meth.sig.returnType = some .long) (hlocks : meth.locks = false) (hw : post v u) (hP : va_P D vwCl (Wf u) H) (hD : va_D A (Wf u)) (hS : va_S A s.heap H locs) (hdg : decode cc pc = .ok (.lreturn, 1)) : W p l e R s m args below meth c H locs cells slots (MQ below (va_Ql post (fun u t => POST D A (Wf u) t) A) args s cells slots A) (F0 m pc ls [.long v]) :=
  W.lret hx hb hr (fun t ht hW => ⟨⟨v, u, rfl, hw, by rw [ht]; exact hP, hD⟩, hS.F ht⟩) hS.2.2 hdg hlocks
theorem rt_v {S : Type} {post : S → Prop} {Wf : S → va_W} (u : S) (hx : p.tables.exec = Jvm.exec) (hb : c.code = cc) (hr : meth.sig.returnType = none) (hlocks : meth.locks = false) (hw : post u) (hP : va_P D vwCl (Wf u) H) (hD : va_D A (Wf u)) (hS : va_S A s.heap H locs) (hdg : decode cc pc = .ok (.return_, 1)) : W p l e R s m args below meth c H locs cells slots (MQ below (va_Qv post (fun u t => POST D A (Wf u) t) A) args s cells slots A) (F0 m pc ls []) :=
  W.vret hx hb hr (fun t ht hW => ⟨⟨u, rfl, hw, by rw [ht]; exact hP, hD⟩, hS.F ht⟩) hS.2.2 hdg hlocks
end RETS
