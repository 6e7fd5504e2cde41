/-! helpers of the law: what they ask of the start; their handlers -/
def NC (U : State) : Prop := va_Nc xIAE xIOB U ∧ va_Nc xISE xIOB U ∧ va_Nc xISE xIAE U
theorem NC.moved {u U : State} (hvm : u.vm.Alike U.vm) (h : NC u) : NC U := ⟨h.1.moved hvm, h.2.1.moved hvm, h.2.2.moved hvm⟩
def PREW (tD mi : Nat) (D : va_G) (cI cJ cZ cO : ClassId) (W : va_W) (sz : Nat) (U : State) : Prop := PREXL tD mi D cI cJ cZ cO W sz U ∧ NC U
theorem PREW.blind {av : List Value} {tD mi : Nat} {D : va_G} {cI cJ cZ cO : ClassId} {W : va_W} {sz : Nat} : FrameBlind (va_Pc av (PREW tD mi D cI cJ cZ cO W sz)) := fun a U g mk q => by
  obtain ⟨q0, q1, q2⟩ := q
  exact ⟨q0, (PREXL.blind (av := av) a U g mk ⟨q0, q1⟩).2, NC.moved (u := U) (U := U.calling g mk a) (Vm.Alike.refl U.vm) q2⟩
section PW
variable {p : Program} {l : Launch} {e : Env} {R : Room} {s : State} {m : MethodId} {args : Array Value} {below : List Frame} {meth : Method} {c : Code} {H : Heap} {locs : List Loc} {cells slots : Nat} {Q : State → Prop}
variable {D : va_G} {cI cJ cZ cO : ClassId} {A0 : Nat → Prop} {H0 : Heap} {tD mi : Nat}
theorem Cut.preSW {S : Type} {wc : va_W} {w1 wa : S → va_W} {av : List Value} (h : Cut D A0 H wc w1 wa) (hK : va_K D vwCl (TY cI cJ cZ cO) s) (hE : EN s) (hT : THR A0 s s.heap) (hL : LST tD mi A0 s s.heap) (hN : NC s) (hS : va_S A0 s.heap H locs) : PreS s H (va_Pc av (PREW tD mi D cI cJ cZ cO wc H.size)) av :=
  ⟨PREW.blind, fun U hU hW => ⟨rfl, ⟨⟨⟨by rw [hU], by rw [hU]; exact h.1, va_K.moved hW.alike hK, h.2.1, hE.warm hW⟩, hT.call hS h.2.2.1 hU hW⟩, hL.call hS h.2.2.1 hU hW⟩, hN.moved hW.alike⟩⟩
theorem Cut.preVXL {S : Type} {wc : va_W} {w1 wa : S → va_W} {As : List Value} {C : String} {T : u_T} {N qb ci b : Nat} {fs : List Value} (h : Cut D A0 H wc w1 wa) (hK : va_K D vwCl (TY cI cJ cZ cO) s) (hE : EN s) (hT : THR A0 s s.heap) (hL : LST tD mi A0 s s.heap) (hS : va_S A0 s.heap H locs) (hb : wc[qb]? = some (b, .inr (ci, fs))) (hc : vwCl[ci]? = some (C, T, N)) : PreV s H C b (va_Pc (.ref b :: As) (PREXL tD mi D cI cJ cZ cO wc H.size)) As :=
  ⟨PREXL.blind, va_recv (q := (C, T, N)) hK h.1 hc hb, fun U hU hW => ⟨rfl, ⟨⟨by rw [hU], by rw [hU]; exact h.1, va_K.moved hW.alike hK, h.2.1, hE.warm hW⟩, hT.call hS h.2.2.1 hU hW⟩, hL.call hS h.2.2.1 hU hW⟩⟩
end PW
theorem met_goW {tD mi : Nat} {l : Launch} {D : va_G} {cI cJ cZ cO : ClassId} {y : MethodName} {ws ws' : List Cond} {rm : Room} {cc : ByteArray} {maxL : Nat} {ret : Option FieldType} {hh : List (Nat × Nat × Nat × Nat)} {av : List Value} {W0 : va_W} {sz : Nat} {Qc : Array Value → State → Outcome → State → Prop} {mc ms : Nat} {free : Addr → Prop}
    (own : String) (ho : y.cls = own) (hy : plainName y.cls = true) (hw : ws = Cond.codeWith y cc maxL ret hh :: ws') (hlen : (lg_sl av).length ≤ maxL)
    (body : ∀ (p : Program) (e : Env) (s : State) (m : MethodId) (args : Array Value) (below : List Frame) (meth : Method) (c : Code) (ls : Array Slot), p.tables.exec = Jvm.exec → c.code = cc → meth.sig.returnType = ret → (∀ w ∈ ws, w.before args s = true) → s.vm.findClass own = some m.cls → meth.locks = false → c.maxLocals = maxL → c.exceptionTable.toList = tableOf hh → va_P D vwCl W0 s.heap → va_K D vwCl (TY cI cJ cZ cO) s → EN s → THR (va_A W0 sz) s s.heap → LST tD mi (va_A W0 sz) s s.heap → NC s → va_D (va_A W0 sz) W0 → (∀ q : Nat, s.heap.size ≤ q → va_A W0 sz q) → va_S (va_A W0 sz) s.heap s.heap [] → lv_has ls maxL (lv_args 0 av) →
      W p l e rm s m args below meth c s.heap [] 0 0 (MQ below Qc args s mc ms free) (F0 m 0 ls [])) : Met l y ws rm (va_Pc av (PREW tD mi D cI cJ cZ cO W0 sz)) Qc mc ms free := by
  refine va_MetW (cc := cc) (maxL := maxL) (ret := ret) hy hw ?_
  intro p e s m args below meth c s₁ B hml hv
  obtain ⟨rfl, ⟨⟨⟨hsz, hP, hK, hD0, hE⟩, hT⟩, hL⟩, hN⟩ := hv
  have hown : s.vm.findClass y.cls = some m.cls := findClass_of_methodNamed B.named
  have hat := atoms_spec (ws := ws) B.pre
  have ht := vx_table (x := y) B (hat (Cond.codeWith y cc maxL ret hh) (by rw [hw]; exact List.mem_cons_self))
  have h := lv_entry av hlen
  rw [lg_entry_eq]
  exact body p e s m _ below meth c _ B.exec B.bytes B.returns hat (by rw [← ho]; exact hown) B.notSynchronized hml ht hP hK hE hT hL hN (hD0.self) (fun q h => Or.inr (by rw [← hsz]; exact h)) va_S.rf h
theorem x13c {c : Nat} (h : c ≠ 0) (hl : c ≤ 2) : (x13 c = xIOB ∧ c = 1) ∨ (x13 c = xISE ∧ c = 2) := by
  unfold x13
  by_cases e : c = 1
  · exact Or.inl ⟨if_pos e, e⟩
  · exact Or.inr ⟨if_neg e, by omega⟩
theorem x12c {c : Nat} (h : c ≠ 0) (hl : c ≤ 2) : (x12 c = xIOB ∧ c = 1) ∨ (x12 c = xIAE ∧ c = 2) := by
  unfold x12
  by_cases e : c = 1
  · exact Or.inl ⟨if_pos e, e⟩
  · exact Or.inr ⟨if_neg e, by omega⟩
theorem x123c {c : Nat} (h : c ≠ 0) (hl : c ≤ 3) : (x123 c = xIOB ∧ c = 1) ∨ (x123 c = xIAE ∧ c = 2) ∨ (x123 c = xISE ∧ c = 3) := by
  unfold x123
  by_cases e : c = 1
  · exact Or.inl ⟨if_pos e, e⟩
  · rw [if_neg e]
    by_cases e2 : c = 2
    · exact Or.inr (Or.inl ⟨if_pos e2, e2⟩)
    · exact Or.inr (Or.inr ⟨if_neg e2, by omega⟩)
theorem giveC_le {n : Nat} {own : Nat → Nat} {pd : Nat → Nat → Nat} {c p : Int32} : giveC n own pd c p ≤ 2 := by unfold giveC; (repeat' split) <;> omega
theorem joinC_le {n : Nat} {own : Nat → Nat} {pd : Nat → Nat → Nat} {c p : Int32} : joinC n own pd c p ≤ 2 := by unfold joinC; (repeat' split) <;> omega
theorem divC_le {n : Nat} {own : Nat → Nat} {pd : Nat → Nat → Nat} {c p : Int32} : divC n own pd c p ≤ 3 := by unfold divC; (repeat' split) <;> omega
theorem colC_le {n : Nat} {own : Nat → Nat} {pd : Nat → Nat → Nat} {c p : Int32} : colC n own pd c p ≤ 3 := by unfold colC; (repeat' split) <;> omega
theorem paintC_le {n : Nat} {own : Nat → Nat} {pd : Nat → Nat → Nat} {c p : Int32} : paintC n own pd c p ≤ 3 := by unfold paintC; (repeat' split) <;> omega
theorem replC_le {n : Nat} {own : Nat → Nat} {pd : Nat → Nat → Nat} {c p : Int32} : replC n own pd c p ≤ 3 := by unfold replC; (repeat' split) <;> omega
theorem mendC_le {n : Nat} {own : Nat → Nat} {pd : Nat → Nat → Nat} {p : Int32} : mendC n own pd p ≤ 2 := by unfold mendC; (repeat' split) <;> omega
theorem barC_le {bar : Nat → Bool} {p : Int32} : barC bar p ≤ 2 := by unfold barC; (repeat' split) <;> omega
theorem fireC_le {n : Nat} {own : Nat → Nat} {c p : Int32} : fireC n own c p ≤ 2 := by unfold fireC; (repeat' split) <;> omega
theorem pieC_le {n : Nat} {own : Nat → Nat} {c p : Int32} : pieC n own c p ≤ 2 := by unfold pieC; (repeat' split) <;> omega
theorem benC_le {bar : Nat → Bool} {c p : Int32} : benC bar c p ≤ 2 := by unfold benC; (repeat' split) <;> omega
theorem tnP {n : Nat} {own : Nat → Nat} {p : Int32} (h : isP n own p = true) (hn : n ≤ 60) : tN p < n := by
  obtain ⟨q, hq, hq60, rfl, -⟩ := isP_t h hn
  rw [tN_nI (by omega)]; exact hq
theorem tnC {c : Int32} (h : isC c = true) : tN c < 256 := by
  obtain ⟨k, rfl, hk⟩ := isC_t h
  rw [tN_nI (by omega)]; exact hk
theorem tnR {k : Int32} {a b : Nat} (hb : b < 2147483648) (h : inR k a b = true) : a ≤ tN k ∧ tN k ≤ b := by
  obtain ⟨q, rfl, h1, h2⟩ := inR_t h
  rw [tN_nI (by omega)]; exact ⟨h1, h2⟩
theorem paint5 {n : Nat} {own : Nat → Nat} {pd : Nat → Nat → Nat} {p k : Int32} (h : paintC n own pd p k = 0) (e1 : isP n own p = true) (e2 : inR k 500 700 = true) : ¬ pd (tN p) 2 = 5 := fun z => by
  unfold paintC at h
  rw [if_pos e1, if_pos e2, if_pos z] at h
  exact absurd h (by decide)
