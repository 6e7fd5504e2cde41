/-! what the law's own methods stand on: an entry with all that helpers ask, cuts, the script's cell -/
section KR
variable {p : Program} {l : Launch} {e : Env} {R : Room} {s : State} {m : MethodId} {args : Array Value} {below : List Frame} {meth : Method} {c : Code} {H : Heap} {locs : List Loc} {cells slots : Nat} {Q : State → Prop}
variable {D : va_G} {cI cJ cZ cO : ClassId} {A0 : Nat → Prop} {H0 : Heap} {tD mi : Nat}
theorem met_goA {tD mi : Nat} {l : Launch} {D : va_G} {cI cJ cZ cO : ClassId} {y : MethodName} {ws ws' : List Cond} {rm : Room} {cc : ByteArray} {maxL : Nat} {ret : Option FieldType} {av : List Value} {W0 : va_W} {sz : Nat} {Qc : Array Value → State → Outcome → State → Prop} {mc ms : Nat} {free : Addr → Prop}
    (own : String) (ho : y.cls = own) (hy : plainName y.cls = true) (hw : ws = Cond.code y cc maxL ret :: ws') (hlen : (lg_sl av).length ≤ maxL)
    (body : ∀ (p : Program) (e : Env) (s : State) (m : MethodId) (args : Array Value) (below : List Frame) (meth : Method) (c : Code) (ls : Array Slot), p.tables.exec = Jvm.exec → c.code = cc → meth.sig.returnType = ret → (∀ w ∈ ws, w.before args s = true) → s.vm.findClass own = some m.cls → meth.locks = false → c.maxLocals = maxL → va_P D vwCl W0 s.heap → va_K D vwCl (TY cI cJ cZ cO) s → EN s → THR (va_A W0 sz) s s.heap → LST tD mi (va_A W0 sz) s s.heap → NC s → va_D (va_A W0 sz) W0 → (∀ q : Nat, s.heap.size ≤ q → va_A W0 sz q) → va_S (va_A W0 sz) s.heap s.heap [] → lv_has ls maxL (lv_args 0 av) →
      W p l e rm s m args below meth c s.heap [] 0 0 (MQ below Qc args s mc ms free) (F0 m 0 ls [])) : Met l y ws rm (va_Pc av (PREW tD mi D cI cJ cZ cO W0 sz)) Qc mc ms free := by
  refine Met.ofW (cc := cc) (maxL := maxL) (ret := ret) hy hw ?_
  intro p e s m args below meth c s₁ B hml hv
  obtain ⟨rfl, ⟨⟨⟨hsz, hP, hK, hD0, hE⟩, hT⟩, hL⟩, hN⟩ := hv
  have hown : s.vm.findClass y.cls = some m.cls := findClass_of_methodNamed B.named
  have h := lv_entry av hlen
  rw [lg_entry_eq]
  exact body p e s m _ below meth c _ B.exec B.bytes B.returns (atoms_spec (ws := ws) B.pre) (by rw [← ho]; exact hown) B.notSynchronized hml hP hK hE hT hL hN (hD0.self) (fun q h => Or.inr (by rw [← hsz]; exact h)) va_S.rf h
theorem cut_nil {X : va_W} (hP : va_P D vwCl X H) (hD : va_D A0 X) (hS : va_S A0 H0 H locs) (hA : ∀ q, H0.size ≤ q → A0 q) : Cut D A0 H [] (fun (_ : Unit) => ([] : va_W)) (fun _ => X) :=
  cut0 (S := Unit) (X := []) (cx := []) (pl := X) (w1 := fun _ => []) (X' := fun _ => []) hP hD hS hA [] [] [] rfl rfl (by decide) (by decide) (by decide) (fun u => rfl) (by decide)
theorem Cut.preVV {S : Type} {h : Nat} {u : KT} {w1 wa : S → va_W} {As : List Value} (C : Cut D A0 H (WCt cI cJ cO h u) w1 wa) (hK : va_K D vwCl (TY cI cJ cZ cO) s) (hE : EN s) : PreV s H RX4 h (va_Pc (.ref h :: As) (PRE D cI cJ cZ cO (WCt cI cJ cO h u) H.size)) As := by
  obtain ⟨n, hv, sw, m_cap, a, aC, aM, aW, aN, aF, aL, ad, af, br, md, el, ow, su, wr, wc, nr, nc, fr, fc, lq, lh, lw, lsp, x1, x2, x3, x4, x5, qc, qs, ql, qt, qo, qh, qf, qth, v⟩ := u
  exact C.preV (qb := 0) (ci := 5) hK hE rfl rfl
/-! the script's cell -/
def PREC (b L : Nat) (xs : Nat → Int32) (sz : Nat) (U : State) : Prop := U.heap.size = sz ∧ va_X b L xs U U.heap ∧ b < sz
theorem PREC.blind {av : List Value} {b L sz : Nat} {xs : Nat → Int32} : FrameBlind (va_Pc av (PREC b L xs sz)) := fun a U g mk q => by
  obtain ⟨q0, q1, qX, q2⟩ := q
  exact ⟨q0, q1, va_X.moved (u := U) (U := U.calling g mk a) (Vm.Alike.refl U.vm) qX, q2⟩
theorem preSC {av : List Value} {b L : Nat} {xs : Nat → Int32} (hX : va_X b L xs s H0) (hbl : b < H0.size) (hbA : ¬ A0 b) (hS : va_S A0 H0 H locs) : PreS s H (va_Pc av (PREC b L xs H.size)) av :=
  ⟨PREC.blind, fun U hU hW => ⟨rfl, by rw [hU], by rw [hU]; exact (hX.kept (hS.2.1 b hbl hbA)).moved hW.alike, Nat.lt_of_lt_of_le hbl hS.1⟩⟩
abbrev rm_L_cell : Room := { frames := 0, cells := 0, slots := 0, locals := 0 }
set_option maxRecDepth 100000 in
theorem c_L_cell (l : Launch) (D : va_G) (b L : Nat) (xs : Nat → Int32) (sz k : Nat) (hk : k < 80) (hL : L ≤ 260) : Met l yL_cell wsL_cell rm_L_cell (va_Pc [.ref b, .int (nI k)] (PREC b L xs sz)) (va_Qi (fun r (_ : Unit) => True) (fun _ t => POST D (va_A [] sz) [] t) (va_A [] sz)) 0 0 (va_A [] sz) := by
  refine Met.ofW (cc := cL_cell) (maxL := 2) (ret := some .int) (by decide) rfl ?_
  intro p e s m args below meth c s₁ B hml hv
  obtain ⟨rfl, hsz, hX, hbl⟩ := hv
  subst hsz
  have hl := lv_entry (n := 2) [Value.ref b, .int (nI k)] (Nat.le_of_ble_eq_true rfl)
  rw [lg_entry_eq]
  have hx := B.exec
  have hb : c.code = cL_cell := B.bytes
  have hP : ∀ H : Heap, va_P D vwCl ([] : va_W) H := fun H k q h9 => by cases h9
  have hD : va_D (va_A [] s.heap.size) ([] : va_W) := ⟨fun i j p q h9 => (by cases h9), fun k q h9 => (by cases h9)⟩
  have hS : va_S (va_A [] s.heap.size) s.heap s.heap [] := va_S.rf
  have hbA : ¬ va_A [] s.heap.size b := fun z => by
    rcases z with ⟨i, e, z⟩ | z
    · cases z
    · omega
  generalize (lg_sl [Value.ref b, .int (nI k)] ++ List.replicate (2 - (lg_sl [Value.ref b, .int (nI k)]).length) Slot.unset).toArray = ls at hl ⊢
  have hl : lv_has ls 2 [(0, .ref b), (1, .int (nI k))] := hl
  refine lv_iload_n hx hb dL_cell_0 rfl (lv_at hl 1 rfl) ?_
  refine lv_aload_n hx hb dL_cell_1 rfl (lv_at hl 0 rfl) ?_
  refine va_slen hx hb hX hbl hbA hS dL_cell_2 ?_
  refine lv_icmp_ge (tgt := 12) hx hb dL_cell_3 (by decide) (fun c3 => ?_) (fun c3 => ?_)
  · refine lv_sipush (v := 7919) hx hb dL_cell_12 (by decide) ?_
    refine lv_iload_n hx hb dL_cell_15 rfl (lv_at hl 1 rfl) ?_
    refine lv_sipush (v := 2027) hx hb dL_cell_16 (by decide) ?_
    refine lv_iadd hx hb dL_cell_19 ?_
    refine lv_imul hx hb dL_cell_20 ?_
    refine lv_iload_n hx hb dL_cell_21 rfl (lv_at hl 1 rfl) ?_
    refine lv_bipush (v := 31) hx hb dL_cell_22 (by decide) ?_
    refine lv_iadd hx hb dL_cell_24 ?_
    refine lv_imul hx hb dL_cell_25 ?_
    exact rt_i (S := Unit) (post := fun _ _ => True) (Wf := fun _ => []) () hx hb B.returns B.notSynchronized trivial (hP _) hD hS dL_cell_26
  · have hlt : k < L := by
      refine Nat.not_le.mp (fun z => c3 ?_)
      rw [show Int32.ofNat L = nI L from rfl, fa_le, nI_toInt (by omega), nI_toInt (by omega)]
      omega
    refine lv_aload_n hx hb dL_cell_6 rfl (lv_at hl 0 rfl) ?_
    refine lv_iload_n hx hb dL_cell_7 rfl (lv_at hl 1 rfl) ?_
    refine va_sld hx hb hX hbl hbA hS (vp_in_nI hlt (by omega)) dL_cell_8 ?_
    refine lv_goto (tgt := 26) hx hb dL_cell_9 (by decide) ?_
    exact rt_i (S := Unit) (post := fun _ _ => True) (Wf := fun _ => []) () hx hb B.returns B.notSynchronized trivial (hP _) hD hS dL_cell_26
end KR
