/-! the law's act: one call on one object -/
abbrev rm_L_act : Room := { frames := 9, cells := 6, slots := 134, locals := 284 }
/-- what holds all of act long -/
def LA (p : Program) (l : Launch) (s : State) (m : MethodId) (args : Array Value) (meth : Method) (c : Code) (D : va_G) (cI cJ cZ cO : ClassId) (tD mi : Nat) (A : Nat → Prop) : Prop :=
  p.tables.exec = Jvm.exec ∧ c.code = cL_act ∧ meth.sig.returnType = some .int ∧ c.maxLocals = 8 ∧ s.vm.findClass RL = some m.cls ∧ (∀ w ∈ wsL_act, w.before args s = true) ∧ meth.locks = false ∧ l.stackTraces = false ∧ va_K D vwCl (TY cI cJ cZ cO) s ∧ EN s ∧ THR A s s.heap ∧ LST tD mi A s s.heap ∧ NC s ∧ ∀ q, s.heap.size ≤ q → A q
section ACTS
variable {p : Program} {l : Launch} {e9 : Env} {s : State} {m : MethodId} {args : Array Value} {below : List Frame} {meth : Method} {c : Code} {D : va_G} {cI cJ cZ cO : ClassId} {tD mi h : Nat} {A : Nat → Prop} {s0 : SG} {u : KT} {v e : Int32} {H : Heap} {locs : List Loc} {ls : Array Slot}
set_option maxHeartbeats 4000000 in
set_option maxRecDepth 100000 in
theorem ka_244 (C : LA p l s m args meth c D cI cJ cZ cO tD mi A) (hR : RCt s0 u) (hP : va_P D vwCl (WCt cI cJ cO h u) H) (hD : va_D A (WCt cI cJ cO h u)) (hS : va_S A s.heap H locs) (hl : lv_has ls 8 [(7, .int ((muA v))), (6, .int ((ceA v))), (5, .int ((otA v))), (4, .int ((pcA v))), (3, .int ((bI (oddB v)))), (0, .ref h), (1, .int v), (2, .int e)]) (eA : ACT s0 v e = (R_divide s0 (pcA v) (iteB (oddB v) (muA v) (lowI (shI v 8) 31)))) : W p l e9 rm_L_act s m args below meth c H locs 0 0 (MQ below (va_Qi (fun r (w : KT) => ∃ t, ACT s0 v e r t ∧ RCt t w) (fun w t => POST D A (WCt cI cJ cO h w) t) A) args s 6 134 A) (F0 m 244 ls []) := by
  obtain ⟨hx, hb, hr, hml, hown, hts, hlocks, hst, hK, hE, hT, hLS, hN, hA⟩ := C
  cases ho : oddB v
  · refine lv_aload_n hx hb dL_act_244 rfl (lv_at hl 5 rfl) ?_
    refine lv_iload hx hb dL_act_245 (lv_at hl 3 rfl) ?_
    refine lv_iload_n hx hb dL_act_247 rfl (lv_at hl 4 rfl) ?_
    refine lv_if_eq (tgt := 256) hx hb dL_act_248 (by decide) (fun _ => ?_) (fun z => absurd z (by rw [ho]; decide))
    refine lv_iload_n hx hb dL_act_256 rfl (lv_at hl 6 rfl) ?_
    refine lv_bipush (v := 8) hx hb dL_act_257 (by decide) ?_
    refine lv_ishr hx hb dL_act_259 ?_
    refine lv_bipush (v := 31) hx hb dL_act_260 (by decide) ?_
    refine ca_i (wa := fun (_ : Unit) => WCt cI cJ cO h u) (cut_nil hP hD hS hA) hS (va_runS (As := [.int ((v >>> (8 &&& 31))), .int 31]) (rest := [.int ((pcA v)), .ref h]) ⟨hx, hb, hml, hown, hts⟩ (c_L_low l D cI cJ cZ cO H.size ((v >>> (8 &&& 31))) 31 (fun r => r = lowI ((v >>> (8 &&& 31))) 31) ⟨by decide, rfl⟩) (va_cwS 2 hts gL_act_L_low rfl rfl rfl (by decide +kernel) ⟨Nat.le_of_ble_eq_true rfl, Nat.le_of_ble_eq_true rfl⟩) ((cut_nil hP hD hS hA).preS hK hE) rfl rfl hl.1 rfl (lv_room (Nat.le_of_ble_eq_true rfl)) dL_act_262 ⟨Nat.le_of_ble_eq_true rfl, Nat.le_of_ble_eq_true rfl⟩) (fun r _ H locs hw hP hD hS => ?_)
    obtain rfl := hw
    have hCut := cut_all (S := KT) (w1 := fun (u : KT) => WCt cI cJ cO h u) hP hD hS hA
    refine ca_i (wa := fun (u1 : KT) => WCt cI cJ cO h u1) hCut hS (vx_runSW (As := [.ref h, .int ((pcA v)), .int ((lowI ((v >>> (8 &&& 31))) 31))]) (rest := []) ⟨hx, hb, hml, hown, hts⟩ (c_L_divide l D hst cI cJ cZ cO tD mi h s0 u _ ((pcA v)) ((lowI ((v >>> (8 &&& 31))) 31)) hR) (vx_cwSW 3 hts gL_act_L_divide rfl rfl rfl (by decide +kernel) ⟨Nat.le_of_ble_eq_true rfl, Nat.le_of_ble_eq_true rfl⟩) (hCut.preSW hK hE hT hLS hN hS) rfl rfl hl.1 rfl (lv_room (Nat.le_of_ble_eq_true rfl)) dL_act_265 ⟨Nat.le_of_ble_eq_true rfl, Nat.le_of_ble_eq_true rfl⟩) (fun r265 u1 H locs hw hP hD hS => ?_)
    refine W.widen (k := 6) (n := 134) (by decide) (by decide) ?_
    exact rt_i (S := KT) (post := fun r (w : KT) => ∃ t, ACT s0 v e r t ∧ RCt t w) (Wf := fun w => WCt cI cJ cO h w) u1 hx hb hr hlocks (by rw [eA, ho]; exact hw) hP hD hS dL_act_268
  · refine lv_aload_n hx hb dL_act_244 rfl (lv_at hl 5 rfl) ?_
    refine lv_iload hx hb dL_act_245 (lv_at hl 3 rfl) ?_
    refine lv_iload_n hx hb dL_act_247 rfl (lv_at hl 4 rfl) ?_
    refine lv_if_eq (tgt := 256) hx hb dL_act_248 (by decide) (fun z => absurd z (by rw [ho]; decide)) (fun _ => ?_)
    refine lv_iload hx hb dL_act_251 (lv_at hl 0 rfl) ?_
    refine lv_goto (tgt := 265) hx hb dL_act_253 (by decide) ?_
    have hCut := cut_all (S := KT) (w1 := fun (u : KT) => WCt cI cJ cO h u) hP hD hS hA
    refine ca_i (wa := fun (u1 : KT) => WCt cI cJ cO h u1) hCut hS (vx_runSW (As := [.ref h, .int ((pcA v)), .int ((muA v))]) (rest := []) ⟨hx, hb, hml, hown, hts⟩ (c_L_divide l D hst cI cJ cZ cO tD mi h s0 u _ ((pcA v)) ((muA v)) hR) (vx_cwSW 3 hts gL_act_L_divide rfl rfl rfl (by decide +kernel) ⟨Nat.le_of_ble_eq_true rfl, Nat.le_of_ble_eq_true rfl⟩) (hCut.preSW hK hE hT hLS hN hS) rfl rfl hl.1 rfl (lv_room (Nat.le_of_ble_eq_true rfl)) dL_act_265 ⟨Nat.le_of_ble_eq_true rfl, Nat.le_of_ble_eq_true rfl⟩) (fun r265 u1 H locs hw hP hD hS => ?_)
    refine W.widen (k := 6) (n := 134) (by decide) (by decide) ?_
    exact rt_i (S := KT) (post := fun r (w : KT) => ∃ t, ACT s0 v e r t ∧ RCt t w) (Wf := fun w => WCt cI cJ cO h w) u1 hx hb hr hlocks (by rw [eA, ho]; exact hw) hP hD hS dL_act_268
set_option maxHeartbeats 4000000 in
set_option maxRecDepth 100000 in
theorem ka_269 (C : LA p l s m args meth c D cI cJ cZ cO tD mi A) (hR : RCt s0 u) (hP : va_P D vwCl (WCt cI cJ cO h u) H) (hD : va_D A (WCt cI cJ cO h u)) (hS : va_S A s.heap H locs) (hl : lv_has ls 8 [(7, .int ((muA v))), (6, .int ((ceA v))), (5, .int ((otA v))), (4, .int ((pcA v))), (3, .int ((bI (oddB v)))), (0, .ref h), (1, .int v), (2, .int e)]) (eA : ACT s0 v e = (R_give s0 (ceA v) (pcA v))) : W p l e9 rm_L_act s m args below meth c H locs 0 0 (MQ below (va_Qi (fun r (w : KT) => ∃ t, ACT s0 v e r t ∧ RCt t w) (fun w t => POST D A (WCt cI cJ cO h w) t) A) args s 6 134 A) (F0 m 269 ls []) := by
  obtain ⟨hx, hb, hr, hml, hown, hts, hlocks, hst, hK, hE, hT, hLS, hN, hA⟩ := C
  refine lv_aload_n hx hb dL_act_269 rfl (lv_at hl 5 rfl) ?_
  refine lv_iload hx hb dL_act_270 (lv_at hl 1 rfl) ?_
  refine lv_iload hx hb dL_act_272 (lv_at hl 3 rfl) ?_
  have hCut := cut_all (S := KT) (w1 := fun (u : KT) => WCt cI cJ cO h u) hP hD hS hA
  refine ca_i (wa := fun (u1 : KT) => WCt cI cJ cO h u1) hCut hS (vx_runSW (As := [.ref h, .int ((ceA v)), .int ((pcA v))]) (rest := []) ⟨hx, hb, hml, hown, hts⟩ (c_L_give l D hst cI cJ cZ cO tD mi h s0 u _ ((ceA v)) ((pcA v)) hR) (vx_cwSW 3 hts gL_act_L_give rfl rfl rfl (by decide +kernel) ⟨Nat.le_of_ble_eq_true rfl, Nat.le_of_ble_eq_true rfl⟩) (hCut.preSW hK hE hT hLS hN hS) rfl rfl hl.1 rfl (lv_room (Nat.le_of_ble_eq_true rfl)) dL_act_274 ⟨Nat.le_of_ble_eq_true rfl, Nat.le_of_ble_eq_true rfl⟩) (fun r274 u1 H locs hw hP hD hS => ?_)
  refine W.widen (k := 6) (n := 134) (by decide) (by decide) ?_
  exact rt_i (S := KT) (post := fun r (w : KT) => ∃ t, ACT s0 v e r t ∧ RCt t w) (Wf := fun w => WCt cI cJ cO h w) u1 hx hb hr hlocks (by rw [eA]; exact hw) hP hD hS dL_act_277
set_option maxHeartbeats 4000000 in
set_option maxRecDepth 100000 in
theorem ka_278 (C : LA p l s m args meth c D cI cJ cZ cO tD mi A) (hR : RCt s0 u) (hP : va_P D vwCl (WCt cI cJ cO h u) H) (hD : va_D A (WCt cI cJ cO h u)) (hS : va_S A s.heap H locs) (hl : lv_has ls 8 [(7, .int ((muA v))), (6, .int ((ceA v))), (5, .int ((otA v))), (4, .int ((pcA v))), (3, .int ((bI (oddB v)))), (0, .ref h), (1, .int v), (2, .int e)]) (eA : ACT s0 v e = (R_join s0 (pcA v) (otA v))) : W p l e9 rm_L_act s m args below meth c H locs 0 0 (MQ below (va_Qi (fun r (w : KT) => ∃ t, ACT s0 v e r t ∧ RCt t w) (fun w t => POST D A (WCt cI cJ cO h w) t) A) args s 6 134 A) (F0 m 278 ls []) := by
  obtain ⟨hx, hb, hr, hml, hown, hts, hlocks, hst, hK, hE, hT, hLS, hN, hA⟩ := C
  refine lv_aload_n hx hb dL_act_278 rfl (lv_at hl 5 rfl) ?_
  refine lv_iload hx hb dL_act_279 (lv_at hl 3 rfl) ?_
  refine lv_iload hx hb dL_act_281 (lv_at hl 2 rfl) ?_
  have hCut := cut_all (S := KT) (w1 := fun (u : KT) => WCt cI cJ cO h u) hP hD hS hA
  refine ca_i (wa := fun (u1 : KT) => WCt cI cJ cO h u1) hCut hS (vx_runSW (As := [.ref h, .int ((pcA v)), .int ((otA v))]) (rest := []) ⟨hx, hb, hml, hown, hts⟩ (c_L_join l D hst cI cJ cZ cO tD mi h s0 u _ ((pcA v)) ((otA v)) hR) (vx_cwSW 3 hts gL_act_L_join rfl rfl rfl (by decide +kernel) ⟨Nat.le_of_ble_eq_true rfl, Nat.le_of_ble_eq_true rfl⟩) (hCut.preSW hK hE hT hLS hN hS) rfl rfl hl.1 rfl (lv_room (Nat.le_of_ble_eq_true rfl)) dL_act_283 ⟨Nat.le_of_ble_eq_true rfl, Nat.le_of_ble_eq_true rfl⟩) (fun r283 u1 H locs hw hP hD hS => ?_)
  refine W.widen (k := 6) (n := 134) (by decide) (by decide) ?_
  exact rt_i (S := KT) (post := fun r (w : KT) => ∃ t, ACT s0 v e r t ∧ RCt t w) (Wf := fun w => WCt cI cJ cO h w) u1 hx hb hr hlocks (by rw [eA]; exact hw) hP hD hS dL_act_286
set_option maxHeartbeats 4000000 in
set_option maxRecDepth 100000 in
theorem ka_287 (C : LA p l s m args meth c D cI cJ cZ cO tD mi A) (hR : RCt s0 u) (hP : va_P D vwCl (WCt cI cJ cO h u) H) (hD : va_D A (WCt cI cJ cO h u)) (hS : va_S A s.heap H locs) (hl : lv_has ls 8 [(7, .int ((muA v))), (6, .int ((ceA v))), (5, .int ((otA v))), (4, .int ((pcA v))), (3, .int ((bI (oddB v)))), (0, .ref h), (1, .int v), (2, .int e)]) (eA : ACT s0 v e = (R_colour s0 (pcA v) (muA v))) : W p l e9 rm_L_act s m args below meth c H locs 0 0 (MQ below (va_Qi (fun r (w : KT) => ∃ t, ACT s0 v e r t ∧ RCt t w) (fun w t => POST D A (WCt cI cJ cO h w) t) A) args s 6 134 A) (F0 m 287 ls []) := by
  obtain ⟨hx, hb, hr, hml, hown, hts, hlocks, hst, hK, hE, hT, hLS, hN, hA⟩ := C
  refine lv_aload_n hx hb dL_act_287 rfl (lv_at hl 5 rfl) ?_
  refine lv_iload hx hb dL_act_288 (lv_at hl 3 rfl) ?_
  refine lv_iload hx hb dL_act_290 (lv_at hl 0 rfl) ?_
  have hCut := cut_all (S := KT) (w1 := fun (u : KT) => WCt cI cJ cO h u) hP hD hS hA
  refine ca_i (wa := fun (u1 : KT) => WCt cI cJ cO h u1) hCut hS (vx_runSW (As := [.ref h, .int ((pcA v)), .int ((muA v))]) (rest := []) ⟨hx, hb, hml, hown, hts⟩ (c_L_colour l D hst cI cJ cZ cO tD mi h s0 u _ ((pcA v)) ((muA v)) hR) (vx_cwSW 3 hts gL_act_L_colour rfl rfl rfl (by decide +kernel) ⟨Nat.le_of_ble_eq_true rfl, Nat.le_of_ble_eq_true rfl⟩) (hCut.preSW hK hE hT hLS hN hS) rfl rfl hl.1 rfl (lv_room (Nat.le_of_ble_eq_true rfl)) dL_act_292 ⟨Nat.le_of_ble_eq_true rfl, Nat.le_of_ble_eq_true rfl⟩) (fun r292 u1 H locs hw hP hD hS => ?_)
  refine W.widen (k := 6) (n := 134) (by decide) (by decide) ?_
  exact rt_i (S := KT) (post := fun r (w : KT) => ∃ t, ACT s0 v e r t ∧ RCt t w) (Wf := fun w => WCt cI cJ cO h w) u1 hx hb hr hlocks (by rw [eA]; exact hw) hP hD hS dL_act_295
set_option maxHeartbeats 4000000 in
set_option maxRecDepth 100000 in
theorem ka_296 (C : LA p l s m args meth c D cI cJ cZ cO tD mi A) (hR : RCt s0 u) (hP : va_P D vwCl (WCt cI cJ cO h u) H) (hD : va_D A (WCt cI cJ cO h u)) (hS : va_S A s.heap H locs) (hl : lv_has ls 8 [(7, .int ((muA v))), (6, .int ((ceA v))), (5, .int ((otA v))), (4, .int ((pcA v))), (3, .int ((bI (oddB v)))), (0, .ref h), (1, .int v), (2, .int e)]) (eA : ACT s0 v e = (if lowI (shI v 14) 6 = 0 then R_finish s0 else R_heart s0 (iteB (oddB v) (muA v) (lowI (shI v 15) 5 + 1)))) : W p l e9 rm_L_act s m args below meth c H locs 0 0 (MQ below (va_Qi (fun r (w : KT) => ∃ t, ACT s0 v e r t ∧ RCt t w) (fun w t => POST D A (WCt cI cJ cO h w) t) A) args s 6 134 A) (F0 m 296 ls []) := by
  obtain ⟨hx, hb, hr, hml, hown, hts, hlocks, hst, hK, hE, hT, hLS, hN, hA⟩ := C
  by_cases cc : lowI (shI v 14) 6 = 0
  · refine lv_iload_n hx hb dL_act_296 rfl (lv_at hl 6 rfl) ?_
    refine lv_bipush (v := 14) hx hb dL_act_297 (by decide) ?_
    refine lv_ishr hx hb dL_act_299 ?_
    refine lv_bipush (v := 6) hx hb dL_act_300 (by decide) ?_
    refine ca_i (wa := fun (_ : Unit) => WCt cI cJ cO h u) (cut_nil hP hD hS hA) hS (va_runS (As := [.int ((v >>> (14 &&& 31))), .int 6]) (rest := []) ⟨hx, hb, hml, hown, hts⟩ (c_L_low l D cI cJ cZ cO H.size ((v >>> (14 &&& 31))) 6 (fun r => r = lowI ((v >>> (14 &&& 31))) 6) ⟨by decide, rfl⟩) (va_cwS 2 hts gL_act_L_low rfl rfl rfl (by decide +kernel) ⟨Nat.le_of_ble_eq_true rfl, Nat.le_of_ble_eq_true rfl⟩) ((cut_nil hP hD hS hA).preS hK hE) rfl rfl hl.1 rfl (lv_room (Nat.le_of_ble_eq_true rfl)) dL_act_302 ⟨Nat.le_of_ble_eq_true rfl, Nat.le_of_ble_eq_true rfl⟩) (fun r _ H locs hw hP hD hS => ?_)
    obtain rfl := hw
    refine lv_if_ne (tgt := 315) hx hb dL_act_305 (by decide) (fun z => absurd cc z) (fun _ => ?_)
    refine lv_aload_n hx hb dL_act_308 rfl (lv_at hl 5 rfl) ?_
    have hCut := cut_all (S := KT) (w1 := fun (u : KT) => WCt cI cJ cO h u) hP hD hS hA
    refine ca_i (wa := fun (u1 : KT) => WCt cI cJ cO h u1) hCut hS (va_runV (As := []) (rest := []) ⟨hx, hb, hml, hown, hts⟩ (v_X4_finish l D cI cJ cZ cO h s0 u _ hR) (cwV 0 hts gL_act_X4_finish rfl rfl rfl (by decide +kernel) ⟨Nat.le_of_ble_eq_true rfl, Nat.le_of_ble_eq_true rfl⟩) (hCut.preVV hK hE) rfl rfl hl.1 rfl (lv_room (Nat.le_of_ble_eq_true rfl)) dL_act_309 ⟨Nat.le_of_ble_eq_true rfl, Nat.le_of_ble_eq_true rfl⟩) (fun r309 u1 H locs hw hP hD hS => ?_)
    refine lv_goto (tgt := 338) hx hb dL_act_312 (by decide) ?_
    refine W.widen (k := 6) (n := 134) (by decide) (by decide) ?_
    exact rt_i (S := KT) (post := fun r (w : KT) => ∃ t, ACT s0 v e r t ∧ RCt t w) (Wf := fun w => WCt cI cJ cO h w) u1 hx hb hr hlocks (by rw [eA, if_pos cc]; exact hw) hP hD hS dL_act_338
  · cases ho : oddB v
    · refine lv_iload_n hx hb dL_act_296 rfl (lv_at hl 6 rfl) ?_
      refine lv_bipush (v := 14) hx hb dL_act_297 (by decide) ?_
      refine lv_ishr hx hb dL_act_299 ?_
      refine lv_bipush (v := 6) hx hb dL_act_300 (by decide) ?_
      refine ca_i (wa := fun (_ : Unit) => WCt cI cJ cO h u) (cut_nil hP hD hS hA) hS (va_runS (As := [.int ((v >>> (14 &&& 31))), .int 6]) (rest := []) ⟨hx, hb, hml, hown, hts⟩ (c_L_low l D cI cJ cZ cO H.size ((v >>> (14 &&& 31))) 6 (fun r => r = lowI ((v >>> (14 &&& 31))) 6) ⟨by decide, rfl⟩) (va_cwS 2 hts gL_act_L_low rfl rfl rfl (by decide +kernel) ⟨Nat.le_of_ble_eq_true rfl, Nat.le_of_ble_eq_true rfl⟩) ((cut_nil hP hD hS hA).preS hK hE) rfl rfl hl.1 rfl (lv_room (Nat.le_of_ble_eq_true rfl)) dL_act_302 ⟨Nat.le_of_ble_eq_true rfl, Nat.le_of_ble_eq_true rfl⟩) (fun r _ H locs hw hP hD hS => ?_)
      obtain rfl := hw
      refine lv_if_ne (tgt := 315) hx hb dL_act_305 (by decide) (fun _ => ?_) (fun z => absurd z cc)
      refine lv_aload_n hx hb dL_act_315 rfl (lv_at hl 5 rfl) ?_
      refine lv_iload_n hx hb dL_act_316 rfl (lv_at hl 4 rfl) ?_
      refine lv_if_eq (tgt := 325) hx hb dL_act_317 (by decide) (fun _ => ?_) (fun z => absurd z (by rw [ho]; decide))
      refine lv_iload_n hx hb dL_act_325 rfl (lv_at hl 6 rfl) ?_
      refine lv_bipush (v := 15) hx hb dL_act_326 (by decide) ?_
      refine lv_ishr hx hb dL_act_328 ?_
      refine lv_iconst (v := 5) hx hb dL_act_329 (by decide) ?_
      refine ca_i (wa := fun (_ : Unit) => WCt cI cJ cO h u) (cut_nil hP hD hS hA) hS (va_runS (As := [.int ((v >>> (15 &&& 31))), .int 5]) (rest := [.ref h]) ⟨hx, hb, hml, hown, hts⟩ (c_L_low l D cI cJ cZ cO H.size ((v >>> (15 &&& 31))) 5 (fun r => r = lowI ((v >>> (15 &&& 31))) 5) ⟨by decide, rfl⟩) (va_cwS 2 hts gL_act_L_low rfl rfl rfl (by decide +kernel) ⟨Nat.le_of_ble_eq_true rfl, Nat.le_of_ble_eq_true rfl⟩) ((cut_nil hP hD hS hA).preS hK hE) rfl rfl hl.1 rfl (lv_room (Nat.le_of_ble_eq_true rfl)) dL_act_330 ⟨Nat.le_of_ble_eq_true rfl, Nat.le_of_ble_eq_true rfl⟩) (fun r _ H locs hw hP hD hS => ?_)
      obtain rfl := hw
      refine lv_iconst (v := 1) hx hb dL_act_333 (by decide) ?_
      refine lv_iadd hx hb dL_act_334 ?_
      have hCut := cut_all (S := KT) (w1 := fun (u : KT) => WCt cI cJ cO h u) hP hD hS hA
      refine ca_i (wa := fun (u1 : KT) => WCt cI cJ cO h u1) hCut hS (vx_runSW (As := [.ref h, .int (((lowI ((v >>> (15 &&& 31))) 5) + 1))]) (rest := []) ⟨hx, hb, hml, hown, hts⟩ (c_L_heart l D hst cI cJ cZ cO tD mi h s0 u _ (((lowI ((v >>> (15 &&& 31))) 5) + 1)) hR) (vx_cwSW 2 hts gL_act_L_heart rfl rfl rfl (by decide +kernel) ⟨Nat.le_of_ble_eq_true rfl, Nat.le_of_ble_eq_true rfl⟩) (hCut.preSW hK hE hT hLS hN hS) rfl rfl hl.1 rfl (lv_room (Nat.le_of_ble_eq_true rfl)) dL_act_335 ⟨Nat.le_of_ble_eq_true rfl, Nat.le_of_ble_eq_true rfl⟩) (fun r335 u1 H locs hw hP hD hS => ?_)
      refine W.widen (k := 6) (n := 134) (by decide) (by decide) ?_
      exact rt_i (S := KT) (post := fun r (w : KT) => ∃ t, ACT s0 v e r t ∧ RCt t w) (Wf := fun w => WCt cI cJ cO h w) u1 hx hb hr hlocks (by rw [eA, if_neg cc, ho]; exact hw) hP hD hS dL_act_338
    · refine lv_iload_n hx hb dL_act_296 rfl (lv_at hl 6 rfl) ?_
      refine lv_bipush (v := 14) hx hb dL_act_297 (by decide) ?_
      refine lv_ishr hx hb dL_act_299 ?_
      refine lv_bipush (v := 6) hx hb dL_act_300 (by decide) ?_
      refine ca_i (wa := fun (_ : Unit) => WCt cI cJ cO h u) (cut_nil hP hD hS hA) hS (va_runS (As := [.int ((v >>> (14 &&& 31))), .int 6]) (rest := []) ⟨hx, hb, hml, hown, hts⟩ (c_L_low l D cI cJ cZ cO H.size ((v >>> (14 &&& 31))) 6 (fun r => r = lowI ((v >>> (14 &&& 31))) 6) ⟨by decide, rfl⟩) (va_cwS 2 hts gL_act_L_low rfl rfl rfl (by decide +kernel) ⟨Nat.le_of_ble_eq_true rfl, Nat.le_of_ble_eq_true rfl⟩) ((cut_nil hP hD hS hA).preS hK hE) rfl rfl hl.1 rfl (lv_room (Nat.le_of_ble_eq_true rfl)) dL_act_302 ⟨Nat.le_of_ble_eq_true rfl, Nat.le_of_ble_eq_true rfl⟩) (fun r _ H locs hw hP hD hS => ?_)
      obtain rfl := hw
      refine lv_if_ne (tgt := 315) hx hb dL_act_305 (by decide) (fun _ => ?_) (fun z => absurd z cc)
      refine lv_aload_n hx hb dL_act_315 rfl (lv_at hl 5 rfl) ?_
      refine lv_iload_n hx hb dL_act_316 rfl (lv_at hl 4 rfl) ?_
      refine lv_if_eq (tgt := 325) hx hb dL_act_317 (by decide) (fun z => absurd z (by rw [ho]; decide)) (fun _ => ?_)
      refine lv_iload hx hb dL_act_320 (lv_at hl 0 rfl) ?_
      refine lv_goto (tgt := 335) hx hb dL_act_322 (by decide) ?_
      have hCut := cut_all (S := KT) (w1 := fun (u : KT) => WCt cI cJ cO h u) hP hD hS hA
      refine ca_i (wa := fun (u1 : KT) => WCt cI cJ cO h u1) hCut hS (vx_runSW (As := [.ref h, .int ((muA v))]) (rest := []) ⟨hx, hb, hml, hown, hts⟩ (c_L_heart l D hst cI cJ cZ cO tD mi h s0 u _ ((muA v)) hR) (vx_cwSW 2 hts gL_act_L_heart rfl rfl rfl (by decide +kernel) ⟨Nat.le_of_ble_eq_true rfl, Nat.le_of_ble_eq_true rfl⟩) (hCut.preSW hK hE hT hLS hN hS) rfl rfl hl.1 rfl (lv_room (Nat.le_of_ble_eq_true rfl)) dL_act_335 ⟨Nat.le_of_ble_eq_true rfl, Nat.le_of_ble_eq_true rfl⟩) (fun r335 u1 H locs hw hP hD hS => ?_)
      refine W.widen (k := 6) (n := 134) (by decide) (by decide) ?_
      exact rt_i (S := KT) (post := fun r (w : KT) => ∃ t, ACT s0 v e r t ∧ RCt t w) (Wf := fun w => WCt cI cJ cO h w) u1 hx hb hr hlocks (by rw [eA, if_neg cc, ho]; exact hw) hP hD hS dL_act_338
set_option maxHeartbeats 4000000 in
set_option maxRecDepth 100000 in
theorem ka_339 (C : LA p l s m args meth c D cI cJ cZ cO tD mi A) (hR : RCt s0 u) (hP : va_P D vwCl (WCt cI cJ cO h u) H) (hD : va_D A (WCt cI cJ cO h u)) (hS : va_S A s.heap H locs) (hl : lv_has ls 8 [(7, .int ((muA v))), (6, .int ((ceA v))), (5, .int ((otA v))), (4, .int ((pcA v))), (3, .int ((bI (oddB v)))), (0, .ref h), (1, .int v), (2, .int e)]) (eA : ACT s0 v e = (R_sheet s0 (iteB (oddB v) (muA v) (4 + lowI (shI v 14) 37)))) : W p l e9 rm_L_act s m args below meth c H locs 0 0 (MQ below (va_Qi (fun r (w : KT) => ∃ t, ACT s0 v e r t ∧ RCt t w) (fun w t => POST D A (WCt cI cJ cO h w) t) A) args s 6 134 A) (F0 m 339 ls []) := by
  obtain ⟨hx, hb, hr, hml, hown, hts, hlocks, hst, hK, hE, hT, hLS, hN, hA⟩ := C
  cases ho : oddB v
  · refine lv_aload_n hx hb dL_act_339 rfl (lv_at hl 5 rfl) ?_
    refine lv_iload_n hx hb dL_act_340 rfl (lv_at hl 4 rfl) ?_
    refine lv_if_eq (tgt := 349) hx hb dL_act_341 (by decide) (fun _ => ?_) (fun z => absurd z (by rw [ho]; decide))
    refine lv_iconst (v := 4) hx hb dL_act_349 (by decide) ?_
    refine lv_iload_n hx hb dL_act_350 rfl (lv_at hl 6 rfl) ?_
    refine lv_bipush (v := 14) hx hb dL_act_351 (by decide) ?_
    refine lv_ishr hx hb dL_act_353 ?_
    refine lv_bipush (v := 37) hx hb dL_act_354 (by decide) ?_
    refine ca_i (wa := fun (_ : Unit) => WCt cI cJ cO h u) (cut_nil hP hD hS hA) hS (va_runS (As := [.int ((v >>> (14 &&& 31))), .int 37]) (rest := [.int 4, .ref h]) ⟨hx, hb, hml, hown, hts⟩ (c_L_low l D cI cJ cZ cO H.size ((v >>> (14 &&& 31))) 37 (fun r => r = lowI ((v >>> (14 &&& 31))) 37) ⟨by decide, rfl⟩) (va_cwS 2 hts gL_act_L_low rfl rfl rfl (by decide +kernel) ⟨Nat.le_of_ble_eq_true rfl, Nat.le_of_ble_eq_true rfl⟩) ((cut_nil hP hD hS hA).preS hK hE) rfl rfl hl.1 rfl (lv_room (Nat.le_of_ble_eq_true rfl)) dL_act_356 ⟨Nat.le_of_ble_eq_true rfl, Nat.le_of_ble_eq_true rfl⟩) (fun r _ H locs hw hP hD hS => ?_)
    obtain rfl := hw
    refine lv_iadd hx hb dL_act_359 ?_
    have hCut := cut_all (S := KT) (w1 := fun (u : KT) => WCt cI cJ cO h u) hP hD hS hA
    refine ca_i (wa := fun (u1 : KT) => WCt cI cJ cO h u1) hCut hS (vx_runSW (As := [.ref h, .int (((4 : Int32) + (lowI ((v >>> (14 &&& 31))) 37)))]) (rest := []) ⟨hx, hb, hml, hown, hts⟩ (c_L_sheet l D hst cI cJ cZ cO tD mi h s0 u _ (((4 : Int32) + (lowI ((v >>> (14 &&& 31))) 37))) hR) (vx_cwSW 2 hts gL_act_L_sheet rfl rfl rfl (by decide +kernel) ⟨Nat.le_of_ble_eq_true rfl, Nat.le_of_ble_eq_true rfl⟩) (hCut.preSW hK hE hT hLS hN hS) rfl rfl hl.1 rfl (lv_room (Nat.le_of_ble_eq_true rfl)) dL_act_360 ⟨Nat.le_of_ble_eq_true rfl, Nat.le_of_ble_eq_true rfl⟩) (fun r360 u1 H locs hw hP hD hS => ?_)
    refine W.widen (k := 6) (n := 134) (by decide) (by decide) ?_
    exact rt_i (S := KT) (post := fun r (w : KT) => ∃ t, ACT s0 v e r t ∧ RCt t w) (Wf := fun w => WCt cI cJ cO h w) u1 hx hb hr hlocks (by rw [eA, ho]; exact hw) hP hD hS dL_act_363
  · refine lv_aload_n hx hb dL_act_339 rfl (lv_at hl 5 rfl) ?_
    refine lv_iload_n hx hb dL_act_340 rfl (lv_at hl 4 rfl) ?_
    refine lv_if_eq (tgt := 349) hx hb dL_act_341 (by decide) (fun z => absurd z (by rw [ho]; decide)) (fun _ => ?_)
    refine lv_iload hx hb dL_act_344 (lv_at hl 0 rfl) ?_
    refine lv_goto (tgt := 360) hx hb dL_act_346 (by decide) ?_
    have hCut := cut_all (S := KT) (w1 := fun (u : KT) => WCt cI cJ cO h u) hP hD hS hA
    refine ca_i (wa := fun (u1 : KT) => WCt cI cJ cO h u1) hCut hS (vx_runSW (As := [.ref h, .int ((muA v))]) (rest := []) ⟨hx, hb, hml, hown, hts⟩ (c_L_sheet l D hst cI cJ cZ cO tD mi h s0 u _ ((muA v)) hR) (vx_cwSW 2 hts gL_act_L_sheet rfl rfl rfl (by decide +kernel) ⟨Nat.le_of_ble_eq_true rfl, Nat.le_of_ble_eq_true rfl⟩) (hCut.preSW hK hE hT hLS hN hS) rfl rfl hl.1 rfl (lv_room (Nat.le_of_ble_eq_true rfl)) dL_act_360 ⟨Nat.le_of_ble_eq_true rfl, Nat.le_of_ble_eq_true rfl⟩) (fun r360 u1 H locs hw hP hD hS => ?_)
    refine W.widen (k := 6) (n := 134) (by decide) (by decide) ?_
    exact rt_i (S := KT) (post := fun r (w : KT) => ∃ t, ACT s0 v e r t ∧ RCt t w) (Wf := fun w => WCt cI cJ cO h w) u1 hx hb hr hlocks (by rw [eA, ho]; exact hw) hP hD hS dL_act_363
set_option maxHeartbeats 4000000 in
set_option maxRecDepth 100000 in
theorem ka_364 (C : LA p l s m args meth c D cI cJ cZ cO tD mi A) (hR : RCt s0 u) (hP : va_P D vwCl (WCt cI cJ cO h u) H) (hD : va_D A (WCt cI cJ cO h u)) (hS : va_S A s.heap H locs) (hl : lv_has ls 8 [(7, .int ((muA v))), (6, .int ((ceA v))), (5, .int ((otA v))), (4, .int ((pcA v))), (3, .int ((bI (oddB v)))), (0, .ref h), (1, .int v), (2, .int e)]) (eA : ACT s0 v e = (R_bar s0 (iteB (oddB v) (muA v) (lowI (shI v 14) 15)))) : W p l e9 rm_L_act s m args below meth c H locs 0 0 (MQ below (va_Qi (fun r (w : KT) => ∃ t, ACT s0 v e r t ∧ RCt t w) (fun w t => POST D A (WCt cI cJ cO h w) t) A) args s 6 134 A) (F0 m 364 ls []) := by
  obtain ⟨hx, hb, hr, hml, hown, hts, hlocks, hst, hK, hE, hT, hLS, hN, hA⟩ := C
  cases ho : oddB v
  · refine lv_aload_n hx hb dL_act_364 rfl (lv_at hl 5 rfl) ?_
    refine lv_iload_n hx hb dL_act_365 rfl (lv_at hl 4 rfl) ?_
    refine lv_if_eq (tgt := 374) hx hb dL_act_366 (by decide) (fun _ => ?_) (fun z => absurd z (by rw [ho]; decide))
    refine lv_iload_n hx hb dL_act_374 rfl (lv_at hl 6 rfl) ?_
    refine lv_bipush (v := 14) hx hb dL_act_375 (by decide) ?_
    refine lv_ishr hx hb dL_act_377 ?_
    refine lv_bipush (v := 15) hx hb dL_act_378 (by decide) ?_
    refine ca_i (wa := fun (_ : Unit) => WCt cI cJ cO h u) (cut_nil hP hD hS hA) hS (va_runS (As := [.int ((v >>> (14 &&& 31))), .int 15]) (rest := [.ref h]) ⟨hx, hb, hml, hown, hts⟩ (c_L_low l D cI cJ cZ cO H.size ((v >>> (14 &&& 31))) 15 (fun r => r = lowI ((v >>> (14 &&& 31))) 15) ⟨by decide, rfl⟩) (va_cwS 2 hts gL_act_L_low rfl rfl rfl (by decide +kernel) ⟨Nat.le_of_ble_eq_true rfl, Nat.le_of_ble_eq_true rfl⟩) ((cut_nil hP hD hS hA).preS hK hE) rfl rfl hl.1 rfl (lv_room (Nat.le_of_ble_eq_true rfl)) dL_act_380 ⟨Nat.le_of_ble_eq_true rfl, Nat.le_of_ble_eq_true rfl⟩) (fun r _ H locs hw hP hD hS => ?_)
    obtain rfl := hw
    have hCut := cut_all (S := KT) (w1 := fun (u : KT) => WCt cI cJ cO h u) hP hD hS hA
    refine ca_i (wa := fun (u1 : KT) => WCt cI cJ cO h u1) hCut hS (vx_runSW (As := [.ref h, .int ((lowI ((v >>> (14 &&& 31))) 15))]) (rest := []) ⟨hx, hb, hml, hown, hts⟩ (c_L_bar l D hst cI cJ cZ cO tD mi h s0 u _ ((lowI ((v >>> (14 &&& 31))) 15)) hR) (vx_cwSW 2 hts gL_act_L_bar rfl rfl rfl (by decide +kernel) ⟨Nat.le_of_ble_eq_true rfl, Nat.le_of_ble_eq_true rfl⟩) (hCut.preSW hK hE hT hLS hN hS) rfl rfl hl.1 rfl (lv_room (Nat.le_of_ble_eq_true rfl)) dL_act_383 ⟨Nat.le_of_ble_eq_true rfl, Nat.le_of_ble_eq_true rfl⟩) (fun r383 u1 H locs hw hP hD hS => ?_)
    refine W.widen (k := 6) (n := 134) (by decide) (by decide) ?_
    exact rt_i (S := KT) (post := fun r (w : KT) => ∃ t, ACT s0 v e r t ∧ RCt t w) (Wf := fun w => WCt cI cJ cO h w) u1 hx hb hr hlocks (by rw [eA, ho]; exact hw) hP hD hS dL_act_386
  · refine lv_aload_n hx hb dL_act_364 rfl (lv_at hl 5 rfl) ?_
    refine lv_iload_n hx hb dL_act_365 rfl (lv_at hl 4 rfl) ?_
    refine lv_if_eq (tgt := 374) hx hb dL_act_366 (by decide) (fun z => absurd z (by rw [ho]; decide)) (fun _ => ?_)
    refine lv_iload hx hb dL_act_369 (lv_at hl 0 rfl) ?_
    refine lv_goto (tgt := 383) hx hb dL_act_371 (by decide) ?_
    have hCut := cut_all (S := KT) (w1 := fun (u : KT) => WCt cI cJ cO h u) hP hD hS hA
    refine ca_i (wa := fun (u1 : KT) => WCt cI cJ cO h u1) hCut hS (vx_runSW (As := [.ref h, .int ((muA v))]) (rest := []) ⟨hx, hb, hml, hown, hts⟩ (c_L_bar l D hst cI cJ cZ cO tD mi h s0 u _ ((muA v)) hR) (vx_cwSW 2 hts gL_act_L_bar rfl rfl rfl (by decide +kernel) ⟨Nat.le_of_ble_eq_true rfl, Nat.le_of_ble_eq_true rfl⟩) (hCut.preSW hK hE hT hLS hN hS) rfl rfl hl.1 rfl (lv_room (Nat.le_of_ble_eq_true rfl)) dL_act_383 ⟨Nat.le_of_ble_eq_true rfl, Nat.le_of_ble_eq_true rfl⟩) (fun r383 u1 H locs hw hP hD hS => ?_)
    refine W.widen (k := 6) (n := 134) (by decide) (by decide) ?_
    exact rt_i (S := KT) (post := fun r (w : KT) => ∃ t, ACT s0 v e r t ∧ RCt t w) (Wf := fun w => WCt cI cJ cO h w) u1 hx hb hr hlocks (by rw [eA, ho]; exact hw) hP hD hS dL_act_386
set_option maxHeartbeats 4000000 in
set_option maxRecDepth 100000 in
theorem ka_387 (C : LA p l s m args meth c D cI cJ cZ cO tD mi A) (hR : RCt s0 u) (hP : va_P D vwCl (WCt cI cJ cO h u) H) (hD : va_D A (WCt cI cJ cO h u)) (hS : va_S A s.heap H locs) (hl : lv_has ls 8 [(7, .int ((muA v))), (6, .int ((ceA v))), (5, .int ((otA v))), (4, .int ((pcA v))), (3, .int ((bI (oddB v)))), (0, .ref h), (1, .int v), (2, .int e)]) (eA : ACT s0 v e = (R_paint s0 (pcA v) (iteB (oddB v) (muA v) (500 + lowI (shI v 14) 201)))) : W p l e9 rm_L_act s m args below meth c H locs 0 0 (MQ below (va_Qi (fun r (w : KT) => ∃ t, ACT s0 v e r t ∧ RCt t w) (fun w t => POST D A (WCt cI cJ cO h w) t) A) args s 6 134 A) (F0 m 387 ls []) := by
  obtain ⟨hx, hb, hr, hml, hown, hts, hlocks, hst, hK, hE, hT, hLS, hN, hA⟩ := C
  cases ho : oddB v
  · refine lv_aload_n hx hb dL_act_387 rfl (lv_at hl 5 rfl) ?_
    refine lv_iload hx hb dL_act_388 (lv_at hl 3 rfl) ?_
    refine lv_iload_n hx hb dL_act_390 rfl (lv_at hl 4 rfl) ?_
    refine lv_if_eq (tgt := 399) hx hb dL_act_391 (by decide) (fun _ => ?_) (fun z => absurd z (by rw [ho]; decide))
    refine lv_sipush (v := 500) hx hb dL_act_399 (by decide) ?_
    refine lv_iload_n hx hb dL_act_402 rfl (lv_at hl 6 rfl) ?_
    refine lv_bipush (v := 14) hx hb dL_act_403 (by decide) ?_
    refine lv_ishr hx hb dL_act_405 ?_
    refine lv_sipush (v := 201) hx hb dL_act_406 (by decide) ?_
    refine ca_i (wa := fun (_ : Unit) => WCt cI cJ cO h u) (cut_nil hP hD hS hA) hS (va_runS (As := [.int ((v >>> (14 &&& 31))), .int 201]) (rest := [.int 500, .int ((pcA v)), .ref h]) ⟨hx, hb, hml, hown, hts⟩ (c_L_low l D cI cJ cZ cO H.size ((v >>> (14 &&& 31))) 201 (fun r => r = lowI ((v >>> (14 &&& 31))) 201) ⟨by decide, rfl⟩) (va_cwS 2 hts gL_act_L_low rfl rfl rfl (by decide +kernel) ⟨Nat.le_of_ble_eq_true rfl, Nat.le_of_ble_eq_true rfl⟩) ((cut_nil hP hD hS hA).preS hK hE) rfl rfl hl.1 rfl (lv_room (Nat.le_of_ble_eq_true rfl)) dL_act_409 ⟨Nat.le_of_ble_eq_true rfl, Nat.le_of_ble_eq_true rfl⟩) (fun r _ H locs hw hP hD hS => ?_)
    obtain rfl := hw
    refine lv_iadd hx hb dL_act_412 ?_
    have hCut := cut_all (S := KT) (w1 := fun (u : KT) => WCt cI cJ cO h u) hP hD hS hA
    refine ca_i (wa := fun (u1 : KT) => WCt cI cJ cO h u1) hCut hS (vx_runSW (As := [.ref h, .int ((pcA v)), .int (((500 : Int32) + (lowI ((v >>> (14 &&& 31))) 201)))]) (rest := []) ⟨hx, hb, hml, hown, hts⟩ (c_L_paint l D hst cI cJ cZ cO tD mi h s0 u _ ((pcA v)) (((500 : Int32) + (lowI ((v >>> (14 &&& 31))) 201))) hR) (vx_cwSW 3 hts gL_act_L_paint rfl rfl rfl (by decide +kernel) ⟨Nat.le_of_ble_eq_true rfl, Nat.le_of_ble_eq_true rfl⟩) (hCut.preSW hK hE hT hLS hN hS) rfl rfl hl.1 rfl (lv_room (Nat.le_of_ble_eq_true rfl)) dL_act_413 ⟨Nat.le_of_ble_eq_true rfl, Nat.le_of_ble_eq_true rfl⟩) (fun r413 u1 H locs hw hP hD hS => ?_)
    refine W.widen (k := 6) (n := 134) (by decide) (by decide) ?_
    exact rt_i (S := KT) (post := fun r (w : KT) => ∃ t, ACT s0 v e r t ∧ RCt t w) (Wf := fun w => WCt cI cJ cO h w) u1 hx hb hr hlocks (by rw [eA, ho]; exact hw) hP hD hS dL_act_416
  · refine lv_aload_n hx hb dL_act_387 rfl (lv_at hl 5 rfl) ?_
    refine lv_iload hx hb dL_act_388 (lv_at hl 3 rfl) ?_
    refine lv_iload_n hx hb dL_act_390 rfl (lv_at hl 4 rfl) ?_
    refine lv_if_eq (tgt := 399) hx hb dL_act_391 (by decide) (fun z => absurd z (by rw [ho]; decide)) (fun _ => ?_)
    refine lv_iload hx hb dL_act_394 (lv_at hl 0 rfl) ?_
    refine lv_goto (tgt := 413) hx hb dL_act_396 (by decide) ?_
    have hCut := cut_all (S := KT) (w1 := fun (u : KT) => WCt cI cJ cO h u) hP hD hS hA
    refine ca_i (wa := fun (u1 : KT) => WCt cI cJ cO h u1) hCut hS (vx_runSW (As := [.ref h, .int ((pcA v)), .int ((muA v))]) (rest := []) ⟨hx, hb, hml, hown, hts⟩ (c_L_paint l D hst cI cJ cZ cO tD mi h s0 u _ ((pcA v)) ((muA v)) hR) (vx_cwSW 3 hts gL_act_L_paint rfl rfl rfl (by decide +kernel) ⟨Nat.le_of_ble_eq_true rfl, Nat.le_of_ble_eq_true rfl⟩) (hCut.preSW hK hE hT hLS hN hS) rfl rfl hl.1 rfl (lv_room (Nat.le_of_ble_eq_true rfl)) dL_act_413 ⟨Nat.le_of_ble_eq_true rfl, Nat.le_of_ble_eq_true rfl⟩) (fun r413 u1 H locs hw hP hD hS => ?_)
    refine W.widen (k := 6) (n := 134) (by decide) (by decide) ?_
    exact rt_i (S := KT) (post := fun r (w : KT) => ∃ t, ACT s0 v e r t ∧ RCt t w) (Wf := fun w => WCt cI cJ cO h w) u1 hx hb hr hlocks (by rw [eA, ho]; exact hw) hP hD hS dL_act_416
set_option maxHeartbeats 4000000 in
set_option maxRecDepth 100000 in
theorem ka_417 (C : LA p l s m args meth c D cI cJ cZ cO tD mi A) (hR : RCt s0 u) (hP : va_P D vwCl (WCt cI cJ cO h u) H) (hD : va_D A (WCt cI cJ cO h u)) (hS : va_S A s.heap H locs) (hl : lv_has ls 8 [(7, .int ((muA v))), (6, .int ((ceA v))), (5, .int ((otA v))), (4, .int ((pcA v))), (3, .int ((bI (oddB v)))), (0, .ref h), (1, .int v), (2, .int e)]) (eA : ACT s0 v e = (R_fire s0 (pcA v) (iteB (oddB v) (muA v) (500 + lowI (shI v 14) 251)))) : W p l e9 rm_L_act s m args below meth c H locs 0 0 (MQ below (va_Qi (fun r (w : KT) => ∃ t, ACT s0 v e r t ∧ RCt t w) (fun w t => POST D A (WCt cI cJ cO h w) t) A) args s 6 134 A) (F0 m 417 ls []) := by
  obtain ⟨hx, hb, hr, hml, hown, hts, hlocks, hst, hK, hE, hT, hLS, hN, hA⟩ := C
  cases ho : oddB v
  · refine lv_aload_n hx hb dL_act_417 rfl (lv_at hl 5 rfl) ?_
    refine lv_iload hx hb dL_act_418 (lv_at hl 3 rfl) ?_
    refine lv_iload_n hx hb dL_act_420 rfl (lv_at hl 4 rfl) ?_
    refine lv_if_eq (tgt := 429) hx hb dL_act_421 (by decide) (fun _ => ?_) (fun z => absurd z (by rw [ho]; decide))
    refine lv_sipush (v := 500) hx hb dL_act_429 (by decide) ?_
    refine lv_iload_n hx hb dL_act_432 rfl (lv_at hl 6 rfl) ?_
    refine lv_bipush (v := 14) hx hb dL_act_433 (by decide) ?_
    refine lv_ishr hx hb dL_act_435 ?_
    refine lv_sipush (v := 251) hx hb dL_act_436 (by decide) ?_
    refine ca_i (wa := fun (_ : Unit) => WCt cI cJ cO h u) (cut_nil hP hD hS hA) hS (va_runS (As := [.int ((v >>> (14 &&& 31))), .int 251]) (rest := [.int 500, .int ((pcA v)), .ref h]) ⟨hx, hb, hml, hown, hts⟩ (c_L_low l D cI cJ cZ cO H.size ((v >>> (14 &&& 31))) 251 (fun r => r = lowI ((v >>> (14 &&& 31))) 251) ⟨by decide, rfl⟩) (va_cwS 2 hts gL_act_L_low rfl rfl rfl (by decide +kernel) ⟨Nat.le_of_ble_eq_true rfl, Nat.le_of_ble_eq_true rfl⟩) ((cut_nil hP hD hS hA).preS hK hE) rfl rfl hl.1 rfl (lv_room (Nat.le_of_ble_eq_true rfl)) dL_act_439 ⟨Nat.le_of_ble_eq_true rfl, Nat.le_of_ble_eq_true rfl⟩) (fun r _ H locs hw hP hD hS => ?_)
    obtain rfl := hw
    refine lv_iadd hx hb dL_act_442 ?_
    have hCut := cut_all (S := KT) (w1 := fun (u : KT) => WCt cI cJ cO h u) hP hD hS hA
    refine ca_i (wa := fun (u1 : KT) => WCt cI cJ cO h u1) hCut hS (vx_runSW (As := [.ref h, .int ((pcA v)), .int (((500 : Int32) + (lowI ((v >>> (14 &&& 31))) 251)))]) (rest := []) ⟨hx, hb, hml, hown, hts⟩ (c_L_fire l D hst cI cJ cZ cO tD mi h s0 u _ ((pcA v)) (((500 : Int32) + (lowI ((v >>> (14 &&& 31))) 251))) hR) (vx_cwSW 3 hts gL_act_L_fire rfl rfl rfl (by decide +kernel) ⟨Nat.le_of_ble_eq_true rfl, Nat.le_of_ble_eq_true rfl⟩) (hCut.preSW hK hE hT hLS hN hS) rfl rfl hl.1 rfl (lv_room (Nat.le_of_ble_eq_true rfl)) dL_act_443 ⟨Nat.le_of_ble_eq_true rfl, Nat.le_of_ble_eq_true rfl⟩) (fun r443 u1 H locs hw hP hD hS => ?_)
    refine W.widen (k := 6) (n := 134) (by decide) (by decide) ?_
    exact rt_i (S := KT) (post := fun r (w : KT) => ∃ t, ACT s0 v e r t ∧ RCt t w) (Wf := fun w => WCt cI cJ cO h w) u1 hx hb hr hlocks (by rw [eA, ho]; exact hw) hP hD hS dL_act_446
  · refine lv_aload_n hx hb dL_act_417 rfl (lv_at hl 5 rfl) ?_
    refine lv_iload hx hb dL_act_418 (lv_at hl 3 rfl) ?_
    refine lv_iload_n hx hb dL_act_420 rfl (lv_at hl 4 rfl) ?_
    refine lv_if_eq (tgt := 429) hx hb dL_act_421 (by decide) (fun z => absurd z (by rw [ho]; decide)) (fun _ => ?_)
    refine lv_iload hx hb dL_act_424 (lv_at hl 0 rfl) ?_
    refine lv_goto (tgt := 443) hx hb dL_act_426 (by decide) ?_
    have hCut := cut_all (S := KT) (w1 := fun (u : KT) => WCt cI cJ cO h u) hP hD hS hA
    refine ca_i (wa := fun (u1 : KT) => WCt cI cJ cO h u1) hCut hS (vx_runSW (As := [.ref h, .int ((pcA v)), .int ((muA v))]) (rest := []) ⟨hx, hb, hml, hown, hts⟩ (c_L_fire l D hst cI cJ cZ cO tD mi h s0 u _ ((pcA v)) ((muA v)) hR) (vx_cwSW 3 hts gL_act_L_fire rfl rfl rfl (by decide +kernel) ⟨Nat.le_of_ble_eq_true rfl, Nat.le_of_ble_eq_true rfl⟩) (hCut.preSW hK hE hT hLS hN hS) rfl rfl hl.1 rfl (lv_room (Nat.le_of_ble_eq_true rfl)) dL_act_443 ⟨Nat.le_of_ble_eq_true rfl, Nat.le_of_ble_eq_true rfl⟩) (fun r443 u1 H locs hw hP hD hS => ?_)
    refine W.widen (k := 6) (n := 134) (by decide) (by decide) ?_
    exact rt_i (S := KT) (post := fun r (w : KT) => ∃ t, ACT s0 v e r t ∧ RCt t w) (Wf := fun w => WCt cI cJ cO h w) u1 hx hb hr hlocks (by rw [eA, ho]; exact hw) hP hD hS dL_act_446
set_option maxHeartbeats 4000000 in
set_option maxRecDepth 100000 in
theorem ka_447 (C : LA p l s m args meth c D cI cJ cZ cO tD mi A) (hR : RCt s0 u) (hP : va_P D vwCl (WCt cI cJ cO h u) H) (hD : va_D A (WCt cI cJ cO h u)) (hS : va_S A s.heap H locs) (hl : lv_has ls 8 [(7, .int ((muA v))), (6, .int ((ceA v))), (5, .int ((otA v))), (4, .int ((pcA v))), (3, .int ((bI (oddB v)))), (0, .ref h), (1, .int v), (2, .int e)]) (eA : ACT s0 v e = (R_crack s0 (ceA v))) : W p l e9 rm_L_act s m args below meth c H locs 0 0 (MQ below (va_Qi (fun r (w : KT) => ∃ t, ACT s0 v e r t ∧ RCt t w) (fun w t => POST D A (WCt cI cJ cO h w) t) A) args s 6 134 A) (F0 m 447 ls []) := by
  obtain ⟨hx, hb, hr, hml, hown, hts, hlocks, hst, hK, hE, hT, hLS, hN, hA⟩ := C
  refine lv_aload_n hx hb dL_act_447 rfl (lv_at hl 5 rfl) ?_
  refine lv_iload hx hb dL_act_448 (lv_at hl 1 rfl) ?_
  have hCut := cut_all (S := KT) (w1 := fun (u : KT) => WCt cI cJ cO h u) hP hD hS hA
  refine ca_i (wa := fun (u1 : KT) => WCt cI cJ cO h u1) hCut hS (vx_runSW (As := [.ref h, .int ((ceA v))]) (rest := []) ⟨hx, hb, hml, hown, hts⟩ (c_L_crack l D hst cI cJ cZ cO tD mi h s0 u _ ((ceA v)) hR) (vx_cwSW 2 hts gL_act_L_crack rfl rfl rfl (by decide +kernel) ⟨Nat.le_of_ble_eq_true rfl, Nat.le_of_ble_eq_true rfl⟩) (hCut.preSW hK hE hT hLS hN hS) rfl rfl hl.1 rfl (lv_room (Nat.le_of_ble_eq_true rfl)) dL_act_450 ⟨Nat.le_of_ble_eq_true rfl, Nat.le_of_ble_eq_true rfl⟩) (fun r450 u1 H locs hw hP hD hS => ?_)
  refine W.widen (k := 6) (n := 134) (by decide) (by decide) ?_
  exact rt_i (S := KT) (post := fun r (w : KT) => ∃ t, ACT s0 v e r t ∧ RCt t w) (Wf := fun w => WCt cI cJ cO h w) u1 hx hb hr hlocks (by rw [eA]; exact hw) hP hD hS dL_act_453
set_option maxHeartbeats 4000000 in
set_option maxRecDepth 100000 in
theorem ka_454 (C : LA p l s m args meth c D cI cJ cZ cO tD mi A) (hR : RCt s0 u) (hP : va_P D vwCl (WCt cI cJ cO h u) H) (hD : va_D A (WCt cI cJ cO h u)) (hS : va_S A s.heap H locs) (hl : lv_has ls 8 [(7, .int ((muA v))), (6, .int ((ceA v))), (5, .int ((otA v))), (4, .int ((pcA v))), (3, .int ((bI (oddB v)))), (0, .ref h), (1, .int v), (2, .int e)]) (eA : ACT s0 v e = (R_mend s0 (pcA v))) : W p l e9 rm_L_act s m args below meth c H locs 0 0 (MQ below (va_Qi (fun r (w : KT) => ∃ t, ACT s0 v e r t ∧ RCt t w) (fun w t => POST D A (WCt cI cJ cO h w) t) A) args s 6 134 A) (F0 m 454 ls []) := by
  obtain ⟨hx, hb, hr, hml, hown, hts, hlocks, hst, hK, hE, hT, hLS, hN, hA⟩ := C
  refine lv_aload_n hx hb dL_act_454 rfl (lv_at hl 5 rfl) ?_
  refine lv_iload hx hb dL_act_455 (lv_at hl 3 rfl) ?_
  have hCut := cut_all (S := KT) (w1 := fun (u : KT) => WCt cI cJ cO h u) hP hD hS hA
  refine ca_i (wa := fun (u1 : KT) => WCt cI cJ cO h u1) hCut hS (vx_runSW (As := [.ref h, .int ((pcA v))]) (rest := []) ⟨hx, hb, hml, hown, hts⟩ (c_L_mend l D hst cI cJ cZ cO tD mi h s0 u _ ((pcA v)) hR) (vx_cwSW 2 hts gL_act_L_mend rfl rfl rfl (by decide +kernel) ⟨Nat.le_of_ble_eq_true rfl, Nat.le_of_ble_eq_true rfl⟩) (hCut.preSW hK hE hT hLS hN hS) rfl rfl hl.1 rfl (lv_room (Nat.le_of_ble_eq_true rfl)) dL_act_457 ⟨Nat.le_of_ble_eq_true rfl, Nat.le_of_ble_eq_true rfl⟩) (fun r457 u1 H locs hw hP hD hS => ?_)
  refine W.widen (k := 6) (n := 134) (by decide) (by decide) ?_
  exact rt_i (S := KT) (post := fun r (w : KT) => ∃ t, ACT s0 v e r t ∧ RCt t w) (Wf := fun w => WCt cI cJ cO h w) u1 hx hb hr hlocks (by rw [eA]; exact hw) hP hD hS dL_act_460
set_option maxHeartbeats 4000000 in
set_option maxRecDepth 100000 in
theorem ka_461 (C : LA p l s m args meth c D cI cJ cZ cO tD mi A) (hR : RCt s0 u) (hP : va_P D vwCl (WCt cI cJ cO h u) H) (hD : va_D A (WCt cI cJ cO h u)) (hS : va_S A s.heap H locs) (hl : lv_has ls 8 [(7, .int ((muA v))), (6, .int ((ceA v))), (5, .int ((otA v))), (4, .int ((pcA v))), (3, .int ((bI (oddB v)))), (0, .ref h), (1, .int v), (2, .int e)]) (eA : ACT s0 v e = (R_replace s0 (pcA v) (muA v))) : W p l e9 rm_L_act s m args below meth c H locs 0 0 (MQ below (va_Qi (fun r (w : KT) => ∃ t, ACT s0 v e r t ∧ RCt t w) (fun w t => POST D A (WCt cI cJ cO h w) t) A) args s 6 134 A) (F0 m 461 ls []) := by
  obtain ⟨hx, hb, hr, hml, hown, hts, hlocks, hst, hK, hE, hT, hLS, hN, hA⟩ := C
  refine lv_aload_n hx hb dL_act_461 rfl (lv_at hl 5 rfl) ?_
  refine lv_iload hx hb dL_act_462 (lv_at hl 3 rfl) ?_
  refine lv_iload hx hb dL_act_464 (lv_at hl 0 rfl) ?_
  have hCut := cut_all (S := KT) (w1 := fun (u : KT) => WCt cI cJ cO h u) hP hD hS hA
  refine ca_i (wa := fun (u1 : KT) => WCt cI cJ cO h u1) hCut hS (vx_runSW (As := [.ref h, .int ((pcA v)), .int ((muA v))]) (rest := []) ⟨hx, hb, hml, hown, hts⟩ (c_L_replace l D hst cI cJ cZ cO tD mi h s0 u _ ((pcA v)) ((muA v)) hR) (vx_cwSW 3 hts gL_act_L_replace rfl rfl rfl (by decide +kernel) ⟨Nat.le_of_ble_eq_true rfl, Nat.le_of_ble_eq_true rfl⟩) (hCut.preSW hK hE hT hLS hN hS) rfl rfl hl.1 rfl (lv_room (Nat.le_of_ble_eq_true rfl)) dL_act_466 ⟨Nat.le_of_ble_eq_true rfl, Nat.le_of_ble_eq_true rfl⟩) (fun r466 u1 H locs hw hP hD hS => ?_)
  refine W.widen (k := 6) (n := 134) (by decide) (by decide) ?_
  exact rt_i (S := KT) (post := fun r (w : KT) => ∃ t, ACT s0 v e r t ∧ RCt t w) (Wf := fun w => WCt cI cJ cO h w) u1 hx hb hr hlocks (by rw [eA]; exact hw) hP hD hS dL_act_469
set_option maxHeartbeats 4000000 in
set_option maxRecDepth 100000 in
theorem ka_470 (C : LA p l s m args meth c D cI cJ cZ cO tD mi A) (hR : RCt s0 u) (hP : va_P D vwCl (WCt cI cJ cO h u) H) (hD : va_D A (WCt cI cJ cO h u)) (hS : va_S A s.heap H locs) (hl : lv_has ls 8 [(7, .int ((muA v))), (6, .int ((ceA v))), (5, .int ((otA v))), (4, .int ((pcA v))), (3, .int ((bI (oddB v)))), (0, .ref h), (1, .int v), (2, .int e)]) (eA : ACT s0 v e = (if remI e 16 = 9 then R_bestLine s0 (pcA v) else R_pieceOf s0 (ceA v))) : W p l e9 rm_L_act s m args below meth c H locs 0 0 (MQ below (va_Qi (fun r (w : KT) => ∃ t, ACT s0 v e r t ∧ RCt t w) (fun w t => POST D A (WCt cI cJ cO h w) t) A) args s 6 134 A) (F0 m 470 ls []) := by
  obtain ⟨hx, hb, hr, hml, hown, hts, hlocks, hst, hK, hE, hT, hLS, hN, hA⟩ := C
  by_cases cc : remI e 16 = 9
  · refine lv_iload_n hx hb dL_act_470 rfl (lv_at hl 7 rfl) ?_
    refine lv_bipush (v := 16) hx hb dL_act_471 (by decide) ?_
    refine lv_irem hx hb dL_act_473 (by decide) ?_
    refine lv_bipush (v := 9) hx hb dL_act_474 (by decide) ?_
    refine lv_icmp_ne (tgt := 488) hx hb dL_act_476 (by decide) (fun z => absurd cc z) (fun _ => ?_)
    refine lv_aload_n hx hb dL_act_479 rfl (lv_at hl 5 rfl) ?_
    refine lv_iload hx hb dL_act_480 (lv_at hl 3 rfl) ?_
    have hCut := cut_all (S := KT) (w1 := fun (u : KT) => WCt cI cJ cO h u) hP hD hS hA
    refine ca_i (wa := fun (u1 : KT) => WCt cI cJ cO h u1) hCut hS (vx_runSW (As := [.ref h, .int ((pcA v))]) (rest := []) ⟨hx, hb, hml, hown, hts⟩ (c_L_best l D hst cI cJ cZ cO tD mi h s0 u _ ((pcA v)) hR) (vx_cwSW 2 hts gL_act_L_best rfl rfl rfl (by decide +kernel) ⟨Nat.le_of_ble_eq_true rfl, Nat.le_of_ble_eq_true rfl⟩) (hCut.preSW hK hE hT hLS hN hS) rfl rfl hl.1 rfl (lv_room (Nat.le_of_ble_eq_true rfl)) dL_act_482 ⟨Nat.le_of_ble_eq_true rfl, Nat.le_of_ble_eq_true rfl⟩) (fun r482 u1 H locs hw hP hD hS => ?_)
    refine lv_goto (tgt := 494) hx hb dL_act_485 (by decide) ?_
    refine W.widen (k := 6) (n := 134) (by decide) (by decide) ?_
    exact rt_i (S := KT) (post := fun r (w : KT) => ∃ t, ACT s0 v e r t ∧ RCt t w) (Wf := fun w => WCt cI cJ cO h w) u1 hx hb hr hlocks (by rw [eA, if_pos cc]; exact hw) hP hD hS dL_act_494
  · refine lv_iload_n hx hb dL_act_470 rfl (lv_at hl 7 rfl) ?_
    refine lv_bipush (v := 16) hx hb dL_act_471 (by decide) ?_
    refine lv_irem hx hb dL_act_473 (by decide) ?_
    refine lv_bipush (v := 9) hx hb dL_act_474 (by decide) ?_
    refine lv_icmp_ne (tgt := 488) hx hb dL_act_476 (by decide) (fun _ => ?_) (fun z => absurd z cc)
    refine lv_aload_n hx hb dL_act_488 rfl (lv_at hl 5 rfl) ?_
    refine lv_iload hx hb dL_act_489 (lv_at hl 1 rfl) ?_
    have hCut := cut_all (S := KT) (w1 := fun (u : KT) => WCt cI cJ cO h u) hP hD hS hA
    refine ca_i (wa := fun (u1 : KT) => WCt cI cJ cO h u1) hCut hS (vx_runSW (As := [.ref h, .int ((ceA v))]) (rest := []) ⟨hx, hb, hml, hown, hts⟩ (c_L_pieceOf l D hst cI cJ cZ cO tD mi h s0 u _ ((ceA v)) hR) (vx_cwSW 2 hts gL_act_L_pieceOf rfl rfl rfl (by decide +kernel) ⟨Nat.le_of_ble_eq_true rfl, Nat.le_of_ble_eq_true rfl⟩) (hCut.preSW hK hE hT hLS hN hS) rfl rfl hl.1 rfl (lv_room (Nat.le_of_ble_eq_true rfl)) dL_act_491 ⟨Nat.le_of_ble_eq_true rfl, Nat.le_of_ble_eq_true rfl⟩) (fun r491 u1 H locs hw hP hD hS => ?_)
    refine W.widen (k := 6) (n := 134) (by decide) (by decide) ?_
    exact rt_i (S := KT) (post := fun r (w : KT) => ∃ t, ACT s0 v e r t ∧ RCt t w) (Wf := fun w => WCt cI cJ cO h w) u1 hx hb hr hlocks (by rw [eA, if_neg cc]; exact hw) hP hD hS dL_act_494
set_option maxHeartbeats 4000000 in
set_option maxRecDepth 100000 in
theorem ka_495 (C : LA p l s m args meth c D cI cJ cZ cO tD mi A) (hR : RCt s0 u) (hP : va_P D vwCl (WCt cI cJ cO h u) H) (hD : va_D A (WCt cI cJ cO h u)) (hS : va_S A s.heap H locs) (hl : lv_has ls 8 [(7, .int ((muA v))), (6, .int ((ceA v))), (5, .int ((otA v))), (4, .int ((pcA v))), (3, .int ((bI (oddB v)))), (0, .ref h), (1, .int v), (2, .int e)]) (eA : ACT s0 v e = (if remI e 8 = 3 then R_assembled s0 (otA v) else R_history s0 (pcA v) (iteB (oddB v) (otA v) (lowI (shI v 11) 8)))) : W p l e9 rm_L_act s m args below meth c H locs 0 0 (MQ below (va_Qi (fun r (w : KT) => ∃ t, ACT s0 v e r t ∧ RCt t w) (fun w t => POST D A (WCt cI cJ cO h w) t) A) args s 6 134 A) (F0 m 495 ls []) := by
  obtain ⟨hx, hb, hr, hml, hown, hts, hlocks, hst, hK, hE, hT, hLS, hN, hA⟩ := C
  by_cases cc : remI e 8 = 3
  · refine lv_iload_n hx hb dL_act_495 rfl (lv_at hl 7 rfl) ?_
    refine lv_bipush (v := 8) hx hb dL_act_496 (by decide) ?_
    refine lv_irem hx hb dL_act_498 (by decide) ?_
    refine lv_iconst (v := 3) hx hb dL_act_499 (by decide) ?_
    refine lv_icmp_ne (tgt := 512) hx hb dL_act_500 (by decide) (fun z => absurd cc z) (fun _ => ?_)
    refine lv_aload_n hx hb dL_act_503 rfl (lv_at hl 5 rfl) ?_
    refine lv_iload hx hb dL_act_504 (lv_at hl 2 rfl) ?_
    have hCut := cut_all (S := KT) (w1 := fun (u : KT) => WCt cI cJ cO h u) hP hD hS hA
    refine ca_i (wa := fun (u1 : KT) => WCt cI cJ cO h u1) hCut hS (va_runV (As := [.int ((otA v))]) (rest := []) ⟨hx, hb, hml, hown, hts⟩ (v_X4_assembled l D cI cJ cZ cO h s0 u _ ((otA v)) hR) (cwV 1 hts gL_act_X4_assembled rfl rfl rfl (by decide +kernel) ⟨Nat.le_of_ble_eq_true rfl, Nat.le_of_ble_eq_true rfl⟩) (hCut.preVV hK hE) rfl rfl hl.1 rfl (lv_room (Nat.le_of_ble_eq_true rfl)) dL_act_506 ⟨Nat.le_of_ble_eq_true rfl, Nat.le_of_ble_eq_true rfl⟩) (fun r506 u1 H locs hw hP hD hS => ?_)
    refine lv_goto (tgt := 536) hx hb dL_act_509 (by decide) ?_
    refine W.widen (k := 6) (n := 134) (by decide) (by decide) ?_
    exact rt_i (S := KT) (post := fun r (w : KT) => ∃ t, ACT s0 v e r t ∧ RCt t w) (Wf := fun w => WCt cI cJ cO h w) u1 hx hb hr hlocks (by rw [eA, if_pos cc]; exact hw) hP hD hS dL_act_536
  · cases ho : oddB v
    · refine lv_iload_n hx hb dL_act_495 rfl (lv_at hl 7 rfl) ?_
      refine lv_bipush (v := 8) hx hb dL_act_496 (by decide) ?_
      refine lv_irem hx hb dL_act_498 (by decide) ?_
      refine lv_iconst (v := 3) hx hb dL_act_499 (by decide) ?_
      refine lv_icmp_ne (tgt := 512) hx hb dL_act_500 (by decide) (fun _ => ?_) (fun z => absurd z cc)
      refine lv_aload_n hx hb dL_act_512 rfl (lv_at hl 5 rfl) ?_
      refine lv_iload hx hb dL_act_513 (lv_at hl 3 rfl) ?_
      refine lv_iload_n hx hb dL_act_515 rfl (lv_at hl 4 rfl) ?_
      refine lv_if_eq (tgt := 524) hx hb dL_act_516 (by decide) (fun _ => ?_) (fun z => absurd z (by rw [ho]; decide))
      refine lv_iload_n hx hb dL_act_524 rfl (lv_at hl 6 rfl) ?_
      refine lv_bipush (v := 11) hx hb dL_act_525 (by decide) ?_
      refine lv_ishr hx hb dL_act_527 ?_
      refine lv_bipush (v := 8) hx hb dL_act_528 (by decide) ?_
      refine ca_i (wa := fun (_ : Unit) => WCt cI cJ cO h u) (cut_nil hP hD hS hA) hS (va_runS (As := [.int ((v >>> (11 &&& 31))), .int 8]) (rest := [.int ((pcA v)), .ref h]) ⟨hx, hb, hml, hown, hts⟩ (c_L_low l D cI cJ cZ cO H.size ((v >>> (11 &&& 31))) 8 (fun r => r = lowI ((v >>> (11 &&& 31))) 8) ⟨by decide, rfl⟩) (va_cwS 2 hts gL_act_L_low rfl rfl rfl (by decide +kernel) ⟨Nat.le_of_ble_eq_true rfl, Nat.le_of_ble_eq_true rfl⟩) ((cut_nil hP hD hS hA).preS hK hE) rfl rfl hl.1 rfl (lv_room (Nat.le_of_ble_eq_true rfl)) dL_act_530 ⟨Nat.le_of_ble_eq_true rfl, Nat.le_of_ble_eq_true rfl⟩) (fun r _ H locs hw hP hD hS => ?_)
      obtain rfl := hw
      have hCut := cut_all (S := KT) (w1 := fun (u : KT) => WCt cI cJ cO h u) hP hD hS hA
      refine ca_i (wa := fun (u1 : KT) => WCt cI cJ cO h u1) hCut hS (vx_runSW (As := [.ref h, .int ((pcA v)), .int ((lowI ((v >>> (11 &&& 31))) 8))]) (rest := []) ⟨hx, hb, hml, hown, hts⟩ (c_L_history l D hst cI cJ cZ cO tD mi h s0 u _ ((pcA v)) ((lowI ((v >>> (11 &&& 31))) 8)) hR) (vx_cwSW 3 hts gL_act_L_history rfl rfl rfl (by decide +kernel) ⟨Nat.le_of_ble_eq_true rfl, Nat.le_of_ble_eq_true rfl⟩) (hCut.preSW hK hE hT hLS hN hS) rfl rfl hl.1 rfl (lv_room (Nat.le_of_ble_eq_true rfl)) dL_act_533 ⟨Nat.le_of_ble_eq_true rfl, Nat.le_of_ble_eq_true rfl⟩) (fun r533 u1 H locs hw hP hD hS => ?_)
      refine W.widen (k := 6) (n := 134) (by decide) (by decide) ?_
      exact rt_i (S := KT) (post := fun r (w : KT) => ∃ t, ACT s0 v e r t ∧ RCt t w) (Wf := fun w => WCt cI cJ cO h w) u1 hx hb hr hlocks (by rw [eA, if_neg cc, ho]; exact hw) hP hD hS dL_act_536
    · refine lv_iload_n hx hb dL_act_495 rfl (lv_at hl 7 rfl) ?_
      refine lv_bipush (v := 8) hx hb dL_act_496 (by decide) ?_
      refine lv_irem hx hb dL_act_498 (by decide) ?_
      refine lv_iconst (v := 3) hx hb dL_act_499 (by decide) ?_
      refine lv_icmp_ne (tgt := 512) hx hb dL_act_500 (by decide) (fun _ => ?_) (fun z => absurd z cc)
      refine lv_aload_n hx hb dL_act_512 rfl (lv_at hl 5 rfl) ?_
      refine lv_iload hx hb dL_act_513 (lv_at hl 3 rfl) ?_
      refine lv_iload_n hx hb dL_act_515 rfl (lv_at hl 4 rfl) ?_
      refine lv_if_eq (tgt := 524) hx hb dL_act_516 (by decide) (fun z => absurd z (by rw [ho]; decide)) (fun _ => ?_)
      refine lv_iload hx hb dL_act_519 (lv_at hl 2 rfl) ?_
      refine lv_goto (tgt := 533) hx hb dL_act_521 (by decide) ?_
      have hCut := cut_all (S := KT) (w1 := fun (u : KT) => WCt cI cJ cO h u) hP hD hS hA
      refine ca_i (wa := fun (u1 : KT) => WCt cI cJ cO h u1) hCut hS (vx_runSW (As := [.ref h, .int ((pcA v)), .int ((otA v))]) (rest := []) ⟨hx, hb, hml, hown, hts⟩ (c_L_history l D hst cI cJ cZ cO tD mi h s0 u _ ((pcA v)) ((otA v)) hR) (vx_cwSW 3 hts gL_act_L_history rfl rfl rfl (by decide +kernel) ⟨Nat.le_of_ble_eq_true rfl, Nat.le_of_ble_eq_true rfl⟩) (hCut.preSW hK hE hT hLS hN hS) rfl rfl hl.1 rfl (lv_room (Nat.le_of_ble_eq_true rfl)) dL_act_533 ⟨Nat.le_of_ble_eq_true rfl, Nat.le_of_ble_eq_true rfl⟩) (fun r533 u1 H locs hw hP hD hS => ?_)
      refine W.widen (k := 6) (n := 134) (by decide) (by decide) ?_
      exact rt_i (S := KT) (post := fun r (w : KT) => ∃ t, ACT s0 v e r t ∧ RCt t w) (Wf := fun w => WCt cI cJ cO h w) u1 hx hb hr hlocks (by rw [eA, if_neg cc, ho]; exact hw) hP hD hS dL_act_536
set_option maxHeartbeats 4000000 in
set_option maxRecDepth 100000 in
theorem ka_537 (C : LA p l s m args meth c D cI cJ cZ cO tD mi A) (hR : RCt s0 u) (hP : va_P D vwCl (WCt cI cJ cO h u) H) (hD : va_D A (WCt cI cJ cO h u)) (hS : va_S A s.heap H locs) (hl : lv_has ls 8 [(7, .int ((muA v))), (6, .int ((ceA v))), (5, .int ((otA v))), (4, .int ((pcA v))), (3, .int ((bI (oddB v)))), (0, .ref h), (1, .int v), (2, .int e)]) (eA : ACT s0 v e = (if remI e 8 = 5 then R_laid s0 (pcA v) else R_crosses s0 (iteB (oddB v) (muA v) (lowI (shI v 14) 15)))) : W p l e9 rm_L_act s m args below meth c H locs 0 0 (MQ below (va_Qi (fun r (w : KT) => ∃ t, ACT s0 v e r t ∧ RCt t w) (fun w t => POST D A (WCt cI cJ cO h w) t) A) args s 6 134 A) (F0 m 537 ls []) := by
  obtain ⟨hx, hb, hr, hml, hown, hts, hlocks, hst, hK, hE, hT, hLS, hN, hA⟩ := C
  by_cases cc : remI e 8 = 5
  · refine lv_iload_n hx hb dL_act_537 rfl (lv_at hl 7 rfl) ?_
    refine lv_bipush (v := 8) hx hb dL_act_538 (by decide) ?_
    refine lv_irem hx hb dL_act_540 (by decide) ?_
    refine lv_iconst (v := 5) hx hb dL_act_541 (by decide) ?_
    refine lv_icmp_ne (tgt := 554) hx hb dL_act_542 (by decide) (fun z => absurd cc z) (fun _ => ?_)
    refine lv_aload_n hx hb dL_act_545 rfl (lv_at hl 5 rfl) ?_
    refine lv_iload hx hb dL_act_546 (lv_at hl 3 rfl) ?_
    have hCut := cut_all (S := KT) (w1 := fun (u : KT) => WCt cI cJ cO h u) hP hD hS hA
    refine ca_i (wa := fun (u1 : KT) => WCt cI cJ cO h u1) hCut hS (vx_runSW (As := [.ref h, .int ((pcA v))]) (rest := []) ⟨hx, hb, hml, hown, hts⟩ (c_L_laid l D hst cI cJ cZ cO tD mi h s0 u _ ((pcA v)) hR) (vx_cwSW 2 hts gL_act_L_laid rfl rfl rfl (by decide +kernel) ⟨Nat.le_of_ble_eq_true rfl, Nat.le_of_ble_eq_true rfl⟩) (hCut.preSW hK hE hT hLS hN hS) rfl rfl hl.1 rfl (lv_room (Nat.le_of_ble_eq_true rfl)) dL_act_548 ⟨Nat.le_of_ble_eq_true rfl, Nat.le_of_ble_eq_true rfl⟩) (fun r548 u1 H locs hw hP hD hS => ?_)
    refine lv_goto (tgt := 576) hx hb dL_act_551 (by decide) ?_
    refine W.widen (k := 6) (n := 134) (by decide) (by decide) ?_
    exact rt_i (S := KT) (post := fun r (w : KT) => ∃ t, ACT s0 v e r t ∧ RCt t w) (Wf := fun w => WCt cI cJ cO h w) u1 hx hb hr hlocks (by rw [eA, if_pos cc]; exact hw) hP hD hS dL_act_576
  · cases ho : oddB v
    · refine lv_iload_n hx hb dL_act_537 rfl (lv_at hl 7 rfl) ?_
      refine lv_bipush (v := 8) hx hb dL_act_538 (by decide) ?_
      refine lv_irem hx hb dL_act_540 (by decide) ?_
      refine lv_iconst (v := 5) hx hb dL_act_541 (by decide) ?_
      refine lv_icmp_ne (tgt := 554) hx hb dL_act_542 (by decide) (fun _ => ?_) (fun z => absurd z cc)
      refine lv_aload_n hx hb dL_act_554 rfl (lv_at hl 5 rfl) ?_
      refine lv_iload_n hx hb dL_act_555 rfl (lv_at hl 4 rfl) ?_
      refine lv_if_eq (tgt := 564) hx hb dL_act_556 (by decide) (fun _ => ?_) (fun z => absurd z (by rw [ho]; decide))
      refine lv_iload_n hx hb dL_act_564 rfl (lv_at hl 6 rfl) ?_
      refine lv_bipush (v := 14) hx hb dL_act_565 (by decide) ?_
      refine lv_ishr hx hb dL_act_567 ?_
      refine lv_bipush (v := 15) hx hb dL_act_568 (by decide) ?_
      refine ca_i (wa := fun (_ : Unit) => WCt cI cJ cO h u) (cut_nil hP hD hS hA) hS (va_runS (As := [.int ((v >>> (14 &&& 31))), .int 15]) (rest := [.ref h]) ⟨hx, hb, hml, hown, hts⟩ (c_L_low l D cI cJ cZ cO H.size ((v >>> (14 &&& 31))) 15 (fun r => r = lowI ((v >>> (14 &&& 31))) 15) ⟨by decide, rfl⟩) (va_cwS 2 hts gL_act_L_low rfl rfl rfl (by decide +kernel) ⟨Nat.le_of_ble_eq_true rfl, Nat.le_of_ble_eq_true rfl⟩) ((cut_nil hP hD hS hA).preS hK hE) rfl rfl hl.1 rfl (lv_room (Nat.le_of_ble_eq_true rfl)) dL_act_570 ⟨Nat.le_of_ble_eq_true rfl, Nat.le_of_ble_eq_true rfl⟩) (fun r _ H locs hw hP hD hS => ?_)
      obtain rfl := hw
      have hCut := cut_all (S := KT) (w1 := fun (u : KT) => WCt cI cJ cO h u) hP hD hS hA
      refine ca_i (wa := fun (u1 : KT) => WCt cI cJ cO h u1) hCut hS (vx_runSW (As := [.ref h, .int ((lowI ((v >>> (14 &&& 31))) 15))]) (rest := []) ⟨hx, hb, hml, hown, hts⟩ (c_L_crosses l D hst cI cJ cZ cO tD mi h s0 u _ ((lowI ((v >>> (14 &&& 31))) 15)) hR) (vx_cwSW 2 hts gL_act_L_crosses rfl rfl rfl (by decide +kernel) ⟨Nat.le_of_ble_eq_true rfl, Nat.le_of_ble_eq_true rfl⟩) (hCut.preSW hK hE hT hLS hN hS) rfl rfl hl.1 rfl (lv_room (Nat.le_of_ble_eq_true rfl)) dL_act_573 ⟨Nat.le_of_ble_eq_true rfl, Nat.le_of_ble_eq_true rfl⟩) (fun r573 u1 H locs hw hP hD hS => ?_)
      refine W.widen (k := 6) (n := 134) (by decide) (by decide) ?_
      exact rt_i (S := KT) (post := fun r (w : KT) => ∃ t, ACT s0 v e r t ∧ RCt t w) (Wf := fun w => WCt cI cJ cO h w) u1 hx hb hr hlocks (by rw [eA, if_neg cc, ho]; exact hw) hP hD hS dL_act_576
    · refine lv_iload_n hx hb dL_act_537 rfl (lv_at hl 7 rfl) ?_
      refine lv_bipush (v := 8) hx hb dL_act_538 (by decide) ?_
      refine lv_irem hx hb dL_act_540 (by decide) ?_
      refine lv_iconst (v := 5) hx hb dL_act_541 (by decide) ?_
      refine lv_icmp_ne (tgt := 554) hx hb dL_act_542 (by decide) (fun _ => ?_) (fun z => absurd z cc)
      refine lv_aload_n hx hb dL_act_554 rfl (lv_at hl 5 rfl) ?_
      refine lv_iload_n hx hb dL_act_555 rfl (lv_at hl 4 rfl) ?_
      refine lv_if_eq (tgt := 564) hx hb dL_act_556 (by decide) (fun z => absurd z (by rw [ho]; decide)) (fun _ => ?_)
      refine lv_iload hx hb dL_act_559 (lv_at hl 0 rfl) ?_
      refine lv_goto (tgt := 573) hx hb dL_act_561 (by decide) ?_
      have hCut := cut_all (S := KT) (w1 := fun (u : KT) => WCt cI cJ cO h u) hP hD hS hA
      refine ca_i (wa := fun (u1 : KT) => WCt cI cJ cO h u1) hCut hS (vx_runSW (As := [.ref h, .int ((muA v))]) (rest := []) ⟨hx, hb, hml, hown, hts⟩ (c_L_crosses l D hst cI cJ cZ cO tD mi h s0 u _ ((muA v)) hR) (vx_cwSW 2 hts gL_act_L_crosses rfl rfl rfl (by decide +kernel) ⟨Nat.le_of_ble_eq_true rfl, Nat.le_of_ble_eq_true rfl⟩) (hCut.preSW hK hE hT hLS hN hS) rfl rfl hl.1 rfl (lv_room (Nat.le_of_ble_eq_true rfl)) dL_act_573 ⟨Nat.le_of_ble_eq_true rfl, Nat.le_of_ble_eq_true rfl⟩) (fun r573 u1 H locs hw hP hD hS => ?_)
      refine W.widen (k := 6) (n := 134) (by decide) (by decide) ?_
      exact rt_i (S := KT) (post := fun r (w : KT) => ∃ t, ACT s0 v e r t ∧ RCt t w) (Wf := fun w => WCt cI cJ cO h w) u1 hx hb hr hlocks (by rw [eA, if_neg cc, ho]; exact hw) hP hD hS dL_act_576
set_option maxHeartbeats 4000000 in
set_option maxRecDepth 100000 in
theorem ka_577 (C : LA p l s m args meth c D cI cJ cZ cO tD mi A) (hR : RCt s0 u) (hP : va_P D vwCl (WCt cI cJ cO h u) H) (hD : va_D A (WCt cI cJ cO h u)) (hS : va_S A s.heap H locs) (hl : lv_has ls 8 [(7, .int ((muA v))), (6, .int ((ceA v))), (5, .int ((otA v))), (4, .int ((pcA v))), (3, .int ((bI (oddB v)))), (0, .ref h), (1, .int v), (2, .int e)]) (eA : ACT s0 v e = (R_bends s0 (iteB (oddB v) (muA v) (lowI (shI v 14) 4)) (iteB (oddB v) (ceA v) (lowI (shI v 8) 10)))) : W p l e9 rm_L_act s m args below meth c H locs 0 0 (MQ below (va_Qi (fun r (w : KT) => ∃ t, ACT s0 v e r t ∧ RCt t w) (fun w t => POST D A (WCt cI cJ cO h w) t) A) args s 6 134 A) (F0 m 577 ls []) := by
  obtain ⟨hx, hb, hr, hml, hown, hts, hlocks, hst, hK, hE, hT, hLS, hN, hA⟩ := C
  cases ho : oddB v
  · refine lv_aload_n hx hb dL_act_577 rfl (lv_at hl 5 rfl) ?_
    refine lv_iload_n hx hb dL_act_578 rfl (lv_at hl 4 rfl) ?_
    refine lv_if_eq (tgt := 587) hx hb dL_act_579 (by decide) (fun _ => ?_) (fun z => absurd z (by rw [ho]; decide))
    refine lv_iload_n hx hb dL_act_587 rfl (lv_at hl 6 rfl) ?_
    refine lv_bipush (v := 14) hx hb dL_act_588 (by decide) ?_
    refine lv_ishr hx hb dL_act_590 ?_
    refine lv_iconst (v := 4) hx hb dL_act_591 (by decide) ?_
    refine ca_i (wa := fun (_ : Unit) => WCt cI cJ cO h u) (cut_nil hP hD hS hA) hS (va_runS (As := [.int ((v >>> (14 &&& 31))), .int 4]) (rest := [.ref h]) ⟨hx, hb, hml, hown, hts⟩ (c_L_low l D cI cJ cZ cO H.size ((v >>> (14 &&& 31))) 4 (fun r => r = lowI ((v >>> (14 &&& 31))) 4) ⟨by decide, rfl⟩) (va_cwS 2 hts gL_act_L_low rfl rfl rfl (by decide +kernel) ⟨Nat.le_of_ble_eq_true rfl, Nat.le_of_ble_eq_true rfl⟩) ((cut_nil hP hD hS hA).preS hK hE) rfl rfl hl.1 rfl (lv_room (Nat.le_of_ble_eq_true rfl)) dL_act_592 ⟨Nat.le_of_ble_eq_true rfl, Nat.le_of_ble_eq_true rfl⟩) (fun r _ H locs hw hP hD hS => ?_)
    obtain rfl := hw
    refine lv_iload_n hx hb dL_act_595 rfl (lv_at hl 4 rfl) ?_
    refine lv_if_eq (tgt := 604) hx hb dL_act_596 (by decide) (fun _ => ?_) (fun z => absurd z (by rw [ho]; decide))
    refine lv_iload_n hx hb dL_act_604 rfl (lv_at hl 6 rfl) ?_
    refine lv_bipush (v := 8) hx hb dL_act_605 (by decide) ?_
    refine lv_ishr hx hb dL_act_607 ?_
    refine lv_bipush (v := 10) hx hb dL_act_608 (by decide) ?_
    refine ca_i (wa := fun (_ : Unit) => WCt cI cJ cO h u) (cut_nil hP hD hS hA) hS (va_runS (As := [.int ((v >>> (8 &&& 31))), .int 10]) (rest := [.int ((lowI ((v >>> (14 &&& 31))) 4)), .ref h]) ⟨hx, hb, hml, hown, hts⟩ (c_L_low l D cI cJ cZ cO H.size ((v >>> (8 &&& 31))) 10 (fun r => r = lowI ((v >>> (8 &&& 31))) 10) ⟨by decide, rfl⟩) (va_cwS 2 hts gL_act_L_low rfl rfl rfl (by decide +kernel) ⟨Nat.le_of_ble_eq_true rfl, Nat.le_of_ble_eq_true rfl⟩) ((cut_nil hP hD hS hA).preS hK hE) rfl rfl hl.1 rfl (lv_room (Nat.le_of_ble_eq_true rfl)) dL_act_610 ⟨Nat.le_of_ble_eq_true rfl, Nat.le_of_ble_eq_true rfl⟩) (fun r _ H locs hw hP hD hS => ?_)
    obtain rfl := hw
    have hCut := cut_all (S := KT) (w1 := fun (u : KT) => WCt cI cJ cO h u) hP hD hS hA
    refine ca_i (wa := fun (u1 : KT) => WCt cI cJ cO h u1) hCut hS (vx_runSW (As := [.ref h, .int ((lowI ((v >>> (14 &&& 31))) 4)), .int ((lowI ((v >>> (8 &&& 31))) 10))]) (rest := []) ⟨hx, hb, hml, hown, hts⟩ (c_L_bends l D hst cI cJ cZ cO tD mi h s0 u _ ((lowI ((v >>> (14 &&& 31))) 4)) ((lowI ((v >>> (8 &&& 31))) 10)) hR) (vx_cwSW 3 hts gL_act_L_bends rfl rfl rfl (by decide +kernel) ⟨Nat.le_of_ble_eq_true rfl, Nat.le_of_ble_eq_true rfl⟩) (hCut.preSW hK hE hT hLS hN hS) rfl rfl hl.1 rfl (lv_room (Nat.le_of_ble_eq_true rfl)) dL_act_613 ⟨Nat.le_of_ble_eq_true rfl, Nat.le_of_ble_eq_true rfl⟩) (fun r613 u1 H locs hw hP hD hS => ?_)
    refine W.widen (k := 6) (n := 134) (by decide) (by decide) ?_
    exact rt_i (S := KT) (post := fun r (w : KT) => ∃ t, ACT s0 v e r t ∧ RCt t w) (Wf := fun w => WCt cI cJ cO h w) u1 hx hb hr hlocks (by rw [eA, ho]; exact hw) hP hD hS dL_act_616
  · refine lv_aload_n hx hb dL_act_577 rfl (lv_at hl 5 rfl) ?_
    refine lv_iload_n hx hb dL_act_578 rfl (lv_at hl 4 rfl) ?_
    refine lv_if_eq (tgt := 587) hx hb dL_act_579 (by decide) (fun z => absurd z (by rw [ho]; decide)) (fun _ => ?_)
    refine lv_iload hx hb dL_act_582 (lv_at hl 0 rfl) ?_
    refine lv_goto (tgt := 595) hx hb dL_act_584 (by decide) ?_
    refine lv_iload_n hx hb dL_act_595 rfl (lv_at hl 4 rfl) ?_
    refine lv_if_eq (tgt := 604) hx hb dL_act_596 (by decide) (fun z => absurd z (by rw [ho]; decide)) (fun _ => ?_)
    refine lv_iload hx hb dL_act_599 (lv_at hl 1 rfl) ?_
    refine lv_goto (tgt := 613) hx hb dL_act_601 (by decide) ?_
    have hCut := cut_all (S := KT) (w1 := fun (u : KT) => WCt cI cJ cO h u) hP hD hS hA
    refine ca_i (wa := fun (u1 : KT) => WCt cI cJ cO h u1) hCut hS (vx_runSW (As := [.ref h, .int ((muA v)), .int ((ceA v))]) (rest := []) ⟨hx, hb, hml, hown, hts⟩ (c_L_bends l D hst cI cJ cZ cO tD mi h s0 u _ ((muA v)) ((ceA v)) hR) (vx_cwSW 3 hts gL_act_L_bends rfl rfl rfl (by decide +kernel) ⟨Nat.le_of_ble_eq_true rfl, Nat.le_of_ble_eq_true rfl⟩) (hCut.preSW hK hE hT hLS hN hS) rfl rfl hl.1 rfl (lv_room (Nat.le_of_ble_eq_true rfl)) dL_act_613 ⟨Nat.le_of_ble_eq_true rfl, Nat.le_of_ble_eq_true rfl⟩) (fun r613 u1 H locs hw hP hD hS => ?_)
    refine W.widen (k := 6) (n := 134) (by decide) (by decide) ?_
    exact rt_i (S := KT) (post := fun r (w : KT) => ∃ t, ACT s0 v e r t ∧ RCt t w) (Wf := fun w => WCt cI cJ cO h w) u1 hx hb hr hlocks (by rw [eA, ho]; exact hw) hP hD hS dL_act_616
set_option maxHeartbeats 4000000 in
set_option maxRecDepth 100000 in
theorem ka_617 (C : LA p l s m args meth c D cI cJ cZ cO tD mi A) (hR : RCt s0 u) (hP : va_P D vwCl (WCt cI cJ cO h u) H) (hD : va_D A (WCt cI cJ cO h u)) (hS : va_S A s.heap H locs) (hl : lv_has ls 8 [(7, .int ((muA v))), (6, .int ((ceA v))), (5, .int ((otA v))), (4, .int ((pcA v))), (3, .int ((bI (oddB v)))), (0, .ref h), (1, .int v), (2, .int e)]) (eA : ACT s0 v e = (if remI e 4 = 1 then R_piece s0 (pcA v) (iteB (oddB v) (muA v) (lowI (shI v 14) 10)) else R_history s0 (pcA v) 0)) : W p l e9 rm_L_act s m args below meth c H locs 0 0 (MQ below (va_Qi (fun r (w : KT) => ∃ t, ACT s0 v e r t ∧ RCt t w) (fun w t => POST D A (WCt cI cJ cO h w) t) A) args s 6 134 A) (F0 m 617 ls []) := by
  obtain ⟨hx, hb, hr, hml, hown, hts, hlocks, hst, hK, hE, hT, hLS, hN, hA⟩ := C
  by_cases cc : remI e 4 = 1
  · cases ho : oddB v
    · refine lv_iload_n hx hb dL_act_617 rfl (lv_at hl 7 rfl) ?_
      refine lv_iconst (v := 4) hx hb dL_act_618 (by decide) ?_
      refine lv_irem hx hb dL_act_619 (by decide) ?_
      refine lv_iconst (v := 1) hx hb dL_act_620 (by decide) ?_
      refine lv_icmp_ne (tgt := 651) hx hb dL_act_621 (by decide) (fun z => absurd cc z) (fun _ => ?_)
      refine lv_aload_n hx hb dL_act_624 rfl (lv_at hl 5 rfl) ?_
      refine lv_iload hx hb dL_act_625 (lv_at hl 3 rfl) ?_
      refine lv_iload_n hx hb dL_act_627 rfl (lv_at hl 4 rfl) ?_
      refine lv_if_eq (tgt := 636) hx hb dL_act_628 (by decide) (fun _ => ?_) (fun z => absurd z (by rw [ho]; decide))
      refine lv_iload_n hx hb dL_act_636 rfl (lv_at hl 6 rfl) ?_
      refine lv_bipush (v := 14) hx hb dL_act_637 (by decide) ?_
      refine lv_ishr hx hb dL_act_639 ?_
      refine lv_bipush (v := 10) hx hb dL_act_640 (by decide) ?_
      refine ca_i (wa := fun (_ : Unit) => WCt cI cJ cO h u) (cut_nil hP hD hS hA) hS (va_runS (As := [.int ((v >>> (14 &&& 31))), .int 10]) (rest := [.int ((pcA v)), .ref h]) ⟨hx, hb, hml, hown, hts⟩ (c_L_low l D cI cJ cZ cO H.size ((v >>> (14 &&& 31))) 10 (fun r => r = lowI ((v >>> (14 &&& 31))) 10) ⟨by decide, rfl⟩) (va_cwS 2 hts gL_act_L_low rfl rfl rfl (by decide +kernel) ⟨Nat.le_of_ble_eq_true rfl, Nat.le_of_ble_eq_true rfl⟩) ((cut_nil hP hD hS hA).preS hK hE) rfl rfl hl.1 rfl (lv_room (Nat.le_of_ble_eq_true rfl)) dL_act_642 ⟨Nat.le_of_ble_eq_true rfl, Nat.le_of_ble_eq_true rfl⟩) (fun r _ H locs hw hP hD hS => ?_)
      obtain rfl := hw
      have hCut := cut_all (S := KT) (w1 := fun (u : KT) => WCt cI cJ cO h u) hP hD hS hA
      refine ca_i (wa := fun (u1 : KT) => WCt cI cJ cO h u1) hCut hS (vx_runSW (As := [.ref h, .int ((pcA v)), .int ((lowI ((v >>> (14 &&& 31))) 10))]) (rest := []) ⟨hx, hb, hml, hown, hts⟩ (c_L_piece l D hst cI cJ cZ cO tD mi h s0 u _ ((pcA v)) ((lowI ((v >>> (14 &&& 31))) 10)) hR) (vx_cwSW 3 hts gL_act_L_piece rfl rfl rfl (by decide +kernel) ⟨Nat.le_of_ble_eq_true rfl, Nat.le_of_ble_eq_true rfl⟩) (hCut.preSW hK hE hT hLS hN hS) rfl rfl hl.1 rfl (lv_room (Nat.le_of_ble_eq_true rfl)) dL_act_645 ⟨Nat.le_of_ble_eq_true rfl, Nat.le_of_ble_eq_true rfl⟩) (fun r645 u1 H locs hw hP hD hS => ?_)
      refine lv_goto (tgt := 658) hx hb dL_act_648 (by decide) ?_
      refine W.widen (k := 6) (n := 134) (by decide) (by decide) ?_
      exact rt_i (S := KT) (post := fun r (w : KT) => ∃ t, ACT s0 v e r t ∧ RCt t w) (Wf := fun w => WCt cI cJ cO h w) u1 hx hb hr hlocks (by rw [eA, if_pos cc, ho]; exact hw) hP hD hS dL_act_658
    · refine lv_iload_n hx hb dL_act_617 rfl (lv_at hl 7 rfl) ?_
      refine lv_iconst (v := 4) hx hb dL_act_618 (by decide) ?_
      refine lv_irem hx hb dL_act_619 (by decide) ?_
      refine lv_iconst (v := 1) hx hb dL_act_620 (by decide) ?_
      refine lv_icmp_ne (tgt := 651) hx hb dL_act_621 (by decide) (fun z => absurd cc z) (fun _ => ?_)
      refine lv_aload_n hx hb dL_act_624 rfl (lv_at hl 5 rfl) ?_
      refine lv_iload hx hb dL_act_625 (lv_at hl 3 rfl) ?_
      refine lv_iload_n hx hb dL_act_627 rfl (lv_at hl 4 rfl) ?_
      refine lv_if_eq (tgt := 636) hx hb dL_act_628 (by decide) (fun z => absurd z (by rw [ho]; decide)) (fun _ => ?_)
      refine lv_iload hx hb dL_act_631 (lv_at hl 0 rfl) ?_
      refine lv_goto (tgt := 645) hx hb dL_act_633 (by decide) ?_
      have hCut := cut_all (S := KT) (w1 := fun (u : KT) => WCt cI cJ cO h u) hP hD hS hA
      refine ca_i (wa := fun (u1 : KT) => WCt cI cJ cO h u1) hCut hS (vx_runSW (As := [.ref h, .int ((pcA v)), .int ((muA v))]) (rest := []) ⟨hx, hb, hml, hown, hts⟩ (c_L_piece l D hst cI cJ cZ cO tD mi h s0 u _ ((pcA v)) ((muA v)) hR) (vx_cwSW 3 hts gL_act_L_piece rfl rfl rfl (by decide +kernel) ⟨Nat.le_of_ble_eq_true rfl, Nat.le_of_ble_eq_true rfl⟩) (hCut.preSW hK hE hT hLS hN hS) rfl rfl hl.1 rfl (lv_room (Nat.le_of_ble_eq_true rfl)) dL_act_645 ⟨Nat.le_of_ble_eq_true rfl, Nat.le_of_ble_eq_true rfl⟩) (fun r645 u1 H locs hw hP hD hS => ?_)
      refine lv_goto (tgt := 658) hx hb dL_act_648 (by decide) ?_
      refine W.widen (k := 6) (n := 134) (by decide) (by decide) ?_
      exact rt_i (S := KT) (post := fun r (w : KT) => ∃ t, ACT s0 v e r t ∧ RCt t w) (Wf := fun w => WCt cI cJ cO h w) u1 hx hb hr hlocks (by rw [eA, if_pos cc, ho]; exact hw) hP hD hS dL_act_658
  · refine lv_iload_n hx hb dL_act_617 rfl (lv_at hl 7 rfl) ?_
    refine lv_iconst (v := 4) hx hb dL_act_618 (by decide) ?_
    refine lv_irem hx hb dL_act_619 (by decide) ?_
    refine lv_iconst (v := 1) hx hb dL_act_620 (by decide) ?_
    refine lv_icmp_ne (tgt := 651) hx hb dL_act_621 (by decide) (fun _ => ?_) (fun z => absurd z cc)
    refine lv_aload_n hx hb dL_act_651 rfl (lv_at hl 5 rfl) ?_
    refine lv_iload hx hb dL_act_652 (lv_at hl 3 rfl) ?_
    refine lv_iconst (v := 0) hx hb dL_act_654 (by decide) ?_
    have hCut := cut_all (S := KT) (w1 := fun (u : KT) => WCt cI cJ cO h u) hP hD hS hA
    refine ca_i (wa := fun (u1 : KT) => WCt cI cJ cO h u1) hCut hS (vx_runSW (As := [.ref h, .int ((pcA v)), .int 0]) (rest := []) ⟨hx, hb, hml, hown, hts⟩ (c_L_history l D hst cI cJ cZ cO tD mi h s0 u _ ((pcA v)) 0 hR) (vx_cwSW 3 hts gL_act_L_history rfl rfl rfl (by decide +kernel) ⟨Nat.le_of_ble_eq_true rfl, Nat.le_of_ble_eq_true rfl⟩) (hCut.preSW hK hE hT hLS hN hS) rfl rfl hl.1 rfl (lv_room (Nat.le_of_ble_eq_true rfl)) dL_act_655 ⟨Nat.le_of_ble_eq_true rfl, Nat.le_of_ble_eq_true rfl⟩) (fun r655 u1 H locs hw hP hD hS => ?_)
    refine W.widen (k := 6) (n := 134) (by decide) (by decide) ?_
    exact rt_i (S := KT) (post := fun r (w : KT) => ∃ t, ACT s0 v e r t ∧ RCt t w) (Wf := fun w => WCt cI cJ cO h w) u1 hx hb hr hlocks (by rw [eA, if_neg cc]; exact hw) hP hD hS dL_act_658
set_option maxHeartbeats 4000000 in
set_option maxRecDepth 100000 in
theorem ka_659 (C : LA p l s m args meth c D cI cJ cZ cO tD mi A) (hR : RCt s0 u) (hP : va_P D vwCl (WCt cI cJ cO h u) H) (hD : va_D A (WCt cI cJ cO h u)) (hS : va_S A s.heap H locs) (hl : lv_has ls 8 [(7, .int ((muA v))), (6, .int ((ceA v))), (5, .int ((otA v))), (4, .int ((pcA v))), (3, .int ((bI (oddB v)))), (0, .ref h), (1, .int v), (2, .int e)]) (eA : ACT s0 v e = (R_floor s0 (lowI (shI v 8) 70) (lowI (shI v 14) 16) (iteB (oddB v) (muA v) (7 + lowI (shI v 17) 11)))) : W p l e9 rm_L_act s m args below meth c H locs 0 0 (MQ below (va_Qi (fun r (w : KT) => ∃ t, ACT s0 v e r t ∧ RCt t w) (fun w t => POST D A (WCt cI cJ cO h w) t) A) args s 6 134 A) (F0 m 659 ls []) := by
  obtain ⟨hx, hb, hr, hml, hown, hts, hlocks, hst, hK, hE, hT, hLS, hN, hA⟩ := C
  cases ho : oddB v
  · refine lv_aload_n hx hb dL_act_659 rfl (lv_at hl 5 rfl) ?_
    refine lv_iload_n hx hb dL_act_660 rfl (lv_at hl 6 rfl) ?_
    refine lv_bipush (v := 8) hx hb dL_act_661 (by decide) ?_
    refine lv_ishr hx hb dL_act_663 ?_
    refine lv_bipush (v := 70) hx hb dL_act_664 (by decide) ?_
    refine ca_i (wa := fun (_ : Unit) => WCt cI cJ cO h u) (cut_nil hP hD hS hA) hS (va_runS (As := [.int ((v >>> (8 &&& 31))), .int 70]) (rest := [.ref h]) ⟨hx, hb, hml, hown, hts⟩ (c_L_low l D cI cJ cZ cO H.size ((v >>> (8 &&& 31))) 70 (fun r => r = lowI ((v >>> (8 &&& 31))) 70) ⟨by decide, rfl⟩) (va_cwS 2 hts gL_act_L_low rfl rfl rfl (by decide +kernel) ⟨Nat.le_of_ble_eq_true rfl, Nat.le_of_ble_eq_true rfl⟩) ((cut_nil hP hD hS hA).preS hK hE) rfl rfl hl.1 rfl (lv_room (Nat.le_of_ble_eq_true rfl)) dL_act_666 ⟨Nat.le_of_ble_eq_true rfl, Nat.le_of_ble_eq_true rfl⟩) (fun r _ H locs hw hP hD hS => ?_)
    obtain rfl := hw
    refine lv_iload_n hx hb dL_act_669 rfl (lv_at hl 6 rfl) ?_
    refine lv_bipush (v := 14) hx hb dL_act_670 (by decide) ?_
    refine lv_ishr hx hb dL_act_672 ?_
    refine lv_bipush (v := 16) hx hb dL_act_673 (by decide) ?_
    refine ca_i (wa := fun (_ : Unit) => WCt cI cJ cO h u) (cut_nil hP hD hS hA) hS (va_runS (As := [.int ((v >>> (14 &&& 31))), .int 16]) (rest := [.int ((lowI ((v >>> (8 &&& 31))) 70)), .ref h]) ⟨hx, hb, hml, hown, hts⟩ (c_L_low l D cI cJ cZ cO H.size ((v >>> (14 &&& 31))) 16 (fun r => r = lowI ((v >>> (14 &&& 31))) 16) ⟨by decide, rfl⟩) (va_cwS 2 hts gL_act_L_low rfl rfl rfl (by decide +kernel) ⟨Nat.le_of_ble_eq_true rfl, Nat.le_of_ble_eq_true rfl⟩) ((cut_nil hP hD hS hA).preS hK hE) rfl rfl hl.1 rfl (lv_room (Nat.le_of_ble_eq_true rfl)) dL_act_675 ⟨Nat.le_of_ble_eq_true rfl, Nat.le_of_ble_eq_true rfl⟩) (fun r _ H locs hw hP hD hS => ?_)
    obtain rfl := hw
    refine lv_iload_n hx hb dL_act_678 rfl (lv_at hl 4 rfl) ?_
    refine lv_if_eq (tgt := 687) hx hb dL_act_679 (by decide) (fun _ => ?_) (fun z => absurd z (by rw [ho]; decide))
    refine lv_bipush (v := 7) hx hb dL_act_687 (by decide) ?_
    refine lv_iload_n hx hb dL_act_689 rfl (lv_at hl 6 rfl) ?_
    refine lv_bipush (v := 17) hx hb dL_act_690 (by decide) ?_
    refine lv_ishr hx hb dL_act_692 ?_
    refine lv_bipush (v := 11) hx hb dL_act_693 (by decide) ?_
    refine ca_i (wa := fun (_ : Unit) => WCt cI cJ cO h u) (cut_nil hP hD hS hA) hS (va_runS (As := [.int ((v >>> (17 &&& 31))), .int 11]) (rest := [.int 7, .int ((lowI ((v >>> (14 &&& 31))) 16)), .int ((lowI ((v >>> (8 &&& 31))) 70)), .ref h]) ⟨hx, hb, hml, hown, hts⟩ (c_L_low l D cI cJ cZ cO H.size ((v >>> (17 &&& 31))) 11 (fun r => r = lowI ((v >>> (17 &&& 31))) 11) ⟨by decide, rfl⟩) (va_cwS 2 hts gL_act_L_low rfl rfl rfl (by decide +kernel) ⟨Nat.le_of_ble_eq_true rfl, Nat.le_of_ble_eq_true rfl⟩) ((cut_nil hP hD hS hA).preS hK hE) rfl rfl hl.1 rfl (lv_room (Nat.le_of_ble_eq_true rfl)) dL_act_695 ⟨Nat.le_of_ble_eq_true rfl, Nat.le_of_ble_eq_true rfl⟩) (fun r _ H locs hw hP hD hS => ?_)
    obtain rfl := hw
    refine lv_iadd hx hb dL_act_698 ?_
    have hCut := cut_all (S := KT) (w1 := fun (u : KT) => WCt cI cJ cO h u) hP hD hS hA
    refine ca_i (wa := fun (u1 : KT) => WCt cI cJ cO h u1) hCut hS (vx_runSW (As := [.ref h, .int ((lowI ((v >>> (8 &&& 31))) 70)), .int ((lowI ((v >>> (14 &&& 31))) 16)), .int (((7 : Int32) + (lowI ((v >>> (17 &&& 31))) 11)))]) (rest := []) ⟨hx, hb, hml, hown, hts⟩ (c_L_floor l D hst cI cJ cZ cO tD mi h s0 u _ ((lowI ((v >>> (8 &&& 31))) 70)) ((lowI ((v >>> (14 &&& 31))) 16)) (((7 : Int32) + (lowI ((v >>> (17 &&& 31))) 11))) hR) (vx_cwSW 4 hts gL_act_L_floor rfl rfl rfl (by decide +kernel) ⟨Nat.le_of_ble_eq_true rfl, Nat.le_of_ble_eq_true rfl⟩) (hCut.preSW hK hE hT hLS hN hS) rfl rfl hl.1 rfl (lv_room (Nat.le_of_ble_eq_true rfl)) dL_act_699 ⟨Nat.le_of_ble_eq_true rfl, Nat.le_of_ble_eq_true rfl⟩) (fun r699 u1 H locs hw hP hD hS => ?_)
    refine W.widen (k := 6) (n := 134) (by decide) (by decide) ?_
    exact rt_i (S := KT) (post := fun r (w : KT) => ∃ t, ACT s0 v e r t ∧ RCt t w) (Wf := fun w => WCt cI cJ cO h w) u1 hx hb hr hlocks (by rw [eA, ho]; exact hw) hP hD hS dL_act_702
  · refine lv_aload_n hx hb dL_act_659 rfl (lv_at hl 5 rfl) ?_
    refine lv_iload_n hx hb dL_act_660 rfl (lv_at hl 6 rfl) ?_
    refine lv_bipush (v := 8) hx hb dL_act_661 (by decide) ?_
    refine lv_ishr hx hb dL_act_663 ?_
    refine lv_bipush (v := 70) hx hb dL_act_664 (by decide) ?_
    refine ca_i (wa := fun (_ : Unit) => WCt cI cJ cO h u) (cut_nil hP hD hS hA) hS (va_runS (As := [.int ((v >>> (8 &&& 31))), .int 70]) (rest := [.ref h]) ⟨hx, hb, hml, hown, hts⟩ (c_L_low l D cI cJ cZ cO H.size ((v >>> (8 &&& 31))) 70 (fun r => r = lowI ((v >>> (8 &&& 31))) 70) ⟨by decide, rfl⟩) (va_cwS 2 hts gL_act_L_low rfl rfl rfl (by decide +kernel) ⟨Nat.le_of_ble_eq_true rfl, Nat.le_of_ble_eq_true rfl⟩) ((cut_nil hP hD hS hA).preS hK hE) rfl rfl hl.1 rfl (lv_room (Nat.le_of_ble_eq_true rfl)) dL_act_666 ⟨Nat.le_of_ble_eq_true rfl, Nat.le_of_ble_eq_true rfl⟩) (fun r _ H locs hw hP hD hS => ?_)
    obtain rfl := hw
    refine lv_iload_n hx hb dL_act_669 rfl (lv_at hl 6 rfl) ?_
    refine lv_bipush (v := 14) hx hb dL_act_670 (by decide) ?_
    refine lv_ishr hx hb dL_act_672 ?_
    refine lv_bipush (v := 16) hx hb dL_act_673 (by decide) ?_
    refine ca_i (wa := fun (_ : Unit) => WCt cI cJ cO h u) (cut_nil hP hD hS hA) hS (va_runS (As := [.int ((v >>> (14 &&& 31))), .int 16]) (rest := [.int ((lowI ((v >>> (8 &&& 31))) 70)), .ref h]) ⟨hx, hb, hml, hown, hts⟩ (c_L_low l D cI cJ cZ cO H.size ((v >>> (14 &&& 31))) 16 (fun r => r = lowI ((v >>> (14 &&& 31))) 16) ⟨by decide, rfl⟩) (va_cwS 2 hts gL_act_L_low rfl rfl rfl (by decide +kernel) ⟨Nat.le_of_ble_eq_true rfl, Nat.le_of_ble_eq_true rfl⟩) ((cut_nil hP hD hS hA).preS hK hE) rfl rfl hl.1 rfl (lv_room (Nat.le_of_ble_eq_true rfl)) dL_act_675 ⟨Nat.le_of_ble_eq_true rfl, Nat.le_of_ble_eq_true rfl⟩) (fun r _ H locs hw hP hD hS => ?_)
    obtain rfl := hw
    refine lv_iload_n hx hb dL_act_678 rfl (lv_at hl 4 rfl) ?_
    refine lv_if_eq (tgt := 687) hx hb dL_act_679 (by decide) (fun z => absurd z (by rw [ho]; decide)) (fun _ => ?_)
    refine lv_iload hx hb dL_act_682 (lv_at hl 0 rfl) ?_
    refine lv_goto (tgt := 699) hx hb dL_act_684 (by decide) ?_
    have hCut := cut_all (S := KT) (w1 := fun (u : KT) => WCt cI cJ cO h u) hP hD hS hA
    refine ca_i (wa := fun (u1 : KT) => WCt cI cJ cO h u1) hCut hS (vx_runSW (As := [.ref h, .int ((lowI ((v >>> (8 &&& 31))) 70)), .int ((lowI ((v >>> (14 &&& 31))) 16)), .int ((muA v))]) (rest := []) ⟨hx, hb, hml, hown, hts⟩ (c_L_floor l D hst cI cJ cZ cO tD mi h s0 u _ ((lowI ((v >>> (8 &&& 31))) 70)) ((lowI ((v >>> (14 &&& 31))) 16)) ((muA v)) hR) (vx_cwSW 4 hts gL_act_L_floor rfl rfl rfl (by decide +kernel) ⟨Nat.le_of_ble_eq_true rfl, Nat.le_of_ble_eq_true rfl⟩) (hCut.preSW hK hE hT hLS hN hS) rfl rfl hl.1 rfl (lv_room (Nat.le_of_ble_eq_true rfl)) dL_act_699 ⟨Nat.le_of_ble_eq_true rfl, Nat.le_of_ble_eq_true rfl⟩) (fun r699 u1 H locs hw hP hD hS => ?_)
    refine W.widen (k := 6) (n := 134) (by decide) (by decide) ?_
    exact rt_i (S := KT) (post := fun r (w : KT) => ∃ t, ACT s0 v e r t ∧ RCt t w) (Wf := fun w => WCt cI cJ cO h w) u1 hx hb hr hlocks (by rw [eA, ho]; exact hw) hP hD hS dL_act_702
set_option maxHeartbeats 4000000 in
set_option maxRecDepth 100000 in
theorem c_L_act (l : Launch) (D : va_G) (hst : l.stackTraces = false) (cI cJ cZ cO : ClassId) (tD mi h : Nat) (s0 : SG) (u : KT) (sz : Nat) (v e : Int32) (hR : RCt s0 u) : Met l yL_act wsL_act rm_L_act (va_Pc [.ref h, .int v, .int e] (PREW tD mi D cI cJ cZ cO (WCt cI cJ cO h u) sz)) (va_Qi (fun r (w : KT) => ∃ t, ACT s0 v e r t ∧ RCt t w) (fun w t => POST D (va_A (WCt cI cJ cO h u) sz) (WCt cI cJ cO h w) t) (va_A (WCt cI cJ cO h u) sz)) 6 134 (va_A (WCt cI cJ cO h u) sz) := by
  refine met_goA (cc := cL_act) (maxL := 8) (ret := some .int) RL rfl (by decide) rfl (Nat.le_of_ble_eq_true rfl) ?_
  intro p e9 s m args below meth c ls hx hb hr hts hown hlocks hml hP hK hE hT hLS hN hD hA hS hl
  generalize va_A (WCt cI cJ cO h u) sz = A at hD hA hS hT hLS ⊢
  have C : LA p l s m args meth c D cI cJ cZ cO tD mi A := ⟨hx, hb, hr, hml, hown, hts, hlocks, hst, hK, hE, hT, hLS, hN, hA⟩
  have hl : lv_has ls 8 [(0, .ref h), (1, .int v), (2, .int e)] := hl
  have K : ∀ (H : Heap) (locs : List Loc) (ls : Array Slot), va_P D vwCl (WCt cI cJ cO h u) H → va_D A (WCt cI cJ cO h u) → va_S A s.heap H locs → lv_has ls 8 [(7, .int ((muA v))), (6, .int ((ceA v))), (5, .int ((otA v))), (4, .int ((pcA v))), (3, .int ((bI (oddB v)))), (0, .ref h), (1, .int v), (2, .int e)] → W p l e9 rm_L_act s m args below meth c H locs 0 0 (MQ below (va_Qi (fun r (w : KT) => ∃ t, ACT s0 v e r t ∧ RCt t w) (fun w t => POST D A (WCt cI cJ cO h w) t) A) args s 6 134 A) (F0 m 117 ls []) := by
    intro H locs ls hP hD hS hl
    refine lv_iload_n hx hb dL_act_117 rfl (lv_at hl 6 rfl) ?_
    refine lv_bipush (v := 32) hx hb dL_act_118 (by decide) ?_
    refine ca_i (wa := fun (_ : Unit) => WCt cI cJ cO h u) (cut_nil hP hD hS hA) hS (va_runS (As := [.int v, .int 32]) (rest := []) ⟨hx, hb, hml, hown, hts⟩ (c_L_low l D cI cJ cZ cO H.size v 32 (fun r => r = lowI v 32) ⟨by decide, rfl⟩) (va_cwS 2 hts gL_act_L_low rfl rfl rfl (by decide +kernel) ⟨Nat.le_of_ble_eq_true rfl, Nat.le_of_ble_eq_true rfl⟩) ((cut_nil hP hD hS hA).preS hK hE) rfl rfl hl.1 rfl (lv_room (Nat.le_of_ble_eq_true rfl)) dL_act_120 ⟨Nat.le_of_ble_eq_true rfl, Nat.le_of_ble_eq_true rfl⟩) (fun r _ H locs hw hP hD hS => ?_)
    obtain rfl := hw
    obtain ⟨j, hj, ej⟩ := low_32 v
    rw [ej]
    have hj32 : j = 0 ∨ j = 1 ∨ j = 2 ∨ j = 3 ∨ j = 4 ∨ j = 5 ∨ j = 6 ∨ j = 7 ∨ j = 8 ∨ j = 9 ∨ j = 10 ∨ j = 11 ∨ j = 12 ∨ j = 13 ∨ j = 14 ∨ j = 15 ∨ j = 16 ∨ j = 17 ∨ j = 18 ∨ j = 19 ∨ j = 20 ∨ j = 21 ∨ j = 22 ∨ j = 23 ∨ j = 24 ∨ j = 25 ∨ j = 26 ∨ j = 27 ∨ j = 28 ∨ j = 29 ∨ j = 30 ∨ j = 31 := by omega
    rcases hj32 with rfl | rfl | rfl | rfl | rfl | rfl | rfl | rfl | rfl | rfl | rfl | rfl | rfl | rfl | rfl | rfl | rfl | rfl | rfl | rfl | rfl | rfl | rfl | rfl | rfl | rfl | rfl | rfl | rfl | rfl | rfl | rfl
    · refine lv_tableIn (off := 121) (tgt := 244) hx hb dL_act_123 (by decide) (by decide) (by decide) (by decide) ?_
      exact ka_244 C hR hP hD hS hl ((ACT_at (by omega) ej).trans (aN_0 s0 v e))
    · refine lv_tableIn (off := 121) (tgt := 244) hx hb dL_act_123 (by decide) (by decide) (by decide) (by decide) ?_
      exact ka_244 C hR hP hD hS hl ((ACT_at (by omega) ej).trans (aN_1 s0 v e))
    · refine lv_tableIn (off := 121) (tgt := 244) hx hb dL_act_123 (by decide) (by decide) (by decide) (by decide) ?_
      exact ka_244 C hR hP hD hS hl ((ACT_at (by omega) ej).trans (aN_2 s0 v e))
    · refine lv_tableIn (off := 121) (tgt := 244) hx hb dL_act_123 (by decide) (by decide) (by decide) (by decide) ?_
      exact ka_244 C hR hP hD hS hl ((ACT_at (by omega) ej).trans (aN_3 s0 v e))
    · refine lv_tableIn (off := 121) (tgt := 244) hx hb dL_act_123 (by decide) (by decide) (by decide) (by decide) ?_
      exact ka_244 C hR hP hD hS hl ((ACT_at (by omega) ej).trans (aN_4 s0 v e))
    · refine lv_tableIn (off := 146) (tgt := 269) hx hb dL_act_123 (by decide) (by decide) (by decide) (by decide) ?_
      exact ka_269 C hR hP hD hS hl ((ACT_at (by omega) ej).trans (aN_5 s0 v e))
    · refine lv_tableIn (off := 146) (tgt := 269) hx hb dL_act_123 (by decide) (by decide) (by decide) (by decide) ?_
      exact ka_269 C hR hP hD hS hl ((ACT_at (by omega) ej).trans (aN_6 s0 v e))
    · refine lv_tableIn (off := 146) (tgt := 269) hx hb dL_act_123 (by decide) (by decide) (by decide) (by decide) ?_
      exact ka_269 C hR hP hD hS hl ((ACT_at (by omega) ej).trans (aN_7 s0 v e))
    · refine lv_tableIn (off := 146) (tgt := 269) hx hb dL_act_123 (by decide) (by decide) (by decide) (by decide) ?_
      exact ka_269 C hR hP hD hS hl ((ACT_at (by omega) ej).trans (aN_8 s0 v e))
    · refine lv_tableIn (off := 155) (tgt := 278) hx hb dL_act_123 (by decide) (by decide) (by decide) (by decide) ?_
      exact ka_278 C hR hP hD hS hl ((ACT_at (by omega) ej).trans (aN_9 s0 v e))
    · refine lv_tableIn (off := 164) (tgt := 287) hx hb dL_act_123 (by decide) (by decide) (by decide) (by decide) ?_
      exact ka_287 C hR hP hD hS hl ((ACT_at (by omega) ej).trans (aN_10 s0 v e))
    · refine lv_tableIn (off := 164) (tgt := 287) hx hb dL_act_123 (by decide) (by decide) (by decide) (by decide) ?_
      exact ka_287 C hR hP hD hS hl ((ACT_at (by omega) ej).trans (aN_11 s0 v e))
    · refine lv_tableIn (off := 173) (tgt := 296) hx hb dL_act_123 (by decide) (by decide) (by decide) (by decide) ?_
      exact ka_296 C hR hP hD hS hl ((ACT_at (by omega) ej).trans (aN_12 s0 v e))
    · refine lv_tableIn (off := 216) (tgt := 339) hx hb dL_act_123 (by decide) (by decide) (by decide) (by decide) ?_
      exact ka_339 C hR hP hD hS hl ((ACT_at (by omega) ej).trans (aN_13 s0 v e))
    · refine lv_tableIn (off := 241) (tgt := 364) hx hb dL_act_123 (by decide) (by decide) (by decide) (by decide) ?_
      exact ka_364 C hR hP hD hS hl ((ACT_at (by omega) ej).trans (aN_14 s0 v e))
    · refine lv_tableIn (off := 264) (tgt := 387) hx hb dL_act_123 (by decide) (by decide) (by decide) (by decide) ?_
      exact ka_387 C hR hP hD hS hl ((ACT_at (by omega) ej).trans (aN_15 s0 v e))
    · refine lv_tableIn (off := 264) (tgt := 387) hx hb dL_act_123 (by decide) (by decide) (by decide) (by decide) ?_
      exact ka_387 C hR hP hD hS hl ((ACT_at (by omega) ej).trans (aN_16 s0 v e))
    · refine lv_tableIn (off := 294) (tgt := 417) hx hb dL_act_123 (by decide) (by decide) (by decide) (by decide) ?_
      exact ka_417 C hR hP hD hS hl ((ACT_at (by omega) ej).trans (aN_17 s0 v e))
    · refine lv_tableIn (off := 324) (tgt := 447) hx hb dL_act_123 (by decide) (by decide) (by decide) (by decide) ?_
      exact ka_447 C hR hP hD hS hl ((ACT_at (by omega) ej).trans (aN_18 s0 v e))
    · refine lv_tableIn (off := 324) (tgt := 447) hx hb dL_act_123 (by decide) (by decide) (by decide) (by decide) ?_
      exact ka_447 C hR hP hD hS hl ((ACT_at (by omega) ej).trans (aN_19 s0 v e))
    · refine lv_tableIn (off := 331) (tgt := 454) hx hb dL_act_123 (by decide) (by decide) (by decide) (by decide) ?_
      exact ka_454 C hR hP hD hS hl ((ACT_at (by omega) ej).trans (aN_20 s0 v e))
    · refine lv_tableIn (off := 338) (tgt := 461) hx hb dL_act_123 (by decide) (by decide) (by decide) (by decide) ?_
      exact ka_461 C hR hP hD hS hl ((ACT_at (by omega) ej).trans (aN_21 s0 v e))
    · refine lv_tableIn (off := 347) (tgt := 470) hx hb dL_act_123 (by decide) (by decide) (by decide) (by decide) ?_
      exact ka_470 C hR hP hD hS hl ((ACT_at (by omega) ej).trans (aN_22 s0 v e))
    · refine lv_tableIn (off := 372) (tgt := 495) hx hb dL_act_123 (by decide) (by decide) (by decide) (by decide) ?_
      exact ka_495 C hR hP hD hS hl ((ACT_at (by omega) ej).trans (aN_23 s0 v e))
    · refine lv_tableIn (off := 414) (tgt := 537) hx hb dL_act_123 (by decide) (by decide) (by decide) (by decide) ?_
      exact ka_537 C hR hP hD hS hl ((ACT_at (by omega) ej).trans (aN_24 s0 v e))
    · refine lv_tableIn (off := 454) (tgt := 577) hx hb dL_act_123 (by decide) (by decide) (by decide) (by decide) ?_
      exact ka_577 C hR hP hD hS hl ((ACT_at (by omega) ej).trans (aN_25 s0 v e))
    · refine lv_tableIn (off := 494) (tgt := 617) hx hb dL_act_123 (by decide) (by decide) (by decide) (by decide) ?_
      exact ka_617 C hR hP hD hS hl ((ACT_at (by omega) ej).trans (aN_26 s0 v e))
    · refine lv_tableOut (tgt := 659) hx hb dL_act_123 (by decide) (by decide) ?_
      exact ka_659 C hR hP hD hS hl ((ACT_at (by omega) ej).trans (aN_27 s0 v e))
    · refine lv_tableOut (tgt := 659) hx hb dL_act_123 (by decide) (by decide) ?_
      exact ka_659 C hR hP hD hS hl ((ACT_at (by omega) ej).trans (aN_28 s0 v e))
    · refine lv_tableOut (tgt := 659) hx hb dL_act_123 (by decide) (by decide) ?_
      exact ka_659 C hR hP hD hS hl ((ACT_at (by omega) ej).trans (aN_29 s0 v e))
    · refine lv_tableOut (tgt := 659) hx hb dL_act_123 (by decide) (by decide) ?_
      exact ka_659 C hR hP hD hS hl ((ACT_at (by omega) ej).trans (aN_30 s0 v e))
    · refine lv_tableOut (tgt := 659) hx hb dL_act_123 (by decide) (by decide) ?_
      exact ka_659 C hR hP hD hS hl ((ACT_at (by omega) ej).trans (aN_31 s0 v e))
  cases ho : oddB v
  · have hodd : ¬ lowI (v >>> (26 &&& 31)) 14 = 0 := of_decide_eq_false ho
    refine lv_iload_n hx hb dL_act_0 rfl (lv_at hl 1 rfl) ?_
    refine lv_bipush (v := 26) hx hb dL_act_1 (by decide) ?_
    refine lv_ishr hx hb dL_act_3 ?_
    refine lv_bipush (v := 14) hx hb dL_act_4 (by decide) ?_
    refine ca_i (wa := fun (_ : Unit) => WCt cI cJ cO h u) (cut_nil hP hD hS hA) hS (va_runS (As := [.int ((v >>> (26 &&& 31))), .int 14]) (rest := []) ⟨hx, hb, hml, hown, hts⟩ (c_L_low l D cI cJ cZ cO s.heap.size ((v >>> (26 &&& 31))) 14 (fun r => r = lowI ((v >>> (26 &&& 31))) 14) ⟨by decide, rfl⟩) (va_cwS 2 hts gL_act_L_low rfl rfl rfl (by decide +kernel) ⟨Nat.le_of_ble_eq_true rfl, Nat.le_of_ble_eq_true rfl⟩) ((cut_nil hP hD hS hA).preS hK hE) rfl rfl hl.1 rfl (lv_room (Nat.le_of_ble_eq_true rfl)) dL_act_6 ⟨Nat.le_of_ble_eq_true rfl, Nat.le_of_ble_eq_true rfl⟩) (fun r _ H locs hw hP hD hS => ?_)
    obtain rfl := hw
    refine lv_if_ne (tgt := 16) hx hb dL_act_9 (by decide) (fun _ => ?_) (fun z => absurd z hodd)
    refine lv_iconst (v := 0) hx hb dL_act_16 (by decide) ?_
    refine lv_istore_n (lv' := [(3, .int 0), (0, .ref h), (1, .int v), (2, .int e)]) hx hb dL_act_17 rfl hl (by decide) rfl (fun ls hl => ?_)
    refine lv_iload_n hx hb dL_act_18 rfl (lv_at hl 0 rfl) ?_
    refine lv_if_eq (tgt := 35) hx hb dL_act_19 (by decide) (fun _ => ?_) (fun z => absurd z (by decide))
    refine lv_iload_n hx hb dL_act_35 rfl (lv_at hl 2 rfl) ?_
    refine lv_iconst (v := 5) hx hb dL_act_36 (by decide) ?_
    refine lv_ishr hx hb dL_act_37 ?_
    refine lv_iconst (v := 5) hx hb dL_act_38 (by decide) ?_
    refine ca_i (wa := fun (_ : Unit) => WCt cI cJ cO h u) (cut_nil hP hD hS hA) hS (va_runS (As := [.int ((v >>> (5 &&& 31))), .int 5]) (rest := []) ⟨hx, hb, hml, hown, hts⟩ (c_L_low l D cI cJ cZ cO H.size ((v >>> (5 &&& 31))) 5 (fun r => r = lowI ((v >>> (5 &&& 31))) 5) ⟨by decide, rfl⟩) (va_cwS 2 hts gL_act_L_low rfl rfl rfl (by decide +kernel) ⟨Nat.le_of_ble_eq_true rfl, Nat.le_of_ble_eq_true rfl⟩) ((cut_nil hP hD hS hA).preS hK hE) rfl rfl hl.1 rfl (lv_room (Nat.le_of_ble_eq_true rfl)) dL_act_39 ⟨Nat.le_of_ble_eq_true rfl, Nat.le_of_ble_eq_true rfl⟩) (fun r _ H locs hw hP hD hS => ?_)
    obtain rfl := hw
    refine lv_istore (lv' := [(4, .int ((lowI ((v >>> (5 &&& 31))) 5))), (3, .int 0), (0, .ref h), (1, .int v), (2, .int e)]) hx hb dL_act_42 hl (by decide) rfl (fun ls hl => ?_)
    refine lv_iload_n hx hb dL_act_44 rfl (lv_at hl 1 rfl) ?_
    refine lv_if_eq (tgt := 62) hx hb dL_act_45 (by decide) (fun _ => ?_) (fun z => absurd z (by decide))
    refine lv_iload_n hx hb dL_act_62 rfl (lv_at hl 3 rfl) ?_
    refine lv_bipush (v := 11) hx hb dL_act_63 (by decide) ?_
    refine lv_ishr hx hb dL_act_65 ?_
    refine lv_iconst (v := 5) hx hb dL_act_66 (by decide) ?_
    refine ca_i (wa := fun (_ : Unit) => WCt cI cJ cO h u) (cut_nil hP hD hS hA) hS (va_runS (As := [.int ((v >>> (11 &&& 31))), .int 5]) (rest := []) ⟨hx, hb, hml, hown, hts⟩ (c_L_low l D cI cJ cZ cO H.size ((v >>> (11 &&& 31))) 5 (fun r => r = lowI ((v >>> (11 &&& 31))) 5) ⟨by decide, rfl⟩) (va_cwS 2 hts gL_act_L_low rfl rfl rfl (by decide +kernel) ⟨Nat.le_of_ble_eq_true rfl, Nat.le_of_ble_eq_true rfl⟩) ((cut_nil hP hD hS hA).preS hK hE) rfl rfl hl.1 rfl (lv_room (Nat.le_of_ble_eq_true rfl)) dL_act_67 ⟨Nat.le_of_ble_eq_true rfl, Nat.le_of_ble_eq_true rfl⟩) (fun r _ H locs hw hP hD hS => ?_)
    obtain rfl := hw
    refine lv_istore (lv' := [(5, .int ((lowI ((v >>> (11 &&& 31))) 5))), (4, .int ((lowI ((v >>> (5 &&& 31))) 5))), (3, .int 0), (0, .ref h), (1, .int v), (2, .int e)]) hx hb dL_act_70 hl (by decide) rfl (fun ls hl => ?_)
    refine lv_iload_n hx hb dL_act_72 rfl (lv_at hl 2 rfl) ?_
    refine lv_if_eq (tgt := 83) hx hb dL_act_73 (by decide) (fun _ => ?_) (fun z => absurd z (by decide))
    refine lv_iload_n hx hb dL_act_83 rfl (lv_at hl 4 rfl) ?_
    refine lv_bipush (v := 8) hx hb dL_act_84 (by decide) ?_
    refine lv_ishr hx hb dL_act_86 ?_
    refine lv_sipush (v := 256) hx hb dL_act_87 (by decide) ?_
    refine ca_i (wa := fun (_ : Unit) => WCt cI cJ cO h u) (cut_nil hP hD hS hA) hS (va_runS (As := [.int ((v >>> (8 &&& 31))), .int 256]) (rest := []) ⟨hx, hb, hml, hown, hts⟩ (c_L_low l D cI cJ cZ cO H.size ((v >>> (8 &&& 31))) 256 (fun r => r = lowI ((v >>> (8 &&& 31))) 256) ⟨by decide, rfl⟩) (va_cwS 2 hts gL_act_L_low rfl rfl rfl (by decide +kernel) ⟨Nat.le_of_ble_eq_true rfl, Nat.le_of_ble_eq_true rfl⟩) ((cut_nil hP hD hS hA).preS hK hE) rfl rfl hl.1 rfl (lv_room (Nat.le_of_ble_eq_true rfl)) dL_act_90 ⟨Nat.le_of_ble_eq_true rfl, Nat.le_of_ble_eq_true rfl⟩) (fun r _ H locs hw hP hD hS => ?_)
    obtain rfl := hw
    refine lv_istore (lv' := [(6, .int ((lowI ((v >>> (8 &&& 31))) 256))), (5, .int ((lowI ((v >>> (11 &&& 31))) 5))), (4, .int ((lowI ((v >>> (5 &&& 31))) 5))), (3, .int 0), (0, .ref h), (1, .int v), (2, .int e)]) hx hb dL_act_93 hl (by decide) rfl (fun ls hl => ?_)
    refine lv_iload_n hx hb dL_act_95 rfl (lv_at hl 3 rfl) ?_
    refine lv_if_eq (tgt := 106) hx hb dL_act_96 (by decide) (fun _ => ?_) (fun z => absurd z (by decide))
    refine lv_iload_n hx hb dL_act_106 rfl (lv_at hl 5 rfl) ?_
    refine lv_bipush (v := 14) hx hb dL_act_107 (by decide) ?_
    refine lv_ishr hx hb dL_act_109 ?_
    refine lv_bipush (v := 8) hx hb dL_act_110 (by decide) ?_
    refine ca_i (wa := fun (_ : Unit) => WCt cI cJ cO h u) (cut_nil hP hD hS hA) hS (va_runS (As := [.int ((v >>> (14 &&& 31))), .int 8]) (rest := []) ⟨hx, hb, hml, hown, hts⟩ (c_L_low l D cI cJ cZ cO H.size ((v >>> (14 &&& 31))) 8 (fun r => r = lowI ((v >>> (14 &&& 31))) 8) ⟨by decide, rfl⟩) (va_cwS 2 hts gL_act_L_low rfl rfl rfl (by decide +kernel) ⟨Nat.le_of_ble_eq_true rfl, Nat.le_of_ble_eq_true rfl⟩) ((cut_nil hP hD hS hA).preS hK hE) rfl rfl hl.1 rfl (lv_room (Nat.le_of_ble_eq_true rfl)) dL_act_112 ⟨Nat.le_of_ble_eq_true rfl, Nat.le_of_ble_eq_true rfl⟩) (fun r _ H locs hw hP hD hS => ?_)
    obtain rfl := hw
    refine lv_istore (lv' := [(7, .int ((lowI ((v >>> (14 &&& 31))) 8))), (6, .int ((lowI ((v >>> (8 &&& 31))) 256))), (5, .int ((lowI ((v >>> (11 &&& 31))) 5))), (4, .int ((lowI ((v >>> (5 &&& 31))) 5))), (3, .int 0), (0, .ref h), (1, .int v), (2, .int e)]) hx hb dL_act_115 hl (by decide) rfl (fun ls hl => ?_)
    exact K _ _ _ hP hD hS (by rw [show muA v = (lowI ((v >>> (14 &&& 31))) 8) from congrArg (fun b => iteB b (shI v 14) (lowI (shI v 14) 8)) ho, show ceA v = (lowI ((v >>> (8 &&& 31))) 256) from congrArg (fun b => iteB b (shI v 8) (lowI (shI v 8) 256)) ho, show otA v = (lowI ((v >>> (11 &&& 31))) 5) from congrArg (fun b => iteB b (lowI (shI v 11) 64 - 2) (lowI (shI v 11) 5)) ho, show pcA v = (lowI ((v >>> (5 &&& 31))) 5) from congrArg (fun b => iteB b (lowI (shI v 5) 64 - 2) (lowI (shI v 5) 5)) ho, ho]; exact lv_sub hl [0, 1, 2, 3, 4, 5, 6, 7] rfl)
  · have hodd : lowI (v >>> (26 &&& 31)) 14 = 0 := of_decide_eq_true ho
    refine lv_iload_n hx hb dL_act_0 rfl (lv_at hl 1 rfl) ?_
    refine lv_bipush (v := 26) hx hb dL_act_1 (by decide) ?_
    refine lv_ishr hx hb dL_act_3 ?_
    refine lv_bipush (v := 14) hx hb dL_act_4 (by decide) ?_
    refine ca_i (wa := fun (_ : Unit) => WCt cI cJ cO h u) (cut_nil hP hD hS hA) hS (va_runS (As := [.int ((v >>> (26 &&& 31))), .int 14]) (rest := []) ⟨hx, hb, hml, hown, hts⟩ (c_L_low l D cI cJ cZ cO s.heap.size ((v >>> (26 &&& 31))) 14 (fun r => r = lowI ((v >>> (26 &&& 31))) 14) ⟨by decide, rfl⟩) (va_cwS 2 hts gL_act_L_low rfl rfl rfl (by decide +kernel) ⟨Nat.le_of_ble_eq_true rfl, Nat.le_of_ble_eq_true rfl⟩) ((cut_nil hP hD hS hA).preS hK hE) rfl rfl hl.1 rfl (lv_room (Nat.le_of_ble_eq_true rfl)) dL_act_6 ⟨Nat.le_of_ble_eq_true rfl, Nat.le_of_ble_eq_true rfl⟩) (fun r _ H locs hw hP hD hS => ?_)
    obtain rfl := hw
    refine lv_if_ne (tgt := 16) hx hb dL_act_9 (by decide) (fun z => absurd hodd z) (fun _ => ?_)
    refine lv_iconst (v := 1) hx hb dL_act_12 (by decide) ?_
    refine lv_goto (tgt := 17) hx hb dL_act_13 (by decide) ?_
    refine lv_istore_n (lv' := [(3, .int 1), (0, .ref h), (1, .int v), (2, .int e)]) hx hb dL_act_17 rfl hl (by decide) rfl (fun ls hl => ?_)
    refine lv_iload_n hx hb dL_act_18 rfl (lv_at hl 0 rfl) ?_
    refine lv_if_eq (tgt := 35) hx hb dL_act_19 (by decide) (fun z => absurd z (by decide)) (fun _ => ?_)
    refine lv_iload_n hx hb dL_act_22 rfl (lv_at hl 2 rfl) ?_
    refine lv_iconst (v := 5) hx hb dL_act_23 (by decide) ?_
    refine lv_ishr hx hb dL_act_24 ?_
    refine lv_bipush (v := 64) hx hb dL_act_25 (by decide) ?_
    refine ca_i (wa := fun (_ : Unit) => WCt cI cJ cO h u) (cut_nil hP hD hS hA) hS (va_runS (As := [.int ((v >>> (5 &&& 31))), .int 64]) (rest := []) ⟨hx, hb, hml, hown, hts⟩ (c_L_low l D cI cJ cZ cO H.size ((v >>> (5 &&& 31))) 64 (fun r => r = lowI ((v >>> (5 &&& 31))) 64) ⟨by decide, rfl⟩) (va_cwS 2 hts gL_act_L_low rfl rfl rfl (by decide +kernel) ⟨Nat.le_of_ble_eq_true rfl, Nat.le_of_ble_eq_true rfl⟩) ((cut_nil hP hD hS hA).preS hK hE) rfl rfl hl.1 rfl (lv_room (Nat.le_of_ble_eq_true rfl)) dL_act_27 ⟨Nat.le_of_ble_eq_true rfl, Nat.le_of_ble_eq_true rfl⟩) (fun r _ H locs hw hP hD hS => ?_)
    obtain rfl := hw
    refine lv_iconst (v := 2) hx hb dL_act_30 (by decide) ?_
    refine lv_isub hx hb dL_act_31 ?_
    refine lv_goto (tgt := 42) hx hb dL_act_32 (by decide) ?_
    refine lv_istore (lv' := [(4, .int (((lowI ((v >>> (5 &&& 31))) 64) - 2))), (3, .int 1), (0, .ref h), (1, .int v), (2, .int e)]) hx hb dL_act_42 hl (by decide) rfl (fun ls hl => ?_)
    refine lv_iload_n hx hb dL_act_44 rfl (lv_at hl 1 rfl) ?_
    refine lv_if_eq (tgt := 62) hx hb dL_act_45 (by decide) (fun z => absurd z (by decide)) (fun _ => ?_)
    refine lv_iload_n hx hb dL_act_48 rfl (lv_at hl 3 rfl) ?_
    refine lv_bipush (v := 11) hx hb dL_act_49 (by decide) ?_
    refine lv_ishr hx hb dL_act_51 ?_
    refine lv_bipush (v := 64) hx hb dL_act_52 (by decide) ?_
    refine ca_i (wa := fun (_ : Unit) => WCt cI cJ cO h u) (cut_nil hP hD hS hA) hS (va_runS (As := [.int ((v >>> (11 &&& 31))), .int 64]) (rest := []) ⟨hx, hb, hml, hown, hts⟩ (c_L_low l D cI cJ cZ cO H.size ((v >>> (11 &&& 31))) 64 (fun r => r = lowI ((v >>> (11 &&& 31))) 64) ⟨by decide, rfl⟩) (va_cwS 2 hts gL_act_L_low rfl rfl rfl (by decide +kernel) ⟨Nat.le_of_ble_eq_true rfl, Nat.le_of_ble_eq_true rfl⟩) ((cut_nil hP hD hS hA).preS hK hE) rfl rfl hl.1 rfl (lv_room (Nat.le_of_ble_eq_true rfl)) dL_act_54 ⟨Nat.le_of_ble_eq_true rfl, Nat.le_of_ble_eq_true rfl⟩) (fun r _ H locs hw hP hD hS => ?_)
    obtain rfl := hw
    refine lv_iconst (v := 2) hx hb dL_act_57 (by decide) ?_
    refine lv_isub hx hb dL_act_58 ?_
    refine lv_goto (tgt := 70) hx hb dL_act_59 (by decide) ?_
    refine lv_istore (lv' := [(5, .int (((lowI ((v >>> (11 &&& 31))) 64) - 2))), (4, .int (((lowI ((v >>> (5 &&& 31))) 64) - 2))), (3, .int 1), (0, .ref h), (1, .int v), (2, .int e)]) hx hb dL_act_70 hl (by decide) rfl (fun ls hl => ?_)
    refine lv_iload_n hx hb dL_act_72 rfl (lv_at hl 2 rfl) ?_
    refine lv_if_eq (tgt := 83) hx hb dL_act_73 (by decide) (fun z => absurd z (by decide)) (fun _ => ?_)
    refine lv_iload_n hx hb dL_act_76 rfl (lv_at hl 4 rfl) ?_
    refine lv_bipush (v := 8) hx hb dL_act_77 (by decide) ?_
    refine lv_ishr hx hb dL_act_79 ?_
    refine lv_goto (tgt := 93) hx hb dL_act_80 (by decide) ?_
    refine lv_istore (lv' := [(6, .int ((v >>> (8 &&& 31)))), (5, .int (((lowI ((v >>> (11 &&& 31))) 64) - 2))), (4, .int (((lowI ((v >>> (5 &&& 31))) 64) - 2))), (3, .int 1), (0, .ref h), (1, .int v), (2, .int e)]) hx hb dL_act_93 hl (by decide) rfl (fun ls hl => ?_)
    refine lv_iload_n hx hb dL_act_95 rfl (lv_at hl 3 rfl) ?_
    refine lv_if_eq (tgt := 106) hx hb dL_act_96 (by decide) (fun z => absurd z (by decide)) (fun _ => ?_)
    refine lv_iload_n hx hb dL_act_99 rfl (lv_at hl 5 rfl) ?_
    refine lv_bipush (v := 14) hx hb dL_act_100 (by decide) ?_
    refine lv_ishr hx hb dL_act_102 ?_
    refine lv_goto (tgt := 115) hx hb dL_act_103 (by decide) ?_
    refine lv_istore (lv' := [(7, .int ((v >>> (14 &&& 31)))), (6, .int ((v >>> (8 &&& 31)))), (5, .int (((lowI ((v >>> (11 &&& 31))) 64) - 2))), (4, .int (((lowI ((v >>> (5 &&& 31))) 64) - 2))), (3, .int 1), (0, .ref h), (1, .int v), (2, .int e)]) hx hb dL_act_115 hl (by decide) rfl (fun ls hl => ?_)
    exact K _ _ _ hP hD hS (by rw [show muA v = (v >>> (14 &&& 31)) from congrArg (fun b => iteB b (shI v 14) (lowI (shI v 14) 8)) ho, show ceA v = (v >>> (8 &&& 31)) from congrArg (fun b => iteB b (shI v 8) (lowI (shI v 8) 256)) ho, show otA v = ((lowI ((v >>> (11 &&& 31))) 64) - 2) from congrArg (fun b => iteB b (lowI (shI v 11) 64 - 2) (lowI (shI v 11) 5)) ho, show pcA v = ((lowI ((v >>> (5 &&& 31))) 64) - 2) from congrArg (fun b => iteB b (lowI (shI v 5) 64 - 2) (lowI (shI v 5) 5)) ho, ho]; exact lv_sub hl [0, 1, 2, 3, 4, 5, 6, 7] rfl)
end ACTS
