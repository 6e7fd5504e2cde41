/-! the law: cases of calls that may throw -/
/-! the law's cases: what they stand on -/
theorem KT.is {s0 : SG} {u : KT} (h : RCt s0 u) : IS s0 := by
  obtain ⟨n, hv, sw, m_cap, a, aC, aM, aW, aN, aF, aL, ad, af, br, md, el, ow, su, wr, wc, nr, nc, fr, fc, lq, lh, lw, lsp, x1, x2, x3, x4, x5, qc, qs, ql, qt, qo, qh, qf, qth, v⟩ := u
  exact h.1
theorem lg_same (x : Int64) : lg_cmp x x = 0 := by
  unfold lg_cmp
  simp
section CASE
variable {p : Program} {l : Launch} {e : Env} {s : State} {m : MethodId} {below : List Frame} {meth : Method} {c : Code} {b L : Nat} {xs : Nat → Int32} {D : va_G} {cI cJ cZ cO : ClassId} {tD mi h g o k : Nat} {cells slots : Nat} {Q : State → Prop}
/-- the loop's step, with the world of any state -/
def NXT (p : Program) (l : Launch) (e : Env) (s : State) (m : MethodId) (below : List Frame) (meth : Method) (c : Code) (b : Nat) (D : va_G) (cI cJ cZ cO : ClassId) (h g o k cells slots : Nat) (Q : State → Prop) : Prop :=
  ∀ (s1 : SG) (u1 : KT) (w1 : KM) (H1 : Heap) (locs1 : List Loc) (ls1 : Array Slot), RCt s1 u1 → RMt s1 w1 → va_P D vwCl (WCt cI cJ cO h o u1 ++ WMt cI cZ g w1) H1 → va_D (AL s) (WCt cI cJ cO h o u1 ++ WMt cI cZ g w1) → va_S (AL s) s.heap H1 locs1 → lv_has ls1 7 [(0, .ref b), (1, .ref h), (2, .ref g), (3, .ref o), (4, .int (nI (4 * k)))] → W p l e room_1 s m #[Value.ref b] below meth c H1 locs1 (cells + 6) (slots + 134) Q (F0 m 1738 ls1 [])
/-- one int of the script -/
theorem sld {R : Room} {args : Array Value} {H : Heap} {locs : List Loc} {ls : Array Slot} {rest : List Value} {lv : List (Nat × Value)} {pc j : Nat} {z : Int} {v : Int32} (hx : p.tables.exec = Jvm.exec) (hb : c.code = cL_law) (hX : va_X b L xs s s.heap) (hbl : b < s.heap.size) (hS : va_S (AL s) s.heap H locs) (hl : lv_has ls 7 lv) (h0 : ls[0]? = some (.val (.ref b))) (h4 : ls[4]? = some (.val (.int (nI (4 * k))))) (hj : nI (4 * k) + v = nI (4 * k + j)) (hv : Int32.ofInt z = v) (hk : 4 * k + j < L) (hL : L ≤ 2048)
    (d0 : decode cL_law pc = .ok (.aload_n 0, 1)) (d1 : decode cL_law (pc + 1) = .ok (.iload 4, 2)) (d2 : decode cL_law (pc + 1 + 2) = .ok (.iconst z, 1)) (d3 : decode cL_law (pc + 1 + 2 + 1) = .ok (.iadd, 1)) (d4 : decode cL_law (pc + 1 + 2 + 1 + 1) = .ok (.iaload, 1))
    (kk : W p l e R s m args below meth c H locs cells slots Q (F0 m (pc + 1 + 2 + 1 + 1 + 1) ls (.int (xs (4 * k + j)) :: rest))) : W p l e R s m args below meth c H locs cells slots Q (F0 m pc ls rest) := by
  refine lv_aload_n hx hb d0 rfl h0 ?_
  refine lv_iload hx hb d1 h4 ?_
  refine lv_iconst (v := v) hx hb d2 hv ?_
  refine lv_iadd hx hb d3 ?_
  rw [hj]
  refine va_sld hx hb hX hbl (Nat.not_le.mpr hbl) hS (vp_in_nI hk (by omega)) d4 ?_
  rw [nI_clamp (by omega)]
  exact kk
set_option maxHeartbeats 4000000 in
set_option maxRecDepth 100000 in
theorem k_L_give (C : LC p l s m meth c b L xs D cI cJ cZ cO tD mi) {s0 : SG} {u : KT} {w : KM} {H : Heap} {locs : List Loc} {ls : Array Slot} (hk : 4 * k + 4 ≤ L) (hL : L ≤ 2048) (hR : RCt s0 u) (hM : RMt s0 w) (hP : va_P D vwCl (WCt cI cJ cO h o u ++ WMt cI cZ g w) H) (hD : va_D (AL s) (WCt cI cJ cO h o u ++ WMt cI cZ g w)) (hS : va_S (AL s) s.heap H locs) (hl : lv_has ls 7 [(0, .ref b), (1, .ref h), (2, .ref g), (3, .ref o), (4, .int (nI (4 * k)))]) (hcc : cells + 6 ≤ 601024) (hss : slots + 134 ≤ 7293034) (K : NXT p l e s m below meth c b D cI cJ cZ cO h g o k cells slots Q) : W p l e room_1 s m #[Value.ref b] below meth c H locs cells slots Q (F0 m 240 ls []) := by
  obtain ⟨hx, hb, hr, hml, hown, hts, hX, hbl, hlocks, hst, hK, hE, hT, hLS, hN⟩ := C
  have hA : ∀ q, s.heap.size ≤ q → AL s q := fun _ h9 => h9
  refine lv_aload_n hx hb dL_law_240 rfl (lv_at hl 1 rfl) ?_
  refine sld (k := k) (j := 1) (v := 1) hx hb hX hbl hS hl (lv_at hl 0 rfl) (lv_at hl 4 rfl) (nI_add _ _) (by decide) (by omega) hL dL_law_241 dL_law_242 dL_law_244 dL_law_245 dL_law_246 ?_
  refine sld (k := k) (j := 2) (v := 2) hx hb hX hbl hS hl (lv_at hl 0 rfl) (lv_at hl 4 rfl) (nI_add _ _) (by decide) (by omega) hL dL_law_247 dL_law_248 dL_law_250 dL_law_251 dL_law_252 ?_
  refine lv_aload_n hx hb dL_law_253 rfl (lv_at hl 3 rfl) ?_
  have hCut := Cut.left hP hD hS hA (cut_all (w1 := fun (u : KT) => WCt cI cJ cO h o u) (va_P_app.mp hP).1 (hD.inner (n := H.size)).1 va_S.rf (fun q h9 => Or.inr h9))
  refine ca_i (wa := fun (u1 : KT) => WCt cI cJ cO h o u1 ++ WMt cI cZ g w) hCut hS (vx_runSW (As := [.ref h, .int (xs (4 * k + 1)), .int (xs (4 * k + 2)), .ref o]) (rest := []) ⟨hx, hb, hml, hown, hts⟩ (c_L_give l D hst cI cJ cZ cO tD mi h o s0 u _ (xs (4 * k + 1)) (xs (4 * k + 2)) hR) (vx_cwSW 4 hts gL_law_L_give rfl rfl rfl (by decide +kernel) ⟨Nat.le_of_ble_eq_true rfl, Nat.le_of_ble_eq_true rfl⟩) (hCut.preSW hK hE hT hLS hN hS) rfl rfl hl.1 rfl (lv_room (Nat.le_of_ble_eq_true rfl)) dL_law_254 ⟨by show cells + 4 ≤ 601024; omega, by show slots + 24 ≤ 7293034; omega⟩) (fun r u1 H locs hw1 hP hD hS => ?_)
  obtain ⟨hr1, hw2, hw3⟩ := hw1
  refine lv_istore (lv' := [(5, .int r), (0, .ref b), (1, .ref h), (2, .ref g), (3, .ref o), (4, .int (nI (4 * k)))]) hx hb dL_law_257 hl (by decide) rfl (fun ls hl => ?_)
  have hI := KT.is hR
  obtain ⟨N, own, pd, HW, SW, bar⟩ := s0
  obtain ⟨hO, hIP, hsw, hb5⟩ := hI
  obtain ⟨n, hv, sw, a, t, sh, cv, of, many, colour, org, state, layers, heat, burnt, things, history, bars, set, seen, pile, isIn, order, whr, tried⟩ := w
  obtain ⟨e1, e2, e3, ho, hmn, r0, r1, r2, r3, r4, r5, r10, r15, hfb⟩ := hM
  dsimp only at e1 e2 e3 ho hmn r0 r1 r2 r3 r4 r5 r10 r15 hfb hO hIP hsw hb5
  subst e1 e2 e3
  refine lv_aload_n hx hb dL_law_259 rfl (lv_at hl 3 rfl) ?_
  refine sld (k := k) (j := 1) (v := 1) hx hb hX hbl hS hl (lv_at hl 1 rfl) (lv_at hl 5 rfl) (nI_add _ _) (by decide) (by omega) hL dL_law_260 dL_law_261 dL_law_263 dL_law_264 dL_law_265 ?_
  refine sld (k := k) (j := 2) (v := 2) hx hb hX hbl hS hl (lv_at hl 1 rfl) (lv_at hl 5 rfl) (nI_add _ _) (by decide) (by omega) hL dL_law_266 dL_law_267 dL_law_269 dL_law_270 dL_law_271 ?_
  have hw : wp_X5_give t (nI n) of many org things history set seen pile (xs (4 * k + 1)) (xs (4 * k + 2)) (fun r_272 v_thrown_c272 v_of_c272 v_many_c272 v_things_c272 v_history_c272 v_set_c272 v_seen_c272 v_pile_c272 => v_thrown_c272 = nI (oC_give (n, own, pd, hv, sw, bar) (xs (4 * k + 1)) (xs (4 * k + 2))) ∧ (¬ (oC_give (n, own, pd, hv, sw, bar) (xs (4 * k + 1)) (xs (4 * k + 2))) = 0 → RMt (n, own, pd, hv, sw, bar) (n, hv, sw, a, v_thrown_c272, sh, cv, v_of_c272, v_many_c272, colour, org, state, layers, heat, burnt, v_things_c272, v_history_c272, bars, v_set_c272, v_seen_c272, v_pile_c272, isIn, order, whr, tried)) ∧ ((oC_give (n, own, pd, hv, sw, bar) (xs (4 * k + 1)) (xs (4 * k + 2))) = 0 → (oV_give (n, own, pd, hv, sw, bar) (xs (4 * k + 1)) (xs (4 * k + 2))) r_272 ∧ RMt (oS_give (n, own, pd, hv, sw, bar) (xs (4 * k + 1)) (xs (4 * k + 2))) (n, hv, sw, a, v_thrown_c272, sh, cv, v_of_c272, v_many_c272, colour, org, state, layers, heat, burnt, v_things_c272, v_history_c272, bars, v_set_c272, v_seen_c272, v_pile_c272, isIn, order, whr, tried))) := m_give hO hIP ho hmn r4 r3 r15 (fun gg s1 s2 s3 => ⟨rfl, fun _ => ⟨rfl, rfl, rfl, ho, hmn, r0, r1, r2, r3, r4, r5, r10, r15, hfb⟩, fun z => absurd z gg⟩) (fun gg e1 e2 of9 many9 pd9 hpd a3 a15 s1 s2 s3 k0 kn q3 q15 => by subst hpd; exact ⟨by rw [show (oC_give (n, own, pd, hv, sw, bar) (xs (4 * k + 1)) (xs (4 * k + 2))) = 0 from gg]; rfl, fun z => absurd (show (oC_give (n, own, pd, hv, sw, bar) (xs (4 * k + 1)) (xs (4 * k + 2))) = 0 from gg) z, fun _ => ⟨rfl, ⟨rfl, rfl, rfl, k0, kn, (r0.keep (fun i => lo_two (by omega))), (r1.keep (fun i => lo_two (by omega))), (r2.keep (fun i => lo_two (by omega))), q3, (r4.keep (fun i => lo_two (by omega))), (r5.keep (fun i j hj => lo_two (by omega))), (r10.keep (fun i j hj => lo_two (by omega))), q15, hfb⟩⟩⟩)
  have hCut := Cut.right hP hD hS hA (cut0 (S := Int32 × (Nat → Int32) × (Nat → Int32) × (Nat → Int32) × (Nat → Int32) × (Nat → Int32) × (Nat → Int32) × (Nat → Int32)) (X := (WM cI cZ g a t (nI n) (nI hv) (nI sw) sh cv of many colour org state layers heat burnt things history bars set seen pile isIn order whr tried)) (cx := (W_X5_give g a cI cJ cZ t (nI n) of many org things history (nI hv) (nI sw) set seen pile sh cv)) (pl := []) (w1 := fun (u : Int32 × (Nat → Int32) × (Nat → Int32) × (Nat → Int32) × (Nat → Int32) × (Nat → Int32) × (Nat → Int32) × (Nat → Int32)) => (W_X5_give g a cI cJ cZ u.1 (nI n) u.2.1 u.2.2.1 org u.2.2.2.1 u.2.2.2.2.1 (nI hv) (nI sw) u.2.2.2.2.2.1 u.2.2.2.2.2.2.1 u.2.2.2.2.2.2.2 sh cv)) (X' := fun (u : Int32 × (Nat → Int32) × (Nat → Int32) × (Nat → Int32) × (Nat → Int32) × (Nat → Int32) × (Nat → Int32) × (Nat → Int32)) => (WM cI cZ g a u.1 (nI n) (nI hv) (nI sw) sh cv u.2.1 u.2.2.1 colour org state layers heat burnt u.2.2.2.1 u.2.2.2.2.1 bars u.2.2.2.2.2.1 u.2.2.2.2.2.2.1 u.2.2.2.2.2.2.2 isIn order whr tried)) (va_P_app.mp hP).2 (hD.inner (n := H.size)).2 va_S.rf (fun q h9 => Or.inr h9) [0, 1, 2, 4, 9, 10, 12, 13, 14] [3, 5, 6, 7, 8, 11, 15, 16, 17, 18] [10, 11, 12, 0, 13, 1, 2, 3, 4, 14, 15, 5, 16, 17, 18, 6, 7, 8, 9] rfl rfl (by decide) (by decide) (by decide) (fun u => rfl) (by decide))
  refine ca_i (wa := fun (u : Int32 × (Nat → Int32) × (Nat → Int32) × (Nat → Int32) × (Nat → Int32) × (Nat → Int32) × (Nat → Int32) × (Nat → Int32)) => WCt cI cJ cO h o u1 ++ (WM cI cZ g a u.1 (nI n) (nI hv) (nI sw) sh cv u.2.1 u.2.2.1 colour org state layers heat burnt u.2.2.2.1 u.2.2.2.2.1 bars u.2.2.2.2.2.1 u.2.2.2.2.2.2.1 u.2.2.2.2.2.2.2 isIn order whr tried)) hCut hS (va_runV (As := [.int (xs (4 * k + 1)), .int (xs (4 * k + 2))]) (rest := []) ⟨hx, hb, hml, hown, hts⟩ (c_X5_give l D cI cJ cZ cO g a H.size t (nI n) of many org things history (nI hv) (nI sw) set seen pile sh cv (xs (4 * k + 1)) (xs (4 * k + 2)) _ hw) (cwV 2 hts gL_law_X5_give rfl rfl rfl (by decide +kernel) ⟨Nat.le_of_ble_eq_true rfl, Nat.le_of_ble_eq_true rfl⟩) (hCut.preV (qb := 0) (ci := 6) hK hE rfl rfl) rfl rfl hl.1 rfl (lv_room (Nat.le_of_ble_eq_true rfl)) dL_law_272 ⟨by show _ ≤ 601024; simp only [Nat.add_zero]; omega, by show _ ≤ 7293034; simp only [Nat.add_zero]; omega⟩) (fun r_272 u H locs hw hP hD hS => ?_)
  obtain ⟨v_thrown_c272, v_of_c272, v_many_c272, v_things_c272, v_history_c272, v_set_c272, v_seen_c272, v_pile_c272⟩ := u
  try dsimp only at hw
  obtain ⟨ht3, hwn, hwy⟩ := hw
  refine lv_istore (lv' := [(6, .int r_272), (5, .int r), (0, .ref b), (1, .ref h), (2, .ref g), (3, .ref o), (4, .int (nI (4 * k)))]) hx hb dL_law_275 hl (by decide) rfl (fun ls hl => ?_)
  refine lv_aload_n hx hb dL_law_277 rfl (lv_at hl 4 rfl) ?_
  have hw : wp_X5_thrown v_thrown_c272 (fun r => r = v_thrown_c272) := by unfold wp_X5_thrown; rfl
  have hCut := Cut.right hP hD hS hA (cut0 (S := Unit) (X := (WM cI cZ g a v_thrown_c272 (nI n) (nI hv) (nI sw) sh cv v_of_c272 v_many_c272 colour org state layers heat burnt v_things_c272 v_history_c272 bars v_set_c272 v_seen_c272 v_pile_c272 isIn order whr tried)) (cx := (W_X5_thrown g a cI cJ cZ v_thrown_c272 (nI n) (nI hv) (nI sw) sh cv)) (pl := []) (w1 := fun (u : Unit) => (W_X5_thrown g a cI cJ cZ v_thrown_c272 (nI n) (nI hv) (nI sw) sh cv)) (X' := fun (u : Unit) => (WM cI cZ g a v_thrown_c272 (nI n) (nI hv) (nI sw) sh cv v_of_c272 v_many_c272 colour org state layers heat burnt v_things_c272 v_history_c272 bars v_set_c272 v_seen_c272 v_pile_c272 isIn order whr tried)) (va_P_app.mp hP).2 (hD.inner (n := H.size)).2 va_S.rf (fun q h9 => Or.inr h9) [0] [1, 2, 3, 4, 5, 6, 7, 8, 9, 10, 11, 12, 13, 14, 15, 16, 17, 18] [18, 0, 1, 2, 3, 4, 5, 6, 7, 8, 9, 10, 11, 12, 13, 14, 15, 16, 17] rfl rfl (by decide) (by decide) (by decide) (fun u => rfl) (by decide))
  refine ca_i (wa := fun (u : Unit) => WCt cI cJ cO h o u1 ++ (WM cI cZ g a v_thrown_c272 (nI n) (nI hv) (nI sw) sh cv v_of_c272 v_many_c272 colour org state layers heat burnt v_things_c272 v_history_c272 bars v_set_c272 v_seen_c272 v_pile_c272 isIn order whr tried)) hCut hS (va_runV (As := []) (rest := []) ⟨hx, hb, hml, hown, hts⟩ (c_X5_thrown l D cI cJ cZ cO g a H.size v_thrown_c272 (nI n) (nI hv) (nI sw) sh cv _ hw) (cwV 0 hts gL_law_X5_thrown rfl rfl rfl (by decide +kernel) ⟨Nat.le_of_ble_eq_true rfl, Nat.le_of_ble_eq_true rfl⟩) (hCut.preV (qb := 0) (ci := 6) hK hE rfl rfl) rfl rfl hl.1 rfl (lv_room (Nat.le_of_ble_eq_true rfl)) dL_law_278 ⟨by show _ ≤ 601024; simp only [Nat.add_zero]; omega, by show _ ≤ 7293034; simp only [Nat.add_zero]; omega⟩) (fun r_278 _ H locs hw hP hD hS => ?_)
  try dsimp only at hw
  have hrr : r_278 = r := by rw [hw, ht3, hr1]
  refine lv_iload hx hb dL_law_281 (lv_at hl 1 rfl) ?_
  refine lv_icmp_eq (tgt := 288) hx hb dL_law_283 (by decide) (fun _ => ?_) (fun z9 => absurd hrr z9)
  refine lv_iload hx hb dL_law_288 (lv_at hl 1 rfl) ?_
  refine lv_if_ne (tgt := 305) hx hb dL_law_290 (by decide) (fun z9 => ?_) (fun z9 => ?_)
  · have hz : ¬ (oC_give (n, own, pd, hv, sw, bar) (xs (4 * k + 1)) (xs (4 * k + 2))) = 0 := fun q9 => z9 (by rw [hr1, q9]; rfl)
    have hwn := hwn hz
    refine lv_goto (tgt := 1738) hx hb dL_law_305 (by decide) ?_
    refine W.widen (k := cells + 6) (n := slots + 134) (by omega) (by omega) ?_
    exact K (n, own, pd, hv, sw, bar) u1 (n, hv, sw, a, v_thrown_c272, sh, cv, v_of_c272, v_many_c272, colour, org, state, layers, heat, burnt, v_things_c272, v_history_c272, bars, v_set_c272, v_seen_c272, v_pile_c272, isIn, order, whr, tried) _ _ _ (hw2 hz) hwn hP hD hS (lv_sub hl [2, 3, 4, 5, 6] rfl)
  · have hz : (oC_give (n, own, pd, hv, sw, bar) (xs (4 * k + 1)) (xs (4 * k + 2))) = 0 := by
      have b9 : (oC_give (n, own, pd, hv, sw, bar) (xs (4 * k + 1)) (xs (4 * k + 2))) < 2147483648 := Nat.lt_of_le_of_lt giveC_le (by omega)
      exact (nI_eq b9 (by omega)).mp (hr1.symm.trans z9)
    obtain ⟨hR1, y9, hy9, ho9⟩ := hw3 hz
    obtain ⟨hv9, hwz⟩ := hwy hz
    have hyr : y9 = r_272 := hy9.trans hv9.symm
    subst hyr
    refine lv_aload_n hx hb dL_law_293 rfl (lv_at hl 5 rfl) ?_
    refine lv_iconst (v := 0) hx hb dL_law_294 (by decide) ?_
    have hout : ∃ fo : Nat → Int64, fo 0 = u1.out ∧ (WCt cI cJ cO h o u1 ++ (WM cI cZ g a v_thrown_c272 (nI n) (nI hv) (nI sw) sh cv v_of_c272 v_many_c272 colour org state layers heat burnt v_things_c272 v_history_c272 bars v_set_c272 v_seen_c272 v_pile_c272 isIn order whr tried))[0]? = some (o, .inl (cJ, 1, .inr (.inl fo))) := by obtain ⟨n, hv, sw, m_cap, a, aC, aM, aW, aN, aF, aL, ad, af, br, md, el, ow, su, wr, wc, nr, nc, fr, fc, lq, lh, lw, lsp, x1, x2, x3, x4, x5, qc, qs, ql, qt, qo, qh, qf, qth, v⟩ := u1; exact ⟨v, rfl, rfl⟩
    obtain ⟨fo, hfo, hc0⟩ := hout
    refine va_lald hx hb hK hP 0 1 hc0 rfl (vp_lit rfl) dL_law_295 ?_
    have hf0 : fo (0 : Int32).toNatClampNeg = y9.toInt64 := hfo.trans ho9
    rw [hf0]
    refine lv_iload hx hb dL_law_296 (lv_at hl 0 rfl) ?_
    refine lv_i2l (v := y9.toInt64) hx hb dL_law_298 rfl ?_
    refine W.lcmp hx hb dL_law_299 ?_
    rw [lg_same]
    refine lv_if_eq (tgt := 305) hx hb dL_law_300 (by decide) (fun _ => ?_) (fun q9 => absurd rfl q9)
    refine lv_goto (tgt := 1738) hx hb dL_law_305 (by decide) ?_
    refine W.widen (k := cells + 6) (n := slots + 134) (by omega) (by omega) ?_
    exact K (oS_give (n, own, pd, hv, sw, bar) (xs (4 * k + 1)) (xs (4 * k + 2))) u1 (n, hv, sw, a, v_thrown_c272, sh, cv, v_of_c272, v_many_c272, colour, org, state, layers, heat, burnt, v_things_c272, v_history_c272, bars, v_set_c272, v_seen_c272, v_pile_c272, isIn, order, whr, tried) _ _ _ hR1 hwz hP hD hS (lv_sub hl [2, 3, 4, 5, 6] rfl)
set_option maxHeartbeats 4000000 in
set_option maxRecDepth 100000 in
theorem k_L_divide (C : LC p l s m meth c b L xs D cI cJ cZ cO tD mi) {s0 : SG} {u : KT} {w : KM} {H : Heap} {locs : List Loc} {ls : Array Slot} (hk : 4 * k + 4 ≤ L) (hL : L ≤ 2048) (hR : RCt s0 u) (hM : RMt s0 w) (hP : va_P D vwCl (WCt cI cJ cO h o u ++ WMt cI cZ g w) H) (hD : va_D (AL s) (WCt cI cJ cO h o u ++ WMt cI cZ g w)) (hS : va_S (AL s) s.heap H locs) (hl : lv_has ls 7 [(0, .ref b), (1, .ref h), (2, .ref g), (3, .ref o), (4, .int (nI (4 * k)))]) (hcc : cells + 6 ≤ 601024) (hss : slots + 134 ≤ 7293034) (K : NXT p l e s m below meth c b D cI cJ cZ cO h g o k cells slots Q) : W p l e room_1 s m #[Value.ref b] below meth c H locs cells slots Q (F0 m 172 ls []) := by
  obtain ⟨hx, hb, hr, hml, hown, hts, hX, hbl, hlocks, hst, hK, hE, hT, hLS, hN⟩ := C
  have hA : ∀ q, s.heap.size ≤ q → AL s q := fun _ h9 => h9
  refine lv_aload_n hx hb dL_law_172 rfl (lv_at hl 1 rfl) ?_
  refine sld (k := k) (j := 1) (v := 1) hx hb hX hbl hS hl (lv_at hl 0 rfl) (lv_at hl 4 rfl) (nI_add _ _) (by decide) (by omega) hL dL_law_173 dL_law_174 dL_law_176 dL_law_177 dL_law_178 ?_
  refine sld (k := k) (j := 2) (v := 2) hx hb hX hbl hS hl (lv_at hl 0 rfl) (lv_at hl 4 rfl) (nI_add _ _) (by decide) (by omega) hL dL_law_179 dL_law_180 dL_law_182 dL_law_183 dL_law_184 ?_
  refine lv_aload_n hx hb dL_law_185 rfl (lv_at hl 3 rfl) ?_
  have hCut := Cut.left hP hD hS hA (cut_all (w1 := fun (u : KT) => WCt cI cJ cO h o u) (va_P_app.mp hP).1 (hD.inner (n := H.size)).1 va_S.rf (fun q h9 => Or.inr h9))
  refine ca_i (wa := fun (u1 : KT) => WCt cI cJ cO h o u1 ++ WMt cI cZ g w) hCut hS (vx_runSW (As := [.ref h, .int (xs (4 * k + 1)), .int (xs (4 * k + 2)), .ref o]) (rest := []) ⟨hx, hb, hml, hown, hts⟩ (c_L_divide l D hst cI cJ cZ cO tD mi h o s0 u _ (xs (4 * k + 1)) (xs (4 * k + 2)) hR) (vx_cwSW 4 hts gL_law_L_divide rfl rfl rfl (by decide +kernel) ⟨Nat.le_of_ble_eq_true rfl, Nat.le_of_ble_eq_true rfl⟩) (hCut.preSW hK hE hT hLS hN hS) rfl rfl hl.1 rfl (lv_room (Nat.le_of_ble_eq_true rfl)) dL_law_186 ⟨by show cells + 6 ≤ 601024; omega, by show slots + 134 ≤ 7293034; omega⟩) (fun r u1 H locs hw1 hP hD hS => ?_)
  obtain ⟨hr1, hw2, hw3⟩ := hw1
  refine lv_istore (lv' := [(5, .int r), (0, .ref b), (1, .ref h), (2, .ref g), (3, .ref o), (4, .int (nI (4 * k)))]) hx hb dL_law_189 hl (by decide) rfl (fun ls hl => ?_)
  have hI := KT.is hR
  obtain ⟨N, own, pd, HW, SW, bar⟩ := s0
  obtain ⟨hO, hIP, hsw, hb5⟩ := hI
  obtain ⟨n, hv, sw, a, t, sh, cv, of, many, colour, org, state, layers, heat, burnt, things, history, bars, set, seen, pile, isIn, order, whr, tried⟩ := w
  obtain ⟨e1, e2, e3, ho, hmn, r0, r1, r2, r3, r4, r5, r10, r15, hfb⟩ := hM
  dsimp only at e1 e2 e3 ho hmn r0 r1 r2 r3 r4 r5 r10 r15 hfb hO hIP hsw hb5
  subst e1 e2 e3
  refine lv_aload_n hx hb dL_law_191 rfl (lv_at hl 3 rfl) ?_
  refine sld (k := k) (j := 1) (v := 1) hx hb hX hbl hS hl (lv_at hl 1 rfl) (lv_at hl 5 rfl) (nI_add _ _) (by decide) (by omega) hL dL_law_192 dL_law_193 dL_law_195 dL_law_196 dL_law_197 ?_
  refine sld (k := k) (j := 2) (v := 2) hx hb hX hbl hS hl (lv_at hl 1 rfl) (lv_at hl 5 rfl) (nI_add _ _) (by decide) (by omega) hL dL_law_198 dL_law_199 dL_law_201 dL_law_202 dL_law_203 ?_
  have hw : wp_X5_divide t (nI n) of many colour org things history set seen pile (xs (4 * k + 1)) (xs (4 * k + 2)) (fun r_204 v_thrown_c204 v_made_c204 v_of_c204 v_many_c204 v_colour_c204 v_things_c204 v_history_c204 v_set_c204 v_seen_c204 v_pile_c204 => v_thrown_c204 = nI (oC_divide (n, own, pd, hv, sw, bar) (xs (4 * k + 1)) (xs (4 * k + 2))) ∧ (¬ (oC_divide (n, own, pd, hv, sw, bar) (xs (4 * k + 1)) (xs (4 * k + 2))) = 0 → v_made_c204 = nI n ∧ RMt (n, own, pd, hv, sw, bar) (n, hv, sw, a, v_thrown_c204, sh, cv, v_of_c204, v_many_c204, v_colour_c204, org, state, layers, heat, burnt, v_things_c204, v_history_c204, bars, v_set_c204, v_seen_c204, v_pile_c204, isIn, order, whr, tried)) ∧ ((oC_divide (n, own, pd, hv, sw, bar) (xs (4 * k + 1)) (xs (4 * k + 2))) = 0 → (oV_divide (n, own, pd, hv, sw, bar) (xs (4 * k + 1)) (xs (4 * k + 2))) r_204 ∧ v_made_c204 = nI (n + 1) ∧ RMt (oS_divide (n, own, pd, hv, sw, bar) (xs (4 * k + 1)) (xs (4 * k + 2))) ((n + 1), hv, sw, a, v_thrown_c204, sh, cv, v_of_c204, v_many_c204, v_colour_c204, org, state, layers, heat, burnt, v_things_c204, v_history_c204, bars, v_set_c204, v_seen_c204, v_pile_c204, isIn, order, whr, tried))) := m_divide hO hIP ho hmn r0 r4 r3 r15 (fun gg s1 s2 s3 => ⟨rfl, fun _ => ⟨rfl, ⟨rfl, rfl, rfl, ho, hmn, r0, r1, r2, r3, r4, r5, r10, r15, hfb⟩⟩, fun z => absurd z gg⟩) (fun gg e1 e2 own9 pd9 ho9 hp9 of9 many9 a0 a3 a15 s1 s2 s3 k0 kn q0 q3 q15 => by subst ho9 hp9; exact ⟨by rw [show (oC_divide (n, own, pd, hv, sw, bar) (xs (4 * k + 1)) (xs (4 * k + 2))) = 0 from gg]; rfl, fun z => absurd (show (oC_divide (n, own, pd, hv, sw, bar) (xs (4 * k + 1)) (xs (4 * k + 2))) = 0 from gg) z, fun _ => ⟨rfl, rfl, ⟨rfl, rfl, rfl, k0, kn, q0, (r1.keep (fun i => lo_div hIP (by omega))), (r2.keep (fun i => lo_div hIP (by omega))), q3, (r4.keep (fun i => lo_div hIP (by omega))), (r5.keep (fun i j hj => lo_div hIP (by omega))), (r10.keep (fun i j hj => lo_div hIP (by omega))), q15, hfb⟩⟩⟩)
  have hCut := Cut.right hP hD hS hA (cut0 (S := Int32 × Int32 × (Nat → Int32) × (Nat → Int32) × (Nat → Int32) × (Nat → Int32) × (Nat → Int32) × (Nat → Int32) × (Nat → Int32) × (Nat → Int32)) (X := (WM cI cZ g a t (nI n) (nI hv) (nI sw) sh cv of many colour org state layers heat burnt things history bars set seen pile isIn order whr tried)) (cx := (W_X5_divide g a cI cJ cZ t (nI n) of many colour org things history (nI hv) (nI sw) set seen pile sh cv)) (pl := []) (w1 := fun (u : Int32 × Int32 × (Nat → Int32) × (Nat → Int32) × (Nat → Int32) × (Nat → Int32) × (Nat → Int32) × (Nat → Int32) × (Nat → Int32) × (Nat → Int32)) => (W_X5_divide g a cI cJ cZ u.1 u.2.1 u.2.2.1 u.2.2.2.1 u.2.2.2.2.1 org u.2.2.2.2.2.1 u.2.2.2.2.2.2.1 (nI hv) (nI sw) u.2.2.2.2.2.2.2.1 u.2.2.2.2.2.2.2.2.1 u.2.2.2.2.2.2.2.2.2 sh cv)) (X' := fun (u : Int32 × Int32 × (Nat → Int32) × (Nat → Int32) × (Nat → Int32) × (Nat → Int32) × (Nat → Int32) × (Nat → Int32) × (Nat → Int32) × (Nat → Int32)) => (WM cI cZ g a u.1 u.2.1 (nI hv) (nI sw) sh cv u.2.2.1 u.2.2.2.1 u.2.2.2.2.1 org state layers heat burnt u.2.2.2.2.2.1 u.2.2.2.2.2.2.1 bars u.2.2.2.2.2.2.2.1 u.2.2.2.2.2.2.2.2.1 u.2.2.2.2.2.2.2.2.2 isIn order whr tried)) (va_P_app.mp hP).2 (hD.inner (n := H.size)).2 va_S.rf (fun q h9 => Or.inr h9) [0, 1, 2, 3, 4, 9, 10, 12, 13, 14] [5, 6, 7, 8, 11, 15, 16, 17, 18] [9, 10, 11, 12, 13, 0, 1, 2, 3, 14, 15, 4, 16, 17, 18, 5, 6, 7, 8] rfl rfl (by decide) (by decide) (by decide) (fun u => rfl) (by decide))
  refine ca_i (wa := fun (u : Int32 × Int32 × (Nat → Int32) × (Nat → Int32) × (Nat → Int32) × (Nat → Int32) × (Nat → Int32) × (Nat → Int32) × (Nat → Int32) × (Nat → Int32)) => WCt cI cJ cO h o u1 ++ (WM cI cZ g a u.1 u.2.1 (nI hv) (nI sw) sh cv u.2.2.1 u.2.2.2.1 u.2.2.2.2.1 org state layers heat burnt u.2.2.2.2.2.1 u.2.2.2.2.2.2.1 bars u.2.2.2.2.2.2.2.1 u.2.2.2.2.2.2.2.2.1 u.2.2.2.2.2.2.2.2.2 isIn order whr tried)) hCut hS (va_runV (As := [.int (xs (4 * k + 1)), .int (xs (4 * k + 2))]) (rest := []) ⟨hx, hb, hml, hown, hts⟩ (c_X5_divide l D cI cJ cZ cO g a H.size t (nI n) of many colour org things history (nI hv) (nI sw) set seen pile sh cv (xs (4 * k + 1)) (xs (4 * k + 2)) _ hw) (cwV 2 hts gL_law_X5_divide rfl rfl rfl (by decide +kernel) ⟨Nat.le_of_ble_eq_true rfl, Nat.le_of_ble_eq_true rfl⟩) (hCut.preV (qb := 0) (ci := 6) hK hE rfl rfl) rfl rfl hl.1 rfl (lv_room (Nat.le_of_ble_eq_true rfl)) dL_law_204 ⟨by show _ ≤ 601024; simp only [Nat.add_zero]; omega, by show _ ≤ 7293034; simp only [Nat.add_zero]; omega⟩) (fun r_204 u H locs hw hP hD hS => ?_)
  obtain ⟨v_thrown_c204, v_made_c204, v_of_c204, v_many_c204, v_colour_c204, v_things_c204, v_history_c204, v_set_c204, v_seen_c204, v_pile_c204⟩ := u
  try dsimp only at hw
  obtain ⟨ht3, hwn, hwy⟩ := hw
  refine lv_istore (lv' := [(6, .int r_204), (5, .int r), (0, .ref b), (1, .ref h), (2, .ref g), (3, .ref o), (4, .int (nI (4 * k)))]) hx hb dL_law_207 hl (by decide) rfl (fun ls hl => ?_)
  refine lv_aload_n hx hb dL_law_209 rfl (lv_at hl 4 rfl) ?_
  have hw : wp_X5_thrown v_thrown_c204 (fun r => r = v_thrown_c204) := by unfold wp_X5_thrown; rfl
  have hCut := Cut.right hP hD hS hA (cut0 (S := Unit) (X := (WM cI cZ g a v_thrown_c204 v_made_c204 (nI hv) (nI sw) sh cv v_of_c204 v_many_c204 v_colour_c204 org state layers heat burnt v_things_c204 v_history_c204 bars v_set_c204 v_seen_c204 v_pile_c204 isIn order whr tried)) (cx := (W_X5_thrown g a cI cJ cZ v_thrown_c204 v_made_c204 (nI hv) (nI sw) sh cv)) (pl := []) (w1 := fun (u : Unit) => (W_X5_thrown g a cI cJ cZ v_thrown_c204 v_made_c204 (nI hv) (nI sw) sh cv)) (X' := fun (u : Unit) => (WM cI cZ g a v_thrown_c204 v_made_c204 (nI hv) (nI sw) sh cv v_of_c204 v_many_c204 v_colour_c204 org state layers heat burnt v_things_c204 v_history_c204 bars v_set_c204 v_seen_c204 v_pile_c204 isIn order whr tried)) (va_P_app.mp hP).2 (hD.inner (n := H.size)).2 va_S.rf (fun q h9 => Or.inr h9) [0] [1, 2, 3, 4, 5, 6, 7, 8, 9, 10, 11, 12, 13, 14, 15, 16, 17, 18] [18, 0, 1, 2, 3, 4, 5, 6, 7, 8, 9, 10, 11, 12, 13, 14, 15, 16, 17] rfl rfl (by decide) (by decide) (by decide) (fun u => rfl) (by decide))
  refine ca_i (wa := fun (u : Unit) => WCt cI cJ cO h o u1 ++ (WM cI cZ g a v_thrown_c204 v_made_c204 (nI hv) (nI sw) sh cv v_of_c204 v_many_c204 v_colour_c204 org state layers heat burnt v_things_c204 v_history_c204 bars v_set_c204 v_seen_c204 v_pile_c204 isIn order whr tried)) hCut hS (va_runV (As := []) (rest := []) ⟨hx, hb, hml, hown, hts⟩ (c_X5_thrown l D cI cJ cZ cO g a H.size v_thrown_c204 v_made_c204 (nI hv) (nI sw) sh cv _ hw) (cwV 0 hts gL_law_X5_thrown rfl rfl rfl (by decide +kernel) ⟨Nat.le_of_ble_eq_true rfl, Nat.le_of_ble_eq_true rfl⟩) (hCut.preV (qb := 0) (ci := 6) hK hE rfl rfl) rfl rfl hl.1 rfl (lv_room (Nat.le_of_ble_eq_true rfl)) dL_law_210 ⟨by show _ ≤ 601024; simp only [Nat.add_zero]; omega, by show _ ≤ 7293034; simp only [Nat.add_zero]; omega⟩) (fun r_210 _ H locs hw hP hD hS => ?_)
  try dsimp only at hw
  have hrr : r_210 = r := by rw [hw, ht3, hr1]
  refine lv_iload hx hb dL_law_213 (lv_at hl 1 rfl) ?_
  refine lv_icmp_eq (tgt := 220) hx hb dL_law_215 (by decide) (fun _ => ?_) (fun z9 => absurd hrr z9)
  refine lv_iload hx hb dL_law_220 (lv_at hl 1 rfl) ?_
  refine lv_if_ne (tgt := 237) hx hb dL_law_222 (by decide) (fun z9 => ?_) (fun z9 => ?_)
  · have hz : ¬ (oC_divide (n, own, pd, hv, sw, bar) (xs (4 * k + 1)) (xs (4 * k + 2))) = 0 := fun q9 => z9 (by rw [hr1, q9]; rfl)
    obtain ⟨ev9, hwn⟩ := hwn hz
    rw [ev9] at hP hD
    refine lv_goto (tgt := 1738) hx hb dL_law_237 (by decide) ?_
    refine W.widen (k := cells + 6) (n := slots + 134) (by omega) (by omega) ?_
    exact K (n, own, pd, hv, sw, bar) u1 (n, hv, sw, a, v_thrown_c204, sh, cv, v_of_c204, v_many_c204, v_colour_c204, org, state, layers, heat, burnt, v_things_c204, v_history_c204, bars, v_set_c204, v_seen_c204, v_pile_c204, isIn, order, whr, tried) _ _ _ (hw2 hz) hwn hP hD hS (lv_sub hl [2, 3, 4, 5, 6] rfl)
  · have hz : (oC_divide (n, own, pd, hv, sw, bar) (xs (4 * k + 1)) (xs (4 * k + 2))) = 0 := by
      have b9 : (oC_divide (n, own, pd, hv, sw, bar) (xs (4 * k + 1)) (xs (4 * k + 2))) < 2147483648 := Nat.lt_of_le_of_lt divC_le (by omega)
      exact (nI_eq b9 (by omega)).mp (hr1.symm.trans z9)
    obtain ⟨hR1, y9, hy9, ho9⟩ := hw3 hz
    obtain ⟨hv9, ev9, hwz⟩ := hwy hz
    rw [ev9] at hP hD
    have hyr : y9 = r_204 := hy9.trans hv9.symm
    subst hyr
    refine lv_aload_n hx hb dL_law_225 rfl (lv_at hl 5 rfl) ?_
    refine lv_iconst (v := 0) hx hb dL_law_226 (by decide) ?_
    have hout : ∃ fo : Nat → Int64, fo 0 = u1.out ∧ (WCt cI cJ cO h o u1 ++ (WM cI cZ g a v_thrown_c204 (nI (n + 1)) (nI hv) (nI sw) sh cv v_of_c204 v_many_c204 v_colour_c204 org state layers heat burnt v_things_c204 v_history_c204 bars v_set_c204 v_seen_c204 v_pile_c204 isIn order whr tried))[0]? = some (o, .inl (cJ, 1, .inr (.inl fo))) := by obtain ⟨n, hv, sw, m_cap, a, aC, aM, aW, aN, aF, aL, ad, af, br, md, el, ow, su, wr, wc, nr, nc, fr, fc, lq, lh, lw, lsp, x1, x2, x3, x4, x5, qc, qs, ql, qt, qo, qh, qf, qth, v⟩ := u1; exact ⟨v, rfl, rfl⟩
    obtain ⟨fo, hfo, hc0⟩ := hout
    refine va_lald hx hb hK hP 0 1 hc0 rfl (vp_lit rfl) dL_law_227 ?_
    have hf0 : fo (0 : Int32).toNatClampNeg = y9.toInt64 := hfo.trans ho9
    rw [hf0]
    refine lv_iload hx hb dL_law_228 (lv_at hl 0 rfl) ?_
    refine lv_i2l (v := y9.toInt64) hx hb dL_law_230 rfl ?_
    refine W.lcmp hx hb dL_law_231 ?_
    rw [lg_same]
    refine lv_if_eq (tgt := 237) hx hb dL_law_232 (by decide) (fun _ => ?_) (fun q9 => absurd rfl q9)
    refine lv_goto (tgt := 1738) hx hb dL_law_237 (by decide) ?_
    refine W.widen (k := cells + 6) (n := slots + 134) (by omega) (by omega) ?_
    exact K (oS_divide (n, own, pd, hv, sw, bar) (xs (4 * k + 1)) (xs (4 * k + 2))) u1 ((n + 1), hv, sw, a, v_thrown_c204, sh, cv, v_of_c204, v_many_c204, v_colour_c204, org, state, layers, heat, burnt, v_things_c204, v_history_c204, bars, v_set_c204, v_seen_c204, v_pile_c204, isIn, order, whr, tried) _ _ _ hR1 hwz hP hD hS (lv_sub hl [2, 3, 4, 5, 6] rfl)
set_option maxHeartbeats 4000000 in
set_option maxRecDepth 100000 in
theorem k_L_join (C : LC p l s m meth c b L xs D cI cJ cZ cO tD mi) {s0 : SG} {u : KT} {w : KM} {H : Heap} {locs : List Loc} {ls : Array Slot} (hk : 4 * k + 4 ≤ L) (hL : L ≤ 2048) (hR : RCt s0 u) (hM : RMt s0 w) (hP : va_P D vwCl (WCt cI cJ cO h o u ++ WMt cI cZ g w) H) (hD : va_D (AL s) (WCt cI cJ cO h o u ++ WMt cI cZ g w)) (hS : va_S (AL s) s.heap H locs) (hl : lv_has ls 7 [(0, .ref b), (1, .ref h), (2, .ref g), (3, .ref o), (4, .int (nI (4 * k)))]) (hcc : cells + 6 ≤ 601024) (hss : slots + 134 ≤ 7293034) (K : NXT p l e s m below meth c b D cI cJ cZ cO h g o k cells slots Q) : W p l e room_1 s m #[Value.ref b] below meth c H locs cells slots Q (F0 m 308 ls []) := by
  obtain ⟨hx, hb, hr, hml, hown, hts, hX, hbl, hlocks, hst, hK, hE, hT, hLS, hN⟩ := C
  have hA : ∀ q, s.heap.size ≤ q → AL s q := fun _ h9 => h9
  refine lv_aload_n hx hb dL_law_308 rfl (lv_at hl 1 rfl) ?_
  refine sld (k := k) (j := 1) (v := 1) hx hb hX hbl hS hl (lv_at hl 0 rfl) (lv_at hl 4 rfl) (nI_add _ _) (by decide) (by omega) hL dL_law_309 dL_law_310 dL_law_312 dL_law_313 dL_law_314 ?_
  refine sld (k := k) (j := 2) (v := 2) hx hb hX hbl hS hl (lv_at hl 0 rfl) (lv_at hl 4 rfl) (nI_add _ _) (by decide) (by omega) hL dL_law_315 dL_law_316 dL_law_318 dL_law_319 dL_law_320 ?_
  refine lv_aload_n hx hb dL_law_321 rfl (lv_at hl 3 rfl) ?_
  have hCut := Cut.left hP hD hS hA (cut_all (w1 := fun (u : KT) => WCt cI cJ cO h o u) (va_P_app.mp hP).1 (hD.inner (n := H.size)).1 va_S.rf (fun q h9 => Or.inr h9))
  refine ca_i (wa := fun (u1 : KT) => WCt cI cJ cO h o u1 ++ WMt cI cZ g w) hCut hS (vx_runSW (As := [.ref h, .int (xs (4 * k + 1)), .int (xs (4 * k + 2)), .ref o]) (rest := []) ⟨hx, hb, hml, hown, hts⟩ (c_L_join l D hst cI cJ cZ cO tD mi h o s0 u _ (xs (4 * k + 1)) (xs (4 * k + 2)) hR) (vx_cwSW 4 hts gL_law_L_join rfl rfl rfl (by decide +kernel) ⟨Nat.le_of_ble_eq_true rfl, Nat.le_of_ble_eq_true rfl⟩) (hCut.preSW hK hE hT hLS hN hS) rfl rfl hl.1 rfl (lv_room (Nat.le_of_ble_eq_true rfl)) dL_law_322 ⟨by show cells + 3 ≤ 601024; omega, by show slots + 18 ≤ 7293034; omega⟩) (fun r u1 H locs hw1 hP hD hS => ?_)
  obtain ⟨hr1, hw2, hw3⟩ := hw1
  refine lv_istore (lv' := [(5, .int r), (0, .ref b), (1, .ref h), (2, .ref g), (3, .ref o), (4, .int (nI (4 * k)))]) hx hb dL_law_325 hl (by decide) rfl (fun ls hl => ?_)
  have hI := KT.is hR
  obtain ⟨N, own, pd, HW, SW, bar⟩ := s0
  obtain ⟨hO, hIP, hsw, hb5⟩ := hI
  obtain ⟨n, hv, sw, a, t, sh, cv, of, many, colour, org, state, layers, heat, burnt, things, history, bars, set, seen, pile, isIn, order, whr, tried⟩ := w
  obtain ⟨e1, e2, e3, ho, hmn, r0, r1, r2, r3, r4, r5, r10, r15, hfb⟩ := hM
  dsimp only at e1 e2 e3 ho hmn r0 r1 r2 r3 r4 r5 r10 r15 hfb hO hIP hsw hb5
  subst e1 e2 e3
  refine lv_aload_n hx hb dL_law_327 rfl (lv_at hl 3 rfl) ?_
  refine sld (k := k) (j := 1) (v := 1) hx hb hX hbl hS hl (lv_at hl 1 rfl) (lv_at hl 5 rfl) (nI_add _ _) (by decide) (by omega) hL dL_law_328 dL_law_329 dL_law_331 dL_law_332 dL_law_333 ?_
  refine sld (k := k) (j := 2) (v := 2) hx hb hX hbl hS hl (lv_at hl 1 rfl) (lv_at hl 5 rfl) (nI_add _ _) (by decide) (by omega) hL dL_law_334 dL_law_335 dL_law_337 dL_law_338 dL_law_339 ?_
  have hw : wp_X5_join t (nI n) of many org things history (xs (4 * k + 1)) (xs (4 * k + 2)) (fun r_340 v_thrown_c340 v_of_c340 v_many_c340 v_things_c340 v_history_c340 => v_thrown_c340 = nI (oC_join (n, own, pd, hv, sw, bar) (xs (4 * k + 1)) (xs (4 * k + 2))) ∧ (¬ (oC_join (n, own, pd, hv, sw, bar) (xs (4 * k + 1)) (xs (4 * k + 2))) = 0 → RMt (n, own, pd, hv, sw, bar) (n, hv, sw, a, v_thrown_c340, sh, cv, v_of_c340, v_many_c340, colour, org, state, layers, heat, burnt, v_things_c340, v_history_c340, bars, set, seen, pile, isIn, order, whr, tried)) ∧ ((oC_join (n, own, pd, hv, sw, bar) (xs (4 * k + 1)) (xs (4 * k + 2))) = 0 → (oV_join (n, own, pd, hv, sw, bar) (xs (4 * k + 1)) (xs (4 * k + 2))) r_340 ∧ RMt (oS_join (n, own, pd, hv, sw, bar) (xs (4 * k + 1)) (xs (4 * k + 2))) (n, hv, sw, a, v_thrown_c340, sh, cv, v_of_c340, v_many_c340, colour, org, state, layers, heat, burnt, v_things_c340, v_history_c340, bars, set, seen, pile, isIn, order, whr, tried))) := m_join hO hIP ho hmn r4 r3 r15 (fun gg => ⟨rfl, fun _ => ⟨rfl, rfl, rfl, ho, hmn, r0, r1, r2, r3, r4, r5, r10, r15, hfb⟩, fun z => absurd z gg⟩) (fun gg e1 e2 of9 many9 pd9 hpd a3 a15 k0 kn q3 q15 => by subst hpd; exact ⟨by rw [show (oC_join (n, own, pd, hv, sw, bar) (xs (4 * k + 1)) (xs (4 * k + 2))) = 0 from gg]; rfl, fun z => absurd (show (oC_join (n, own, pd, hv, sw, bar) (xs (4 * k + 1)) (xs (4 * k + 2))) = 0 from gg) z, fun _ => ⟨rfl, ⟨rfl, rfl, rfl, k0, kn, (r0.keep (fun i => lo_two (by omega))), (r1.keep (fun i => lo_two (by omega))), (r2.keep (fun i => lo_two (by omega))), q3, (r4.keep (fun i => lo_two (by omega))), (r5.keep (fun i j hj => lo_two (by omega))), (r10.keep (fun i j hj => lo_two (by omega))), q15, hfb⟩⟩⟩)
  have hCut := Cut.right hP hD hS hA (cut0 (S := Int32 × (Nat → Int32) × (Nat → Int32) × (Nat → Int32) × (Nat → Int32)) (X := (WM cI cZ g a t (nI n) (nI hv) (nI sw) sh cv of many colour org state layers heat burnt things history bars set seen pile isIn order whr tried)) (cx := (W_X5_join g a cI cJ cZ t (nI n) of many org things history (nI hv) (nI sw) sh cv)) (pl := []) (w1 := fun (u : Int32 × (Nat → Int32) × (Nat → Int32) × (Nat → Int32) × (Nat → Int32)) => (W_X5_join g a cI cJ cZ u.1 (nI n) u.2.1 u.2.2.1 org u.2.2.2.1 u.2.2.2.2 (nI hv) (nI sw) sh cv)) (X' := fun (u : Int32 × (Nat → Int32) × (Nat → Int32) × (Nat → Int32) × (Nat → Int32)) => (WM cI cZ g a u.1 (nI n) (nI hv) (nI sw) sh cv u.2.1 u.2.2.1 colour org state layers heat burnt u.2.2.2.1 u.2.2.2.2 bars set seen pile isIn order whr tried)) (va_P_app.mp hP).2 (hD.inner (n := H.size)).2 va_S.rf (fun q h9 => Or.inr h9) [0, 1, 2, 4, 9, 10] [3, 5, 6, 7, 8, 11, 12, 13, 14, 15, 16, 17, 18] [13, 14, 15, 0, 16, 1, 2, 3, 4, 17, 18, 5, 6, 7, 8, 9, 10, 11, 12] rfl rfl (by decide) (by decide) (by decide) (fun u => rfl) (by decide))
  refine ca_i (wa := fun (u : Int32 × (Nat → Int32) × (Nat → Int32) × (Nat → Int32) × (Nat → Int32)) => WCt cI cJ cO h o u1 ++ (WM cI cZ g a u.1 (nI n) (nI hv) (nI sw) sh cv u.2.1 u.2.2.1 colour org state layers heat burnt u.2.2.2.1 u.2.2.2.2 bars set seen pile isIn order whr tried)) hCut hS (va_runV (As := [.int (xs (4 * k + 1)), .int (xs (4 * k + 2))]) (rest := []) ⟨hx, hb, hml, hown, hts⟩ (c_X5_join l D cI cJ cZ cO g a H.size t (nI n) of many org things history (nI hv) (nI sw) sh cv (xs (4 * k + 1)) (xs (4 * k + 2)) _ hw) (cwV 2 hts gL_law_X5_join rfl rfl rfl (by decide +kernel) ⟨Nat.le_of_ble_eq_true rfl, Nat.le_of_ble_eq_true rfl⟩) (hCut.preV (qb := 0) (ci := 6) hK hE rfl rfl) rfl rfl hl.1 rfl (lv_room (Nat.le_of_ble_eq_true rfl)) dL_law_340 ⟨by show _ ≤ 601024; simp only [Nat.add_zero]; omega, by show _ ≤ 7293034; simp only [Nat.add_zero]; omega⟩) (fun r_340 u H locs hw hP hD hS => ?_)
  obtain ⟨v_thrown_c340, v_of_c340, v_many_c340, v_things_c340, v_history_c340⟩ := u
  try dsimp only at hw
  obtain ⟨ht3, hwn, hwy⟩ := hw
  refine lv_istore (lv' := [(6, .int r_340), (5, .int r), (0, .ref b), (1, .ref h), (2, .ref g), (3, .ref o), (4, .int (nI (4 * k)))]) hx hb dL_law_343 hl (by decide) rfl (fun ls hl => ?_)
  refine lv_aload_n hx hb dL_law_345 rfl (lv_at hl 4 rfl) ?_
  have hw : wp_X5_thrown v_thrown_c340 (fun r => r = v_thrown_c340) := by unfold wp_X5_thrown; rfl
  have hCut := Cut.right hP hD hS hA (cut0 (S := Unit) (X := (WM cI cZ g a v_thrown_c340 (nI n) (nI hv) (nI sw) sh cv v_of_c340 v_many_c340 colour org state layers heat burnt v_things_c340 v_history_c340 bars set seen pile isIn order whr tried)) (cx := (W_X5_thrown g a cI cJ cZ v_thrown_c340 (nI n) (nI hv) (nI sw) sh cv)) (pl := []) (w1 := fun (u : Unit) => (W_X5_thrown g a cI cJ cZ v_thrown_c340 (nI n) (nI hv) (nI sw) sh cv)) (X' := fun (u : Unit) => (WM cI cZ g a v_thrown_c340 (nI n) (nI hv) (nI sw) sh cv v_of_c340 v_many_c340 colour org state layers heat burnt v_things_c340 v_history_c340 bars set seen pile isIn order whr tried)) (va_P_app.mp hP).2 (hD.inner (n := H.size)).2 va_S.rf (fun q h9 => Or.inr h9) [0] [1, 2, 3, 4, 5, 6, 7, 8, 9, 10, 11, 12, 13, 14, 15, 16, 17, 18] [18, 0, 1, 2, 3, 4, 5, 6, 7, 8, 9, 10, 11, 12, 13, 14, 15, 16, 17] rfl rfl (by decide) (by decide) (by decide) (fun u => rfl) (by decide))
  refine ca_i (wa := fun (u : Unit) => WCt cI cJ cO h o u1 ++ (WM cI cZ g a v_thrown_c340 (nI n) (nI hv) (nI sw) sh cv v_of_c340 v_many_c340 colour org state layers heat burnt v_things_c340 v_history_c340 bars set seen pile isIn order whr tried)) hCut hS (va_runV (As := []) (rest := []) ⟨hx, hb, hml, hown, hts⟩ (c_X5_thrown l D cI cJ cZ cO g a H.size v_thrown_c340 (nI n) (nI hv) (nI sw) sh cv _ hw) (cwV 0 hts gL_law_X5_thrown rfl rfl rfl (by decide +kernel) ⟨Nat.le_of_ble_eq_true rfl, Nat.le_of_ble_eq_true rfl⟩) (hCut.preV (qb := 0) (ci := 6) hK hE rfl rfl) rfl rfl hl.1 rfl (lv_room (Nat.le_of_ble_eq_true rfl)) dL_law_346 ⟨by show _ ≤ 601024; simp only [Nat.add_zero]; omega, by show _ ≤ 7293034; simp only [Nat.add_zero]; omega⟩) (fun r_346 _ H locs hw hP hD hS => ?_)
  try dsimp only at hw
  have hrr : r_346 = r := by rw [hw, ht3, hr1]
  refine lv_iload hx hb dL_law_349 (lv_at hl 1 rfl) ?_
  refine lv_icmp_eq (tgt := 356) hx hb dL_law_351 (by decide) (fun _ => ?_) (fun z9 => absurd hrr z9)
  refine lv_iload hx hb dL_law_356 (lv_at hl 1 rfl) ?_
  refine lv_if_ne (tgt := 373) hx hb dL_law_358 (by decide) (fun z9 => ?_) (fun z9 => ?_)
  · have hz : ¬ (oC_join (n, own, pd, hv, sw, bar) (xs (4 * k + 1)) (xs (4 * k + 2))) = 0 := fun q9 => z9 (by rw [hr1, q9]; rfl)
    have hwn := hwn hz
    refine lv_goto (tgt := 1738) hx hb dL_law_373 (by decide) ?_
    refine W.widen (k := cells + 6) (n := slots + 134) (by omega) (by omega) ?_
    exact K (n, own, pd, hv, sw, bar) u1 (n, hv, sw, a, v_thrown_c340, sh, cv, v_of_c340, v_many_c340, colour, org, state, layers, heat, burnt, v_things_c340, v_history_c340, bars, set, seen, pile, isIn, order, whr, tried) _ _ _ (hw2 hz) hwn hP hD hS (lv_sub hl [2, 3, 4, 5, 6] rfl)
  · have hz : (oC_join (n, own, pd, hv, sw, bar) (xs (4 * k + 1)) (xs (4 * k + 2))) = 0 := by
      have b9 : (oC_join (n, own, pd, hv, sw, bar) (xs (4 * k + 1)) (xs (4 * k + 2))) < 2147483648 := Nat.lt_of_le_of_lt joinC_le (by omega)
      exact (nI_eq b9 (by omega)).mp (hr1.symm.trans z9)
    obtain ⟨hR1, y9, hy9, ho9⟩ := hw3 hz
    obtain ⟨hv9, hwz⟩ := hwy hz
    have hyr : y9 = r_340 := hy9.trans hv9.symm
    subst hyr
    refine lv_aload_n hx hb dL_law_361 rfl (lv_at hl 5 rfl) ?_
    refine lv_iconst (v := 0) hx hb dL_law_362 (by decide) ?_
    have hout : ∃ fo : Nat → Int64, fo 0 = u1.out ∧ (WCt cI cJ cO h o u1 ++ (WM cI cZ g a v_thrown_c340 (nI n) (nI hv) (nI sw) sh cv v_of_c340 v_many_c340 colour org state layers heat burnt v_things_c340 v_history_c340 bars set seen pile isIn order whr tried))[0]? = some (o, .inl (cJ, 1, .inr (.inl fo))) := by obtain ⟨n, hv, sw, m_cap, a, aC, aM, aW, aN, aF, aL, ad, af, br, md, el, ow, su, wr, wc, nr, nc, fr, fc, lq, lh, lw, lsp, x1, x2, x3, x4, x5, qc, qs, ql, qt, qo, qh, qf, qth, v⟩ := u1; exact ⟨v, rfl, rfl⟩
    obtain ⟨fo, hfo, hc0⟩ := hout
    refine va_lald hx hb hK hP 0 1 hc0 rfl (vp_lit rfl) dL_law_363 ?_
    have hf0 : fo (0 : Int32).toNatClampNeg = y9.toInt64 := hfo.trans ho9
    rw [hf0]
    refine lv_iload hx hb dL_law_364 (lv_at hl 0 rfl) ?_
    refine lv_i2l (v := y9.toInt64) hx hb dL_law_366 rfl ?_
    refine W.lcmp hx hb dL_law_367 ?_
    rw [lg_same]
    refine lv_if_eq (tgt := 373) hx hb dL_law_368 (by decide) (fun _ => ?_) (fun q9 => absurd rfl q9)
    refine lv_goto (tgt := 1738) hx hb dL_law_373 (by decide) ?_
    refine W.widen (k := cells + 6) (n := slots + 134) (by omega) (by omega) ?_
    exact K (oS_join (n, own, pd, hv, sw, bar) (xs (4 * k + 1)) (xs (4 * k + 2))) u1 (n, hv, sw, a, v_thrown_c340, sh, cv, v_of_c340, v_many_c340, colour, org, state, layers, heat, burnt, v_things_c340, v_history_c340, bars, set, seen, pile, isIn, order, whr, tried) _ _ _ hR1 hwz hP hD hS (lv_sub hl [2, 3, 4, 5, 6] rfl)
set_option maxHeartbeats 4000000 in
set_option maxRecDepth 100000 in
theorem k_L_colour (C : LC p l s m meth c b L xs D cI cJ cZ cO tD mi) {s0 : SG} {u : KT} {w : KM} {H : Heap} {locs : List Loc} {ls : Array Slot} (hk : 4 * k + 4 ≤ L) (hL : L ≤ 2048) (hR : RCt s0 u) (hM : RMt s0 w) (hP : va_P D vwCl (WCt cI cJ cO h o u ++ WMt cI cZ g w) H) (hD : va_D (AL s) (WCt cI cJ cO h o u ++ WMt cI cZ g w)) (hS : va_S (AL s) s.heap H locs) (hl : lv_has ls 7 [(0, .ref b), (1, .ref h), (2, .ref g), (3, .ref o), (4, .int (nI (4 * k)))]) (hcc : cells + 6 ≤ 601024) (hss : slots + 134 ≤ 7293034) (K : NXT p l e s m below meth c b D cI cJ cZ cO h g o k cells slots Q) : W p l e room_1 s m #[Value.ref b] below meth c H locs cells slots Q (F0 m 376 ls []) := by
  obtain ⟨hx, hb, hr, hml, hown, hts, hX, hbl, hlocks, hst, hK, hE, hT, hLS, hN⟩ := C
  have hA : ∀ q, s.heap.size ≤ q → AL s q := fun _ h9 => h9
  refine lv_aload_n hx hb dL_law_376 rfl (lv_at hl 1 rfl) ?_
  refine sld (k := k) (j := 1) (v := 1) hx hb hX hbl hS hl (lv_at hl 0 rfl) (lv_at hl 4 rfl) (nI_add _ _) (by decide) (by omega) hL dL_law_377 dL_law_378 dL_law_380 dL_law_381 dL_law_382 ?_
  refine sld (k := k) (j := 2) (v := 2) hx hb hX hbl hS hl (lv_at hl 0 rfl) (lv_at hl 4 rfl) (nI_add _ _) (by decide) (by omega) hL dL_law_383 dL_law_384 dL_law_386 dL_law_387 dL_law_388 ?_
  refine lv_aload_n hx hb dL_law_389 rfl (lv_at hl 3 rfl) ?_
  have hCut := Cut.left hP hD hS hA (cut_all (w1 := fun (u : KT) => WCt cI cJ cO h o u) (va_P_app.mp hP).1 (hD.inner (n := H.size)).1 va_S.rf (fun q h9 => Or.inr h9))
  refine ca_i (wa := fun (u1 : KT) => WCt cI cJ cO h o u1 ++ WMt cI cZ g w) hCut hS (vx_runSW (As := [.ref h, .int (xs (4 * k + 1)), .int (xs (4 * k + 2)), .ref o]) (rest := []) ⟨hx, hb, hml, hown, hts⟩ (c_L_colour l D hst cI cJ cZ cO tD mi h o s0 u _ (xs (4 * k + 1)) (xs (4 * k + 2)) hR) (vx_cwSW 4 hts gL_law_L_colour rfl rfl rfl (by decide +kernel) ⟨Nat.le_of_ble_eq_true rfl, Nat.le_of_ble_eq_true rfl⟩) (hCut.preSW hK hE hT hLS hN hS) rfl rfl hl.1 rfl (lv_room (Nat.le_of_ble_eq_true rfl)) dL_law_390 ⟨by show cells + 3 ≤ 601024; omega, by show slots + 18 ≤ 7293034; omega⟩) (fun r u1 H locs hw1 hP hD hS => ?_)
  obtain ⟨hr1, hw2, hw3⟩ := hw1
  refine lv_istore (lv' := [(5, .int r), (0, .ref b), (1, .ref h), (2, .ref g), (3, .ref o), (4, .int (nI (4 * k)))]) hx hb dL_law_393 hl (by decide) rfl (fun ls hl => ?_)
  have hI := KT.is hR
  obtain ⟨N, own, pd, HW, SW, bar⟩ := s0
  obtain ⟨hO, hIP, hsw, hb5⟩ := hI
  obtain ⟨n, hv, sw, a, t, sh, cv, of, many, colour, org, state, layers, heat, burnt, things, history, bars, set, seen, pile, isIn, order, whr, tried⟩ := w
  obtain ⟨e1, e2, e3, ho, hmn, r0, r1, r2, r3, r4, r5, r10, r15, hfb⟩ := hM
  dsimp only at e1 e2 e3 ho hmn r0 r1 r2 r3 r4 r5 r10 r15 hfb hO hIP hsw hb5
  subst e1 e2 e3
  refine lv_aload_n hx hb dL_law_395 rfl (lv_at hl 3 rfl) ?_
  refine sld (k := k) (j := 1) (v := 1) hx hb hX hbl hS hl (lv_at hl 1 rfl) (lv_at hl 5 rfl) (nI_add _ _) (by decide) (by omega) hL dL_law_396 dL_law_397 dL_law_399 dL_law_400 dL_law_401 ?_
  refine sld (k := k) (j := 2) (v := 2) hx hb hX hbl hS hl (lv_at hl 1 rfl) (lv_at hl 5 rfl) (nI_add _ _) (by decide) (by omega) hL dL_law_402 dL_law_403 dL_law_405 dL_law_406 dL_law_407 ?_
  have hw : wp_X5_colour t (nI n) many colour org things history (xs (4 * k + 1)) (xs (4 * k + 2)) (fun r_408 v_thrown_c408 v_colour_c408 v_things_c408 v_history_c408 => v_thrown_c408 = nI (oC_colour (n, own, pd, hv, sw, bar) (xs (4 * k + 1)) (xs (4 * k + 2))) ∧ (¬ (oC_colour (n, own, pd, hv, sw, bar) (xs (4 * k + 1)) (xs (4 * k + 2))) = 0 → RMt (n, own, pd, hv, sw, bar) (n, hv, sw, a, v_thrown_c408, sh, cv, of, many, v_colour_c408, org, state, layers, heat, burnt, v_things_c408, v_history_c408, bars, set, seen, pile, isIn, order, whr, tried)) ∧ ((oC_colour (n, own, pd, hv, sw, bar) (xs (4 * k + 1)) (xs (4 * k + 2))) = 0 → (oV_colour (n, own, pd, hv, sw, bar) (xs (4 * k + 1)) (xs (4 * k + 2))) r_408 ∧ RMt (oS_colour (n, own, pd, hv, sw, bar) (xs (4 * k + 1)) (xs (4 * k + 2))) (n, hv, sw, a, v_thrown_c408, sh, cv, of, many, v_colour_c408, org, state, layers, heat, burnt, v_things_c408, v_history_c408, bars, set, seen, pile, isIn, order, whr, tried))) := m_colour hO hIP hmn r0 r4 r3 r15 (fun gg => ⟨rfl, fun _ => ⟨rfl, rfl, rfl, ho, hmn, r0, r1, r2, r3, r4, r5, r10, r15, hfb⟩, fun z => absurd z gg⟩) (fun gg e1 e2 a0 a3 a15 q0 q3 q15 => by exact ⟨by rw [show (oC_colour (n, own, pd, hv, sw, bar) (xs (4 * k + 1)) (xs (4 * k + 2))) = 0 from gg]; rfl, fun z => absurd (show (oC_colour (n, own, pd, hv, sw, bar) (xs (4 * k + 1)) (xs (4 * k + 2))) = 0 from gg) z, fun _ => ⟨rfl, ⟨rfl, rfl, rfl, ho, hmn, q0, (r1.keep (fun i => lo_col (by omega))), (r2.keep (fun i => lo_col (by omega))), q3, (r4.keep (fun i => lo_col (by omega))), (r5.keep (fun i j hj => lo_col (by omega))), (r10.keep (fun i j hj => lo_col (by omega))), q15, hfb⟩⟩⟩)
  have hCut := Cut.right hP hD hS hA (cut0 (S := Int32 × (Nat → Int32) × (Nat → Int32) × (Nat → Int32)) (X := (WM cI cZ g a t (nI n) (nI hv) (nI sw) sh cv of many colour org state layers heat burnt things history bars set seen pile isIn order whr tried)) (cx := (W_X5_colour g a cI cJ cZ t (nI n) many colour org things history (nI hv) (nI sw) sh cv)) (pl := []) (w1 := fun (u : Int32 × (Nat → Int32) × (Nat → Int32) × (Nat → Int32)) => (W_X5_colour g a cI cJ cZ u.1 (nI n) many u.2.1 org u.2.2.1 u.2.2.2 (nI hv) (nI sw) sh cv)) (X' := fun (u : Int32 × (Nat → Int32) × (Nat → Int32) × (Nat → Int32)) => (WM cI cZ g a u.1 (nI n) (nI hv) (nI sw) sh cv of many u.2.1 org state layers heat burnt u.2.2.1 u.2.2.2 bars set seen pile isIn order whr tried)) (va_P_app.mp hP).2 (hD.inner (n := H.size)).2 va_S.rf (fun q h9 => Or.inr h9) [0, 2, 3, 4, 9, 10] [1, 5, 6, 7, 8, 11, 12, 13, 14, 15, 16, 17, 18] [13, 0, 14, 15, 16, 1, 2, 3, 4, 17, 18, 5, 6, 7, 8, 9, 10, 11, 12] rfl rfl (by decide) (by decide) (by decide) (fun u => rfl) (by decide))
  refine ca_i (wa := fun (u : Int32 × (Nat → Int32) × (Nat → Int32) × (Nat → Int32)) => WCt cI cJ cO h o u1 ++ (WM cI cZ g a u.1 (nI n) (nI hv) (nI sw) sh cv of many u.2.1 org state layers heat burnt u.2.2.1 u.2.2.2 bars set seen pile isIn order whr tried)) hCut hS (va_runV (As := [.int (xs (4 * k + 1)), .int (xs (4 * k + 2))]) (rest := []) ⟨hx, hb, hml, hown, hts⟩ (c_X5_colour l D cI cJ cZ cO g a H.size t (nI n) many colour org things history (nI hv) (nI sw) sh cv (xs (4 * k + 1)) (xs (4 * k + 2)) _ hw) (cwV 2 hts gL_law_X5_colour rfl rfl rfl (by decide +kernel) ⟨Nat.le_of_ble_eq_true rfl, Nat.le_of_ble_eq_true rfl⟩) (hCut.preV (qb := 0) (ci := 6) hK hE rfl rfl) rfl rfl hl.1 rfl (lv_room (Nat.le_of_ble_eq_true rfl)) dL_law_408 ⟨by show _ ≤ 601024; simp only [Nat.add_zero]; omega, by show _ ≤ 7293034; simp only [Nat.add_zero]; omega⟩) (fun r_408 u H locs hw hP hD hS => ?_)
  obtain ⟨v_thrown_c408, v_colour_c408, v_things_c408, v_history_c408⟩ := u
  try dsimp only at hw
  obtain ⟨ht3, hwn, hwy⟩ := hw
  refine lv_istore (lv' := [(6, .int r_408), (5, .int r), (0, .ref b), (1, .ref h), (2, .ref g), (3, .ref o), (4, .int (nI (4 * k)))]) hx hb dL_law_411 hl (by decide) rfl (fun ls hl => ?_)
  refine lv_aload_n hx hb dL_law_413 rfl (lv_at hl 4 rfl) ?_
  have hw : wp_X5_thrown v_thrown_c408 (fun r => r = v_thrown_c408) := by unfold wp_X5_thrown; rfl
  have hCut := Cut.right hP hD hS hA (cut0 (S := Unit) (X := (WM cI cZ g a v_thrown_c408 (nI n) (nI hv) (nI sw) sh cv of many v_colour_c408 org state layers heat burnt v_things_c408 v_history_c408 bars set seen pile isIn order whr tried)) (cx := (W_X5_thrown g a cI cJ cZ v_thrown_c408 (nI n) (nI hv) (nI sw) sh cv)) (pl := []) (w1 := fun (u : Unit) => (W_X5_thrown g a cI cJ cZ v_thrown_c408 (nI n) (nI hv) (nI sw) sh cv)) (X' := fun (u : Unit) => (WM cI cZ g a v_thrown_c408 (nI n) (nI hv) (nI sw) sh cv of many v_colour_c408 org state layers heat burnt v_things_c408 v_history_c408 bars set seen pile isIn order whr tried)) (va_P_app.mp hP).2 (hD.inner (n := H.size)).2 va_S.rf (fun q h9 => Or.inr h9) [0] [1, 2, 3, 4, 5, 6, 7, 8, 9, 10, 11, 12, 13, 14, 15, 16, 17, 18] [18, 0, 1, 2, 3, 4, 5, 6, 7, 8, 9, 10, 11, 12, 13, 14, 15, 16, 17] rfl rfl (by decide) (by decide) (by decide) (fun u => rfl) (by decide))
  refine ca_i (wa := fun (u : Unit) => WCt cI cJ cO h o u1 ++ (WM cI cZ g a v_thrown_c408 (nI n) (nI hv) (nI sw) sh cv of many v_colour_c408 org state layers heat burnt v_things_c408 v_history_c408 bars set seen pile isIn order whr tried)) hCut hS (va_runV (As := []) (rest := []) ⟨hx, hb, hml, hown, hts⟩ (c_X5_thrown l D cI cJ cZ cO g a H.size v_thrown_c408 (nI n) (nI hv) (nI sw) sh cv _ hw) (cwV 0 hts gL_law_X5_thrown rfl rfl rfl (by decide +kernel) ⟨Nat.le_of_ble_eq_true rfl, Nat.le_of_ble_eq_true rfl⟩) (hCut.preV (qb := 0) (ci := 6) hK hE rfl rfl) rfl rfl hl.1 rfl (lv_room (Nat.le_of_ble_eq_true rfl)) dL_law_414 ⟨by show _ ≤ 601024; simp only [Nat.add_zero]; omega, by show _ ≤ 7293034; simp only [Nat.add_zero]; omega⟩) (fun r_414 _ H locs hw hP hD hS => ?_)
  try dsimp only at hw
  have hrr : r_414 = r := by rw [hw, ht3, hr1]
  refine lv_iload hx hb dL_law_417 (lv_at hl 1 rfl) ?_
  refine lv_icmp_eq (tgt := 424) hx hb dL_law_419 (by decide) (fun _ => ?_) (fun z9 => absurd hrr z9)
  refine lv_iload hx hb dL_law_424 (lv_at hl 1 rfl) ?_
  refine lv_if_ne (tgt := 441) hx hb dL_law_426 (by decide) (fun z9 => ?_) (fun z9 => ?_)
  · have hz : ¬ (oC_colour (n, own, pd, hv, sw, bar) (xs (4 * k + 1)) (xs (4 * k + 2))) = 0 := fun q9 => z9 (by rw [hr1, q9]; rfl)
    have hwn := hwn hz
    refine lv_goto (tgt := 1738) hx hb dL_law_441 (by decide) ?_
    refine W.widen (k := cells + 6) (n := slots + 134) (by omega) (by omega) ?_
    exact K (n, own, pd, hv, sw, bar) u1 (n, hv, sw, a, v_thrown_c408, sh, cv, of, many, v_colour_c408, org, state, layers, heat, burnt, v_things_c408, v_history_c408, bars, set, seen, pile, isIn, order, whr, tried) _ _ _ (hw2 hz) hwn hP hD hS (lv_sub hl [2, 3, 4, 5, 6] rfl)
  · have hz : (oC_colour (n, own, pd, hv, sw, bar) (xs (4 * k + 1)) (xs (4 * k + 2))) = 0 := by
      have b9 : (oC_colour (n, own, pd, hv, sw, bar) (xs (4 * k + 1)) (xs (4 * k + 2))) < 2147483648 := Nat.lt_of_le_of_lt colC_le (by omega)
      exact (nI_eq b9 (by omega)).mp (hr1.symm.trans z9)
    obtain ⟨hR1, y9, hy9, ho9⟩ := hw3 hz
    obtain ⟨hv9, hwz⟩ := hwy hz
    have hyr : y9 = r_408 := hy9.trans hv9.symm
    subst hyr
    refine lv_aload_n hx hb dL_law_429 rfl (lv_at hl 5 rfl) ?_
    refine lv_iconst (v := 0) hx hb dL_law_430 (by decide) ?_
    have hout : ∃ fo : Nat → Int64, fo 0 = u1.out ∧ (WCt cI cJ cO h o u1 ++ (WM cI cZ g a v_thrown_c408 (nI n) (nI hv) (nI sw) sh cv of many v_colour_c408 org state layers heat burnt v_things_c408 v_history_c408 bars set seen pile isIn order whr tried))[0]? = some (o, .inl (cJ, 1, .inr (.inl fo))) := by obtain ⟨n, hv, sw, m_cap, a, aC, aM, aW, aN, aF, aL, ad, af, br, md, el, ow, su, wr, wc, nr, nc, fr, fc, lq, lh, lw, lsp, x1, x2, x3, x4, x5, qc, qs, ql, qt, qo, qh, qf, qth, v⟩ := u1; exact ⟨v, rfl, rfl⟩
    obtain ⟨fo, hfo, hc0⟩ := hout
    refine va_lald hx hb hK hP 0 1 hc0 rfl (vp_lit rfl) dL_law_431 ?_
    have hf0 : fo (0 : Int32).toNatClampNeg = y9.toInt64 := hfo.trans ho9
    rw [hf0]
    refine lv_iload hx hb dL_law_432 (lv_at hl 0 rfl) ?_
    refine lv_i2l (v := y9.toInt64) hx hb dL_law_434 rfl ?_
    refine W.lcmp hx hb dL_law_435 ?_
    rw [lg_same]
    refine lv_if_eq (tgt := 441) hx hb dL_law_436 (by decide) (fun _ => ?_) (fun q9 => absurd rfl q9)
    refine lv_goto (tgt := 1738) hx hb dL_law_441 (by decide) ?_
    refine W.widen (k := cells + 6) (n := slots + 134) (by omega) (by omega) ?_
    exact K (oS_colour (n, own, pd, hv, sw, bar) (xs (4 * k + 1)) (xs (4 * k + 2))) u1 (n, hv, sw, a, v_thrown_c408, sh, cv, of, many, v_colour_c408, org, state, layers, heat, burnt, v_things_c408, v_history_c408, bars, set, seen, pile, isIn, order, whr, tried) _ _ _ hR1 hwz hP hD hS (lv_sub hl [2, 3, 4, 5, 6] rfl)
set_option maxHeartbeats 4000000 in
set_option maxRecDepth 100000 in
theorem k_L_heart (C : LC p l s m meth c b L xs D cI cJ cZ cO tD mi) {s0 : SG} {u : KT} {w : KM} {H : Heap} {locs : List Loc} {ls : Array Slot} (hk : 4 * k + 4 ≤ L) (hL : L ≤ 2048) (hR : RCt s0 u) (hM : RMt s0 w) (hP : va_P D vwCl (WCt cI cJ cO h o u ++ WMt cI cZ g w) H) (hD : va_D (AL s) (WCt cI cJ cO h o u ++ WMt cI cZ g w)) (hS : va_S (AL s) s.heap H locs) (hl : lv_has ls 7 [(0, .ref b), (1, .ref h), (2, .ref g), (3, .ref o), (4, .int (nI (4 * k)))]) (hcc : cells + 6 ≤ 601024) (hss : slots + 134 ≤ 7293034) (K : NXT p l e s m below meth c b D cI cJ cZ cO h g o k cells slots Q) : W p l e room_1 s m #[Value.ref b] below meth c H locs cells slots Q (F0 m 457 ls []) := by
  obtain ⟨hx, hb, hr, hml, hown, hts, hX, hbl, hlocks, hst, hK, hE, hT, hLS, hN⟩ := C
  have hA : ∀ q, s.heap.size ≤ q → AL s q := fun _ h9 => h9
  refine lv_aload_n hx hb dL_law_457 rfl (lv_at hl 1 rfl) ?_
  refine sld (k := k) (j := 1) (v := 1) hx hb hX hbl hS hl (lv_at hl 0 rfl) (lv_at hl 4 rfl) (nI_add _ _) (by decide) (by omega) hL dL_law_458 dL_law_459 dL_law_461 dL_law_462 dL_law_463 ?_
  refine lv_aload_n hx hb dL_law_464 rfl (lv_at hl 3 rfl) ?_
  have hCut := Cut.left hP hD hS hA (cut_all (w1 := fun (u : KT) => WCt cI cJ cO h o u) (va_P_app.mp hP).1 (hD.inner (n := H.size)).1 va_S.rf (fun q h9 => Or.inr h9))
  refine ca_i (wa := fun (u1 : KT) => WCt cI cJ cO h o u1 ++ WMt cI cZ g w) hCut hS (vx_runSW (As := [.ref h, .int (xs (4 * k + 1)), .ref o]) (rest := []) ⟨hx, hb, hml, hown, hts⟩ (c_L_heart l D hst cI cJ cZ cO tD mi h o s0 u _ (xs (4 * k + 1)) hR) (vx_cwSW 3 hts gL_law_L_heart rfl rfl rfl (by decide +kernel) ⟨Nat.le_of_ble_eq_true rfl, Nat.le_of_ble_eq_true rfl⟩) (hCut.preSW hK hE hT hLS hN hS) rfl rfl hl.1 rfl (lv_room (Nat.le_of_ble_eq_true rfl)) dL_law_465 ⟨by show cells + 1 ≤ 601024; omega, by show slots + 6 ≤ 7293034; omega⟩) (fun r u1 H locs hw1 hP hD hS => ?_)
  obtain ⟨hr1, hw2, hw3⟩ := hw1
  refine lv_istore (lv' := [(5, .int r), (0, .ref b), (1, .ref h), (2, .ref g), (3, .ref o), (4, .int (nI (4 * k)))]) hx hb dL_law_468 hl (by decide) rfl (fun ls hl => ?_)
  have hI := KT.is hR
  obtain ⟨N, own, pd, HW, SW, bar⟩ := s0
  obtain ⟨hO, hIP, hsw, hb5⟩ := hI
  obtain ⟨n, hv, sw, a, t, sh, cv, of, many, colour, org, state, layers, heat, burnt, things, history, bars, set, seen, pile, isIn, order, whr, tried⟩ := w
  obtain ⟨e1, e2, e3, ho, hmn, r0, r1, r2, r3, r4, r5, r10, r15, hfb⟩ := hM
  dsimp only at e1 e2 e3 ho hmn r0 r1 r2 r3 r4 r5 r10 r15 hfb hO hIP hsw hb5
  subst e1 e2 e3
  refine lv_aload_n hx hb dL_law_470 rfl (lv_at hl 3 rfl) ?_
  refine sld (k := k) (j := 1) (v := 1) hx hb hX hbl hS hl (lv_at hl 1 rfl) (lv_at hl 5 rfl) (nI_add _ _) (by decide) (by omega) hL dL_law_471 dL_law_472 dL_law_474 dL_law_475 dL_law_476 ?_
  have hw : wp_X5_heart t (nI hv) (xs (4 * k + 1)) (fun r_477 v_thrown_c477 v_heart_c477 => v_thrown_c477 = nI (oC_heart (n, own, pd, hv, sw, bar) (xs (4 * k + 1))) ∧ (¬ (oC_heart (n, own, pd, hv, sw, bar) (xs (4 * k + 1))) = 0 → v_heart_c477 = nI hv ∧ RMt (n, own, pd, hv, sw, bar) (n, hv, sw, a, v_thrown_c477, sh, cv, of, many, colour, org, state, layers, heat, burnt, things, history, bars, set, seen, pile, isIn, order, whr, tried)) ∧ ((oC_heart (n, own, pd, hv, sw, bar) (xs (4 * k + 1))) = 0 → (oV_heart (n, own, pd, hv, sw, bar) (xs (4 * k + 1))) r_477 ∧ v_heart_c477 = nI (tN (xs (4 * k + 1))) ∧ RMt (oS_heart (n, own, pd, hv, sw, bar) (xs (4 * k + 1))) (n, (tN (xs (4 * k + 1))), sw, a, v_thrown_c477, sh, cv, of, many, colour, org, state, layers, heat, burnt, things, history, bars, set, seen, pile, isIn, order, whr, tried))) := m_heart  (fun ee => ⟨by rw [show (oC_heart (n, own, pd, hv, sw, bar) (xs (4 * k + 1))) = 1 from by unfold oC_heart; rw [ee]; rfl]; rfl, fun _ => ⟨rfl, ⟨rfl, rfl, rfl, ho, hmn, r0, r1, r2, r3, r4, r5, r10, r15, hfb⟩⟩, fun z => absurd ((show (oC_heart (n, own, pd, hv, sw, bar) (xs (4 * k + 1))) = 1 from by unfold oC_heart; rw [ee]; rfl).symm.trans z) (by decide)⟩) (fun ee  => by exact ⟨by rw [show (oC_heart (n, own, pd, hv, sw, bar) (xs (4 * k + 1))) = 0 from by unfold oC_heart; rw [ee]; rfl]; rfl, fun z => absurd (show (oC_heart (n, own, pd, hv, sw, bar) (xs (4 * k + 1))) = 0 from by unfold oC_heart; rw [ee]; rfl) z, fun _ => ⟨rfl, rfl, ⟨rfl, rfl, rfl, ho, hmn, r0, r1, r2, r3, r4, r5, r10, r15, hfb⟩⟩⟩)
  have hCut := Cut.right hP hD hS hA (cut0 (S := Int32 × Int32) (X := (WM cI cZ g a t (nI n) (nI hv) (nI sw) sh cv of many colour org state layers heat burnt things history bars set seen pile isIn order whr tried)) (cx := (W_X5_heart g a cI cJ cZ t (nI n) (nI hv) (nI sw) sh cv)) (pl := []) (w1 := fun (u : Int32 × Int32) => (W_X5_heart g a cI cJ cZ u.1 (nI n) u.2 (nI sw) sh cv)) (X' := fun (u : Int32 × Int32) => (WM cI cZ g a u.1 (nI n) u.2 (nI sw) sh cv of many colour org state layers heat burnt things history bars set seen pile isIn order whr tried)) (va_P_app.mp hP).2 (hD.inner (n := H.size)).2 va_S.rf (fun q h9 => Or.inr h9) [0] [1, 2, 3, 4, 5, 6, 7, 8, 9, 10, 11, 12, 13, 14, 15, 16, 17, 18] [18, 0, 1, 2, 3, 4, 5, 6, 7, 8, 9, 10, 11, 12, 13, 14, 15, 16, 17] rfl rfl (by decide) (by decide) (by decide) (fun u => rfl) (by decide))
  refine ca_i (wa := fun (u : Int32 × Int32) => WCt cI cJ cO h o u1 ++ (WM cI cZ g a u.1 (nI n) u.2 (nI sw) sh cv of many colour org state layers heat burnt things history bars set seen pile isIn order whr tried)) hCut hS (va_runV (As := [.int (xs (4 * k + 1))]) (rest := []) ⟨hx, hb, hml, hown, hts⟩ (c_X5_heart l D cI cJ cZ cO g a H.size t (nI n) (nI hv) (nI sw) sh cv (xs (4 * k + 1)) _ hw) (cwV 1 hts gL_law_X5_heart rfl rfl rfl (by decide +kernel) ⟨Nat.le_of_ble_eq_true rfl, Nat.le_of_ble_eq_true rfl⟩) (hCut.preV (qb := 0) (ci := 6) hK hE rfl rfl) rfl rfl hl.1 rfl (lv_room (Nat.le_of_ble_eq_true rfl)) dL_law_477 ⟨by show _ ≤ 601024; simp only [Nat.add_zero]; omega, by show _ ≤ 7293034; simp only [Nat.add_zero]; omega⟩) (fun r_477 u H locs hw hP hD hS => ?_)
  obtain ⟨v_thrown_c477, v_heart_c477⟩ := u
  try dsimp only at hw
  obtain ⟨ht3, hwn, hwy⟩ := hw
  refine lv_istore (lv' := [(6, .int r_477), (5, .int r), (0, .ref b), (1, .ref h), (2, .ref g), (3, .ref o), (4, .int (nI (4 * k)))]) hx hb dL_law_480 hl (by decide) rfl (fun ls hl => ?_)
  refine lv_aload_n hx hb dL_law_482 rfl (lv_at hl 4 rfl) ?_
  have hw : wp_X5_thrown v_thrown_c477 (fun r => r = v_thrown_c477) := by unfold wp_X5_thrown; rfl
  have hCut := Cut.right hP hD hS hA (cut0 (S := Unit) (X := (WM cI cZ g a v_thrown_c477 (nI n) v_heart_c477 (nI sw) sh cv of many colour org state layers heat burnt things history bars set seen pile isIn order whr tried)) (cx := (W_X5_thrown g a cI cJ cZ v_thrown_c477 (nI n) v_heart_c477 (nI sw) sh cv)) (pl := []) (w1 := fun (u : Unit) => (W_X5_thrown g a cI cJ cZ v_thrown_c477 (nI n) v_heart_c477 (nI sw) sh cv)) (X' := fun (u : Unit) => (WM cI cZ g a v_thrown_c477 (nI n) v_heart_c477 (nI sw) sh cv of many colour org state layers heat burnt things history bars set seen pile isIn order whr tried)) (va_P_app.mp hP).2 (hD.inner (n := H.size)).2 va_S.rf (fun q h9 => Or.inr h9) [0] [1, 2, 3, 4, 5, 6, 7, 8, 9, 10, 11, 12, 13, 14, 15, 16, 17, 18] [18, 0, 1, 2, 3, 4, 5, 6, 7, 8, 9, 10, 11, 12, 13, 14, 15, 16, 17] rfl rfl (by decide) (by decide) (by decide) (fun u => rfl) (by decide))
  refine ca_i (wa := fun (u : Unit) => WCt cI cJ cO h o u1 ++ (WM cI cZ g a v_thrown_c477 (nI n) v_heart_c477 (nI sw) sh cv of many colour org state layers heat burnt things history bars set seen pile isIn order whr tried)) hCut hS (va_runV (As := []) (rest := []) ⟨hx, hb, hml, hown, hts⟩ (c_X5_thrown l D cI cJ cZ cO g a H.size v_thrown_c477 (nI n) v_heart_c477 (nI sw) sh cv _ hw) (cwV 0 hts gL_law_X5_thrown rfl rfl rfl (by decide +kernel) ⟨Nat.le_of_ble_eq_true rfl, Nat.le_of_ble_eq_true rfl⟩) (hCut.preV (qb := 0) (ci := 6) hK hE rfl rfl) rfl rfl hl.1 rfl (lv_room (Nat.le_of_ble_eq_true rfl)) dL_law_483 ⟨by show _ ≤ 601024; simp only [Nat.add_zero]; omega, by show _ ≤ 7293034; simp only [Nat.add_zero]; omega⟩) (fun r_483 _ H locs hw hP hD hS => ?_)
  try dsimp only at hw
  have hrr : r_483 = r := by rw [hw, ht3, hr1]
  refine lv_iload hx hb dL_law_486 (lv_at hl 1 rfl) ?_
  refine lv_icmp_eq (tgt := 493) hx hb dL_law_488 (by decide) (fun _ => ?_) (fun z9 => absurd hrr z9)
  refine lv_iload hx hb dL_law_493 (lv_at hl 1 rfl) ?_
  refine lv_if_ne (tgt := 510) hx hb dL_law_495 (by decide) (fun z9 => ?_) (fun z9 => ?_)
  · have hz : ¬ (oC_heart (n, own, pd, hv, sw, bar) (xs (4 * k + 1))) = 0 := fun q9 => z9 (by rw [hr1, q9]; rfl)
    obtain ⟨ev9, hwn⟩ := hwn hz
    rw [ev9] at hP hD
    refine lv_goto (tgt := 1738) hx hb dL_law_510 (by decide) ?_
    refine W.widen (k := cells + 6) (n := slots + 134) (by omega) (by omega) ?_
    exact K (n, own, pd, hv, sw, bar) u1 (n, hv, sw, a, v_thrown_c477, sh, cv, of, many, colour, org, state, layers, heat, burnt, things, history, bars, set, seen, pile, isIn, order, whr, tried) _ _ _ (hw2 hz) hwn hP hD hS (lv_sub hl [2, 3, 4, 5, 6] rfl)
  · have hz : (oC_heart (n, own, pd, hv, sw, bar) (xs (4 * k + 1))) = 0 := by
      have b9 : (oC_heart (n, own, pd, hv, sw, bar) (xs (4 * k + 1))) < 2147483648 := by unfold oC_heart; split <;> omega
      exact (nI_eq b9 (by omega)).mp (hr1.symm.trans z9)
    obtain ⟨hR1, y9, hy9, ho9⟩ := hw3 hz
    obtain ⟨hv9, ev9, hwz⟩ := hwy hz
    rw [ev9] at hP hD
    have hyr : y9 = r_477 := hy9.trans hv9.symm
    subst hyr
    refine lv_aload_n hx hb dL_law_498 rfl (lv_at hl 5 rfl) ?_
    refine lv_iconst (v := 0) hx hb dL_law_499 (by decide) ?_
    have hout : ∃ fo : Nat → Int64, fo 0 = u1.out ∧ (WCt cI cJ cO h o u1 ++ (WM cI cZ g a v_thrown_c477 (nI n) (nI (tN (xs (4 * k + 1)))) (nI sw) sh cv of many colour org state layers heat burnt things history bars set seen pile isIn order whr tried))[0]? = some (o, .inl (cJ, 1, .inr (.inl fo))) := by obtain ⟨n, hv, sw, m_cap, a, aC, aM, aW, aN, aF, aL, ad, af, br, md, el, ow, su, wr, wc, nr, nc, fr, fc, lq, lh, lw, lsp, x1, x2, x3, x4, x5, qc, qs, ql, qt, qo, qh, qf, qth, v⟩ := u1; exact ⟨v, rfl, rfl⟩
    obtain ⟨fo, hfo, hc0⟩ := hout
    refine va_lald hx hb hK hP 0 1 hc0 rfl (vp_lit rfl) dL_law_500 ?_
    have hf0 : fo (0 : Int32).toNatClampNeg = y9.toInt64 := hfo.trans ho9
    rw [hf0]
    refine lv_iload hx hb dL_law_501 (lv_at hl 0 rfl) ?_
    refine lv_i2l (v := y9.toInt64) hx hb dL_law_503 rfl ?_
    refine W.lcmp hx hb dL_law_504 ?_
    rw [lg_same]
    refine lv_if_eq (tgt := 510) hx hb dL_law_505 (by decide) (fun _ => ?_) (fun q9 => absurd rfl q9)
    refine lv_goto (tgt := 1738) hx hb dL_law_510 (by decide) ?_
    refine W.widen (k := cells + 6) (n := slots + 134) (by omega) (by omega) ?_
    exact K (oS_heart (n, own, pd, hv, sw, bar) (xs (4 * k + 1))) u1 (n, (tN (xs (4 * k + 1))), sw, a, v_thrown_c477, sh, cv, of, many, colour, org, state, layers, heat, burnt, things, history, bars, set, seen, pile, isIn, order, whr, tried) _ _ _ hR1 hwz hP hD hS (lv_sub hl [2, 3, 4, 5, 6] rfl)
set_option maxHeartbeats 4000000 in
set_option maxRecDepth 100000 in
theorem k_L_sheet (C : LC p l s m meth c b L xs D cI cJ cZ cO tD mi) {s0 : SG} {u : KT} {w : KM} {H : Heap} {locs : List Loc} {ls : Array Slot} (hk : 4 * k + 4 ≤ L) (hL : L ≤ 2048) (hR : RCt s0 u) (hM : RMt s0 w) (hP : va_P D vwCl (WCt cI cJ cO h o u ++ WMt cI cZ g w) H) (hD : va_D (AL s) (WCt cI cJ cO h o u ++ WMt cI cZ g w)) (hS : va_S (AL s) s.heap H locs) (hl : lv_has ls 7 [(0, .ref b), (1, .ref h), (2, .ref g), (3, .ref o), (4, .int (nI (4 * k)))]) (hcc : cells + 6 ≤ 601024) (hss : slots + 134 ≤ 7293034) (K : NXT p l e s m below meth c b D cI cJ cZ cO h g o k cells slots Q) : W p l e room_1 s m #[Value.ref b] below meth c H locs cells slots Q (F0 m 513 ls []) := by
  obtain ⟨hx, hb, hr, hml, hown, hts, hX, hbl, hlocks, hst, hK, hE, hT, hLS, hN⟩ := C
  have hA : ∀ q, s.heap.size ≤ q → AL s q := fun _ h9 => h9
  refine lv_aload_n hx hb dL_law_513 rfl (lv_at hl 1 rfl) ?_
  refine sld (k := k) (j := 1) (v := 1) hx hb hX hbl hS hl (lv_at hl 0 rfl) (lv_at hl 4 rfl) (nI_add _ _) (by decide) (by omega) hL dL_law_514 dL_law_515 dL_law_517 dL_law_518 dL_law_519 ?_
  refine lv_aload_n hx hb dL_law_520 rfl (lv_at hl 3 rfl) ?_
  have hCut := Cut.left hP hD hS hA (cut_all (w1 := fun (u : KT) => WCt cI cJ cO h o u) (va_P_app.mp hP).1 (hD.inner (n := H.size)).1 va_S.rf (fun q h9 => Or.inr h9))
  refine ca_i (wa := fun (u1 : KT) => WCt cI cJ cO h o u1 ++ WMt cI cZ g w) hCut hS (vx_runSW (As := [.ref h, .int (xs (4 * k + 1)), .ref o]) (rest := []) ⟨hx, hb, hml, hown, hts⟩ (c_L_sheet l D hst cI cJ cZ cO tD mi h o s0 u _ (xs (4 * k + 1)) hR) (vx_cwSW 3 hts gL_law_L_sheet rfl rfl rfl (by decide +kernel) ⟨Nat.le_of_ble_eq_true rfl, Nat.le_of_ble_eq_true rfl⟩) (hCut.preSW hK hE hT hLS hN hS) rfl rfl hl.1 rfl (lv_room (Nat.le_of_ble_eq_true rfl)) dL_law_521 ⟨by show cells + 1 ≤ 601024; omega, by show slots + 6 ≤ 7293034; omega⟩) (fun r u1 H locs hw1 hP hD hS => ?_)
  obtain ⟨hr1, hw2, hw3⟩ := hw1
  refine lv_istore (lv' := [(5, .int r), (0, .ref b), (1, .ref h), (2, .ref g), (3, .ref o), (4, .int (nI (4 * k)))]) hx hb dL_law_524 hl (by decide) rfl (fun ls hl => ?_)
  have hI := KT.is hR
  obtain ⟨N, own, pd, HW, SW, bar⟩ := s0
  obtain ⟨hO, hIP, hsw, hb5⟩ := hI
  obtain ⟨n, hv, sw, a, t, sh, cv, of, many, colour, org, state, layers, heat, burnt, things, history, bars, set, seen, pile, isIn, order, whr, tried⟩ := w
  obtain ⟨e1, e2, e3, ho, hmn, r0, r1, r2, r3, r4, r5, r10, r15, hfb⟩ := hM
  dsimp only at e1 e2 e3 ho hmn r0 r1 r2 r3 r4 r5 r10 r15 hfb hO hIP hsw hb5
  subst e1 e2 e3
  refine lv_aload_n hx hb dL_law_526 rfl (lv_at hl 3 rfl) ?_
  refine sld (k := k) (j := 1) (v := 1) hx hb hX hbl hS hl (lv_at hl 1 rfl) (lv_at hl 5 rfl) (nI_add _ _) (by decide) (by omega) hL dL_law_527 dL_law_528 dL_law_530 dL_law_531 dL_law_532 ?_
  have hw : wp_X5_sheet t (nI sw) (xs (4 * k + 1)) (fun r_533 v_thrown_c533 v_width_c533 => v_thrown_c533 = nI (oC_sheet (n, own, pd, hv, sw, bar) (xs (4 * k + 1))) ∧ (¬ (oC_sheet (n, own, pd, hv, sw, bar) (xs (4 * k + 1))) = 0 → v_width_c533 = nI sw ∧ RMt (n, own, pd, hv, sw, bar) (n, hv, sw, a, v_thrown_c533, sh, cv, of, many, colour, org, state, layers, heat, burnt, things, history, bars, set, seen, pile, isIn, order, whr, tried)) ∧ ((oC_sheet (n, own, pd, hv, sw, bar) (xs (4 * k + 1))) = 0 → (oV_sheet (n, own, pd, hv, sw, bar) (xs (4 * k + 1))) r_533 ∧ v_width_c533 = nI (tN (xs (4 * k + 1))) ∧ RMt (oS_sheet (n, own, pd, hv, sw, bar) (xs (4 * k + 1))) (n, hv, (tN (xs (4 * k + 1))), a, v_thrown_c533, sh, cv, of, many, colour, org, state, layers, heat, burnt, things, history, bars, set, seen, pile, isIn, order, whr, tried))) := m_sheet  (fun ee => ⟨by rw [show (oC_sheet (n, own, pd, hv, sw, bar) (xs (4 * k + 1))) = 1 from by unfold oC_sheet; rw [ee]; rfl]; rfl, fun _ => ⟨rfl, ⟨rfl, rfl, rfl, ho, hmn, r0, r1, r2, r3, r4, r5, r10, r15, hfb⟩⟩, fun z => absurd ((show (oC_sheet (n, own, pd, hv, sw, bar) (xs (4 * k + 1))) = 1 from by unfold oC_sheet; rw [ee]; rfl).symm.trans z) (by decide)⟩) (fun ee  => by exact ⟨by rw [show (oC_sheet (n, own, pd, hv, sw, bar) (xs (4 * k + 1))) = 0 from by unfold oC_sheet; rw [ee]; rfl]; rfl, fun z => absurd (show (oC_sheet (n, own, pd, hv, sw, bar) (xs (4 * k + 1))) = 0 from by unfold oC_sheet; rw [ee]; rfl) z, fun _ => ⟨rfl, rfl, ⟨rfl, rfl, rfl, ho, hmn, r0, r1, r2, r3, r4, r5, r10, r15, hfb⟩⟩⟩)
  have hCut := Cut.right hP hD hS hA (cut0 (S := Int32 × Int32) (X := (WM cI cZ g a t (nI n) (nI hv) (nI sw) sh cv of many colour org state layers heat burnt things history bars set seen pile isIn order whr tried)) (cx := (W_X5_sheet g a cI cJ cZ t (nI n) (nI hv) (nI sw) sh cv)) (pl := []) (w1 := fun (u : Int32 × Int32) => (W_X5_sheet g a cI cJ cZ u.1 (nI n) (nI hv) u.2 sh cv)) (X' := fun (u : Int32 × Int32) => (WM cI cZ g a u.1 (nI n) (nI hv) u.2 sh cv of many colour org state layers heat burnt things history bars set seen pile isIn order whr tried)) (va_P_app.mp hP).2 (hD.inner (n := H.size)).2 va_S.rf (fun q h9 => Or.inr h9) [0] [1, 2, 3, 4, 5, 6, 7, 8, 9, 10, 11, 12, 13, 14, 15, 16, 17, 18] [18, 0, 1, 2, 3, 4, 5, 6, 7, 8, 9, 10, 11, 12, 13, 14, 15, 16, 17] rfl rfl (by decide) (by decide) (by decide) (fun u => rfl) (by decide))
  refine ca_i (wa := fun (u : Int32 × Int32) => WCt cI cJ cO h o u1 ++ (WM cI cZ g a u.1 (nI n) (nI hv) u.2 sh cv of many colour org state layers heat burnt things history bars set seen pile isIn order whr tried)) hCut hS (va_runV (As := [.int (xs (4 * k + 1))]) (rest := []) ⟨hx, hb, hml, hown, hts⟩ (c_X5_sheet l D cI cJ cZ cO g a H.size t (nI n) (nI hv) (nI sw) sh cv (xs (4 * k + 1)) _ hw) (cwV 1 hts gL_law_X5_sheet rfl rfl rfl (by decide +kernel) ⟨Nat.le_of_ble_eq_true rfl, Nat.le_of_ble_eq_true rfl⟩) (hCut.preV (qb := 0) (ci := 6) hK hE rfl rfl) rfl rfl hl.1 rfl (lv_room (Nat.le_of_ble_eq_true rfl)) dL_law_533 ⟨by show _ ≤ 601024; simp only [Nat.add_zero]; omega, by show _ ≤ 7293034; simp only [Nat.add_zero]; omega⟩) (fun r_533 u H locs hw hP hD hS => ?_)
  obtain ⟨v_thrown_c533, v_width_c533⟩ := u
  try dsimp only at hw
  obtain ⟨ht3, hwn, hwy⟩ := hw
  refine lv_istore (lv' := [(6, .int r_533), (5, .int r), (0, .ref b), (1, .ref h), (2, .ref g), (3, .ref o), (4, .int (nI (4 * k)))]) hx hb dL_law_536 hl (by decide) rfl (fun ls hl => ?_)
  refine lv_aload_n hx hb dL_law_538 rfl (lv_at hl 4 rfl) ?_
  have hw : wp_X5_thrown v_thrown_c533 (fun r => r = v_thrown_c533) := by unfold wp_X5_thrown; rfl
  have hCut := Cut.right hP hD hS hA (cut0 (S := Unit) (X := (WM cI cZ g a v_thrown_c533 (nI n) (nI hv) v_width_c533 sh cv of many colour org state layers heat burnt things history bars set seen pile isIn order whr tried)) (cx := (W_X5_thrown g a cI cJ cZ v_thrown_c533 (nI n) (nI hv) v_width_c533 sh cv)) (pl := []) (w1 := fun (u : Unit) => (W_X5_thrown g a cI cJ cZ v_thrown_c533 (nI n) (nI hv) v_width_c533 sh cv)) (X' := fun (u : Unit) => (WM cI cZ g a v_thrown_c533 (nI n) (nI hv) v_width_c533 sh cv of many colour org state layers heat burnt things history bars set seen pile isIn order whr tried)) (va_P_app.mp hP).2 (hD.inner (n := H.size)).2 va_S.rf (fun q h9 => Or.inr h9) [0] [1, 2, 3, 4, 5, 6, 7, 8, 9, 10, 11, 12, 13, 14, 15, 16, 17, 18] [18, 0, 1, 2, 3, 4, 5, 6, 7, 8, 9, 10, 11, 12, 13, 14, 15, 16, 17] rfl rfl (by decide) (by decide) (by decide) (fun u => rfl) (by decide))
  refine ca_i (wa := fun (u : Unit) => WCt cI cJ cO h o u1 ++ (WM cI cZ g a v_thrown_c533 (nI n) (nI hv) v_width_c533 sh cv of many colour org state layers heat burnt things history bars set seen pile isIn order whr tried)) hCut hS (va_runV (As := []) (rest := []) ⟨hx, hb, hml, hown, hts⟩ (c_X5_thrown l D cI cJ cZ cO g a H.size v_thrown_c533 (nI n) (nI hv) v_width_c533 sh cv _ hw) (cwV 0 hts gL_law_X5_thrown rfl rfl rfl (by decide +kernel) ⟨Nat.le_of_ble_eq_true rfl, Nat.le_of_ble_eq_true rfl⟩) (hCut.preV (qb := 0) (ci := 6) hK hE rfl rfl) rfl rfl hl.1 rfl (lv_room (Nat.le_of_ble_eq_true rfl)) dL_law_539 ⟨by show _ ≤ 601024; simp only [Nat.add_zero]; omega, by show _ ≤ 7293034; simp only [Nat.add_zero]; omega⟩) (fun r_539 _ H locs hw hP hD hS => ?_)
  try dsimp only at hw
  have hrr : r_539 = r := by rw [hw, ht3, hr1]
  refine lv_iload hx hb dL_law_542 (lv_at hl 1 rfl) ?_
  refine lv_icmp_eq (tgt := 549) hx hb dL_law_544 (by decide) (fun _ => ?_) (fun z9 => absurd hrr z9)
  refine lv_iload hx hb dL_law_549 (lv_at hl 1 rfl) ?_
  refine lv_if_ne (tgt := 566) hx hb dL_law_551 (by decide) (fun z9 => ?_) (fun z9 => ?_)
  · have hz : ¬ (oC_sheet (n, own, pd, hv, sw, bar) (xs (4 * k + 1))) = 0 := fun q9 => z9 (by rw [hr1, q9]; rfl)
    obtain ⟨ev9, hwn⟩ := hwn hz
    rw [ev9] at hP hD
    refine lv_goto (tgt := 1738) hx hb dL_law_566 (by decide) ?_
    refine W.widen (k := cells + 6) (n := slots + 134) (by omega) (by omega) ?_
    exact K (n, own, pd, hv, sw, bar) u1 (n, hv, sw, a, v_thrown_c533, sh, cv, of, many, colour, org, state, layers, heat, burnt, things, history, bars, set, seen, pile, isIn, order, whr, tried) _ _ _ (hw2 hz) hwn hP hD hS (lv_sub hl [2, 3, 4, 5, 6] rfl)
  · have hz : (oC_sheet (n, own, pd, hv, sw, bar) (xs (4 * k + 1))) = 0 := by
      have b9 : (oC_sheet (n, own, pd, hv, sw, bar) (xs (4 * k + 1))) < 2147483648 := by unfold oC_sheet; split <;> omega
      exact (nI_eq b9 (by omega)).mp (hr1.symm.trans z9)
    obtain ⟨hR1, y9, hy9, ho9⟩ := hw3 hz
    obtain ⟨hv9, ev9, hwz⟩ := hwy hz
    rw [ev9] at hP hD
    have hyr : y9 = r_533 := hy9.trans hv9.symm
    subst hyr
    refine lv_aload_n hx hb dL_law_554 rfl (lv_at hl 5 rfl) ?_
    refine lv_iconst (v := 0) hx hb dL_law_555 (by decide) ?_
    have hout : ∃ fo : Nat → Int64, fo 0 = u1.out ∧ (WCt cI cJ cO h o u1 ++ (WM cI cZ g a v_thrown_c533 (nI n) (nI hv) (nI (tN (xs (4 * k + 1)))) sh cv of many colour org state layers heat burnt things history bars set seen pile isIn order whr tried))[0]? = some (o, .inl (cJ, 1, .inr (.inl fo))) := by obtain ⟨n, hv, sw, m_cap, a, aC, aM, aW, aN, aF, aL, ad, af, br, md, el, ow, su, wr, wc, nr, nc, fr, fc, lq, lh, lw, lsp, x1, x2, x3, x4, x5, qc, qs, ql, qt, qo, qh, qf, qth, v⟩ := u1; exact ⟨v, rfl, rfl⟩
    obtain ⟨fo, hfo, hc0⟩ := hout
    refine va_lald hx hb hK hP 0 1 hc0 rfl (vp_lit rfl) dL_law_556 ?_
    have hf0 : fo (0 : Int32).toNatClampNeg = y9.toInt64 := hfo.trans ho9
    rw [hf0]
    refine lv_iload hx hb dL_law_557 (lv_at hl 0 rfl) ?_
    refine lv_i2l (v := y9.toInt64) hx hb dL_law_559 rfl ?_
    refine W.lcmp hx hb dL_law_560 ?_
    rw [lg_same]
    refine lv_if_eq (tgt := 566) hx hb dL_law_561 (by decide) (fun _ => ?_) (fun q9 => absurd rfl q9)
    refine lv_goto (tgt := 1738) hx hb dL_law_566 (by decide) ?_
    refine W.widen (k := cells + 6) (n := slots + 134) (by omega) (by omega) ?_
    exact K (oS_sheet (n, own, pd, hv, sw, bar) (xs (4 * k + 1))) u1 (n, hv, (tN (xs (4 * k + 1))), a, v_thrown_c533, sh, cv, of, many, colour, org, state, layers, heat, burnt, things, history, bars, set, seen, pile, isIn, order, whr, tried) _ _ _ hR1 hwz hP hD hS (lv_sub hl [2, 3, 4, 5, 6] rfl)
set_option maxHeartbeats 4000000 in
set_option maxRecDepth 100000 in
theorem k_L_bar (C : LC p l s m meth c b L xs D cI cJ cZ cO tD mi) {s0 : SG} {u : KT} {w : KM} {H : Heap} {locs : List Loc} {ls : Array Slot} (hk : 4 * k + 4 ≤ L) (hL : L ≤ 2048) (hR : RCt s0 u) (hM : RMt s0 w) (hP : va_P D vwCl (WCt cI cJ cO h o u ++ WMt cI cZ g w) H) (hD : va_D (AL s) (WCt cI cJ cO h o u ++ WMt cI cZ g w)) (hS : va_S (AL s) s.heap H locs) (hl : lv_has ls 7 [(0, .ref b), (1, .ref h), (2, .ref g), (3, .ref o), (4, .int (nI (4 * k)))]) (hcc : cells + 6 ≤ 601024) (hss : slots + 134 ≤ 7293034) (K : NXT p l e s m below meth c b D cI cJ cZ cO h g o k cells slots Q) : W p l e room_1 s m #[Value.ref b] below meth c H locs cells slots Q (F0 m 569 ls []) := by
  obtain ⟨hx, hb, hr, hml, hown, hts, hX, hbl, hlocks, hst, hK, hE, hT, hLS, hN⟩ := C
  have hA : ∀ q, s.heap.size ≤ q → AL s q := fun _ h9 => h9
  refine lv_aload_n hx hb dL_law_569 rfl (lv_at hl 1 rfl) ?_
  refine sld (k := k) (j := 1) (v := 1) hx hb hX hbl hS hl (lv_at hl 0 rfl) (lv_at hl 4 rfl) (nI_add _ _) (by decide) (by omega) hL dL_law_570 dL_law_571 dL_law_573 dL_law_574 dL_law_575 ?_
  refine lv_aload_n hx hb dL_law_576 rfl (lv_at hl 3 rfl) ?_
  have hCut := Cut.left hP hD hS hA (cut_all (w1 := fun (u : KT) => WCt cI cJ cO h o u) (va_P_app.mp hP).1 (hD.inner (n := H.size)).1 va_S.rf (fun q h9 => Or.inr h9))
  refine ca_i (wa := fun (u1 : KT) => WCt cI cJ cO h o u1 ++ WMt cI cZ g w) hCut hS (vx_runSW (As := [.ref h, .int (xs (4 * k + 1)), .ref o]) (rest := []) ⟨hx, hb, hml, hown, hts⟩ (c_L_bar l D hst cI cJ cZ cO tD mi h o s0 u _ (xs (4 * k + 1)) hR) (vx_cwSW 3 hts gL_law_L_bar rfl rfl rfl (by decide +kernel) ⟨Nat.le_of_ble_eq_true rfl, Nat.le_of_ble_eq_true rfl⟩) (hCut.preSW hK hE hT hLS hN hS) rfl rfl hl.1 rfl (lv_room (Nat.le_of_ble_eq_true rfl)) dL_law_577 ⟨by show cells + 2 ≤ 601024; omega, by show slots + 12 ≤ 7293034; omega⟩) (fun r u1 H locs hw1 hP hD hS => ?_)
  obtain ⟨hr1, hw2, hw3⟩ := hw1
  refine lv_istore (lv' := [(5, .int r), (0, .ref b), (1, .ref h), (2, .ref g), (3, .ref o), (4, .int (nI (4 * k)))]) hx hb dL_law_580 hl (by decide) rfl (fun ls hl => ?_)
  have hI := KT.is hR
  obtain ⟨N, own, pd, HW, SW, bar⟩ := s0
  obtain ⟨hO, hIP, hsw, hb5⟩ := hI
  obtain ⟨n, hv, sw, a, t, sh, cv, of, many, colour, org, state, layers, heat, burnt, things, history, bars, set, seen, pile, isIn, order, whr, tried⟩ := w
  obtain ⟨e1, e2, e3, ho, hmn, r0, r1, r2, r3, r4, r5, r10, r15, hfb⟩ := hM
  dsimp only at e1 e2 e3 ho hmn r0 r1 r2 r3 r4 r5 r10 r15 hfb hO hIP hsw hb5
  subst e1 e2 e3
  refine lv_aload_n hx hb dL_law_582 rfl (lv_at hl 3 rfl) ?_
  refine sld (k := k) (j := 1) (v := 1) hx hb hX hbl hS hl (lv_at hl 1 rfl) (lv_at hl 5 rfl) (nI_add _ _) (by decide) (by omega) hL dL_law_583 dL_law_584 dL_law_586 dL_law_587 dL_law_588 ?_
  have hw : wp_X5_bar t bars (xs (4 * k + 1)) (fun r_589 v_thrown_c589 v_hasBar_c589 => v_thrown_c589 = nI (oC_bar (n, own, pd, hv, sw, bar) (xs (4 * k + 1))) ∧ (¬ (oC_bar (n, own, pd, hv, sw, bar) (xs (4 * k + 1))) = 0 → RMt (n, own, pd, hv, sw, bar) (n, hv, sw, a, v_thrown_c589, sh, cv, of, many, colour, org, state, layers, heat, burnt, things, history, v_hasBar_c589, set, seen, pile, isIn, order, whr, tried)) ∧ ((oC_bar (n, own, pd, hv, sw, bar) (xs (4 * k + 1))) = 0 → (oV_bar (n, own, pd, hv, sw, bar) (xs (4 * k + 1))) r_589 ∧ RMt (oS_bar (n, own, pd, hv, sw, bar) (xs (4 * k + 1))) (n, hv, sw, a, v_thrown_c589, sh, cv, of, many, colour, org, state, layers, heat, burnt, things, history, v_hasBar_c589, set, seen, pile, isIn, order, whr, tried))) := m_bar hfb (fun gg => ⟨rfl, fun _ => ⟨rfl, rfl, rfl, ho, hmn, r0, r1, r2, r3, r4, r5, r10, r15, hfb⟩, fun z => absurd z gg⟩) (fun gg e f' hf' => by exact ⟨by rw [show (oC_bar (n, own, pd, hv, sw, bar) (xs (4 * k + 1))) = 0 from gg]; rfl, fun z => absurd (show (oC_bar (n, own, pd, hv, sw, bar) (xs (4 * k + 1))) = 0 from gg) z, fun _ => ⟨rfl, ⟨rfl, rfl, rfl, ho, hmn, r0, r1, r2, r3, r4, r5, r10, r15, hf'⟩⟩⟩)
  have hCut := Cut.right hP hD hS hA (cut0 (S := Int32 × (Nat → Int32)) (X := (WM cI cZ g a t (nI n) (nI hv) (nI sw) sh cv of many colour org state layers heat burnt things history bars set seen pile isIn order whr tried)) (cx := (W_X5_bar g a cI cJ cZ t (nI n) (nI hv) (nI sw) bars sh cv)) (pl := []) (w1 := fun (u : Int32 × (Nat → Int32)) => (W_X5_bar g a cI cJ cZ u.1 (nI n) (nI hv) (nI sw) u.2 sh cv)) (X' := fun (u : Int32 × (Nat → Int32)) => (WM cI cZ g a u.1 (nI n) (nI hv) (nI sw) sh cv of many colour org state layers heat burnt things history u.2 set seen pile isIn order whr tried)) (va_P_app.mp hP).2 (hD.inner (n := H.size)).2 va_S.rf (fun q h9 => Or.inr h9) [0, 11] [1, 2, 3, 4, 5, 6, 7, 8, 9, 10, 12, 13, 14, 15, 16, 17, 18] [17, 0, 1, 2, 3, 4, 5, 6, 7, 8, 9, 18, 10, 11, 12, 13, 14, 15, 16] rfl rfl (by decide) (by decide) (by decide) (fun u => rfl) (by decide))
  refine ca_i (wa := fun (u : Int32 × (Nat → Int32)) => WCt cI cJ cO h o u1 ++ (WM cI cZ g a u.1 (nI n) (nI hv) (nI sw) sh cv of many colour org state layers heat burnt things history u.2 set seen pile isIn order whr tried)) hCut hS (va_runV (As := [.int (xs (4 * k + 1))]) (rest := []) ⟨hx, hb, hml, hown, hts⟩ (c_X5_bar l D cI cJ cZ cO g a H.size t (nI n) (nI hv) (nI sw) bars sh cv (xs (4 * k + 1)) _ hw) (cwV 1 hts gL_law_X5_bar rfl rfl rfl (by decide +kernel) ⟨Nat.le_of_ble_eq_true rfl, Nat.le_of_ble_eq_true rfl⟩) (hCut.preV (qb := 0) (ci := 6) hK hE rfl rfl) rfl rfl hl.1 rfl (lv_room (Nat.le_of_ble_eq_true rfl)) dL_law_589 ⟨by show _ ≤ 601024; simp only [Nat.add_zero]; omega, by show _ ≤ 7293034; simp only [Nat.add_zero]; omega⟩) (fun r_589 u H locs hw hP hD hS => ?_)
  obtain ⟨v_thrown_c589, v_hasBar_c589⟩ := u
  try dsimp only at hw
  obtain ⟨ht3, hwn, hwy⟩ := hw
  refine lv_istore (lv' := [(6, .int r_589), (5, .int r), (0, .ref b), (1, .ref h), (2, .ref g), (3, .ref o), (4, .int (nI (4 * k)))]) hx hb dL_law_592 hl (by decide) rfl (fun ls hl => ?_)
  refine lv_aload_n hx hb dL_law_594 rfl (lv_at hl 4 rfl) ?_
  have hw : wp_X5_thrown v_thrown_c589 (fun r => r = v_thrown_c589) := by unfold wp_X5_thrown; rfl
  have hCut := Cut.right hP hD hS hA (cut0 (S := Unit) (X := (WM cI cZ g a v_thrown_c589 (nI n) (nI hv) (nI sw) sh cv of many colour org state layers heat burnt things history v_hasBar_c589 set seen pile isIn order whr tried)) (cx := (W_X5_thrown g a cI cJ cZ v_thrown_c589 (nI n) (nI hv) (nI sw) sh cv)) (pl := []) (w1 := fun (u : Unit) => (W_X5_thrown g a cI cJ cZ v_thrown_c589 (nI n) (nI hv) (nI sw) sh cv)) (X' := fun (u : Unit) => (WM cI cZ g a v_thrown_c589 (nI n) (nI hv) (nI sw) sh cv of many colour org state layers heat burnt things history v_hasBar_c589 set seen pile isIn order whr tried)) (va_P_app.mp hP).2 (hD.inner (n := H.size)).2 va_S.rf (fun q h9 => Or.inr h9) [0] [1, 2, 3, 4, 5, 6, 7, 8, 9, 10, 11, 12, 13, 14, 15, 16, 17, 18] [18, 0, 1, 2, 3, 4, 5, 6, 7, 8, 9, 10, 11, 12, 13, 14, 15, 16, 17] rfl rfl (by decide) (by decide) (by decide) (fun u => rfl) (by decide))
  refine ca_i (wa := fun (u : Unit) => WCt cI cJ cO h o u1 ++ (WM cI cZ g a v_thrown_c589 (nI n) (nI hv) (nI sw) sh cv of many colour org state layers heat burnt things history v_hasBar_c589 set seen pile isIn order whr tried)) hCut hS (va_runV (As := []) (rest := []) ⟨hx, hb, hml, hown, hts⟩ (c_X5_thrown l D cI cJ cZ cO g a H.size v_thrown_c589 (nI n) (nI hv) (nI sw) sh cv _ hw) (cwV 0 hts gL_law_X5_thrown rfl rfl rfl (by decide +kernel) ⟨Nat.le_of_ble_eq_true rfl, Nat.le_of_ble_eq_true rfl⟩) (hCut.preV (qb := 0) (ci := 6) hK hE rfl rfl) rfl rfl hl.1 rfl (lv_room (Nat.le_of_ble_eq_true rfl)) dL_law_595 ⟨by show _ ≤ 601024; simp only [Nat.add_zero]; omega, by show _ ≤ 7293034; simp only [Nat.add_zero]; omega⟩) (fun r_595 _ H locs hw hP hD hS => ?_)
  try dsimp only at hw
  have hrr : r_595 = r := by rw [hw, ht3, hr1]
  refine lv_iload hx hb dL_law_598 (lv_at hl 1 rfl) ?_
  refine lv_icmp_eq (tgt := 605) hx hb dL_law_600 (by decide) (fun _ => ?_) (fun z9 => absurd hrr z9)
  refine lv_iload hx hb dL_law_605 (lv_at hl 1 rfl) ?_
  refine lv_if_ne (tgt := 629) hx hb dL_law_607 (by decide) (fun z9 => ?_) (fun z9 => ?_)
  · have hz : ¬ (oC_bar (n, own, pd, hv, sw, bar) (xs (4 * k + 1))) = 0 := fun q9 => z9 (by rw [hr1, q9]; rfl)
    have hwn := hwn hz
    refine lv_goto (tgt := 1738) hx hb dL_law_629 (by decide) ?_
    refine W.widen (k := cells + 6) (n := slots + 134) (by omega) (by omega) ?_
    exact K (n, own, pd, hv, sw, bar) u1 (n, hv, sw, a, v_thrown_c589, sh, cv, of, many, colour, org, state, layers, heat, burnt, things, history, v_hasBar_c589, set, seen, pile, isIn, order, whr, tried) _ _ _ (hw2 hz) hwn hP hD hS (lv_sub hl [2, 3, 4, 5, 6] rfl)
  · have hz : (oC_bar (n, own, pd, hv, sw, bar) (xs (4 * k + 1))) = 0 := by
      have b9 : (oC_bar (n, own, pd, hv, sw, bar) (xs (4 * k + 1))) < 2147483648 := Nat.lt_of_le_of_lt barC_le (by omega)
      exact (nI_eq b9 (by omega)).mp (hr1.symm.trans z9)
    obtain ⟨hR1, y9, hy9, ho9⟩ := hw3 hz
    obtain ⟨hv9, hwz⟩ := hwy hz
    have hyr : y9 = r_589 := hy9.trans hv9.symm
    subst hyr
    refine lv_aload_n hx hb dL_law_610 rfl (lv_at hl 5 rfl) ?_
    refine lv_iconst (v := 0) hx hb dL_law_611 (by decide) ?_
    have hout : ∃ fo : Nat → Int64, fo 0 = u1.out ∧ (WCt cI cJ cO h o u1 ++ (WM cI cZ g a v_thrown_c589 (nI n) (nI hv) (nI sw) sh cv of many colour org state layers heat burnt things history v_hasBar_c589 set seen pile isIn order whr tried))[0]? = some (o, .inl (cJ, 1, .inr (.inl fo))) := by obtain ⟨n, hv, sw, m_cap, a, aC, aM, aW, aN, aF, aL, ad, af, br, md, el, ow, su, wr, wc, nr, nc, fr, fc, lq, lh, lw, lsp, x1, x2, x3, x4, x5, qc, qs, ql, qt, qo, qh, qf, qth, v⟩ := u1; exact ⟨v, rfl, rfl⟩
    obtain ⟨fo, hfo, hc0⟩ := hout
    refine va_lald hx hb hK hP 0 1 hc0 rfl (vp_lit rfl) dL_law_612 ?_
    have hf0 : fo (0 : Int32).toNatClampNeg = y9.toInt64 := hfo.trans ho9
    rw [hf0]
    refine lv_iload hx hb dL_law_613 (lv_at hl 0 rfl) ?_
    refine lv_if_eq (tgt := 622) hx hb dL_law_615 (by decide) (fun q0 => ?_) (fun q0 => ?_)
    · refine lv_lconst (v := 0) hx hb dL_law_622 (by decide) ?_
      rw [q0]
      rw [show (0 : Int32).toInt64 = 0 from rfl]
      refine W.lcmp hx hb dL_law_623 ?_
      rw [lg_same]
      refine lv_if_eq (tgt := 629) hx hb dL_law_624 (by decide) (fun _ => ?_) (fun q9 => absurd rfl q9)
      refine lv_goto (tgt := 1738) hx hb dL_law_629 (by decide) ?_
      refine W.widen (k := cells + 6) (n := slots + 134) (by omega) (by omega) ?_
      exact K (oS_bar (n, own, pd, hv, sw, bar) (xs (4 * k + 1))) u1 (n, hv, sw, a, v_thrown_c589, sh, cv, of, many, colour, org, state, layers, heat, burnt, things, history, v_hasBar_c589, set, seen, pile, isIn, order, whr, tried) _ _ _ hR1 hwz hP hD hS (lv_sub hl [2, 3, 4, 5, 6] rfl)
    · refine lv_lconst (v := 1) hx hb dL_law_618 (by decide) ?_
      refine lv_goto (tgt := 623) hx hb dL_law_619 (by decide) ?_
      rw [bI_ne0 hv9 q0]
      rw [show (1 : Int32).toInt64 = 1 from rfl]
      refine W.lcmp hx hb dL_law_623 ?_
      rw [lg_same]
      refine lv_if_eq (tgt := 629) hx hb dL_law_624 (by decide) (fun _ => ?_) (fun q9 => absurd rfl q9)
      refine lv_goto (tgt := 1738) hx hb dL_law_629 (by decide) ?_
      refine W.widen (k := cells + 6) (n := slots + 134) (by omega) (by omega) ?_
      exact K (oS_bar (n, own, pd, hv, sw, bar) (xs (4 * k + 1))) u1 (n, hv, sw, a, v_thrown_c589, sh, cv, of, many, colour, org, state, layers, heat, burnt, things, history, v_hasBar_c589, set, seen, pile, isIn, order, whr, tried) _ _ _ hR1 hwz hP hD hS (lv_sub hl [2, 3, 4, 5, 6] rfl)
set_option maxHeartbeats 4000000 in
set_option maxRecDepth 100000 in
theorem k_L_paint (C : LC p l s m meth c b L xs D cI cJ cZ cO tD mi) {s0 : SG} {u : KT} {w : KM} {H : Heap} {locs : List Loc} {ls : Array Slot} (hk : 4 * k + 4 ≤ L) (hL : L ≤ 2048) (hR : RCt s0 u) (hM : RMt s0 w) (hP : va_P D vwCl (WCt cI cJ cO h o u ++ WMt cI cZ g w) H) (hD : va_D (AL s) (WCt cI cJ cO h o u ++ WMt cI cZ g w)) (hS : va_S (AL s) s.heap H locs) (hl : lv_has ls 7 [(0, .ref b), (1, .ref h), (2, .ref g), (3, .ref o), (4, .int (nI (4 * k)))]) (hcc : cells + 6 ≤ 601024) (hss : slots + 134 ≤ 7293034) (K : NXT p l e s m below meth c b D cI cJ cZ cO h g o k cells slots Q) : W p l e room_1 s m #[Value.ref b] below meth c H locs cells slots Q (F0 m 632 ls []) := by
  obtain ⟨hx, hb, hr, hml, hown, hts, hX, hbl, hlocks, hst, hK, hE, hT, hLS, hN⟩ := C
  have hA : ∀ q, s.heap.size ≤ q → AL s q := fun _ h9 => h9
  refine lv_aload_n hx hb dL_law_632 rfl (lv_at hl 1 rfl) ?_
  refine sld (k := k) (j := 1) (v := 1) hx hb hX hbl hS hl (lv_at hl 0 rfl) (lv_at hl 4 rfl) (nI_add _ _) (by decide) (by omega) hL dL_law_633 dL_law_634 dL_law_636 dL_law_637 dL_law_638 ?_
  refine sld (k := k) (j := 2) (v := 2) hx hb hX hbl hS hl (lv_at hl 0 rfl) (lv_at hl 4 rfl) (nI_add _ _) (by decide) (by omega) hL dL_law_639 dL_law_640 dL_law_642 dL_law_643 dL_law_644 ?_
  refine lv_aload_n hx hb dL_law_645 rfl (lv_at hl 3 rfl) ?_
  have hCut := Cut.left hP hD hS hA (cut_all (w1 := fun (u : KT) => WCt cI cJ cO h o u) (va_P_app.mp hP).1 (hD.inner (n := H.size)).1 va_S.rf (fun q h9 => Or.inr h9))
  refine ca_i (wa := fun (u1 : KT) => WCt cI cJ cO h o u1 ++ WMt cI cZ g w) hCut hS (vx_runSW (As := [.ref h, .int (xs (4 * k + 1)), .int (xs (4 * k + 2)), .ref o]) (rest := []) ⟨hx, hb, hml, hown, hts⟩ (c_L_paint l D hst cI cJ cZ cO tD mi h o s0 u _ (xs (4 * k + 1)) (xs (4 * k + 2)) hR) (vx_cwSW 4 hts gL_law_L_paint rfl rfl rfl (by decide +kernel) ⟨Nat.le_of_ble_eq_true rfl, Nat.le_of_ble_eq_true rfl⟩) (hCut.preSW hK hE hT hLS hN hS) rfl rfl hl.1 rfl (lv_room (Nat.le_of_ble_eq_true rfl)) dL_law_646 ⟨by show cells + 2 ≤ 601024; omega, by show slots + 12 ≤ 7293034; omega⟩) (fun r u1 H locs hw1 hP hD hS => ?_)
  obtain ⟨hr1, hw2, hw3⟩ := hw1
  refine lv_istore (lv' := [(5, .int r), (0, .ref b), (1, .ref h), (2, .ref g), (3, .ref o), (4, .int (nI (4 * k)))]) hx hb dL_law_649 hl (by decide) rfl (fun ls hl => ?_)
  have hI := KT.is hR
  obtain ⟨N, own, pd, HW, SW, bar⟩ := s0
  obtain ⟨hO, hIP, hsw, hb5⟩ := hI
  obtain ⟨n, hv, sw, a, t, sh, cv, of, many, colour, org, state, layers, heat, burnt, things, history, bars, set, seen, pile, isIn, order, whr, tried⟩ := w
  obtain ⟨e1, e2, e3, ho, hmn, r0, r1, r2, r3, r4, r5, r10, r15, hfb⟩ := hM
  dsimp only at e1 e2 e3 ho hmn r0 r1 r2 r3 r4 r5 r10 r15 hfb hO hIP hsw hb5
  subst e1 e2 e3
  refine lv_aload_n hx hb dL_law_651 rfl (lv_at hl 3 rfl) ?_
  refine sld (k := k) (j := 1) (v := 1) hx hb hX hbl hS hl (lv_at hl 1 rfl) (lv_at hl 5 rfl) (nI_add _ _) (by decide) (by omega) hL dL_law_652 dL_law_653 dL_law_655 dL_law_656 dL_law_657 ?_
  refine sld (k := k) (j := 2) (v := 2) hx hb hX hbl hS hl (lv_at hl 1 rfl) (lv_at hl 5 rfl) (nI_add _ _) (by decide) (by omega) hL dL_law_658 dL_law_659 dL_law_661 dL_law_662 dL_law_663 ?_
  have hw : wp_X5_paint t (nI n) many layers heat burnt things history (xs (4 * k + 1)) (xs (4 * k + 2)) (fun r_664 v_thrown_c664 v_layers_c664 v_heat_c664 v_burnt_c664 v_things_c664 v_history_c664 => v_thrown_c664 = nI (oC_paint (n, own, pd, hv, sw, bar) (xs (4 * k + 1)) (xs (4 * k + 2))) ∧ (¬ (oC_paint (n, own, pd, hv, sw, bar) (xs (4 * k + 1)) (xs (4 * k + 2))) = 0 → RMt (n, own, pd, hv, sw, bar) (n, hv, sw, a, v_thrown_c664, sh, cv, of, many, colour, org, state, v_layers_c664, v_heat_c664, v_burnt_c664, v_things_c664, v_history_c664, bars, set, seen, pile, isIn, order, whr, tried)) ∧ ((oC_paint (n, own, pd, hv, sw, bar) (xs (4 * k + 1)) (xs (4 * k + 2))) = 0 → (oV_paint (n, own, pd, hv, sw, bar) (xs (4 * k + 1)) (xs (4 * k + 2))) r_664 ∧ RMt (oS_paint (n, own, pd, hv, sw, bar) (xs (4 * k + 1)) (xs (4 * k + 2))) (n, hv, sw, a, v_thrown_c664, sh, cv, of, many, colour, org, state, v_layers_c664, v_heat_c664, v_burnt_c664, v_things_c664, v_history_c664, bars, set, seen, pile, isIn, order, whr, tried))) := m_paint hO hIP hmn r2 r3 r5 r10 r15 (fun gg => ⟨rfl, fun _ => ⟨rfl, rfl, rfl, ho, hmn, r0, r1, r2, r3, r4, r5, r10, r15, hfb⟩, fun z => absurd z gg⟩) (fun gg e1 e2 pd9 hpd a2 a5 a10 a3 a15 q2 q5 q10 q3 q15 => by subst hpd; exact ⟨by rw [show (oC_paint (n, own, pd, hv, sw, bar) (xs (4 * k + 1)) (xs (4 * k + 2))) = 0 from gg]; rfl, fun z => absurd (show (oC_paint (n, own, pd, hv, sw, bar) (xs (4 * k + 1)) (xs (4 * k + 2))) = 0 from gg) z, fun _ => ⟨rfl, ⟨rfl, rfl, rfl, ho, hmn, (r0.keep (fun i => lo_paint (hIP.1 _).2.2.1 (by omega))), (r1.keep (fun i => lo_paint (hIP.1 _).2.2.1 (by omega))), q2, q3, (r4.keep (fun i => lo_paint (hIP.1 _).2.2.1 (by omega))), q5, q10, q15, hfb⟩⟩⟩)
  have hCut := Cut.right hP hD hS hA (cut0 (S := Int32 × (Nat → Int32) × (Nat → Int32) × (Nat → Int32) × (Nat → Int32) × (Nat → Int32)) (X := (WM cI cZ g a t (nI n) (nI hv) (nI sw) sh cv of many colour org state layers heat burnt things history bars set seen pile isIn order whr tried)) (cx := (W_X5_paint g a cI cJ cZ t (nI n) many layers heat burnt things history (nI hv) (nI sw) sh cv)) (pl := []) (w1 := fun (u : Int32 × (Nat → Int32) × (Nat → Int32) × (Nat → Int32) × (Nat → Int32) × (Nat → Int32)) => (W_X5_paint g a cI cJ cZ u.1 (nI n) many u.2.1 u.2.2.1 u.2.2.2.1 u.2.2.2.2.1 u.2.2.2.2.2 (nI hv) (nI sw) sh cv)) (X' := fun (u : Int32 × (Nat → Int32) × (Nat → Int32) × (Nat → Int32) × (Nat → Int32) × (Nat → Int32)) => (WM cI cZ g a u.1 (nI n) (nI hv) (nI sw) sh cv of many colour org state u.2.1 u.2.2.1 u.2.2.2.1 u.2.2.2.2.1 u.2.2.2.2.2 bars set seen pile isIn order whr tried)) (va_P_app.mp hP).2 (hD.inner (n := H.size)).2 va_S.rf (fun q h9 => Or.inr h9) [0, 2, 6, 7, 8, 9, 10] [1, 3, 4, 5, 11, 12, 13, 14, 15, 16, 17, 18] [12, 0, 13, 1, 2, 3, 14, 15, 16, 17, 18, 4, 5, 6, 7, 8, 9, 10, 11] rfl rfl (by decide) (by decide) (by decide) (fun u => rfl) (by decide))
  refine ca_i (wa := fun (u : Int32 × (Nat → Int32) × (Nat → Int32) × (Nat → Int32) × (Nat → Int32) × (Nat → Int32)) => WCt cI cJ cO h o u1 ++ (WM cI cZ g a u.1 (nI n) (nI hv) (nI sw) sh cv of many colour org state u.2.1 u.2.2.1 u.2.2.2.1 u.2.2.2.2.1 u.2.2.2.2.2 bars set seen pile isIn order whr tried)) hCut hS (va_runV (As := [.int (xs (4 * k + 1)), .int (xs (4 * k + 2))]) (rest := []) ⟨hx, hb, hml, hown, hts⟩ (c_X5_paint l D cI cJ cZ cO g a H.size t (nI n) many layers heat burnt things history (nI hv) (nI sw) sh cv (xs (4 * k + 1)) (xs (4 * k + 2)) _ hw) (cwV 2 hts gL_law_X5_paint rfl rfl rfl (by decide +kernel) ⟨Nat.le_of_ble_eq_true rfl, Nat.le_of_ble_eq_true rfl⟩) (hCut.preV (qb := 0) (ci := 6) hK hE rfl rfl) rfl rfl hl.1 rfl (lv_room (Nat.le_of_ble_eq_true rfl)) dL_law_664 ⟨by show _ ≤ 601024; simp only [Nat.add_zero]; omega, by show _ ≤ 7293034; simp only [Nat.add_zero]; omega⟩) (fun r_664 u H locs hw hP hD hS => ?_)
  obtain ⟨v_thrown_c664, v_layers_c664, v_heat_c664, v_burnt_c664, v_things_c664, v_history_c664⟩ := u
  try dsimp only at hw
  obtain ⟨ht3, hwn, hwy⟩ := hw
  refine lv_istore (lv' := [(6, .int r_664), (5, .int r), (0, .ref b), (1, .ref h), (2, .ref g), (3, .ref o), (4, .int (nI (4 * k)))]) hx hb dL_law_667 hl (by decide) rfl (fun ls hl => ?_)
  refine lv_aload_n hx hb dL_law_669 rfl (lv_at hl 4 rfl) ?_
  have hw : wp_X5_thrown v_thrown_c664 (fun r => r = v_thrown_c664) := by unfold wp_X5_thrown; rfl
  have hCut := Cut.right hP hD hS hA (cut0 (S := Unit) (X := (WM cI cZ g a v_thrown_c664 (nI n) (nI hv) (nI sw) sh cv of many colour org state v_layers_c664 v_heat_c664 v_burnt_c664 v_things_c664 v_history_c664 bars set seen pile isIn order whr tried)) (cx := (W_X5_thrown g a cI cJ cZ v_thrown_c664 (nI n) (nI hv) (nI sw) sh cv)) (pl := []) (w1 := fun (u : Unit) => (W_X5_thrown g a cI cJ cZ v_thrown_c664 (nI n) (nI hv) (nI sw) sh cv)) (X' := fun (u : Unit) => (WM cI cZ g a v_thrown_c664 (nI n) (nI hv) (nI sw) sh cv of many colour org state v_layers_c664 v_heat_c664 v_burnt_c664 v_things_c664 v_history_c664 bars set seen pile isIn order whr tried)) (va_P_app.mp hP).2 (hD.inner (n := H.size)).2 va_S.rf (fun q h9 => Or.inr h9) [0] [1, 2, 3, 4, 5, 6, 7, 8, 9, 10, 11, 12, 13, 14, 15, 16, 17, 18] [18, 0, 1, 2, 3, 4, 5, 6, 7, 8, 9, 10, 11, 12, 13, 14, 15, 16, 17] rfl rfl (by decide) (by decide) (by decide) (fun u => rfl) (by decide))
  refine ca_i (wa := fun (u : Unit) => WCt cI cJ cO h o u1 ++ (WM cI cZ g a v_thrown_c664 (nI n) (nI hv) (nI sw) sh cv of many colour org state v_layers_c664 v_heat_c664 v_burnt_c664 v_things_c664 v_history_c664 bars set seen pile isIn order whr tried)) hCut hS (va_runV (As := []) (rest := []) ⟨hx, hb, hml, hown, hts⟩ (c_X5_thrown l D cI cJ cZ cO g a H.size v_thrown_c664 (nI n) (nI hv) (nI sw) sh cv _ hw) (cwV 0 hts gL_law_X5_thrown rfl rfl rfl (by decide +kernel) ⟨Nat.le_of_ble_eq_true rfl, Nat.le_of_ble_eq_true rfl⟩) (hCut.preV (qb := 0) (ci := 6) hK hE rfl rfl) rfl rfl hl.1 rfl (lv_room (Nat.le_of_ble_eq_true rfl)) dL_law_670 ⟨by show _ ≤ 601024; simp only [Nat.add_zero]; omega, by show _ ≤ 7293034; simp only [Nat.add_zero]; omega⟩) (fun r_670 _ H locs hw hP hD hS => ?_)
  try dsimp only at hw
  have hrr : r_670 = r := by rw [hw, ht3, hr1]
  refine lv_iload hx hb dL_law_673 (lv_at hl 1 rfl) ?_
  refine lv_icmp_eq (tgt := 680) hx hb dL_law_675 (by decide) (fun _ => ?_) (fun z9 => absurd hrr z9)
  refine lv_iload hx hb dL_law_680 (lv_at hl 1 rfl) ?_
  refine lv_if_ne (tgt := 697) hx hb dL_law_682 (by decide) (fun z9 => ?_) (fun z9 => ?_)
  · have hz : ¬ (oC_paint (n, own, pd, hv, sw, bar) (xs (4 * k + 1)) (xs (4 * k + 2))) = 0 := fun q9 => z9 (by rw [hr1, q9]; rfl)
    have hwn := hwn hz
    refine lv_goto (tgt := 1738) hx hb dL_law_697 (by decide) ?_
    refine W.widen (k := cells + 6) (n := slots + 134) (by omega) (by omega) ?_
    exact K (n, own, pd, hv, sw, bar) u1 (n, hv, sw, a, v_thrown_c664, sh, cv, of, many, colour, org, state, v_layers_c664, v_heat_c664, v_burnt_c664, v_things_c664, v_history_c664, bars, set, seen, pile, isIn, order, whr, tried) _ _ _ (hw2 hz) hwn hP hD hS (lv_sub hl [2, 3, 4, 5, 6] rfl)
  · have hz : (oC_paint (n, own, pd, hv, sw, bar) (xs (4 * k + 1)) (xs (4 * k + 2))) = 0 := by
      have b9 : (oC_paint (n, own, pd, hv, sw, bar) (xs (4 * k + 1)) (xs (4 * k + 2))) < 2147483648 := Nat.lt_of_le_of_lt paintC_le (by omega)
      exact (nI_eq b9 (by omega)).mp (hr1.symm.trans z9)
    obtain ⟨hR1, y9, hy9, ho9⟩ := hw3 hz
    obtain ⟨hv9, hwz⟩ := hwy hz
    have hyr : y9 = r_664 := hy9.trans hv9.symm
    subst hyr
    refine lv_aload_n hx hb dL_law_685 rfl (lv_at hl 5 rfl) ?_
    refine lv_iconst (v := 0) hx hb dL_law_686 (by decide) ?_
    have hout : ∃ fo : Nat → Int64, fo 0 = u1.out ∧ (WCt cI cJ cO h o u1 ++ (WM cI cZ g a v_thrown_c664 (nI n) (nI hv) (nI sw) sh cv of many colour org state v_layers_c664 v_heat_c664 v_burnt_c664 v_things_c664 v_history_c664 bars set seen pile isIn order whr tried))[0]? = some (o, .inl (cJ, 1, .inr (.inl fo))) := by obtain ⟨n, hv, sw, m_cap, a, aC, aM, aW, aN, aF, aL, ad, af, br, md, el, ow, su, wr, wc, nr, nc, fr, fc, lq, lh, lw, lsp, x1, x2, x3, x4, x5, qc, qs, ql, qt, qo, qh, qf, qth, v⟩ := u1; exact ⟨v, rfl, rfl⟩
    obtain ⟨fo, hfo, hc0⟩ := hout
    refine va_lald hx hb hK hP 0 1 hc0 rfl (vp_lit rfl) dL_law_687 ?_
    have hf0 : fo (0 : Int32).toNatClampNeg = y9.toInt64 := hfo.trans ho9
    rw [hf0]
    refine lv_iload hx hb dL_law_688 (lv_at hl 0 rfl) ?_
    refine lv_i2l (v := y9.toInt64) hx hb dL_law_690 rfl ?_
    refine W.lcmp hx hb dL_law_691 ?_
    rw [lg_same]
    refine lv_if_eq (tgt := 697) hx hb dL_law_692 (by decide) (fun _ => ?_) (fun q9 => absurd rfl q9)
    refine lv_goto (tgt := 1738) hx hb dL_law_697 (by decide) ?_
    refine W.widen (k := cells + 6) (n := slots + 134) (by omega) (by omega) ?_
    exact K (oS_paint (n, own, pd, hv, sw, bar) (xs (4 * k + 1)) (xs (4 * k + 2))) u1 (n, hv, sw, a, v_thrown_c664, sh, cv, of, many, colour, org, state, v_layers_c664, v_heat_c664, v_burnt_c664, v_things_c664, v_history_c664, bars, set, seen, pile, isIn, order, whr, tried) _ _ _ hR1 hwz hP hD hS (lv_sub hl [2, 3, 4, 5, 6] rfl)
set_option maxHeartbeats 4000000 in
set_option maxRecDepth 100000 in
theorem k_L_fire (C : LC p l s m meth c b L xs D cI cJ cZ cO tD mi) {s0 : SG} {u : KT} {w : KM} {H : Heap} {locs : List Loc} {ls : Array Slot} (hk : 4 * k + 4 ≤ L) (hL : L ≤ 2048) (hR : RCt s0 u) (hM : RMt s0 w) (hP : va_P D vwCl (WCt cI cJ cO h o u ++ WMt cI cZ g w) H) (hD : va_D (AL s) (WCt cI cJ cO h o u ++ WMt cI cZ g w)) (hS : va_S (AL s) s.heap H locs) (hl : lv_has ls 7 [(0, .ref b), (1, .ref h), (2, .ref g), (3, .ref o), (4, .int (nI (4 * k)))]) (hcc : cells + 6 ≤ 601024) (hss : slots + 134 ≤ 7293034) (K : NXT p l e s m below meth c b D cI cJ cZ cO h g o k cells slots Q) : W p l e room_1 s m #[Value.ref b] below meth c H locs cells slots Q (F0 m 700 ls []) := by
  obtain ⟨hx, hb, hr, hml, hown, hts, hX, hbl, hlocks, hst, hK, hE, hT, hLS, hN⟩ := C
  have hA : ∀ q, s.heap.size ≤ q → AL s q := fun _ h9 => h9
  refine lv_aload_n hx hb dL_law_700 rfl (lv_at hl 1 rfl) ?_
  refine sld (k := k) (j := 1) (v := 1) hx hb hX hbl hS hl (lv_at hl 0 rfl) (lv_at hl 4 rfl) (nI_add _ _) (by decide) (by omega) hL dL_law_701 dL_law_702 dL_law_704 dL_law_705 dL_law_706 ?_
  refine sld (k := k) (j := 2) (v := 2) hx hb hX hbl hS hl (lv_at hl 0 rfl) (lv_at hl 4 rfl) (nI_add _ _) (by decide) (by omega) hL dL_law_707 dL_law_708 dL_law_710 dL_law_711 dL_law_712 ?_
  refine lv_aload_n hx hb dL_law_713 rfl (lv_at hl 3 rfl) ?_
  have hCut := Cut.left hP hD hS hA (cut_all (w1 := fun (u : KT) => WCt cI cJ cO h o u) (va_P_app.mp hP).1 (hD.inner (n := H.size)).1 va_S.rf (fun q h9 => Or.inr h9))
  refine ca_i (wa := fun (u1 : KT) => WCt cI cJ cO h o u1 ++ WMt cI cZ g w) hCut hS (vx_runSW (As := [.ref h, .int (xs (4 * k + 1)), .int (xs (4 * k + 2)), .ref o]) (rest := []) ⟨hx, hb, hml, hown, hts⟩ (c_L_fire l D hst cI cJ cZ cO tD mi h o s0 u _ (xs (4 * k + 1)) (xs (4 * k + 2)) hR) (vx_cwSW 4 hts gL_law_L_fire rfl rfl rfl (by decide +kernel) ⟨Nat.le_of_ble_eq_true rfl, Nat.le_of_ble_eq_true rfl⟩) (hCut.preSW hK hE hT hLS hN hS) rfl rfl hl.1 rfl (lv_room (Nat.le_of_ble_eq_true rfl)) dL_law_714 ⟨by show cells + 2 ≤ 601024; omega, by show slots + 12 ≤ 7293034; omega⟩) (fun r u1 H locs hw1 hP hD hS => ?_)
  obtain ⟨hr1, hw2, hw3⟩ := hw1
  refine lv_istore (lv' := [(5, .int r), (0, .ref b), (1, .ref h), (2, .ref g), (3, .ref o), (4, .int (nI (4 * k)))]) hx hb dL_law_717 hl (by decide) rfl (fun ls hl => ?_)
  have hI := KT.is hR
  obtain ⟨N, own, pd, HW, SW, bar⟩ := s0
  obtain ⟨hO, hIP, hsw, hb5⟩ := hI
  obtain ⟨n, hv, sw, a, t, sh, cv, of, many, colour, org, state, layers, heat, burnt, things, history, bars, set, seen, pile, isIn, order, whr, tried⟩ := w
  obtain ⟨e1, e2, e3, ho, hmn, r0, r1, r2, r3, r4, r5, r10, r15, hfb⟩ := hM
  dsimp only at e1 e2 e3 ho hmn r0 r1 r2 r3 r4 r5 r10 r15 hfb hO hIP hsw hb5
  subst e1 e2 e3
  refine lv_aload_n hx hb dL_law_719 rfl (lv_at hl 3 rfl) ?_
  refine sld (k := k) (j := 1) (v := 1) hx hb hX hbl hS hl (lv_at hl 1 rfl) (lv_at hl 5 rfl) (nI_add _ _) (by decide) (by omega) hL dL_law_720 dL_law_721 dL_law_723 dL_law_724 dL_law_725 ?_
  refine sld (k := k) (j := 2) (v := 2) hx hb hX hbl hS hl (lv_at hl 1 rfl) (lv_at hl 5 rfl) (nI_add _ _) (by decide) (by omega) hL dL_law_726 dL_law_727 dL_law_729 dL_law_730 dL_law_731 ?_
  have hw : wp_X5_fire t (nI n) many layers heat burnt things history (xs (4 * k + 1)) (xs (4 * k + 2)) (fun r_732 v_thrown_c732 v_burnt_c732 v_things_c732 v_history_c732 => v_thrown_c732 = nI (oC_fire (n, own, pd, hv, sw, bar) (xs (4 * k + 1)) (xs (4 * k + 2))) ∧ (¬ (oC_fire (n, own, pd, hv, sw, bar) (xs (4 * k + 1)) (xs (4 * k + 2))) = 0 → RMt (n, own, pd, hv, sw, bar) (n, hv, sw, a, v_thrown_c732, sh, cv, of, many, colour, org, state, layers, heat, v_burnt_c732, v_things_c732, v_history_c732, bars, set, seen, pile, isIn, order, whr, tried)) ∧ ((oC_fire (n, own, pd, hv, sw, bar) (xs (4 * k + 1)) (xs (4 * k + 2))) = 0 → (oV_fire (n, own, pd, hv, sw, bar) (xs (4 * k + 1)) (xs (4 * k + 2))) r_732 ∧ RMt (oS_fire (n, own, pd, hv, sw, bar) (xs (4 * k + 1)) (xs (4 * k + 2))) (n, hv, sw, a, v_thrown_c732, sh, cv, of, many, colour, org, state, layers, heat, v_burnt_c732, v_things_c732, v_history_c732, bars, set, seen, pile, isIn, order, whr, tried))) := m_fire hO hIP hmn r2 r3 r5 r10 r15 (fun gg => ⟨rfl, fun _ => ⟨rfl, rfl, rfl, ho, hmn, r0, r1, r2, r3, r4, r5, r10, r15, hfb⟩, fun z => absurd z gg⟩) (fun gg e1 e2 pd9 hpd a10 a3 a15 q10 q3 q15 => by subst hpd; exact ⟨by rw [show (oC_fire (n, own, pd, hv, sw, bar) (xs (4 * k + 1)) (xs (4 * k + 2))) = 0 from gg]; rfl, fun z => absurd (show (oC_fire (n, own, pd, hv, sw, bar) (xs (4 * k + 1)) (xs (4 * k + 2))) = 0 from gg) z, fun _ => ⟨rfl, ⟨rfl, rfl, rfl, ho, hmn, (r0.keep (fun i => lo_fire (by omega))), (r1.keep (fun i => lo_fire (by omega))), (r2.keep (fun i => lo_fire (by omega))), q3, (r4.keep (fun i => lo_fire (by omega))), (r5.keep (fun i j hj => lo_fire (by omega))), q10, q15, hfb⟩⟩⟩)
  have hCut := Cut.right hP hD hS hA (cut0 (S := Int32 × (Nat → Int32) × (Nat → Int32) × (Nat → Int32)) (X := (WM cI cZ g a t (nI n) (nI hv) (nI sw) sh cv of many colour org state layers heat burnt things history bars set seen pile isIn order whr tried)) (cx := (W_X5_fire g a cI cJ cZ t (nI n) many layers heat burnt things history (nI hv) (nI sw) sh cv)) (pl := []) (w1 := fun (u : Int32 × (Nat → Int32) × (Nat → Int32) × (Nat → Int32)) => (W_X5_fire g a cI cJ cZ u.1 (nI n) many layers heat u.2.1 u.2.2.1 u.2.2.2 (nI hv) (nI sw) sh cv)) (X' := fun (u : Int32 × (Nat → Int32) × (Nat → Int32) × (Nat → Int32)) => (WM cI cZ g a u.1 (nI n) (nI hv) (nI sw) sh cv of many colour org state layers heat u.2.1 u.2.2.1 u.2.2.2 bars set seen pile isIn order whr tried)) (va_P_app.mp hP).2 (hD.inner (n := H.size)).2 va_S.rf (fun q h9 => Or.inr h9) [0, 2, 6, 7, 8, 9, 10] [1, 3, 4, 5, 11, 12, 13, 14, 15, 16, 17, 18] [12, 0, 13, 1, 2, 3, 14, 15, 16, 17, 18, 4, 5, 6, 7, 8, 9, 10, 11] rfl rfl (by decide) (by decide) (by decide) (fun u => rfl) (by decide))
  refine ca_i (wa := fun (u : Int32 × (Nat → Int32) × (Nat → Int32) × (Nat → Int32)) => WCt cI cJ cO h o u1 ++ (WM cI cZ g a u.1 (nI n) (nI hv) (nI sw) sh cv of many colour org state layers heat u.2.1 u.2.2.1 u.2.2.2 bars set seen pile isIn order whr tried)) hCut hS (va_runV (As := [.int (xs (4 * k + 1)), .int (xs (4 * k + 2))]) (rest := []) ⟨hx, hb, hml, hown, hts⟩ (c_X5_fire l D cI cJ cZ cO g a H.size t (nI n) many layers heat burnt things history (nI hv) (nI sw) sh cv (xs (4 * k + 1)) (xs (4 * k + 2)) _ hw) (cwV 2 hts gL_law_X5_fire rfl rfl rfl (by decide +kernel) ⟨Nat.le_of_ble_eq_true rfl, Nat.le_of_ble_eq_true rfl⟩) (hCut.preV (qb := 0) (ci := 6) hK hE rfl rfl) rfl rfl hl.1 rfl (lv_room (Nat.le_of_ble_eq_true rfl)) dL_law_732 ⟨by show _ ≤ 601024; simp only [Nat.add_zero]; omega, by show _ ≤ 7293034; simp only [Nat.add_zero]; omega⟩) (fun r_732 u H locs hw hP hD hS => ?_)
  obtain ⟨v_thrown_c732, v_burnt_c732, v_things_c732, v_history_c732⟩ := u
  try dsimp only at hw
  obtain ⟨ht3, hwn, hwy⟩ := hw
  refine lv_istore (lv' := [(6, .int r_732), (5, .int r), (0, .ref b), (1, .ref h), (2, .ref g), (3, .ref o), (4, .int (nI (4 * k)))]) hx hb dL_law_735 hl (by decide) rfl (fun ls hl => ?_)
  refine lv_aload_n hx hb dL_law_737 rfl (lv_at hl 4 rfl) ?_
  have hw : wp_X5_thrown v_thrown_c732 (fun r => r = v_thrown_c732) := by unfold wp_X5_thrown; rfl
  have hCut := Cut.right hP hD hS hA (cut0 (S := Unit) (X := (WM cI cZ g a v_thrown_c732 (nI n) (nI hv) (nI sw) sh cv of many colour org state layers heat v_burnt_c732 v_things_c732 v_history_c732 bars set seen pile isIn order whr tried)) (cx := (W_X5_thrown g a cI cJ cZ v_thrown_c732 (nI n) (nI hv) (nI sw) sh cv)) (pl := []) (w1 := fun (u : Unit) => (W_X5_thrown g a cI cJ cZ v_thrown_c732 (nI n) (nI hv) (nI sw) sh cv)) (X' := fun (u : Unit) => (WM cI cZ g a v_thrown_c732 (nI n) (nI hv) (nI sw) sh cv of many colour org state layers heat v_burnt_c732 v_things_c732 v_history_c732 bars set seen pile isIn order whr tried)) (va_P_app.mp hP).2 (hD.inner (n := H.size)).2 va_S.rf (fun q h9 => Or.inr h9) [0] [1, 2, 3, 4, 5, 6, 7, 8, 9, 10, 11, 12, 13, 14, 15, 16, 17, 18] [18, 0, 1, 2, 3, 4, 5, 6, 7, 8, 9, 10, 11, 12, 13, 14, 15, 16, 17] rfl rfl (by decide) (by decide) (by decide) (fun u => rfl) (by decide))
  refine ca_i (wa := fun (u : Unit) => WCt cI cJ cO h o u1 ++ (WM cI cZ g a v_thrown_c732 (nI n) (nI hv) (nI sw) sh cv of many colour org state layers heat v_burnt_c732 v_things_c732 v_history_c732 bars set seen pile isIn order whr tried)) hCut hS (va_runV (As := []) (rest := []) ⟨hx, hb, hml, hown, hts⟩ (c_X5_thrown l D cI cJ cZ cO g a H.size v_thrown_c732 (nI n) (nI hv) (nI sw) sh cv _ hw) (cwV 0 hts gL_law_X5_thrown rfl rfl rfl (by decide +kernel) ⟨Nat.le_of_ble_eq_true rfl, Nat.le_of_ble_eq_true rfl⟩) (hCut.preV (qb := 0) (ci := 6) hK hE rfl rfl) rfl rfl hl.1 rfl (lv_room (Nat.le_of_ble_eq_true rfl)) dL_law_738 ⟨by show _ ≤ 601024; simp only [Nat.add_zero]; omega, by show _ ≤ 7293034; simp only [Nat.add_zero]; omega⟩) (fun r_738 _ H locs hw hP hD hS => ?_)
  try dsimp only at hw
  have hrr : r_738 = r := by rw [hw, ht3, hr1]
  refine lv_iload hx hb dL_law_741 (lv_at hl 1 rfl) ?_
  refine lv_icmp_eq (tgt := 748) hx hb dL_law_743 (by decide) (fun _ => ?_) (fun z9 => absurd hrr z9)
  refine lv_iload hx hb dL_law_748 (lv_at hl 1 rfl) ?_
  refine lv_if_ne (tgt := 765) hx hb dL_law_750 (by decide) (fun z9 => ?_) (fun z9 => ?_)
  · have hz : ¬ (oC_fire (n, own, pd, hv, sw, bar) (xs (4 * k + 1)) (xs (4 * k + 2))) = 0 := fun q9 => z9 (by rw [hr1, q9]; rfl)
    have hwn := hwn hz
    refine lv_goto (tgt := 1738) hx hb dL_law_765 (by decide) ?_
    refine W.widen (k := cells + 6) (n := slots + 134) (by omega) (by omega) ?_
    exact K (n, own, pd, hv, sw, bar) u1 (n, hv, sw, a, v_thrown_c732, sh, cv, of, many, colour, org, state, layers, heat, v_burnt_c732, v_things_c732, v_history_c732, bars, set, seen, pile, isIn, order, whr, tried) _ _ _ (hw2 hz) hwn hP hD hS (lv_sub hl [2, 3, 4, 5, 6] rfl)
  · have hz : (oC_fire (n, own, pd, hv, sw, bar) (xs (4 * k + 1)) (xs (4 * k + 2))) = 0 := by
      have b9 : (oC_fire (n, own, pd, hv, sw, bar) (xs (4 * k + 1)) (xs (4 * k + 2))) < 2147483648 := Nat.lt_of_le_of_lt fireC_le (by omega)
      exact (nI_eq b9 (by omega)).mp (hr1.symm.trans z9)
    obtain ⟨hR1, y9, hy9, ho9⟩ := hw3 hz
    obtain ⟨hv9, hwz⟩ := hwy hz
    have hyr : y9 = r_732 := hy9.trans hv9.symm
    subst hyr
    refine lv_aload_n hx hb dL_law_753 rfl (lv_at hl 5 rfl) ?_
    refine lv_iconst (v := 0) hx hb dL_law_754 (by decide) ?_
    have hout : ∃ fo : Nat → Int64, fo 0 = u1.out ∧ (WCt cI cJ cO h o u1 ++ (WM cI cZ g a v_thrown_c732 (nI n) (nI hv) (nI sw) sh cv of many colour org state layers heat v_burnt_c732 v_things_c732 v_history_c732 bars set seen pile isIn order whr tried))[0]? = some (o, .inl (cJ, 1, .inr (.inl fo))) := by obtain ⟨n, hv, sw, m_cap, a, aC, aM, aW, aN, aF, aL, ad, af, br, md, el, ow, su, wr, wc, nr, nc, fr, fc, lq, lh, lw, lsp, x1, x2, x3, x4, x5, qc, qs, ql, qt, qo, qh, qf, qth, v⟩ := u1; exact ⟨v, rfl, rfl⟩
    obtain ⟨fo, hfo, hc0⟩ := hout
    refine va_lald hx hb hK hP 0 1 hc0 rfl (vp_lit rfl) dL_law_755 ?_
    have hf0 : fo (0 : Int32).toNatClampNeg = y9.toInt64 := hfo.trans ho9
    rw [hf0]
    refine lv_iload hx hb dL_law_756 (lv_at hl 0 rfl) ?_
    refine lv_i2l (v := y9.toInt64) hx hb dL_law_758 rfl ?_
    refine W.lcmp hx hb dL_law_759 ?_
    rw [lg_same]
    refine lv_if_eq (tgt := 765) hx hb dL_law_760 (by decide) (fun _ => ?_) (fun q9 => absurd rfl q9)
    refine lv_goto (tgt := 1738) hx hb dL_law_765 (by decide) ?_
    refine W.widen (k := cells + 6) (n := slots + 134) (by omega) (by omega) ?_
    exact K (oS_fire (n, own, pd, hv, sw, bar) (xs (4 * k + 1)) (xs (4 * k + 2))) u1 (n, hv, sw, a, v_thrown_c732, sh, cv, of, many, colour, org, state, layers, heat, v_burnt_c732, v_things_c732, v_history_c732, bars, set, seen, pile, isIn, order, whr, tried) _ _ _ hR1 hwz hP hD hS (lv_sub hl [2, 3, 4, 5, 6] rfl)
set_option maxHeartbeats 4000000 in
set_option maxRecDepth 100000 in
theorem k_L_crack (C : LC p l s m meth c b L xs D cI cJ cZ cO tD mi) {s0 : SG} {u : KT} {w : KM} {H : Heap} {locs : List Loc} {ls : Array Slot} (hk : 4 * k + 4 ≤ L) (hL : L ≤ 2048) (hR : RCt s0 u) (hM : RMt s0 w) (hP : va_P D vwCl (WCt cI cJ cO h o u ++ WMt cI cZ g w) H) (hD : va_D (AL s) (WCt cI cJ cO h o u ++ WMt cI cZ g w)) (hS : va_S (AL s) s.heap H locs) (hl : lv_has ls 7 [(0, .ref b), (1, .ref h), (2, .ref g), (3, .ref o), (4, .int (nI (4 * k)))]) (hcc : cells + 6 ≤ 601024) (hss : slots + 134 ≤ 7293034) (K : NXT p l e s m below meth c b D cI cJ cZ cO h g o k cells slots Q) : W p l e room_1 s m #[Value.ref b] below meth c H locs cells slots Q (F0 m 768 ls []) := by
  obtain ⟨hx, hb, hr, hml, hown, hts, hX, hbl, hlocks, hst, hK, hE, hT, hLS, hN⟩ := C
  have hA : ∀ q, s.heap.size ≤ q → AL s q := fun _ h9 => h9
  refine lv_aload_n hx hb dL_law_768 rfl (lv_at hl 1 rfl) ?_
  refine sld (k := k) (j := 1) (v := 1) hx hb hX hbl hS hl (lv_at hl 0 rfl) (lv_at hl 4 rfl) (nI_add _ _) (by decide) (by omega) hL dL_law_769 dL_law_770 dL_law_772 dL_law_773 dL_law_774 ?_
  refine lv_aload_n hx hb dL_law_775 rfl (lv_at hl 3 rfl) ?_
  have hCut := Cut.left hP hD hS hA (cut_all (w1 := fun (u : KT) => WCt cI cJ cO h o u) (va_P_app.mp hP).1 (hD.inner (n := H.size)).1 va_S.rf (fun q h9 => Or.inr h9))
  refine ca_i (wa := fun (u1 : KT) => WCt cI cJ cO h o u1 ++ WMt cI cZ g w) hCut hS (vx_runSW (As := [.ref h, .int (xs (4 * k + 1)), .ref o]) (rest := []) ⟨hx, hb, hml, hown, hts⟩ (c_L_crack l D hst cI cJ cZ cO tD mi h o s0 u _ (xs (4 * k + 1)) hR) (vx_cwSW 3 hts gL_law_L_crack rfl rfl rfl (by decide +kernel) ⟨Nat.le_of_ble_eq_true rfl, Nat.le_of_ble_eq_true rfl⟩) (hCut.preSW hK hE hT hLS hN hS) rfl rfl hl.1 rfl (lv_room (Nat.le_of_ble_eq_true rfl)) dL_law_776 ⟨by show cells + 2 ≤ 601024; omega, by show slots + 12 ≤ 7293034; omega⟩) (fun r u1 H locs hw1 hP hD hS => ?_)
  obtain ⟨hr1, hw2, hw3⟩ := hw1
  refine lv_istore (lv' := [(5, .int r), (0, .ref b), (1, .ref h), (2, .ref g), (3, .ref o), (4, .int (nI (4 * k)))]) hx hb dL_law_779 hl (by decide) rfl (fun ls hl => ?_)
  have hI := KT.is hR
  obtain ⟨N, own, pd, HW, SW, bar⟩ := s0
  obtain ⟨hO, hIP, hsw, hb5⟩ := hI
  obtain ⟨n, hv, sw, a, t, sh, cv, of, many, colour, org, state, layers, heat, burnt, things, history, bars, set, seen, pile, isIn, order, whr, tried⟩ := w
  obtain ⟨e1, e2, e3, ho, hmn, r0, r1, r2, r3, r4, r5, r10, r15, hfb⟩ := hM
  dsimp only at e1 e2 e3 ho hmn r0 r1 r2 r3 r4 r5 r10 r15 hfb hO hIP hsw hb5
  subst e1 e2 e3
  refine lv_aload_n hx hb dL_law_781 rfl (lv_at hl 3 rfl) ?_
  refine sld (k := k) (j := 1) (v := 1) hx hb hX hbl hS hl (lv_at hl 1 rfl) (lv_at hl 5 rfl) (nI_add _ _) (by decide) (by omega) hL dL_law_782 dL_law_783 dL_law_785 dL_law_786 dL_law_787 ?_
  have hw : wp_X5_crack t of state things history (xs (4 * k + 1)) (fun r_788 v_thrown_c788 v_state_c788 v_things_c788 v_history_c788 => v_thrown_c788 = nI (oC_crack (n, own, pd, hv, sw, bar) (xs (4 * k + 1))) ∧ (¬ (oC_crack (n, own, pd, hv, sw, bar) (xs (4 * k + 1))) = 0 → RMt (n, own, pd, hv, sw, bar) (n, hv, sw, a, v_thrown_c788, sh, cv, of, many, colour, org, v_state_c788, layers, heat, burnt, v_things_c788, v_history_c788, bars, set, seen, pile, isIn, order, whr, tried)) ∧ ((oC_crack (n, own, pd, hv, sw, bar) (xs (4 * k + 1))) = 0 → (oV_crack (n, own, pd, hv, sw, bar) (xs (4 * k + 1))) r_788 ∧ RMt (oS_crack (n, own, pd, hv, sw, bar) (xs (4 * k + 1))) (n, hv, sw, a, v_thrown_c788, sh, cv, of, many, colour, org, v_state_c788, layers, heat, burnt, v_things_c788, v_history_c788, bars, set, seen, pile, isIn, order, whr, tried))) := m_crack hO hIP ho r1 r3 r15 (fun ee => ⟨by rw [show (oC_crack (n, own, pd, hv, sw, bar) (xs (4 * k + 1))) = 1 from by unfold oC_crack; rw [ee]; rfl]; rfl, fun _ => ⟨rfl, rfl, rfl, ho, hmn, r0, r1, r2, r3, r4, r5, r10, r15, hfb⟩, fun z => absurd ((show (oC_crack (n, own, pd, hv, sw, bar) (xs (4 * k + 1))) = 1 from by unfold oC_crack; rw [ee]; rfl).symm.trans z) (by decide)⟩) (fun ee q9 hq pd9 hpd a1 a3 a15 q1 q3 q15 => by subst hpd; subst hq; exact ⟨by rw [show (oC_crack (n, own, pd, hv, sw, bar) (xs (4 * k + 1))) = 0 from by unfold oC_crack; rw [ee]; rfl]; rfl, fun z => absurd (show (oC_crack (n, own, pd, hv, sw, bar) (xs (4 * k + 1))) = 0 from by unfold oC_crack; rw [ee]; rfl) z, fun _ => ⟨rfl, ⟨rfl, rfl, rfl, ho, hmn, (r0.keep (fun i => lo_stt (by omega))), q1, (r2.keep (fun i => lo_stt (by omega))), q3, (r4.keep (fun i => lo_stt (by omega))), (r5.keep (fun i j hj => lo_stt (by omega))), (r10.keep (fun i j hj => lo_stt (by omega))), q15, hfb⟩⟩⟩)
  have hCut := Cut.right hP hD hS hA (cut0 (S := Int32 × (Nat → Int32) × (Nat → Int32) × (Nat → Int32)) (X := (WM cI cZ g a t (nI n) (nI hv) (nI sw) sh cv of many colour org state layers heat burnt things history bars set seen pile isIn order whr tried)) (cx := (W_X5_crack g a cI cJ cZ t (nI n) of state things history (nI hv) (nI sw) sh cv)) (pl := []) (w1 := fun (u : Int32 × (Nat → Int32) × (Nat → Int32) × (Nat → Int32)) => (W_X5_crack g a cI cJ cZ u.1 (nI n) of u.2.1 u.2.2.1 u.2.2.2 (nI hv) (nI sw) sh cv)) (X' := fun (u : Int32 × (Nat → Int32) × (Nat → Int32) × (Nat → Int32)) => (WM cI cZ g a u.1 (nI n) (nI hv) (nI sw) sh cv of many colour org u.2.1 layers heat burnt u.2.2.1 u.2.2.2 bars set seen pile isIn order whr tried)) (va_P_app.mp hP).2 (hD.inner (n := H.size)).2 va_S.rf (fun q h9 => Or.inr h9) [0, 1, 5, 9, 10] [2, 3, 4, 6, 7, 8, 11, 12, 13, 14, 15, 16, 17, 18] [14, 15, 0, 1, 2, 16, 3, 4, 5, 17, 18, 6, 7, 8, 9, 10, 11, 12, 13] rfl rfl (by decide) (by decide) (by decide) (fun u => rfl) (by decide))
  refine ca_i (wa := fun (u : Int32 × (Nat → Int32) × (Nat → Int32) × (Nat → Int32)) => WCt cI cJ cO h o u1 ++ (WM cI cZ g a u.1 (nI n) (nI hv) (nI sw) sh cv of many colour org u.2.1 layers heat burnt u.2.2.1 u.2.2.2 bars set seen pile isIn order whr tried)) hCut hS (va_runV (As := [.int (xs (4 * k + 1))]) (rest := []) ⟨hx, hb, hml, hown, hts⟩ (c_X5_crack l D cI cJ cZ cO g a H.size t (nI n) of state things history (nI hv) (nI sw) sh cv (xs (4 * k + 1)) _ hw) (cwV 1 hts gL_law_X5_crack rfl rfl rfl (by decide +kernel) ⟨Nat.le_of_ble_eq_true rfl, Nat.le_of_ble_eq_true rfl⟩) (hCut.preV (qb := 0) (ci := 6) hK hE rfl rfl) rfl rfl hl.1 rfl (lv_room (Nat.le_of_ble_eq_true rfl)) dL_law_788 ⟨by show _ ≤ 601024; simp only [Nat.add_zero]; omega, by show _ ≤ 7293034; simp only [Nat.add_zero]; omega⟩) (fun r_788 u H locs hw hP hD hS => ?_)
  obtain ⟨v_thrown_c788, v_state_c788, v_things_c788, v_history_c788⟩ := u
  try dsimp only at hw
  obtain ⟨ht3, hwn, hwy⟩ := hw
  refine lv_istore (lv' := [(6, .int r_788), (5, .int r), (0, .ref b), (1, .ref h), (2, .ref g), (3, .ref o), (4, .int (nI (4 * k)))]) hx hb dL_law_791 hl (by decide) rfl (fun ls hl => ?_)
  refine lv_aload_n hx hb dL_law_793 rfl (lv_at hl 4 rfl) ?_
  have hw : wp_X5_thrown v_thrown_c788 (fun r => r = v_thrown_c788) := by unfold wp_X5_thrown; rfl
  have hCut := Cut.right hP hD hS hA (cut0 (S := Unit) (X := (WM cI cZ g a v_thrown_c788 (nI n) (nI hv) (nI sw) sh cv of many colour org v_state_c788 layers heat burnt v_things_c788 v_history_c788 bars set seen pile isIn order whr tried)) (cx := (W_X5_thrown g a cI cJ cZ v_thrown_c788 (nI n) (nI hv) (nI sw) sh cv)) (pl := []) (w1 := fun (u : Unit) => (W_X5_thrown g a cI cJ cZ v_thrown_c788 (nI n) (nI hv) (nI sw) sh cv)) (X' := fun (u : Unit) => (WM cI cZ g a v_thrown_c788 (nI n) (nI hv) (nI sw) sh cv of many colour org v_state_c788 layers heat burnt v_things_c788 v_history_c788 bars set seen pile isIn order whr tried)) (va_P_app.mp hP).2 (hD.inner (n := H.size)).2 va_S.rf (fun q h9 => Or.inr h9) [0] [1, 2, 3, 4, 5, 6, 7, 8, 9, 10, 11, 12, 13, 14, 15, 16, 17, 18] [18, 0, 1, 2, 3, 4, 5, 6, 7, 8, 9, 10, 11, 12, 13, 14, 15, 16, 17] rfl rfl (by decide) (by decide) (by decide) (fun u => rfl) (by decide))
  refine ca_i (wa := fun (u : Unit) => WCt cI cJ cO h o u1 ++ (WM cI cZ g a v_thrown_c788 (nI n) (nI hv) (nI sw) sh cv of many colour org v_state_c788 layers heat burnt v_things_c788 v_history_c788 bars set seen pile isIn order whr tried)) hCut hS (va_runV (As := []) (rest := []) ⟨hx, hb, hml, hown, hts⟩ (c_X5_thrown l D cI cJ cZ cO g a H.size v_thrown_c788 (nI n) (nI hv) (nI sw) sh cv _ hw) (cwV 0 hts gL_law_X5_thrown rfl rfl rfl (by decide +kernel) ⟨Nat.le_of_ble_eq_true rfl, Nat.le_of_ble_eq_true rfl⟩) (hCut.preV (qb := 0) (ci := 6) hK hE rfl rfl) rfl rfl hl.1 rfl (lv_room (Nat.le_of_ble_eq_true rfl)) dL_law_794 ⟨by show _ ≤ 601024; simp only [Nat.add_zero]; omega, by show _ ≤ 7293034; simp only [Nat.add_zero]; omega⟩) (fun r_794 _ H locs hw hP hD hS => ?_)
  try dsimp only at hw
  have hrr : r_794 = r := by rw [hw, ht3, hr1]
  refine lv_iload hx hb dL_law_797 (lv_at hl 1 rfl) ?_
  refine lv_icmp_eq (tgt := 804) hx hb dL_law_799 (by decide) (fun _ => ?_) (fun z9 => absurd hrr z9)
  refine lv_iload hx hb dL_law_804 (lv_at hl 1 rfl) ?_
  refine lv_if_ne (tgt := 821) hx hb dL_law_806 (by decide) (fun z9 => ?_) (fun z9 => ?_)
  · have hz : ¬ (oC_crack (n, own, pd, hv, sw, bar) (xs (4 * k + 1))) = 0 := fun q9 => z9 (by rw [hr1, q9]; rfl)
    have hwn := hwn hz
    refine lv_goto (tgt := 1738) hx hb dL_law_821 (by decide) ?_
    refine W.widen (k := cells + 6) (n := slots + 134) (by omega) (by omega) ?_
    exact K (n, own, pd, hv, sw, bar) u1 (n, hv, sw, a, v_thrown_c788, sh, cv, of, many, colour, org, v_state_c788, layers, heat, burnt, v_things_c788, v_history_c788, bars, set, seen, pile, isIn, order, whr, tried) _ _ _ (hw2 hz) hwn hP hD hS (lv_sub hl [2, 3, 4, 5, 6] rfl)
  · have hz : (oC_crack (n, own, pd, hv, sw, bar) (xs (4 * k + 1))) = 0 := by
      have b9 : (oC_crack (n, own, pd, hv, sw, bar) (xs (4 * k + 1))) < 2147483648 := by unfold oC_crack; split <;> omega
      exact (nI_eq b9 (by omega)).mp (hr1.symm.trans z9)
    obtain ⟨hR1, y9, hy9, ho9⟩ := hw3 hz
    obtain ⟨hv9, hwz⟩ := hwy hz
    have hyr : y9 = r_788 := hy9.trans hv9.symm
    subst hyr
    refine lv_aload_n hx hb dL_law_809 rfl (lv_at hl 5 rfl) ?_
    refine lv_iconst (v := 0) hx hb dL_law_810 (by decide) ?_
    have hout : ∃ fo : Nat → Int64, fo 0 = u1.out ∧ (WCt cI cJ cO h o u1 ++ (WM cI cZ g a v_thrown_c788 (nI n) (nI hv) (nI sw) sh cv of many colour org v_state_c788 layers heat burnt v_things_c788 v_history_c788 bars set seen pile isIn order whr tried))[0]? = some (o, .inl (cJ, 1, .inr (.inl fo))) := by obtain ⟨n, hv, sw, m_cap, a, aC, aM, aW, aN, aF, aL, ad, af, br, md, el, ow, su, wr, wc, nr, nc, fr, fc, lq, lh, lw, lsp, x1, x2, x3, x4, x5, qc, qs, ql, qt, qo, qh, qf, qth, v⟩ := u1; exact ⟨v, rfl, rfl⟩
    obtain ⟨fo, hfo, hc0⟩ := hout
    refine va_lald hx hb hK hP 0 1 hc0 rfl (vp_lit rfl) dL_law_811 ?_
    have hf0 : fo (0 : Int32).toNatClampNeg = y9.toInt64 := hfo.trans ho9
    rw [hf0]
    refine lv_iload hx hb dL_law_812 (lv_at hl 0 rfl) ?_
    refine lv_i2l (v := y9.toInt64) hx hb dL_law_814 rfl ?_
    refine W.lcmp hx hb dL_law_815 ?_
    rw [lg_same]
    refine lv_if_eq (tgt := 821) hx hb dL_law_816 (by decide) (fun _ => ?_) (fun q9 => absurd rfl q9)
    refine lv_goto (tgt := 1738) hx hb dL_law_821 (by decide) ?_
    refine W.widen (k := cells + 6) (n := slots + 134) (by omega) (by omega) ?_
    exact K (oS_crack (n, own, pd, hv, sw, bar) (xs (4 * k + 1))) u1 (n, hv, sw, a, v_thrown_c788, sh, cv, of, many, colour, org, v_state_c788, layers, heat, burnt, v_things_c788, v_history_c788, bars, set, seen, pile, isIn, order, whr, tried) _ _ _ hR1 hwz hP hD hS (lv_sub hl [2, 3, 4, 5, 6] rfl)
set_option maxHeartbeats 4000000 in
set_option maxRecDepth 100000 in
theorem k_L_mend (C : LC p l s m meth c b L xs D cI cJ cZ cO tD mi) {s0 : SG} {u : KT} {w : KM} {H : Heap} {locs : List Loc} {ls : Array Slot} (hk : 4 * k + 4 ≤ L) (hL : L ≤ 2048) (hR : RCt s0 u) (hM : RMt s0 w) (hP : va_P D vwCl (WCt cI cJ cO h o u ++ WMt cI cZ g w) H) (hD : va_D (AL s) (WCt cI cJ cO h o u ++ WMt cI cZ g w)) (hS : va_S (AL s) s.heap H locs) (hl : lv_has ls 7 [(0, .ref b), (1, .ref h), (2, .ref g), (3, .ref o), (4, .int (nI (4 * k)))]) (hcc : cells + 6 ≤ 601024) (hss : slots + 134 ≤ 7293034) (K : NXT p l e s m below meth c b D cI cJ cZ cO h g o k cells slots Q) : W p l e room_1 s m #[Value.ref b] below meth c H locs cells slots Q (F0 m 824 ls []) := by
  obtain ⟨hx, hb, hr, hml, hown, hts, hX, hbl, hlocks, hst, hK, hE, hT, hLS, hN⟩ := C
  have hA : ∀ q, s.heap.size ≤ q → AL s q := fun _ h9 => h9
  refine lv_aload_n hx hb dL_law_824 rfl (lv_at hl 1 rfl) ?_
  refine sld (k := k) (j := 1) (v := 1) hx hb hX hbl hS hl (lv_at hl 0 rfl) (lv_at hl 4 rfl) (nI_add _ _) (by decide) (by omega) hL dL_law_825 dL_law_826 dL_law_828 dL_law_829 dL_law_830 ?_
  refine lv_aload_n hx hb dL_law_831 rfl (lv_at hl 3 rfl) ?_
  have hCut := Cut.left hP hD hS hA (cut_all (w1 := fun (u : KT) => WCt cI cJ cO h o u) (va_P_app.mp hP).1 (hD.inner (n := H.size)).1 va_S.rf (fun q h9 => Or.inr h9))
  refine ca_i (wa := fun (u1 : KT) => WCt cI cJ cO h o u1 ++ WMt cI cZ g w) hCut hS (vx_runSW (As := [.ref h, .int (xs (4 * k + 1)), .ref o]) (rest := []) ⟨hx, hb, hml, hown, hts⟩ (c_L_mend l D hst cI cJ cZ cO tD mi h o s0 u _ (xs (4 * k + 1)) hR) (vx_cwSW 3 hts gL_law_L_mend rfl rfl rfl (by decide +kernel) ⟨Nat.le_of_ble_eq_true rfl, Nat.le_of_ble_eq_true rfl⟩) (hCut.preSW hK hE hT hLS hN hS) rfl rfl hl.1 rfl (lv_room (Nat.le_of_ble_eq_true rfl)) dL_law_832 ⟨by show cells + 2 ≤ 601024; omega, by show slots + 12 ≤ 7293034; omega⟩) (fun r u1 H locs hw1 hP hD hS => ?_)
  obtain ⟨hr1, hw2, hw3⟩ := hw1
  refine lv_istore (lv' := [(5, .int r), (0, .ref b), (1, .ref h), (2, .ref g), (3, .ref o), (4, .int (nI (4 * k)))]) hx hb dL_law_835 hl (by decide) rfl (fun ls hl => ?_)
  have hI := KT.is hR
  obtain ⟨N, own, pd, HW, SW, bar⟩ := s0
  obtain ⟨hO, hIP, hsw, hb5⟩ := hI
  obtain ⟨n, hv, sw, a, t, sh, cv, of, many, colour, org, state, layers, heat, burnt, things, history, bars, set, seen, pile, isIn, order, whr, tried⟩ := w
  obtain ⟨e1, e2, e3, ho, hmn, r0, r1, r2, r3, r4, r5, r10, r15, hfb⟩ := hM
  dsimp only at e1 e2 e3 ho hmn r0 r1 r2 r3 r4 r5 r10 r15 hfb hO hIP hsw hb5
  subst e1 e2 e3
  refine lv_aload_n hx hb dL_law_837 rfl (lv_at hl 3 rfl) ?_
  refine sld (k := k) (j := 1) (v := 1) hx hb hX hbl hS hl (lv_at hl 1 rfl) (lv_at hl 5 rfl) (nI_add _ _) (by decide) (by omega) hL dL_law_838 dL_law_839 dL_law_841 dL_law_842 dL_law_843 ?_
  have hw : wp_X5_mend t (nI n) many state things history (xs (4 * k + 1)) (fun r_844 v_thrown_c844 v_state_c844 v_things_c844 v_history_c844 => v_thrown_c844 = nI (oC_mend (n, own, pd, hv, sw, bar) (xs (4 * k + 1))) ∧ (¬ (oC_mend (n, own, pd, hv, sw, bar) (xs (4 * k + 1))) = 0 → RMt (n, own, pd, hv, sw, bar) (n, hv, sw, a, v_thrown_c844, sh, cv, of, many, colour, org, v_state_c844, layers, heat, burnt, v_things_c844, v_history_c844, bars, set, seen, pile, isIn, order, whr, tried)) ∧ ((oC_mend (n, own, pd, hv, sw, bar) (xs (4 * k + 1))) = 0 → (oV_mend (n, own, pd, hv, sw, bar) (xs (4 * k + 1))) r_844 ∧ RMt (oS_mend (n, own, pd, hv, sw, bar) (xs (4 * k + 1))) (n, hv, sw, a, v_thrown_c844, sh, cv, of, many, colour, org, v_state_c844, layers, heat, burnt, v_things_c844, v_history_c844, bars, set, seen, pile, isIn, order, whr, tried))) := m_mend hO hIP hmn r1 r3 r15 (fun gg => ⟨rfl, fun _ => ⟨rfl, rfl, rfl, ho, hmn, r0, r1, r2, r3, r4, r5, r10, r15, hfb⟩, fun z => absurd z gg⟩) (fun gg e1 pd9 hpd a1 a3 a15 q1 q3 q15 => by subst hpd; exact ⟨by rw [show (oC_mend (n, own, pd, hv, sw, bar) (xs (4 * k + 1))) = 0 from gg]; rfl, fun z => absurd (show (oC_mend (n, own, pd, hv, sw, bar) (xs (4 * k + 1))) = 0 from gg) z, fun _ => ⟨rfl, ⟨rfl, rfl, rfl, ho, hmn, (r0.keep (fun i => lo_stt (by omega))), q1, (r2.keep (fun i => lo_stt (by omega))), q3, (r4.keep (fun i => lo_stt (by omega))), (r5.keep (fun i j hj => lo_stt (by omega))), (r10.keep (fun i j hj => lo_stt (by omega))), q15, hfb⟩⟩⟩)
  have hCut := Cut.right hP hD hS hA (cut0 (S := Int32 × (Nat → Int32) × (Nat → Int32) × (Nat → Int32)) (X := (WM cI cZ g a t (nI n) (nI hv) (nI sw) sh cv of many colour org state layers heat burnt things history bars set seen pile isIn order whr tried)) (cx := (W_X5_mend g a cI cJ cZ t (nI n) many state things history (nI hv) (nI sw) sh cv)) (pl := []) (w1 := fun (u : Int32 × (Nat → Int32) × (Nat → Int32) × (Nat → Int32)) => (W_X5_mend g a cI cJ cZ u.1 (nI n) many u.2.1 u.2.2.1 u.2.2.2 (nI hv) (nI sw) sh cv)) (X' := fun (u : Int32 × (Nat → Int32) × (Nat → Int32) × (Nat → Int32)) => (WM cI cZ g a u.1 (nI n) (nI hv) (nI sw) sh cv of many colour org u.2.1 layers heat burnt u.2.2.1 u.2.2.2 bars set seen pile isIn order whr tried)) (va_P_app.mp hP).2 (hD.inner (n := H.size)).2 va_S.rf (fun q h9 => Or.inr h9) [0, 2, 5, 9, 10] [1, 3, 4, 6, 7, 8, 11, 12, 13, 14, 15, 16, 17, 18] [14, 0, 15, 1, 2, 16, 3, 4, 5, 17, 18, 6, 7, 8, 9, 10, 11, 12, 13] rfl rfl (by decide) (by decide) (by decide) (fun u => rfl) (by decide))
  refine ca_i (wa := fun (u : Int32 × (Nat → Int32) × (Nat → Int32) × (Nat → Int32)) => WCt cI cJ cO h o u1 ++ (WM cI cZ g a u.1 (nI n) (nI hv) (nI sw) sh cv of many colour org u.2.1 layers heat burnt u.2.2.1 u.2.2.2 bars set seen pile isIn order whr tried)) hCut hS (va_runV (As := [.int (xs (4 * k + 1))]) (rest := []) ⟨hx, hb, hml, hown, hts⟩ (c_X5_mend l D cI cJ cZ cO g a H.size t (nI n) many state things history (nI hv) (nI sw) sh cv (xs (4 * k + 1)) _ hw) (cwV 1 hts gL_law_X5_mend rfl rfl rfl (by decide +kernel) ⟨Nat.le_of_ble_eq_true rfl, Nat.le_of_ble_eq_true rfl⟩) (hCut.preV (qb := 0) (ci := 6) hK hE rfl rfl) rfl rfl hl.1 rfl (lv_room (Nat.le_of_ble_eq_true rfl)) dL_law_844 ⟨by show _ ≤ 601024; simp only [Nat.add_zero]; omega, by show _ ≤ 7293034; simp only [Nat.add_zero]; omega⟩) (fun r_844 u H locs hw hP hD hS => ?_)
  obtain ⟨v_thrown_c844, v_state_c844, v_things_c844, v_history_c844⟩ := u
  try dsimp only at hw
  obtain ⟨ht3, hwn, hwy⟩ := hw
  refine lv_istore (lv' := [(6, .int r_844), (5, .int r), (0, .ref b), (1, .ref h), (2, .ref g), (3, .ref o), (4, .int (nI (4 * k)))]) hx hb dL_law_847 hl (by decide) rfl (fun ls hl => ?_)
  refine lv_aload_n hx hb dL_law_849 rfl (lv_at hl 4 rfl) ?_
  have hw : wp_X5_thrown v_thrown_c844 (fun r => r = v_thrown_c844) := by unfold wp_X5_thrown; rfl
  have hCut := Cut.right hP hD hS hA (cut0 (S := Unit) (X := (WM cI cZ g a v_thrown_c844 (nI n) (nI hv) (nI sw) sh cv of many colour org v_state_c844 layers heat burnt v_things_c844 v_history_c844 bars set seen pile isIn order whr tried)) (cx := (W_X5_thrown g a cI cJ cZ v_thrown_c844 (nI n) (nI hv) (nI sw) sh cv)) (pl := []) (w1 := fun (u : Unit) => (W_X5_thrown g a cI cJ cZ v_thrown_c844 (nI n) (nI hv) (nI sw) sh cv)) (X' := fun (u : Unit) => (WM cI cZ g a v_thrown_c844 (nI n) (nI hv) (nI sw) sh cv of many colour org v_state_c844 layers heat burnt v_things_c844 v_history_c844 bars set seen pile isIn order whr tried)) (va_P_app.mp hP).2 (hD.inner (n := H.size)).2 va_S.rf (fun q h9 => Or.inr h9) [0] [1, 2, 3, 4, 5, 6, 7, 8, 9, 10, 11, 12, 13, 14, 15, 16, 17, 18] [18, 0, 1, 2, 3, 4, 5, 6, 7, 8, 9, 10, 11, 12, 13, 14, 15, 16, 17] rfl rfl (by decide) (by decide) (by decide) (fun u => rfl) (by decide))
  refine ca_i (wa := fun (u : Unit) => WCt cI cJ cO h o u1 ++ (WM cI cZ g a v_thrown_c844 (nI n) (nI hv) (nI sw) sh cv of many colour org v_state_c844 layers heat burnt v_things_c844 v_history_c844 bars set seen pile isIn order whr tried)) hCut hS (va_runV (As := []) (rest := []) ⟨hx, hb, hml, hown, hts⟩ (c_X5_thrown l D cI cJ cZ cO g a H.size v_thrown_c844 (nI n) (nI hv) (nI sw) sh cv _ hw) (cwV 0 hts gL_law_X5_thrown rfl rfl rfl (by decide +kernel) ⟨Nat.le_of_ble_eq_true rfl, Nat.le_of_ble_eq_true rfl⟩) (hCut.preV (qb := 0) (ci := 6) hK hE rfl rfl) rfl rfl hl.1 rfl (lv_room (Nat.le_of_ble_eq_true rfl)) dL_law_850 ⟨by show _ ≤ 601024; simp only [Nat.add_zero]; omega, by show _ ≤ 7293034; simp only [Nat.add_zero]; omega⟩) (fun r_850 _ H locs hw hP hD hS => ?_)
  try dsimp only at hw
  have hrr : r_850 = r := by rw [hw, ht3, hr1]
  refine lv_iload hx hb dL_law_853 (lv_at hl 1 rfl) ?_
  refine lv_icmp_eq (tgt := 860) hx hb dL_law_855 (by decide) (fun _ => ?_) (fun z9 => absurd hrr z9)
  refine lv_iload hx hb dL_law_860 (lv_at hl 1 rfl) ?_
  refine lv_if_ne (tgt := 877) hx hb dL_law_862 (by decide) (fun z9 => ?_) (fun z9 => ?_)
  · have hz : ¬ (oC_mend (n, own, pd, hv, sw, bar) (xs (4 * k + 1))) = 0 := fun q9 => z9 (by rw [hr1, q9]; rfl)
    have hwn := hwn hz
    refine lv_goto (tgt := 1738) hx hb dL_law_877 (by decide) ?_
    refine W.widen (k := cells + 6) (n := slots + 134) (by omega) (by omega) ?_
    exact K (n, own, pd, hv, sw, bar) u1 (n, hv, sw, a, v_thrown_c844, sh, cv, of, many, colour, org, v_state_c844, layers, heat, burnt, v_things_c844, v_history_c844, bars, set, seen, pile, isIn, order, whr, tried) _ _ _ (hw2 hz) hwn hP hD hS (lv_sub hl [2, 3, 4, 5, 6] rfl)
  · have hz : (oC_mend (n, own, pd, hv, sw, bar) (xs (4 * k + 1))) = 0 := by
      have b9 : (oC_mend (n, own, pd, hv, sw, bar) (xs (4 * k + 1))) < 2147483648 := Nat.lt_of_le_of_lt mendC_le (by omega)
      exact (nI_eq b9 (by omega)).mp (hr1.symm.trans z9)
    obtain ⟨hR1, y9, hy9, ho9⟩ := hw3 hz
    obtain ⟨hv9, hwz⟩ := hwy hz
    have hyr : y9 = r_844 := hy9.trans hv9.symm
    subst hyr
    refine lv_aload_n hx hb dL_law_865 rfl (lv_at hl 5 rfl) ?_
    refine lv_iconst (v := 0) hx hb dL_law_866 (by decide) ?_
    have hout : ∃ fo : Nat → Int64, fo 0 = u1.out ∧ (WCt cI cJ cO h o u1 ++ (WM cI cZ g a v_thrown_c844 (nI n) (nI hv) (nI sw) sh cv of many colour org v_state_c844 layers heat burnt v_things_c844 v_history_c844 bars set seen pile isIn order whr tried))[0]? = some (o, .inl (cJ, 1, .inr (.inl fo))) := by obtain ⟨n, hv, sw, m_cap, a, aC, aM, aW, aN, aF, aL, ad, af, br, md, el, ow, su, wr, wc, nr, nc, fr, fc, lq, lh, lw, lsp, x1, x2, x3, x4, x5, qc, qs, ql, qt, qo, qh, qf, qth, v⟩ := u1; exact ⟨v, rfl, rfl⟩
    obtain ⟨fo, hfo, hc0⟩ := hout
    refine va_lald hx hb hK hP 0 1 hc0 rfl (vp_lit rfl) dL_law_867 ?_
    have hf0 : fo (0 : Int32).toNatClampNeg = y9.toInt64 := hfo.trans ho9
    rw [hf0]
    refine lv_iload hx hb dL_law_868 (lv_at hl 0 rfl) ?_
    refine lv_i2l (v := y9.toInt64) hx hb dL_law_870 rfl ?_
    refine W.lcmp hx hb dL_law_871 ?_
    rw [lg_same]
    refine lv_if_eq (tgt := 877) hx hb dL_law_872 (by decide) (fun _ => ?_) (fun q9 => absurd rfl q9)
    refine lv_goto (tgt := 1738) hx hb dL_law_877 (by decide) ?_
    refine W.widen (k := cells + 6) (n := slots + 134) (by omega) (by omega) ?_
    exact K (oS_mend (n, own, pd, hv, sw, bar) (xs (4 * k + 1))) u1 (n, hv, sw, a, v_thrown_c844, sh, cv, of, many, colour, org, v_state_c844, layers, heat, burnt, v_things_c844, v_history_c844, bars, set, seen, pile, isIn, order, whr, tried) _ _ _ hR1 hwz hP hD hS (lv_sub hl [2, 3, 4, 5, 6] rfl)
set_option maxHeartbeats 4000000 in
set_option maxRecDepth 100000 in
theorem k_L_replace (C : LC p l s m meth c b L xs D cI cJ cZ cO tD mi) {s0 : SG} {u : KT} {w : KM} {H : Heap} {locs : List Loc} {ls : Array Slot} (hk : 4 * k + 4 ≤ L) (hL : L ≤ 2048) (hR : RCt s0 u) (hM : RMt s0 w) (hP : va_P D vwCl (WCt cI cJ cO h o u ++ WMt cI cZ g w) H) (hD : va_D (AL s) (WCt cI cJ cO h o u ++ WMt cI cZ g w)) (hS : va_S (AL s) s.heap H locs) (hl : lv_has ls 7 [(0, .ref b), (1, .ref h), (2, .ref g), (3, .ref o), (4, .int (nI (4 * k)))]) (hcc : cells + 6 ≤ 601024) (hss : slots + 134 ≤ 7293034) (K : NXT p l e s m below meth c b D cI cJ cZ cO h g o k cells slots Q) : W p l e room_1 s m #[Value.ref b] below meth c H locs cells slots Q (F0 m 880 ls []) := by
  obtain ⟨hx, hb, hr, hml, hown, hts, hX, hbl, hlocks, hst, hK, hE, hT, hLS, hN⟩ := C
  have hA : ∀ q, s.heap.size ≤ q → AL s q := fun _ h9 => h9
  refine lv_aload_n hx hb dL_law_880 rfl (lv_at hl 1 rfl) ?_
  refine sld (k := k) (j := 1) (v := 1) hx hb hX hbl hS hl (lv_at hl 0 rfl) (lv_at hl 4 rfl) (nI_add _ _) (by decide) (by omega) hL dL_law_881 dL_law_882 dL_law_884 dL_law_885 dL_law_886 ?_
  refine sld (k := k) (j := 2) (v := 2) hx hb hX hbl hS hl (lv_at hl 0 rfl) (lv_at hl 4 rfl) (nI_add _ _) (by decide) (by omega) hL dL_law_887 dL_law_888 dL_law_890 dL_law_891 dL_law_892 ?_
  refine lv_aload_n hx hb dL_law_893 rfl (lv_at hl 3 rfl) ?_
  have hCut := Cut.left hP hD hS hA (cut_all (w1 := fun (u : KT) => WCt cI cJ cO h o u) (va_P_app.mp hP).1 (hD.inner (n := H.size)).1 va_S.rf (fun q h9 => Or.inr h9))
  refine ca_i (wa := fun (u1 : KT) => WCt cI cJ cO h o u1 ++ WMt cI cZ g w) hCut hS (vx_runSW (As := [.ref h, .int (xs (4 * k + 1)), .int (xs (4 * k + 2)), .ref o]) (rest := []) ⟨hx, hb, hml, hown, hts⟩ (c_L_replace l D hst cI cJ cZ cO tD mi h o s0 u _ (xs (4 * k + 1)) (xs (4 * k + 2)) hR) (vx_cwSW 4 hts gL_law_L_replace rfl rfl rfl (by decide +kernel) ⟨Nat.le_of_ble_eq_true rfl, Nat.le_of_ble_eq_true rfl⟩) (hCut.preSW hK hE hT hLS hN hS) rfl rfl hl.1 rfl (lv_room (Nat.le_of_ble_eq_true rfl)) dL_law_894 ⟨by show cells + 3 ≤ 601024; omega, by show slots + 18 ≤ 7293034; omega⟩) (fun r u1 H locs hw1 hP hD hS => ?_)
  obtain ⟨hr1, hw2, hw3⟩ := hw1
  refine lv_istore (lv' := [(5, .int r), (0, .ref b), (1, .ref h), (2, .ref g), (3, .ref o), (4, .int (nI (4 * k)))]) hx hb dL_law_897 hl (by decide) rfl (fun ls hl => ?_)
  have hI := KT.is hR
  obtain ⟨N, own, pd, HW, SW, bar⟩ := s0
  obtain ⟨hO, hIP, hsw, hb5⟩ := hI
  obtain ⟨n, hv, sw, a, t, sh, cv, of, many, colour, org, state, layers, heat, burnt, things, history, bars, set, seen, pile, isIn, order, whr, tried⟩ := w
  obtain ⟨e1, e2, e3, ho, hmn, r0, r1, r2, r3, r4, r5, r10, r15, hfb⟩ := hM
  dsimp only at e1 e2 e3 ho hmn r0 r1 r2 r3 r4 r5 r10 r15 hfb hO hIP hsw hb5
  subst e1 e2 e3
  refine lv_aload_n hx hb dL_law_899 rfl (lv_at hl 3 rfl) ?_
  refine sld (k := k) (j := 1) (v := 1) hx hb hX hbl hS hl (lv_at hl 1 rfl) (lv_at hl 5 rfl) (nI_add _ _) (by decide) (by omega) hL dL_law_900 dL_law_901 dL_law_903 dL_law_904 dL_law_905 ?_
  refine sld (k := k) (j := 2) (v := 2) hx hb hX hbl hS hl (lv_at hl 1 rfl) (lv_at hl 5 rfl) (nI_add _ _) (by decide) (by omega) hL dL_law_906 dL_law_907 dL_law_909 dL_law_910 dL_law_911 ?_
  have hw : wp_X5_replace t (nI n) many colour org state layers things history (xs (4 * k + 1)) (xs (4 * k + 2)) (fun r_912 v_thrown_c912 v_colour_c912 v_isOriginal_c912 v_state_c912 v_layers_c912 v_things_c912 v_history_c912 => v_thrown_c912 = nI (oC_replace (n, own, pd, hv, sw, bar) (xs (4 * k + 1)) (xs (4 * k + 2))) ∧ (¬ (oC_replace (n, own, pd, hv, sw, bar) (xs (4 * k + 1)) (xs (4 * k + 2))) = 0 → RMt (n, own, pd, hv, sw, bar) (n, hv, sw, a, v_thrown_c912, sh, cv, of, many, v_colour_c912, v_isOriginal_c912, v_state_c912, v_layers_c912, heat, burnt, v_things_c912, v_history_c912, bars, set, seen, pile, isIn, order, whr, tried)) ∧ ((oC_replace (n, own, pd, hv, sw, bar) (xs (4 * k + 1)) (xs (4 * k + 2))) = 0 → (oV_replace (n, own, pd, hv, sw, bar) (xs (4 * k + 1)) (xs (4 * k + 2))) r_912 ∧ RMt (oS_replace (n, own, pd, hv, sw, bar) (xs (4 * k + 1)) (xs (4 * k + 2))) (n, hv, sw, a, v_thrown_c912, sh, cv, of, many, v_colour_c912, v_isOriginal_c912, v_state_c912, v_layers_c912, heat, burnt, v_things_c912, v_history_c912, bars, set, seen, pile, isIn, order, whr, tried))) := m_replace hO hIP hmn r0 r4 r1 r2 r3 r15 (fun gg => ⟨rfl, fun _ => ⟨rfl, rfl, rfl, ho, hmn, r0, r1, r2, r3, r4, r5, r10, r15, hfb⟩, fun z => absurd z gg⟩) (fun gg e1 e2 pd9 hpd a0 a4 a1 a2 a3 a15 q0 q4 q1 q2 q3 q15 => by subst hpd; exact ⟨by rw [show (oC_replace (n, own, pd, hv, sw, bar) (xs (4 * k + 1)) (xs (4 * k + 2))) = 0 from gg]; rfl, fun z => absurd (show (oC_replace (n, own, pd, hv, sw, bar) (xs (4 * k + 1)) (xs (4 * k + 2))) = 0 from gg) z, fun _ => ⟨rfl, ⟨rfl, rfl, rfl, ho, hmn, q0, q1, q2, q3, q4, (r5.keep (fun i j hj => lo_repl (by omega))), (r10.keep (fun i j hj => lo_repl (by omega))), q15, hfb⟩⟩⟩)
  have hCut := Cut.right hP hD hS hA (cut0 (S := Int32 × (Nat → Int32) × (Nat → Int32) × (Nat → Int32) × (Nat → Int32) × (Nat → Int32) × (Nat → Int32)) (X := (WM cI cZ g a t (nI n) (nI hv) (nI sw) sh cv of many colour org state layers heat burnt things history bars set seen pile isIn order whr tried)) (cx := (W_X5_replace g a cI cJ cZ t (nI n) many colour org state layers things history (nI hv) (nI sw) sh cv)) (pl := []) (w1 := fun (u : Int32 × (Nat → Int32) × (Nat → Int32) × (Nat → Int32) × (Nat → Int32) × (Nat → Int32) × (Nat → Int32)) => (W_X5_replace g a cI cJ cZ u.1 (nI n) many u.2.1 u.2.2.1 u.2.2.2.1 u.2.2.2.2.1 u.2.2.2.2.2.1 u.2.2.2.2.2.2 (nI hv) (nI sw) sh cv)) (X' := fun (u : Int32 × (Nat → Int32) × (Nat → Int32) × (Nat → Int32) × (Nat → Int32) × (Nat → Int32) × (Nat → Int32)) => (WM cI cZ g a u.1 (nI n) (nI hv) (nI sw) sh cv of many u.2.1 u.2.2.1 u.2.2.2.1 u.2.2.2.2.1 heat burnt u.2.2.2.2.2.1 u.2.2.2.2.2.2 bars set seen pile isIn order whr tried)) (va_P_app.mp hP).2 (hD.inner (n := H.size)).2 va_S.rf (fun q h9 => Or.inr h9) [0, 2, 3, 4, 5, 6, 9, 10] [1, 7, 8, 11, 12, 13, 14, 15, 16, 17, 18] [11, 0, 12, 13, 14, 15, 16, 1, 2, 17, 18, 3, 4, 5, 6, 7, 8, 9, 10] rfl rfl (by decide) (by decide) (by decide) (fun u => rfl) (by decide))
  refine ca_i (wa := fun (u : Int32 × (Nat → Int32) × (Nat → Int32) × (Nat → Int32) × (Nat → Int32) × (Nat → Int32) × (Nat → Int32)) => WCt cI cJ cO h o u1 ++ (WM cI cZ g a u.1 (nI n) (nI hv) (nI sw) sh cv of many u.2.1 u.2.2.1 u.2.2.2.1 u.2.2.2.2.1 heat burnt u.2.2.2.2.2.1 u.2.2.2.2.2.2 bars set seen pile isIn order whr tried)) hCut hS (va_runV (As := [.int (xs (4 * k + 1)), .int (xs (4 * k + 2))]) (rest := []) ⟨hx, hb, hml, hown, hts⟩ (c_X5_replace l D cI cJ cZ cO g a H.size t (nI n) many colour org state layers things history (nI hv) (nI sw) sh cv (xs (4 * k + 1)) (xs (4 * k + 2)) _ hw) (cwV 2 hts gL_law_X5_replace rfl rfl rfl (by decide +kernel) ⟨Nat.le_of_ble_eq_true rfl, Nat.le_of_ble_eq_true rfl⟩) (hCut.preV (qb := 0) (ci := 6) hK hE rfl rfl) rfl rfl hl.1 rfl (lv_room (Nat.le_of_ble_eq_true rfl)) dL_law_912 ⟨by show _ ≤ 601024; simp only [Nat.add_zero]; omega, by show _ ≤ 7293034; simp only [Nat.add_zero]; omega⟩) (fun r_912 u H locs hw hP hD hS => ?_)
  obtain ⟨v_thrown_c912, v_colour_c912, v_isOriginal_c912, v_state_c912, v_layers_c912, v_things_c912, v_history_c912⟩ := u
  try dsimp only at hw
  obtain ⟨ht3, hwn, hwy⟩ := hw
  refine lv_istore (lv' := [(6, .int r_912), (5, .int r), (0, .ref b), (1, .ref h), (2, .ref g), (3, .ref o), (4, .int (nI (4 * k)))]) hx hb dL_law_915 hl (by decide) rfl (fun ls hl => ?_)
  refine lv_aload_n hx hb dL_law_917 rfl (lv_at hl 4 rfl) ?_
  have hw : wp_X5_thrown v_thrown_c912 (fun r => r = v_thrown_c912) := by unfold wp_X5_thrown; rfl
  have hCut := Cut.right hP hD hS hA (cut0 (S := Unit) (X := (WM cI cZ g a v_thrown_c912 (nI n) (nI hv) (nI sw) sh cv of many v_colour_c912 v_isOriginal_c912 v_state_c912 v_layers_c912 heat burnt v_things_c912 v_history_c912 bars set seen pile isIn order whr tried)) (cx := (W_X5_thrown g a cI cJ cZ v_thrown_c912 (nI n) (nI hv) (nI sw) sh cv)) (pl := []) (w1 := fun (u : Unit) => (W_X5_thrown g a cI cJ cZ v_thrown_c912 (nI n) (nI hv) (nI sw) sh cv)) (X' := fun (u : Unit) => (WM cI cZ g a v_thrown_c912 (nI n) (nI hv) (nI sw) sh cv of many v_colour_c912 v_isOriginal_c912 v_state_c912 v_layers_c912 heat burnt v_things_c912 v_history_c912 bars set seen pile isIn order whr tried)) (va_P_app.mp hP).2 (hD.inner (n := H.size)).2 va_S.rf (fun q h9 => Or.inr h9) [0] [1, 2, 3, 4, 5, 6, 7, 8, 9, 10, 11, 12, 13, 14, 15, 16, 17, 18] [18, 0, 1, 2, 3, 4, 5, 6, 7, 8, 9, 10, 11, 12, 13, 14, 15, 16, 17] rfl rfl (by decide) (by decide) (by decide) (fun u => rfl) (by decide))
  refine ca_i (wa := fun (u : Unit) => WCt cI cJ cO h o u1 ++ (WM cI cZ g a v_thrown_c912 (nI n) (nI hv) (nI sw) sh cv of many v_colour_c912 v_isOriginal_c912 v_state_c912 v_layers_c912 heat burnt v_things_c912 v_history_c912 bars set seen pile isIn order whr tried)) hCut hS (va_runV (As := []) (rest := []) ⟨hx, hb, hml, hown, hts⟩ (c_X5_thrown l D cI cJ cZ cO g a H.size v_thrown_c912 (nI n) (nI hv) (nI sw) sh cv _ hw) (cwV 0 hts gL_law_X5_thrown rfl rfl rfl (by decide +kernel) ⟨Nat.le_of_ble_eq_true rfl, Nat.le_of_ble_eq_true rfl⟩) (hCut.preV (qb := 0) (ci := 6) hK hE rfl rfl) rfl rfl hl.1 rfl (lv_room (Nat.le_of_ble_eq_true rfl)) dL_law_918 ⟨by show _ ≤ 601024; simp only [Nat.add_zero]; omega, by show _ ≤ 7293034; simp only [Nat.add_zero]; omega⟩) (fun r_918 _ H locs hw hP hD hS => ?_)
  try dsimp only at hw
  have hrr : r_918 = r := by rw [hw, ht3, hr1]
  refine lv_iload hx hb dL_law_921 (lv_at hl 1 rfl) ?_
  refine lv_icmp_eq (tgt := 928) hx hb dL_law_923 (by decide) (fun _ => ?_) (fun z9 => absurd hrr z9)
  refine lv_iload hx hb dL_law_928 (lv_at hl 1 rfl) ?_
  refine lv_if_ne (tgt := 945) hx hb dL_law_930 (by decide) (fun z9 => ?_) (fun z9 => ?_)
  · have hz : ¬ (oC_replace (n, own, pd, hv, sw, bar) (xs (4 * k + 1)) (xs (4 * k + 2))) = 0 := fun q9 => z9 (by rw [hr1, q9]; rfl)
    have hwn := hwn hz
    refine lv_goto (tgt := 1738) hx hb dL_law_945 (by decide) ?_
    refine W.widen (k := cells + 6) (n := slots + 134) (by omega) (by omega) ?_
    exact K (n, own, pd, hv, sw, bar) u1 (n, hv, sw, a, v_thrown_c912, sh, cv, of, many, v_colour_c912, v_isOriginal_c912, v_state_c912, v_layers_c912, heat, burnt, v_things_c912, v_history_c912, bars, set, seen, pile, isIn, order, whr, tried) _ _ _ (hw2 hz) hwn hP hD hS (lv_sub hl [2, 3, 4, 5, 6] rfl)
  · have hz : (oC_replace (n, own, pd, hv, sw, bar) (xs (4 * k + 1)) (xs (4 * k + 2))) = 0 := by
      have b9 : (oC_replace (n, own, pd, hv, sw, bar) (xs (4 * k + 1)) (xs (4 * k + 2))) < 2147483648 := Nat.lt_of_le_of_lt replC_le (by omega)
      exact (nI_eq b9 (by omega)).mp (hr1.symm.trans z9)
    obtain ⟨hR1, y9, hy9, ho9⟩ := hw3 hz
    obtain ⟨hv9, hwz⟩ := hwy hz
    have hyr : y9 = r_912 := hy9.trans hv9.symm
    subst hyr
    refine lv_aload_n hx hb dL_law_933 rfl (lv_at hl 5 rfl) ?_
    refine lv_iconst (v := 0) hx hb dL_law_934 (by decide) ?_
    have hout : ∃ fo : Nat → Int64, fo 0 = u1.out ∧ (WCt cI cJ cO h o u1 ++ (WM cI cZ g a v_thrown_c912 (nI n) (nI hv) (nI sw) sh cv of many v_colour_c912 v_isOriginal_c912 v_state_c912 v_layers_c912 heat burnt v_things_c912 v_history_c912 bars set seen pile isIn order whr tried))[0]? = some (o, .inl (cJ, 1, .inr (.inl fo))) := by obtain ⟨n, hv, sw, m_cap, a, aC, aM, aW, aN, aF, aL, ad, af, br, md, el, ow, su, wr, wc, nr, nc, fr, fc, lq, lh, lw, lsp, x1, x2, x3, x4, x5, qc, qs, ql, qt, qo, qh, qf, qth, v⟩ := u1; exact ⟨v, rfl, rfl⟩
    obtain ⟨fo, hfo, hc0⟩ := hout
    refine va_lald hx hb hK hP 0 1 hc0 rfl (vp_lit rfl) dL_law_935 ?_
    have hf0 : fo (0 : Int32).toNatClampNeg = y9.toInt64 := hfo.trans ho9
    rw [hf0]
    refine lv_iload hx hb dL_law_936 (lv_at hl 0 rfl) ?_
    refine lv_i2l (v := y9.toInt64) hx hb dL_law_938 rfl ?_
    refine W.lcmp hx hb dL_law_939 ?_
    rw [lg_same]
    refine lv_if_eq (tgt := 945) hx hb dL_law_940 (by decide) (fun _ => ?_) (fun q9 => absurd rfl q9)
    refine lv_goto (tgt := 1738) hx hb dL_law_945 (by decide) ?_
    refine W.widen (k := cells + 6) (n := slots + 134) (by omega) (by omega) ?_
    exact K (oS_replace (n, own, pd, hv, sw, bar) (xs (4 * k + 1)) (xs (4 * k + 2))) u1 (n, hv, sw, a, v_thrown_c912, sh, cv, of, many, v_colour_c912, v_isOriginal_c912, v_state_c912, v_layers_c912, heat, burnt, v_things_c912, v_history_c912, bars, set, seen, pile, isIn, order, whr, tried) _ _ _ hR1 hwz hP hD hS (lv_sub hl [2, 3, 4, 5, 6] rfl)
set_option maxHeartbeats 4000000 in
set_option maxRecDepth 100000 in
theorem k_L_pieceOf (C : LC p l s m meth c b L xs D cI cJ cZ cO tD mi) {s0 : SG} {u : KT} {w : KM} {H : Heap} {locs : List Loc} {ls : Array Slot} (hk : 4 * k + 4 ≤ L) (hL : L ≤ 2048) (hR : RCt s0 u) (hM : RMt s0 w) (hP : va_P D vwCl (WCt cI cJ cO h o u ++ WMt cI cZ g w) H) (hD : va_D (AL s) (WCt cI cJ cO h o u ++ WMt cI cZ g w)) (hS : va_S (AL s) s.heap H locs) (hl : lv_has ls 7 [(0, .ref b), (1, .ref h), (2, .ref g), (3, .ref o), (4, .int (nI (4 * k)))]) (hcc : cells + 6 ≤ 601024) (hss : slots + 134 ≤ 7293034) (K : NXT p l e s m below meth c b D cI cJ cZ cO h g o k cells slots Q) : W p l e room_1 s m #[Value.ref b] below meth c H locs cells slots Q (F0 m 961 ls []) := by
  obtain ⟨hx, hb, hr, hml, hown, hts, hX, hbl, hlocks, hst, hK, hE, hT, hLS, hN⟩ := C
  have hA : ∀ q, s.heap.size ≤ q → AL s q := fun _ h9 => h9
  refine lv_aload_n hx hb dL_law_961 rfl (lv_at hl 1 rfl) ?_
  refine sld (k := k) (j := 1) (v := 1) hx hb hX hbl hS hl (lv_at hl 0 rfl) (lv_at hl 4 rfl) (nI_add _ _) (by decide) (by omega) hL dL_law_962 dL_law_963 dL_law_965 dL_law_966 dL_law_967 ?_
  refine lv_aload_n hx hb dL_law_968 rfl (lv_at hl 3 rfl) ?_
  have hCut := Cut.left hP hD hS hA (cut_all (w1 := fun (u : KT) => WCt cI cJ cO h o u) (va_P_app.mp hP).1 (hD.inner (n := H.size)).1 va_S.rf (fun q h9 => Or.inr h9))
  refine ca_i (wa := fun (u1 : KT) => WCt cI cJ cO h o u1 ++ WMt cI cZ g w) hCut hS (vx_runSW (As := [.ref h, .int (xs (4 * k + 1)), .ref o]) (rest := []) ⟨hx, hb, hml, hown, hts⟩ (c_L_pieceOf l D hst cI cJ cZ cO tD mi h o s0 u _ (xs (4 * k + 1)) hR) (vx_cwSW 3 hts gL_law_L_pieceOf rfl rfl rfl (by decide +kernel) ⟨Nat.le_of_ble_eq_true rfl, Nat.le_of_ble_eq_true rfl⟩) (hCut.preSW hK hE hT hLS hN hS) rfl rfl hl.1 rfl (lv_room (Nat.le_of_ble_eq_true rfl)) dL_law_969 ⟨by show cells + 1 ≤ 601024; omega, by show slots + 6 ≤ 7293034; omega⟩) (fun r u1 H locs hw1 hP hD hS => ?_)
  obtain ⟨hr1, hw2, hw3⟩ := hw1
  refine lv_istore (lv' := [(5, .int r), (0, .ref b), (1, .ref h), (2, .ref g), (3, .ref o), (4, .int (nI (4 * k)))]) hx hb dL_law_972 hl (by decide) rfl (fun ls hl => ?_)
  have hI := KT.is hR
  obtain ⟨N, own, pd, HW, SW, bar⟩ := s0
  obtain ⟨hO, hIP, hsw, hb5⟩ := hI
  obtain ⟨n, hv, sw, a, t, sh, cv, of, many, colour, org, state, layers, heat, burnt, things, history, bars, set, seen, pile, isIn, order, whr, tried⟩ := w
  obtain ⟨e1, e2, e3, ho, hmn, r0, r1, r2, r3, r4, r5, r10, r15, hfb⟩ := hM
  dsimp only at e1 e2 e3 ho hmn r0 r1 r2 r3 r4 r5 r10 r15 hfb hO hIP hsw hb5
  subst e1 e2 e3
  refine lv_aload_n hx hb dL_law_974 rfl (lv_at hl 3 rfl) ?_
  refine sld (k := k) (j := 1) (v := 1) hx hb hX hbl hS hl (lv_at hl 1 rfl) (lv_at hl 5 rfl) (nI_add _ _) (by decide) (by omega) hL dL_law_975 dL_law_976 dL_law_978 dL_law_979 dL_law_980 ?_
  have hw : wp_X5_pieceOf t of (xs (4 * k + 1)) (fun r_981 v_thrown_c981 => v_thrown_c981 = nI (oC_pieceOf (n, own, pd, hv, sw, bar) (xs (4 * k + 1))) ∧ (¬ (oC_pieceOf (n, own, pd, hv, sw, bar) (xs (4 * k + 1))) = 0 → RMt (n, own, pd, hv, sw, bar) (n, hv, sw, a, v_thrown_c981, sh, cv, of, many, colour, org, state, layers, heat, burnt, things, history, bars, set, seen, pile, isIn, order, whr, tried)) ∧ ((oC_pieceOf (n, own, pd, hv, sw, bar) (xs (4 * k + 1))) = 0 → (oV_pieceOf (n, own, pd, hv, sw, bar) (xs (4 * k + 1))) r_981 ∧ RMt (n, own, pd, hv, sw, bar) (n, hv, sw, a, v_thrown_c981, sh, cv, of, many, colour, org, state, layers, heat, burnt, things, history, bars, set, seen, pile, isIn, order, whr, tried))) := m_pieceOf ho (fun ee => ⟨by rw [show (oC_pieceOf (n, own, pd, hv, sw, bar) (xs (4 * k + 1))) = 1 from by unfold oC_pieceOf; rw [ee]; rfl]; rfl, fun _ => ⟨rfl, rfl, rfl, ho, hmn, r0, r1, r2, r3, r4, r5, r10, r15, hfb⟩, fun z => absurd ((show (oC_pieceOf (n, own, pd, hv, sw, bar) (xs (4 * k + 1))) = 1 from by unfold oC_pieceOf; rw [ee]; rfl).symm.trans z) (by decide)⟩) (fun ee  => by exact ⟨by rw [show (oC_pieceOf (n, own, pd, hv, sw, bar) (xs (4 * k + 1))) = 0 from by unfold oC_pieceOf; rw [ee]; rfl]; rfl, fun z => absurd (show (oC_pieceOf (n, own, pd, hv, sw, bar) (xs (4 * k + 1))) = 0 from by unfold oC_pieceOf; rw [ee]; rfl) z, fun _ => ⟨rfl, ⟨rfl, rfl, rfl, ho, hmn, r0, r1, r2, r3, r4, r5, r10, r15, hfb⟩⟩⟩)
  have hCut := Cut.right hP hD hS hA (cut0 (S := Int32) (X := (WM cI cZ g a t (nI n) (nI hv) (nI sw) sh cv of many colour org state layers heat burnt things history bars set seen pile isIn order whr tried)) (cx := (W_X5_pieceOf g a cI cJ cZ t (nI n) of (nI hv) (nI sw) sh cv)) (pl := []) (w1 := fun (u : Int32) => (W_X5_pieceOf g a cI cJ cZ u (nI n) of (nI hv) (nI sw) sh cv)) (X' := fun (u : Int32) => (WM cI cZ g a u (nI n) (nI hv) (nI sw) sh cv of many colour org state layers heat burnt things history bars set seen pile isIn order whr tried)) (va_P_app.mp hP).2 (hD.inner (n := H.size)).2 va_S.rf (fun q h9 => Or.inr h9) [0, 1] [2, 3, 4, 5, 6, 7, 8, 9, 10, 11, 12, 13, 14, 15, 16, 17, 18] [17, 18, 0, 1, 2, 3, 4, 5, 6, 7, 8, 9, 10, 11, 12, 13, 14, 15, 16] rfl rfl (by decide) (by decide) (by decide) (fun u => rfl) (by decide))
  refine ca_i (wa := fun (u : Int32) => WCt cI cJ cO h o u1 ++ (WM cI cZ g a u (nI n) (nI hv) (nI sw) sh cv of many colour org state layers heat burnt things history bars set seen pile isIn order whr tried)) hCut hS (va_runV (As := [.int (xs (4 * k + 1))]) (rest := []) ⟨hx, hb, hml, hown, hts⟩ (c_X5_pieceOf l D cI cJ cZ cO g a H.size t (nI n) of (nI hv) (nI sw) sh cv (xs (4 * k + 1)) _ hw) (cwV 1 hts gL_law_X5_pieceOf rfl rfl rfl (by decide +kernel) ⟨Nat.le_of_ble_eq_true rfl, Nat.le_of_ble_eq_true rfl⟩) (hCut.preV (qb := 0) (ci := 6) hK hE rfl rfl) rfl rfl hl.1 rfl (lv_room (Nat.le_of_ble_eq_true rfl)) dL_law_981 ⟨by show _ ≤ 601024; simp only [Nat.add_zero]; omega, by show _ ≤ 7293034; simp only [Nat.add_zero]; omega⟩) (fun r_981 v_thrown_c981 H locs hw hP hD hS => ?_)
  try dsimp only at hw
  obtain ⟨ht3, hwn, hwy⟩ := hw
  refine lv_istore (lv' := [(6, .int r_981), (5, .int r), (0, .ref b), (1, .ref h), (2, .ref g), (3, .ref o), (4, .int (nI (4 * k)))]) hx hb dL_law_984 hl (by decide) rfl (fun ls hl => ?_)
  refine lv_aload_n hx hb dL_law_986 rfl (lv_at hl 4 rfl) ?_
  have hw : wp_X5_thrown v_thrown_c981 (fun r => r = v_thrown_c981) := by unfold wp_X5_thrown; rfl
  have hCut := Cut.right hP hD hS hA (cut0 (S := Unit) (X := (WM cI cZ g a v_thrown_c981 (nI n) (nI hv) (nI sw) sh cv of many colour org state layers heat burnt things history bars set seen pile isIn order whr tried)) (cx := (W_X5_thrown g a cI cJ cZ v_thrown_c981 (nI n) (nI hv) (nI sw) sh cv)) (pl := []) (w1 := fun (u : Unit) => (W_X5_thrown g a cI cJ cZ v_thrown_c981 (nI n) (nI hv) (nI sw) sh cv)) (X' := fun (u : Unit) => (WM cI cZ g a v_thrown_c981 (nI n) (nI hv) (nI sw) sh cv of many colour org state layers heat burnt things history bars set seen pile isIn order whr tried)) (va_P_app.mp hP).2 (hD.inner (n := H.size)).2 va_S.rf (fun q h9 => Or.inr h9) [0] [1, 2, 3, 4, 5, 6, 7, 8, 9, 10, 11, 12, 13, 14, 15, 16, 17, 18] [18, 0, 1, 2, 3, 4, 5, 6, 7, 8, 9, 10, 11, 12, 13, 14, 15, 16, 17] rfl rfl (by decide) (by decide) (by decide) (fun u => rfl) (by decide))
  refine ca_i (wa := fun (u : Unit) => WCt cI cJ cO h o u1 ++ (WM cI cZ g a v_thrown_c981 (nI n) (nI hv) (nI sw) sh cv of many colour org state layers heat burnt things history bars set seen pile isIn order whr tried)) hCut hS (va_runV (As := []) (rest := []) ⟨hx, hb, hml, hown, hts⟩ (c_X5_thrown l D cI cJ cZ cO g a H.size v_thrown_c981 (nI n) (nI hv) (nI sw) sh cv _ hw) (cwV 0 hts gL_law_X5_thrown rfl rfl rfl (by decide +kernel) ⟨Nat.le_of_ble_eq_true rfl, Nat.le_of_ble_eq_true rfl⟩) (hCut.preV (qb := 0) (ci := 6) hK hE rfl rfl) rfl rfl hl.1 rfl (lv_room (Nat.le_of_ble_eq_true rfl)) dL_law_987 ⟨by show _ ≤ 601024; simp only [Nat.add_zero]; omega, by show _ ≤ 7293034; simp only [Nat.add_zero]; omega⟩) (fun r_987 _ H locs hw hP hD hS => ?_)
  try dsimp only at hw
  have hrr : r_987 = r := by rw [hw, ht3, hr1]
  refine lv_iload hx hb dL_law_990 (lv_at hl 1 rfl) ?_
  refine lv_icmp_eq (tgt := 997) hx hb dL_law_992 (by decide) (fun _ => ?_) (fun z9 => absurd hrr z9)
  refine lv_iload hx hb dL_law_997 (lv_at hl 1 rfl) ?_
  refine lv_if_ne (tgt := 1014) hx hb dL_law_999 (by decide) (fun z9 => ?_) (fun z9 => ?_)
  · have hz : ¬ (oC_pieceOf (n, own, pd, hv, sw, bar) (xs (4 * k + 1))) = 0 := fun q9 => z9 (by rw [hr1, q9]; rfl)
    have hwn := hwn hz
    refine lv_goto (tgt := 1738) hx hb dL_law_1014 (by decide) ?_
    refine W.widen (k := cells + 6) (n := slots + 134) (by omega) (by omega) ?_
    exact K (n, own, pd, hv, sw, bar) u1 (n, hv, sw, a, v_thrown_c981, sh, cv, of, many, colour, org, state, layers, heat, burnt, things, history, bars, set, seen, pile, isIn, order, whr, tried) _ _ _ (hw2 hz) hwn hP hD hS (lv_sub hl [2, 3, 4, 5, 6] rfl)
  · have hz : (oC_pieceOf (n, own, pd, hv, sw, bar) (xs (4 * k + 1))) = 0 := by
      have b9 : (oC_pieceOf (n, own, pd, hv, sw, bar) (xs (4 * k + 1))) < 2147483648 := by unfold oC_pieceOf; split <;> omega
      exact (nI_eq b9 (by omega)).mp (hr1.symm.trans z9)
    obtain ⟨hR1, y9, hy9, ho9⟩ := hw3 hz
    obtain ⟨hv9, hwz⟩ := hwy hz
    have hyr : y9 = r_981 := hy9.trans hv9.symm
    subst hyr
    refine lv_aload_n hx hb dL_law_1002 rfl (lv_at hl 5 rfl) ?_
    refine lv_iconst (v := 0) hx hb dL_law_1003 (by decide) ?_
    have hout : ∃ fo : Nat → Int64, fo 0 = u1.out ∧ (WCt cI cJ cO h o u1 ++ (WM cI cZ g a v_thrown_c981 (nI n) (nI hv) (nI sw) sh cv of many colour org state layers heat burnt things history bars set seen pile isIn order whr tried))[0]? = some (o, .inl (cJ, 1, .inr (.inl fo))) := by obtain ⟨n, hv, sw, m_cap, a, aC, aM, aW, aN, aF, aL, ad, af, br, md, el, ow, su, wr, wc, nr, nc, fr, fc, lq, lh, lw, lsp, x1, x2, x3, x4, x5, qc, qs, ql, qt, qo, qh, qf, qth, v⟩ := u1; exact ⟨v, rfl, rfl⟩
    obtain ⟨fo, hfo, hc0⟩ := hout
    refine va_lald hx hb hK hP 0 1 hc0 rfl (vp_lit rfl) dL_law_1004 ?_
    have hf0 : fo (0 : Int32).toNatClampNeg = y9.toInt64 := hfo.trans ho9
    rw [hf0]
    refine lv_iload hx hb dL_law_1005 (lv_at hl 0 rfl) ?_
    refine lv_i2l (v := y9.toInt64) hx hb dL_law_1007 rfl ?_
    refine W.lcmp hx hb dL_law_1008 ?_
    rw [lg_same]
    refine lv_if_eq (tgt := 1014) hx hb dL_law_1009 (by decide) (fun _ => ?_) (fun q9 => absurd rfl q9)
    refine lv_goto (tgt := 1738) hx hb dL_law_1014 (by decide) ?_
    refine W.widen (k := cells + 6) (n := slots + 134) (by omega) (by omega) ?_
    exact K (n, own, pd, hv, sw, bar) u1 (n, hv, sw, a, v_thrown_c981, sh, cv, of, many, colour, org, state, layers, heat, burnt, things, history, bars, set, seen, pile, isIn, order, whr, tried) _ _ _ hR1 hwz hP hD hS (lv_sub hl [2, 3, 4, 5, 6] rfl)
set_option maxHeartbeats 4000000 in
set_option maxRecDepth 100000 in
theorem k_L_piece (C : LC p l s m meth c b L xs D cI cJ cZ cO tD mi) {s0 : SG} {u : KT} {w : KM} {H : Heap} {locs : List Loc} {ls : Array Slot} (hk : 4 * k + 4 ≤ L) (hL : L ≤ 2048) (hR : RCt s0 u) (hM : RMt s0 w) (hP : va_P D vwCl (WCt cI cJ cO h o u ++ WMt cI cZ g w) H) (hD : va_D (AL s) (WCt cI cJ cO h o u ++ WMt cI cZ g w)) (hS : va_S (AL s) s.heap H locs) (hl : lv_has ls 7 [(0, .ref b), (1, .ref h), (2, .ref g), (3, .ref o), (4, .int (nI (4 * k)))]) (hcc : cells + 6 ≤ 601024) (hss : slots + 134 ≤ 7293034) (K : NXT p l e s m below meth c b D cI cJ cZ cO h g o k cells slots Q) : W p l e room_1 s m #[Value.ref b] below meth c H locs cells slots Q (F0 m 1017 ls []) := by
  obtain ⟨hx, hb, hr, hml, hown, hts, hX, hbl, hlocks, hst, hK, hE, hT, hLS, hN⟩ := C
  have hA : ∀ q, s.heap.size ≤ q → AL s q := fun _ h9 => h9
  refine lv_aload_n hx hb dL_law_1017 rfl (lv_at hl 1 rfl) ?_
  refine sld (k := k) (j := 1) (v := 1) hx hb hX hbl hS hl (lv_at hl 0 rfl) (lv_at hl 4 rfl) (nI_add _ _) (by decide) (by omega) hL dL_law_1018 dL_law_1019 dL_law_1021 dL_law_1022 dL_law_1023 ?_
  refine sld (k := k) (j := 2) (v := 2) hx hb hX hbl hS hl (lv_at hl 0 rfl) (lv_at hl 4 rfl) (nI_add _ _) (by decide) (by omega) hL dL_law_1024 dL_law_1025 dL_law_1027 dL_law_1028 dL_law_1029 ?_
  refine lv_aload_n hx hb dL_law_1030 rfl (lv_at hl 3 rfl) ?_
  have hCut := Cut.left hP hD hS hA (cut_all (w1 := fun (u : KT) => WCt cI cJ cO h o u) (va_P_app.mp hP).1 (hD.inner (n := H.size)).1 va_S.rf (fun q h9 => Or.inr h9))
  refine ca_i (wa := fun (u1 : KT) => WCt cI cJ cO h o u1 ++ WMt cI cZ g w) hCut hS (vx_runSW (As := [.ref h, .int (xs (4 * k + 1)), .int (xs (4 * k + 2)), .ref o]) (rest := []) ⟨hx, hb, hml, hown, hts⟩ (c_L_piece l D hst cI cJ cZ cO tD mi h o s0 u _ (xs (4 * k + 1)) (xs (4 * k + 2)) hR) (vx_cwSW 4 hts gL_law_L_piece rfl rfl rfl (by decide +kernel) ⟨Nat.le_of_ble_eq_true rfl, Nat.le_of_ble_eq_true rfl⟩) (hCut.preSW hK hE hT hLS hN hS) rfl rfl hl.1 rfl (lv_room (Nat.le_of_ble_eq_true rfl)) dL_law_1031 ⟨by show cells + 2 ≤ 601024; omega, by show slots + 12 ≤ 7293034; omega⟩) (fun r u1 H locs hw1 hP hD hS => ?_)
  obtain ⟨hr1, hw2, hw3⟩ := hw1
  refine lv_istore (lv' := [(5, .int r), (0, .ref b), (1, .ref h), (2, .ref g), (3, .ref o), (4, .int (nI (4 * k)))]) hx hb dL_law_1034 hl (by decide) rfl (fun ls hl => ?_)
  have hI := KT.is hR
  obtain ⟨N, own, pd, HW, SW, bar⟩ := s0
  obtain ⟨hO, hIP, hsw, hb5⟩ := hI
  obtain ⟨n, hv, sw, a, t, sh, cv, of, many, colour, org, state, layers, heat, burnt, things, history, bars, set, seen, pile, isIn, order, whr, tried⟩ := w
  obtain ⟨e1, e2, e3, ho, hmn, r0, r1, r2, r3, r4, r5, r10, r15, hfb⟩ := hM
  dsimp only at e1 e2 e3 ho hmn r0 r1 r2 r3 r4 r5 r10 r15 hfb hO hIP hsw hb5
  subst e1 e2 e3
  refine lv_aload_n hx hb dL_law_1036 rfl (lv_at hl 3 rfl) ?_
  refine sld (k := k) (j := 1) (v := 1) hx hb hX hbl hS hl (lv_at hl 1 rfl) (lv_at hl 5 rfl) (nI_add _ _) (by decide) (by omega) hL dL_law_1037 dL_law_1038 dL_law_1040 dL_law_1041 dL_law_1042 ?_
  refine sld (k := k) (j := 2) (v := 2) hx hb hX hbl hS hl (lv_at hl 1 rfl) (lv_at hl 5 rfl) (nI_add _ _) (by decide) (by omega) hL dL_law_1043 dL_law_1044 dL_law_1046 dL_law_1047 dL_law_1048 ?_
  have hw : wp_X5_piece t (nI n) of many colour org state layers burnt set (xs (4 * k + 1)) (xs (4 * k + 2)) (fun r_1049 v_thrown_c1049 v_set_c1049 => v_thrown_c1049 = nI (oC_piece (n, own, pd, hv, sw, bar) (xs (4 * k + 1)) (xs (4 * k + 2))) ∧ (¬ (oC_piece (n, own, pd, hv, sw, bar) (xs (4 * k + 1)) (xs (4 * k + 2))) = 0 → RMt (n, own, pd, hv, sw, bar) (n, hv, sw, a, v_thrown_c1049, sh, cv, of, many, colour, org, state, layers, heat, burnt, things, history, bars, v_set_c1049, seen, pile, isIn, order, whr, tried)) ∧ ((oC_piece (n, own, pd, hv, sw, bar) (xs (4 * k + 1)) (xs (4 * k + 2))) = 0 → (oV_piece (n, own, pd, hv, sw, bar) (xs (4 * k + 1)) (xs (4 * k + 2))) r_1049 ∧ RMt (n, own, pd, hv, sw, bar) (n, hv, sw, a, v_thrown_c1049, sh, cv, of, many, colour, org, state, layers, heat, burnt, things, history, bars, v_set_c1049, seen, pile, isIn, order, whr, tried))) := m_piece hO hIP ho hmn r0 r4 r1 r2 r10 (fun gg => ⟨rfl, fun _ => ⟨rfl, rfl, rfl, ho, hmn, r0, r1, r2, r3, r4, r5, r10, r15, hfb⟩, fun z => absurd z gg⟩) (fun gg e1 e2 s1 => by exact ⟨by rw [show (oC_piece (n, own, pd, hv, sw, bar) (xs (4 * k + 1)) (xs (4 * k + 2))) = 0 from gg]; rfl, fun z => absurd (show (oC_piece (n, own, pd, hv, sw, bar) (xs (4 * k + 1)) (xs (4 * k + 2))) = 0 from gg) z, fun _ => ⟨rfl, ⟨rfl, rfl, rfl, ho, hmn, r0, r1, r2, r3, r4, r5, r10, r15, hfb⟩⟩⟩)
  have hCut := Cut.right hP hD hS hA (cut0 (S := Int32 × (Nat → Int32)) (X := (WM cI cZ g a t (nI n) (nI hv) (nI sw) sh cv of many colour org state layers heat burnt things history bars set seen pile isIn order whr tried)) (cx := (W_X5_piece g a cI cJ cZ t (nI n) of many colour org state layers burnt (nI hv) (nI sw) set sh cv)) (pl := []) (w1 := fun (u : Int32 × (Nat → Int32)) => (W_X5_piece g a cI cJ cZ u.1 (nI n) of many colour org state layers burnt (nI hv) (nI sw) u.2 sh cv)) (X' := fun (u : Int32 × (Nat → Int32)) => (WM cI cZ g a u.1 (nI n) (nI hv) (nI sw) sh cv of many colour org state layers heat burnt things history bars u.2 seen pile isIn order whr tried)) (va_P_app.mp hP).2 (hD.inner (n := H.size)).2 va_S.rf (fun q h9 => Or.inr h9) [0, 1, 2, 3, 4, 5, 6, 8, 12] [7, 9, 10, 11, 13, 14, 15, 16, 17, 18] [10, 11, 12, 13, 14, 15, 16, 0, 17, 1, 2, 3, 18, 4, 5, 6, 7, 8, 9] rfl rfl (by decide) (by decide) (by decide) (fun u => rfl) (by decide))
  refine ca_i (wa := fun (u : Int32 × (Nat → Int32)) => WCt cI cJ cO h o u1 ++ (WM cI cZ g a u.1 (nI n) (nI hv) (nI sw) sh cv of many colour org state layers heat burnt things history bars u.2 seen pile isIn order whr tried)) hCut hS (va_runV (As := [.int (xs (4 * k + 1)), .int (xs (4 * k + 2))]) (rest := []) ⟨hx, hb, hml, hown, hts⟩ (c_X5_piece l D cI cJ cZ cO g a H.size t (nI n) of many colour org state layers burnt (nI hv) (nI sw) set sh cv (xs (4 * k + 1)) (xs (4 * k + 2)) _ hw) (cwV 2 hts gL_law_X5_piece rfl rfl rfl (by decide +kernel) ⟨Nat.le_of_ble_eq_true rfl, Nat.le_of_ble_eq_true rfl⟩) (hCut.preV (qb := 0) (ci := 6) hK hE rfl rfl) rfl rfl hl.1 rfl (lv_room (Nat.le_of_ble_eq_true rfl)) dL_law_1049 ⟨by show _ ≤ 601024; simp only [Nat.add_zero]; omega, by show _ ≤ 7293034; simp only [Nat.add_zero]; omega⟩) (fun r_1049 u H locs hw hP hD hS => ?_)
  obtain ⟨v_thrown_c1049, v_set_c1049⟩ := u
  try dsimp only at hw
  obtain ⟨ht3, hwn, hwy⟩ := hw
  refine lv_istore (lv' := [(6, .int r_1049), (5, .int r), (0, .ref b), (1, .ref h), (2, .ref g), (3, .ref o), (4, .int (nI (4 * k)))]) hx hb dL_law_1052 hl (by decide) rfl (fun ls hl => ?_)
  refine lv_aload_n hx hb dL_law_1054 rfl (lv_at hl 4 rfl) ?_
  have hw : wp_X5_thrown v_thrown_c1049 (fun r => r = v_thrown_c1049) := by unfold wp_X5_thrown; rfl
  have hCut := Cut.right hP hD hS hA (cut0 (S := Unit) (X := (WM cI cZ g a v_thrown_c1049 (nI n) (nI hv) (nI sw) sh cv of many colour org state layers heat burnt things history bars v_set_c1049 seen pile isIn order whr tried)) (cx := (W_X5_thrown g a cI cJ cZ v_thrown_c1049 (nI n) (nI hv) (nI sw) sh cv)) (pl := []) (w1 := fun (u : Unit) => (W_X5_thrown g a cI cJ cZ v_thrown_c1049 (nI n) (nI hv) (nI sw) sh cv)) (X' := fun (u : Unit) => (WM cI cZ g a v_thrown_c1049 (nI n) (nI hv) (nI sw) sh cv of many colour org state layers heat burnt things history bars v_set_c1049 seen pile isIn order whr tried)) (va_P_app.mp hP).2 (hD.inner (n := H.size)).2 va_S.rf (fun q h9 => Or.inr h9) [0] [1, 2, 3, 4, 5, 6, 7, 8, 9, 10, 11, 12, 13, 14, 15, 16, 17, 18] [18, 0, 1, 2, 3, 4, 5, 6, 7, 8, 9, 10, 11, 12, 13, 14, 15, 16, 17] rfl rfl (by decide) (by decide) (by decide) (fun u => rfl) (by decide))
  refine ca_i (wa := fun (u : Unit) => WCt cI cJ cO h o u1 ++ (WM cI cZ g a v_thrown_c1049 (nI n) (nI hv) (nI sw) sh cv of many colour org state layers heat burnt things history bars v_set_c1049 seen pile isIn order whr tried)) hCut hS (va_runV (As := []) (rest := []) ⟨hx, hb, hml, hown, hts⟩ (c_X5_thrown l D cI cJ cZ cO g a H.size v_thrown_c1049 (nI n) (nI hv) (nI sw) sh cv _ hw) (cwV 0 hts gL_law_X5_thrown rfl rfl rfl (by decide +kernel) ⟨Nat.le_of_ble_eq_true rfl, Nat.le_of_ble_eq_true rfl⟩) (hCut.preV (qb := 0) (ci := 6) hK hE rfl rfl) rfl rfl hl.1 rfl (lv_room (Nat.le_of_ble_eq_true rfl)) dL_law_1055 ⟨by show _ ≤ 601024; simp only [Nat.add_zero]; omega, by show _ ≤ 7293034; simp only [Nat.add_zero]; omega⟩) (fun r_1055 _ H locs hw hP hD hS => ?_)
  try dsimp only at hw
  have hrr : r_1055 = r := by rw [hw, ht3, hr1]
  refine lv_iload hx hb dL_law_1058 (lv_at hl 1 rfl) ?_
  refine lv_icmp_eq (tgt := 1065) hx hb dL_law_1060 (by decide) (fun _ => ?_) (fun z9 => absurd hrr z9)
  refine lv_iload hx hb dL_law_1065 (lv_at hl 1 rfl) ?_
  refine lv_if_ne (tgt := 1082) hx hb dL_law_1067 (by decide) (fun z9 => ?_) (fun z9 => ?_)
  · have hz : ¬ (oC_piece (n, own, pd, hv, sw, bar) (xs (4 * k + 1)) (xs (4 * k + 2))) = 0 := fun q9 => z9 (by rw [hr1, q9]; rfl)
    have hwn := hwn hz
    refine lv_goto (tgt := 1738) hx hb dL_law_1082 (by decide) ?_
    refine W.widen (k := cells + 6) (n := slots + 134) (by omega) (by omega) ?_
    exact K (n, own, pd, hv, sw, bar) u1 (n, hv, sw, a, v_thrown_c1049, sh, cv, of, many, colour, org, state, layers, heat, burnt, things, history, bars, v_set_c1049, seen, pile, isIn, order, whr, tried) _ _ _ (hw2 hz) hwn hP hD hS (lv_sub hl [2, 3, 4, 5, 6] rfl)
  · have hz : (oC_piece (n, own, pd, hv, sw, bar) (xs (4 * k + 1)) (xs (4 * k + 2))) = 0 := by
      have b9 : (oC_piece (n, own, pd, hv, sw, bar) (xs (4 * k + 1)) (xs (4 * k + 2))) < 2147483648 := Nat.lt_of_le_of_lt pieC_le (by omega)
      exact (nI_eq b9 (by omega)).mp (hr1.symm.trans z9)
    obtain ⟨hR1, y9, hy9, ho9⟩ := hw3 hz
    obtain ⟨hv9, hwz⟩ := hwy hz
    have hyr : y9 = r_1049 := hy9.trans hv9.symm
    subst hyr
    refine lv_aload_n hx hb dL_law_1070 rfl (lv_at hl 5 rfl) ?_
    refine lv_iconst (v := 0) hx hb dL_law_1071 (by decide) ?_
    have hout : ∃ fo : Nat → Int64, fo 0 = u1.out ∧ (WCt cI cJ cO h o u1 ++ (WM cI cZ g a v_thrown_c1049 (nI n) (nI hv) (nI sw) sh cv of many colour org state layers heat burnt things history bars v_set_c1049 seen pile isIn order whr tried))[0]? = some (o, .inl (cJ, 1, .inr (.inl fo))) := by obtain ⟨n, hv, sw, m_cap, a, aC, aM, aW, aN, aF, aL, ad, af, br, md, el, ow, su, wr, wc, nr, nc, fr, fc, lq, lh, lw, lsp, x1, x2, x3, x4, x5, qc, qs, ql, qt, qo, qh, qf, qth, v⟩ := u1; exact ⟨v, rfl, rfl⟩
    obtain ⟨fo, hfo, hc0⟩ := hout
    refine va_lald hx hb hK hP 0 1 hc0 rfl (vp_lit rfl) dL_law_1072 ?_
    have hf0 : fo (0 : Int32).toNatClampNeg = y9.toInt64 := hfo.trans ho9
    rw [hf0]
    refine lv_iload hx hb dL_law_1073 (lv_at hl 0 rfl) ?_
    refine lv_i2l (v := y9.toInt64) hx hb dL_law_1075 rfl ?_
    refine W.lcmp hx hb dL_law_1076 ?_
    rw [lg_same]
    refine lv_if_eq (tgt := 1082) hx hb dL_law_1077 (by decide) (fun _ => ?_) (fun q9 => absurd rfl q9)
    refine lv_goto (tgt := 1738) hx hb dL_law_1082 (by decide) ?_
    refine W.widen (k := cells + 6) (n := slots + 134) (by omega) (by omega) ?_
    exact K (n, own, pd, hv, sw, bar) u1 (n, hv, sw, a, v_thrown_c1049, sh, cv, of, many, colour, org, state, layers, heat, burnt, things, history, bars, v_set_c1049, seen, pile, isIn, order, whr, tried) _ _ _ hR1 hwz hP hD hS (lv_sub hl [2, 3, 4, 5, 6] rfl)
set_option maxHeartbeats 4000000 in
set_option maxRecDepth 100000 in
theorem k_L_bestLine (C : LC p l s m meth c b L xs D cI cJ cZ cO tD mi) {s0 : SG} {u : KT} {w : KM} {H : Heap} {locs : List Loc} {ls : Array Slot} (hk : 4 * k + 4 ≤ L) (hL : L ≤ 2048) (hR : RCt s0 u) (hM : RMt s0 w) (hP : va_P D vwCl (WCt cI cJ cO h o u ++ WMt cI cZ g w) H) (hD : va_D (AL s) (WCt cI cJ cO h o u ++ WMt cI cZ g w)) (hS : va_S (AL s) s.heap H locs) (hl : lv_has ls 7 [(0, .ref b), (1, .ref h), (2, .ref g), (3, .ref o), (4, .int (nI (4 * k)))]) (hcc : cells + 6 ≤ 601024) (hss : slots + 134 ≤ 7293034) (K : NXT p l e s m below meth c b D cI cJ cZ cO h g o k cells slots Q) : W p l e room_1 s m #[Value.ref b] below meth c H locs cells slots Q (F0 m 1085 ls []) := by
  obtain ⟨hx, hb, hr, hml, hown, hts, hX, hbl, hlocks, hst, hK, hE, hT, hLS, hN⟩ := C
  have hA : ∀ q, s.heap.size ≤ q → AL s q := fun _ h9 => h9
  refine lv_aload_n hx hb dL_law_1085 rfl (lv_at hl 1 rfl) ?_
  refine sld (k := k) (j := 1) (v := 1) hx hb hX hbl hS hl (lv_at hl 0 rfl) (lv_at hl 4 rfl) (nI_add _ _) (by decide) (by omega) hL dL_law_1086 dL_law_1087 dL_law_1089 dL_law_1090 dL_law_1091 ?_
  refine lv_aload_n hx hb dL_law_1092 rfl (lv_at hl 3 rfl) ?_
  have hCut := Cut.left hP hD hS hA (cut_all (w1 := fun (u : KT) => WCt cI cJ cO h o u) (va_P_app.mp hP).1 (hD.inner (n := H.size)).1 va_S.rf (fun q h9 => Or.inr h9))
  refine ca_i (wa := fun (u1 : KT) => WCt cI cJ cO h o u1 ++ WMt cI cZ g w) hCut hS (vx_runSW (As := [.ref h, .int (xs (4 * k + 1)), .ref o]) (rest := []) ⟨hx, hb, hml, hown, hts⟩ (c_L_bestLine l D hst cI cJ cZ cO tD mi h o s0 u _ (xs (4 * k + 1)) hR) (vx_cwSW 3 hts gL_law_L_bestLine rfl rfl rfl (by decide +kernel) ⟨Nat.le_of_ble_eq_true rfl, Nat.le_of_ble_eq_true rfl⟩) (hCut.preSW hK hE hT hLS hN hS) rfl rfl hl.1 rfl (lv_room (Nat.le_of_ble_eq_true rfl)) dL_law_1093 ⟨by show cells + 1 ≤ 601024; omega, by show slots + 6 ≤ 7293034; omega⟩) (fun r u1 H locs hw1 hP hD hS => ?_)
  obtain ⟨hr1, hw2, hw3⟩ := hw1
  refine lv_istore (lv' := [(5, .int r), (0, .ref b), (1, .ref h), (2, .ref g), (3, .ref o), (4, .int (nI (4 * k)))]) hx hb dL_law_1096 hl (by decide) rfl (fun ls hl => ?_)
  have hI := KT.is hR
  obtain ⟨N, own, pd, HW, SW, bar⟩ := s0
  obtain ⟨hO, hIP, hsw, hb5⟩ := hI
  obtain ⟨n, hv, sw, a, t, sh, cv, of, many, colour, org, state, layers, heat, burnt, things, history, bars, set, seen, pile, isIn, order, whr, tried⟩ := w
  obtain ⟨e1, e2, e3, ho, hmn, r0, r1, r2, r3, r4, r5, r10, r15, hfb⟩ := hM
  dsimp only at e1 e2 e3 ho hmn r0 r1 r2 r3 r4 r5 r10 r15 hfb hO hIP hsw hb5
  subst e1 e2 e3
  refine lv_aload_n hx hb dL_law_1098 rfl (lv_at hl 3 rfl) ?_
  refine sld (k := k) (j := 1) (v := 1) hx hb hX hbl hS hl (lv_at hl 1 rfl) (lv_at hl 5 rfl) (nI_add _ _) (by decide) (by omega) hL dL_law_1099 dL_law_1100 dL_law_1102 dL_law_1103 dL_law_1104 ?_
  have hw : wp_X5_bestLine t (nI n) of many set seen pile (xs (4 * k + 1)) (fun r_1105 v_thrown_c1105 v_set_c1105 v_seen_c1105 v_pile_c1105 => v_thrown_c1105 = nI (oC_bestLine (n, own, pd, hv, sw, bar) (xs (4 * k + 1))) ∧ (¬ (oC_bestLine (n, own, pd, hv, sw, bar) (xs (4 * k + 1))) = 0 → RMt (n, own, pd, hv, sw, bar) (n, hv, sw, a, v_thrown_c1105, sh, cv, of, many, colour, org, state, layers, heat, burnt, things, history, bars, v_set_c1105, v_seen_c1105, v_pile_c1105, isIn, order, whr, tried)) ∧ ((oC_bestLine (n, own, pd, hv, sw, bar) (xs (4 * k + 1))) = 0 → (oV_bestLine (n, own, pd, hv, sw, bar) (xs (4 * k + 1))) r_1105 ∧ RMt (n, own, pd, hv, sw, bar) (n, hv, sw, a, v_thrown_c1105, sh, cv, of, many, colour, org, state, layers, heat, burnt, things, history, bars, v_set_c1105, v_seen_c1105, v_pile_c1105, isIn, order, whr, tried))) := m_bestLine hO ho hmn (fun ee => ⟨by rw [show (oC_bestLine (n, own, pd, hv, sw, bar) (xs (4 * k + 1))) = 1 from by unfold oC_bestLine; rw [ee]; rfl]; rfl, fun _ => ⟨rfl, rfl, rfl, ho, hmn, r0, r1, r2, r3, r4, r5, r10, r15, hfb⟩, fun z => absurd ((show (oC_bestLine (n, own, pd, hv, sw, bar) (xs (4 * k + 1))) = 1 from by unfold oC_bestLine; rw [ee]; rfl).symm.trans z) (by decide)⟩) (fun ee s1 s2 s3 => by exact ⟨by rw [show (oC_bestLine (n, own, pd, hv, sw, bar) (xs (4 * k + 1))) = 0 from by unfold oC_bestLine; rw [ee]; rfl]; rfl, fun z => absurd (show (oC_bestLine (n, own, pd, hv, sw, bar) (xs (4 * k + 1))) = 0 from by unfold oC_bestLine; rw [ee]; rfl) z, fun _ => ⟨rfl, ⟨rfl, rfl, rfl, ho, hmn, r0, r1, r2, r3, r4, r5, r10, r15, hfb⟩⟩⟩)
  have hCut := Cut.right hP hD hS hA (cut0 (S := Int32 × (Nat → Int32) × (Nat → Int32) × (Nat → Int32)) (X := (WM cI cZ g a t (nI n) (nI hv) (nI sw) sh cv of many colour org state layers heat burnt things history bars set seen pile isIn order whr tried)) (cx := (W_X5_bestLine g a cI cJ cZ t (nI n) of many (nI hv) (nI sw) set seen pile sh cv)) (pl := []) (w1 := fun (u : Int32 × (Nat → Int32) × (Nat → Int32) × (Nat → Int32)) => (W_X5_bestLine g a cI cJ cZ u.1 (nI n) of many (nI hv) (nI sw) u.2.1 u.2.2.1 u.2.2.2 sh cv)) (X' := fun (u : Int32 × (Nat → Int32) × (Nat → Int32) × (Nat → Int32)) => (WM cI cZ g a u.1 (nI n) (nI hv) (nI sw) sh cv of many colour org state layers heat burnt things history bars u.2.1 u.2.2.1 u.2.2.2 isIn order whr tried)) (va_P_app.mp hP).2 (hD.inner (n := H.size)).2 va_S.rf (fun q h9 => Or.inr h9) [0, 1, 2, 12, 13, 14] [3, 4, 5, 6, 7, 8, 9, 10, 11, 15, 16, 17, 18] [13, 14, 15, 0, 1, 2, 3, 4, 5, 6, 7, 8, 16, 17, 18, 9, 10, 11, 12] rfl rfl (by decide) (by decide) (by decide) (fun u => rfl) (by decide))
  refine ca_i (wa := fun (u : Int32 × (Nat → Int32) × (Nat → Int32) × (Nat → Int32)) => WCt cI cJ cO h o u1 ++ (WM cI cZ g a u.1 (nI n) (nI hv) (nI sw) sh cv of many colour org state layers heat burnt things history bars u.2.1 u.2.2.1 u.2.2.2 isIn order whr tried)) hCut hS (va_runV (As := [.int (xs (4 * k + 1))]) (rest := []) ⟨hx, hb, hml, hown, hts⟩ (c_X5_bestLine l D cI cJ cZ cO g a H.size t (nI n) of many (nI hv) (nI sw) set seen pile sh cv (xs (4 * k + 1)) _ hw) (cwV 1 hts gL_law_X5_bestLine rfl rfl rfl (by decide +kernel) ⟨Nat.le_of_ble_eq_true rfl, Nat.le_of_ble_eq_true rfl⟩) (hCut.preV (qb := 0) (ci := 6) hK hE rfl rfl) rfl rfl hl.1 rfl (lv_room (Nat.le_of_ble_eq_true rfl)) dL_law_1105 ⟨by show _ ≤ 601024; simp only [Nat.add_zero]; omega, by show _ ≤ 7293034; simp only [Nat.add_zero]; omega⟩) (fun r_1105 u H locs hw hP hD hS => ?_)
  obtain ⟨v_thrown_c1105, v_set_c1105, v_seen_c1105, v_pile_c1105⟩ := u
  try dsimp only at hw
  obtain ⟨ht3, hwn, hwy⟩ := hw
  refine lv_istore (lv' := [(6, .int r_1105), (5, .int r), (0, .ref b), (1, .ref h), (2, .ref g), (3, .ref o), (4, .int (nI (4 * k)))]) hx hb dL_law_1108 hl (by decide) rfl (fun ls hl => ?_)
  refine lv_aload_n hx hb dL_law_1110 rfl (lv_at hl 4 rfl) ?_
  have hw : wp_X5_thrown v_thrown_c1105 (fun r => r = v_thrown_c1105) := by unfold wp_X5_thrown; rfl
  have hCut := Cut.right hP hD hS hA (cut0 (S := Unit) (X := (WM cI cZ g a v_thrown_c1105 (nI n) (nI hv) (nI sw) sh cv of many colour org state layers heat burnt things history bars v_set_c1105 v_seen_c1105 v_pile_c1105 isIn order whr tried)) (cx := (W_X5_thrown g a cI cJ cZ v_thrown_c1105 (nI n) (nI hv) (nI sw) sh cv)) (pl := []) (w1 := fun (u : Unit) => (W_X5_thrown g a cI cJ cZ v_thrown_c1105 (nI n) (nI hv) (nI sw) sh cv)) (X' := fun (u : Unit) => (WM cI cZ g a v_thrown_c1105 (nI n) (nI hv) (nI sw) sh cv of many colour org state layers heat burnt things history bars v_set_c1105 v_seen_c1105 v_pile_c1105 isIn order whr tried)) (va_P_app.mp hP).2 (hD.inner (n := H.size)).2 va_S.rf (fun q h9 => Or.inr h9) [0] [1, 2, 3, 4, 5, 6, 7, 8, 9, 10, 11, 12, 13, 14, 15, 16, 17, 18] [18, 0, 1, 2, 3, 4, 5, 6, 7, 8, 9, 10, 11, 12, 13, 14, 15, 16, 17] rfl rfl (by decide) (by decide) (by decide) (fun u => rfl) (by decide))
  refine ca_i (wa := fun (u : Unit) => WCt cI cJ cO h o u1 ++ (WM cI cZ g a v_thrown_c1105 (nI n) (nI hv) (nI sw) sh cv of many colour org state layers heat burnt things history bars v_set_c1105 v_seen_c1105 v_pile_c1105 isIn order whr tried)) hCut hS (va_runV (As := []) (rest := []) ⟨hx, hb, hml, hown, hts⟩ (c_X5_thrown l D cI cJ cZ cO g a H.size v_thrown_c1105 (nI n) (nI hv) (nI sw) sh cv _ hw) (cwV 0 hts gL_law_X5_thrown rfl rfl rfl (by decide +kernel) ⟨Nat.le_of_ble_eq_true rfl, Nat.le_of_ble_eq_true rfl⟩) (hCut.preV (qb := 0) (ci := 6) hK hE rfl rfl) rfl rfl hl.1 rfl (lv_room (Nat.le_of_ble_eq_true rfl)) dL_law_1111 ⟨by show _ ≤ 601024; simp only [Nat.add_zero]; omega, by show _ ≤ 7293034; simp only [Nat.add_zero]; omega⟩) (fun r_1111 _ H locs hw hP hD hS => ?_)
  try dsimp only at hw
  have hrr : r_1111 = r := by rw [hw, ht3, hr1]
  refine lv_iload hx hb dL_law_1114 (lv_at hl 1 rfl) ?_
  refine lv_icmp_eq (tgt := 1121) hx hb dL_law_1116 (by decide) (fun _ => ?_) (fun z9 => absurd hrr z9)
  refine lv_iload hx hb dL_law_1121 (lv_at hl 1 rfl) ?_
  refine lv_if_ne (tgt := 1138) hx hb dL_law_1123 (by decide) (fun z9 => ?_) (fun z9 => ?_)
  · have hz : ¬ (oC_bestLine (n, own, pd, hv, sw, bar) (xs (4 * k + 1))) = 0 := fun q9 => z9 (by rw [hr1, q9]; rfl)
    have hwn := hwn hz
    refine lv_goto (tgt := 1738) hx hb dL_law_1138 (by decide) ?_
    refine W.widen (k := cells + 6) (n := slots + 134) (by omega) (by omega) ?_
    exact K (n, own, pd, hv, sw, bar) u1 (n, hv, sw, a, v_thrown_c1105, sh, cv, of, many, colour, org, state, layers, heat, burnt, things, history, bars, v_set_c1105, v_seen_c1105, v_pile_c1105, isIn, order, whr, tried) _ _ _ (hw2 hz) hwn hP hD hS (lv_sub hl [2, 3, 4, 5, 6] rfl)
  · have hz : (oC_bestLine (n, own, pd, hv, sw, bar) (xs (4 * k + 1))) = 0 := by
      have b9 : (oC_bestLine (n, own, pd, hv, sw, bar) (xs (4 * k + 1))) < 2147483648 := by unfold oC_bestLine; split <;> omega
      exact (nI_eq b9 (by omega)).mp (hr1.symm.trans z9)
    obtain ⟨hR1, y9, hy9, ho9⟩ := hw3 hz
    obtain ⟨hv9, hwz⟩ := hwy hz
    have hyr : y9 = r_1105 := hy9.trans hv9.symm
    subst hyr
    refine lv_aload_n hx hb dL_law_1126 rfl (lv_at hl 5 rfl) ?_
    refine lv_iconst (v := 0) hx hb dL_law_1127 (by decide) ?_
    have hout : ∃ fo : Nat → Int64, fo 0 = u1.out ∧ (WCt cI cJ cO h o u1 ++ (WM cI cZ g a v_thrown_c1105 (nI n) (nI hv) (nI sw) sh cv of many colour org state layers heat burnt things history bars v_set_c1105 v_seen_c1105 v_pile_c1105 isIn order whr tried))[0]? = some (o, .inl (cJ, 1, .inr (.inl fo))) := by obtain ⟨n, hv, sw, m_cap, a, aC, aM, aW, aN, aF, aL, ad, af, br, md, el, ow, su, wr, wc, nr, nc, fr, fc, lq, lh, lw, lsp, x1, x2, x3, x4, x5, qc, qs, ql, qt, qo, qh, qf, qth, v⟩ := u1; exact ⟨v, rfl, rfl⟩
    obtain ⟨fo, hfo, hc0⟩ := hout
    refine va_lald hx hb hK hP 0 1 hc0 rfl (vp_lit rfl) dL_law_1128 ?_
    have hf0 : fo (0 : Int32).toNatClampNeg = y9.toInt64 := hfo.trans ho9
    rw [hf0]
    refine lv_iload hx hb dL_law_1129 (lv_at hl 0 rfl) ?_
    refine lv_i2l (v := y9.toInt64) hx hb dL_law_1131 rfl ?_
    refine W.lcmp hx hb dL_law_1132 ?_
    rw [lg_same]
    refine lv_if_eq (tgt := 1138) hx hb dL_law_1133 (by decide) (fun _ => ?_) (fun q9 => absurd rfl q9)
    refine lv_goto (tgt := 1738) hx hb dL_law_1138 (by decide) ?_
    refine W.widen (k := cells + 6) (n := slots + 134) (by omega) (by omega) ?_
    exact K (n, own, pd, hv, sw, bar) u1 (n, hv, sw, a, v_thrown_c1105, sh, cv, of, many, colour, org, state, layers, heat, burnt, things, history, bars, v_set_c1105, v_seen_c1105, v_pile_c1105, isIn, order, whr, tried) _ _ _ hR1 hwz hP hD hS (lv_sub hl [2, 3, 4, 5, 6] rfl)
set_option maxHeartbeats 4000000 in
set_option maxRecDepth 100000 in
theorem k_L_floor (C : LC p l s m meth c b L xs D cI cJ cZ cO tD mi) {s0 : SG} {u : KT} {w : KM} {H : Heap} {locs : List Loc} {ls : Array Slot} (hk : 4 * k + 4 ≤ L) (hL : L ≤ 2048) (hR : RCt s0 u) (hM : RMt s0 w) (hP : va_P D vwCl (WCt cI cJ cO h o u ++ WMt cI cZ g w) H) (hD : va_D (AL s) (WCt cI cJ cO h o u ++ WMt cI cZ g w)) (hS : va_S (AL s) s.heap H locs) (hl : lv_has ls 7 [(0, .ref b), (1, .ref h), (2, .ref g), (3, .ref o), (4, .int (nI (4 * k)))]) (hcc : cells + 6 ≤ 601024) (hss : slots + 134 ≤ 7293034) (K : NXT p l e s m below meth c b D cI cJ cZ cO h g o k cells slots Q) : W p l e room_1 s m #[Value.ref b] below meth c H locs cells slots Q (F0 m 1373 ls []) := by
  obtain ⟨hx, hb, hr, hml, hown, hts, hX, hbl, hlocks, hst, hK, hE, hT, hLS, hN⟩ := C
  have hA : ∀ q, s.heap.size ≤ q → AL s q := fun _ h9 => h9
  refine lv_aload_n hx hb dL_law_1373 rfl (lv_at hl 1 rfl) ?_
  refine sld (k := k) (j := 1) (v := 1) hx hb hX hbl hS hl (lv_at hl 0 rfl) (lv_at hl 4 rfl) (nI_add _ _) (by decide) (by omega) hL dL_law_1374 dL_law_1375 dL_law_1377 dL_law_1378 dL_law_1379 ?_
  refine sld (k := k) (j := 2) (v := 2) hx hb hX hbl hS hl (lv_at hl 0 rfl) (lv_at hl 4 rfl) (nI_add _ _) (by decide) (by omega) hL dL_law_1380 dL_law_1381 dL_law_1383 dL_law_1384 dL_law_1385 ?_
  refine sld (k := k) (j := 3) (v := 3) hx hb hX hbl hS hl (lv_at hl 0 rfl) (lv_at hl 4 rfl) (nI_add _ _) (by decide) (by omega) hL dL_law_1386 dL_law_1387 dL_law_1389 dL_law_1390 dL_law_1391 ?_
  refine lv_aload_n hx hb dL_law_1392 rfl (lv_at hl 3 rfl) ?_
  have hCut := Cut.left hP hD hS hA (cut_all (w1 := fun (u : KT) => WCt cI cJ cO h o u) (va_P_app.mp hP).1 (hD.inner (n := H.size)).1 va_S.rf (fun q h9 => Or.inr h9))
  refine ca_i (wa := fun (u1 : KT) => WCt cI cJ cO h o u1 ++ WMt cI cZ g w) hCut hS (vx_runSW (As := [.ref h, .int (xs (4 * k + 1)), .int (xs (4 * k + 2)), .int (xs (4 * k + 3)), .ref o]) (rest := []) ⟨hx, hb, hml, hown, hts⟩ (c_L_floor l D hst cI cJ cZ cO tD mi h o s0 u _ (xs (4 * k + 1)) (xs (4 * k + 2)) (xs (4 * k + 3)) hR) (vx_cwSW 5 hts gL_law_L_floor rfl rfl rfl (by decide +kernel) ⟨Nat.le_of_ble_eq_true rfl, Nat.le_of_ble_eq_true rfl⟩) (hCut.preSW hK hE hT hLS hN hS) rfl rfl hl.1 rfl (lv_room (Nat.le_of_ble_eq_true rfl)) dL_law_1393 ⟨by show cells + 1 ≤ 601024; omega, by show slots + 6 ≤ 7293034; omega⟩) (fun r u1 H locs hw1 hP hD hS => ?_)
  obtain ⟨hr1, hw2, hw3⟩ := hw1
  refine lv_istore (lv' := [(5, .int r), (0, .ref b), (1, .ref h), (2, .ref g), (3, .ref o), (4, .int (nI (4 * k)))]) hx hb dL_law_1396 hl (by decide) rfl (fun ls hl => ?_)
  have hI := KT.is hR
  obtain ⟨N, own, pd, HW, SW, bar⟩ := s0
  obtain ⟨hO, hIP, hsw, hb5⟩ := hI
  obtain ⟨n, hv, sw, a, t, sh, cv, of, many, colour, org, state, layers, heat, burnt, things, history, bars, set, seen, pile, isIn, order, whr, tried⟩ := w
  obtain ⟨e1, e2, e3, ho, hmn, r0, r1, r2, r3, r4, r5, r10, r15, hfb⟩ := hM
  dsimp only at e1 e2 e3 ho hmn r0 r1 r2 r3 r4 r5 r10 r15 hfb hO hIP hsw hb5
  subst e1 e2 e3
  refine lv_aload_n hx hb dL_law_1398 rfl (lv_at hl 3 rfl) ?_
  refine sld (k := k) (j := 1) (v := 1) hx hb hX hbl hS hl (lv_at hl 1 rfl) (lv_at hl 5 rfl) (nI_add _ _) (by decide) (by omega) hL dL_law_1399 dL_law_1400 dL_law_1402 dL_law_1403 dL_law_1404 ?_
  refine sld (k := k) (j := 2) (v := 2) hx hb hX hbl hS hl (lv_at hl 1 rfl) (lv_at hl 5 rfl) (nI_add _ _) (by decide) (by omega) hL dL_law_1405 dL_law_1406 dL_law_1408 dL_law_1409 dL_law_1410 ?_
  refine sld (k := k) (j := 3) (v := 3) hx hb hX hbl hS hl (lv_at hl 1 rfl) (lv_at hl 5 rfl) (nI_add _ _) (by decide) (by omega) hL dL_law_1411 dL_law_1412 dL_law_1414 dL_law_1415 dL_law_1416 ?_
  have hw : wp_X5_floor t of colour (xs (4 * k + 1)) (xs (4 * k + 2)) (xs (4 * k + 3)) (fun r_1417 v_thrown_c1417 => v_thrown_c1417 = nI (oC_floor (n, own, pd, hv, sw, bar) (xs (4 * k + 1)) (xs (4 * k + 2)) (xs (4 * k + 3))) ∧ (¬ (oC_floor (n, own, pd, hv, sw, bar) (xs (4 * k + 1)) (xs (4 * k + 2)) (xs (4 * k + 3))) = 0 → RMt (n, own, pd, hv, sw, bar) (n, hv, sw, a, v_thrown_c1417, sh, cv, of, many, colour, org, state, layers, heat, burnt, things, history, bars, set, seen, pile, isIn, order, whr, tried)) ∧ ((oC_floor (n, own, pd, hv, sw, bar) (xs (4 * k + 1)) (xs (4 * k + 2)) (xs (4 * k + 3))) = 0 → (oV_floor (n, own, pd, hv, sw, bar) (xs (4 * k + 1)) (xs (4 * k + 2)) (xs (4 * k + 3))) r_1417 ∧ RMt (n, own, pd, hv, sw, bar) (n, hv, sw, a, v_thrown_c1417, sh, cv, of, many, colour, org, state, layers, heat, burnt, things, history, bars, set, seen, pile, isIn, order, whr, tried))) := m_floor hO hIP ho r0 (fun ee => ⟨by rw [show (oC_floor (n, own, pd, hv, sw, bar) (xs (4 * k + 1)) (xs (4 * k + 2)) (xs (4 * k + 3))) = 1 from by unfold oC_floor; rw [ee]; rfl]; rfl, fun _ => ⟨rfl, rfl, rfl, ho, hmn, r0, r1, r2, r3, r4, r5, r10, r15, hfb⟩, fun z => absurd ((show (oC_floor (n, own, pd, hv, sw, bar) (xs (4 * k + 1)) (xs (4 * k + 2)) (xs (4 * k + 3))) = 1 from by unfold oC_floor; rw [ee]; rfl).symm.trans z) (by decide)⟩) (fun ee  => by exact ⟨by rw [show (oC_floor (n, own, pd, hv, sw, bar) (xs (4 * k + 1)) (xs (4 * k + 2)) (xs (4 * k + 3))) = 0 from by unfold oC_floor; rw [ee]; rfl]; rfl, fun z => absurd (show (oC_floor (n, own, pd, hv, sw, bar) (xs (4 * k + 1)) (xs (4 * k + 2)) (xs (4 * k + 3))) = 0 from by unfold oC_floor; rw [ee]; rfl) z, fun _ => ⟨rfl, ⟨rfl, rfl, rfl, ho, hmn, r0, r1, r2, r3, r4, r5, r10, r15, hfb⟩⟩⟩)
  have hCut := Cut.right hP hD hS hA (cut0 (S := Int32) (X := (WM cI cZ g a t (nI n) (nI hv) (nI sw) sh cv of many colour org state layers heat burnt things history bars set seen pile isIn order whr tried)) (cx := (W_X5_floor g a cI cJ cZ t (nI n) of colour (nI hv) (nI sw) sh cv)) (pl := []) (w1 := fun (u : Int32) => (W_X5_floor g a cI cJ cZ u (nI n) of colour (nI hv) (nI sw) sh cv)) (X' := fun (u : Int32) => (WM cI cZ g a u (nI n) (nI hv) (nI sw) sh cv of many colour org state layers heat burnt things history bars set seen pile isIn order whr tried)) (va_P_app.mp hP).2 (hD.inner (n := H.size)).2 va_S.rf (fun q h9 => Or.inr h9) [0, 1, 3] [2, 4, 5, 6, 7, 8, 9, 10, 11, 12, 13, 14, 15, 16, 17, 18] [16, 17, 0, 18, 1, 2, 3, 4, 5, 6, 7, 8, 9, 10, 11, 12, 13, 14, 15] rfl rfl (by decide) (by decide) (by decide) (fun u => rfl) (by decide))
  refine ca_i (wa := fun (u : Int32) => WCt cI cJ cO h o u1 ++ (WM cI cZ g a u (nI n) (nI hv) (nI sw) sh cv of many colour org state layers heat burnt things history bars set seen pile isIn order whr tried)) hCut hS (va_runV (As := [.int (xs (4 * k + 1)), .int (xs (4 * k + 2)), .int (xs (4 * k + 3))]) (rest := []) ⟨hx, hb, hml, hown, hts⟩ (c_X5_floor l D cI cJ cZ cO g a H.size t (nI n) of colour (nI hv) (nI sw) sh cv (xs (4 * k + 1)) (xs (4 * k + 2)) (xs (4 * k + 3)) _ hw) (cwV 3 hts gL_law_X5_floor rfl rfl rfl (by decide +kernel) ⟨Nat.le_of_ble_eq_true rfl, Nat.le_of_ble_eq_true rfl⟩) (hCut.preV (qb := 0) (ci := 6) hK hE rfl rfl) rfl rfl hl.1 rfl (lv_room (Nat.le_of_ble_eq_true rfl)) dL_law_1417 ⟨by show _ ≤ 601024; simp only [Nat.add_zero]; omega, by show _ ≤ 7293034; simp only [Nat.add_zero]; omega⟩) (fun r_1417 v_thrown_c1417 H locs hw hP hD hS => ?_)
  try dsimp only at hw
  obtain ⟨ht3, hwn, hwy⟩ := hw
  refine lv_istore (lv' := [(6, .int r_1417), (5, .int r), (0, .ref b), (1, .ref h), (2, .ref g), (3, .ref o), (4, .int (nI (4 * k)))]) hx hb dL_law_1420 hl (by decide) rfl (fun ls hl => ?_)
  refine lv_aload_n hx hb dL_law_1422 rfl (lv_at hl 4 rfl) ?_
  have hw : wp_X5_thrown v_thrown_c1417 (fun r => r = v_thrown_c1417) := by unfold wp_X5_thrown; rfl
  have hCut := Cut.right hP hD hS hA (cut0 (S := Unit) (X := (WM cI cZ g a v_thrown_c1417 (nI n) (nI hv) (nI sw) sh cv of many colour org state layers heat burnt things history bars set seen pile isIn order whr tried)) (cx := (W_X5_thrown g a cI cJ cZ v_thrown_c1417 (nI n) (nI hv) (nI sw) sh cv)) (pl := []) (w1 := fun (u : Unit) => (W_X5_thrown g a cI cJ cZ v_thrown_c1417 (nI n) (nI hv) (nI sw) sh cv)) (X' := fun (u : Unit) => (WM cI cZ g a v_thrown_c1417 (nI n) (nI hv) (nI sw) sh cv of many colour org state layers heat burnt things history bars set seen pile isIn order whr tried)) (va_P_app.mp hP).2 (hD.inner (n := H.size)).2 va_S.rf (fun q h9 => Or.inr h9) [0] [1, 2, 3, 4, 5, 6, 7, 8, 9, 10, 11, 12, 13, 14, 15, 16, 17, 18] [18, 0, 1, 2, 3, 4, 5, 6, 7, 8, 9, 10, 11, 12, 13, 14, 15, 16, 17] rfl rfl (by decide) (by decide) (by decide) (fun u => rfl) (by decide))
  refine ca_i (wa := fun (u : Unit) => WCt cI cJ cO h o u1 ++ (WM cI cZ g a v_thrown_c1417 (nI n) (nI hv) (nI sw) sh cv of many colour org state layers heat burnt things history bars set seen pile isIn order whr tried)) hCut hS (va_runV (As := []) (rest := []) ⟨hx, hb, hml, hown, hts⟩ (c_X5_thrown l D cI cJ cZ cO g a H.size v_thrown_c1417 (nI n) (nI hv) (nI sw) sh cv _ hw) (cwV 0 hts gL_law_X5_thrown rfl rfl rfl (by decide +kernel) ⟨Nat.le_of_ble_eq_true rfl, Nat.le_of_ble_eq_true rfl⟩) (hCut.preV (qb := 0) (ci := 6) hK hE rfl rfl) rfl rfl hl.1 rfl (lv_room (Nat.le_of_ble_eq_true rfl)) dL_law_1423 ⟨by show _ ≤ 601024; simp only [Nat.add_zero]; omega, by show _ ≤ 7293034; simp only [Nat.add_zero]; omega⟩) (fun r_1423 _ H locs hw hP hD hS => ?_)
  try dsimp only at hw
  have hrr : r_1423 = r := by rw [hw, ht3, hr1]
  refine lv_iload hx hb dL_law_1426 (lv_at hl 1 rfl) ?_
  refine lv_icmp_eq (tgt := 1433) hx hb dL_law_1428 (by decide) (fun _ => ?_) (fun z9 => absurd hrr z9)
  refine lv_iload hx hb dL_law_1433 (lv_at hl 1 rfl) ?_
  refine lv_if_ne (tgt := 1450) hx hb dL_law_1435 (by decide) (fun z9 => ?_) (fun z9 => ?_)
  · have hz : ¬ (oC_floor (n, own, pd, hv, sw, bar) (xs (4 * k + 1)) (xs (4 * k + 2)) (xs (4 * k + 3))) = 0 := fun q9 => z9 (by rw [hr1, q9]; rfl)
    have hwn := hwn hz
    refine lv_goto (tgt := 1738) hx hb dL_law_1450 (by decide) ?_
    refine W.widen (k := cells + 6) (n := slots + 134) (by omega) (by omega) ?_
    exact K (n, own, pd, hv, sw, bar) u1 (n, hv, sw, a, v_thrown_c1417, sh, cv, of, many, colour, org, state, layers, heat, burnt, things, history, bars, set, seen, pile, isIn, order, whr, tried) _ _ _ (hw2 hz) hwn hP hD hS (lv_sub hl [2, 3, 4, 5, 6] rfl)
  · have hz : (oC_floor (n, own, pd, hv, sw, bar) (xs (4 * k + 1)) (xs (4 * k + 2)) (xs (4 * k + 3))) = 0 := by
      have b9 : (oC_floor (n, own, pd, hv, sw, bar) (xs (4 * k + 1)) (xs (4 * k + 2)) (xs (4 * k + 3))) < 2147483648 := by unfold oC_floor; split <;> omega
      exact (nI_eq b9 (by omega)).mp (hr1.symm.trans z9)
    obtain ⟨hR1, y9, hy9, ho9⟩ := hw3 hz
    obtain ⟨hv9, hwz⟩ := hwy hz
    have hyr : y9 = r_1417 := hy9.trans hv9.symm
    subst hyr
    refine lv_aload_n hx hb dL_law_1438 rfl (lv_at hl 5 rfl) ?_
    refine lv_iconst (v := 0) hx hb dL_law_1439 (by decide) ?_
    have hout : ∃ fo : Nat → Int64, fo 0 = u1.out ∧ (WCt cI cJ cO h o u1 ++ (WM cI cZ g a v_thrown_c1417 (nI n) (nI hv) (nI sw) sh cv of many colour org state layers heat burnt things history bars set seen pile isIn order whr tried))[0]? = some (o, .inl (cJ, 1, .inr (.inl fo))) := by obtain ⟨n, hv, sw, m_cap, a, aC, aM, aW, aN, aF, aL, ad, af, br, md, el, ow, su, wr, wc, nr, nc, fr, fc, lq, lh, lw, lsp, x1, x2, x3, x4, x5, qc, qs, ql, qt, qo, qh, qf, qth, v⟩ := u1; exact ⟨v, rfl, rfl⟩
    obtain ⟨fo, hfo, hc0⟩ := hout
    refine va_lald hx hb hK hP 0 1 hc0 rfl (vp_lit rfl) dL_law_1440 ?_
    have hf0 : fo (0 : Int32).toNatClampNeg = y9.toInt64 := hfo.trans ho9
    rw [hf0]
    refine lv_iload hx hb dL_law_1441 (lv_at hl 0 rfl) ?_
    refine lv_i2l (v := y9.toInt64) hx hb dL_law_1443 rfl ?_
    refine W.lcmp hx hb dL_law_1444 ?_
    rw [lg_same]
    refine lv_if_eq (tgt := 1450) hx hb dL_law_1445 (by decide) (fun _ => ?_) (fun q9 => absurd rfl q9)
    refine lv_goto (tgt := 1738) hx hb dL_law_1450 (by decide) ?_
    refine W.widen (k := cells + 6) (n := slots + 134) (by omega) (by omega) ?_
    exact K (n, own, pd, hv, sw, bar) u1 (n, hv, sw, a, v_thrown_c1417, sh, cv, of, many, colour, org, state, layers, heat, burnt, things, history, bars, set, seen, pile, isIn, order, whr, tried) _ _ _ hR1 hwz hP hD hS (lv_sub hl [2, 3, 4, 5, 6] rfl)
set_option maxHeartbeats 4000000 in
set_option maxRecDepth 100000 in
theorem k_L_floorAnew (C : LC p l s m meth c b L xs D cI cJ cZ cO tD mi) {s0 : SG} {u : KT} {w : KM} {H : Heap} {locs : List Loc} {ls : Array Slot} (hk : 4 * k + 4 ≤ L) (hL : L ≤ 2048) (hR : RCt s0 u) (hM : RMt s0 w) (hP : va_P D vwCl (WCt cI cJ cO h o u ++ WMt cI cZ g w) H) (hD : va_D (AL s) (WCt cI cJ cO h o u ++ WMt cI cZ g w)) (hS : va_S (AL s) s.heap H locs) (hl : lv_has ls 7 [(0, .ref b), (1, .ref h), (2, .ref g), (3, .ref o), (4, .int (nI (4 * k)))]) (hcc : cells + 6 ≤ 601024) (hss : slots + 134 ≤ 7293034) (K : NXT p l e s m below meth c b D cI cJ cZ cO h g o k cells slots Q) : W p l e room_1 s m #[Value.ref b] below meth c H locs cells slots Q (F0 m 1453 ls []) := by
  obtain ⟨hx, hb, hr, hml, hown, hts, hX, hbl, hlocks, hst, hK, hE, hT, hLS, hN⟩ := C
  have hA : ∀ q, s.heap.size ≤ q → AL s q := fun _ h9 => h9
  refine lv_aload_n hx hb dL_law_1453 rfl (lv_at hl 1 rfl) ?_
  refine sld (k := k) (j := 1) (v := 1) hx hb hX hbl hS hl (lv_at hl 0 rfl) (lv_at hl 4 rfl) (nI_add _ _) (by decide) (by omega) hL dL_law_1454 dL_law_1455 dL_law_1457 dL_law_1458 dL_law_1459 ?_
  refine sld (k := k) (j := 2) (v := 2) hx hb hX hbl hS hl (lv_at hl 0 rfl) (lv_at hl 4 rfl) (nI_add _ _) (by decide) (by omega) hL dL_law_1460 dL_law_1461 dL_law_1463 dL_law_1464 dL_law_1465 ?_
  refine sld (k := k) (j := 3) (v := 3) hx hb hX hbl hS hl (lv_at hl 0 rfl) (lv_at hl 4 rfl) (nI_add _ _) (by decide) (by omega) hL dL_law_1466 dL_law_1467 dL_law_1469 dL_law_1470 dL_law_1471 ?_
  refine lv_aload_n hx hb dL_law_1472 rfl (lv_at hl 3 rfl) ?_
  have hCut := Cut.left hP hD hS hA (cut_all (w1 := fun (u : KT) => WCt cI cJ cO h o u) (va_P_app.mp hP).1 (hD.inner (n := H.size)).1 va_S.rf (fun q h9 => Or.inr h9))
  refine ca_i (wa := fun (u1 : KT) => WCt cI cJ cO h o u1 ++ WMt cI cZ g w) hCut hS (vx_runSW (As := [.ref h, .int (xs (4 * k + 1)), .int (xs (4 * k + 2)), .int (xs (4 * k + 3)), .ref o]) (rest := []) ⟨hx, hb, hml, hown, hts⟩ (c_L_floorAnew l D hst cI cJ cZ cO tD mi h o s0 u _ (xs (4 * k + 1)) (xs (4 * k + 2)) (xs (4 * k + 3)) hR) (vx_cwSW 5 hts gL_law_L_floorAnew rfl rfl rfl (by decide +kernel) ⟨Nat.le_of_ble_eq_true rfl, Nat.le_of_ble_eq_true rfl⟩) (hCut.preSW hK hE hT hLS hN hS) rfl rfl hl.1 rfl (lv_room (Nat.le_of_ble_eq_true rfl)) dL_law_1473 ⟨by show cells + 1 ≤ 601024; omega, by show slots + 6 ≤ 7293034; omega⟩) (fun r u1 H locs hw1 hP hD hS => ?_)
  obtain ⟨hr1, hw2, hw3⟩ := hw1
  refine lv_istore (lv' := [(5, .int r), (0, .ref b), (1, .ref h), (2, .ref g), (3, .ref o), (4, .int (nI (4 * k)))]) hx hb dL_law_1476 hl (by decide) rfl (fun ls hl => ?_)
  have hI := KT.is hR
  obtain ⟨N, own, pd, HW, SW, bar⟩ := s0
  obtain ⟨hO, hIP, hsw, hb5⟩ := hI
  obtain ⟨n, hv, sw, a, t, sh, cv, of, many, colour, org, state, layers, heat, burnt, things, history, bars, set, seen, pile, isIn, order, whr, tried⟩ := w
  obtain ⟨e1, e2, e3, ho, hmn, r0, r1, r2, r3, r4, r5, r10, r15, hfb⟩ := hM
  dsimp only at e1 e2 e3 ho hmn r0 r1 r2 r3 r4 r5 r10 r15 hfb hO hIP hsw hb5
  subst e1 e2 e3
  refine lv_aload_n hx hb dL_law_1478 rfl (lv_at hl 3 rfl) ?_
  refine sld (k := k) (j := 1) (v := 1) hx hb hX hbl hS hl (lv_at hl 1 rfl) (lv_at hl 5 rfl) (nI_add _ _) (by decide) (by omega) hL dL_law_1479 dL_law_1480 dL_law_1482 dL_law_1483 dL_law_1484 ?_
  refine sld (k := k) (j := 2) (v := 2) hx hb hX hbl hS hl (lv_at hl 1 rfl) (lv_at hl 5 rfl) (nI_add _ _) (by decide) (by omega) hL dL_law_1485 dL_law_1486 dL_law_1488 dL_law_1489 dL_law_1490 ?_
  refine sld (k := k) (j := 3) (v := 3) hx hb hX hbl hS hl (lv_at hl 1 rfl) (lv_at hl 5 rfl) (nI_add _ _) (by decide) (by omega) hL dL_law_1491 dL_law_1492 dL_law_1494 dL_law_1495 dL_law_1496 ?_
  have hw : wp_X5_floorAnew t of colour (xs (4 * k + 1)) (xs (4 * k + 2)) (xs (4 * k + 3)) (fun r_1497 v_thrown_c1497 => v_thrown_c1497 = nI (oC_floor (n, own, pd, hv, sw, bar) (xs (4 * k + 1)) (xs (4 * k + 2)) (xs (4 * k + 3))) ∧ (¬ (oC_floor (n, own, pd, hv, sw, bar) (xs (4 * k + 1)) (xs (4 * k + 2)) (xs (4 * k + 3))) = 0 → RMt (n, own, pd, hv, sw, bar) (n, hv, sw, a, v_thrown_c1497, sh, cv, of, many, colour, org, state, layers, heat, burnt, things, history, bars, set, seen, pile, isIn, order, whr, tried)) ∧ ((oC_floor (n, own, pd, hv, sw, bar) (xs (4 * k + 1)) (xs (4 * k + 2)) (xs (4 * k + 3))) = 0 → (oV_floor (n, own, pd, hv, sw, bar) (xs (4 * k + 1)) (xs (4 * k + 2)) (xs (4 * k + 3))) r_1497 ∧ RMt (n, own, pd, hv, sw, bar) (n, hv, sw, a, v_thrown_c1497, sh, cv, of, many, colour, org, state, layers, heat, burnt, things, history, bars, set, seen, pile, isIn, order, whr, tried))) := m_floorAnew hO hIP ho r0 (fun ee => ⟨by rw [show (oC_floor (n, own, pd, hv, sw, bar) (xs (4 * k + 1)) (xs (4 * k + 2)) (xs (4 * k + 3))) = 1 from by unfold oC_floor; rw [ee]; rfl]; rfl, fun _ => ⟨rfl, rfl, rfl, ho, hmn, r0, r1, r2, r3, r4, r5, r10, r15, hfb⟩, fun z => absurd ((show (oC_floor (n, own, pd, hv, sw, bar) (xs (4 * k + 1)) (xs (4 * k + 2)) (xs (4 * k + 3))) = 1 from by unfold oC_floor; rw [ee]; rfl).symm.trans z) (by decide)⟩) (fun ee  => by exact ⟨by rw [show (oC_floor (n, own, pd, hv, sw, bar) (xs (4 * k + 1)) (xs (4 * k + 2)) (xs (4 * k + 3))) = 0 from by unfold oC_floor; rw [ee]; rfl]; rfl, fun z => absurd (show (oC_floor (n, own, pd, hv, sw, bar) (xs (4 * k + 1)) (xs (4 * k + 2)) (xs (4 * k + 3))) = 0 from by unfold oC_floor; rw [ee]; rfl) z, fun _ => ⟨rfl, ⟨rfl, rfl, rfl, ho, hmn, r0, r1, r2, r3, r4, r5, r10, r15, hfb⟩⟩⟩)
  have hCut := Cut.right hP hD hS hA (cut0 (S := Int32) (X := (WM cI cZ g a t (nI n) (nI hv) (nI sw) sh cv of many colour org state layers heat burnt things history bars set seen pile isIn order whr tried)) (cx := (W_X5_floorAnew g a cI cJ cZ t (nI n) of colour (nI hv) (nI sw) sh cv)) (pl := []) (w1 := fun (u : Int32) => (W_X5_floorAnew g a cI cJ cZ u (nI n) of colour (nI hv) (nI sw) sh cv)) (X' := fun (u : Int32) => (WM cI cZ g a u (nI n) (nI hv) (nI sw) sh cv of many colour org state layers heat burnt things history bars set seen pile isIn order whr tried)) (va_P_app.mp hP).2 (hD.inner (n := H.size)).2 va_S.rf (fun q h9 => Or.inr h9) [0, 1, 3] [2, 4, 5, 6, 7, 8, 9, 10, 11, 12, 13, 14, 15, 16, 17, 18] [16, 17, 0, 18, 1, 2, 3, 4, 5, 6, 7, 8, 9, 10, 11, 12, 13, 14, 15] rfl rfl (by decide) (by decide) (by decide) (fun u => rfl) (by decide))
  refine ca_i (wa := fun (u : Int32) => WCt cI cJ cO h o u1 ++ (WM cI cZ g a u (nI n) (nI hv) (nI sw) sh cv of many colour org state layers heat burnt things history bars set seen pile isIn order whr tried)) hCut hS (va_runV (As := [.int (xs (4 * k + 1)), .int (xs (4 * k + 2)), .int (xs (4 * k + 3))]) (rest := []) ⟨hx, hb, hml, hown, hts⟩ (c_X5_floorAnew l D cI cJ cZ cO g a H.size t (nI n) of colour (nI hv) (nI sw) sh cv (xs (4 * k + 1)) (xs (4 * k + 2)) (xs (4 * k + 3)) _ hw) (cwV 3 hts gL_law_X5_floorAnew rfl rfl rfl (by decide +kernel) ⟨Nat.le_of_ble_eq_true rfl, Nat.le_of_ble_eq_true rfl⟩) (hCut.preV (qb := 0) (ci := 6) hK hE rfl rfl) rfl rfl hl.1 rfl (lv_room (Nat.le_of_ble_eq_true rfl)) dL_law_1497 ⟨by show _ ≤ 601024; simp only [Nat.add_zero]; omega, by show _ ≤ 7293034; simp only [Nat.add_zero]; omega⟩) (fun r_1497 v_thrown_c1497 H locs hw hP hD hS => ?_)
  try dsimp only at hw
  obtain ⟨ht3, hwn, hwy⟩ := hw
  refine lv_istore (lv' := [(6, .int r_1497), (5, .int r), (0, .ref b), (1, .ref h), (2, .ref g), (3, .ref o), (4, .int (nI (4 * k)))]) hx hb dL_law_1500 hl (by decide) rfl (fun ls hl => ?_)
  refine lv_aload_n hx hb dL_law_1502 rfl (lv_at hl 4 rfl) ?_
  have hw : wp_X5_thrown v_thrown_c1497 (fun r => r = v_thrown_c1497) := by unfold wp_X5_thrown; rfl
  have hCut := Cut.right hP hD hS hA (cut0 (S := Unit) (X := (WM cI cZ g a v_thrown_c1497 (nI n) (nI hv) (nI sw) sh cv of many colour org state layers heat burnt things history bars set seen pile isIn order whr tried)) (cx := (W_X5_thrown g a cI cJ cZ v_thrown_c1497 (nI n) (nI hv) (nI sw) sh cv)) (pl := []) (w1 := fun (u : Unit) => (W_X5_thrown g a cI cJ cZ v_thrown_c1497 (nI n) (nI hv) (nI sw) sh cv)) (X' := fun (u : Unit) => (WM cI cZ g a v_thrown_c1497 (nI n) (nI hv) (nI sw) sh cv of many colour org state layers heat burnt things history bars set seen pile isIn order whr tried)) (va_P_app.mp hP).2 (hD.inner (n := H.size)).2 va_S.rf (fun q h9 => Or.inr h9) [0] [1, 2, 3, 4, 5, 6, 7, 8, 9, 10, 11, 12, 13, 14, 15, 16, 17, 18] [18, 0, 1, 2, 3, 4, 5, 6, 7, 8, 9, 10, 11, 12, 13, 14, 15, 16, 17] rfl rfl (by decide) (by decide) (by decide) (fun u => rfl) (by decide))
  refine ca_i (wa := fun (u : Unit) => WCt cI cJ cO h o u1 ++ (WM cI cZ g a v_thrown_c1497 (nI n) (nI hv) (nI sw) sh cv of many colour org state layers heat burnt things history bars set seen pile isIn order whr tried)) hCut hS (va_runV (As := []) (rest := []) ⟨hx, hb, hml, hown, hts⟩ (c_X5_thrown l D cI cJ cZ cO g a H.size v_thrown_c1497 (nI n) (nI hv) (nI sw) sh cv _ hw) (cwV 0 hts gL_law_X5_thrown rfl rfl rfl (by decide +kernel) ⟨Nat.le_of_ble_eq_true rfl, Nat.le_of_ble_eq_true rfl⟩) (hCut.preV (qb := 0) (ci := 6) hK hE rfl rfl) rfl rfl hl.1 rfl (lv_room (Nat.le_of_ble_eq_true rfl)) dL_law_1503 ⟨by show _ ≤ 601024; simp only [Nat.add_zero]; omega, by show _ ≤ 7293034; simp only [Nat.add_zero]; omega⟩) (fun r_1503 _ H locs hw hP hD hS => ?_)
  try dsimp only at hw
  have hrr : r_1503 = r := by rw [hw, ht3, hr1]
  refine lv_iload hx hb dL_law_1506 (lv_at hl 1 rfl) ?_
  refine lv_icmp_eq (tgt := 1513) hx hb dL_law_1508 (by decide) (fun _ => ?_) (fun z9 => absurd hrr z9)
  refine lv_iload hx hb dL_law_1513 (lv_at hl 1 rfl) ?_
  refine lv_if_ne (tgt := 1530) hx hb dL_law_1515 (by decide) (fun z9 => ?_) (fun z9 => ?_)
  · have hz : ¬ (oC_floor (n, own, pd, hv, sw, bar) (xs (4 * k + 1)) (xs (4 * k + 2)) (xs (4 * k + 3))) = 0 := fun q9 => z9 (by rw [hr1, q9]; rfl)
    have hwn := hwn hz
    refine lv_goto (tgt := 1738) hx hb dL_law_1530 (by decide) ?_
    refine W.widen (k := cells + 6) (n := slots + 134) (by omega) (by omega) ?_
    exact K (n, own, pd, hv, sw, bar) u1 (n, hv, sw, a, v_thrown_c1497, sh, cv, of, many, colour, org, state, layers, heat, burnt, things, history, bars, set, seen, pile, isIn, order, whr, tried) _ _ _ (hw2 hz) hwn hP hD hS (lv_sub hl [2, 3, 4, 5, 6] rfl)
  · have hz : (oC_floor (n, own, pd, hv, sw, bar) (xs (4 * k + 1)) (xs (4 * k + 2)) (xs (4 * k + 3))) = 0 := by
      have b9 : (oC_floor (n, own, pd, hv, sw, bar) (xs (4 * k + 1)) (xs (4 * k + 2)) (xs (4 * k + 3))) < 2147483648 := by unfold oC_floor; split <;> omega
      exact (nI_eq b9 (by omega)).mp (hr1.symm.trans z9)
    obtain ⟨hR1, y9, hy9, ho9⟩ := hw3 hz
    obtain ⟨hv9, hwz⟩ := hwy hz
    have hyr : y9 = r_1497 := hy9.trans hv9.symm
    subst hyr
    refine lv_aload_n hx hb dL_law_1518 rfl (lv_at hl 5 rfl) ?_
    refine lv_iconst (v := 0) hx hb dL_law_1519 (by decide) ?_
    have hout : ∃ fo : Nat → Int64, fo 0 = u1.out ∧ (WCt cI cJ cO h o u1 ++ (WM cI cZ g a v_thrown_c1497 (nI n) (nI hv) (nI sw) sh cv of many colour org state layers heat burnt things history bars set seen pile isIn order whr tried))[0]? = some (o, .inl (cJ, 1, .inr (.inl fo))) := by obtain ⟨n, hv, sw, m_cap, a, aC, aM, aW, aN, aF, aL, ad, af, br, md, el, ow, su, wr, wc, nr, nc, fr, fc, lq, lh, lw, lsp, x1, x2, x3, x4, x5, qc, qs, ql, qt, qo, qh, qf, qth, v⟩ := u1; exact ⟨v, rfl, rfl⟩
    obtain ⟨fo, hfo, hc0⟩ := hout
    refine va_lald hx hb hK hP 0 1 hc0 rfl (vp_lit rfl) dL_law_1520 ?_
    have hf0 : fo (0 : Int32).toNatClampNeg = y9.toInt64 := hfo.trans ho9
    rw [hf0]
    refine lv_iload hx hb dL_law_1521 (lv_at hl 0 rfl) ?_
    refine lv_i2l (v := y9.toInt64) hx hb dL_law_1523 rfl ?_
    refine W.lcmp hx hb dL_law_1524 ?_
    rw [lg_same]
    refine lv_if_eq (tgt := 1530) hx hb dL_law_1525 (by decide) (fun _ => ?_) (fun q9 => absurd rfl q9)
    refine lv_goto (tgt := 1738) hx hb dL_law_1530 (by decide) ?_
    refine W.widen (k := cells + 6) (n := slots + 134) (by omega) (by omega) ?_
    exact K (n, own, pd, hv, sw, bar) u1 (n, hv, sw, a, v_thrown_c1497, sh, cv, of, many, colour, org, state, layers, heat, burnt, things, history, bars, set, seen, pile, isIn, order, whr, tried) _ _ _ hR1 hwz hP hD hS (lv_sub hl [2, 3, 4, 5, 6] rfl)
set_option maxHeartbeats 4000000 in
set_option maxRecDepth 100000 in
theorem k_L_crosses (C : LC p l s m meth c b L xs D cI cJ cZ cO tD mi) {s0 : SG} {u : KT} {w : KM} {H : Heap} {locs : List Loc} {ls : Array Slot} (hk : 4 * k + 4 ≤ L) (hL : L ≤ 2048) (hR : RCt s0 u) (hM : RMt s0 w) (hP : va_P D vwCl (WCt cI cJ cO h o u ++ WMt cI cZ g w) H) (hD : va_D (AL s) (WCt cI cJ cO h o u ++ WMt cI cZ g w)) (hS : va_S (AL s) s.heap H locs) (hl : lv_has ls 7 [(0, .ref b), (1, .ref h), (2, .ref g), (3, .ref o), (4, .int (nI (4 * k)))]) (hcc : cells + 6 ≤ 601024) (hss : slots + 134 ≤ 7293034) (K : NXT p l e s m below meth c b D cI cJ cZ cO h g o k cells slots Q) : W p l e room_1 s m #[Value.ref b] below meth c H locs cells slots Q (F0 m 1533 ls []) := by
  obtain ⟨hx, hb, hr, hml, hown, hts, hX, hbl, hlocks, hst, hK, hE, hT, hLS, hN⟩ := C
  have hA : ∀ q, s.heap.size ≤ q → AL s q := fun _ h9 => h9
  refine lv_aload_n hx hb dL_law_1533 rfl (lv_at hl 1 rfl) ?_
  refine sld (k := k) (j := 1) (v := 1) hx hb hX hbl hS hl (lv_at hl 0 rfl) (lv_at hl 4 rfl) (nI_add _ _) (by decide) (by omega) hL dL_law_1534 dL_law_1535 dL_law_1537 dL_law_1538 dL_law_1539 ?_
  refine lv_aload_n hx hb dL_law_1540 rfl (lv_at hl 3 rfl) ?_
  have hCut := Cut.left hP hD hS hA (cut_all (w1 := fun (u : KT) => WCt cI cJ cO h o u) (va_P_app.mp hP).1 (hD.inner (n := H.size)).1 va_S.rf (fun q h9 => Or.inr h9))
  refine ca_i (wa := fun (u1 : KT) => WCt cI cJ cO h o u1 ++ WMt cI cZ g w) hCut hS (vx_runSW (As := [.ref h, .int (xs (4 * k + 1)), .ref o]) (rest := []) ⟨hx, hb, hml, hown, hts⟩ (c_L_crosses l D hst cI cJ cZ cO tD mi h o s0 u _ (xs (4 * k + 1)) hR) (vx_cwSW 3 hts gL_law_L_crosses rfl rfl rfl (by decide +kernel) ⟨Nat.le_of_ble_eq_true rfl, Nat.le_of_ble_eq_true rfl⟩) (hCut.preSW hK hE hT hLS hN hS) rfl rfl hl.1 rfl (lv_room (Nat.le_of_ble_eq_true rfl)) dL_law_1541 ⟨by show cells + 1 ≤ 601024; omega, by show slots + 6 ≤ 7293034; omega⟩) (fun r u1 H locs hw1 hP hD hS => ?_)
  obtain ⟨hr1, hw2, hw3⟩ := hw1
  refine lv_istore (lv' := [(5, .int r), (0, .ref b), (1, .ref h), (2, .ref g), (3, .ref o), (4, .int (nI (4 * k)))]) hx hb dL_law_1544 hl (by decide) rfl (fun ls hl => ?_)
  have hI := KT.is hR
  obtain ⟨N, own, pd, HW, SW, bar⟩ := s0
  obtain ⟨hO, hIP, hsw, hb5⟩ := hI
  obtain ⟨n, hv, sw, a, t, sh, cv, of, many, colour, org, state, layers, heat, burnt, things, history, bars, set, seen, pile, isIn, order, whr, tried⟩ := w
  obtain ⟨e1, e2, e3, ho, hmn, r0, r1, r2, r3, r4, r5, r10, r15, hfb⟩ := hM
  dsimp only at e1 e2 e3 ho hmn r0 r1 r2 r3 r4 r5 r10 r15 hfb hO hIP hsw hb5
  subst e1 e2 e3
  refine lv_aload_n hx hb dL_law_1546 rfl (lv_at hl 3 rfl) ?_
  refine sld (k := k) (j := 1) (v := 1) hx hb hX hbl hS hl (lv_at hl 1 rfl) (lv_at hl 5 rfl) (nI_add _ _) (by decide) (by omega) hL dL_law_1547 dL_law_1548 dL_law_1550 dL_law_1551 dL_law_1552 ?_
  have hw : wp_X5_crosses t (nI n) of isIn (xs (4 * k + 1)) (fun r_1553 v_thrown_c1553 v_isIn_c1553 => v_thrown_c1553 = nI (oC_crosses (n, own, pd, hv, sw, bar) (xs (4 * k + 1))) ∧ (¬ (oC_crosses (n, own, pd, hv, sw, bar) (xs (4 * k + 1))) = 0 → RMt (n, own, pd, hv, sw, bar) (n, hv, sw, a, v_thrown_c1553, sh, cv, of, many, colour, org, state, layers, heat, burnt, things, history, bars, set, seen, pile, v_isIn_c1553, order, whr, tried)) ∧ ((oC_crosses (n, own, pd, hv, sw, bar) (xs (4 * k + 1))) = 0 → (oV_crosses (n, own, pd, hv, sw, bar) (xs (4 * k + 1))) r_1553 ∧ RMt (n, own, pd, hv, sw, bar) (n, hv, sw, a, v_thrown_c1553, sh, cv, of, many, colour, org, state, layers, heat, burnt, things, history, bars, set, seen, pile, v_isIn_c1553, order, whr, tried))) := m_crosses hO ho (fun ee => ⟨by rw [show (oC_crosses (n, own, pd, hv, sw, bar) (xs (4 * k + 1))) = 1 from by unfold oC_crosses; rw [ee]; rfl]; rfl, fun _ => ⟨rfl, rfl, rfl, ho, hmn, r0, r1, r2, r3, r4, r5, r10, r15, hfb⟩, fun z => absurd ((show (oC_crosses (n, own, pd, hv, sw, bar) (xs (4 * k + 1))) = 1 from by unfold oC_crosses; rw [ee]; rfl).symm.trans z) (by decide)⟩) (fun ee s1 => by exact ⟨by rw [show (oC_crosses (n, own, pd, hv, sw, bar) (xs (4 * k + 1))) = 0 from by unfold oC_crosses; rw [ee]; rfl]; rfl, fun z => absurd (show (oC_crosses (n, own, pd, hv, sw, bar) (xs (4 * k + 1))) = 0 from by unfold oC_crosses; rw [ee]; rfl) z, fun _ => ⟨rfl, ⟨rfl, rfl, rfl, ho, hmn, r0, r1, r2, r3, r4, r5, r10, r15, hfb⟩⟩⟩)
  have hCut := Cut.right hP hD hS hA (cut0 (S := Int32 × (Nat → Int32)) (X := (WM cI cZ g a t (nI n) (nI hv) (nI sw) sh cv of many colour org state layers heat burnt things history bars set seen pile isIn order whr tried)) (cx := (W_X5_crosses g a cI cJ cZ t (nI n) of (nI hv) (nI sw) isIn sh cv)) (pl := []) (w1 := fun (u : Int32 × (Nat → Int32)) => (W_X5_crosses g a cI cJ cZ u.1 (nI n) of (nI hv) (nI sw) u.2 sh cv)) (X' := fun (u : Int32 × (Nat → Int32)) => (WM cI cZ g a u.1 (nI n) (nI hv) (nI sw) sh cv of many colour org state layers heat burnt things history bars set seen pile u.2 order whr tried)) (va_P_app.mp hP).2 (hD.inner (n := H.size)).2 va_S.rf (fun q h9 => Or.inr h9) [0, 1, 15] [2, 3, 4, 5, 6, 7, 8, 9, 10, 11, 12, 13, 14, 16, 17, 18] [16, 17, 0, 1, 2, 3, 4, 5, 6, 7, 8, 9, 10, 11, 12, 18, 13, 14, 15] rfl rfl (by decide) (by decide) (by decide) (fun u => rfl) (by decide))
  refine ca_i (wa := fun (u : Int32 × (Nat → Int32)) => WCt cI cJ cO h o u1 ++ (WM cI cZ g a u.1 (nI n) (nI hv) (nI sw) sh cv of many colour org state layers heat burnt things history bars set seen pile u.2 order whr tried)) hCut hS (va_runV (As := [.int (xs (4 * k + 1))]) (rest := []) ⟨hx, hb, hml, hown, hts⟩ (c_X5_crosses l D cI cJ cZ cO g a H.size t (nI n) of (nI hv) (nI sw) isIn sh cv (xs (4 * k + 1)) _ hw) (cwV 1 hts gL_law_X5_crosses rfl rfl rfl (by decide +kernel) ⟨Nat.le_of_ble_eq_true rfl, Nat.le_of_ble_eq_true rfl⟩) (hCut.preV (qb := 0) (ci := 6) hK hE rfl rfl) rfl rfl hl.1 rfl (lv_room (Nat.le_of_ble_eq_true rfl)) dL_law_1553 ⟨by show _ ≤ 601024; simp only [Nat.add_zero]; omega, by show _ ≤ 7293034; simp only [Nat.add_zero]; omega⟩) (fun r_1553 u H locs hw hP hD hS => ?_)
  obtain ⟨v_thrown_c1553, v_isIn_c1553⟩ := u
  try dsimp only at hw
  obtain ⟨ht3, hwn, hwy⟩ := hw
  refine lv_istore (lv' := [(6, .int r_1553), (5, .int r), (0, .ref b), (1, .ref h), (2, .ref g), (3, .ref o), (4, .int (nI (4 * k)))]) hx hb dL_law_1556 hl (by decide) rfl (fun ls hl => ?_)
  refine lv_aload_n hx hb dL_law_1558 rfl (lv_at hl 4 rfl) ?_
  have hw : wp_X5_thrown v_thrown_c1553 (fun r => r = v_thrown_c1553) := by unfold wp_X5_thrown; rfl
  have hCut := Cut.right hP hD hS hA (cut0 (S := Unit) (X := (WM cI cZ g a v_thrown_c1553 (nI n) (nI hv) (nI sw) sh cv of many colour org state layers heat burnt things history bars set seen pile v_isIn_c1553 order whr tried)) (cx := (W_X5_thrown g a cI cJ cZ v_thrown_c1553 (nI n) (nI hv) (nI sw) sh cv)) (pl := []) (w1 := fun (u : Unit) => (W_X5_thrown g a cI cJ cZ v_thrown_c1553 (nI n) (nI hv) (nI sw) sh cv)) (X' := fun (u : Unit) => (WM cI cZ g a v_thrown_c1553 (nI n) (nI hv) (nI sw) sh cv of many colour org state layers heat burnt things history bars set seen pile v_isIn_c1553 order whr tried)) (va_P_app.mp hP).2 (hD.inner (n := H.size)).2 va_S.rf (fun q h9 => Or.inr h9) [0] [1, 2, 3, 4, 5, 6, 7, 8, 9, 10, 11, 12, 13, 14, 15, 16, 17, 18] [18, 0, 1, 2, 3, 4, 5, 6, 7, 8, 9, 10, 11, 12, 13, 14, 15, 16, 17] rfl rfl (by decide) (by decide) (by decide) (fun u => rfl) (by decide))
  refine ca_i (wa := fun (u : Unit) => WCt cI cJ cO h o u1 ++ (WM cI cZ g a v_thrown_c1553 (nI n) (nI hv) (nI sw) sh cv of many colour org state layers heat burnt things history bars set seen pile v_isIn_c1553 order whr tried)) hCut hS (va_runV (As := []) (rest := []) ⟨hx, hb, hml, hown, hts⟩ (c_X5_thrown l D cI cJ cZ cO g a H.size v_thrown_c1553 (nI n) (nI hv) (nI sw) sh cv _ hw) (cwV 0 hts gL_law_X5_thrown rfl rfl rfl (by decide +kernel) ⟨Nat.le_of_ble_eq_true rfl, Nat.le_of_ble_eq_true rfl⟩) (hCut.preV (qb := 0) (ci := 6) hK hE rfl rfl) rfl rfl hl.1 rfl (lv_room (Nat.le_of_ble_eq_true rfl)) dL_law_1559 ⟨by show _ ≤ 601024; simp only [Nat.add_zero]; omega, by show _ ≤ 7293034; simp only [Nat.add_zero]; omega⟩) (fun r_1559 _ H locs hw hP hD hS => ?_)
  try dsimp only at hw
  have hrr : r_1559 = r := by rw [hw, ht3, hr1]
  refine lv_iload hx hb dL_law_1562 (lv_at hl 1 rfl) ?_
  refine lv_icmp_eq (tgt := 1569) hx hb dL_law_1564 (by decide) (fun _ => ?_) (fun z9 => absurd hrr z9)
  refine lv_iload hx hb dL_law_1569 (lv_at hl 1 rfl) ?_
  refine lv_if_ne (tgt := 1586) hx hb dL_law_1571 (by decide) (fun z9 => ?_) (fun z9 => ?_)
  · have hz : ¬ (oC_crosses (n, own, pd, hv, sw, bar) (xs (4 * k + 1))) = 0 := fun q9 => z9 (by rw [hr1, q9]; rfl)
    have hwn := hwn hz
    refine lv_goto (tgt := 1738) hx hb dL_law_1586 (by decide) ?_
    refine W.widen (k := cells + 6) (n := slots + 134) (by omega) (by omega) ?_
    exact K (n, own, pd, hv, sw, bar) u1 (n, hv, sw, a, v_thrown_c1553, sh, cv, of, many, colour, org, state, layers, heat, burnt, things, history, bars, set, seen, pile, v_isIn_c1553, order, whr, tried) _ _ _ (hw2 hz) hwn hP hD hS (lv_sub hl [2, 3, 4, 5, 6] rfl)
  · have hz : (oC_crosses (n, own, pd, hv, sw, bar) (xs (4 * k + 1))) = 0 := by
      have b9 : (oC_crosses (n, own, pd, hv, sw, bar) (xs (4 * k + 1))) < 2147483648 := by unfold oC_crosses; split <;> omega
      exact (nI_eq b9 (by omega)).mp (hr1.symm.trans z9)
    obtain ⟨hR1, y9, hy9, ho9⟩ := hw3 hz
    obtain ⟨hv9, hwz⟩ := hwy hz
    have hyr : y9 = r_1553 := hy9.trans hv9.symm
    subst hyr
    refine lv_aload_n hx hb dL_law_1574 rfl (lv_at hl 5 rfl) ?_
    refine lv_iconst (v := 0) hx hb dL_law_1575 (by decide) ?_
    have hout : ∃ fo : Nat → Int64, fo 0 = u1.out ∧ (WCt cI cJ cO h o u1 ++ (WM cI cZ g a v_thrown_c1553 (nI n) (nI hv) (nI sw) sh cv of many colour org state layers heat burnt things history bars set seen pile v_isIn_c1553 order whr tried))[0]? = some (o, .inl (cJ, 1, .inr (.inl fo))) := by obtain ⟨n, hv, sw, m_cap, a, aC, aM, aW, aN, aF, aL, ad, af, br, md, el, ow, su, wr, wc, nr, nc, fr, fc, lq, lh, lw, lsp, x1, x2, x3, x4, x5, qc, qs, ql, qt, qo, qh, qf, qth, v⟩ := u1; exact ⟨v, rfl, rfl⟩
    obtain ⟨fo, hfo, hc0⟩ := hout
    refine va_lald hx hb hK hP 0 1 hc0 rfl (vp_lit rfl) dL_law_1576 ?_
    have hf0 : fo (0 : Int32).toNatClampNeg = y9.toInt64 := hfo.trans ho9
    rw [hf0]
    refine lv_iload hx hb dL_law_1577 (lv_at hl 0 rfl) ?_
    refine lv_i2l (v := y9.toInt64) hx hb dL_law_1579 rfl ?_
    refine W.lcmp hx hb dL_law_1580 ?_
    rw [lg_same]
    refine lv_if_eq (tgt := 1586) hx hb dL_law_1581 (by decide) (fun _ => ?_) (fun q9 => absurd rfl q9)
    refine lv_goto (tgt := 1738) hx hb dL_law_1586 (by decide) ?_
    refine W.widen (k := cells + 6) (n := slots + 134) (by omega) (by omega) ?_
    exact K (n, own, pd, hv, sw, bar) u1 (n, hv, sw, a, v_thrown_c1553, sh, cv, of, many, colour, org, state, layers, heat, burnt, things, history, bars, set, seen, pile, v_isIn_c1553, order, whr, tried) _ _ _ hR1 hwz hP hD hS (lv_sub hl [2, 3, 4, 5, 6] rfl)
set_option maxHeartbeats 4000000 in
set_option maxRecDepth 100000 in
theorem k_L_bends (C : LC p l s m meth c b L xs D cI cJ cZ cO tD mi) {s0 : SG} {u : KT} {w : KM} {H : Heap} {locs : List Loc} {ls : Array Slot} (hk : 4 * k + 4 ≤ L) (hL : L ≤ 2048) (hR : RCt s0 u) (hM : RMt s0 w) (hP : va_P D vwCl (WCt cI cJ cO h o u ++ WMt cI cZ g w) H) (hD : va_D (AL s) (WCt cI cJ cO h o u ++ WMt cI cZ g w)) (hS : va_S (AL s) s.heap H locs) (hl : lv_has ls 7 [(0, .ref b), (1, .ref h), (2, .ref g), (3, .ref o), (4, .int (nI (4 * k)))]) (hcc : cells + 6 ≤ 601024) (hss : slots + 134 ≤ 7293034) (K : NXT p l e s m below meth c b D cI cJ cZ cO h g o k cells slots Q) : W p l e room_1 s m #[Value.ref b] below meth c H locs cells slots Q (F0 m 1589 ls []) := by
  obtain ⟨hx, hb, hr, hml, hown, hts, hX, hbl, hlocks, hst, hK, hE, hT, hLS, hN⟩ := C
  have hA : ∀ q, s.heap.size ≤ q → AL s q := fun _ h9 => h9
  refine lv_aload_n hx hb dL_law_1589 rfl (lv_at hl 1 rfl) ?_
  refine sld (k := k) (j := 1) (v := 1) hx hb hX hbl hS hl (lv_at hl 0 rfl) (lv_at hl 4 rfl) (nI_add _ _) (by decide) (by omega) hL dL_law_1590 dL_law_1591 dL_law_1593 dL_law_1594 dL_law_1595 ?_
  refine sld (k := k) (j := 2) (v := 2) hx hb hX hbl hS hl (lv_at hl 0 rfl) (lv_at hl 4 rfl) (nI_add _ _) (by decide) (by omega) hL dL_law_1596 dL_law_1597 dL_law_1599 dL_law_1600 dL_law_1601 ?_
  refine lv_aload_n hx hb dL_law_1602 rfl (lv_at hl 3 rfl) ?_
  have hCut := Cut.left hP hD hS hA (cut_all (w1 := fun (u : KT) => WCt cI cJ cO h o u) (va_P_app.mp hP).1 (hD.inner (n := H.size)).1 va_S.rf (fun q h9 => Or.inr h9))
  refine ca_i (wa := fun (u1 : KT) => WCt cI cJ cO h o u1 ++ WMt cI cZ g w) hCut hS (vx_runSW (As := [.ref h, .int (xs (4 * k + 1)), .int (xs (4 * k + 2)), .ref o]) (rest := []) ⟨hx, hb, hml, hown, hts⟩ (c_L_bends l D hst cI cJ cZ cO tD mi h o s0 u _ (xs (4 * k + 1)) (xs (4 * k + 2)) hR) (vx_cwSW 4 hts gL_law_L_bends rfl rfl rfl (by decide +kernel) ⟨Nat.le_of_ble_eq_true rfl, Nat.le_of_ble_eq_true rfl⟩) (hCut.preSW hK hE hT hLS hN hS) rfl rfl hl.1 rfl (lv_room (Nat.le_of_ble_eq_true rfl)) dL_law_1603 ⟨by show cells + 1 ≤ 601024; omega, by show slots + 6 ≤ 7293034; omega⟩) (fun r u1 H locs hw1 hP hD hS => ?_)
  obtain ⟨hr1, hw2, hw3⟩ := hw1
  refine lv_istore (lv' := [(5, .int r), (0, .ref b), (1, .ref h), (2, .ref g), (3, .ref o), (4, .int (nI (4 * k)))]) hx hb dL_law_1606 hl (by decide) rfl (fun ls hl => ?_)
  have hI := KT.is hR
  obtain ⟨N, own, pd, HW, SW, bar⟩ := s0
  obtain ⟨hO, hIP, hsw, hb5⟩ := hI
  obtain ⟨n, hv, sw, a, t, sh, cv, of, many, colour, org, state, layers, heat, burnt, things, history, bars, set, seen, pile, isIn, order, whr, tried⟩ := w
  obtain ⟨e1, e2, e3, ho, hmn, r0, r1, r2, r3, r4, r5, r10, r15, hfb⟩ := hM
  dsimp only at e1 e2 e3 ho hmn r0 r1 r2 r3 r4 r5 r10 r15 hfb hO hIP hsw hb5
  subst e1 e2 e3
  refine lv_aload_n hx hb dL_law_1608 rfl (lv_at hl 3 rfl) ?_
  refine sld (k := k) (j := 1) (v := 1) hx hb hX hbl hS hl (lv_at hl 1 rfl) (lv_at hl 5 rfl) (nI_add _ _) (by decide) (by omega) hL dL_law_1609 dL_law_1610 dL_law_1612 dL_law_1613 dL_law_1614 ?_
  refine sld (k := k) (j := 2) (v := 2) hx hb hX hbl hS hl (lv_at hl 1 rfl) (lv_at hl 5 rfl) (nI_add _ _) (by decide) (by omega) hL dL_law_1615 dL_law_1616 dL_law_1618 dL_law_1619 dL_law_1620 ?_
  have hw : wp_X5_bends t bars (xs (4 * k + 1)) (xs (4 * k + 2)) (fun r_1621 v_thrown_c1621 => v_thrown_c1621 = nI (oC_bends (n, own, pd, hv, sw, bar) (xs (4 * k + 1)) (xs (4 * k + 2))) ∧ (¬ (oC_bends (n, own, pd, hv, sw, bar) (xs (4 * k + 1)) (xs (4 * k + 2))) = 0 → RMt (n, own, pd, hv, sw, bar) (n, hv, sw, a, v_thrown_c1621, sh, cv, of, many, colour, org, state, layers, heat, burnt, things, history, bars, set, seen, pile, isIn, order, whr, tried)) ∧ ((oC_bends (n, own, pd, hv, sw, bar) (xs (4 * k + 1)) (xs (4 * k + 2))) = 0 → (oV_bends (n, own, pd, hv, sw, bar) (xs (4 * k + 1)) (xs (4 * k + 2))) r_1621 ∧ RMt (n, own, pd, hv, sw, bar) (n, hv, sw, a, v_thrown_c1621, sh, cv, of, many, colour, org, state, layers, heat, burnt, things, history, bars, set, seen, pile, isIn, order, whr, tried))) := m_bends hfb (fun gg => ⟨rfl, fun _ => ⟨rfl, rfl, rfl, ho, hmn, r0, r1, r2, r3, r4, r5, r10, r15, hfb⟩, fun z => absurd z gg⟩) (fun gg e1 e2 => by exact ⟨by rw [show (oC_bends (n, own, pd, hv, sw, bar) (xs (4 * k + 1)) (xs (4 * k + 2))) = 0 from gg]; rfl, fun z => absurd (show (oC_bends (n, own, pd, hv, sw, bar) (xs (4 * k + 1)) (xs (4 * k + 2))) = 0 from gg) z, fun _ => ⟨rfl, ⟨rfl, rfl, rfl, ho, hmn, r0, r1, r2, r3, r4, r5, r10, r15, hfb⟩⟩⟩)
  have hCut := Cut.right hP hD hS hA (cut0 (S := Int32) (X := (WM cI cZ g a t (nI n) (nI hv) (nI sw) sh cv of many colour org state layers heat burnt things history bars set seen pile isIn order whr tried)) (cx := (W_X5_bends g a cI cJ cZ t (nI n) (nI hv) (nI sw) bars sh cv)) (pl := []) (w1 := fun (u : Int32) => (W_X5_bends g a cI cJ cZ u (nI n) (nI hv) (nI sw) bars sh cv)) (X' := fun (u : Int32) => (WM cI cZ g a u (nI n) (nI hv) (nI sw) sh cv of many colour org state layers heat burnt things history bars set seen pile isIn order whr tried)) (va_P_app.mp hP).2 (hD.inner (n := H.size)).2 va_S.rf (fun q h9 => Or.inr h9) [0, 11] [1, 2, 3, 4, 5, 6, 7, 8, 9, 10, 12, 13, 14, 15, 16, 17, 18] [17, 0, 1, 2, 3, 4, 5, 6, 7, 8, 9, 18, 10, 11, 12, 13, 14, 15, 16] rfl rfl (by decide) (by decide) (by decide) (fun u => rfl) (by decide))
  refine ca_i (wa := fun (u : Int32) => WCt cI cJ cO h o u1 ++ (WM cI cZ g a u (nI n) (nI hv) (nI sw) sh cv of many colour org state layers heat burnt things history bars set seen pile isIn order whr tried)) hCut hS (va_runV (As := [.int (xs (4 * k + 1)), .int (xs (4 * k + 2))]) (rest := []) ⟨hx, hb, hml, hown, hts⟩ (c_X5_bends l D cI cJ cZ cO g a H.size t (nI n) (nI hv) (nI sw) bars sh cv (xs (4 * k + 1)) (xs (4 * k + 2)) _ hw) (cwV 2 hts gL_law_X5_bends rfl rfl rfl (by decide +kernel) ⟨Nat.le_of_ble_eq_true rfl, Nat.le_of_ble_eq_true rfl⟩) (hCut.preV (qb := 0) (ci := 6) hK hE rfl rfl) rfl rfl hl.1 rfl (lv_room (Nat.le_of_ble_eq_true rfl)) dL_law_1621 ⟨by show _ ≤ 601024; simp only [Nat.add_zero]; omega, by show _ ≤ 7293034; simp only [Nat.add_zero]; omega⟩) (fun r_1621 v_thrown_c1621 H locs hw hP hD hS => ?_)
  try dsimp only at hw
  obtain ⟨ht3, hwn, hwy⟩ := hw
  refine lv_istore (lv' := [(6, .int r_1621), (5, .int r), (0, .ref b), (1, .ref h), (2, .ref g), (3, .ref o), (4, .int (nI (4 * k)))]) hx hb dL_law_1624 hl (by decide) rfl (fun ls hl => ?_)
  refine lv_aload_n hx hb dL_law_1626 rfl (lv_at hl 4 rfl) ?_
  have hw : wp_X5_thrown v_thrown_c1621 (fun r => r = v_thrown_c1621) := by unfold wp_X5_thrown; rfl
  have hCut := Cut.right hP hD hS hA (cut0 (S := Unit) (X := (WM cI cZ g a v_thrown_c1621 (nI n) (nI hv) (nI sw) sh cv of many colour org state layers heat burnt things history bars set seen pile isIn order whr tried)) (cx := (W_X5_thrown g a cI cJ cZ v_thrown_c1621 (nI n) (nI hv) (nI sw) sh cv)) (pl := []) (w1 := fun (u : Unit) => (W_X5_thrown g a cI cJ cZ v_thrown_c1621 (nI n) (nI hv) (nI sw) sh cv)) (X' := fun (u : Unit) => (WM cI cZ g a v_thrown_c1621 (nI n) (nI hv) (nI sw) sh cv of many colour org state layers heat burnt things history bars set seen pile isIn order whr tried)) (va_P_app.mp hP).2 (hD.inner (n := H.size)).2 va_S.rf (fun q h9 => Or.inr h9) [0] [1, 2, 3, 4, 5, 6, 7, 8, 9, 10, 11, 12, 13, 14, 15, 16, 17, 18] [18, 0, 1, 2, 3, 4, 5, 6, 7, 8, 9, 10, 11, 12, 13, 14, 15, 16, 17] rfl rfl (by decide) (by decide) (by decide) (fun u => rfl) (by decide))
  refine ca_i (wa := fun (u : Unit) => WCt cI cJ cO h o u1 ++ (WM cI cZ g a v_thrown_c1621 (nI n) (nI hv) (nI sw) sh cv of many colour org state layers heat burnt things history bars set seen pile isIn order whr tried)) hCut hS (va_runV (As := []) (rest := []) ⟨hx, hb, hml, hown, hts⟩ (c_X5_thrown l D cI cJ cZ cO g a H.size v_thrown_c1621 (nI n) (nI hv) (nI sw) sh cv _ hw) (cwV 0 hts gL_law_X5_thrown rfl rfl rfl (by decide +kernel) ⟨Nat.le_of_ble_eq_true rfl, Nat.le_of_ble_eq_true rfl⟩) (hCut.preV (qb := 0) (ci := 6) hK hE rfl rfl) rfl rfl hl.1 rfl (lv_room (Nat.le_of_ble_eq_true rfl)) dL_law_1627 ⟨by show _ ≤ 601024; simp only [Nat.add_zero]; omega, by show _ ≤ 7293034; simp only [Nat.add_zero]; omega⟩) (fun r_1627 _ H locs hw hP hD hS => ?_)
  try dsimp only at hw
  have hrr : r_1627 = r := by rw [hw, ht3, hr1]
  refine lv_iload hx hb dL_law_1630 (lv_at hl 1 rfl) ?_
  refine lv_icmp_eq (tgt := 1637) hx hb dL_law_1632 (by decide) (fun _ => ?_) (fun z9 => absurd hrr z9)
  refine lv_iload hx hb dL_law_1637 (lv_at hl 1 rfl) ?_
  refine lv_if_ne (tgt := 1654) hx hb dL_law_1639 (by decide) (fun z9 => ?_) (fun z9 => ?_)
  · have hz : ¬ (oC_bends (n, own, pd, hv, sw, bar) (xs (4 * k + 1)) (xs (4 * k + 2))) = 0 := fun q9 => z9 (by rw [hr1, q9]; rfl)
    have hwn := hwn hz
    refine lv_goto (tgt := 1738) hx hb dL_law_1654 (by decide) ?_
    refine W.widen (k := cells + 6) (n := slots + 134) (by omega) (by omega) ?_
    exact K (n, own, pd, hv, sw, bar) u1 (n, hv, sw, a, v_thrown_c1621, sh, cv, of, many, colour, org, state, layers, heat, burnt, things, history, bars, set, seen, pile, isIn, order, whr, tried) _ _ _ (hw2 hz) hwn hP hD hS (lv_sub hl [2, 3, 4, 5, 6] rfl)
  · have hz : (oC_bends (n, own, pd, hv, sw, bar) (xs (4 * k + 1)) (xs (4 * k + 2))) = 0 := by
      have b9 : (oC_bends (n, own, pd, hv, sw, bar) (xs (4 * k + 1)) (xs (4 * k + 2))) < 2147483648 := Nat.lt_of_le_of_lt benC_le (by omega)
      exact (nI_eq b9 (by omega)).mp (hr1.symm.trans z9)
    obtain ⟨hR1, y9, hy9, ho9⟩ := hw3 hz
    obtain ⟨hv9, hwz⟩ := hwy hz
    have hyr : y9 = r_1621 := hy9.trans hv9.symm
    subst hyr
    refine lv_aload_n hx hb dL_law_1642 rfl (lv_at hl 5 rfl) ?_
    refine lv_iconst (v := 0) hx hb dL_law_1643 (by decide) ?_
    have hout : ∃ fo : Nat → Int64, fo 0 = u1.out ∧ (WCt cI cJ cO h o u1 ++ (WM cI cZ g a v_thrown_c1621 (nI n) (nI hv) (nI sw) sh cv of many colour org state layers heat burnt things history bars set seen pile isIn order whr tried))[0]? = some (o, .inl (cJ, 1, .inr (.inl fo))) := by obtain ⟨n, hv, sw, m_cap, a, aC, aM, aW, aN, aF, aL, ad, af, br, md, el, ow, su, wr, wc, nr, nc, fr, fc, lq, lh, lw, lsp, x1, x2, x3, x4, x5, qc, qs, ql, qt, qo, qh, qf, qth, v⟩ := u1; exact ⟨v, rfl, rfl⟩
    obtain ⟨fo, hfo, hc0⟩ := hout
    refine va_lald hx hb hK hP 0 1 hc0 rfl (vp_lit rfl) dL_law_1644 ?_
    have hf0 : fo (0 : Int32).toNatClampNeg = y9.toInt64 := hfo.trans ho9
    rw [hf0]
    refine lv_iload hx hb dL_law_1645 (lv_at hl 0 rfl) ?_
    refine lv_i2l (v := y9.toInt64) hx hb dL_law_1647 rfl ?_
    refine W.lcmp hx hb dL_law_1648 ?_
    rw [lg_same]
    refine lv_if_eq (tgt := 1654) hx hb dL_law_1649 (by decide) (fun _ => ?_) (fun q9 => absurd rfl q9)
    refine lv_goto (tgt := 1738) hx hb dL_law_1654 (by decide) ?_
    refine W.widen (k := cells + 6) (n := slots + 134) (by omega) (by omega) ?_
    exact K (n, own, pd, hv, sw, bar) u1 (n, hv, sw, a, v_thrown_c1621, sh, cv, of, many, colour, org, state, layers, heat, burnt, things, history, bars, set, seen, pile, isIn, order, whr, tried) _ _ _ hR1 hwz hP hD hS (lv_sub hl [2, 3, 4, 5, 6] rfl)
set_option maxHeartbeats 4000000 in
set_option maxRecDepth 100000 in
theorem k_L_history (C : LC p l s m meth c b L xs D cI cJ cZ cO tD mi) {s0 : SG} {u : KT} {w : KM} {H : Heap} {locs : List Loc} {ls : Array Slot} (hk : 4 * k + 4 ≤ L) (hL : L ≤ 2048) (hR : RCt s0 u) (hM : RMt s0 w) (hP : va_P D vwCl (WCt cI cJ cO h o u ++ WMt cI cZ g w) H) (hD : va_D (AL s) (WCt cI cJ cO h o u ++ WMt cI cZ g w)) (hS : va_S (AL s) s.heap H locs) (hl : lv_has ls 7 [(0, .ref b), (1, .ref h), (2, .ref g), (3, .ref o), (4, .int (nI (4 * k)))]) (hcc : cells + 6 ≤ 601024) (hss : slots + 134 ≤ 7293034) (K : NXT p l e s m below meth c b D cI cJ cZ cO h g o k cells slots Q) : W p l e room_1 s m #[Value.ref b] below meth c H locs cells slots Q (F0 m 1670 ls []) := by
  obtain ⟨hx, hb, hr, hml, hown, hts, hX, hbl, hlocks, hst, hK, hE, hT, hLS, hN⟩ := C
  have hA : ∀ q, s.heap.size ≤ q → AL s q := fun _ h9 => h9
  refine lv_aload_n hx hb dL_law_1670 rfl (lv_at hl 1 rfl) ?_
  refine sld (k := k) (j := 1) (v := 1) hx hb hX hbl hS hl (lv_at hl 0 rfl) (lv_at hl 4 rfl) (nI_add _ _) (by decide) (by omega) hL dL_law_1671 dL_law_1672 dL_law_1674 dL_law_1675 dL_law_1676 ?_
  refine sld (k := k) (j := 2) (v := 2) hx hb hX hbl hS hl (lv_at hl 0 rfl) (lv_at hl 4 rfl) (nI_add _ _) (by decide) (by omega) hL dL_law_1677 dL_law_1678 dL_law_1680 dL_law_1681 dL_law_1682 ?_
  refine lv_aload_n hx hb dL_law_1683 rfl (lv_at hl 3 rfl) ?_
  have hCut := Cut.left hP hD hS hA (cut_all (w1 := fun (u : KT) => WCt cI cJ cO h o u) (va_P_app.mp hP).1 (hD.inner (n := H.size)).1 va_S.rf (fun q h9 => Or.inr h9))
  refine ca_i (wa := fun (u1 : KT) => WCt cI cJ cO h o u1 ++ WMt cI cZ g w) hCut hS (vx_runSW (As := [.ref h, .int (xs (4 * k + 1)), .int (xs (4 * k + 2)), .ref o]) (rest := []) ⟨hx, hb, hml, hown, hts⟩ (c_L_history l D hst cI cJ cZ cO tD mi h o s0 u _ (xs (4 * k + 1)) (xs (4 * k + 2)) hR) (vx_cwSW 4 hts gL_law_L_history rfl rfl rfl (by decide +kernel) ⟨Nat.le_of_ble_eq_true rfl, Nat.le_of_ble_eq_true rfl⟩) (hCut.preSW hK hE hT hLS hN hS) rfl rfl hl.1 rfl (lv_room (Nat.le_of_ble_eq_true rfl)) dL_law_1684 ⟨by show cells + 1 ≤ 601024; omega, by show slots + 6 ≤ 7293034; omega⟩) (fun r u1 H locs hw1 hP hD hS => ?_)
  obtain ⟨hr1, hw2, hw3⟩ := hw1
  refine lv_istore (lv' := [(5, .int r), (0, .ref b), (1, .ref h), (2, .ref g), (3, .ref o), (4, .int (nI (4 * k)))]) hx hb dL_law_1687 hl (by decide) rfl (fun ls hl => ?_)
  have hI := KT.is hR
  obtain ⟨N, own, pd, HW, SW, bar⟩ := s0
  obtain ⟨hO, hIP, hsw, hb5⟩ := hI
  obtain ⟨n, hv, sw, a, t, sh, cv, of, many, colour, org, state, layers, heat, burnt, things, history, bars, set, seen, pile, isIn, order, whr, tried⟩ := w
  obtain ⟨e1, e2, e3, ho, hmn, r0, r1, r2, r3, r4, r5, r10, r15, hfb⟩ := hM
  dsimp only at e1 e2 e3 ho hmn r0 r1 r2 r3 r4 r5 r10 r15 hfb hO hIP hsw hb5
  subst e1 e2 e3
  refine lv_aload_n hx hb dL_law_1689 rfl (lv_at hl 3 rfl) ?_
  refine sld (k := k) (j := 1) (v := 1) hx hb hX hbl hS hl (lv_at hl 1 rfl) (lv_at hl 5 rfl) (nI_add _ _) (by decide) (by omega) hL dL_law_1690 dL_law_1691 dL_law_1693 dL_law_1694 dL_law_1695 ?_
  refine sld (k := k) (j := 2) (v := 2) hx hb hX hbl hS hl (lv_at hl 1 rfl) (lv_at hl 5 rfl) (nI_add _ _) (by decide) (by omega) hL dL_law_1696 dL_law_1697 dL_law_1699 dL_law_1700 dL_law_1701 ?_
  have hw : wp_X5_history t (nI n) things history (xs (4 * k + 1)) (xs (4 * k + 2)) (fun r_1702 v_thrown_c1702 => v_thrown_c1702 = nI (oC_history (n, own, pd, hv, sw, bar) (xs (4 * k + 1)) (xs (4 * k + 2))) ∧ (¬ (oC_history (n, own, pd, hv, sw, bar) (xs (4 * k + 1)) (xs (4 * k + 2))) = 0 → RMt (n, own, pd, hv, sw, bar) (n, hv, sw, a, v_thrown_c1702, sh, cv, of, many, colour, org, state, layers, heat, burnt, things, history, bars, set, seen, pile, isIn, order, whr, tried)) ∧ ((oC_history (n, own, pd, hv, sw, bar) (xs (4 * k + 1)) (xs (4 * k + 2))) = 0 → (oV_history (n, own, pd, hv, sw, bar) (xs (4 * k + 1)) (xs (4 * k + 2))) r_1702 ∧ RMt (n, own, pd, hv, sw, bar) (n, hv, sw, a, v_thrown_c1702, sh, cv, of, many, colour, org, state, layers, heat, burnt, things, history, bars, set, seen, pile, isIn, order, whr, tried))) := m_history ⟨hO.1, hO.2.1⟩ hIP r3 r15 (fun ee => ⟨by rw [show (oC_history (n, own, pd, hv, sw, bar) (xs (4 * k + 1)) (xs (4 * k + 2))) = 1 from by unfold oC_history; rw [ee]; rfl]; rfl, fun _ => ⟨rfl, rfl, rfl, ho, hmn, r0, r1, r2, r3, r4, r5, r10, r15, hfb⟩, fun z => absurd ((show (oC_history (n, own, pd, hv, sw, bar) (xs (4 * k + 1)) (xs (4 * k + 2))) = 1 from by unfold oC_history; rw [ee]; rfl).symm.trans z) (by decide)⟩) (fun ee  => by exact ⟨by rw [show (oC_history (n, own, pd, hv, sw, bar) (xs (4 * k + 1)) (xs (4 * k + 2))) = 0 from by unfold oC_history; rw [ee]; rfl]; rfl, fun z => absurd (show (oC_history (n, own, pd, hv, sw, bar) (xs (4 * k + 1)) (xs (4 * k + 2))) = 0 from by unfold oC_history; rw [ee]; rfl) z, fun _ => ⟨rfl, ⟨rfl, rfl, rfl, ho, hmn, r0, r1, r2, r3, r4, r5, r10, r15, hfb⟩⟩⟩)
  have hCut := Cut.right hP hD hS hA (cut0 (S := Int32) (X := (WM cI cZ g a t (nI n) (nI hv) (nI sw) sh cv of many colour org state layers heat burnt things history bars set seen pile isIn order whr tried)) (cx := (W_X5_history g a cI cJ cZ t (nI n) things history (nI hv) (nI sw) sh cv)) (pl := []) (w1 := fun (u : Int32) => (W_X5_history g a cI cJ cZ u (nI n) things history (nI hv) (nI sw) sh cv)) (X' := fun (u : Int32) => (WM cI cZ g a u (nI n) (nI hv) (nI sw) sh cv of many colour org state layers heat burnt things history bars set seen pile isIn order whr tried)) (va_P_app.mp hP).2 (hD.inner (n := H.size)).2 va_S.rf (fun q h9 => Or.inr h9) [0, 9, 10] [1, 2, 3, 4, 5, 6, 7, 8, 11, 12, 13, 14, 15, 16, 17, 18] [16, 0, 1, 2, 3, 4, 5, 6, 7, 17, 18, 8, 9, 10, 11, 12, 13, 14, 15] rfl rfl (by decide) (by decide) (by decide) (fun u => rfl) (by decide))
  refine ca_i (wa := fun (u : Int32) => WCt cI cJ cO h o u1 ++ (WM cI cZ g a u (nI n) (nI hv) (nI sw) sh cv of many colour org state layers heat burnt things history bars set seen pile isIn order whr tried)) hCut hS (va_runV (As := [.int (xs (4 * k + 1)), .int (xs (4 * k + 2))]) (rest := []) ⟨hx, hb, hml, hown, hts⟩ (c_X5_history l D cI cJ cZ cO g a H.size t (nI n) things history (nI hv) (nI sw) sh cv (xs (4 * k + 1)) (xs (4 * k + 2)) _ hw) (cwV 2 hts gL_law_X5_history rfl rfl rfl (by decide +kernel) ⟨Nat.le_of_ble_eq_true rfl, Nat.le_of_ble_eq_true rfl⟩) (hCut.preV (qb := 0) (ci := 6) hK hE rfl rfl) rfl rfl hl.1 rfl (lv_room (Nat.le_of_ble_eq_true rfl)) dL_law_1702 ⟨by show _ ≤ 601024; simp only [Nat.add_zero]; omega, by show _ ≤ 7293034; simp only [Nat.add_zero]; omega⟩) (fun r_1702 v_thrown_c1702 H locs hw hP hD hS => ?_)
  try dsimp only at hw
  obtain ⟨ht3, hwn, hwy⟩ := hw
  refine lv_istore (lv' := [(6, .int r_1702), (5, .int r), (0, .ref b), (1, .ref h), (2, .ref g), (3, .ref o), (4, .int (nI (4 * k)))]) hx hb dL_law_1705 hl (by decide) rfl (fun ls hl => ?_)
  refine lv_aload_n hx hb dL_law_1707 rfl (lv_at hl 4 rfl) ?_
  have hw : wp_X5_thrown v_thrown_c1702 (fun r => r = v_thrown_c1702) := by unfold wp_X5_thrown; rfl
  have hCut := Cut.right hP hD hS hA (cut0 (S := Unit) (X := (WM cI cZ g a v_thrown_c1702 (nI n) (nI hv) (nI sw) sh cv of many colour org state layers heat burnt things history bars set seen pile isIn order whr tried)) (cx := (W_X5_thrown g a cI cJ cZ v_thrown_c1702 (nI n) (nI hv) (nI sw) sh cv)) (pl := []) (w1 := fun (u : Unit) => (W_X5_thrown g a cI cJ cZ v_thrown_c1702 (nI n) (nI hv) (nI sw) sh cv)) (X' := fun (u : Unit) => (WM cI cZ g a v_thrown_c1702 (nI n) (nI hv) (nI sw) sh cv of many colour org state layers heat burnt things history bars set seen pile isIn order whr tried)) (va_P_app.mp hP).2 (hD.inner (n := H.size)).2 va_S.rf (fun q h9 => Or.inr h9) [0] [1, 2, 3, 4, 5, 6, 7, 8, 9, 10, 11, 12, 13, 14, 15, 16, 17, 18] [18, 0, 1, 2, 3, 4, 5, 6, 7, 8, 9, 10, 11, 12, 13, 14, 15, 16, 17] rfl rfl (by decide) (by decide) (by decide) (fun u => rfl) (by decide))
  refine ca_i (wa := fun (u : Unit) => WCt cI cJ cO h o u1 ++ (WM cI cZ g a v_thrown_c1702 (nI n) (nI hv) (nI sw) sh cv of many colour org state layers heat burnt things history bars set seen pile isIn order whr tried)) hCut hS (va_runV (As := []) (rest := []) ⟨hx, hb, hml, hown, hts⟩ (c_X5_thrown l D cI cJ cZ cO g a H.size v_thrown_c1702 (nI n) (nI hv) (nI sw) sh cv _ hw) (cwV 0 hts gL_law_X5_thrown rfl rfl rfl (by decide +kernel) ⟨Nat.le_of_ble_eq_true rfl, Nat.le_of_ble_eq_true rfl⟩) (hCut.preV (qb := 0) (ci := 6) hK hE rfl rfl) rfl rfl hl.1 rfl (lv_room (Nat.le_of_ble_eq_true rfl)) dL_law_1708 ⟨by show _ ≤ 601024; simp only [Nat.add_zero]; omega, by show _ ≤ 7293034; simp only [Nat.add_zero]; omega⟩) (fun r_1708 _ H locs hw hP hD hS => ?_)
  try dsimp only at hw
  have hrr : r_1708 = r := by rw [hw, ht3, hr1]
  refine lv_iload hx hb dL_law_1711 (lv_at hl 1 rfl) ?_
  refine lv_icmp_eq (tgt := 1718) hx hb dL_law_1713 (by decide) (fun _ => ?_) (fun z9 => absurd hrr z9)
  refine lv_iload hx hb dL_law_1718 (lv_at hl 1 rfl) ?_
  refine lv_if_ne (tgt := 1735) hx hb dL_law_1720 (by decide) (fun z9 => ?_) (fun z9 => ?_)
  · have hz : ¬ (oC_history (n, own, pd, hv, sw, bar) (xs (4 * k + 1)) (xs (4 * k + 2))) = 0 := fun q9 => z9 (by rw [hr1, q9]; rfl)
    have hwn := hwn hz
    refine lv_goto (tgt := 1738) hx hb dL_law_1735 (by decide) ?_
    refine W.widen (k := cells + 6) (n := slots + 134) (by omega) (by omega) ?_
    exact K (n, own, pd, hv, sw, bar) u1 (n, hv, sw, a, v_thrown_c1702, sh, cv, of, many, colour, org, state, layers, heat, burnt, things, history, bars, set, seen, pile, isIn, order, whr, tried) _ _ _ (hw2 hz) hwn hP hD hS (lv_sub hl [2, 3, 4, 5, 6] rfl)
  · have hz : (oC_history (n, own, pd, hv, sw, bar) (xs (4 * k + 1)) (xs (4 * k + 2))) = 0 := by
      have b9 : (oC_history (n, own, pd, hv, sw, bar) (xs (4 * k + 1)) (xs (4 * k + 2))) < 2147483648 := by unfold oC_history; split <;> omega
      exact (nI_eq b9 (by omega)).mp (hr1.symm.trans z9)
    obtain ⟨hR1, y9, hy9, ho9⟩ := hw3 hz
    obtain ⟨hv9, hwz⟩ := hwy hz
    have hyr : y9 = r_1702 := hy9.trans hv9.symm
    subst hyr
    refine lv_aload_n hx hb dL_law_1723 rfl (lv_at hl 5 rfl) ?_
    refine lv_iconst (v := 0) hx hb dL_law_1724 (by decide) ?_
    have hout : ∃ fo : Nat → Int64, fo 0 = u1.out ∧ (WCt cI cJ cO h o u1 ++ (WM cI cZ g a v_thrown_c1702 (nI n) (nI hv) (nI sw) sh cv of many colour org state layers heat burnt things history bars set seen pile isIn order whr tried))[0]? = some (o, .inl (cJ, 1, .inr (.inl fo))) := by obtain ⟨n, hv, sw, m_cap, a, aC, aM, aW, aN, aF, aL, ad, af, br, md, el, ow, su, wr, wc, nr, nc, fr, fc, lq, lh, lw, lsp, x1, x2, x3, x4, x5, qc, qs, ql, qt, qo, qh, qf, qth, v⟩ := u1; exact ⟨v, rfl, rfl⟩
    obtain ⟨fo, hfo, hc0⟩ := hout
    refine va_lald hx hb hK hP 0 1 hc0 rfl (vp_lit rfl) dL_law_1725 ?_
    have hf0 : fo (0 : Int32).toNatClampNeg = y9.toInt64 := hfo.trans ho9
    rw [hf0]
    refine lv_iload hx hb dL_law_1726 (lv_at hl 0 rfl) ?_
    refine lv_i2l (v := y9.toInt64) hx hb dL_law_1728 rfl ?_
    refine W.lcmp hx hb dL_law_1729 ?_
    rw [lg_same]
    refine lv_if_eq (tgt := 1735) hx hb dL_law_1730 (by decide) (fun _ => ?_) (fun q9 => absurd rfl q9)
    refine lv_goto (tgt := 1738) hx hb dL_law_1735 (by decide) ?_
    refine W.widen (k := cells + 6) (n := slots + 134) (by omega) (by omega) ?_
    exact K (n, own, pd, hv, sw, bar) u1 (n, hv, sw, a, v_thrown_c1702, sh, cv, of, many, colour, org, state, layers, heat, burnt, things, history, bars, set, seen, pile, isIn, order, whr, tried) _ _ _ hR1 hwz hP hD hS (lv_sub hl [2, 3, 4, 5, 6] rfl)
end CASE
