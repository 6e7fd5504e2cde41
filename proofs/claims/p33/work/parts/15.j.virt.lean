/-! a contract over a part of the world serves over the whole; calls that do not throw; low; cell -/
theorem Met.frameI {l : Launch} {D : va_G} {cI cJ cZ cO : ClassId} {y : MethodName} {ws : List Cond} {rm : Room} {av : List Value} {wc W0 : va_W} {sz mc ms : Nat} {S T : Type} {w1 : S → va_W} {Wf : T → va_W} {post : Int32 → S → Prop} {post' : Int32 → T → Prop} (f : S → T)
    (hM : Met l y ws rm (va_Pc av (PRE D cI cJ cZ cO wc sz)) (va_Qi post (fun u t => POST D (va_A wc sz) (w1 u) t) (va_A wc sz)) mc ms (va_A wc sz))
    (hC : ∀ H : Heap, H.size = sz → va_P D vwCl W0 H → va_D (va_A W0 H.size) W0 → Cut D (va_A W0 H.size) H wc w1 (fun u => Wf (f u)))
    (hp : ∀ r u, post r u → post' r (f u)) : Met l y ws rm (va_Pc av (PRE D cI cJ cZ cO W0 sz)) (va_Qi post' (fun u t => POST D (va_A W0 sz) (Wf u) t) (va_A W0 sz)) mc ms (va_A W0 sz) := by
  refine MetFree.mono hM ?_ (fun _ _ _ _ _ h => h) ?_
  · rintro a s ⟨ha, hsz, hP, hK, hD, hE⟩
    have C := hC s.heap hsz hP hD.self
    exact ⟨ha, hsz, C.1, hK, C.2.1, hE⟩
  · rintro a s o t ⟨ha, hsz, hP, hK, hD, hE⟩ ⟨⟨⟨r, u, ho, hpo, hB⟩, hF⟩, L, hL, hfree⟩
    have C := hC s.heap hsz hP hD.self
    subst hsz
    obtain ⟨hP1, hD1⟩ := hB
    obtain ⟨g1, g2⟩ := C.2.2.2 u t.heap hP1 hD1 hF.2
    exact ⟨⟨⟨r, f u, ho, hp r u hpo, g1, g2⟩, hF.1, fun q h1 h2 => hF.2 q h1 (fun z => h2 (C.2.2.1 q z))⟩, L, hL, fun q hq => C.2.2.1 _ (hfree q hq)⟩
set_option maxHeartbeats 4000000 in
set_option maxRecDepth 100000 in
theorem v_X4_pieces (l : Launch) (D : va_G) (cI cJ cZ cO : ClassId) (h : Nat) (s0 : SG) (u : KT) (sz : Nat) (hR : RCt s0 u) : Met l yX4_pieces wsX4_pieces rm_X4_pieces (va_Pc [.ref h] (PRE D cI cJ cZ cO (WCt cI cJ cO h u) sz)) (va_Qi (fun r (w : KT) => OUT 0 (oV_pieces s0) s0 s0 r w) (fun w t => POST D (va_A (WCt cI cJ cO h u) sz) (WCt cI cJ cO h w) t) (va_A (WCt cI cJ cO h u) sz)) 0 0 (va_A (WCt cI cJ cO h u) sz) := by
  obtain ⟨N, own, pd, HW, SW, bar⟩ := s0
  obtain ⟨n, hv, sw, m_cap, a, aC, aM, aW, aN, aF, aL, ad, af, br, md, el, ow, su, wr, wc, nr, nc, fr, fc, lq, lh, lw, lsp, x1, x2, x3, x4, x5, qc, qs, ql, qt, qo, qh, qf, qth, v⟩ := u
  obtain ⟨⟨hO, hIP, hsw, hb5⟩, e1, e2, e3, hc, h10, h90, hm, hm0, ho, hbr, c0, c1, c2, c3, c4, c5, c10, c15⟩ := hR
  dsimp only at e1 e2 e3 hO hIP hsw hb5 ho hbr c0 c1 c2 c3 c4 c5 c10 c15
  subst e1 e2 e3
  have hw : wp_X4_pieces ow (fun r_1 => oV_pieces (n, own, pd, hv, sw, bar) r_1 ∧ RCt (n, own, pd, hv, sw, bar) (n, hv, sw, m_cap, a, aC, aM, aW, aN, aF, aL, ad, af, br, md, el, ow, su, wr, wc, nr, nc, fr, fc, lq, lh, lw, lsp, x1, x2, x3, x4, x5, qc, qs, ql, qt, qo, qh, qf, qth, v)) := k_pieces hO ho ⟨rfl, ⟨⟨hO, hIP, hsw, hb5⟩, rfl, rfl, rfl, hc, h10, h90, hm, hm0, ho, hbr, c0, c1, c2, c3, c4, c5, c10, c15⟩⟩
  refine Met.frameI (Wf := fun w => WCt cI cJ cO h w) (fun (u : Unit) => ((n, hv, sw, m_cap, a, aC, aM, aW, aN, aF, aL, ad, af, br, md, el, ow, su, wr, wc, nr, nc, fr, fc, lq, lh, lw, lsp, x1, x2, x3, x4, x5, qc, qs, ql, qt, qo, qh, qf, qth, v) : KT)) (c_X4_pieces l D cI cJ cZ cO h a aC sz (nI hv) (nI sw) br ow _ hw) (fun H hz hP hD => ?_) (fun r u hw => OUT.yes rfl hw.1 hw.2)
  subst hz
  exact (cut0 (S := Unit) (X := (WX cI cJ cO h a aC aM aW aN aF aL m_cap (nI hv) (nI sw) br ow su md el (nI n) wr wc nr nc fr fc lq lh lw lsp x1 x2 x3 x4 x5)) (cx := (W_X4_pieces h a aC cI cJ cZ cO (nI hv) (nI sw) br ow)) (pl := pool (PF cI ad af qc qs ql qt qo qh qf qth) n) (w1 := fun (u : Unit) => (W_X4_pieces h a aC cI cJ cZ cO (nI hv) (nI sw) br ow)) (X' := fun (u : Unit) => (WX cI cJ cO h a aC aM aW aN aF aL m_cap (nI hv) (nI sw) br ow su md el (nI n) wr wc nr nc fr fc lq lh lw lsp x1 x2 x3 x4 x5)) hP hD va_S.rf (fun q h9 => Or.inr h9) [0, 1, 2] [3, 4, 5, 6, 7, 8, 9, 10, 11, 12, 13, 14, 15, 16, 17, 18, 19] [17, 18, 19, 0, 1, 2, 3, 4, 5, 6, 7, 8, 9, 10, 11, 12, 13, 14, 15, 16] rfl rfl (by decide) (by decide) (by decide) (fun u => rfl) (by decide))
set_option maxHeartbeats 4000000 in
set_option maxRecDepth 100000 in
theorem v_X4_lead (l : Launch) (D : va_G) (cI cJ cZ cO : ClassId) (h : Nat) (s0 : SG) (u : KT) (sz : Nat) (hR : RCt s0 u) : Met l yX4_lead wsX4_lead rm_X4_lead (va_Pc [.ref h] (PRE D cI cJ cZ cO (WCt cI cJ cO h u) sz)) (va_Qi (fun r (w : KT) => OUT 0 (oV_lead s0) s0 s0 r w) (fun w t => POST D (va_A (WCt cI cJ cO h u) sz) (WCt cI cJ cO h w) t) (va_A (WCt cI cJ cO h u) sz)) 0 0 (va_A (WCt cI cJ cO h u) sz) := by
  obtain ⟨N, own, pd, HW, SW, bar⟩ := s0
  obtain ⟨n, hv, sw, m_cap, a, aC, aM, aW, aN, aF, aL, ad, af, br, md, el, ow, su, wr, wc, nr, nc, fr, fc, lq, lh, lw, lsp, x1, x2, x3, x4, x5, qc, qs, ql, qt, qo, qh, qf, qth, v⟩ := u
  obtain ⟨⟨hO, hIP, hsw, hb5⟩, e1, e2, e3, hc, h10, h90, hm, hm0, ho, hbr, c0, c1, c2, c3, c4, c5, c10, c15⟩ := hR
  dsimp only at e1 e2 e3 hO hIP hsw hb5 ho hbr c0 c1 c2 c3 c4 c5 c10 c15
  subst e1 e2 e3
  have hw : wp_X4_lead ow (fun r_12 => oV_lead (n, own, pd, hv, sw, bar) r_12 ∧ RCt (n, own, pd, hv, sw, bar) (n, hv, sw, m_cap, a, aC, aM, aW, aN, aF, aL, ad, af, br, md, el, ow, su, wr, wc, nr, nc, fr, fc, lq, lh, lw, lsp, x1, x2, x3, x4, x5, qc, qs, ql, qt, qo, qh, qf, qth, v)) := l_lead hO ho ⟨rfl, ⟨⟨hO, hIP, hsw, hb5⟩, rfl, rfl, rfl, hc, h10, h90, hm, hm0, ho, hbr, c0, c1, c2, c3, c4, c5, c10, c15⟩⟩
  refine Met.frameI (Wf := fun w => WCt cI cJ cO h w) (fun (u : Unit) => ((n, hv, sw, m_cap, a, aC, aM, aW, aN, aF, aL, ad, af, br, md, el, ow, su, wr, wc, nr, nc, fr, fc, lq, lh, lw, lsp, x1, x2, x3, x4, x5, qc, qs, ql, qt, qo, qh, qf, qth, v) : KT)) (c_X4_lead l D cI cJ cZ cO h a aC sz (nI hv) (nI sw) br ow _ hw) (fun H hz hP hD => ?_) (fun r u hw => OUT.yes rfl hw.1 hw.2)
  subst hz
  exact (cut0 (S := Unit) (X := (WX cI cJ cO h a aC aM aW aN aF aL m_cap (nI hv) (nI sw) br ow su md el (nI n) wr wc nr nc fr fc lq lh lw lsp x1 x2 x3 x4 x5)) (cx := (W_X4_lead h a aC cI cJ cZ cO (nI hv) (nI sw) br ow)) (pl := pool (PF cI ad af qc qs ql qt qo qh qf qth) n) (w1 := fun (u : Unit) => (W_X4_lead h a aC cI cJ cZ cO (nI hv) (nI sw) br ow)) (X' := fun (u : Unit) => (WX cI cJ cO h a aC aM aW aN aF aL m_cap (nI hv) (nI sw) br ow su md el (nI n) wr wc nr nc fr fc lq lh lw lsp x1 x2 x3 x4 x5)) hP hD va_S.rf (fun q h9 => Or.inr h9) [0, 1, 2] [3, 4, 5, 6, 7, 8, 9, 10, 11, 12, 13, 14, 15, 16, 17, 18, 19] [17, 18, 19, 0, 1, 2, 3, 4, 5, 6, 7, 8, 9, 10, 11, 12, 13, 14, 15, 16] rfl rfl (by decide) (by decide) (by decide) (fun u => rfl) (by decide))
set_option maxHeartbeats 4000000 in
set_option maxRecDepth 100000 in
theorem v_X4_joints (l : Launch) (D : va_G) (cI cJ cZ cO : ClassId) (h : Nat) (s0 : SG) (u : KT) (sz : Nat) (hR : RCt s0 u) : Met l yX4_joints wsX4_joints rm_X4_joints (va_Pc [.ref h] (PRE D cI cJ cZ cO (WCt cI cJ cO h u) sz)) (va_Qi (fun r (w : KT) => OUT 0 (oV_joints s0) s0 s0 r w) (fun w t => POST D (va_A (WCt cI cJ cO h u) sz) (WCt cI cJ cO h w) t) (va_A (WCt cI cJ cO h u) sz)) 0 0 (va_A (WCt cI cJ cO h u) sz) := by
  obtain ⟨N, own, pd, HW, SW, bar⟩ := s0
  obtain ⟨n, hv, sw, m_cap, a, aC, aM, aW, aN, aF, aL, ad, af, br, md, el, ow, su, wr, wc, nr, nc, fr, fc, lq, lh, lw, lsp, x1, x2, x3, x4, x5, qc, qs, ql, qt, qo, qh, qf, qth, v⟩ := u
  obtain ⟨⟨hO, hIP, hsw, hb5⟩, e1, e2, e3, hc, h10, h90, hm, hm0, ho, hbr, c0, c1, c2, c3, c4, c5, c10, c15⟩ := hR
  dsimp only at e1 e2 e3 hO hIP hsw hb5 ho hbr c0 c1 c2 c3 c4 c5 c10 c15
  subst e1 e2 e3
  have hw : wp_X4_joints ow (fun r_23 => oV_joints (n, own, pd, hv, sw, bar) r_23 ∧ RCt (n, own, pd, hv, sw, bar) (n, hv, sw, m_cap, a, aC, aM, aW, aN, aF, aL, ad, af, br, md, el, ow, su, wr, wc, nr, nc, fr, fc, lq, lh, lw, lsp, x1, x2, x3, x4, x5, qc, qs, ql, qt, qo, qh, qf, qth, v)) := l_joints hO ho ⟨rfl, ⟨⟨hO, hIP, hsw, hb5⟩, rfl, rfl, rfl, hc, h10, h90, hm, hm0, ho, hbr, c0, c1, c2, c3, c4, c5, c10, c15⟩⟩
  refine Met.frameI (Wf := fun w => WCt cI cJ cO h w) (fun (u : Unit) => ((n, hv, sw, m_cap, a, aC, aM, aW, aN, aF, aL, ad, af, br, md, el, ow, su, wr, wc, nr, nc, fr, fc, lq, lh, lw, lsp, x1, x2, x3, x4, x5, qc, qs, ql, qt, qo, qh, qf, qth, v) : KT)) (c_X4_joints l D cI cJ cZ cO h a aC sz (nI hv) (nI sw) br ow _ hw) (fun H hz hP hD => ?_) (fun r u hw => OUT.yes rfl hw.1 hw.2)
  subst hz
  exact (cut0 (S := Unit) (X := (WX cI cJ cO h a aC aM aW aN aF aL m_cap (nI hv) (nI sw) br ow su md el (nI n) wr wc nr nc fr fc lq lh lw lsp x1 x2 x3 x4 x5)) (cx := (W_X4_joints h a aC cI cJ cZ cO (nI hv) (nI sw) br ow)) (pl := pool (PF cI ad af qc qs ql qt qo qh qf qth) n) (w1 := fun (u : Unit) => (W_X4_joints h a aC cI cJ cZ cO (nI hv) (nI sw) br ow)) (X' := fun (u : Unit) => (WX cI cJ cO h a aC aM aW aN aF aL m_cap (nI hv) (nI sw) br ow su md el (nI n) wr wc nr nc fr fc lq lh lw lsp x1 x2 x3 x4 x5)) hP hD va_S.rf (fun q h9 => Or.inr h9) [0, 1, 2] [3, 4, 5, 6, 7, 8, 9, 10, 11, 12, 13, 14, 15, 16, 17, 18, 19] [17, 18, 19, 0, 1, 2, 3, 4, 5, 6, 7, 8, 9, 10, 11, 12, 13, 14, 15, 16] rfl rfl (by decide) (by decide) (by decide) (fun u => rfl) (by decide))
set_option maxHeartbeats 4000000 in
set_option maxRecDepth 100000 in
theorem v_X4_weight (l : Launch) (D : va_G) (cI cJ cZ cO : ClassId) (h : Nat) (s0 : SG) (u : KT) (sz : Nat) (hR : RCt s0 u) : Met l yX4_weight wsX4_weight rm_X4_weight (va_Pc [.ref h] (PRE D cI cJ cZ cO (WCt cI cJ cO h u) sz)) (va_Qi (fun r (w : KT) => OUT 0 (oV_weight s0) s0 s0 r w) (fun w t => POST D (va_A (WCt cI cJ cO h u) sz) (WCt cI cJ cO h w) t) (va_A (WCt cI cJ cO h u) sz)) 0 0 (va_A (WCt cI cJ cO h u) sz) := by
  obtain ⟨N, own, pd, HW, SW, bar⟩ := s0
  obtain ⟨n, hv, sw, m_cap, a, aC, aM, aW, aN, aF, aL, ad, af, br, md, el, ow, su, wr, wc, nr, nc, fr, fc, lq, lh, lw, lsp, x1, x2, x3, x4, x5, qc, qs, ql, qt, qo, qh, qf, qth, v⟩ := u
  obtain ⟨⟨hO, hIP, hsw, hb5⟩, e1, e2, e3, hc, h10, h90, hm, hm0, ho, hbr, c0, c1, c2, c3, c4, c5, c10, c15⟩ := hR
  dsimp only at e1 e2 e3 hO hIP hsw hb5 ho hbr c0 c1 c2 c3 c4 c5 c10 c15
  subst e1 e2 e3
  have hw : wp_X4_weight (nI hv) ow (fun r_34 => oV_weight (n, own, pd, hv, sw, bar) r_34 ∧ RCt (n, own, pd, hv, sw, bar) (n, hv, sw, m_cap, a, aC, aM, aW, aN, aF, aL, ad, af, br, md, el, ow, su, wr, wc, nr, nc, fr, fc, lq, lh, lw, lsp, x1, x2, x3, x4, x5, qc, qs, ql, qt, qo, qh, qf, qth, v)) := l_weight hO ho ⟨rfl, ⟨⟨hO, hIP, hsw, hb5⟩, rfl, rfl, rfl, hc, h10, h90, hm, hm0, ho, hbr, c0, c1, c2, c3, c4, c5, c10, c15⟩⟩
  refine Met.frameI (Wf := fun w => WCt cI cJ cO h w) (fun (u : Unit) => ((n, hv, sw, m_cap, a, aC, aM, aW, aN, aF, aL, ad, af, br, md, el, ow, su, wr, wc, nr, nc, fr, fc, lq, lh, lw, lsp, x1, x2, x3, x4, x5, qc, qs, ql, qt, qo, qh, qf, qth, v) : KT)) (c_X4_weight l D cI cJ cZ cO h a aC sz (nI hv) (nI sw) br ow _ hw) (fun H hz hP hD => ?_) (fun r u hw => OUT.yes rfl hw.1 hw.2)
  subst hz
  exact (cut0 (S := Unit) (X := (WX cI cJ cO h a aC aM aW aN aF aL m_cap (nI hv) (nI sw) br ow su md el (nI n) wr wc nr nc fr fc lq lh lw lsp x1 x2 x3 x4 x5)) (cx := (W_X4_weight h a aC cI cJ cZ cO (nI hv) (nI sw) br ow)) (pl := pool (PF cI ad af qc qs ql qt qo qh qf qth) n) (w1 := fun (u : Unit) => (W_X4_weight h a aC cI cJ cZ cO (nI hv) (nI sw) br ow)) (X' := fun (u : Unit) => (WX cI cJ cO h a aC aM aW aN aF aL m_cap (nI hv) (nI sw) br ow su md el (nI n) wr wc nr nc fr fc lq lh lw lsp x1 x2 x3 x4 x5)) hP hD va_S.rf (fun q h9 => Or.inr h9) [0, 1, 2] [3, 4, 5, 6, 7, 8, 9, 10, 11, 12, 13, 14, 15, 16, 17, 18, 19] [17, 18, 19, 0, 1, 2, 3, 4, 5, 6, 7, 8, 9, 10, 11, 12, 13, 14, 15, 16] rfl rfl (by decide) (by decide) (by decide) (fun u => rfl) (by decide))
set_option maxHeartbeats 4000000 in
set_option maxRecDepth 100000 in
theorem v_X4_assembled (l : Launch) (D : va_G) (cI cJ cZ cO : ClassId) (h : Nat) (s0 : SG) (u : KT) (sz : Nat) (p1 : Int32) (hR : RCt s0 u) : Met l yX4_assembled wsX4_assembled rm_X4_assembled (va_Pc [.ref h, .int p1] (PRE D cI cJ cZ cO (WCt cI cJ cO h u) sz)) (va_Qi (fun r (w : KT) => OUT 0 (oV_assembled s0 p1) s0 s0 r w) (fun w t => POST D (va_A (WCt cI cJ cO h u) sz) (WCt cI cJ cO h w) t) (va_A (WCt cI cJ cO h u) sz)) 0 0 (va_A (WCt cI cJ cO h u) sz) := by
  obtain ⟨N, own, pd, HW, SW, bar⟩ := s0
  obtain ⟨n, hv, sw, m_cap, a, aC, aM, aW, aN, aF, aL, ad, af, br, md, el, ow, su, wr, wc, nr, nc, fr, fc, lq, lh, lw, lsp, x1, x2, x3, x4, x5, qc, qs, ql, qt, qo, qh, qf, qth, v⟩ := u
  obtain ⟨⟨hO, hIP, hsw, hb5⟩, e1, e2, e3, hc, h10, h90, hm, hm0, ho, hbr, c0, c1, c2, c3, c4, c5, c10, c15⟩ := hR
  dsimp only at e1 e2 e3 hO hIP hsw hb5 ho hbr c0 c1 c2 c3 c4 c5 c10 c15
  subst e1 e2 e3
  have hw : wp_X4_assembled ow su p1 (fun r_506 c_supports_c506 => oV_assembled (n, own, pd, hv, sw, bar) p1 r_506 ∧ RCt (n, own, pd, hv, sw, bar) (n, hv, sw, m_cap, a, aC, aM, aW, aN, aF, aL, ad, af, br, md, el, ow, c_supports_c506, wr, wc, nr, nc, fr, fc, lq, lh, lw, lsp, x1, x2, x3, x4, x5, qc, qs, ql, qt, qo, qh, qf, qth, v)) := l_assembled hO ho (fun f' => ⟨rfl, ⟨⟨hO, hIP, hsw, hb5⟩, rfl, rfl, rfl, hc, h10, h90, hm, hm0, ho, hbr, c0, c1, c2, c3, c4, c5, c10, c15⟩⟩)
  refine Met.frameI (Wf := fun w => WCt cI cJ cO h w) (fun (u : (Nat → Int64)) => ((n, hv, sw, m_cap, a, aC, aM, aW, aN, aF, aL, ad, af, br, md, el, ow, u, wr, wc, nr, nc, fr, fc, lq, lh, lw, lsp, x1, x2, x3, x4, x5, qc, qs, ql, qt, qo, qh, qf, qth, v) : KT)) (c_X4_assembled l D cI cJ cZ cO h a aC sz (nI hv) (nI sw) br ow su p1 _ hw) (fun H hz hP hD => ?_) (fun r u hw => OUT.yes rfl hw.1 hw.2)
  subst hz
  exact (cut0 (S := (Nat → Int64)) (X := (WX cI cJ cO h a aC aM aW aN aF aL m_cap (nI hv) (nI sw) br ow su md el (nI n) wr wc nr nc fr fc lq lh lw lsp x1 x2 x3 x4 x5)) (cx := (W_X4_assembled h a aC cI cJ cZ cO (nI hv) (nI sw) br ow su)) (pl := pool (PF cI ad af qc qs ql qt qo qh qf qth) n) (w1 := fun (u : (Nat → Int64)) => (W_X4_assembled h a aC cI cJ cZ cO (nI hv) (nI sw) br ow u)) (X' := fun (u : (Nat → Int64)) => (WX cI cJ cO h a aC aM aW aN aF aL m_cap (nI hv) (nI sw) br ow u md el (nI n) wr wc nr nc fr fc lq lh lw lsp x1 x2 x3 x4 x5)) hP hD va_S.rf (fun q h9 => Or.inr h9) [0, 1, 2, 3] [4, 5, 6, 7, 8, 9, 10, 11, 12, 13, 14, 15, 16, 17, 18, 19] [16, 17, 18, 19, 0, 1, 2, 3, 4, 5, 6, 7, 8, 9, 10, 11, 12, 13, 14, 15] rfl rfl (by decide) (by decide) (by decide) (fun u => rfl) (by decide))
set_option maxHeartbeats 4000000 in
set_option maxRecDepth 100000 in
theorem v_X4_isShut (l : Launch) (D : va_G) (cI cJ cZ cO : ClassId) (h : Nat) (s0 : SG) (u : KT) (sz : Nat) (hR : RCt s0 u) : Met l yX4_isShut wsX4_isShut rm_X4_isShut (va_Pc [.ref h] (PRE D cI cJ cZ cO (WCt cI cJ cO h u) sz)) (va_Qi (fun r (w : KT) => OUT 0 (oV_isShut s0) s0 s0 r w) (fun w t => POST D (va_A (WCt cI cJ cO h u) sz) (WCt cI cJ cO h w) t) (va_A (WCt cI cJ cO h u) sz)) 0 0 (va_A (WCt cI cJ cO h u) sz) := by
  obtain ⟨N, own, pd, HW, SW, bar⟩ := s0
  obtain ⟨n, hv, sw, m_cap, a, aC, aM, aW, aN, aF, aL, ad, af, br, md, el, ow, su, wr, wc, nr, nc, fr, fc, lq, lh, lw, lsp, x1, x2, x3, x4, x5, qc, qs, ql, qt, qo, qh, qf, qth, v⟩ := u
  obtain ⟨⟨hO, hIP, hsw, hb5⟩, e1, e2, e3, hc, h10, h90, hm, hm0, ho, hbr, c0, c1, c2, c3, c4, c5, c10, c15⟩ := hR
  dsimp only at e1 e2 e3 hO hIP hsw hb5 ho hbr c0 c1 c2 c3 c4 c5 c10 c15
  subst e1 e2 e3
  have hw : wp_X4_isShut m_cap n ow el (nI n) qs (fun r_45 => oV_isShut (n, own, pd, hv, sw, bar) r_45 ∧ RCt (n, own, pd, hv, sw, bar) (n, hv, sw, m_cap, a, aC, aM, aW, aN, aF, aL, ad, af, br, md, el, ow, su, wr, wc, nr, nc, fr, fc, lq, lh, lw, lsp, x1, x2, x3, x4, x5, qc, qs, ql, qt, qo, qh, qf, qth, v)) := l_isShut hO hIP ho hc (by omega) c1 ⟨rfl, ⟨⟨hO, hIP, hsw, hb5⟩, rfl, rfl, rfl, hc, h10, h90, hm, hm0, ho, hbr, c0, c1, c2, c3, c4, c5, c10, c15⟩⟩
  refine Met.frameI (Wf := fun w => WCt cI cJ cO h w) (fun (u : Unit) => ((n, hv, sw, m_cap, a, aC, aM, aW, aN, aF, aL, ad, af, br, md, el, ow, su, wr, wc, nr, nc, fr, fc, lq, lh, lw, lsp, x1, x2, x3, x4, x5, qc, qs, ql, qt, qo, qh, qf, qth, v) : KT)) (c_X4_isShut l D cI cJ cZ cO h a aC aM m_cap ad af n sz (nI hv) (nI sw) br ow md el (nI n) qc qs ql qt qo qh qf qth _ hm hw) (fun H hz hP hD => ?_) (fun r u hw => OUT.yes rfl hw.1 hw.2)
  subst hz
  exact (cutP (S := Unit) (X := (WX cI cJ cO h a aC aM aW aN aF aL m_cap (nI hv) (nI sw) br ow su md el (nI n) wr wc nr nc fr fc lq lh lw lsp x1 x2 x3 x4 x5)) (cx := (W_X4_isShut h a aC aM m_cap cI cJ cZ cO (nI hv) (nI sw) br ow md el (nI n))) (pl := pool (PF cI ad af qc qs ql qt qo qh qf qth) n) (rx := fun (u : Unit) => (W_X4_isShut h a aC aM m_cap cI cJ cZ cO (nI hv) (nI sw) br ow md el (nI n))) (pl1 := fun (u : Unit) => pool (PF cI ad af qc qs ql qt qo qh qf qth) n) (X' := fun (u : Unit) => (WX cI cJ cO h a aC aM aW aN aF aL m_cap (nI hv) (nI sw) br ow su md el (nI n) wr wc nr nc fr fc lq lh lw lsp x1 x2 x3 x4 x5)) hP hD va_S.rf (fun q h9 => Or.inr h9) [0, 1, 2, 4, 5] [3, 6, 7, 8, 9, 10, 11, 12, 13, 14, 15, 16, 17, 18, 19] [15, 16, 17, 0, 18, 19, 1, 2, 3, 4, 5, 6, 7, 8, 9, 10, 11, 12, 13, 14] rfl rfl (by decide) (by decide) (by decide) (fun u => rfl) (by decide))
set_option maxHeartbeats 4000000 in
set_option maxRecDepth 100000 in
theorem v_X4_finish (l : Launch) (D : va_G) (cI cJ cZ cO : ClassId) (h : Nat) (s0 : SG) (u : KT) (sz : Nat) (hR : RCt s0 u) : Met l yX4_finish wsX4_finish rm_X4_finish (va_Pc [.ref h] (PRE D cI cJ cZ cO (WCt cI cJ cO h u) sz)) (va_Qi (fun r (w : KT) => OUT 0 (oV_finish s0) s0 (oS_finish s0) r w) (fun w t => POST D (va_A (WCt cI cJ cO h u) sz) (WCt cI cJ cO h w) t) (va_A (WCt cI cJ cO h u) sz)) 0 0 (va_A (WCt cI cJ cO h u) sz) := by
  obtain ⟨N, own, pd, HW, SW, bar⟩ := s0
  obtain ⟨n, hv, sw, m_cap, a, aC, aM, aW, aN, aF, aL, ad, af, br, md, el, ow, su, wr, wc, nr, nc, fr, fc, lq, lh, lw, lsp, x1, x2, x3, x4, x5, qc, qs, ql, qt, qo, qh, qf, qth, v⟩ := u
  obtain ⟨⟨hO, hIP, hsw, hb5⟩, e1, e2, e3, hc, h10, h90, hm, hm0, ho, hbr, c0, c1, c2, c3, c4, c5, c10, c15⟩ := hR
  dsimp only at e1 e2 e3 hO hIP hsw hb5 ho hbr c0 c1 c2 c3 c4 c5 c10 c15
  subst e1 e2 e3
  have hw : wp_X4_finish m_cap n ow el (nI n) qt qo qth (fun r_309 q_thingCount_c309 q_original_c309 q_things_c309 => oV_finish (n, own, pd, hv, sw, bar) r_309 ∧ RCt (oS_finish (n, own, pd, hv, sw, bar)) (n, hv, sw, m_cap, a, aC, aM, aW, aN, aF, aL, ad, af, br, md, el, ow, su, wr, wc, nr, nc, fr, fc, lq, lh, lw, lsp, x1, x2, x3, x4, x5, qc, qs, ql, q_thingCount_c309, q_original_c309, qh, qf, q_things_c309, v)) := l_finish hO hIP ho hc (by omega) c3 c4 c15 (fun a3 a4 a15 k3 k4 k15 => ⟨rfl, ⟨⟨hO, hIP.fin (Nat.le_refl n), hsw, hb5⟩, rfl, rfl, rfl, hc, h10, h90, hm, hm0, ho, hbr, (c0.keep (fun i => lo_fin (by omega) n)), (c1.keep (fun i => lo_fin (by omega) n)), (c2.keep (fun i => lo_fin (by omega) n)), k3, k4, (c5.keep (fun i j hj => lo_fin (by omega) n)), (c10.keep (fun i j hj => lo_fin (by omega) n)), k15⟩⟩)
  refine Met.frameI (Wf := fun w => WCt cI cJ cO h w) (fun (u : (Nat → Int32) × (Nat → Int32) × (Nat → Nat → Int32)) => ((n, hv, sw, m_cap, a, aC, aM, aW, aN, aF, aL, ad, af, br, md, el, ow, su, wr, wc, nr, nc, fr, fc, lq, lh, lw, lsp, x1, x2, x3, x4, x5, qc, qs, ql, u.1, u.2.1, qh, qf, u.2.2, v) : KT)) (c_X4_finish l D cI cJ cZ cO h a aC aM m_cap ad af n sz (nI hv) (nI sw) br ow md el (nI n) qc qs ql qt qo qh qf qth _ hm hw) (fun H hz hP hD => ?_) (fun r u hw => OUT.yes rfl hw.1 hw.2)
  subst hz
  exact (cutP (S := (Nat → Int32) × (Nat → Int32) × (Nat → Nat → Int32)) (X := (WX cI cJ cO h a aC aM aW aN aF aL m_cap (nI hv) (nI sw) br ow su md el (nI n) wr wc nr nc fr fc lq lh lw lsp x1 x2 x3 x4 x5)) (cx := (W_X4_finish h a aC aM m_cap cI cJ cZ cO (nI hv) (nI sw) br ow md el (nI n))) (pl := pool (PF cI ad af qc qs ql qt qo qh qf qth) n) (rx := fun (u : (Nat → Int32) × (Nat → Int32) × (Nat → Nat → Int32)) => (W_X4_finish h a aC aM m_cap cI cJ cZ cO (nI hv) (nI sw) br ow md el (nI n))) (pl1 := fun (u : (Nat → Int32) × (Nat → Int32) × (Nat → Nat → Int32)) => pool (PF cI ad af qc qs ql u.1 u.2.1 qh qf u.2.2) n) (X' := fun (u : (Nat → Int32) × (Nat → Int32) × (Nat → Nat → Int32)) => (WX cI cJ cO h a aC aM aW aN aF aL m_cap (nI hv) (nI sw) br ow su md el (nI n) wr wc nr nc fr fc lq lh lw lsp x1 x2 x3 x4 x5)) hP hD va_S.rf (fun q h9 => Or.inr h9) [0, 1, 2, 4, 5] [3, 6, 7, 8, 9, 10, 11, 12, 13, 14, 15, 16, 17, 18, 19] [15, 16, 17, 0, 18, 19, 1, 2, 3, 4, 5, 6, 7, 8, 9, 10, 11, 12, 13, 14] rfl rfl (by decide) (by decide) (by decide) (fun u => rfl) (by decide))
abbrev rm_L_low : Room := { frames := 0, cells := 0, slots := 0, locals := 0 }
def wp_L_low (p1 : Int32) (p2 : Int32) (post : Int32 → Prop) : Prop := ¬ p2 = 0 ∧ (post ((p1 &&& 2147483647) - (p1 &&& 2147483647) / p2 * p2))
set_option maxHeartbeats 4000000 in
set_option maxRecDepth 100000 in
theorem c_L_low (l : Launch) (D : va_G) (cI cJ cZ cO : ClassId) (sz : Nat) (p1 : Int32) (p2 : Int32) (post : Int32 → Prop) (hw : wp_L_low p1 p2 post) : Met l yL_low wsL_low rm_L_low (va_Pc [.int p1, .int p2] (PRE D cI cJ cZ cO ([] : va_W) sz)) (va_Qi (fun r (_ : Unit) => post r) (fun u t => POST D (va_A ([] : va_W) sz) ([] : va_W) t) (va_A ([] : va_W) sz)) 0 0 (va_A ([] : va_W) sz) := by
  refine met_go (cc := cL_low) (maxL := 2) (ret := some .int) RL rfl (by decide) rfl (Nat.le_of_ble_eq_true rfl) ?_
  intro p e s m args below meth c ls hx hb hr hts hown hlocks hin hml hsz hP hK hE hD hA hS hl
  generalize va_A ([] : va_W) sz = A at hD hA hS ⊢
  have RT : ∀ (v : Int32) (u : Unit) (H : Heap) (locs : List Loc) (pc : Nat) (ls : Array Slot), decode cL_low pc = .ok (.ireturn, 1) → post v → va_P D vwCl ([] : va_W) H → va_D A ([] : va_W) → va_S A s.heap H locs → W p l e rm_L_low s m args below meth c H locs 0 0 (MQ below (va_Qi (fun r (_ : Unit) => post r) (fun u t => POST D A ([] : va_W) t) A) args s 0 0 A) (F0 m pc ls [.int v]) := fun v u H locs pc ls d g1 g2 g3 g4 => rt_i (Wf := fun u => ([] : va_W)) u hx hb hr hlocks g1 g2 g3 g4 d
  generalize (MQ below (va_Qi (fun r (_ : Unit) => post r) (fun u t => POST D A ([] : va_W) t) A) args s 0 0 A) = QQ at RT ⊢
  have hl : lv_has ls 2 [(0, .int p1), (1, .int p2)] := hl
  have hP : va_P D vwCl ([] : va_W) s.heap := hP
  unfold wp_L_low at hw
  suffices GO : ∀ (H : Heap) (locs : List Loc), va_P D vwCl ([] : va_W) H → va_S A s.heap H locs → W p l e rm_L_low s m args below meth c H locs 0 0 QQ (F0 m 0 ls []) from GO _ _ hP hS
  clear hsz hP hS
  intro H locs hP hS
  refine lv_iload_n hx hb dL_low_0 rfl (lv_at hl 0 rfl) ?_
  refine lv_ldc (v := 2147483647) hx hb hown (hts (.constant RL 7 (2147483647)) (List.mem_of_getElem? (i := 1) rfl)) dL_low_1 ?_
  refine lv_iand hx hb dL_low_3 ?_
  refine lv_iload_n hx hb dL_low_4 rfl (lv_at hl 1 rfl) ?_
  obtain ⟨hne_5, hw⟩ := hw
  refine lv_irem hx hb dL_low_5 hne_5 ?_
  exact RT ((p1 &&& 2147483647) - (p1 &&& 2147483647) / p2 * p2) () _ _ _ _ dL_low_6 hw hP hD hS
