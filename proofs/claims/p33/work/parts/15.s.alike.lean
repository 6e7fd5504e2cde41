/-! two objects of one state answer alike -/
abbrev rm_L_areAlike : Room := { frames := 9, cells := 42, slots := 252, locals := 200 }
theorem OUT.same {c : Nat} {V : Int32 → Prop} {s : SG} {r : Int32} {w : KT} (h : OUT c V s s r w) : RES c V s s r s ∧ RCt s w := by
  obtain ⟨t, q, hR⟩ := h
  have e : t = s := by
    rcases q with q | q
    · exact q.2.2
    · exact q.2.2
  subst e
  exact ⟨q, hR⟩
theorem le_no {k N : Nat} (h : k < N) (hN : N < 2147483648) : ¬ nI N ≤ nI k := by
  rw [fa_le, nI_toInt hN, nI_toInt (by omega)]
  omega
def LQ (p : Program) (l : Launch) (s : State) (m : MethodId) (args : Array Value) (meth : Method) (c : Code) (D : va_G) (cI cJ cZ cO : ClassId) (tD mi : Nat) (A : Nat → Prop) (cc : ByteArray) (ml : Nat) (ws : List Cond) : Prop :=
  p.tables.exec = Jvm.exec ∧ c.code = cc ∧ meth.sig.returnType = some .boolean ∧ c.maxLocals = ml ∧ s.vm.findClass RL = some m.cls ∧ (∀ w ∈ ws, w.before args s = true) ∧ meth.locks = false ∧ l.stackTraces = false ∧ va_K D vwCl (TY cI cJ cZ cO) s ∧ EN s ∧ THR A s s.heap ∧ LST tD mi A s s.heap ∧ NC s ∧ ∀ q, s.heap.size ≤ q → A q
section ALIKE
variable {p : Program} {l : Launch} {e9 : Env} {s : State} {m : MethodId} {args : Array Value} {below : List Frame} {meth : Method} {c : Code} {D : va_G} {cI cJ cZ cO : ClassId} {tD mi h g : Nat} {A : Nat → Prop} {s0 : SG} {v : Int32} {Q : State → Prop}
set_option maxHeartbeats 4000000 in
set_option maxRecDepth 100000 in
theorem ql_loop (C : LQ p l s m args meth c D cI cJ cZ cO tD mi A cL_areAlike 5 wsL_areAlike) (hJ : JS s0) (K : ∀ (u w : KT) (H : Heap) (locs : List Loc) (ls : Array Slot), RCt s0 u → RCt s0 w → va_P D vwCl (WCt cI cJ cO h u ++ WCt cI cJ cO g w) H → va_D A (WCt cI cJ cO h u ++ WCt cI cJ cO g w) → va_S A s.heap H locs → lv_has ls 5 [(3, .int 1), (0, .ref h), (1, .ref g), (2, .int v)] → W p l e9 rm_L_areAlike s m args below meth c H locs 40 240 Q (F0 m 186 ls [])) : ∀ (r k : Nat) (u w : KT) (H : Heap) (locs : List Loc) (ls : Array Slot) (cells slots : Nat), k + r = 5 → cells + 8 * r ≤ 40 → slots + 48 * r ≤ 240 → RCt s0 u → RCt s0 w → va_P D vwCl (WCt cI cJ cO h u ++ WCt cI cJ cO g w) H → va_D A (WCt cI cJ cO h u ++ WCt cI cJ cO g w) → va_S A s.heap H locs → lv_has ls 5 [(4, .int ((nI k))), (3, .int 1), (0, .ref h), (1, .ref g), (2, .int v)] → W p l e9 rm_L_areAlike s m args below meth c H locs cells slots Q (F0 m 64 ls []) := by
  obtain ⟨hx, hb, hr, hml, hown, hts, hlocks, hst, hK, hE, hT, hLS, hN, hA⟩ := C
  intro r
  induction r with
  | zero =>
    intro k u w H locs ls cells slots hk hc hs hR hM hP hD hS hl
    have ek : k = 5 := by omega
    subst ek
    refine lv_iload hx hb dL_areAlike_64 (lv_at hl 0 rfl) ?_
    refine lv_iconst (v := 5) hx hb dL_areAlike_66 (by decide) ?_
    refine lv_icmp_ge (tgt := 186) hx hb dL_areAlike_67 (by decide) (fun _ => ?_) (fun z => absurd (show (5 : Int32) ≤ nI 5 by decide) z)
    refine W.widen (k := 40) (n := 240) (by omega) (by omega) ?_
    exact K _ _ _ _ _ hR hM hP hD hS (lv_sub hl [1, 2, 3, 4] rfl)
  | succ r ih =>
    intro k u w H locs ls cells slots hk hc hs hR hM hP hD hS hl
    refine lv_iload hx hb dL_areAlike_64 (lv_at hl 0 rfl) ?_
    refine lv_iconst (v := 5) hx hb dL_areAlike_66 (by decide) ?_
    refine lv_icmp_ge (tgt := 186) hx hb dL_areAlike_67 (by decide) (fun z => absurd z (show ¬ (5 : Int32) ≤ nI k from le_no (N := 5) (by omega) (by omega))) (fun _ => ?_)
    refine lv_iload_n hx hb dL_areAlike_70 rfl (lv_at hl 1 rfl) ?_
    refine lv_if_eq (tgt := 186) hx hb dL_areAlike_71 (by decide) (fun z => absurd z (by decide)) (fun _ => ?_)
    refine lv_aload_n hx hb dL_areAlike_74 rfl (lv_at hl 2 rfl) ?_
    refine lv_iload_n hx hb dL_areAlike_75 rfl (lv_at hl 4 rfl) ?_
    refine lv_bipush (v := 53) hx hb dL_areAlike_76 (by decide) ?_
    refine lv_iload hx hb dL_areAlike_78 (lv_at hl 0 rfl) ?_
    refine lv_imul hx hb dL_areAlike_80 ?_
    refine lv_iadd hx hb dL_areAlike_81 ?_
    refine lv_sipush (v := 256) hx hb dL_areAlike_82 (by decide) ?_
    refine ca_i (wa := fun (_ : Unit) => WCt cI cJ cO h u ++ WCt cI cJ cO g w) (cut_nil hP hD hS hA) hS (va_runS (As := [.int ((v + ((53 : Int32) * (nI k)))), .int 256]) (rest := [.ref h]) ⟨hx, hb, hml, hown, hts⟩ (c_L_low l D cI cJ cZ cO H.size ((v + ((53 : Int32) * (nI k)))) 256 (fun r => r = lowI ((v + ((53 : Int32) * (nI k)))) 256) ⟨by decide, rfl⟩) (va_cwS 2 hts gL_areAlike_L_low rfl rfl rfl (by decide +kernel) ⟨Nat.le_of_ble_eq_true rfl, Nat.le_of_ble_eq_true rfl⟩) ((cut_nil hP hD hS hA).preS hK hE) rfl rfl hl.1 rfl (lv_room (Nat.le_of_ble_eq_true rfl)) dL_areAlike_85 ⟨by show _ ≤ 42; omega, by show _ ≤ 252; omega⟩) (fun r _ H locs hw hP hD hS => ?_)
    obtain rfl := hw
    have hCut := Cut.left hP hD hS hA (cut_all (w1 := fun (u : KT) => WCt cI cJ cO h u) (va_P_app.mp hP).1 (hD.inner (n := H.size)).1 va_S.rf (fun q h9 => Or.inr h9))
    refine ca_i (wa := fun (u : KT) => WCt cI cJ cO h u ++ WCt cI cJ cO g w) hCut hS (vx_runSW (As := [.ref h, .int ((lowI ((v + ((53 : Int32) * (nI k)))) 256))]) (rest := []) ⟨hx, hb, hml, hown, hts⟩ (c_L_pieceOf l D hst cI cJ cZ cO tD mi h s0 u _ ((lowI ((v + ((53 : Int32) * (nI k)))) 256)) hR) (vx_cwSW 2 hts gL_areAlike_L_pieceOf rfl rfl rfl (by decide +kernel) ⟨Nat.le_of_ble_eq_true rfl, Nat.le_of_ble_eq_true rfl⟩) (hCut.preSW hK hE hT hLS hN hS) rfl rfl hl.1 rfl (lv_room (Nat.le_of_ble_eq_true rfl)) dL_areAlike_88 ⟨by show _ ≤ 42; omega, by show _ ≤ 252; omega⟩) (fun r88 u H locs hw hP hD hS => ?_)
    obtain ⟨q1, hR⟩ := hw.same
    refine lv_aload_n hx hb dL_areAlike_91 rfl (lv_at hl 3 rfl) ?_
    refine lv_iload_n hx hb dL_areAlike_92 rfl (lv_at hl 4 rfl) ?_
    refine lv_bipush (v := 53) hx hb dL_areAlike_93 (by decide) ?_
    refine lv_iload hx hb dL_areAlike_95 (lv_at hl 0 rfl) ?_
    refine lv_imul hx hb dL_areAlike_97 ?_
    refine lv_iadd hx hb dL_areAlike_98 ?_
    refine lv_sipush (v := 256) hx hb dL_areAlike_99 (by decide) ?_
    refine ca_i (wa := fun (_ : Unit) => WCt cI cJ cO h u ++ WCt cI cJ cO g w) (cut_nil hP hD hS hA) hS (va_runS (As := [.int ((v + ((53 : Int32) * (nI k)))), .int 256]) (rest := [.ref g, .int r88]) ⟨hx, hb, hml, hown, hts⟩ (c_L_low l D cI cJ cZ cO H.size ((v + ((53 : Int32) * (nI k)))) 256 (fun r => r = lowI ((v + ((53 : Int32) * (nI k)))) 256) ⟨by decide, rfl⟩) (va_cwS 2 hts gL_areAlike_L_low rfl rfl rfl (by decide +kernel) ⟨Nat.le_of_ble_eq_true rfl, Nat.le_of_ble_eq_true rfl⟩) ((cut_nil hP hD hS hA).preS hK hE) rfl rfl hl.1 rfl (lv_room (Nat.le_of_ble_eq_true rfl)) dL_areAlike_102 ⟨by show _ ≤ 42; omega, by show _ ≤ 252; omega⟩) (fun r _ H locs hw hP hD hS => ?_)
    obtain rfl := hw
    have hCut := Cut.right hP hD hS hA (cut_all (w1 := fun (w : KT) => WCt cI cJ cO g w) (va_P_app.mp hP).2 (hD.inner (n := H.size)).2 va_S.rf (fun q h9 => Or.inr h9))
    refine ca_i (wa := fun (w : KT) => WCt cI cJ cO h u ++ WCt cI cJ cO g w) hCut hS (vx_runSW (As := [.ref g, .int ((lowI ((v + ((53 : Int32) * (nI k)))) 256))]) (rest := [.int r88]) ⟨hx, hb, hml, hown, hts⟩ (c_L_pieceOf l D hst cI cJ cZ cO tD mi g s0 w _ ((lowI ((v + ((53 : Int32) * (nI k)))) 256)) hM) (vx_cwSW 2 hts gL_areAlike_L_pieceOf rfl rfl rfl (by decide +kernel) ⟨Nat.le_of_ble_eq_true rfl, Nat.le_of_ble_eq_true rfl⟩) (hCut.preSW hK hE hT hLS hN hS) rfl rfl hl.1 rfl (lv_room (Nat.le_of_ble_eq_true rfl)) dL_areAlike_105 ⟨by show _ ≤ 42; omega, by show _ ≤ 252; omega⟩) (fun r105 w H locs hw hP hD hS => ?_)
    obtain ⟨q2, hM⟩ := hw.same
    have eq := ((fn_pieceOf hJ _).1 _ _ _ _ q1 q2).1
    refine lv_icmp_ne (tgt := 178) hx hb dL_areAlike_108 (by decide) (fun z => absurd eq z) (fun _ => ?_)
    refine lv_aload_n hx hb dL_areAlike_111 rfl (lv_at hl 2 rfl) ?_
    refine lv_iload hx hb dL_areAlike_112 (lv_at hl 0 rfl) ?_
    refine lv_iload_n hx hb dL_areAlike_114 rfl (lv_at hl 4 rfl) ?_
    refine lv_iconst (v := 3) hx hb dL_areAlike_115 (by decide) ?_
    refine lv_ishr hx hb dL_areAlike_116 ?_
    refine lv_iconst (v := 5) hx hb dL_areAlike_117 (by decide) ?_
    refine ca_i (wa := fun (_ : Unit) => WCt cI cJ cO h u ++ WCt cI cJ cO g w) (cut_nil hP hD hS hA) hS (va_runS (As := [.int ((v >>> (3 &&& 31))), .int 5]) (rest := [.int ((nI k)), .ref h]) ⟨hx, hb, hml, hown, hts⟩ (c_L_low l D cI cJ cZ cO H.size ((v >>> (3 &&& 31))) 5 (fun r => r = lowI ((v >>> (3 &&& 31))) 5) ⟨by decide, rfl⟩) (va_cwS 2 hts gL_areAlike_L_low rfl rfl rfl (by decide +kernel) ⟨Nat.le_of_ble_eq_true rfl, Nat.le_of_ble_eq_true rfl⟩) ((cut_nil hP hD hS hA).preS hK hE) rfl rfl hl.1 rfl (lv_room (Nat.le_of_ble_eq_true rfl)) dL_areAlike_118 ⟨by show _ ≤ 42; omega, by show _ ≤ 252; omega⟩) (fun r _ H locs hw hP hD hS => ?_)
    obtain rfl := hw
    have hCut := Cut.left hP hD hS hA (cut_all (w1 := fun (u : KT) => WCt cI cJ cO h u) (va_P_app.mp hP).1 (hD.inner (n := H.size)).1 va_S.rf (fun q h9 => Or.inr h9))
    refine ca_i (wa := fun (u : KT) => WCt cI cJ cO h u ++ WCt cI cJ cO g w) hCut hS (vx_runSW (As := [.ref h, .int ((nI k)), .int ((lowI ((v >>> (3 &&& 31))) 5))]) (rest := []) ⟨hx, hb, hml, hown, hts⟩ (c_L_history l D hst cI cJ cZ cO tD mi h s0 u _ ((nI k)) ((lowI ((v >>> (3 &&& 31))) 5)) hR) (vx_cwSW 3 hts gL_areAlike_L_history rfl rfl rfl (by decide +kernel) ⟨Nat.le_of_ble_eq_true rfl, Nat.le_of_ble_eq_true rfl⟩) (hCut.preSW hK hE hT hLS hN hS) rfl rfl hl.1 rfl (lv_room (Nat.le_of_ble_eq_true rfl)) dL_areAlike_121 ⟨by show _ ≤ 42; omega, by show _ ≤ 252; omega⟩) (fun r121 u H locs hw hP hD hS => ?_)
    obtain ⟨q1, hR⟩ := hw.same
    refine lv_aload_n hx hb dL_areAlike_124 rfl (lv_at hl 3 rfl) ?_
    refine lv_iload hx hb dL_areAlike_125 (lv_at hl 0 rfl) ?_
    refine lv_iload_n hx hb dL_areAlike_127 rfl (lv_at hl 4 rfl) ?_
    refine lv_iconst (v := 3) hx hb dL_areAlike_128 (by decide) ?_
    refine lv_ishr hx hb dL_areAlike_129 ?_
    refine lv_iconst (v := 5) hx hb dL_areAlike_130 (by decide) ?_
    refine ca_i (wa := fun (_ : Unit) => WCt cI cJ cO h u ++ WCt cI cJ cO g w) (cut_nil hP hD hS hA) hS (va_runS (As := [.int ((v >>> (3 &&& 31))), .int 5]) (rest := [.int ((nI k)), .ref g, .int r121]) ⟨hx, hb, hml, hown, hts⟩ (c_L_low l D cI cJ cZ cO H.size ((v >>> (3 &&& 31))) 5 (fun r => r = lowI ((v >>> (3 &&& 31))) 5) ⟨by decide, rfl⟩) (va_cwS 2 hts gL_areAlike_L_low rfl rfl rfl (by decide +kernel) ⟨Nat.le_of_ble_eq_true rfl, Nat.le_of_ble_eq_true rfl⟩) ((cut_nil hP hD hS hA).preS hK hE) rfl rfl hl.1 rfl (lv_room (Nat.le_of_ble_eq_true rfl)) dL_areAlike_131 ⟨by show _ ≤ 42; omega, by show _ ≤ 252; omega⟩) (fun r _ H locs hw hP hD hS => ?_)
    obtain rfl := hw
    have hCut := Cut.right hP hD hS hA (cut_all (w1 := fun (w : KT) => WCt cI cJ cO g w) (va_P_app.mp hP).2 (hD.inner (n := H.size)).2 va_S.rf (fun q h9 => Or.inr h9))
    refine ca_i (wa := fun (w : KT) => WCt cI cJ cO h u ++ WCt cI cJ cO g w) hCut hS (vx_runSW (As := [.ref g, .int ((nI k)), .int ((lowI ((v >>> (3 &&& 31))) 5))]) (rest := [.int r121]) ⟨hx, hb, hml, hown, hts⟩ (c_L_history l D hst cI cJ cZ cO tD mi g s0 w _ ((nI k)) ((lowI ((v >>> (3 &&& 31))) 5)) hM) (vx_cwSW 3 hts gL_areAlike_L_history rfl rfl rfl (by decide +kernel) ⟨Nat.le_of_ble_eq_true rfl, Nat.le_of_ble_eq_true rfl⟩) (hCut.preSW hK hE hT hLS hN hS) rfl rfl hl.1 rfl (lv_room (Nat.le_of_ble_eq_true rfl)) dL_areAlike_134 ⟨by show _ ≤ 42; omega, by show _ ≤ 252; omega⟩) (fun r134 w H locs hw hP hD hS => ?_)
    obtain ⟨q2, hM⟩ := hw.same
    have eq := ((fn_history hJ _ _).1 _ _ _ _ q1 q2).1
    refine lv_icmp_ne (tgt := 178) hx hb dL_areAlike_137 (by decide) (fun z => absurd eq z) (fun _ => ?_)
    refine lv_aload_n hx hb dL_areAlike_140 rfl (lv_at hl 2 rfl) ?_
    refine lv_iload hx hb dL_areAlike_141 (lv_at hl 0 rfl) ?_
    have hCut := Cut.left hP hD hS hA (cut_all (w1 := fun (u : KT) => WCt cI cJ cO h u) (va_P_app.mp hP).1 (hD.inner (n := H.size)).1 va_S.rf (fun q h9 => Or.inr h9))
    refine ca_i (wa := fun (u : KT) => WCt cI cJ cO h u ++ WCt cI cJ cO g w) hCut hS (vx_runSW (As := [.ref h, .int ((nI k))]) (rest := []) ⟨hx, hb, hml, hown, hts⟩ (c_L_crosses l D hst cI cJ cZ cO tD mi h s0 u _ ((nI k)) hR) (vx_cwSW 2 hts gL_areAlike_L_crosses rfl rfl rfl (by decide +kernel) ⟨Nat.le_of_ble_eq_true rfl, Nat.le_of_ble_eq_true rfl⟩) (hCut.preSW hK hE hT hLS hN hS) rfl rfl hl.1 rfl (lv_room (Nat.le_of_ble_eq_true rfl)) dL_areAlike_143 ⟨by show _ ≤ 42; omega, by show _ ≤ 252; omega⟩) (fun r143 u H locs hw hP hD hS => ?_)
    obtain ⟨q1, hR⟩ := hw.same
    refine lv_aload_n hx hb dL_areAlike_146 rfl (lv_at hl 3 rfl) ?_
    refine lv_iload hx hb dL_areAlike_147 (lv_at hl 0 rfl) ?_
    have hCut := Cut.right hP hD hS hA (cut_all (w1 := fun (w : KT) => WCt cI cJ cO g w) (va_P_app.mp hP).2 (hD.inner (n := H.size)).2 va_S.rf (fun q h9 => Or.inr h9))
    refine ca_i (wa := fun (w : KT) => WCt cI cJ cO h u ++ WCt cI cJ cO g w) hCut hS (vx_runSW (As := [.ref g, .int ((nI k))]) (rest := [.int r143]) ⟨hx, hb, hml, hown, hts⟩ (c_L_crosses l D hst cI cJ cZ cO tD mi g s0 w _ ((nI k)) hM) (vx_cwSW 2 hts gL_areAlike_L_crosses rfl rfl rfl (by decide +kernel) ⟨Nat.le_of_ble_eq_true rfl, Nat.le_of_ble_eq_true rfl⟩) (hCut.preSW hK hE hT hLS hN hS) rfl rfl hl.1 rfl (lv_room (Nat.le_of_ble_eq_true rfl)) dL_areAlike_149 ⟨by show _ ≤ 42; omega, by show _ ≤ 252; omega⟩) (fun r149 w H locs hw hP hD hS => ?_)
    obtain ⟨q2, hM⟩ := hw.same
    have eq := ((fn_crosses hJ _).1 _ _ _ _ q1 q2).1
    refine lv_icmp_ne (tgt := 178) hx hb dL_areAlike_152 (by decide) (fun z => absurd eq z) (fun _ => ?_)
    refine lv_aload_n hx hb dL_areAlike_155 rfl (lv_at hl 2 rfl) ?_
    refine lv_iload hx hb dL_areAlike_156 (lv_at hl 0 rfl) ?_
    refine lv_bipush (v := 9) hx hb dL_areAlike_158 (by decide) ?_
    have hCut := Cut.left hP hD hS hA (cut_all (w1 := fun (u : KT) => WCt cI cJ cO h u) (va_P_app.mp hP).1 (hD.inner (n := H.size)).1 va_S.rf (fun q h9 => Or.inr h9))
    refine ca_i (wa := fun (u : KT) => WCt cI cJ cO h u ++ WCt cI cJ cO g w) hCut hS (vx_runSW (As := [.ref h, .int ((nI k)), .int 9]) (rest := []) ⟨hx, hb, hml, hown, hts⟩ (c_L_bends l D hst cI cJ cZ cO tD mi h s0 u _ ((nI k)) 9 hR) (vx_cwSW 3 hts gL_areAlike_L_bends rfl rfl rfl (by decide +kernel) ⟨Nat.le_of_ble_eq_true rfl, Nat.le_of_ble_eq_true rfl⟩) (hCut.preSW hK hE hT hLS hN hS) rfl rfl hl.1 rfl (lv_room (Nat.le_of_ble_eq_true rfl)) dL_areAlike_160 ⟨by show _ ≤ 42; omega, by show _ ≤ 252; omega⟩) (fun r160 u H locs hw hP hD hS => ?_)
    obtain ⟨q1, hR⟩ := hw.same
    refine lv_aload_n hx hb dL_areAlike_163 rfl (lv_at hl 3 rfl) ?_
    refine lv_iload hx hb dL_areAlike_164 (lv_at hl 0 rfl) ?_
    refine lv_bipush (v := 9) hx hb dL_areAlike_166 (by decide) ?_
    have hCut := Cut.right hP hD hS hA (cut_all (w1 := fun (w : KT) => WCt cI cJ cO g w) (va_P_app.mp hP).2 (hD.inner (n := H.size)).2 va_S.rf (fun q h9 => Or.inr h9))
    refine ca_i (wa := fun (w : KT) => WCt cI cJ cO h u ++ WCt cI cJ cO g w) hCut hS (vx_runSW (As := [.ref g, .int ((nI k)), .int 9]) (rest := [.int r160]) ⟨hx, hb, hml, hown, hts⟩ (c_L_bends l D hst cI cJ cZ cO tD mi g s0 w _ ((nI k)) 9 hM) (vx_cwSW 3 hts gL_areAlike_L_bends rfl rfl rfl (by decide +kernel) ⟨Nat.le_of_ble_eq_true rfl, Nat.le_of_ble_eq_true rfl⟩) (hCut.preSW hK hE hT hLS hN hS) rfl rfl hl.1 rfl (lv_room (Nat.le_of_ble_eq_true rfl)) dL_areAlike_168 ⟨by show _ ≤ 42; omega, by show _ ≤ 252; omega⟩) (fun r168 w H locs hw hP hD hS => ?_)
    obtain ⟨q2, hM⟩ := hw.same
    have eq := ((fn_bends hJ _ _).1 _ _ _ _ q1 q2).1
    refine lv_icmp_ne (tgt := 178) hx hb dL_areAlike_171 (by decide) (fun z => absurd eq z) (fun _ => ?_)
    refine lv_iconst (v := 1) hx hb dL_areAlike_174 (by decide) ?_
    refine lv_goto (tgt := 179) hx hb dL_areAlike_175 (by decide) ?_
    refine lv_istore_n (lv' := [(3, .int 1), (4, .int ((nI k))), (0, .ref h), (1, .ref g), (2, .int v)]) hx hb dL_areAlike_179 rfl hl (by decide) rfl (fun ls hl => ?_)
    refine lv_iinc (v := nI (k + 1)) (lv' := [(4, .int ((nI (k + 1)))), (3, .int 1), (0, .ref h), (1, .ref g), (2, .int v)]) hx hb dL_areAlike_180 hl (k := 1) rfl (nI_add k 1) (by decide) rfl (fun ls hl => ?_)
    refine lv_goto (tgt := 64) hx hb dL_areAlike_183 (by decide) ?_
    refine W.widen (k := cells + 8) (n := slots + 48) (by omega) (by omega) ?_
    exact ih (k + 1) u w _ _ _ (cells + 8) (slots + 48) (by omega) (by omega) (by omega) hR hM hP hD hS (lv_sub hl [0, 1, 2, 3, 4] rfl)
set_option maxHeartbeats 4000000 in
set_option maxRecDepth 100000 in
theorem c_L_areAlike (l : Launch) (D : va_G) (hst : l.stackTraces = false) (cI cJ cZ cO : ClassId) (tD mi h g : Nat) (s0 : SG) (u w : KT) (sz : Nat) (v : Int32) (hR : RCt s0 u) (hM : RCt s0 w) (hJ : JS s0) : Met l yL_areAlike wsL_areAlike rm_L_areAlike (va_Pc [.ref h, .ref g, .int v] (PREW tD mi D cI cJ cZ cO (WCt cI cJ cO h u ++ WCt cI cJ cO g w) sz)) (va_Qi (fun r (x : KT × KT) => r = 1 ∧ RCt s0 x.1 ∧ RCt s0 x.2) (fun x t => POST D (va_A (WCt cI cJ cO h u ++ WCt cI cJ cO g w) sz) (WCt cI cJ cO h x.1 ++ WCt cI cJ cO g x.2) t) (va_A (WCt cI cJ cO h u ++ WCt cI cJ cO g w) sz)) 42 252 (va_A (WCt cI cJ cO h u ++ WCt cI cJ cO g w) sz) := by
  refine met_goA (cc := cL_areAlike) (maxL := 5) (ret := some .boolean) RL rfl (by decide) rfl (Nat.le_of_ble_eq_true rfl) ?_
  intro p e9 s m args below meth c ls hx hb hr hts hown hlocks hml hP hK hE hT hLS hN hD hA hS hl
  generalize va_A (WCt cI cJ cO h u ++ WCt cI cJ cO g w) sz = A at hD hA hS hT hLS ⊢
  have C : LQ p l s m args meth c D cI cJ cZ cO tD mi A cL_areAlike 5 wsL_areAlike := ⟨hx, hb, hr, hml, hown, hts, hlocks, hst, hK, hE, hT, hLS, hN, hA⟩
  obtain ⟨QQ, hQQ⟩ : ∃ Q, Q = (MQ below (va_Qi (fun r (x : KT × KT) => r = 1 ∧ RCt s0 x.1 ∧ RCt s0 x.2) (fun x t => POST D A (WCt cI cJ cO h x.1 ++ WCt cI cJ cO g x.2) t) A) args s 42 252 A) := ⟨_, rfl⟩
  rw [← hQQ]
  have hl : lv_has ls 5 [(0, .ref h), (1, .ref g), (2, .int v)] := hl
  have K : ∀ (u w : KT) (H : Heap) (locs : List Loc) (ls : Array Slot), RCt s0 u → RCt s0 w → va_P D vwCl (WCt cI cJ cO h u ++ WCt cI cJ cO g w) H → va_D A (WCt cI cJ cO h u ++ WCt cI cJ cO g w) → va_S A s.heap H locs → lv_has ls 5 [(3, .int 1), (0, .ref h), (1, .ref g), (2, .int v)] → W p l e9 rm_L_areAlike s m args below meth c H locs 40 240 QQ (F0 m 186 ls []) := by
    intro u w H locs ls hR hM hP hD hS hl
    refine lv_iload_n hx hb dL_areAlike_186 rfl (lv_at hl 0 rfl) ?_
    refine lv_if_eq (tgt := 219) hx hb dL_areAlike_187 (by decide) (fun z => absurd z (by decide)) (fun _ => ?_)
    refine lv_aload_n hx hb dL_areAlike_190 rfl (lv_at hl 1 rfl) ?_
    refine lv_iload_n hx hb dL_areAlike_191 rfl (lv_at hl 3 rfl) ?_
    refine lv_iconst (v := 5) hx hb dL_areAlike_192 (by decide) ?_
    refine lv_ishr hx hb dL_areAlike_193 ?_
    refine lv_iconst (v := 3) hx hb dL_areAlike_194 (by decide) ?_
    refine ca_i (wa := fun (_ : Unit) => WCt cI cJ cO h u ++ WCt cI cJ cO g w) (cut_nil hP hD hS hA) hS (va_runS (As := [.int ((v >>> (5 &&& 31))), .int 3]) (rest := [.ref h]) ⟨hx, hb, hml, hown, hts⟩ (c_L_low l D cI cJ cZ cO H.size ((v >>> (5 &&& 31))) 3 (fun r => r = lowI ((v >>> (5 &&& 31))) 3) ⟨by decide, rfl⟩) (va_cwS 2 hts gL_areAlike_L_low rfl rfl rfl (by decide +kernel) ⟨Nat.le_of_ble_eq_true rfl, Nat.le_of_ble_eq_true rfl⟩) ((cut_nil hP hD hS hA).preS hK hE) rfl rfl hl.1 rfl (lv_room (Nat.le_of_ble_eq_true rfl)) dL_areAlike_195 ⟨by show _ ≤ 42; omega, by show _ ≤ 252; omega⟩) (fun r _ H locs hw hP hD hS => ?_)
    obtain rfl := hw
    have hCut := Cut.left hP hD hS hA (cut_all (w1 := fun (u : KT) => WCt cI cJ cO h u) (va_P_app.mp hP).1 (hD.inner (n := H.size)).1 va_S.rf (fun q h9 => Or.inr h9))
    refine ca_i (wa := fun (u : KT) => WCt cI cJ cO h u ++ WCt cI cJ cO g w) hCut hS (vx_runSW (As := [.ref h, .int ((lowI ((v >>> (5 &&& 31))) 3))]) (rest := []) ⟨hx, hb, hml, hown, hts⟩ (c_L_waste l D hst cI cJ cZ cO tD mi h s0 u _ ((lowI ((v >>> (5 &&& 31))) 3)) hR) (vx_cwSW 2 hts gL_areAlike_L_waste rfl rfl rfl (by decide +kernel) ⟨Nat.le_of_ble_eq_true rfl, Nat.le_of_ble_eq_true rfl⟩) (hCut.preSW hK hE hT hLS hN hS) rfl rfl hl.1 rfl (lv_room (Nat.le_of_ble_eq_true rfl)) dL_areAlike_198 ⟨by show _ ≤ 42; omega, by show _ ≤ 252; omega⟩) (fun r198 u H locs hw hP hD hS => ?_)
    obtain ⟨q1, hR⟩ := hw.same
    refine lv_aload_n hx hb dL_areAlike_201 rfl (lv_at hl 2 rfl) ?_
    refine lv_iload_n hx hb dL_areAlike_202 rfl (lv_at hl 3 rfl) ?_
    refine lv_iconst (v := 5) hx hb dL_areAlike_203 (by decide) ?_
    refine lv_ishr hx hb dL_areAlike_204 ?_
    refine lv_iconst (v := 3) hx hb dL_areAlike_205 (by decide) ?_
    refine ca_i (wa := fun (_ : Unit) => WCt cI cJ cO h u ++ WCt cI cJ cO g w) (cut_nil hP hD hS hA) hS (va_runS (As := [.int ((v >>> (5 &&& 31))), .int 3]) (rest := [.ref g, .int r198]) ⟨hx, hb, hml, hown, hts⟩ (c_L_low l D cI cJ cZ cO H.size ((v >>> (5 &&& 31))) 3 (fun r => r = lowI ((v >>> (5 &&& 31))) 3) ⟨by decide, rfl⟩) (va_cwS 2 hts gL_areAlike_L_low rfl rfl rfl (by decide +kernel) ⟨Nat.le_of_ble_eq_true rfl, Nat.le_of_ble_eq_true rfl⟩) ((cut_nil hP hD hS hA).preS hK hE) rfl rfl hl.1 rfl (lv_room (Nat.le_of_ble_eq_true rfl)) dL_areAlike_206 ⟨by show _ ≤ 42; omega, by show _ ≤ 252; omega⟩) (fun r _ H locs hw hP hD hS => ?_)
    obtain rfl := hw
    have hCut := Cut.right hP hD hS hA (cut_all (w1 := fun (w : KT) => WCt cI cJ cO g w) (va_P_app.mp hP).2 (hD.inner (n := H.size)).2 va_S.rf (fun q h9 => Or.inr h9))
    refine ca_i (wa := fun (w : KT) => WCt cI cJ cO h u ++ WCt cI cJ cO g w) hCut hS (vx_runSW (As := [.ref g, .int ((lowI ((v >>> (5 &&& 31))) 3))]) (rest := [.int r198]) ⟨hx, hb, hml, hown, hts⟩ (c_L_waste l D hst cI cJ cZ cO tD mi g s0 w _ ((lowI ((v >>> (5 &&& 31))) 3)) hM) (vx_cwSW 2 hts gL_areAlike_L_waste rfl rfl rfl (by decide +kernel) ⟨Nat.le_of_ble_eq_true rfl, Nat.le_of_ble_eq_true rfl⟩) (hCut.preSW hK hE hT hLS hN hS) rfl rfl hl.1 rfl (lv_room (Nat.le_of_ble_eq_true rfl)) dL_areAlike_209 ⟨by show _ ≤ 42; omega, by show _ ≤ 252; omega⟩) (fun r209 w H locs hw hP hD hS => ?_)
    obtain ⟨q2, hM⟩ := hw.same
    have eq := ((fn_waste hJ _).1 _ _ _ _ q1 q2).1
    refine lv_icmp_ne (tgt := 219) hx hb dL_areAlike_212 (by decide) (fun z => absurd eq z) (fun _ => ?_)
    refine lv_iconst (v := 1) hx hb dL_areAlike_215 (by decide) ?_
    refine lv_goto (tgt := 220) hx hb dL_areAlike_216 (by decide) ?_
    refine W.widen (k := 42) (n := 252) (by omega) (by omega) ?_
    rw [hQQ]
    exact rt_z (S := KT × KT) (post := (fun r (x : KT × KT) => r = 1 ∧ RCt s0 x.1 ∧ RCt s0 x.2)) (Wf := fun x => WCt cI cJ cO h x.1 ++ WCt cI cJ cO g x.2) (u, w) hx hb hr hlocks (Or.inr rfl) ⟨rfl, hR, hM⟩ hP hD hS dL_areAlike_220
  refine lv_aload_n hx hb dL_areAlike_0 rfl (lv_at hl 0 rfl) ?_
  have hCut := Cut.left hP hD hS hA (cut_all (w1 := fun (u : KT) => WCt cI cJ cO h u) (va_P_app.mp hP).1 (hD.inner (n := s.heap.size)).1 va_S.rf (fun q h9 => Or.inr h9))
  refine ca_i (wa := fun (u : KT) => WCt cI cJ cO h u ++ WCt cI cJ cO g w) hCut hS (va_runV (As := []) (rest := []) ⟨hx, hb, hml, hown, hts⟩ (v_X4_pieces l D cI cJ cZ cO h s0 u _ hR) (cwV 0 hts gL_areAlike_X4_pieces rfl rfl rfl (by decide +kernel) ⟨Nat.le_of_ble_eq_true rfl, Nat.le_of_ble_eq_true rfl⟩) (hCut.preVV hK hE) rfl rfl hl.1 rfl (lv_room (Nat.le_of_ble_eq_true rfl)) dL_areAlike_1 ⟨by show _ ≤ 42; omega, by show _ ≤ 252; omega⟩) (fun r1 u H locs hw hP hD hS => ?_)
  obtain ⟨q1, hR⟩ := hw.same
  refine lv_aload_n hx hb dL_areAlike_4 rfl (lv_at hl 1 rfl) ?_
  have hCut := Cut.right hP hD hS hA (cut_all (w1 := fun (w : KT) => WCt cI cJ cO g w) (va_P_app.mp hP).2 (hD.inner (n := H.size)).2 va_S.rf (fun q h9 => Or.inr h9))
  refine ca_i (wa := fun (w : KT) => WCt cI cJ cO h u ++ WCt cI cJ cO g w) hCut hS (va_runV (As := []) (rest := [.int r1]) ⟨hx, hb, hml, hown, hts⟩ (v_X4_pieces l D cI cJ cZ cO g s0 w _ hM) (cwV 0 hts gL_areAlike_X4_pieces rfl rfl rfl (by decide +kernel) ⟨Nat.le_of_ble_eq_true rfl, Nat.le_of_ble_eq_true rfl⟩) (hCut.preVV hK hE) rfl rfl hl.1 rfl (lv_room (Nat.le_of_ble_eq_true rfl)) dL_areAlike_5 ⟨by show _ ≤ 42; omega, by show _ ≤ 252; omega⟩) (fun r5 w H locs hw hP hD hS => ?_)
  obtain ⟨q2, hM⟩ := hw.same
  have eq := ((fn_pieces hJ).1 _ _ _ _ q1 q2).1
  refine lv_icmp_ne (tgt := 59) hx hb dL_areAlike_8 (by decide) (fun z => absurd eq z) (fun _ => ?_)
  refine lv_aload_n hx hb dL_areAlike_11 rfl (lv_at hl 0 rfl) ?_
  have hCut := Cut.left hP hD hS hA (cut_all (w1 := fun (u : KT) => WCt cI cJ cO h u) (va_P_app.mp hP).1 (hD.inner (n := H.size)).1 va_S.rf (fun q h9 => Or.inr h9))
  refine ca_i (wa := fun (u : KT) => WCt cI cJ cO h u ++ WCt cI cJ cO g w) hCut hS (va_runV (As := []) (rest := []) ⟨hx, hb, hml, hown, hts⟩ (v_X4_lead l D cI cJ cZ cO h s0 u _ hR) (cwV 0 hts gL_areAlike_X4_lead rfl rfl rfl (by decide +kernel) ⟨Nat.le_of_ble_eq_true rfl, Nat.le_of_ble_eq_true rfl⟩) (hCut.preVV hK hE) rfl rfl hl.1 rfl (lv_room (Nat.le_of_ble_eq_true rfl)) dL_areAlike_12 ⟨by show _ ≤ 42; omega, by show _ ≤ 252; omega⟩) (fun r12 u H locs hw hP hD hS => ?_)
  obtain ⟨q1, hR⟩ := hw.same
  refine lv_aload_n hx hb dL_areAlike_15 rfl (lv_at hl 1 rfl) ?_
  have hCut := Cut.right hP hD hS hA (cut_all (w1 := fun (w : KT) => WCt cI cJ cO g w) (va_P_app.mp hP).2 (hD.inner (n := H.size)).2 va_S.rf (fun q h9 => Or.inr h9))
  refine ca_i (wa := fun (w : KT) => WCt cI cJ cO h u ++ WCt cI cJ cO g w) hCut hS (va_runV (As := []) (rest := [.int r12]) ⟨hx, hb, hml, hown, hts⟩ (v_X4_lead l D cI cJ cZ cO g s0 w _ hM) (cwV 0 hts gL_areAlike_X4_lead rfl rfl rfl (by decide +kernel) ⟨Nat.le_of_ble_eq_true rfl, Nat.le_of_ble_eq_true rfl⟩) (hCut.preVV hK hE) rfl rfl hl.1 rfl (lv_room (Nat.le_of_ble_eq_true rfl)) dL_areAlike_16 ⟨by show _ ≤ 42; omega, by show _ ≤ 252; omega⟩) (fun r16 w H locs hw hP hD hS => ?_)
  obtain ⟨q2, hM⟩ := hw.same
  have eq := ((fn_lead hJ).1 _ _ _ _ q1 q2).1
  refine lv_icmp_ne (tgt := 59) hx hb dL_areAlike_19 (by decide) (fun z => absurd eq z) (fun _ => ?_)
  refine lv_aload_n hx hb dL_areAlike_22 rfl (lv_at hl 0 rfl) ?_
  have hCut := Cut.left hP hD hS hA (cut_all (w1 := fun (u : KT) => WCt cI cJ cO h u) (va_P_app.mp hP).1 (hD.inner (n := H.size)).1 va_S.rf (fun q h9 => Or.inr h9))
  refine ca_i (wa := fun (u : KT) => WCt cI cJ cO h u ++ WCt cI cJ cO g w) hCut hS (va_runV (As := []) (rest := []) ⟨hx, hb, hml, hown, hts⟩ (v_X4_joints l D cI cJ cZ cO h s0 u _ hR) (cwV 0 hts gL_areAlike_X4_joints rfl rfl rfl (by decide +kernel) ⟨Nat.le_of_ble_eq_true rfl, Nat.le_of_ble_eq_true rfl⟩) (hCut.preVV hK hE) rfl rfl hl.1 rfl (lv_room (Nat.le_of_ble_eq_true rfl)) dL_areAlike_23 ⟨by show _ ≤ 42; omega, by show _ ≤ 252; omega⟩) (fun r23 u H locs hw hP hD hS => ?_)
  obtain ⟨q1, hR⟩ := hw.same
  refine lv_aload_n hx hb dL_areAlike_26 rfl (lv_at hl 1 rfl) ?_
  have hCut := Cut.right hP hD hS hA (cut_all (w1 := fun (w : KT) => WCt cI cJ cO g w) (va_P_app.mp hP).2 (hD.inner (n := H.size)).2 va_S.rf (fun q h9 => Or.inr h9))
  refine ca_i (wa := fun (w : KT) => WCt cI cJ cO h u ++ WCt cI cJ cO g w) hCut hS (va_runV (As := []) (rest := [.int r23]) ⟨hx, hb, hml, hown, hts⟩ (v_X4_joints l D cI cJ cZ cO g s0 w _ hM) (cwV 0 hts gL_areAlike_X4_joints rfl rfl rfl (by decide +kernel) ⟨Nat.le_of_ble_eq_true rfl, Nat.le_of_ble_eq_true rfl⟩) (hCut.preVV hK hE) rfl rfl hl.1 rfl (lv_room (Nat.le_of_ble_eq_true rfl)) dL_areAlike_27 ⟨by show _ ≤ 42; omega, by show _ ≤ 252; omega⟩) (fun r27 w H locs hw hP hD hS => ?_)
  obtain ⟨q2, hM⟩ := hw.same
  have eq := ((fn_joints hJ).1 _ _ _ _ q1 q2).1
  refine lv_icmp_ne (tgt := 59) hx hb dL_areAlike_30 (by decide) (fun z => absurd eq z) (fun _ => ?_)
  refine lv_aload_n hx hb dL_areAlike_33 rfl (lv_at hl 0 rfl) ?_
  have hCut := Cut.left hP hD hS hA (cut_all (w1 := fun (u : KT) => WCt cI cJ cO h u) (va_P_app.mp hP).1 (hD.inner (n := H.size)).1 va_S.rf (fun q h9 => Or.inr h9))
  refine ca_i (wa := fun (u : KT) => WCt cI cJ cO h u ++ WCt cI cJ cO g w) hCut hS (va_runV (As := []) (rest := []) ⟨hx, hb, hml, hown, hts⟩ (v_X4_weight l D cI cJ cZ cO h s0 u _ hR) (cwV 0 hts gL_areAlike_X4_weight rfl rfl rfl (by decide +kernel) ⟨Nat.le_of_ble_eq_true rfl, Nat.le_of_ble_eq_true rfl⟩) (hCut.preVV hK hE) rfl rfl hl.1 rfl (lv_room (Nat.le_of_ble_eq_true rfl)) dL_areAlike_34 ⟨by show _ ≤ 42; omega, by show _ ≤ 252; omega⟩) (fun r34 u H locs hw hP hD hS => ?_)
  obtain ⟨q1, hR⟩ := hw.same
  refine lv_aload_n hx hb dL_areAlike_37 rfl (lv_at hl 1 rfl) ?_
  have hCut := Cut.right hP hD hS hA (cut_all (w1 := fun (w : KT) => WCt cI cJ cO g w) (va_P_app.mp hP).2 (hD.inner (n := H.size)).2 va_S.rf (fun q h9 => Or.inr h9))
  refine ca_i (wa := fun (w : KT) => WCt cI cJ cO h u ++ WCt cI cJ cO g w) hCut hS (va_runV (As := []) (rest := [.int r34]) ⟨hx, hb, hml, hown, hts⟩ (v_X4_weight l D cI cJ cZ cO g s0 w _ hM) (cwV 0 hts gL_areAlike_X4_weight rfl rfl rfl (by decide +kernel) ⟨Nat.le_of_ble_eq_true rfl, Nat.le_of_ble_eq_true rfl⟩) (hCut.preVV hK hE) rfl rfl hl.1 rfl (lv_room (Nat.le_of_ble_eq_true rfl)) dL_areAlike_38 ⟨by show _ ≤ 42; omega, by show _ ≤ 252; omega⟩) (fun r38 w H locs hw hP hD hS => ?_)
  obtain ⟨q2, hM⟩ := hw.same
  have eq := ((fn_weight hJ).1 _ _ _ _ q1 q2).1
  refine lv_icmp_ne (tgt := 59) hx hb dL_areAlike_41 (by decide) (fun z => absurd eq z) (fun _ => ?_)
  refine lv_aload_n hx hb dL_areAlike_44 rfl (lv_at hl 0 rfl) ?_
  have hCut := Cut.left hP hD hS hA (cut_all (w1 := fun (u : KT) => WCt cI cJ cO h u) (va_P_app.mp hP).1 (hD.inner (n := H.size)).1 va_S.rf (fun q h9 => Or.inr h9))
  refine ca_i (wa := fun (u : KT) => WCt cI cJ cO h u ++ WCt cI cJ cO g w) hCut hS (va_runV (As := []) (rest := []) ⟨hx, hb, hml, hown, hts⟩ (v_X4_isShut l D cI cJ cZ cO h s0 u _ hR) (cwV 0 hts gL_areAlike_X4_isShut rfl rfl rfl (by decide +kernel) ⟨Nat.le_of_ble_eq_true rfl, Nat.le_of_ble_eq_true rfl⟩) (hCut.preVV hK hE) rfl rfl hl.1 rfl (lv_room (Nat.le_of_ble_eq_true rfl)) dL_areAlike_45 ⟨by show _ ≤ 42; omega, by show _ ≤ 252; omega⟩) (fun r45 u H locs hw hP hD hS => ?_)
  obtain ⟨q1, hR⟩ := hw.same
  refine lv_aload_n hx hb dL_areAlike_48 rfl (lv_at hl 1 rfl) ?_
  have hCut := Cut.right hP hD hS hA (cut_all (w1 := fun (w : KT) => WCt cI cJ cO g w) (va_P_app.mp hP).2 (hD.inner (n := H.size)).2 va_S.rf (fun q h9 => Or.inr h9))
  refine ca_i (wa := fun (w : KT) => WCt cI cJ cO h u ++ WCt cI cJ cO g w) hCut hS (va_runV (As := []) (rest := [.int r45]) ⟨hx, hb, hml, hown, hts⟩ (v_X4_isShut l D cI cJ cZ cO g s0 w _ hM) (cwV 0 hts gL_areAlike_X4_isShut rfl rfl rfl (by decide +kernel) ⟨Nat.le_of_ble_eq_true rfl, Nat.le_of_ble_eq_true rfl⟩) (hCut.preVV hK hE) rfl rfl hl.1 rfl (lv_room (Nat.le_of_ble_eq_true rfl)) dL_areAlike_49 ⟨by show _ ≤ 42; omega, by show _ ≤ 252; omega⟩) (fun r49 w H locs hw hP hD hS => ?_)
  obtain ⟨q2, hM⟩ := hw.same
  have eq := ((fn_isShut hJ).1 _ _ _ _ q1 q2).1
  refine lv_icmp_ne (tgt := 59) hx hb dL_areAlike_52 (by decide) (fun z => absurd eq z) (fun _ => ?_)
  refine lv_iconst (v := 1) hx hb dL_areAlike_55 (by decide) ?_
  refine lv_goto (tgt := 60) hx hb dL_areAlike_56 (by decide) ?_
  refine lv_istore_n (lv' := [(3, .int 1), (0, .ref h), (1, .ref g), (2, .int v)]) hx hb dL_areAlike_60 rfl hl (by decide) rfl (fun ls hl => ?_)
  refine lv_iconst (v := 0) hx hb dL_areAlike_61 (by decide) ?_
  refine lv_istore (lv' := [(4, .int 0), (3, .int 1), (0, .ref h), (1, .ref g), (2, .int v)]) hx hb dL_areAlike_62 hl (by decide) rfl (fun ls hl => ?_)
  exact ql_loop C hJ K 5 0 u w _ _ _ _ _ (by omega) (by omega) (by omega) hR hM hP hD hS (lv_sub hl [0, 1, 2, 3, 4] rfl)
end ALIKE
