/-! the law's loop -/
/-- what holds all the law long: the machine, the script, what the start gives -/
def LC (p : Program) (l : Launch) (s : State) (m : MethodId) (meth : Method) (c : Code) (b L : Nat) (xs : Nat → Int32) (D : va_G) (cI cJ cZ cO : ClassId) (tD mi : Nat) : Prop :=
  p.tables.exec = Jvm.exec ∧ c.code = cL_law ∧ meth.sig.returnType = some .boolean ∧ c.maxLocals = 6 ∧ s.vm.findClass RL = some m.cls ∧ (∀ w ∈ wsL_law, w.before #[Value.ref b] s = true) ∧ va_X b L xs s s.heap ∧ b < s.heap.size ∧ meth.locks = false ∧ l.stackTraces = false ∧ va_K D vwCl (TY cI cJ cZ cO) s ∧ EN s ∧ THR (AL s) s s.heap ∧ LST tD mi (AL s) s s.heap ∧ NC s
theorem KT.is {s0 : SG} {u : KT} (h : RCt s0 u) : IS s0 := by
  obtain ⟨n, hv, sw, m_cap, a, aC, aM, aW, aN, aF, aL, ad, af, br, md, el, ow, su, wr, wc, nr, nc, fr, fc, lq, lh, lw, lsp, x1, x2, x3, x4, x5, qc, qs, ql, qt, qo, qh, qf, qth, v⟩ := u
  exact h.1
section LOOP
variable {p : Program} {l : Launch} {e9 : Env} {s : State} {m : MethodId} {below : List Frame} {meth : Method} {c : Code} {b L : Nat} {xs : Nat → Int32} {D : va_G} {cI cJ cZ cO : ClassId} {tD mi h g : Nat} {Q : State → Prop}
set_option maxHeartbeats 4000000 in
set_option maxRecDepth 100000 in
theorem k_loop (C : LC p l s m meth c b L xs D cI cJ cZ cO tD mi) (hL : L ≤ 260) (hQ : ∀ (H : Heap) (ls : Array Slot), W p l e9 room_1 s m #[Value.ref b] below meth c H [] 600130 7301080 Q (F0 m 119 ls [.int 1])) : ∀ (r k : Nat) (s0 : SG) (u w : KT) (H : Heap) (locs : List Loc) (ls : Array Slot) (cells slots : Nat), k + r = 80 → cells + 500 * r ≤ 600130 → slots + 3000 * r ≤ 7301080 → RCt s0 u → RCt s0 w → JS s0 → va_P D vwCl (WCt cI cJ cO h u ++ WCt cI cJ cO g w) H → va_D (AL s) (WCt cI cJ cO h u ++ WCt cI cJ cO g w) → va_S (AL s) s.heap H locs → lv_has ls 6 [(3, .int ((nI k))), (0, .ref b), (1, .ref h), (2, .ref g)] → W p l e9 room_1 s m #[Value.ref b] below meth c H locs (cells) (slots) Q (F0 m 18 ls []) := by
  obtain ⟨hx, hb, hr, hml, hown, hts, hX, hbl, hlocks, hst, hK, hE, hT, hLS, hN⟩ := C
  have hA : ∀ q, s.heap.size ≤ q → AL s q := fun _ h9 => h9
  intro r
  induction r with
  | zero =>
    intro k s0 u w H locs ls cells slots hk hc hs hR hM hJ hP hD hS hl
    have ek : k = 80 := by omega
    subst ek
    refine lv_iload_n hx hb dL_law_18 rfl (lv_at hl 0 rfl) ?_
    refine lv_bipush (v := 80) hx hb dL_law_19 (by decide) ?_
    refine lv_icmp_ge (tgt := 118) hx hb dL_law_21 (by decide) (fun _ => ?_) (fun z => absurd (show (80 : Int32) ≤ nI 80 by decide) z)
    refine W.widen (k := 600130) (n := 7301080) (by omega) (by omega) ?_
    refine va_forget hS.2.2 ?_
    refine lv_iconst (v := 1) hx hb dL_law_118 (by decide) ?_
    exact hQ _ _
  | succ r ih =>
    intro k s0 u w H locs ls cells slots hk hc hs hR hM hJ hP hD hS hl
    have K112 : ∀ (v : Int32) (s1 : SG) (u w : KT) (H : Heap) (locs : List Loc) (ls : Array Slot), RCt s1 u → RCt s1 w → JS s1 → va_P D vwCl (WCt cI cJ cO h u ++ WCt cI cJ cO g w) H → va_D (AL s) (WCt cI cJ cO h u ++ WCt cI cJ cO g w) → va_S (AL s) s.heap H locs → lv_has ls 6 [(4, .int v), (3, .int ((nI k))), (0, .ref b), (1, .ref h), (2, .ref g)] → W p l e9 room_1 s m #[Value.ref b] below meth c H locs (cells + 500) (slots + 3000) Q (F0 m 112 ls []) := by
      intro v s1 u w H locs ls hR hM hJ hP hD hS hl
      refine lv_iinc (v := nI (k + 1)) (lv' := [(3, .int ((nI (k + 1)))), (4, .int v), (0, .ref b), (1, .ref h), (2, .ref g)]) hx hb dL_law_112 hl (k := 1) rfl (nI_add k 1) (by decide) rfl (fun ls hl => ?_)
      refine lv_goto (tgt := 18) hx hb dL_law_115 (by decide) ?_
      exact ih (k + 1) s1 u w _ _ _ (cells + 500) (slots + 3000) (by omega) (by omega) (by omega) hR hM hJ hP hD hS (lv_sub hl [0, 2, 3, 4] rfl)
    have K95 : ∀ (v : Int32) (s1 : SG) (u w : KT) (H : Heap) (locs : List Loc) (ls : Array Slot), RCt s1 u → RCt s1 w → JS s1 → va_P D vwCl (WCt cI cJ cO h u ++ WCt cI cJ cO g w) H → va_D (AL s) (WCt cI cJ cO h u ++ WCt cI cJ cO g w) → va_S (AL s) s.heap H locs → lv_has ls 6 [(4, .int v), (3, .int ((nI k))), (0, .ref b), (1, .ref h), (2, .ref g)] → W p l e9 room_1 s m #[Value.ref b] below meth c H locs (cells + 259) (slots + 1750) Q (F0 m 95 ls []) := by
      intro v s1 u w H locs ls hR hM hJ hP hD hS hl
      refine lv_iload_n hx hb dL_law_95 rfl (lv_at hl 1 rfl) ?_
      refine lv_bipush (v := 79) hx hb dL_law_96 (by decide) ?_
      refine lv_icmp_ne (tgt := 112) hx hb dL_law_98 (by decide) (fun c98 => ?_) (fun c98 => ?_)
      · refine W.widen (k := cells + 500) (n := slots + 3000) (by omega) (by omega) ?_
        exact K112 v s1 u w _ _ _ hR hM hJ hP hD hS (lv_sub hl [0, 1, 2, 3, 4] rfl)
      · refine lv_aload_n hx hb dL_law_101 rfl (lv_at hl 3 rfl) ?_
        refine lv_iload hx hb dL_law_102 (lv_at hl 0 rfl) ?_
        have hCut := Cut.left hP hD hS hA (cut_all (w1 := fun (u : KT) => WCt cI cJ cO h u) (va_P_app.mp hP).1 (hD.inner (n := H.size)).1 va_S.rf (fun q h9 => Or.inr h9))
        refine ca_i (wa := fun (u : KT) => WCt cI cJ cO h u ++ WCt cI cJ cO g w) hCut hS (va_runS (As := [.ref h, .int v]) (rest := []) ⟨hx, hb, hml, hown, hts⟩ (c_L_isSo l D hst cI cJ cZ cO tD mi h s1 u _ v hR (KT.is hR) hJ) (va_cwS 2 hts gL_law_L_isSo rfl rfl rfl (by decide +kernel) ⟨Nat.le_of_ble_eq_true rfl, Nat.le_of_ble_eq_true rfl⟩) (hCut.preSW hK hE hT hLS hN hS) rfl rfl hl.1 rfl (lv_room (Nat.le_of_ble_eq_true rfl)) dL_law_104 ⟨by show _ ≤ 600130; omega, by show _ ≤ 7301080; omega⟩) (fun r104 u H locs hw hP hD hS => ?_)
        obtain ⟨hr1, hR⟩ := hw
        refine lv_if_ne (tgt := 112) hx hb dL_law_107 (by decide) (fun _ => ?_) (fun z => absurd z (by rw [hr1]; decide))
        refine W.widen (k := cells + 500) (n := slots + 3000) (by omega) (by omega) ?_
        exact K112 v s1 u w _ _ _ hR hM hJ hP hD hS (lv_sub hl [0, 1, 2, 3, 4] rfl)
    have K80 : ∀ (v : Int32) (s1 : SG) (u w : KT) (H : Heap) (locs : List Loc) (ls : Array Slot), RCt s1 u → RCt s1 w → JS s1 → va_P D vwCl (WCt cI cJ cO h u ++ WCt cI cJ cO g w) H → va_D (AL s) (WCt cI cJ cO h u ++ WCt cI cJ cO g w) → va_S (AL s) s.heap H locs → lv_has ls 6 [(4, .int v), (3, .int ((nI k))), (0, .ref b), (1, .ref h), (2, .ref g)] → W p l e9 room_1 s m #[Value.ref b] below meth c H locs (cells + 54) (slots + 520) Q (F0 m 80 ls []) := by
      intro v s1 u w H locs ls hR hM hJ hP hD hS hl
      refine lv_iload_n hx hb dL_law_80 rfl (lv_at hl 1 rfl) ?_
      refine lv_bipush (v := 44) hx hb dL_law_81 (by decide) ?_
      refine lv_icmp_ne (tgt := 95) hx hb dL_law_83 (by decide) (fun c83 => ?_) (fun c83 => ?_)
      · refine W.widen (k := cells + 259) (n := slots + 1750) (by omega) (by omega) ?_
        exact K95 v s1 u w _ _ _ hR hM hJ hP hD hS (lv_sub hl [0, 1, 2, 3, 4] rfl)
      · refine lv_aload_n hx hb dL_law_86 rfl (lv_at hl 3 rfl) ?_
        refine lv_iload hx hb dL_law_87 (lv_at hl 0 rfl) ?_
        have hCut := Cut.left hP hD hS hA (cut_all (w1 := fun (u : KT) => WCt cI cJ cO h u) (va_P_app.mp hP).1 (hD.inner (n := H.size)).1 va_S.rf (fun q h9 => Or.inr h9))
        refine ca_i (wa := fun (u : KT) => WCt cI cJ cO h u ++ WCt cI cJ cO g w) hCut hS (va_runS (As := [.ref h, .int v]) (rest := []) ⟨hx, hb, hml, hown, hts⟩ (c_L_isSo l D hst cI cJ cZ cO tD mi h s1 u _ v hR (KT.is hR) hJ) (va_cwS 2 hts gL_law_L_isSo rfl rfl rfl (by decide +kernel) ⟨Nat.le_of_ble_eq_true rfl, Nat.le_of_ble_eq_true rfl⟩) (hCut.preSW hK hE hT hLS hN hS) rfl rfl hl.1 rfl (lv_room (Nat.le_of_ble_eq_true rfl)) dL_law_89 ⟨by show _ ≤ 600130; omega, by show _ ≤ 7301080; omega⟩) (fun r89 u H locs hw hP hD hS => ?_)
        obtain ⟨hr1, hR⟩ := hw
        refine lv_if_eq (tgt := 110) hx hb dL_law_92 (by decide) (fun z => absurd z (by rw [hr1]; decide)) (fun _ => ?_)
        refine W.widen (k := cells + 259) (n := slots + 1750) (by omega) (by omega) ?_
        exact K95 v s1 u w _ _ _ hR hM hJ hP hD hS (lv_sub hl [0, 1, 2, 3, 4] rfl)
    have K59 : ∀ (v : Int32) (s1 : SG) (u w : KT) (H : Heap) (locs : List Loc) (ls : Array Slot), RCt s1 u → RCt s1 w → JS s1 → va_P D vwCl (WCt cI cJ cO h u ++ WCt cI cJ cO g w) H → va_D (AL s) (WCt cI cJ cO h u ++ WCt cI cJ cO g w) → va_S (AL s) s.heap H locs → lv_has ls 6 [(4, .int v), (3, .int ((nI k))), (0, .ref b), (1, .ref h), (2, .ref g)] → W p l e9 room_1 s m #[Value.ref b] below meth c H locs (cells + 12) (slots + 268) Q (F0 m 59 ls []) := by
      intro v s1 u w H locs ls hR hM hJ hP hD hS hl
      refine lv_iload_n hx hb dL_law_59 rfl (lv_at hl 1 rfl) ?_
      refine lv_bipush (v := 20) hx hb dL_law_60 (by decide) ?_
      refine lv_irem hx hb dL_law_62 (by decide) ?_
      refine lv_bipush (v := 19) hx hb dL_law_63 (by decide) ?_
      refine lv_icmp_ne (tgt := 80) hx hb dL_law_65 (by decide) (fun c65 => ?_) (fun c65 => ?_)
      · refine W.widen (k := cells + 54) (n := slots + 520) (by omega) (by omega) ?_
        exact K80 v s1 u w _ _ _ hR hM hJ hP hD hS (lv_sub hl [0, 1, 2, 3, 4] rfl)
      · refine lv_aload_n hx hb dL_law_68 rfl (lv_at hl 3 rfl) ?_
        refine lv_aload_n hx hb dL_law_69 rfl (lv_at hl 4 rfl) ?_
        refine lv_iload hx hb dL_law_70 (lv_at hl 0 rfl) ?_
        refine lv_iconst (v := 3) hx hb dL_law_72 (by decide) ?_
        refine lv_ishr hx hb dL_law_73 ?_
        have hCut := cut_all (S := KT × KT) (w1 := fun (x : KT × KT) => WCt cI cJ cO h x.1 ++ WCt cI cJ cO g x.2) hP hD hS hA
        refine ca_i (wa := fun (x : KT × KT) => WCt cI cJ cO h x.1 ++ WCt cI cJ cO g x.2) hCut hS (va_runS (As := [.ref h, .ref g, .int ((v >>> (3 &&& 31)))]) (rest := []) ⟨hx, hb, hml, hown, hts⟩ (c_L_areAlike l D hst cI cJ cZ cO tD mi h g s1 u w _ ((v >>> (3 &&& 31))) hR hM hJ) (va_cwS 3 hts gL_law_L_areAlike rfl rfl rfl (by decide +kernel) ⟨Nat.le_of_ble_eq_true rfl, Nat.le_of_ble_eq_true rfl⟩) (hCut.preSW hK hE hT hLS hN hS) rfl rfl hl.1 rfl (lv_room (Nat.le_of_ble_eq_true rfl)) dL_law_74 ⟨by show _ ≤ 600130; omega, by show _ ≤ 7301080; omega⟩) (fun r74 x H locs hw hP hD hS => ?_)
        obtain ⟨u, w⟩ := x
        obtain ⟨hr1, hR, hM⟩ := hw
        refine lv_if_eq (tgt := 110) hx hb dL_law_77 (by decide) (fun z => absurd z (by rw [hr1]; decide)) (fun _ => ?_)
        refine W.widen (k := cells + 54) (n := slots + 520) (by omega) (by omega) ?_
        exact K80 v s1 u w _ _ _ hR hM hJ hP hD hS (lv_sub hl [0, 1, 2, 3, 4] rfl)
    refine lv_iload_n hx hb dL_law_18 rfl (lv_at hl 0 rfl) ?_
    refine lv_bipush (v := 80) hx hb dL_law_19 (by decide) ?_
    refine lv_icmp_ge (tgt := 118) hx hb dL_law_21 (by decide) (fun z => absurd z (show ¬ (80 : Int32) ≤ nI k from le_no (N := 80) (by omega) (by omega))) (fun _ => ?_)
    refine lv_aload_n hx hb dL_law_24 rfl (lv_at hl 1 rfl) ?_
    refine lv_iload_n hx hb dL_law_25 rfl (lv_at hl 0 rfl) ?_
    have hCut := cut_nil (X := WCt cI cJ cO h u ++ WCt cI cJ cO g w) hP hD hS hA
    refine ca_i (wa := fun (_ : Unit) => WCt cI cJ cO h u ++ WCt cI cJ cO g w) hCut hS (va_runS (As := [.ref b, .int ((nI k))]) (rest := []) ⟨hx, hb, hml, hown, hts⟩ (c_L_cell l D b L xs H.size k (by omega) hL) (va_cwS 2 hts gL_law_L_cell rfl rfl rfl (by decide +kernel) ⟨Nat.le_of_ble_eq_true rfl, Nat.le_of_ble_eq_true rfl⟩) (preSC hX hbl (Nat.not_le.mpr hbl) hS) rfl rfl hl.1 rfl (lv_room (Nat.le_of_ble_eq_true rfl)) dL_law_26 ⟨by show _ ≤ 600130; omega, by show _ ≤ 7301080; omega⟩) (fun v _ H locs hw hP hD hS => ?_)
    refine lv_istore (lv' := [(4, .int v), (3, .int ((nI k))), (0, .ref b), (1, .ref h), (2, .ref g)]) hx hb dL_law_29 hl (by decide) rfl (fun ls hl => ?_)
    refine lv_aload_n hx hb dL_law_31 rfl (lv_at hl 3 rfl) ?_
    refine lv_iload hx hb dL_law_32 (lv_at hl 0 rfl) ?_
    refine lv_iload_n hx hb dL_law_34 rfl (lv_at hl 1 rfl) ?_
    have hCut := Cut.left hP hD hS hA (cut_all (w1 := fun (u : KT) => WCt cI cJ cO h u) (va_P_app.mp hP).1 (hD.inner (n := H.size)).1 va_S.rf (fun q h9 => Or.inr h9))
    refine ca_i (wa := fun (u : KT) => WCt cI cJ cO h u ++ WCt cI cJ cO g w) hCut hS (va_runS (As := [.ref h, .int v, .int ((nI k))]) (rest := []) ⟨hx, hb, hml, hown, hts⟩ (c_L_act l D hst cI cJ cZ cO tD mi h s0 u _ v ((nI k)) hR) (va_cwS 3 hts gL_law_L_act rfl rfl rfl (by decide +kernel) ⟨Nat.le_of_ble_eq_true rfl, Nat.le_of_ble_eq_true rfl⟩) (hCut.preSW hK hE hT hLS hN hS) rfl rfl hl.1 rfl (lv_room (Nat.le_of_ble_eq_true rfl)) dL_law_35 ⟨by show _ ≤ 600130; omega, by show _ ≤ 7301080; omega⟩) (fun r35 u H locs hw hP hD hS => ?_)
    obtain ⟨t1, hq1, hR⟩ := hw
    have hF := fn_act (KT.is hM) hJ v (nI k)
    refine lv_istore (lv' := [(5, .int r35), (4, .int v), (3, .int ((nI k))), (0, .ref b), (1, .ref h), (2, .ref g)]) hx hb dL_law_38 hl (by decide) rfl (fun ls hl => ?_)
    refine lv_iload hx hb dL_law_40 (lv_at hl 0 rfl) ?_
    refine lv_ldc (v := (-99999999)) hx hb hown (hts (.constant RL 16 (-99999999)) (List.mem_of_getElem? (i := 3) rfl)) dL_law_42 ?_
    refine lv_icmp_eq (tgt := 59) hx hb dL_law_44 (by decide) (fun c44 => ?_) (fun c44 => ?_)
    · rw [c44] at hq1
      have et := hF.2.1 t1 hq1
      rw [et] at hR
      refine W.widen (k := cells + 12) (n := slots + 268) (by omega) (by omega) ?_
      exact K59 v s0 u w _ _ _ hR hM hJ hP hD hS (lv_sub hl [1, 2, 3, 4, 5] rfl)
    · refine lv_aload_n hx hb dL_law_47 rfl (lv_at hl 5 rfl) ?_
      refine lv_iload hx hb dL_law_48 (lv_at hl 1 rfl) ?_
      refine lv_iload_n hx hb dL_law_50 rfl (lv_at hl 2 rfl) ?_
      have hCut := Cut.right hP hD hS hA (cut_all (w1 := fun (w : KT) => WCt cI cJ cO g w) (va_P_app.mp hP).2 (hD.inner (n := H.size)).2 va_S.rf (fun q h9 => Or.inr h9))
      refine ca_i (wa := fun (w : KT) => WCt cI cJ cO h u ++ WCt cI cJ cO g w) hCut hS (va_runS (As := [.ref g, .int v, .int ((nI k))]) (rest := []) ⟨hx, hb, hml, hown, hts⟩ (c_L_act l D hst cI cJ cZ cO tD mi g s0 w _ v ((nI k)) hM) (va_cwS 3 hts gL_law_L_act rfl rfl rfl (by decide +kernel) ⟨Nat.le_of_ble_eq_true rfl, Nat.le_of_ble_eq_true rfl⟩) (hCut.preSW hK hE hT hLS hN hS) rfl rfl hl.1 rfl (lv_room (Nat.le_of_ble_eq_true rfl)) dL_law_51 ⟨by show _ ≤ 600130; omega, by show _ ≤ 7301080; omega⟩) (fun r51 w H locs hw hP hD hS => ?_)
      obtain ⟨t2, hq2, hM⟩ := hw
      obtain ⟨er, et⟩ := hF.1 _ _ _ _ hq1 hq2
      subst et
      have hJ1 := hF.2.2 _ _ hq1
      refine lv_iload hx hb dL_law_54 (lv_at hl 0 rfl) ?_
      refine lv_icmp_ne (tgt := 110) hx hb dL_law_56 (by decide) (fun z => absurd er.symm z) (fun _ => ?_)
      refine W.widen (k := cells + 12) (n := slots + 268) (by omega) (by omega) ?_
      exact K59 v t1 u w _ _ _ hR hM hJ1 hP hD hS (lv_sub hl [1, 2, 3, 4, 5] rfl)
end LOOP
