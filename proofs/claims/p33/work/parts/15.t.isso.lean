/-! isSo: pieces fill the opening and no more; light comes as back along the rays -/
abbrev rm_L_isSo : Room := { frames := 9, cells := 205, slots := 1230, locals := 200 }
theorem piece_0 {s : SG} (hI : IS s) {i : Nat} (hi : i < 60) {r : Int32} {t : SG} (h : R_piece s (nI i) 0 r t) : if pres s.2.1 i = true then r = nI (cnt s.2.1 i) else r = -99999999 := by
  have hO := hI.1
  have hn := hO.2.1
  have hp : isP s.1 s.2.1 (nI i) = pres s.2.1 i := by
    by_cases g : i < s.1
    · exact isP_nI g hn
    · rw [pres_no hO i (by omega)]
      unfold isP
      rw [nI_toInt (by omega), decide_eq_false (by omega), Bool.false_and]
  cases e : pres s.2.1 i
  · rw [if_neg (by decide)]
    rcases h with h | h
    · exact h.2.1
    · have h1 : pieC s.1 s.2.1 (nI i) 0 = 0 := h.1
      unfold pieC at h1
      rw [hp, e, if_neg (by decide)] at h1
      omega
  · rw [if_pos rfl]
    rcases h with h | h
    · have h1 : ¬ pieC s.1 s.2.1 (nI i) 0 = 0 := h.1
      refine absurd ?_ h1
      unfold pieC
      rw [hp, e, if_pos rfl]
      rfl
    · have h1 : r = nI (pieA s.2.1 s.2.2.1 (tN (nI i)) (tN 0)) := h.2.1
      rw [h1, tN_nI (by omega)]
      rfl
theorem hist_0 {s : SG} (hJ : JS s) {i : Nat} (hi : i < s.1) (hi60 : i < 60) {r : Int32} {t : SG} (h : R_history s (nI i) 0 r t) : r = 1 := by
  have g := hJ.2 i hi
  have hc : histC s.1 (nI i) 0 = true := by
    unfold histC
    rw [nI_toInt (by omega)]
    exact decide_eq_true ⟨by omega, by omega, by decide⟩
  rcases h with h | h
  · have h1 : ¬ (if histC s.1 (nI i) 0 then 0 else 1) = 0 := h.1
    rw [hc] at h1
    exact absurd rfl h1
  · have h1 : r = histA s.2.2.1 (tN (nI i)) 0 := h.2.1
    rw [h1, tN_nI (by omega)]
    unfold histA
    have e : (0 : Int32).toInt = 0 := rfl
    rw [e, if_pos (by omega)]
    show nI (s.2.2.1 i (15 + 0)) = 1
    rw [g.1]
    rfl
theorem floor_6 {s : SG} {d c : Int32} {r : Int32} {t : SG} (h : R_floor s d c 6 r t) : r = -99999999 := by
  rcases h with h | h
  · exact h.2.1
  · have h1 : (if inR 6 7 17 then 0 else 1) = 0 := h.1
    exact absurd h1 (by decide)
theorem cnt_up {own : Nat → Nat} {i : Nat} (h : pres own i = true) : 0 < cnt own i := of_decide_eq_true h
theorem cnt_none {own : Nat → Nat} {i : Nat} (h : pres own i = false) : cnt own i = 0 := by
  have := of_decide_eq_false h
  omega
theorem nI_sub1 {P : Nat} (h : 1 ≤ P) : nI P - 1 = nI (P - 1) := by
  obtain ⟨k, rfl⟩ : ∃ k, P = k + 1 := ⟨P - 1, by omega⟩
  rw [← nI_add, Nat.add_sub_cancel]
  show nI k + 1 - 1 = nI k
  rw [Int32.add_sub_cancel]
theorem neg_lt0 : ¬ (0 : Int32) ≤ -99999999 := by decide
theorem nI_ge0 {k : Nat} (h : k < 2147483648) : (0 : Int32) ≤ nI k := by
  rw [fa_le, nI_toInt h]
  show (0 : Int) ≤ _
  omega
theorem nI_ov {k : Nat} (h0 : 0 < k) (h : k < 2147483648) : ¬ nI k ≤ 0 := by
  rw [fa_le, nI_toInt h]
  show ¬ _ ≤ (0 : Int)
  omega
theorem nI_nl {k N : Nat} (h : N ≤ k) (hk : k < 2147483648) : ¬ nI k < nI N := by
  rw [fa_lt, nI_toInt hk, nI_toInt (by omega)]
  omega
section SO
variable {p : Program} {l : Launch} {e9 : Env} {s : State} {m : MethodId} {args : Array Value} {below : List Frame} {meth : Method} {c : Code} {D : va_G} {cI cJ cZ cO : ClassId} {tD mi h : Nat} {A : Nat → Prop} {s0 : SG} {v : Int32} {Q : State → Prop}
set_option maxHeartbeats 4000000 in
set_option maxRecDepth 100000 in
theorem so_1 (C : LQ p l s m args meth c D cI cJ cZ cO tD mi A cL_isSo 7 wsL_isSo) (hI : IS s0) (hJ : JS s0) (K : ∀ (u : KT) (H : Heap) (locs : List Loc) (ls : Array Slot), RCt s0 u → va_P D vwCl (WCt cI cJ cO h u) H → va_D A (WCt cI cJ cO h u) → va_S A s.heap H locs → lv_has ls 7 [(4, .int 1), (3, .int ((nI (fb_ct (pres s0.2.1) 60)))), (2, .int ((nI (fb_sm (fun p => cnt s0.2.1 p) 60)))), (0, .ref h), (1, .int v)] → W p l e9 rm_L_isSo s m args below meth c H locs 180 1080 Q (F0 m 94 ls [])) : ∀ (r k : Nat) (u : KT) (H : Heap) (locs : List Loc) (ls : Array Slot) (cells slots : Nat), k + r = 60 → cells + 3 * r ≤ 180 → slots + 18 * r ≤ 1080 → RCt s0 u → va_P D vwCl (WCt cI cJ cO h u) H → va_D A (WCt cI cJ cO h u) → va_S A s.heap H locs → lv_has ls 7 [(5, .int ((nI k))), (4, .int 1), (3, .int ((nI (fb_ct (pres s0.2.1) k)))), (2, .int ((nI (fb_sm (fun p => cnt s0.2.1 p) k)))), (0, .ref h), (1, .int v)] → W p l e9 rm_L_isSo s m args below meth c H locs cells slots Q (F0 m 10 ls []) := by
  obtain ⟨hx, hb, hr, hml, hown, hts, hlocks, hst, hK, hE, hT, hLS, hN, hA⟩ := C
  intro r
  induction r with
  | zero =>
    intro k u H locs ls cells slots hk hc hs hR hP hD hS hl
    have ek : k = 60 := by omega
    subst ek
    refine lv_iload hx hb dL_isSo_10 (lv_at hl 0 rfl) ?_
    refine lv_bipush (v := 60) hx hb dL_isSo_12 (by decide) ?_
    refine lv_icmp_ge (tgt := 94) hx hb dL_isSo_14 (by decide) (fun _ => ?_) (fun z => absurd (show (60 : Int32) ≤ nI 60 by decide) z)
    refine W.widen (k := 180) (n := 1080) (by omega) (by omega) ?_
    exact K _ _ _ _ hR hP hD hS (lv_sub hl [1, 2, 3, 4, 5] rfl)
  | succ r ih =>
    intro k u H locs ls cells slots hk hc hs hR hP hD hS hl
    refine lv_iload hx hb dL_isSo_10 (lv_at hl 0 rfl) ?_
    refine lv_bipush (v := 60) hx hb dL_isSo_12 (by decide) ?_
    refine lv_icmp_ge (tgt := 94) hx hb dL_isSo_14 (by decide) (fun z => absurd z (show ¬ (60 : Int32) ≤ nI k from le_no (N := 60) (by omega) (by omega))) (fun _ => ?_)
    refine lv_iload hx hb dL_isSo_17 (lv_at hl 1 rfl) ?_
    refine lv_if_eq (tgt := 94) hx hb dL_isSo_19 (by decide) (fun z => absurd z (by decide)) (fun _ => ?_)
    refine lv_aload_n hx hb dL_isSo_22 rfl (lv_at hl 4 rfl) ?_
    refine lv_iload hx hb dL_isSo_23 (lv_at hl 0 rfl) ?_
    refine lv_iconst (v := 0) hx hb dL_isSo_25 (by decide) ?_
    have hCut := cut_all (S := KT) (w1 := fun (u : KT) => WCt cI cJ cO h u) hP hD hS hA
    refine ca_i (wa := fun (u : KT) => WCt cI cJ cO h u) hCut hS (vx_runSW (As := [.ref h, .int ((nI k)), .int 0]) (rest := []) ⟨hx, hb, hml, hown, hts⟩ (c_L_piece l D hst cI cJ cZ cO tD mi h s0 u _ ((nI k)) 0 hR) (vx_cwSW 3 hts gL_isSo_L_piece rfl rfl rfl (by decide +kernel) ⟨Nat.le_of_ble_eq_true rfl, Nat.le_of_ble_eq_true rfl⟩) (hCut.preSW hK hE hT hLS hN hS) rfl rfl hl.1 rfl (lv_room (Nat.le_of_ble_eq_true rfl)) dL_isSo_26 ⟨by show _ ≤ 205; omega, by show _ ≤ 1230; omega⟩) (fun r26 u H locs hw hP hD hS => ?_)
    obtain ⟨q1, hR⟩ := hw.same
    have hp0 := piece_0 hI (show k < 60 by omega) q1
    cases hp : pres s0.2.1 k
    · rw [hp, if_neg (by decide)] at hp0
      subst hp0
      refine lv_istore (lv' := [(6, .int ((-99999999))), (5, .int ((nI k))), (4, .int 1), (3, .int ((nI (fb_ct (pres s0.2.1) k)))), (2, .int ((nI (fb_sm (fun p => cnt s0.2.1 p) k)))), (0, .ref h), (1, .int v)]) hx hb dL_isSo_29 hl (by decide) rfl (fun ls hl => ?_)
      refine lv_iload_n hx hb dL_isSo_31 rfl (lv_at hl 4 rfl) ?_
      refine lv_iload hx hb dL_isSo_32 (lv_at hl 0 rfl) ?_
      refine lv_if_ge (tgt := 41) hx hb dL_isSo_34 (by decide) (fun z => absurd z neg_lt0) (fun _ => ?_)
      refine lv_iconst (v := 0) hx hb dL_isSo_37 (by decide) ?_
      refine lv_goto (tgt := 43) hx hb dL_isSo_38 (by decide) ?_
      refine lv_iadd hx hb dL_isSo_43 ?_
      rw [show nI (fb_sm (fun p => cnt s0.2.1 p) k) + 0 = nI (fb_sm (fun p => cnt s0.2.1 p) (k + 1)) from by rw [fb_sm_succ]; show _ = nI ((fb_sm (fun p => cnt s0.2.1 p) k) + cnt s0.2.1 k); rw [cnt_none hp, ← nI_add]; rfl]
      refine lv_istore_n (lv' := [(2, .int ((nI (fb_sm (fun p => cnt s0.2.1 p) (k + 1))))), (6, .int ((-99999999))), (5, .int ((nI k))), (4, .int 1), (3, .int ((nI (fb_ct (pres s0.2.1) k)))), (0, .ref h), (1, .int v)]) hx hb dL_isSo_44 rfl hl (by decide) rfl (fun ls hl => ?_)
      refine lv_iload_n hx hb dL_isSo_45 rfl (lv_at hl 4 rfl) ?_
      refine lv_iload hx hb dL_isSo_46 (lv_at hl 1 rfl) ?_
      refine lv_if_ge (tgt := 55) hx hb dL_isSo_48 (by decide) (fun z => absurd z neg_lt0) (fun _ => ?_)
      refine lv_iconst (v := 0) hx hb dL_isSo_51 (by decide) ?_
      refine lv_goto (tgt := 56) hx hb dL_isSo_52 (by decide) ?_
      refine lv_iadd hx hb dL_isSo_56 ?_
      rw [show nI (fb_ct (pres s0.2.1) k) + 0 = nI (fb_ct (pres s0.2.1) (k + 1)) from by rw [fb_ct_succ, hp, ← nI_add]; rfl]
      refine lv_istore_n (lv' := [(3, .int ((nI (fb_ct (pres s0.2.1) (k + 1))))), (2, .int ((nI (fb_sm (fun p => cnt s0.2.1 p) (k + 1))))), (6, .int ((-99999999))), (5, .int ((nI k))), (4, .int 1), (0, .ref h), (1, .int v)]) hx hb dL_isSo_57 rfl hl (by decide) rfl (fun ls hl => ?_)
      refine lv_iload hx hb dL_isSo_58 (lv_at hl 2 rfl) ?_
      refine lv_ldc (v := (-99999999)) hx hb hown (hts (.constant RL 16 (-99999999)) (List.mem_of_getElem? (i := 1) rfl)) dL_isSo_60 ?_
      refine lv_icmp_eq (tgt := 81) hx hb dL_isSo_62 (by decide) (fun _ => ?_) (fun z => absurd rfl z)
      refine lv_iconst (v := 1) hx hb dL_isSo_81 (by decide) ?_
      refine lv_goto (tgt := 86) hx hb dL_isSo_82 (by decide) ?_
      refine lv_istore (lv' := [(4, .int 1), (3, .int ((nI (fb_ct (pres s0.2.1) (k + 1))))), (2, .int ((nI (fb_sm (fun p => cnt s0.2.1 p) (k + 1))))), (6, .int ((-99999999))), (5, .int ((nI k))), (0, .ref h), (1, .int v)]) hx hb dL_isSo_86 hl (by decide) rfl (fun ls hl => ?_)
      refine lv_iinc (v := (nI (k + 1))) (lv' := [(5, .int ((nI (k + 1)))), (4, .int 1), (3, .int ((nI (fb_ct (pres s0.2.1) (k + 1))))), (2, .int ((nI (fb_sm (fun p => cnt s0.2.1 p) (k + 1))))), (6, .int ((-99999999))), (0, .ref h), (1, .int v)]) hx hb dL_isSo_88 hl (k := 4) rfl (nI_add k 1) (by decide) rfl (fun ls hl => ?_)
      refine lv_goto (tgt := 10) hx hb dL_isSo_91 (by decide) ?_
      refine W.widen (k := cells + 3) (n := slots + 18) (by omega) (by omega) ?_
      exact ih (k + 1) u _ _ _ (cells + 3) (slots + 18) (by omega) (by omega) (by omega) hR hP hD hS (lv_sub hl [0, 1, 2, 3, 5, 6] rfl)
    · rw [hp, if_pos rfl] at hp0
      subst hp0
      have hc1 := cnt_up hp
      have hc2 := cnt_le s0.2.1 k
      refine lv_istore (lv' := [(6, .int ((nI (cnt s0.2.1 k)))), (5, .int ((nI k))), (4, .int 1), (3, .int ((nI (fb_ct (pres s0.2.1) k)))), (2, .int ((nI (fb_sm (fun p => cnt s0.2.1 p) k)))), (0, .ref h), (1, .int v)]) hx hb dL_isSo_29 hl (by decide) rfl (fun ls hl => ?_)
      refine lv_iload_n hx hb dL_isSo_31 rfl (lv_at hl 4 rfl) ?_
      refine lv_iload hx hb dL_isSo_32 (lv_at hl 0 rfl) ?_
      refine lv_if_ge (tgt := 41) hx hb dL_isSo_34 (by decide) (fun _ => ?_) (fun z => absurd (nI_ge0 (show cnt s0.2.1 k < 2147483648 by omega)) z)
      refine lv_iload hx hb dL_isSo_41 (lv_at hl 0 rfl) ?_
      refine lv_iadd hx hb dL_isSo_43 ?_
      rw [nI_add, show (fb_sm (fun p => cnt s0.2.1 p) k) + cnt s0.2.1 k = (fb_sm (fun p => cnt s0.2.1 p) (k + 1)) from rfl]
      refine lv_istore_n (lv' := [(2, .int ((nI (fb_sm (fun p => cnt s0.2.1 p) (k + 1))))), (6, .int ((nI (cnt s0.2.1 k)))), (5, .int ((nI k))), (4, .int 1), (3, .int ((nI (fb_ct (pres s0.2.1) k)))), (0, .ref h), (1, .int v)]) hx hb dL_isSo_44 rfl hl (by decide) rfl (fun ls hl => ?_)
      refine lv_iload_n hx hb dL_isSo_45 rfl (lv_at hl 4 rfl) ?_
      refine lv_iload hx hb dL_isSo_46 (lv_at hl 1 rfl) ?_
      refine lv_if_ge (tgt := 55) hx hb dL_isSo_48 (by decide) (fun _ => ?_) (fun z => absurd (nI_ge0 (show cnt s0.2.1 k < 2147483648 by omega)) z)
      refine lv_iconst (v := 1) hx hb dL_isSo_55 (by decide) ?_
      refine lv_iadd hx hb dL_isSo_56 ?_
      rw [show nI (fb_ct (pres s0.2.1) k) + 1 = nI (fb_ct (pres s0.2.1) (k + 1)) from by rw [fb_ct_succ, hp, ← nI_add]; rfl]
      refine lv_istore_n (lv' := [(3, .int ((nI (fb_ct (pres s0.2.1) (k + 1))))), (2, .int ((nI (fb_sm (fun p => cnt s0.2.1 p) (k + 1))))), (6, .int ((nI (cnt s0.2.1 k)))), (5, .int ((nI k))), (4, .int 1), (0, .ref h), (1, .int v)]) hx hb dL_isSo_57 rfl hl (by decide) rfl (fun ls hl => ?_)
      refine lv_iload hx hb dL_isSo_58 (lv_at hl 2 rfl) ?_
      refine lv_ldc (v := (-99999999)) hx hb hown (hts (.constant RL 16 (-99999999)) (List.mem_of_getElem? (i := 1) rfl)) dL_isSo_60 ?_
      refine lv_icmp_eq (tgt := 81) hx hb dL_isSo_62 (by decide) (fun z => absurd z (nI_no (by omega))) (fun _ => ?_)
      refine lv_iload hx hb dL_isSo_65 (lv_at hl 2 rfl) ?_
      refine lv_if_le (tgt := 85) hx hb dL_isSo_67 (by decide) (fun z => absurd z (nI_ov hc1 (by omega))) (fun _ => ?_)
      refine lv_aload_n hx hb dL_isSo_70 rfl (lv_at hl 5 rfl) ?_
      refine lv_iload hx hb dL_isSo_71 (lv_at hl 3 rfl) ?_
      refine lv_iconst (v := 0) hx hb dL_isSo_73 (by decide) ?_
      have hCut := cut_all (S := KT) (w1 := fun (u : KT) => WCt cI cJ cO h u) hP hD hS hA
      refine ca_i (wa := fun (u : KT) => WCt cI cJ cO h u) hCut hS (vx_runSW (As := [.ref h, .int ((nI k)), .int 0]) (rest := []) ⟨hx, hb, hml, hown, hts⟩ (c_L_history l D hst cI cJ cZ cO tD mi h s0 u _ ((nI k)) 0 hR) (vx_cwSW 3 hts gL_isSo_L_history rfl rfl rfl (by decide +kernel) ⟨Nat.le_of_ble_eq_true rfl, Nat.le_of_ble_eq_true rfl⟩) (hCut.preSW hK hE hT hLS hN hS) rfl rfl hl.1 rfl (lv_room (Nat.le_of_ble_eq_true rfl)) dL_isSo_74 ⟨by show _ ≤ 205; omega, by show _ ≤ 1230; omega⟩) (fun r74 u H locs hw hP hD hS => ?_)
      obtain ⟨q2, hR⟩ := hw.same
      have hh := hist_0 hJ (pres_lt hI.1 hp) (by omega) q2
      refine lv_iconst (v := 1) hx hb dL_isSo_77 (by decide) ?_
      refine lv_icmp_ne (tgt := 85) hx hb dL_isSo_78 (by decide) (fun z => absurd hh z) (fun _ => ?_)
      refine lv_iconst (v := 1) hx hb dL_isSo_81 (by decide) ?_
      refine lv_goto (tgt := 86) hx hb dL_isSo_82 (by decide) ?_
      refine lv_istore (lv' := [(4, .int 1), (3, .int ((nI (fb_ct (pres s0.2.1) (k + 1))))), (2, .int ((nI (fb_sm (fun p => cnt s0.2.1 p) (k + 1))))), (6, .int ((nI (cnt s0.2.1 k)))), (5, .int ((nI k))), (0, .ref h), (1, .int v)]) hx hb dL_isSo_86 hl (by decide) rfl (fun ls hl => ?_)
      refine lv_iinc (v := (nI (k + 1))) (lv' := [(5, .int ((nI (k + 1)))), (4, .int 1), (3, .int ((nI (fb_ct (pres s0.2.1) (k + 1))))), (2, .int ((nI (fb_sm (fun p => cnt s0.2.1 p) (k + 1))))), (6, .int ((nI (cnt s0.2.1 k)))), (0, .ref h), (1, .int v)]) hx hb dL_isSo_88 hl (k := 4) rfl (nI_add k 1) (by decide) rfl (fun ls hl => ?_)
      refine lv_goto (tgt := 10) hx hb dL_isSo_91 (by decide) ?_
      refine W.widen (k := cells + 3) (n := slots + 18) (by omega) (by omega) ?_
      exact ih (k + 1) u _ _ _ (cells + 3) (slots + 18) (by omega) (by omega) (by omega) hR hP hD hS (lv_sub hl [0, 1, 2, 3, 5, 6] rfl)
set_option maxHeartbeats 4000000 in
set_option maxRecDepth 100000 in
theorem so_2 {x2 x3 : Int32} (C : LQ p l s m args meth c D cI cJ cZ cO tD mi A cL_isSo 7 wsL_isSo) (hI : IS s0) (hJ : JS s0) (K : ∀ (u : KT) (H : Heap) (locs : List Loc) (ls : Array Slot), RCt s0 u → va_P D vwCl (WCt cI cJ cO h u) H → va_D A (WCt cI cJ cO h u) → va_S A s.heap H locs → lv_has ls 7 [(4, .int 1), (3, .int x3), (2, .int x2), (0, .ref h), (1, .int v)] → W p l e9 rm_L_isSo s m args below meth c H locs 204 1224 Q (F0 m 163 ls [])) : ∀ (r k : Nat) (u : KT) (H : Heap) (locs : List Loc) (ls : Array Slot) (cells slots : Nat), k + r = 12 → cells + 2 * r ≤ 204 → slots + 12 * r ≤ 1224 → RCt s0 u → va_P D vwCl (WCt cI cJ cO h u) H → va_D A (WCt cI cJ cO h u) → va_S A s.heap H locs → lv_has ls 7 [(5, .int ((nI k))), (4, .int 1), (3, .int x3), (2, .int x2), (0, .ref h), (1, .int v)] → W p l e9 rm_L_isSo s m args below meth c H locs cells slots Q (F0 m 97 ls []) := by
  obtain ⟨hx, hb, hr, hml, hown, hts, hlocks, hst, hK, hE, hT, hLS, hN, hA⟩ := C
  intro r
  induction r with
  | zero =>
    intro k u H locs ls cells slots hk hc hs hR hP hD hS hl
    have ek : k = 12 := by omega
    subst ek
    refine lv_iload hx hb dL_isSo_97 (lv_at hl 0 rfl) ?_
    refine lv_bipush (v := 12) hx hb dL_isSo_99 (by decide) ?_
    refine lv_icmp_ge (tgt := 163) hx hb dL_isSo_101 (by decide) (fun _ => ?_) (fun z => absurd (show (12 : Int32) ≤ nI 12 by decide) z)
    refine W.widen (k := 204) (n := 1224) (by omega) (by omega) ?_
    exact K _ _ _ _ hR hP hD hS (lv_sub hl [1, 2, 3, 4, 5] rfl)
  | succ r ih =>
    intro k u H locs ls cells slots hk hc hs hR hP hD hS hl
    refine lv_iload hx hb dL_isSo_97 (lv_at hl 0 rfl) ?_
    refine lv_bipush (v := 12) hx hb dL_isSo_99 (by decide) ?_
    refine lv_icmp_ge (tgt := 163) hx hb dL_isSo_101 (by decide) (fun z => absurd z (show ¬ (12 : Int32) ≤ nI k from le_no (N := 12) (by omega) (by omega))) (fun _ => ?_)
    refine lv_iload hx hb dL_isSo_104 (lv_at hl 1 rfl) ?_
    refine lv_if_eq (tgt := 163) hx hb dL_isSo_106 (by decide) (fun z => absurd z (by decide)) (fun _ => ?_)
    refine lv_bipush (v := 7) hx hb dL_isSo_109 (by decide) ?_
    refine lv_iload_n hx hb dL_isSo_111 rfl (lv_at hl 5 rfl) ?_
    refine lv_iload hx hb dL_isSo_112 (lv_at hl 0 rfl) ?_
    refine lv_iadd hx hb dL_isSo_114 ?_
    refine lv_bipush (v := 11) hx hb dL_isSo_115 (by decide) ?_
    refine ca_i (wa := fun (_ : Unit) => WCt cI cJ cO h u) (cut_nil hP hD hS hA) hS (va_runS (As := [.int ((v + (nI k))), .int 11]) (rest := [.int 7]) ⟨hx, hb, hml, hown, hts⟩ (c_L_low l D cI cJ cZ cO H.size ((v + (nI k))) 11 (fun r => r = lowI ((v + (nI k))) 11) ⟨by decide, rfl⟩) (va_cwS 2 hts gL_isSo_L_low rfl rfl rfl (by decide +kernel) ⟨Nat.le_of_ble_eq_true rfl, Nat.le_of_ble_eq_true rfl⟩) ((cut_nil hP hD hS hA).preS hK hE) rfl rfl hl.1 rfl (lv_room (Nat.le_of_ble_eq_true rfl)) dL_isSo_117 ⟨by show _ ≤ 205; omega, by show _ ≤ 1230; omega⟩) (fun r _ H locs hw hP hD hS => ?_)
    obtain rfl := hw
    refine lv_iadd hx hb dL_isSo_120 ?_
    refine lv_istore (lv' := [(6, .int (((7 : Int32) + (lowI ((v + (nI k))) 11)))), (5, .int ((nI k))), (4, .int 1), (3, .int x3), (2, .int x2), (0, .ref h), (1, .int v)]) hx hb dL_isSo_121 hl (by decide) rfl (fun ls hl => ?_)
    refine lv_aload_n hx hb dL_isSo_123 rfl (lv_at hl 5 rfl) ?_
    refine lv_iconst (v := 4) hx hb dL_isSo_124 (by decide) ?_
    refine lv_iload hx hb dL_isSo_125 (lv_at hl 1 rfl) ?_
    refine lv_imul hx hb dL_isSo_127 ?_
    refine lv_iload hx hb dL_isSo_128 (lv_at hl 1 rfl) ?_
    refine lv_iload hx hb dL_isSo_130 (lv_at hl 0 rfl) ?_
    have hCut := cut_all (S := KT) (w1 := fun (u : KT) => WCt cI cJ cO h u) hP hD hS hA
    refine ca_i (wa := fun (u : KT) => WCt cI cJ cO h u) hCut hS (vx_runSW (As := [.ref h, .int (((4 : Int32) * (nI k))), .int ((nI k)), .int (((7 : Int32) + (lowI ((v + (nI k))) 11)))]) (rest := []) ⟨hx, hb, hml, hown, hts⟩ (c_L_floor l D hst cI cJ cZ cO tD mi h s0 u _ (((4 : Int32) * (nI k))) ((nI k)) (((7 : Int32) + (lowI ((v + (nI k))) 11))) hR) (vx_cwSW 4 hts gL_isSo_L_floor rfl rfl rfl (by decide +kernel) ⟨Nat.le_of_ble_eq_true rfl, Nat.le_of_ble_eq_true rfl⟩) (hCut.preSW hK hE hT hLS hN hS) rfl rfl hl.1 rfl (lv_room (Nat.le_of_ble_eq_true rfl)) dL_isSo_132 ⟨by show _ ≤ 205; omega, by show _ ≤ 1230; omega⟩) (fun r132 u H locs hw hP hD hS => ?_)
    obtain ⟨q1, hR⟩ := hw.same
    refine lv_aload_n hx hb dL_isSo_135 rfl (lv_at hl 5 rfl) ?_
    refine lv_iconst (v := 4) hx hb dL_isSo_136 (by decide) ?_
    refine lv_iload hx hb dL_isSo_137 (lv_at hl 1 rfl) ?_
    refine lv_imul hx hb dL_isSo_139 ?_
    refine lv_iload hx hb dL_isSo_140 (lv_at hl 1 rfl) ?_
    refine lv_iload hx hb dL_isSo_142 (lv_at hl 0 rfl) ?_
    have hCut := cut_all (S := KT) (w1 := fun (u : KT) => WCt cI cJ cO h u) hP hD hS hA
    refine ca_i (wa := fun (u : KT) => WCt cI cJ cO h u) hCut hS (vx_runSW (As := [.ref h, .int (((4 : Int32) * (nI k))), .int ((nI k)), .int (((7 : Int32) + (lowI ((v + (nI k))) 11)))]) (rest := [.int r132]) ⟨hx, hb, hml, hown, hts⟩ (c_L_anew l D hst cI cJ cZ cO tD mi h s0 u _ (((4 : Int32) * (nI k))) ((nI k)) (((7 : Int32) + (lowI ((v + (nI k))) 11))) hR) (vx_cwSW 4 hts gL_isSo_L_anew rfl rfl rfl (by decide +kernel) ⟨Nat.le_of_ble_eq_true rfl, Nat.le_of_ble_eq_true rfl⟩) (hCut.preSW hK hE hT hLS hN hS) rfl rfl hl.1 rfl (lv_room (Nat.le_of_ble_eq_true rfl)) dL_isSo_144 ⟨by show _ ≤ 205; omega, by show _ ≤ 1230; omega⟩) (fun r144 u H locs hw hP hD hS => ?_)
    obtain ⟨q2, hR⟩ := hw.same
    have eq := ((fn_floor hJ _ _ _).1 _ _ _ _ q1 q2).1
    refine lv_icmp_ne (tgt := 154) hx hb dL_isSo_147 (by decide) (fun z => absurd eq z) (fun _ => ?_)
    refine lv_iconst (v := 1) hx hb dL_isSo_150 (by decide) ?_
    refine lv_goto (tgt := 155) hx hb dL_isSo_151 (by decide) ?_
    refine lv_istore (lv' := [(4, .int 1), (6, .int (((7 : Int32) + (lowI ((v + (nI k))) 11)))), (5, .int ((nI k))), (3, .int x3), (2, .int x2), (0, .ref h), (1, .int v)]) hx hb dL_isSo_155 hl (by decide) rfl (fun ls hl => ?_)
    refine lv_iinc (v := (nI (k + 1))) (lv' := [(5, .int ((nI (k + 1)))), (4, .int 1), (6, .int (((7 : Int32) + (lowI ((v + (nI k))) 11)))), (3, .int x3), (2, .int x2), (0, .ref h), (1, .int v)]) hx hb dL_isSo_157 hl (k := 2) rfl (nI_add k 1) (by decide) rfl (fun ls hl => ?_)
    refine lv_goto (tgt := 97) hx hb dL_isSo_160 (by decide) ?_
    refine W.widen (k := cells + 2) (n := slots + 12) (by omega) (by omega) ?_
    exact ih (k + 1) u _ _ _ (cells + 2) (slots + 12) (by omega) (by omega) (by omega) hR hP hD hS (lv_sub hl [0, 1, 3, 4, 5, 6] rfl)
set_option maxHeartbeats 4000000 in
set_option maxRecDepth 100000 in
theorem so_3 (C : LQ p l s m args meth c D cI cJ cZ cO tD mi A cL_isSo 7 wsL_isSo) (hI : IS s0) (hJ : JS s0) {u : KT} {H : Heap} {locs : List Loc} {ls : Array Slot} (hR : RCt s0 u) (hP : va_P D vwCl (WCt cI cJ cO h u) H) (hD : va_D A (WCt cI cJ cO h u)) (hS : va_S A s.heap H locs) (hl : lv_has ls 7 [(4, .int 1), (3, .int ((nI (fb_ct (pres s0.2.1) s0.1)))), (2, .int 256), (0, .ref h), (1, .int v)]) : W p l e9 rm_L_isSo s m args below meth c H locs 204 1224 (MQ below (va_Qi (fun r (w : KT) => r = 1 ∧ RCt s0 w) (fun w t => POST D A (WCt cI cJ cO h w) t) A) args s 205 1230 A) (F0 m 163 ls []) := by
  obtain ⟨hx, hb, hr, hml, hown, hts, hlocks, hst, hK, hE, hT, hLS, hN, hA⟩ := C
  obtain ⟨P, hPP⟩ : ∃ P, P = (fb_ct (pres s0.2.1) s0.1) := ⟨_, rfl⟩
  have hO := hI.1
  have hn := hO.2.1
  have hP1 := ct_ge1 hO
  have hP2 : (fb_ct (pres s0.2.1) s0.1) ≤ s0.1 := fb_ct_le _ _
  have hlen := len_64 hO
  have hls := len_small s0.2.1
  have hlm := len_mid s0.2.1
  have hends := asA_ends hn hP1
  have hend := asA_end (own := s0.2.1) (n := s0.1) (by omega)
  rw [← hPP] at hl hP1 hP2 hlen hends hend
  refine lv_aload_n hx hb dL_isSo_163 rfl (lv_at hl 3 rfl) ?_
  refine lv_iconst (v := 0) hx hb dL_isSo_164 (by decide) ?_
  have hCut := cut_all (S := KT) (w1 := fun (u : KT) => WCt cI cJ cO h u) hP hD hS hA
  refine ca_i (wa := fun (u : KT) => WCt cI cJ cO h u) hCut hS (va_runV (As := [.int 0]) (rest := []) ⟨hx, hb, hml, hown, hts⟩ (v_X4_assembled l D cI cJ cZ cO h s0 u _ 0 hR) (cwV 1 hts gL_isSo_X4_assembled rfl rfl rfl (by decide +kernel) ⟨Nat.le_of_ble_eq_true rfl, Nat.le_of_ble_eq_true rfl⟩) (hCut.preVV hK hE) rfl rfl hl.1 rfl (lv_room (Nat.le_of_ble_eq_true rfl)) dL_isSo_165 ⟨by show _ ≤ 205; omega, by show _ ≤ 1230; omega⟩) (fun r165 u H locs hw hP hD hS => ?_)
  obtain ⟨q1, hR⟩ := hw.same
  have a0 : r165 = asA s0.2.1 s0.1 0 := by
    rcases q1 with q1 | q1
    · exact absurd rfl q1.1
    · exact q1.2.1
  refine lv_istore (lv' := [(5, .int r165), (4, .int 1), (3, .int ((nI P))), (2, .int 256), (0, .ref h), (1, .int v)]) hx hb dL_isSo_168 hl (by decide) rfl (fun ls hl => ?_)
  refine lv_iload hx hb dL_isSo_170 (lv_at hl 1 rfl) ?_
  refine lv_if_eq (tgt := 282) hx hb dL_isSo_172 (by decide) (fun z => absurd z (by decide)) (fun _ => ?_)
  refine lv_iload_n hx hb dL_isSo_175 rfl (lv_at hl 3 rfl) ?_
  refine lv_sipush (v := 256) hx hb dL_isSo_176 (by decide) ?_
  refine lv_icmp_ne (tgt := 282) hx hb dL_isSo_179 (by decide) (fun z => absurd rfl z) (fun _ => ?_)
  refine lv_iload_n hx hb dL_isSo_182 rfl (lv_at hl 2 rfl) ?_
  refine lv_aload_n hx hb dL_isSo_183 rfl (lv_at hl 4 rfl) ?_
  have hCut := cut_all (S := KT) (w1 := fun (u : KT) => WCt cI cJ cO h u) hP hD hS hA
  refine ca_i (wa := fun (u : KT) => WCt cI cJ cO h u) hCut hS (va_runV (As := []) (rest := [.int ((nI P))]) ⟨hx, hb, hml, hown, hts⟩ (v_X4_pieces l D cI cJ cZ cO h s0 u _ hR) (cwV 0 hts gL_isSo_X4_pieces rfl rfl rfl (by decide +kernel) ⟨Nat.le_of_ble_eq_true rfl, Nat.le_of_ble_eq_true rfl⟩) (hCut.preVV hK hE) rfl rfl hl.1 rfl (lv_room (Nat.le_of_ble_eq_true rfl)) dL_isSo_184 ⟨by show _ ≤ 205; omega, by show _ ≤ 1230; omega⟩) (fun r184 u H locs hw hP hD hS => ?_)
  obtain ⟨q2, hR⟩ := hw.same
  have a1 : r184 = nI (fb_ct (pres s0.2.1) s0.1) := by
    rcases q2 with q2 | q2
    · exact absurd rfl q2.1
    · exact q2.2.1
  rw [← hPP] at a1
  refine lv_icmp_ne (tgt := 282) hx hb dL_isSo_187 (by decide) (fun z => absurd a1.symm z) (fun _ => ?_)
  refine lv_aload_n hx hb dL_isSo_190 rfl (lv_at hl 4 rfl) ?_
  have hCut := cut_all (S := KT) (w1 := fun (u : KT) => WCt cI cJ cO h u) hP hD hS hA
  refine ca_i (wa := fun (u : KT) => WCt cI cJ cO h u) hCut hS (va_runV (As := []) (rest := []) ⟨hx, hb, hml, hown, hts⟩ (v_X4_lead l D cI cJ cZ cO h s0 u _ hR) (cwV 0 hts gL_isSo_X4_lead rfl rfl rfl (by decide +kernel) ⟨Nat.le_of_ble_eq_true rfl, Nat.le_of_ble_eq_true rfl⟩) (hCut.preVV hK hE) rfl rfl hl.1 rfl (lv_room (Nat.le_of_ble_eq_true rfl)) dL_isSo_191 ⟨by show _ ≤ 205; omega, by show _ ≤ 1230; omega⟩) (fun r191 u H locs hw hP hD hS => ?_)
  obtain ⟨q3, hR⟩ := hw.same
  have a2 : r191 = nI (lenN s0.2.1) := by
    rcases q3 with q3 | q3
    · exact absurd rfl q3.1
    · exact q3.2.1
  subst a2
  refine lv_bipush (v := 64) hx hb dL_isSo_194 (by decide) ?_
  refine lv_icmp_lt (tgt := 282) hx hb dL_isSo_196 (by decide) (fun z => absurd z (show ¬ nI (lenN s0.2.1) < (64 : Int32) from nI_nl (N := 64) (by omega) (by omega))) (fun _ => ?_)
  refine lv_aload_n hx hb dL_isSo_199 rfl (lv_at hl 4 rfl) ?_
  have hCut := cut_all (S := KT) (w1 := fun (u : KT) => WCt cI cJ cO h u) hP hD hS hA
  refine ca_i (wa := fun (u : KT) => WCt cI cJ cO h u) hCut hS (va_runV (As := []) (rest := []) ⟨hx, hb, hml, hown, hts⟩ (v_X4_lead l D cI cJ cZ cO h s0 u _ hR) (cwV 0 hts gL_isSo_X4_lead rfl rfl rfl (by decide +kernel) ⟨Nat.le_of_ble_eq_true rfl, Nat.le_of_ble_eq_true rfl⟩) (hCut.preVV hK hE) rfl rfl hl.1 rfl (lv_room (Nat.le_of_ble_eq_true rfl)) dL_isSo_200 ⟨by show _ ≤ 205; omega, by show _ ≤ 1230; omega⟩) (fun r200 u H locs hw hP hD hS => ?_)
  obtain ⟨q4, hR⟩ := hw.same
  have a3 : r200 = nI (lenN s0.2.1) := by
    rcases q4 with q4 | q4
    · exact absurd rfl q4.1
    · exact q4.2.1
  subst a3
  refine lv_bipush (v := 64) hx hb dL_isSo_203 (by decide) ?_
  have K226 : ∀ (u : KT) (H : Heap) (locs : List Loc) (ls : Array Slot), RCt s0 u → va_P D vwCl (WCt cI cJ cO h u) H → va_D A (WCt cI cJ cO h u) → va_S A s.heap H locs → lv_has ls 7 [(5, .int r165), (4, .int 1), (3, .int ((nI P))), (2, .int 256), (0, .ref h), (1, .int v)] → W p l e9 rm_L_isSo s m args below meth c H locs 204 1224 (MQ below (va_Qi (fun r (w : KT) => r = 1 ∧ RCt s0 w) (fun w t => POST D A (WCt cI cJ cO h w) t) A) args s 205 1230 A) (F0 m 226 ls []) := by
    intro u H locs ls hR hP hD hS hl
    refine lv_aload_n hx hb dL_isSo_226 rfl (lv_at hl 4 rfl) ?_
    refine lv_iload_n hx hb dL_isSo_227 rfl (lv_at hl 2 rfl) ?_
    have hCut := cut_all (S := KT) (w1 := fun (u : KT) => WCt cI cJ cO h u) hP hD hS hA
    refine ca_i (wa := fun (u : KT) => WCt cI cJ cO h u) hCut hS (va_runV (As := [.int ((nI P))]) (rest := []) ⟨hx, hb, hml, hown, hts⟩ (v_X4_assembled l D cI cJ cZ cO h s0 u _ ((nI P)) hR) (cwV 1 hts gL_isSo_X4_assembled rfl rfl rfl (by decide +kernel) ⟨Nat.le_of_ble_eq_true rfl, Nat.le_of_ble_eq_true rfl⟩) (hCut.preVV hK hE) rfl rfl hl.1 rfl (lv_room (Nat.le_of_ble_eq_true rfl)) dL_isSo_228 ⟨by show _ ≤ 205; omega, by show _ ≤ 1230; omega⟩) (fun r228 u H locs hw hP hD hS => ?_)
    obtain ⟨q5, hR⟩ := hw.same
    have a4 : r228 = asA s0.2.1 s0.1 (nI P) := by
      rcases q5 with q5 | q5
      · exact absurd rfl q5.1
      · exact q5.2.1
    rw [hend] at a4
    refine lv_iconst (v := (-1)) hx hb dL_isSo_231 (by decide) ?_
    refine lv_icmp_ne (tgt := 282) hx hb dL_isSo_232 (by decide) (fun z => absurd a4 z) (fun _ => ?_)
    refine lv_iload hx hb dL_isSo_235 (lv_at hl 0 rfl) ?_
    refine lv_iconst (v := (-1)) hx hb dL_isSo_237 (by decide) ?_
    have K265 : ∀ (u : KT) (H : Heap) (locs : List Loc) (ls : Array Slot), RCt s0 u → va_P D vwCl (WCt cI cJ cO h u) H → va_D A (WCt cI cJ cO h u) → va_S A s.heap H locs → lv_has ls 7 [(5, .int r165), (4, .int 1), (3, .int ((nI P))), (2, .int 256), (0, .ref h), (1, .int v)] → W p l e9 rm_L_isSo s m args below meth c H locs 204 1224 (MQ below (va_Qi (fun r (w : KT) => r = 1 ∧ RCt s0 w) (fun w t => POST D A (WCt cI cJ cO h w) t) A) args s 205 1230 A) (F0 m 265 ls []) := by
      intro u H locs ls hR hP hD hS hl
      refine lv_aload_n hx hb dL_isSo_265 rfl (lv_at hl 4 rfl) ?_
      refine lv_iconst (v := 4) hx hb dL_isSo_266 (by decide) ?_
      refine lv_iconst (v := 4) hx hb dL_isSo_267 (by decide) ?_
      refine lv_bipush (v := 6) hx hb dL_isSo_268 (by decide) ?_
      have hCut := cut_all (S := KT) (w1 := fun (u : KT) => WCt cI cJ cO h u) hP hD hS hA
      refine ca_i (wa := fun (u : KT) => WCt cI cJ cO h u) hCut hS (vx_runSW (As := [.ref h, .int 4, .int 4, .int 6]) (rest := []) ⟨hx, hb, hml, hown, hts⟩ (c_L_floor l D hst cI cJ cZ cO tD mi h s0 u _ 4 4 6 hR) (vx_cwSW 4 hts gL_isSo_L_floor rfl rfl rfl (by decide +kernel) ⟨Nat.le_of_ble_eq_true rfl, Nat.le_of_ble_eq_true rfl⟩) (hCut.preSW hK hE hT hLS hN hS) rfl rfl hl.1 rfl (lv_room (Nat.le_of_ble_eq_true rfl)) dL_isSo_270 ⟨by show _ ≤ 205; omega, by show _ ≤ 1230; omega⟩) (fun r270 u H locs hw hP hD hS => ?_)
      obtain ⟨q7, hR⟩ := hw.same
      have a6 := floor_6 q7
      refine lv_ldc (v := (-99999999)) hx hb hown (hts (.constant RL 16 (-99999999)) (List.mem_of_getElem? (i := 1) rfl)) dL_isSo_273 ?_
      refine lv_icmp_ne (tgt := 282) hx hb dL_isSo_275 (by decide) (fun z => absurd a6 z) (fun _ => ?_)
      refine lv_iconst (v := 1) hx hb dL_isSo_278 (by decide) ?_
      refine lv_goto (tgt := 283) hx hb dL_isSo_279 (by decide) ?_
      refine W.widen (k := 205) (n := 1230) (by omega) (by omega) ?_
      exact rt_z (S := KT) (post := (fun r (w : KT) => r = 1 ∧ RCt s0 w)) (Wf := fun w => WCt cI cJ cO h w) u hx hb hr hlocks (Or.inr rfl) ⟨rfl, hR⟩ hP hD hS dL_isSo_283
    by_cases ca : asA s0.2.1 s0.1 0 = -1
    · have cb := hends.mp ca
      refine lv_icmp_ne (tgt := 245) hx hb dL_isSo_238 (by decide) (fun z => absurd (a0.trans ca) z) (fun _ => ?_)
      refine lv_iconst (v := 1) hx hb dL_isSo_241 (by decide) ?_
      refine lv_goto (tgt := 246) hx hb dL_isSo_242 (by decide) ?_
      refine lv_aload_n hx hb dL_isSo_246 rfl (lv_at hl 4 rfl) ?_
      refine lv_iload_n hx hb dL_isSo_247 rfl (lv_at hl 2 rfl) ?_
      refine lv_iconst (v := 1) hx hb dL_isSo_248 (by decide) ?_
      refine lv_isub hx hb dL_isSo_249 ?_
      rw [nI_sub1 hP1]
      have hCut := cut_all (S := KT) (w1 := fun (u : KT) => WCt cI cJ cO h u) hP hD hS hA
      refine ca_i (wa := fun (u : KT) => WCt cI cJ cO h u) hCut hS (va_runV (As := [.int ((nI (P - 1)))]) (rest := [.int 1]) ⟨hx, hb, hml, hown, hts⟩ (v_X4_assembled l D cI cJ cZ cO h s0 u _ ((nI (P - 1))) hR) (cwV 1 hts gL_isSo_X4_assembled rfl rfl rfl (by decide +kernel) ⟨Nat.le_of_ble_eq_true rfl, Nat.le_of_ble_eq_true rfl⟩) (hCut.preVV hK hE) rfl rfl hl.1 rfl (lv_room (Nat.le_of_ble_eq_true rfl)) dL_isSo_250 ⟨by show _ ≤ 205; omega, by show _ ≤ 1230; omega⟩) (fun r250 u H locs hw hP hD hS => ?_)
      obtain ⟨q6, hR⟩ := hw.same
      have a5 : r250 = asA s0.2.1 s0.1 (nI (P - 1)) := by
        rcases q6 with q6 | q6
        · exact absurd rfl q6.1
        · exact q6.2.1
      refine lv_iconst (v := (-1)) hx hb dL_isSo_253 (by decide) ?_
      refine lv_icmp_ne (tgt := 261) hx hb dL_isSo_254 (by decide) (fun z => absurd (a5.trans cb) z) (fun _ => ?_)
      refine lv_iconst (v := 1) hx hb dL_isSo_257 (by decide) ?_
      refine lv_goto (tgt := 262) hx hb dL_isSo_258 (by decide) ?_
      refine lv_icmp_ne (tgt := 282) hx hb dL_isSo_262 (by decide) (fun z => absurd rfl z) (fun _ => ?_)
      exact K265 _ _ _ _ hR hP hD hS (lv_sub hl [0, 1, 2, 3, 4, 5] rfl)
    · have cb := fun z9 => ca (hends.mpr z9)
      refine lv_icmp_ne (tgt := 245) hx hb dL_isSo_238 (by decide) (fun _ => ?_) (fun z => absurd (a0.symm.trans z) ca)
      refine lv_iconst (v := 0) hx hb dL_isSo_245 (by decide) ?_
      refine lv_aload_n hx hb dL_isSo_246 rfl (lv_at hl 4 rfl) ?_
      refine lv_iload_n hx hb dL_isSo_247 rfl (lv_at hl 2 rfl) ?_
      refine lv_iconst (v := 1) hx hb dL_isSo_248 (by decide) ?_
      refine lv_isub hx hb dL_isSo_249 ?_
      rw [nI_sub1 hP1]
      have hCut := cut_all (S := KT) (w1 := fun (u : KT) => WCt cI cJ cO h u) hP hD hS hA
      refine ca_i (wa := fun (u : KT) => WCt cI cJ cO h u) hCut hS (va_runV (As := [.int ((nI (P - 1)))]) (rest := [.int 0]) ⟨hx, hb, hml, hown, hts⟩ (v_X4_assembled l D cI cJ cZ cO h s0 u _ ((nI (P - 1))) hR) (cwV 1 hts gL_isSo_X4_assembled rfl rfl rfl (by decide +kernel) ⟨Nat.le_of_ble_eq_true rfl, Nat.le_of_ble_eq_true rfl⟩) (hCut.preVV hK hE) rfl rfl hl.1 rfl (lv_room (Nat.le_of_ble_eq_true rfl)) dL_isSo_250 ⟨by show _ ≤ 205; omega, by show _ ≤ 1230; omega⟩) (fun r250 u H locs hw hP hD hS => ?_)
      obtain ⟨q6, hR⟩ := hw.same
      have a5 : r250 = asA s0.2.1 s0.1 (nI (P - 1)) := by
        rcases q6 with q6 | q6
        · exact absurd rfl q6.1
        · exact q6.2.1
      refine lv_iconst (v := (-1)) hx hb dL_isSo_253 (by decide) ?_
      refine lv_icmp_ne (tgt := 261) hx hb dL_isSo_254 (by decide) (fun _ => ?_) (fun z => absurd (a5.symm.trans z) cb)
      refine lv_iconst (v := 0) hx hb dL_isSo_261 (by decide) ?_
      refine lv_icmp_ne (tgt := 282) hx hb dL_isSo_262 (by decide) (fun z => absurd rfl z) (fun _ => ?_)
      exact K265 _ _ _ _ hR hP hD hS (lv_sub hl [0, 1, 2, 3, 4, 5] rfl)
  by_cases ca : lenN s0.2.1 = 64
  · have cb := hlen.mp ca
    refine lv_icmp_ne (tgt := 212) hx hb dL_isSo_205 (by decide) (fun z => absurd (show nI (lenN s0.2.1) = (64 : Int32) by rw [ca]; rfl) z) (fun _ => ?_)
    refine lv_iconst (v := 1) hx hb dL_isSo_208 (by decide) ?_
    refine lv_goto (tgt := 213) hx hb dL_isSo_209 (by decide) ?_
    refine lv_iload_n hx hb dL_isSo_213 rfl (lv_at hl 2 rfl) ?_
    refine lv_iconst (v := 1) hx hb dL_isSo_214 (by decide) ?_
    refine lv_icmp_ne (tgt := 222) hx hb dL_isSo_215 (by decide) (fun z => absurd (show nI P = (1 : Int32) by rw [cb]; rfl) z) (fun _ => ?_)
    refine lv_iconst (v := 1) hx hb dL_isSo_218 (by decide) ?_
    refine lv_goto (tgt := 223) hx hb dL_isSo_219 (by decide) ?_
    refine lv_icmp_ne (tgt := 282) hx hb dL_isSo_223 (by decide) (fun z => absurd rfl z) (fun _ => ?_)
    exact K226 _ _ _ _ hR hP hD hS (lv_sub hl [0, 1, 2, 3, 4, 5] rfl)
  · have cb := fun z9 => ca (hlen.mpr z9)
    refine lv_icmp_ne (tgt := 212) hx hb dL_isSo_205 (by decide) (fun _ => ?_) (fun z => absurd ((nI_eq (show lenN s0.2.1 < 2147483648 by omega) (show 64 < 2147483648 by omega)).mp z) ca)
    refine lv_iconst (v := 0) hx hb dL_isSo_212 (by decide) ?_
    refine lv_iload_n hx hb dL_isSo_213 rfl (lv_at hl 2 rfl) ?_
    refine lv_iconst (v := 1) hx hb dL_isSo_214 (by decide) ?_
    refine lv_icmp_ne (tgt := 222) hx hb dL_isSo_215 (by decide) (fun _ => ?_) (fun z => absurd ((nI_eq (show P < 2147483648 by omega) (show 1 < 2147483648 by omega)).mp z) cb)
    refine lv_iconst (v := 0) hx hb dL_isSo_222 (by decide) ?_
    refine lv_icmp_ne (tgt := 282) hx hb dL_isSo_223 (by decide) (fun z => absurd rfl z) (fun _ => ?_)
    exact K226 _ _ _ _ hR hP hD hS (lv_sub hl [0, 1, 2, 3, 4, 5] rfl)
set_option maxHeartbeats 4000000 in
set_option maxRecDepth 100000 in
theorem c_L_isSo (l : Launch) (D : va_G) (hst : l.stackTraces = false) (cI cJ cZ cO : ClassId) (tD mi h : Nat) (s0 : SG) (u : KT) (sz : Nat) (v : Int32) (hR : RCt s0 u) (hI : IS s0) (hJ : JS s0) : Met l yL_isSo wsL_isSo rm_L_isSo (va_Pc [.ref h, .int v] (PREW tD mi D cI cJ cZ cO (WCt cI cJ cO h u) sz)) (va_Qi (fun r (w : KT) => r = 1 ∧ RCt s0 w) (fun w t => POST D (va_A (WCt cI cJ cO h u) sz) (WCt cI cJ cO h w) t) (va_A (WCt cI cJ cO h u) sz)) 205 1230 (va_A (WCt cI cJ cO h u) sz) := by
  refine met_goA (cc := cL_isSo) (maxL := 7) (ret := some .boolean) RL rfl (by decide) rfl (Nat.le_of_ble_eq_true rfl) ?_
  intro p e9 s m args below meth c ls hx hb hr hts hown hlocks hml hP hK hE hT hLS hN hD hA hS hl
  generalize va_A (WCt cI cJ cO h u) sz = A at hD hA hS hT hLS ⊢
  have C : LQ p l s m args meth c D cI cJ cZ cO tD mi A cL_isSo 7 wsL_isSo := ⟨hx, hb, hr, hml, hown, hts, hlocks, hst, hK, hE, hT, hLS, hN, hA⟩
  have hl : lv_has ls 7 [(0, .ref h), (1, .int v)] := hl
  refine lv_iconst (v := 0) hx hb dL_isSo_0 (by decide) ?_
  refine lv_istore_n (lv' := [(2, .int 0), (0, .ref h), (1, .int v)]) hx hb dL_isSo_1 rfl hl (by decide) rfl (fun ls hl => ?_)
  refine lv_iconst (v := 0) hx hb dL_isSo_2 (by decide) ?_
  refine lv_istore_n (lv' := [(3, .int 0), (2, .int 0), (0, .ref h), (1, .int v)]) hx hb dL_isSo_3 rfl hl (by decide) rfl (fun ls hl => ?_)
  refine lv_iconst (v := 1) hx hb dL_isSo_4 (by decide) ?_
  refine lv_istore (lv' := [(4, .int 1), (3, .int 0), (2, .int 0), (0, .ref h), (1, .int v)]) hx hb dL_isSo_5 hl (by decide) rfl (fun ls hl => ?_)
  refine lv_iconst (v := 0) hx hb dL_isSo_7 (by decide) ?_
  refine lv_istore (lv' := [(5, .int 0), (4, .int 1), (3, .int 0), (2, .int 0), (0, .ref h), (1, .int v)]) hx hb dL_isSo_8 hl (by decide) rfl (fun ls hl => ?_)
  refine so_1 C hI hJ (fun u H locs ls hR hP hD hS hl => ?_) 60 0 u _ _ _ 0 0 (by omega) (by omega) (by omega) hR hP hD hS (lv_sub hl [0, 1, 2, 3, 4, 5] rfl)
  rw [sm_256 hI.1, ct_60 hI.1] at hl
  refine lv_iconst (v := 0) hx hb dL_isSo_94 (by decide) ?_
  refine lv_istore (lv' := [(5, .int 0), (4, .int 1), (3, .int ((nI (fb_ct (pres s0.2.1) s0.1)))), (2, .int ((nI 256))), (0, .ref h), (1, .int v)]) hx hb dL_isSo_95 hl (by decide) rfl (fun ls hl => ?_)
  exact so_2 C hI hJ (fun u H locs ls hR hP hD hS hl => so_3 C hI hJ hR hP hD hS hl) 12 0 u _ _ _ 180 1080 (by omega) (by omega) (by omega) hR hP hD hS (lv_sub hl [0, 1, 2, 3, 4, 5] rfl)
end SO
