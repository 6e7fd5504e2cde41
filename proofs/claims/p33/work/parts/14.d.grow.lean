/-! ArrayList.grow: from a row of its own that is full, and from the empty one of all new lists -/
theorem grow_len {cap : Nat} (h2 : 2 ≤ cap) (h : cap < 1000) : nI cap + (if (nI (cap + 1) - nI cap) < (nI cap >>> ((1 : Int32) &&& 31)) then (nI cap >>> ((1 : Int32) &&& 31)) else (nI (cap + 1) - nI cap)) = nI (cap + cap / 2) := by
  have e1 : nI (cap + 1) - nI cap = nI 1 := by
    rw [pk_sub (by omega)]
    exact congrArg nI (by omega)
  have e2 : nI cap >>> ((1 : Int32) &&& 31) = nI (cap / 2) := by
    have := pk_shrN (n := cap) (by omega) ((1 : Int32) &&& 31) 1 (by decide)
    exact this
  rw [e1, e2, if_nI_lt (by omega) (by omega), nI_add]
  refine congrArg nI ?_
  split <;> omega
abbrev rm_Jx4a65c_grow_92f84_G : Room := { frames := 3, cells := 1, slots := 90, locals := 95 }
set_option maxHeartbeats 4000000 in
set_option maxRecDepth 100000 in
theorem c_Jx4a65c_grow_92f84_G (l : Launch) (D : va_G) (cI cJ cZ cO : ClassId) (tD mi : Nat) (hl0 e0 q0 : Nat) (md z : Int32) (cap : Nat) (el : Nat → Option Nat) (vs : List Value) (h2 : 2 ≤ cap) (h60 : cap < 60) (pl : va_W) (sz : Nat) (hel : ELM pl el cap) : Met l yJx4a65c_grow_92f84 wsJx4a65c_grow_92f84 rm_Jx4a65c_grow_92f84_G (va_Pc [.ref hl0, .int (nI (cap + 1))] (PREL tD mi D cI cJ cZ cO (WL cO hl0 e0 q0 md e0 z cap el vs ++ pl) sz)) (va_Qr (fun (u : Nat) => True) (fun u a t => a = u ∧ POST D (va_A (WL cO hl0 e0 q0 md e0 z cap el vs ++ pl) sz) ((WL cO hl0 e0 q0 md u z cap el vs ++ [(u, .inl (cO, (cap + cap / 2), RR (va_cpy el (fun _ => none) 0 0 cap)))]) ++ pl) t) (va_A (WL cO hl0 e0 q0 md e0 z cap el vs ++ pl) sz)) 1 90 (va_A (WL cO hl0 e0 q0 md e0 z cap el vs ++ pl) sz) := by
  refine met_goL (cc := cJx4a65c_grow_92f84) (maxL := 4) (ret := some (.array (.object "java/lang/Object"))) RJx4a65c rfl (by decide) rfl (Nat.le_of_ble_eq_true rfl) ?_
  intro p e s m args below meth c ls hx hb hr hts hown hlocks hin hml hsz hP hK hE hL hD hA hS hl
  have iL : ∀ w ∈ u_ws RJx4a65c TJx4a65c 3, w ∈ wsJx4a65c_grow_92f84 := mem_seg 37 3 rfl
  generalize va_A (WL cO hl0 e0 q0 md e0 z cap el vs ++ pl) sz = A at hD hA hS hL ⊢
  have hl : lv_has ls 4 [(0, .ref hl0), (1, .int (nI (cap + 1)))] := hl
  have hel : ELM pl el cap := hel
  refine lv_aload_n hx hb dJx4a65c_grow_92f84_0 rfl (lv_at hl 0 rfl) ?_
  refine va_get (D := D) (ci := 0) (v := .ref e0) (C := RJx4a65c) (T := TJx4a65c) (N := 3) hx hb hts iL hown hK hP 0 rfl rfl 1 (by decide) (hts (.fieldLink RJx4a65c 9 "java/util/ArrayList" "elementData" "[Ljava/lang/Object;") (List.mem_of_getElem? (i := 1) rfl)) (fun _ h9 => h9) rfl dJx4a65c_grow_92f84_1 ?_
  refine va_alen (v := nI cap) hx hb hK hP 1 3 rfl rfl rfl dJx4a65c_grow_92f84_4 ?_
  refine lv_istore_n (lv' := [(2, .int (nI cap)), (0, .ref hl0), (1, .int (nI (cap + 1)))]) hx hb dJx4a65c_grow_92f84_5 rfl hl (by decide) rfl (fun ls hl => ?_)
  refine lv_iload_n hx hb dJx4a65c_grow_92f84_6 rfl (lv_at hl 0 rfl) ?_
  refine lv_if_gt (tgt := 20) hx hb dJx4a65c_grow_92f84_7 (by decide) (fun _ => ?_) (fun z9 => absurd (show (0 : Int32) < nI cap from nI_lt (a := 0) (by omega) (by omega)) z9)
  refine lv_iload_n hx hb dJx4a65c_grow_92f84_20 rfl (lv_at hl 0 rfl) ?_
  refine lv_iload_n hx hb dJx4a65c_grow_92f84_21 rfl (lv_at hl 2 rfl) ?_
  refine lv_iload_n hx hb dJx4a65c_grow_92f84_22 rfl (lv_at hl 0 rfl) ?_
  refine lv_isub hx hb dJx4a65c_grow_92f84_23 ?_
  refine lv_iload_n hx hb dJx4a65c_grow_92f84_24 rfl (lv_at hl 0 rfl) ?_
  refine lv_iconst (v := 1) hx hb dJx4a65c_grow_92f84_25 (by decide) ?_
  refine lv_ishr hx hb dJx4a65c_grow_92f84_26 ?_
  have hr0 : nI cap + (if (nI (cap + 1) - nI cap) < (nI cap >>> ((1 : Int32) &&& 31)) then (nI cap >>> ((1 : Int32) &&& 31)) else (nI (cap + 1) - nI cap)) = nI (cap + cap / 2) := grow_len h2 (by omega)
  have hCut := cut_all (w1 := fun (_ : Unit) => (WL cO hl0 e0 q0 md e0 z cap el vs ++ pl)) hP hD hS hA
  refine ca_i hCut hS (va_runS (As := [.int (nI cap), .int (nI (cap + 1) - nI cap), .int (nI cap >>> ((1 : Int32) &&& 31))]) (rest := []) ⟨hx, hb, hml, hown, hts⟩ (c_J8_newLength_cabcc l D cI cJ cZ cO tD mi _ _ _ _ _ (nI (cap + cap / 2)) hr0 (nI_lt (a := 0) (by omega) (by omega)) (nI_le (b := 2147483639) (by omega) (by omega))) (va_cwS 3 hts gJx4a65c_grow_92f84_J8_newLength_cabcc rfl rfl rfl (by decide +kernel) ⟨Nat.le_of_ble_eq_true rfl, Nat.le_of_ble_eq_true rfl⟩) (hCut.preSL hK hE hL hS) rfl rfl hl.1 rfl (lv_room (Nat.le_of_ble_eq_true rfl)) dJx4a65c_grow_92f84_27 ⟨Nat.le_of_ble_eq_true rfl, Nat.le_of_ble_eq_true rfl⟩) (fun r _ H locs hw hP hD hS => ?_)
  subst hw
  refine lv_istore_n (lv' := [(3, .int (nI (cap + cap / 2))), (2, .int (nI cap)), (0, .ref hl0), (1, .int (nI (cap + 1)))]) hx hb dJx4a65c_grow_92f84_30 rfl hl (by decide) rfl (fun ls hl => ?_)
  refine lv_aload_n hx hb dJx4a65c_grow_92f84_31 rfl (lv_at hl 2 rfl) ?_
  refine lv_aload_n hx hb dJx4a65c_grow_92f84_32 rfl (lv_at hl 2 rfl) ?_
  refine va_get (D := D) (ci := 0) (v := .ref e0) (C := RJx4a65c) (T := TJx4a65c) (N := 3) hx hb hts iL hown hK hP 0 rfl rfl 1 (by decide) (hts (.fieldLink RJx4a65c 9 "java/util/ArrayList" "elementData" "[Ljava/lang/Object;") (List.mem_of_getElem? (i := 1) rfl)) (fun _ h9 => h9) rfl dJx4a65c_grow_92f84_33 ?_
  refine lv_iload_n hx hb dJx4a65c_grow_92f84_36 rfl (lv_at hl 0 rfl) ?_
  have hCut := cut_all (w1 := fun (u : Nat) => ((WL cO hl0 e0 q0 md e0 z cap el vs ++ [(u, .inl (cO, (cap + cap / 2), RR (va_cpy el (fun _ => none) 0 0 cap)))]) ++ pl)) hP hD hS hA
  refine ca_r (ra := fun (u : Nat) => u) hCut hS (va_runS (As := [.ref e0, .int (nI (cap + cap / 2))]) (rest := [.ref hl0]) ⟨hx, hb, hml, hown, hts⟩ (c_J7_copyOf_1904c l D cI cJ cZ cO tD mi hl0 e0 q0 md e0 z cap (cap + cap / 2) el vs pl _ (by omega) (by omega) hel) (va_cwS 2 hts gJx4a65c_grow_92f84_J7_copyOf_1904c rfl rfl rfl (by decide +kernel) ⟨Nat.le_of_ble_eq_true rfl, Nat.le_of_ble_eq_true rfl⟩) (hCut.preSL hK hE hL hS) rfl rfl hl.1 rfl (lv_room (Nat.le_of_ble_eq_true rfl)) dJx4a65c_grow_92f84_37 ⟨Nat.le_of_ble_eq_true rfl, Nat.le_of_ble_eq_true rfl⟩) (fun u H locs hw hP hD hS => ?_)
  refine lv_dup_x1 hx hb dJx4a65c_grow_92f84_40 rfl rfl ?_
  refine va_put (D := D) (ci := 0) (v := .ref u) (ty := .array (.object "java/lang/Object")) (C := RJx4a65c) (T := TJx4a65c) (N := 3) hx hb hts iL tyJx4a65c tyJx4a65c_ok nmJx4a65c hown hK hP hD hS 0 rfl rfl 1 (by decide) (hts (.fieldLink RJx4a65c 9 "java/util/ArrayList" "elementData" "[Ljava/lang/Object;") (List.mem_of_getElem? (i := 1) rfl)) (fun _ h9 => h9) rfl (by decide +kernel) rfl rfl (Nat.le_of_ble_eq_true rfl) dJx4a65c_grow_92f84_41 (fun H locs hP hD hS => ?_)
  have hP : va_P D vwCl ((WL cO hl0 e0 q0 md u z cap el vs ++ [(u, .inl (cO, (cap + cap / 2), RR (va_cpy el (fun _ => none) 0 0 cap)))]) ++ pl) H := hP
  have hD : va_D A ((WL cO hl0 e0 q0 md u z cap el vs ++ [(u, .inl (cO, (cap + cap / 2), RR (va_cpy el (fun _ => none) 0 0 cap)))]) ++ pl) := hD
  refine W.widen (k := 1) (n := 90) (Nat.le_of_ble_eq_true rfl) (Nat.le_of_ble_eq_true rfl) ?_
  exact rt_ra (S := Nat) (post := fun _ => True) (ra := fun u => u) (Wf := fun u => ((WL cO hl0 e0 q0 md u z cap el vs ++ [(u, .inl (cO, (cap + cap / 2), RR (va_cpy el (fun _ => none) 0 0 cap)))]) ++ pl)) u hx hb hr hlocks trivial hP hD hS dJx4a65c_grow_92f84_44
abbrev WF (hl q : Nat) (md : Int32) (er : Nat) (sz : Int32) (vs : List Value) : va_W := [(hl, .inr (0, [.int md, .ref er, .int sz])), (q, .inr (3, vs))]
abbrev rm_Jx4a65c_grow_92f84_F : Room := { frames := 1, cells := 1, slots := 10, locals := 40 }
set_option maxHeartbeats 4000000 in
set_option maxRecDepth 100000 in
theorem c_Jx4a65c_grow_92f84_F (l : Launch) (D : va_G) (cI cJ cZ cO : ClassId) (tD mi : Nat) (hl0 q0 : Nat) (md z : Int32) (vs : List Value) (pl : va_W) (sz : Nat) : Met l yJx4a65c_grow_92f84 wsJx4a65c_grow_92f84 rm_Jx4a65c_grow_92f84_F (va_Pc [.ref hl0, .int 1] (PREL tD mi D cI cJ cZ cO (WF hl0 q0 md tD z vs ++ pl) sz)) (va_Qr (fun (u : Nat) => True) (fun u a t => a = u ∧ POST D (va_A (WF hl0 q0 md tD z vs ++ pl) sz) ((WF hl0 q0 md u z vs ++ [(u, .inl (cO, 10, RR (fun _ => none)))]) ++ pl) t) (va_A (WF hl0 q0 md tD z vs ++ pl) sz)) 1 10 (va_A (WF hl0 q0 md tD z vs ++ pl) sz) := by
  refine met_goL (cc := cJx4a65c_grow_92f84) (maxL := 4) (ret := some (.array (.object "java/lang/Object"))) RJx4a65c rfl (by decide) rfl (Nat.le_of_ble_eq_true rfl) ?_
  intro p e s m args below meth c ls hx hb hr hts hown hlocks hin hml hsz hP hK hE hL hD hA hS hl
  have iL : ∀ w ∈ u_ws RJx4a65c TJx4a65c 3, w ∈ wsJx4a65c_grow_92f84 := mem_seg 37 3 rfl
  generalize va_A (WF hl0 q0 md tD z vs ++ pl) sz = A at hD hA hS hL ⊢
  have hl : lv_has ls 4 [(0, .ref hl0), (1, .int 1)] := hl
  refine lv_aload_n hx hb dJx4a65c_grow_92f84_0 rfl (lv_at hl 0 rfl) ?_
  refine va_get (D := D) (ci := 0) (v := .ref tD) (C := RJx4a65c) (T := TJx4a65c) (N := 3) hx hb hts iL hown hK hP 0 rfl rfl 1 (by decide) (hts (.fieldLink RJx4a65c 9 "java/util/ArrayList" "elementData" "[Ljava/lang/Object;") (List.mem_of_getElem? (i := 1) rfl)) (fun _ h9 => h9) rfl dJx4a65c_grow_92f84_1 ?_
  refine va_tlen (v := 0) hx hb hL.2.1 hS rfl dJx4a65c_grow_92f84_4 ?_
  refine lv_istore_n (lv' := [(2, .int 0), (0, .ref hl0), (1, .int 1)]) hx hb dJx4a65c_grow_92f84_5 rfl hl (by decide) rfl (fun ls hl => ?_)
  refine lv_iload_n hx hb dJx4a65c_grow_92f84_6 rfl (lv_at hl 0 rfl) ?_
  refine lv_if_gt (tgt := 20) hx hb dJx4a65c_grow_92f84_7 (by decide) (fun z9 => absurd z9 (by decide)) (fun _ => ?_)
  refine lv_aload_n hx hb dJx4a65c_grow_92f84_10 rfl (lv_at hl 1 rfl) ?_
  refine va_get (D := D) (ci := 0) (v := .ref tD) (C := RJx4a65c) (T := TJx4a65c) (N := 3) hx hb hts iL hown hK hP 0 rfl rfl 1 (by decide) (hts (.fieldLink RJx4a65c 9 "java/util/ArrayList" "elementData" "[Ljava/lang/Object;") (List.mem_of_getElem? (i := 1) rfl)) (fun _ h9 => h9) rfl dJx4a65c_grow_92f84_11 ?_
  refine va_gets hx hb hL.1 hS hown (hts (.fieldLink RJx4a65c 39 "java/util/ArrayList" "DEFAULTCAPACITY_EMPTY_ELEMENTDATA" "[Ljava/lang/Object;") (List.mem_of_getElem? (i := 2) rfl)) (fun _ h9 => h9) dJx4a65c_grow_92f84_14 ?_
  refine lv_acmp_eq (rx := some tD) (ry := some tD) (tgt := 45) hx hb dJx4a65c_grow_92f84_17 (by decide) (fun _ => ?_) (fun z9 => absurd rfl z9)
  refine lv_aload_n hx hb dJx4a65c_grow_92f84_45 rfl (lv_at hl 1 rfl) ?_
  refine lv_bipush (v := 10) hx hb dJx4a65c_grow_92f84_46 (by decide) ?_
  refine lv_iload_n hx hb dJx4a65c_grow_92f84_48 rfl (lv_at hl 2 rfl) ?_
  refine va_mmax (R := rm_Jx4a65c_grow_92f84_F) (rest := [.ref hl0]) hx hb (hml.trans hl.1.symm) hown (hts (.methodLink RJx4a65c 79 Lib.Math.max.name) (List.mem_of_getElem? (i := 3) rfl)) (hts (.static Lib.Math.max.name) (List.mem_of_getElem? (i := 4) rfl)) (hts (.initialized "java/lang/Math") (List.mem_of_getElem? (i := 5) rfl)) (hts (.code Lib.Math.max.name Lib.Math.max.code 2 (some .int)) (List.mem_of_getElem? (i := 6) rfl)) (by decide) (Nat.le_of_ble_eq_true rfl) (Nat.le_of_ble_eq_true rfl) (Nat.le_of_ble_eq_true rfl) dJx4a65c_grow_92f84_49 ?_
  have e10 : (if (10 : Int32) < 1 then 1 else 10) = (10 : Int32) := by decide
  rw [e10]
  refine nw_o (N' := 10) hx hb hown (hts (.classLink RJx4a65c 7 "java/lang/Object") (List.mem_of_getElem? (i := 7) rfl)) hL.2.2.1 hK hP hD hS hA (by decide) (by decide) (Nat.le_of_ble_eq_true rfl) (Nat.le_of_ble_eq_true rfl) (Nat.le_of_ble_eq_true rfl) dJx4a65c_grow_92f84_52 (fun u H hP hD hS => ?_)
  obtain ⟨hP, hD⟩ := w_rot ⟨hP, hD⟩
  refine lv_dup_x1 hx hb dJx4a65c_grow_92f84_55 rfl rfl ?_
  refine va_put (D := D) (ci := 0) (v := .ref u) (ty := .array (.object "java/lang/Object")) (C := RJx4a65c) (T := TJx4a65c) (N := 3) hx hb hts iL tyJx4a65c tyJx4a65c_ok nmJx4a65c hown hK hP hD hS 0 rfl rfl 1 (by decide) (hts (.fieldLink RJx4a65c 9 "java/util/ArrayList" "elementData" "[Ljava/lang/Object;") (List.mem_of_getElem? (i := 1) rfl)) (fun _ h9 => h9) rfl (by decide +kernel) rfl rfl (Nat.le_of_ble_eq_true rfl) dJx4a65c_grow_92f84_56 (fun H locs hP hD hS => ?_)
  have hP : va_P D vwCl ((WF hl0 q0 md u z vs ++ [(u, .inl (cO, 10, RR (fun _ => none)))]) ++ pl) H := hP
  have hD : va_D A ((WF hl0 q0 md u z vs ++ [(u, .inl (cO, 10, RR (fun _ => none)))]) ++ pl) := hD
  refine W.widen (k := 1) (n := 10) (Nat.le_of_ble_eq_true rfl) (Nat.le_of_ble_eq_true rfl) ?_
  exact rt_ra (S := Nat) (post := fun _ => True) (ra := fun u => u) (Wf := fun u => ((WF hl0 q0 md u z vs ++ [(u, .inl (cO, 10, RR (fun _ => none)))]) ++ pl)) u hx hb hr hlocks trivial hP hD hS dJx4a65c_grow_92f84_59
abbrev rm_Jx4a65c_grow_d5877_G : Room := { frames := 4, cells := 1, slots := 90, locals := 125 }
set_option maxHeartbeats 4000000 in
set_option maxRecDepth 100000 in
theorem c_Jx4a65c_grow_d5877_G (l : Launch) (D : va_G) (cI cJ cZ cO : ClassId) (tD mi : Nat) (hl0 e0 q0 : Nat) (md : Int32) (cap : Nat) (el : Nat → Option Nat) (vs : List Value) (h2 : 2 ≤ cap) (h60 : cap < 60) (pl : va_W) (sz : Nat) (hel : ELM pl el cap) : Met l yJx4a65c_grow_d5877 wsJx4a65c_grow_d5877 rm_Jx4a65c_grow_d5877_G (va_Pc [.ref hl0] (PREL tD mi D cI cJ cZ cO (WL cO hl0 e0 q0 md e0 (nI cap) cap el vs ++ pl) sz)) (va_Qr (fun (u : Nat) => True) (fun u a t => a = u ∧ POST D (va_A (WL cO hl0 e0 q0 md e0 (nI cap) cap el vs ++ pl) sz) ((WL cO hl0 e0 q0 md u (nI cap) cap el vs ++ [(u, .inl (cO, (cap + cap / 2), RR (va_cpy el (fun _ => none) 0 0 cap)))]) ++ pl) t) (va_A (WL cO hl0 e0 q0 md e0 (nI cap) cap el vs ++ pl) sz)) 1 90 (va_A (WL cO hl0 e0 q0 md e0 (nI cap) cap el vs ++ pl) sz) := by
  refine met_goL (cc := cJx4a65c_grow_d5877) (maxL := 1) (ret := some (.array (.object "java/lang/Object"))) RJx4a65c rfl (by decide) rfl (Nat.le_of_ble_eq_true rfl) ?_
  intro p e s m args below meth c ls hx hb hr hts hown hlocks hin hml hsz hP hK hE hL hD hA hS hl
  have iL : ∀ w ∈ u_ws RJx4a65c TJx4a65c 3, w ∈ wsJx4a65c_grow_d5877 := mem_seg 43 3 rfl
  generalize va_A (WL cO hl0 e0 q0 md e0 (nI cap) cap el vs ++ pl) sz = A at hD hA hS hL ⊢
  have hl : lv_has ls 1 [(0, .ref hl0)] := hl
  refine lv_aload_n hx hb dJx4a65c_grow_d5877_0 rfl (lv_at hl 0 rfl) ?_
  refine lv_aload_n hx hb dJx4a65c_grow_d5877_1 rfl (lv_at hl 0 rfl) ?_
  refine va_get (D := D) (ci := 0) (v := .int (nI cap)) (C := RJx4a65c) (T := TJx4a65c) (N := 3) hx hb hts iL hown hK hP 0 rfl rfl 2 (by decide) (hts (.fieldLink RJx4a65c 48 "java/util/ArrayList" "size" "I") (List.mem_of_getElem? (i := 1) rfl)) (fun _ h9 => h9) rfl dJx4a65c_grow_d5877_2 ?_
  refine lv_iconst (v := 1) hx hb dJx4a65c_grow_d5877_5 (by decide) ?_
  refine lv_iadd hx hb dJx4a65c_grow_d5877_6 ?_
  have ea : (nI cap : Int32) + 1 = nI (cap + 1) := nI_1 cap
  rw [ea]
  have hCut := cut_all (w1 := fun (u : Nat) => ((WL cO hl0 e0 q0 md u (nI cap) cap el vs ++ [(u, .inl (cO, (cap + cap / 2), RR (va_cpy el (fun _ => none) 0 0 cap)))]) ++ pl)) hP hD hS hA
  refine ca_r (ra := fun (u : Nat) => u) hCut hS (va_runV (As := [.int (nI (cap + 1))]) (rest := []) ⟨hx, hb, hml, hown, hts⟩ (c_Jx4a65c_grow_92f84_G l D cI cJ cZ cO tD mi hl0 e0 q0 md (nI cap) cap el vs h2 h60 pl _ hel) (cwV 1 hts gJx4a65c_grow_d5877_Jx4a65c_grow_92f84 rfl rfl rfl (by decide +kernel) ⟨Nat.le_of_ble_eq_true rfl, Nat.le_of_ble_eq_true rfl⟩) (hCut.preVL (qb := 0) (ci := 0) hK hE hL hS rfl rfl) rfl rfl hl.1 rfl (lv_room (Nat.le_of_ble_eq_true rfl)) dJx4a65c_grow_d5877_7 ⟨Nat.le_of_ble_eq_true rfl, Nat.le_of_ble_eq_true rfl⟩) (fun u H locs hw hP hD hS => ?_)
  refine W.widen (k := 1) (n := 90) (Nat.le_of_ble_eq_true rfl) (Nat.le_of_ble_eq_true rfl) ?_
  exact rt_ra (S := Nat) (post := fun _ => True) (ra := fun u => u) (Wf := fun u => ((WL cO hl0 e0 q0 md u (nI cap) cap el vs ++ [(u, .inl (cO, (cap + cap / 2), RR (va_cpy el (fun _ => none) 0 0 cap)))]) ++ pl)) u hx hb hr hlocks trivial hP hD hS dJx4a65c_grow_d5877_10
abbrev rm_Jx4a65c_grow_d5877_F : Room := { frames := 2, cells := 1, slots := 10, locals := 70 }
set_option maxHeartbeats 4000000 in
set_option maxRecDepth 100000 in
theorem c_Jx4a65c_grow_d5877_F (l : Launch) (D : va_G) (cI cJ cZ cO : ClassId) (tD mi : Nat) (hl0 q0 : Nat) (md : Int32) (vs : List Value) (pl : va_W) (sz : Nat) : Met l yJx4a65c_grow_d5877 wsJx4a65c_grow_d5877 rm_Jx4a65c_grow_d5877_F (va_Pc [.ref hl0] (PREL tD mi D cI cJ cZ cO (WF hl0 q0 md tD 0 vs ++ pl) sz)) (va_Qr (fun (u : Nat) => True) (fun u a t => a = u ∧ POST D (va_A (WF hl0 q0 md tD 0 vs ++ pl) sz) ((WF hl0 q0 md u 0 vs ++ [(u, .inl (cO, 10, RR (fun _ => none)))]) ++ pl) t) (va_A (WF hl0 q0 md tD 0 vs ++ pl) sz)) 1 10 (va_A (WF hl0 q0 md tD 0 vs ++ pl) sz) := by
  refine met_goL (cc := cJx4a65c_grow_d5877) (maxL := 1) (ret := some (.array (.object "java/lang/Object"))) RJx4a65c rfl (by decide) rfl (Nat.le_of_ble_eq_true rfl) ?_
  intro p e s m args below meth c ls hx hb hr hts hown hlocks hin hml hsz hP hK hE hL hD hA hS hl
  have iL : ∀ w ∈ u_ws RJx4a65c TJx4a65c 3, w ∈ wsJx4a65c_grow_d5877 := mem_seg 43 3 rfl
  generalize va_A (WF hl0 q0 md tD 0 vs ++ pl) sz = A at hD hA hS hL ⊢
  have hl : lv_has ls 1 [(0, .ref hl0)] := hl
  refine lv_aload_n hx hb dJx4a65c_grow_d5877_0 rfl (lv_at hl 0 rfl) ?_
  refine lv_aload_n hx hb dJx4a65c_grow_d5877_1 rfl (lv_at hl 0 rfl) ?_
  refine va_get (D := D) (ci := 0) (v := .int (0)) (C := RJx4a65c) (T := TJx4a65c) (N := 3) hx hb hts iL hown hK hP 0 rfl rfl 2 (by decide) (hts (.fieldLink RJx4a65c 48 "java/util/ArrayList" "size" "I") (List.mem_of_getElem? (i := 1) rfl)) (fun _ h9 => h9) rfl dJx4a65c_grow_d5877_2 ?_
  refine lv_iconst (v := 1) hx hb dJx4a65c_grow_d5877_5 (by decide) ?_
  refine lv_iadd hx hb dJx4a65c_grow_d5877_6 ?_
  have ea : (0 : Int32) + 1 = 1 := by decide
  rw [ea]
  have hCut := cut_all (w1 := fun (u : Nat) => ((WF hl0 q0 md u 0 vs ++ [(u, .inl (cO, 10, RR (fun _ => none)))]) ++ pl)) hP hD hS hA
  refine ca_r (ra := fun (u : Nat) => u) hCut hS (va_runV (As := [.int (1)]) (rest := []) ⟨hx, hb, hml, hown, hts⟩ (c_Jx4a65c_grow_92f84_F l D cI cJ cZ cO tD mi hl0 q0 md 0 vs pl _) (cwV 1 hts gJx4a65c_grow_d5877_Jx4a65c_grow_92f84 rfl rfl rfl (by decide +kernel) ⟨Nat.le_of_ble_eq_true rfl, Nat.le_of_ble_eq_true rfl⟩) (hCut.preVL (qb := 0) (ci := 0) hK hE hL hS rfl rfl) rfl rfl hl.1 rfl (lv_room (Nat.le_of_ble_eq_true rfl)) dJx4a65c_grow_d5877_7 ⟨Nat.le_of_ble_eq_true rfl, Nat.le_of_ble_eq_true rfl⟩) (fun u H locs hw hP hD hS => ?_)
  refine W.widen (k := 1) (n := 10) (Nat.le_of_ble_eq_true rfl) (Nat.le_of_ble_eq_true rfl) ?_
  exact rt_ra (S := Nat) (post := fun _ => True) (ra := fun u => u) (Wf := fun u => ((WF hl0 q0 md u 0 vs ++ [(u, .inl (cO, 10, RR (fun _ => none)))]) ++ pl)) u hx hb hr hlocks trivial hP hD hS dJx4a65c_grow_d5877_10
