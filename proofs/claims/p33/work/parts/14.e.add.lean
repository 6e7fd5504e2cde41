/-! ArrayList.add, from a row of its own and from the empty one of all new lists; the list's constructors -/
/-- what add leaves of the row: the new place n, the old ones as they were, nothing behind -/
def ADDP (q0 n cap : Nat) (el : Nat → Option Nat) (u : Nat × Nat × (Nat → Option Nat)) : Prop := u.2.2 n = some q0 ∧ n + 1 ≤ u.2.1 ∧ cap ≤ u.2.1 ∧ u.2.1 ≤ 90 ∧ ∀ i, i < u.2.1 → i ≠ n → (i < cap ∧ u.2.2 i = el i) ∨ (n ≤ i ∧ u.2.2 i = none)
theorem addp_in {q0 n cap e0 : Nat} {el : Nat → Option Nat} (h : n < cap) (h90 : cap ≤ 90) : ADDP q0 n cap el (e0, cap, va_up el n (some q0)) := ⟨va_up_self _ _ _, h, Nat.le_refl _, h90, fun i hi hn => Or.inl ⟨hi, va_up_ne _ _ hn⟩⟩
theorem addp_gr {q0 n cap e0 : Nat} {el : Nat → Option Nat} (h : n = cap) (h2 : 2 ≤ cap) (h60 : n < 60) : ADDP q0 n cap el (e0, cap + cap / 2, va_up (va_cpy el (fun _ => none) 0 0 cap) n (some q0)) := by
  refine ⟨va_up_self _ _ _, by dsimp only; omega, by dsimp only; omega, by dsimp only; omega, fun i hi hn => ?_⟩
  dsimp only at hi ⊢
  rw [va_up_ne _ _ hn]
  by_cases h1 : i < cap
  · refine Or.inl ⟨h1, ?_⟩
    have e : va_cpy el (fun _ => none) 0 0 cap i = el (0 + (i - 0)) := if_pos ⟨Nat.zero_le _, by omega⟩
    rw [e]
    exact congrArg el (by omega)
  · refine Or.inr ⟨by omega, if_neg (fun z => h1 ?_)⟩
    omega
abbrev rm_Jx4a65c_add_72be8_A : Room := { frames := 5, cells := 1, slots := 90, locals := 160 }
set_option maxHeartbeats 4000000 in
set_option maxRecDepth 100000 in
theorem c_Jx4a65c_add_72be8_A (l : Launch) (D : va_G) (cI cJ cZ cO : ClassId) (tD mi : Nat) (hl0 e0 q0 : Nat) (md : Int32) (n cap : Nat) (el : Nat → Option Nat) (vs : List Value) (h2 : 2 ≤ cap) (h60 : n < 60) (hnc : n ≤ cap) (h90 : cap ≤ 90) (pl : va_W) (sz : Nat) (hel : ELM pl el cap) : Met l yJx4a65c_add_72be8 wsJx4a65c_add_72be8 rm_Jx4a65c_add_72be8_A (va_Pc [.ref hl0, .ref q0, .ref e0, .int (nI n)] (PREL tD mi D cI cJ cZ cO (WL cO hl0 e0 q0 md e0 (nI n) cap el vs ++ pl) sz)) (va_Qv (fun (u : Nat × Nat × (Nat → Option Nat)) => ADDP q0 n cap el u) (fun u t => POST D (va_A (WL cO hl0 e0 q0 md e0 (nI n) cap el vs ++ pl) sz) (WL cO hl0 u.1 q0 md u.1 (nI (n + 1)) u.2.1 u.2.2 vs ++ pl) t) (va_A (WL cO hl0 e0 q0 md e0 (nI n) cap el vs ++ pl) sz)) 1 90 (va_A (WL cO hl0 e0 q0 md e0 (nI n) cap el vs ++ pl) sz) := by
  refine met_goL (cc := cJx4a65c_add_72be8) (maxL := 4) (ret := none) RJx4a65c rfl (by decide) rfl (Nat.le_of_ble_eq_true rfl) ?_
  intro p e s m args below meth c ls hx hb hr hts hown hlocks hin hml hsz hP hK hE hL hD hA hS hl
  have iL : ∀ w ∈ u_ws RJx4a65c TJx4a65c 3, w ∈ wsJx4a65c_add_72be8 := mem_seg 47 3 rfl
  generalize va_A (WL cO hl0 e0 q0 md e0 (nI n) cap el vs ++ pl) sz = A at hD hA hS hL ⊢
  have hl : lv_has ls 4 [(0, .ref hl0), (1, .ref q0), (2, .ref e0), (3, .int (nI n))] := hl
  have hcn : (nI n).toNatClampNeg = n := nI_clamp (by omega)
  refine lv_iload_n hx hb dJx4a65c_add_72be8_0 rfl (lv_at hl 3 rfl) ?_
  refine lv_aload_n hx hb dJx4a65c_add_72be8_1 rfl (lv_at hl 2 rfl) ?_
  refine va_alen (v := nI cap) hx hb hK hP 1 3 rfl rfl rfl dJx4a65c_add_72be8_2 ?_
  refine lv_icmp_ne (tgt := 11) hx hb dJx4a65c_add_72be8_3 (by decide) (fun z => ?_) (fun z => ?_)
  · have hn2 : n < cap := Nat.lt_of_le_of_ne hnc (fun e9 => z (congrArg nI e9))
    refine W.widen (k := 1) (n := 90) (Nat.le_of_ble_eq_true rfl) (Nat.le_of_ble_eq_true rfl) ?_
    refine lv_aload_n hx hb dJx4a65c_add_72be8_11 rfl (lv_at hl 2 rfl) ?_
    refine lv_iload_n hx hb dJx4a65c_add_72be8_12 rfl (lv_at hl 3 rfl) ?_
    refine lv_aload_n hx hb dJx4a65c_add_72be8_13 rfl (lv_at hl 1 rfl) ?_
    refine va_astqO hx hb hK hP hD hS 1 3 2 3 (r := (RX2, TX2, 8)) rfl rfl hL.2.2.2.2.2 rfl rfl (vp_in_nI (by omega) (by omega)) dJx4a65c_add_72be8_14 (fun H locs hP hD hS => ?_)
    rw [hcn] at hP hD
    have hP : va_P D vwCl (WL cO hl0 e0 q0 md e0 (nI n) cap (va_up (el) n (some q0)) vs ++ pl) H := hP
    have hD : va_D A (WL cO hl0 e0 q0 md e0 (nI n) cap (va_up (el) n (some q0)) vs ++ pl) := hD
    refine lv_aload_n hx hb dJx4a65c_add_72be8_15 rfl (lv_at hl 0 rfl) ?_
    refine lv_iload_n hx hb dJx4a65c_add_72be8_16 rfl (lv_at hl 3 rfl) ?_
    refine lv_iconst (v := 1) hx hb dJx4a65c_add_72be8_17 (by decide) ?_
    refine lv_iadd hx hb dJx4a65c_add_72be8_18 ?_
    have e1 : (nI n : Int32) + 1 = nI (n + 1) := nI_1 n
    rw [e1]
    refine va_put (D := D) (ci := 0) (v := .int (nI (n + 1))) (ty := .int) (C := RJx4a65c) (T := TJx4a65c) (N := 3) hx hb hts iL tyJx4a65c tyJx4a65c_ok nmJx4a65c hown hK hP hD hS 0 rfl rfl 2 (by decide) (hts (.fieldLink RJx4a65c 48 "java/util/ArrayList" "size" "I") (List.mem_of_getElem? (i := 1) rfl)) (fun _ h9 => h9) rfl (by decide +kernel) rfl rfl (Nat.le_of_ble_eq_true rfl) dJx4a65c_add_72be8_19 (fun H locs hP hD hS => ?_)
    have hP : va_P D vwCl (WL cO hl0 e0 q0 md e0 (nI (n + 1)) cap (va_up (el) n (some q0)) vs ++ pl) H := hP
    have hD : va_D A (WL cO hl0 e0 q0 md e0 (nI (n + 1)) cap (va_up (el) n (some q0)) vs ++ pl) := hD
    exact rt_v (S := Nat × Nat × (Nat → Option Nat)) (post := fun u => ADDP q0 n cap el u) (Wf := fun u => (WL cO hl0 u.1 q0 md u.1 (nI (n + 1)) u.2.1 u.2.2 vs ++ pl)) (e0, cap, va_up (el) n (some q0)) hx hb hr hlocks (addp_in hn2 h90) hP hD hS dJx4a65c_add_72be8_22
  · have hn2 : n = cap := (nI_eq (by omega) (by omega)).mp z
    refine lv_aload_n hx hb dJx4a65c_add_72be8_6 rfl (lv_at hl 0 rfl) ?_
    have hP : va_P D vwCl (WL cO hl0 e0 q0 md e0 (nI cap) cap el vs ++ pl) _ := hn2 ▸ hP
    have hD : va_D A (WL cO hl0 e0 q0 md e0 (nI cap) cap el vs ++ pl) := hn2 ▸ hD
    have hCut := cut_all (w1 := fun (u : Nat) => ((WL cO hl0 e0 q0 md u (nI cap) cap el vs ++ [(u, .inl (cO, (cap + cap / 2), RR (va_cpy el (fun _ => none) 0 0 cap)))]) ++ pl)) hP hD hS hA
    refine ca_r (ra := fun (u : Nat) => u) hCut hS (va_runV (As := []) (rest := []) ⟨hx, hb, hml, hown, hts⟩ (c_Jx4a65c_grow_d5877_G l D cI cJ cZ cO tD mi hl0 e0 q0 md cap el vs h2 (hn2 ▸ h60) pl _ hel) (cwV 0 hts gJx4a65c_add_72be8_Jx4a65c_grow_d5877 rfl rfl rfl (by decide +kernel) ⟨Nat.le_of_ble_eq_true rfl, Nat.le_of_ble_eq_true rfl⟩) (hCut.preVL (qb := 0) (ci := 0) hK hE hL hS rfl rfl) rfl rfl hl.1 rfl (lv_room (Nat.le_of_ble_eq_true rfl)) dJx4a65c_add_72be8_7 ⟨Nat.le_of_ble_eq_true rfl, Nat.le_of_ble_eq_true rfl⟩) (fun u H locs hw hP hD hS => ?_)
    refine lv_astore_n (lv' := [(2, .ref u), (0, .ref hl0), (1, .ref q0), (3, .int (nI n))]) hx hb dJx4a65c_add_72be8_10 rfl hl (by decide) rfl (fun ls hl => ?_)
    refine lv_aload_n hx hb dJx4a65c_add_72be8_11 rfl (lv_at hl 0 rfl) ?_
    refine lv_iload_n hx hb dJx4a65c_add_72be8_12 rfl (lv_at hl 3 rfl) ?_
    refine lv_aload_n hx hb dJx4a65c_add_72be8_13 rfl (lv_at hl 2 rfl) ?_
    refine va_astqO hx hb hK hP hD hS 3 3 2 3 (r := (RX2, TX2, 8)) rfl rfl hL.2.2.2.2.2 rfl rfl (vp_in_nI (by omega) (by omega)) dJx4a65c_add_72be8_14 (fun H locs hP hD hS => ?_)
    rw [hcn] at hP hD
    have hP : va_P D vwCl ([(hl0, .inr (0, [.int md, .ref u, .int (nI cap)])), (e0, .inl (cO, cap, RR el)), (q0, .inr (3, vs)), (u, .inl (cO, (cap + cap / 2), RR (va_up (va_cpy el (fun _ => none) 0 0 cap) n (some q0))))] ++ pl) H := hP
    have hD : va_D A ([(hl0, .inr (0, [.int md, .ref u, .int (nI cap)])), (e0, .inl (cO, cap, RR el)), (q0, .inr (3, vs)), (u, .inl (cO, (cap + cap / 2), RR (va_up (va_cpy el (fun _ => none) 0 0 cap) n (some q0))))] ++ pl) := hD
    have hP := hP.part (cx := [(hl0, .inr (0, [.int md, .ref u, .int (nI cap)])), (u, .inl (cO, (cap + cap / 2), RR (va_up (va_cpy el (fun _ => none) 0 0 cap) n (some q0)))), (q0, .inr (3, vs))]) [0, 3, 2] rfl
    have hD := hD.part (cx := [(hl0, .inr (0, [.int md, .ref u, .int (nI cap)])), (u, .inl (cO, (cap + cap / 2), RR (va_up (va_cpy el (fun _ => none) 0 0 cap) n (some q0)))), (q0, .inr (3, vs))]) [0, 3, 2] (by decide) rfl
    have en : nI cap = nI n := congrArg nI hn2.symm
    rw [en] at hP hD
    have hP : va_P D vwCl (WL cO hl0 u q0 md u (nI n) (cap + cap / 2) (va_up (va_cpy el (fun _ => none) 0 0 cap) n (some q0)) vs ++ pl) H := hP
    have hD : va_D A (WL cO hl0 u q0 md u (nI n) (cap + cap / 2) (va_up (va_cpy el (fun _ => none) 0 0 cap) n (some q0)) vs ++ pl) := hD
    refine lv_aload_n hx hb dJx4a65c_add_72be8_15 rfl (lv_at hl 1 rfl) ?_
    refine lv_iload_n hx hb dJx4a65c_add_72be8_16 rfl (lv_at hl 3 rfl) ?_
    refine lv_iconst (v := 1) hx hb dJx4a65c_add_72be8_17 (by decide) ?_
    refine lv_iadd hx hb dJx4a65c_add_72be8_18 ?_
    have e1 : (nI n : Int32) + 1 = nI (n + 1) := nI_1 n
    rw [e1]
    refine va_put (D := D) (ci := 0) (v := .int (nI (n + 1))) (ty := .int) (C := RJx4a65c) (T := TJx4a65c) (N := 3) hx hb hts iL tyJx4a65c tyJx4a65c_ok nmJx4a65c hown hK hP hD hS 0 rfl rfl 2 (by decide) (hts (.fieldLink RJx4a65c 48 "java/util/ArrayList" "size" "I") (List.mem_of_getElem? (i := 1) rfl)) (fun _ h9 => h9) rfl (by decide +kernel) rfl rfl (Nat.le_of_ble_eq_true rfl) dJx4a65c_add_72be8_19 (fun H locs hP hD hS => ?_)
    have hP : va_P D vwCl (WL cO hl0 u q0 md u (nI (n + 1)) (cap + cap / 2) (va_up (va_cpy el (fun _ => none) 0 0 cap) n (some q0)) vs ++ pl) H := hP
    have hD : va_D A (WL cO hl0 u q0 md u (nI (n + 1)) (cap + cap / 2) (va_up (va_cpy el (fun _ => none) 0 0 cap) n (some q0)) vs ++ pl) := hD
    exact rt_v (S := Nat × Nat × (Nat → Option Nat)) (post := fun u => ADDP q0 n cap el u) (Wf := fun u => (WL cO hl0 u.1 q0 md u.1 (nI (n + 1)) u.2.1 u.2.2 vs ++ pl)) (u, (cap + cap / 2), va_up (va_cpy el (fun _ => none) 0 0 cap) n (some q0)) hx hb hr hlocks (addp_gr hn2 h2 h60) hP hD hS dJx4a65c_add_72be8_22
abbrev rm_Jx4a65c_add_72be8_F : Room := { frames := 3, cells := 1, slots := 10, locals := 100 }
set_option maxHeartbeats 4000000 in
set_option maxRecDepth 100000 in
theorem c_Jx4a65c_add_72be8_F (l : Launch) (D : va_G) (cI cJ cZ cO : ClassId) (tD mi : Nat) (hl0 q0 : Nat) (md : Int32) (vs : List Value) (pl : va_W) (sz : Nat) : Met l yJx4a65c_add_72be8 wsJx4a65c_add_72be8 rm_Jx4a65c_add_72be8_F (va_Pc [.ref hl0, .ref q0, .ref tD, .int 0] (PREL tD mi D cI cJ cZ cO (WF hl0 q0 md tD 0 vs ++ pl) sz)) (va_Qv (fun (u : Nat) => True) (fun u t => POST D (va_A (WF hl0 q0 md tD 0 vs ++ pl) sz) (WL cO hl0 u q0 md u 1 10 (va_up (fun _ => none) 0 (some q0)) vs ++ pl) t) (va_A (WF hl0 q0 md tD 0 vs ++ pl) sz)) 1 10 (va_A (WF hl0 q0 md tD 0 vs ++ pl) sz) := by
  refine met_goL (cc := cJx4a65c_add_72be8) (maxL := 4) (ret := none) RJx4a65c rfl (by decide) rfl (Nat.le_of_ble_eq_true rfl) ?_
  intro p e s m args below meth c ls hx hb hr hts hown hlocks hin hml hsz hP hK hE hL hD hA hS hl
  have iL : ∀ w ∈ u_ws RJx4a65c TJx4a65c 3, w ∈ wsJx4a65c_add_72be8 := mem_seg 47 3 rfl
  generalize va_A (WF hl0 q0 md tD 0 vs ++ pl) sz = A at hD hA hS hL ⊢
  have hl : lv_has ls 4 [(0, .ref hl0), (1, .ref q0), (2, .ref tD), (3, .int 0)] := hl
  refine lv_iload_n hx hb dJx4a65c_add_72be8_0 rfl (lv_at hl 3 rfl) ?_
  refine lv_aload_n hx hb dJx4a65c_add_72be8_1 rfl (lv_at hl 2 rfl) ?_
  refine va_tlen (v := 0) hx hb hL.2.1 hS rfl dJx4a65c_add_72be8_2 ?_
  refine lv_icmp_ne (tgt := 11) hx hb dJx4a65c_add_72be8_3 (by decide) (fun z => absurd rfl z) (fun _ => ?_)
  refine lv_aload_n hx hb dJx4a65c_add_72be8_6 rfl (lv_at hl 0 rfl) ?_
  have hCut := cut_all (w1 := fun (u : Nat) => ((WF hl0 q0 md u 0 vs ++ [(u, .inl (cO, 10, RR (fun _ => none)))]) ++ pl)) hP hD hS hA
  refine ca_r (ra := fun (u : Nat) => u) hCut hS (va_runV (As := []) (rest := []) ⟨hx, hb, hml, hown, hts⟩ (c_Jx4a65c_grow_d5877_F l D cI cJ cZ cO tD mi hl0 q0 md vs pl _) (cwV 0 hts gJx4a65c_add_72be8_Jx4a65c_grow_d5877 rfl rfl rfl (by decide +kernel) ⟨Nat.le_of_ble_eq_true rfl, Nat.le_of_ble_eq_true rfl⟩) (hCut.preVL (qb := 0) (ci := 0) hK hE hL hS rfl rfl) rfl rfl hl.1 rfl (lv_room (Nat.le_of_ble_eq_true rfl)) dJx4a65c_add_72be8_7 ⟨Nat.le_of_ble_eq_true rfl, Nat.le_of_ble_eq_true rfl⟩) (fun u H locs hw hP hD hS => ?_)
  refine lv_astore_n (lv' := [(2, .ref u), (0, .ref hl0), (1, .ref q0), (3, .int 0)]) hx hb dJx4a65c_add_72be8_10 rfl hl (by decide) rfl (fun ls hl => ?_)
  refine lv_aload_n hx hb dJx4a65c_add_72be8_11 rfl (lv_at hl 0 rfl) ?_
  refine lv_iload_n hx hb dJx4a65c_add_72be8_12 rfl (lv_at hl 3 rfl) ?_
  refine lv_aload_n hx hb dJx4a65c_add_72be8_13 rfl (lv_at hl 2 rfl) ?_
  refine va_astqO hx hb hK hP hD hS 2 3 1 3 (r := (RX2, TX2, 8)) rfl rfl hL.2.2.2.2.2 rfl rfl (vp_lit (by decide)) dJx4a65c_add_72be8_14 (fun H locs hP hD hS => ?_)
  have hP : va_P D vwCl ([(hl0, .inr (0, [.int md, .ref u, .int 0])), (q0, .inr (3, vs)), (u, .inl (cO, 10, RR (va_up (fun _ => none) 0 (some q0))))] ++ pl) H := hP
  have hD : va_D A ([(hl0, .inr (0, [.int md, .ref u, .int 0])), (q0, .inr (3, vs)), (u, .inl (cO, 10, RR (va_up (fun _ => none) 0 (some q0))))] ++ pl) := hD
  have hP := hP.part (cx := [(hl0, .inr (0, [.int md, .ref u, .int 0])), (u, .inl (cO, 10, RR (va_up (fun _ => none) 0 (some q0)))), (q0, .inr (3, vs))]) [0, 2, 1] rfl
  have hD := hD.part (cx := [(hl0, .inr (0, [.int md, .ref u, .int 0])), (u, .inl (cO, 10, RR (va_up (fun _ => none) 0 (some q0)))), (q0, .inr (3, vs))]) [0, 2, 1] (by decide) rfl
  have hP : va_P D vwCl (WL cO hl0 u q0 md u 0 10 (va_up (fun _ => none) 0 (some q0)) vs ++ pl) H := hP
  have hD : va_D A (WL cO hl0 u q0 md u 0 10 (va_up (fun _ => none) 0 (some q0)) vs ++ pl) := hD
  refine lv_aload_n hx hb dJx4a65c_add_72be8_15 rfl (lv_at hl 1 rfl) ?_
  refine lv_iload_n hx hb dJx4a65c_add_72be8_16 rfl (lv_at hl 3 rfl) ?_
  refine lv_iconst (v := 1) hx hb dJx4a65c_add_72be8_17 (by decide) ?_
  refine lv_iadd hx hb dJx4a65c_add_72be8_18 ?_
  have e1 : (0 : Int32) + 1 = 1 := by decide
  rw [e1]
  refine va_put (D := D) (ci := 0) (v := .int 1) (ty := .int) (C := RJx4a65c) (T := TJx4a65c) (N := 3) hx hb hts iL tyJx4a65c tyJx4a65c_ok nmJx4a65c hown hK hP hD hS 0 rfl rfl 2 (by decide) (hts (.fieldLink RJx4a65c 48 "java/util/ArrayList" "size" "I") (List.mem_of_getElem? (i := 1) rfl)) (fun _ h9 => h9) rfl (by decide +kernel) rfl rfl (Nat.le_of_ble_eq_true rfl) dJx4a65c_add_72be8_19 (fun H locs hP hD hS => ?_)
  have hP : va_P D vwCl (WL cO hl0 u q0 md u 1 10 (va_up (fun _ => none) 0 (some q0)) vs ++ pl) H := hP
  have hD : va_D A (WL cO hl0 u q0 md u 1 10 (va_up (fun _ => none) 0 (some q0)) vs ++ pl) := hD
  exact rt_v (S := Nat) (post := fun _ => True) (Wf := fun u => (WL cO hl0 u q0 md u 1 10 (va_up (fun _ => none) 0 (some q0)) vs ++ pl)) u hx hb hr hlocks trivial hP hD hS dJx4a65c_add_72be8_22
abbrev rm_Jx4a65c_add_9ea2d_A : Room := { frames := 6, cells := 1, slots := 90, locals := 200 }
set_option maxHeartbeats 4000000 in
set_option maxRecDepth 100000 in
theorem c_Jx4a65c_add_9ea2d_A (l : Launch) (D : va_G) (cI cJ cZ cO : ClassId) (tD mi : Nat) (hl0 e0 q0 : Nat) (md : Int32) (n cap : Nat) (el : Nat → Option Nat) (vs : List Value) (h2 : 2 ≤ cap) (h60 : n < 60) (hnc : n ≤ cap) (h90 : cap ≤ 90) (pl : va_W) (sz : Nat) (hel : ELM pl el cap) : Met l yJx4a65c_add_9ea2d wsJx4a65c_add_9ea2d rm_Jx4a65c_add_9ea2d_A (va_Pc [.ref hl0, .ref q0] (PREL tD mi D cI cJ cZ cO (WL cO hl0 e0 q0 (md) e0 (nI n) cap el vs ++ pl) sz)) (va_Qi (fun v (u : Nat × Nat × (Nat → Option Nat)) => v = 1 ∧ (ADDP q0 n cap el u)) (fun u t => POST D (va_A (WL cO hl0 e0 q0 (md) e0 (nI n) cap el vs ++ pl) sz) (WL cO hl0 u.1 q0 (md + 1) u.1 (nI (n + 1)) u.2.1 u.2.2 vs ++ pl) t) (va_A (WL cO hl0 e0 q0 (md) e0 (nI n) cap el vs ++ pl) sz)) 1 90 (va_A (WL cO hl0 e0 q0 (md) e0 (nI n) cap el vs ++ pl) sz) := by
  refine met_goL (cc := cJx4a65c_add_9ea2d) (maxL := 2) (ret := some .boolean) RJx4a65c rfl (by decide) rfl (Nat.le_of_ble_eq_true rfl) ?_
  intro p e s m args below meth c ls hx hb hr hts hown hlocks hin hml hsz hP hK hE hL hD hA hS hl
  have iL : ∀ w ∈ u_ws RJx4a65c TJx4a65c 3, w ∈ wsJx4a65c_add_9ea2d := mem_seg 53 3 rfl
  generalize va_A (WL cO hl0 e0 q0 (md) e0 (nI n) cap el vs ++ pl) sz = A at hD hA hS hL ⊢
  have hl : lv_has ls 2 [(0, .ref hl0), (1, .ref q0)] := hl
  refine lv_aload_n hx hb dJx4a65c_add_9ea2d_0 rfl (lv_at hl 0 rfl) ?_
  refine lv_dup hx hb dJx4a65c_add_9ea2d_1 rfl ?_
  refine va_get (D := D) (ci := 0) (v := .int md) (C := RJx4a65c) (T := TJx4a65c) (N := 3) hx hb hts iL hown hK hP 0 rfl rfl 0 (by decide) (hts (.fieldLink RJx4a65c 63 "java/util/ArrayList" "modCount" "I") (List.mem_of_getElem? (i := 1) rfl)) (fun x9 h9 => u_same (hts (.sameField "java/util/ArrayList" "java/util/AbstractList" "modCount" "I") (List.mem_of_getElem? (i := 2) rfl)) x9 h9) rfl dJx4a65c_add_9ea2d_2 ?_
  refine lv_iconst (v := 1) hx hb dJx4a65c_add_9ea2d_5 (by decide) ?_
  refine lv_iadd hx hb dJx4a65c_add_9ea2d_6 ?_
  refine va_put (D := D) (ci := 0) (v := .int (md + 1)) (ty := .int) (C := RJx4a65c) (T := TJx4a65c) (N := 3) hx hb hts iL tyJx4a65c tyJx4a65c_ok nmJx4a65c hown hK hP hD hS 0 rfl rfl 0 (by decide) (hts (.fieldLink RJx4a65c 63 "java/util/ArrayList" "modCount" "I") (List.mem_of_getElem? (i := 1) rfl)) (fun x9 h9 => u_same (hts (.sameField "java/util/ArrayList" "java/util/AbstractList" "modCount" "I") (List.mem_of_getElem? (i := 2) rfl)) x9 h9) rfl (by decide +kernel) rfl rfl (Nat.le_of_ble_eq_true rfl) dJx4a65c_add_9ea2d_7 (fun H locs hP hD hS => ?_)
  have hP : va_P D vwCl (WL cO hl0 e0 q0 (md + 1) e0 (nI n) cap el vs ++ pl) H := hP
  have hD : va_D A (WL cO hl0 e0 q0 (md + 1) e0 (nI n) cap el vs ++ pl) := hD
  refine lv_aload_n hx hb dJx4a65c_add_9ea2d_10 rfl (lv_at hl 0 rfl) ?_
  refine lv_aload_n hx hb dJx4a65c_add_9ea2d_11 rfl (lv_at hl 1 rfl) ?_
  refine lv_aload_n hx hb dJx4a65c_add_9ea2d_12 rfl (lv_at hl 0 rfl) ?_
  refine va_get (D := D) (ci := 0) (v := .ref e0) (C := RJx4a65c) (T := TJx4a65c) (N := 3) hx hb hts iL hown hK hP 0 rfl rfl 1 (by decide) (hts (.fieldLink RJx4a65c 9 "java/util/ArrayList" "elementData" "[Ljava/lang/Object;") (List.mem_of_getElem? (i := 3) rfl)) (fun _ h9 => h9) rfl dJx4a65c_add_9ea2d_13 ?_
  refine lv_aload_n hx hb dJx4a65c_add_9ea2d_16 rfl (lv_at hl 0 rfl) ?_
  refine va_get (D := D) (ci := 0) (v := .int (nI n)) (C := RJx4a65c) (T := TJx4a65c) (N := 3) hx hb hts iL hown hK hP 0 rfl rfl 2 (by decide) (hts (.fieldLink RJx4a65c 48 "java/util/ArrayList" "size" "I") (List.mem_of_getElem? (i := 4) rfl)) (fun _ h9 => h9) rfl dJx4a65c_add_9ea2d_17 ?_
  have hCut := cut_all (w1 := fun (u : Nat × Nat × (Nat → Option Nat)) => (WL cO hl0 u.1 q0 (md + 1) u.1 (nI (n + 1)) u.2.1 u.2.2 vs ++ pl)) hP hD hS hA
  refine ca_v hCut hS (va_runV (As := [.ref q0, .ref e0, .int (nI n)]) (rest := []) ⟨hx, hb, hml, hown, hts⟩ (c_Jx4a65c_add_72be8_A l D cI cJ cZ cO tD mi hl0 e0 q0 (md + 1) n cap el vs h2 h60 hnc h90 pl _ hel) (cwV 3 hts gJx4a65c_add_9ea2d_Jx4a65c_add_72be8 rfl rfl rfl (by decide +kernel) ⟨Nat.le_of_ble_eq_true rfl, Nat.le_of_ble_eq_true rfl⟩) (hCut.preVL (qb := 0) (ci := 0) hK hE hL hS rfl rfl) rfl rfl hl.1 rfl (lv_room (Nat.le_of_ble_eq_true rfl)) dJx4a65c_add_9ea2d_20 ⟨Nat.le_of_ble_eq_true rfl, Nat.le_of_ble_eq_true rfl⟩) (fun u H locs hw hP hD hS => ?_)
  refine lv_iconst (v := 1) hx hb dJx4a65c_add_9ea2d_23 (by decide) ?_
  refine W.widen (k := 1) (n := 90) (Nat.le_of_ble_eq_true rfl) (Nat.le_of_ble_eq_true rfl) ?_
  exact rt_z (S := Nat × Nat × (Nat → Option Nat)) (post := fun v u => v = 1 ∧ (ADDP q0 n cap el u)) (Wf := fun u => (WL cO hl0 u.1 q0 (md + 1) u.1 (nI (n + 1)) u.2.1 u.2.2 vs ++ pl)) u hx hb hr hlocks (Or.inr rfl) ⟨rfl, hw⟩ hP hD hS dJx4a65c_add_9ea2d_24
abbrev rm_Jx4a65c_add_9ea2d_F : Room := { frames := 4, cells := 1, slots := 10, locals := 140 }
set_option maxHeartbeats 4000000 in
set_option maxRecDepth 100000 in
theorem c_Jx4a65c_add_9ea2d_F (l : Launch) (D : va_G) (cI cJ cZ cO : ClassId) (tD mi : Nat) (hl0 q0 : Nat) (md : Int32) (vs : List Value) (pl : va_W) (sz : Nat) : Met l yJx4a65c_add_9ea2d wsJx4a65c_add_9ea2d rm_Jx4a65c_add_9ea2d_F (va_Pc [.ref hl0, .ref q0] (PREL tD mi D cI cJ cZ cO (WF hl0 q0 (md) tD 0 vs ++ pl) sz)) (va_Qi (fun v (u : Nat) => v = 1 ∧ (True)) (fun u t => POST D (va_A (WF hl0 q0 (md) tD 0 vs ++ pl) sz) (WL cO hl0 u q0 (md + 1) u 1 10 (va_up (fun _ => none) 0 (some q0)) vs ++ pl) t) (va_A (WF hl0 q0 (md) tD 0 vs ++ pl) sz)) 1 10 (va_A (WF hl0 q0 (md) tD 0 vs ++ pl) sz) := by
  refine met_goL (cc := cJx4a65c_add_9ea2d) (maxL := 2) (ret := some .boolean) RJx4a65c rfl (by decide) rfl (Nat.le_of_ble_eq_true rfl) ?_
  intro p e s m args below meth c ls hx hb hr hts hown hlocks hin hml hsz hP hK hE hL hD hA hS hl
  have iL : ∀ w ∈ u_ws RJx4a65c TJx4a65c 3, w ∈ wsJx4a65c_add_9ea2d := mem_seg 53 3 rfl
  generalize va_A (WF hl0 q0 (md) tD 0 vs ++ pl) sz = A at hD hA hS hL ⊢
  have hl : lv_has ls 2 [(0, .ref hl0), (1, .ref q0)] := hl
  refine lv_aload_n hx hb dJx4a65c_add_9ea2d_0 rfl (lv_at hl 0 rfl) ?_
  refine lv_dup hx hb dJx4a65c_add_9ea2d_1 rfl ?_
  refine va_get (D := D) (ci := 0) (v := .int md) (C := RJx4a65c) (T := TJx4a65c) (N := 3) hx hb hts iL hown hK hP 0 rfl rfl 0 (by decide) (hts (.fieldLink RJx4a65c 63 "java/util/ArrayList" "modCount" "I") (List.mem_of_getElem? (i := 1) rfl)) (fun x9 h9 => u_same (hts (.sameField "java/util/ArrayList" "java/util/AbstractList" "modCount" "I") (List.mem_of_getElem? (i := 2) rfl)) x9 h9) rfl dJx4a65c_add_9ea2d_2 ?_
  refine lv_iconst (v := 1) hx hb dJx4a65c_add_9ea2d_5 (by decide) ?_
  refine lv_iadd hx hb dJx4a65c_add_9ea2d_6 ?_
  refine va_put (D := D) (ci := 0) (v := .int (md + 1)) (ty := .int) (C := RJx4a65c) (T := TJx4a65c) (N := 3) hx hb hts iL tyJx4a65c tyJx4a65c_ok nmJx4a65c hown hK hP hD hS 0 rfl rfl 0 (by decide) (hts (.fieldLink RJx4a65c 63 "java/util/ArrayList" "modCount" "I") (List.mem_of_getElem? (i := 1) rfl)) (fun x9 h9 => u_same (hts (.sameField "java/util/ArrayList" "java/util/AbstractList" "modCount" "I") (List.mem_of_getElem? (i := 2) rfl)) x9 h9) rfl (by decide +kernel) rfl rfl (Nat.le_of_ble_eq_true rfl) dJx4a65c_add_9ea2d_7 (fun H locs hP hD hS => ?_)
  have hP : va_P D vwCl (WF hl0 q0 (md + 1) tD 0 vs ++ pl) H := hP
  have hD : va_D A (WF hl0 q0 (md + 1) tD 0 vs ++ pl) := hD
  refine lv_aload_n hx hb dJx4a65c_add_9ea2d_10 rfl (lv_at hl 0 rfl) ?_
  refine lv_aload_n hx hb dJx4a65c_add_9ea2d_11 rfl (lv_at hl 1 rfl) ?_
  refine lv_aload_n hx hb dJx4a65c_add_9ea2d_12 rfl (lv_at hl 0 rfl) ?_
  refine va_get (D := D) (ci := 0) (v := .ref tD) (C := RJx4a65c) (T := TJx4a65c) (N := 3) hx hb hts iL hown hK hP 0 rfl rfl 1 (by decide) (hts (.fieldLink RJx4a65c 9 "java/util/ArrayList" "elementData" "[Ljava/lang/Object;") (List.mem_of_getElem? (i := 3) rfl)) (fun _ h9 => h9) rfl dJx4a65c_add_9ea2d_13 ?_
  refine lv_aload_n hx hb dJx4a65c_add_9ea2d_16 rfl (lv_at hl 0 rfl) ?_
  refine va_get (D := D) (ci := 0) (v := .int (0)) (C := RJx4a65c) (T := TJx4a65c) (N := 3) hx hb hts iL hown hK hP 0 rfl rfl 2 (by decide) (hts (.fieldLink RJx4a65c 48 "java/util/ArrayList" "size" "I") (List.mem_of_getElem? (i := 4) rfl)) (fun _ h9 => h9) rfl dJx4a65c_add_9ea2d_17 ?_
  have hCut := cut_all (w1 := fun (u : Nat) => (WL cO hl0 u q0 (md + 1) u 1 10 (va_up (fun _ => none) 0 (some q0)) vs ++ pl)) hP hD hS hA
  refine ca_v hCut hS (va_runV (As := [.ref q0, .ref tD, .int (0)]) (rest := []) ⟨hx, hb, hml, hown, hts⟩ (c_Jx4a65c_add_72be8_F l D cI cJ cZ cO tD mi hl0 q0 (md + 1) vs pl _) (cwV 3 hts gJx4a65c_add_9ea2d_Jx4a65c_add_72be8 rfl rfl rfl (by decide +kernel) ⟨Nat.le_of_ble_eq_true rfl, Nat.le_of_ble_eq_true rfl⟩) (hCut.preVL (qb := 0) (ci := 0) hK hE hL hS rfl rfl) rfl rfl hl.1 rfl (lv_room (Nat.le_of_ble_eq_true rfl)) dJx4a65c_add_9ea2d_20 ⟨Nat.le_of_ble_eq_true rfl, Nat.le_of_ble_eq_true rfl⟩) (fun u H locs hw hP hD hS => ?_)
  refine lv_iconst (v := 1) hx hb dJx4a65c_add_9ea2d_23 (by decide) ?_
  refine W.widen (k := 1) (n := 10) (Nat.le_of_ble_eq_true rfl) (Nat.le_of_ble_eq_true rfl) ?_
  exact rt_z (S := Nat) (post := fun v u => v = 1 ∧ (True)) (Wf := fun u => (WL cO hl0 u q0 (md + 1) u 1 10 (va_up (fun _ => none) 0 (some q0)) vs ++ pl)) u hx hb hr hlocks (Or.inr rfl) ⟨rfl, trivial⟩ hP hD hS dJx4a65c_add_9ea2d_24
abbrev rm_Jxa1e45_init_da8c8 : Room := { frames := 1, cells := 0, slots := 0, locals := 40 }
set_option maxHeartbeats 4000000 in
set_option maxRecDepth 100000 in
theorem c_Jxa1e45_init_da8c8 (l : Launch) (D : va_G) (cI cJ cZ cO : ClassId) (tD mi : Nat) (hl0 : Nat) (md : Int32) (sz : Nat) : Met l yJxa1e45_init_da8c8 wsJxa1e45_init_da8c8 rm_Jxa1e45_init_da8c8 (va_Pc [.ref hl0] (PREL tD mi D cI cJ cZ cO [(hl0, .inr (0, [.int md, .null, .int 0]))] sz)) (va_Qv (fun (_ : Unit) => True) (fun _ t => POST D (va_A [(hl0, .inr (0, [.int md, .null, .int 0]))] sz) [(hl0, .inr (0, [.int md, .null, .int 0]))] t) (va_A [(hl0, .inr (0, [.int md, .null, .int 0]))] sz)) 0 0 (va_A [(hl0, .inr (0, [.int md, .null, .int 0]))] sz) := by
  refine met_goL (cc := cJxa1e45_init_da8c8) (maxL := 1) (ret := none) RJxa1e45 rfl (by decide) rfl (Nat.le_of_ble_eq_true rfl) ?_
  intro p e s m args below meth c ls hx hb hr hts hown hlocks hin hml hsz hP hK hE hL hD hA hS hl
  generalize va_A [(hl0, .inr (0, [.int md, .null, .int 0]))] sz = A at hD hA hS hL ⊢
  have hl : lv_has ls 1 [(0, .ref hl0)] := hl
  refine lv_aload_n hx hb dJxa1e45_init_da8c8_0 rfl (lv_at hl 0 rfl) ?_
  refine W.objInit hx hb hown (hts (.methodLink RJxa1e45 1 objectInit) (List.mem_of_getElem? (i := 1) rfl)) (hts (.instanceMethod objectInit) (List.mem_of_getElem? (i := 2) rfl)) (hts (.code objectInit ⟨#[0xb1]⟩ 1 none) (List.mem_of_getElem? (i := 3) rfl)) rfl (by rw [hml]; exact hl.1) rfl dJxa1e45_init_da8c8_1 (Nat.le_of_ble_eq_true rfl) (Nat.le_of_ble_eq_true rfl) ?_
  refine W.eq (g2 := F0 m 4 ls []) rfl ?_
  exact rt_v (S := Unit) (post := fun _ => True) (Wf := fun _ => [(hl0, .inr (0, [.int md, .null, .int 0]))]) () hx hb hr hlocks trivial hP hD hS dJxa1e45_init_da8c8_4
abbrev rm_Jxc12de_init_da8c8 : Room := { frames := 2, cells := 0, slots := 0, locals := 70 }
set_option maxHeartbeats 4000000 in
set_option maxRecDepth 100000 in
theorem c_Jxc12de_init_da8c8 (l : Launch) (D : va_G) (cI cJ cZ cO : ClassId) (tD mi : Nat) (hl0 : Nat) (md : Int32) (sz : Nat) : Met l yJxc12de_init_da8c8 wsJxc12de_init_da8c8 rm_Jxc12de_init_da8c8 (va_Pc [.ref hl0] (PREL tD mi D cI cJ cZ cO [(hl0, .inr (0, [.int md, .null, .int 0]))] sz)) (va_Qv (fun (_ : Unit) => True) (fun _ t => POST D (va_A [(hl0, .inr (0, [.int md, .null, .int 0]))] sz) [(hl0, .inr (0, [.int 0, .null, .int 0]))] t) (va_A [(hl0, .inr (0, [.int md, .null, .int 0]))] sz)) 0 0 (va_A [(hl0, .inr (0, [.int md, .null, .int 0]))] sz) := by
  refine met_goL (cc := cJxc12de_init_da8c8) (maxL := 1) (ret := none) RJxc12de rfl (by decide) rfl (Nat.le_of_ble_eq_true rfl) ?_
  intro p e s m args below meth c ls hx hb hr hts hown hlocks hin hml hsz hP hK hE hL hD hA hS hl
  generalize va_A [(hl0, .inr (0, [.int md, .null, .int 0]))] sz = A at hD hA hS hL ⊢
  have iL : ∀ w ∈ u_ws RJx4a65c TJx4a65c 3, w ∈ wsJxc12de_init_da8c8 := mem_seg 9 3 rfl
  have hl : lv_has ls 1 [(0, .ref hl0)] := hl
  refine lv_aload_n hx hb dJxc12de_init_da8c8_0 rfl (lv_at hl 0 rfl) ?_
  have hCut := cut_all (w1 := fun (_ : Unit) => [(hl0, .inr (0, [.int md, .null, .int 0]))]) hP hD hS hA
  refine ca_v hCut hS (va_runI (As := []) (rest := []) ⟨hx, hb, hml, hown, hts⟩ (c_Jxa1e45_init_da8c8 l D cI cJ cZ cO tD mi hl0 md _) (cwI 0 hts gJxc12de_init_da8c8_Jxa1e45_init_da8c8 rfl rfl rfl (hts (.initialized RJxa1e45) (List.mem_of_getElem? (i := 4) rfl)) (hts (.methodLink RJxc12de 1 yJxa1e45_init_da8c8) (List.mem_of_getElem? (i := 2) rfl)) (hts (.instanceMethod yJxa1e45_init_da8c8) (List.mem_of_getElem? (i := 3) rfl)) rfl (by decide +kernel) ⟨Nat.le_of_ble_eq_true rfl, Nat.le_of_ble_eq_true rfl⟩) (hCut.preSL hK hE hL hS) rfl rfl hl.1 rfl (lv_room (Nat.le_of_ble_eq_true rfl)) dJxc12de_init_da8c8_1 ⟨Nat.le_of_ble_eq_true rfl, Nat.le_of_ble_eq_true rfl⟩) (fun _ H locs hw hP hD hS => ?_)
  have hP : va_P D vwCl [(hl0, .inr (0, [.int md, .null, .int 0]))] H := hP
  have hD : va_D A [(hl0, .inr (0, [.int md, .null, .int 0]))] := hD
  refine lv_aload_n hx hb dJxc12de_init_da8c8_4 rfl (lv_at hl 0 rfl) ?_
  refine lv_iconst (v := 0) hx hb dJxc12de_init_da8c8_5 (by decide) ?_
  refine va_put (D := D) (ci := 0) (v := .int 0) (ty := .int) (C := RJx4a65c) (T := TJx4a65c) (N := 3) hx hb hts iL tyJx4a65c tyJx4a65c_ok nmJx4a65c hown hK hP hD hS 0 rfl rfl 0 (by decide) (hts (.fieldLink RJxc12de 7 "java/util/AbstractList" "modCount" "I") (List.mem_of_getElem? (i := 1) rfl)) (fun _ h9 => h9) rfl (by decide +kernel) rfl rfl (Nat.le_of_ble_eq_true rfl) dJxc12de_init_da8c8_6 (fun H locs hP hD hS => ?_)
  have hP : va_P D vwCl [(hl0, .inr (0, [.int 0, .null, .int 0]))] H := hP
  have hD : va_D A [(hl0, .inr (0, [.int 0, .null, .int 0]))] := hD
  exact rt_v (S := Unit) (post := fun _ => True) (Wf := fun _ => [(hl0, .inr (0, [.int 0, .null, .int 0]))]) () hx hb hr hlocks trivial hP hD hS dJxc12de_init_da8c8_9
abbrev rm_Jx4a65c_init_da8c8 : Room := { frames := 3, cells := 0, slots := 0, locals := 100 }
set_option maxHeartbeats 4000000 in
set_option maxRecDepth 100000 in
theorem c_Jx4a65c_init_da8c8 (l : Launch) (D : va_G) (cI cJ cZ cO : ClassId) (tD mi : Nat) (hl0 : Nat) (md : Int32) (sz : Nat) : Met l yJx4a65c_init_da8c8 wsJx4a65c_init_da8c8 rm_Jx4a65c_init_da8c8 (va_Pc [.ref hl0] (PREL tD mi D cI cJ cZ cO [(hl0, .inr (0, [.int md, .null, .int 0]))] sz)) (va_Qv (fun (_ : Unit) => True) (fun _ t => POST D (va_A [(hl0, .inr (0, [.int md, .null, .int 0]))] sz) [(hl0, .inr (0, [.int 0, .ref tD, .int 0]))] t) (va_A [(hl0, .inr (0, [.int md, .null, .int 0]))] sz)) 0 0 (va_A [(hl0, .inr (0, [.int md, .null, .int 0]))] sz) := by
  refine met_goL (cc := cJx4a65c_init_da8c8) (maxL := 1) (ret := none) RJx4a65c rfl (by decide) rfl (Nat.le_of_ble_eq_true rfl) ?_
  intro p e s m args below meth c ls hx hb hr hts hown hlocks hin hml hsz hP hK hE hL hD hA hS hl
  generalize va_A [(hl0, .inr (0, [.int md, .null, .int 0]))] sz = A at hD hA hS hL ⊢
  have iL : ∀ w ∈ u_ws RJx4a65c TJx4a65c 3, w ∈ wsJx4a65c_init_da8c8 := mem_seg 15 3 rfl
  have hl : lv_has ls 1 [(0, .ref hl0)] := hl
  refine lv_aload_n hx hb dJx4a65c_init_da8c8_0 rfl (lv_at hl 0 rfl) ?_
  have hCut := cut_all (w1 := fun (_ : Unit) => [(hl0, .inr (0, [.int 0, .null, .int 0]))]) hP hD hS hA
  refine ca_v hCut hS (va_runI (As := []) (rest := []) ⟨hx, hb, hml, hown, hts⟩ (c_Jxc12de_init_da8c8 l D cI cJ cZ cO tD mi hl0 md _) (cwI 0 hts gJx4a65c_init_da8c8_Jxc12de_init_da8c8 rfl rfl rfl (hts (.initialized RJxc12de) (List.mem_of_getElem? (i := 5) rfl)) (hts (.methodLink RJx4a65c 1 yJxc12de_init_da8c8) (List.mem_of_getElem? (i := 3) rfl)) (hts (.instanceMethod yJxc12de_init_da8c8) (List.mem_of_getElem? (i := 4) rfl)) rfl (by decide +kernel) ⟨Nat.le_of_ble_eq_true rfl, Nat.le_of_ble_eq_true rfl⟩) (hCut.preSL hK hE hL hS) rfl rfl hl.1 rfl (lv_room (Nat.le_of_ble_eq_true rfl)) dJx4a65c_init_da8c8_1 ⟨Nat.le_of_ble_eq_true rfl, Nat.le_of_ble_eq_true rfl⟩) (fun _ H locs hw hP hD hS => ?_)
  have hP : va_P D vwCl [(hl0, .inr (0, [.int 0, .null, .int 0]))] H := hP
  have hD : va_D A [(hl0, .inr (0, [.int 0, .null, .int 0]))] := hD
  refine lv_aload_n hx hb dJx4a65c_init_da8c8_4 rfl (lv_at hl 0 rfl) ?_
  refine va_gets hx hb hL.1 hS hown (hts (.fieldLink RJx4a65c 39 "java/util/ArrayList" "DEFAULTCAPACITY_EMPTY_ELEMENTDATA" "[Ljava/lang/Object;") (List.mem_of_getElem? (i := 1) rfl)) (fun _ h9 => h9) dJx4a65c_init_da8c8_5 ?_
  refine va_put (D := D) (ci := 0) (v := .ref tD) (ty := .array (.object "java/lang/Object")) (C := RJx4a65c) (T := TJx4a65c) (N := 3) hx hb hts iL tyJx4a65c tyJx4a65c_ok nmJx4a65c hown hK hP hD hS 0 rfl rfl 1 (by decide) (hts (.fieldLink RJx4a65c 9 "java/util/ArrayList" "elementData" "[Ljava/lang/Object;") (List.mem_of_getElem? (i := 2) rfl)) (fun _ h9 => h9) rfl (by decide +kernel) rfl rfl (Nat.le_of_ble_eq_true rfl) dJx4a65c_init_da8c8_8 (fun H locs hP hD hS => ?_)
  have hP : va_P D vwCl [(hl0, .inr (0, [.int 0, .ref tD, .int 0]))] H := hP
  have hD : va_D A [(hl0, .inr (0, [.int 0, .ref tD, .int 0]))] := hD
  exact rt_v (S := Unit) (post := fun _ => True) (Wf := fun _ => [(hl0, .inr (0, [.int 0, .ref tD, .int 0]))]) () hx hb hr hlocks trivial hP hD hS dJx4a65c_init_da8c8_11
