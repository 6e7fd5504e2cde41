/-! printed by wip/whole/gen: X3_reachFirst X3_runsWith X3_reachFarther X3_reachesAll X3_isOnePart X3_isGoodPart -/
abbrev rm_X3_reachFirst : Room := { frames := 1, cells := 0, slots := 0, locals := 23 }
abbrev W_X3_reachFirst (h : Nat) (a : Nat → Nat) (cI cJ cZ : ClassId) (v_rows : Nat → Int32) (v_reached : Nat → Int32) : va_W := [(h, .inr (4, [.ref (a 0), .ref (a 1)])), ((a 0), .inl (cI, 16, .inl v_rows)), ((a 1), .inl (cI, 16, .inl v_reached))]
def wp_X3_reachFirst_10 (v_rows : Nat → Int32) (v_reached : Nat → Int32) (post : Int32 → (Nat → Int32) → Prop) (K10 : Int32 → (Nat → Int32) → Prop) (x1_j10 : Int32) (v_reached_j10 : Nat → Int32) : Prop := (16 ≤ x1_j10 → post 0 v_reached_j10) ∧ (¬ 16 ≤ x1_j10 → vp_in x1_j10 16 ∧ (((v_rows x1_j10.toNatClampNeg) = 0 → K10 (x1_j10 + 1) v_reached_j10) ∧ (¬ (v_rows x1_j10.toNatClampNeg) = 0 → vp_in x1_j10 16 ∧ (vp_in x1_j10 16 ∧ (vp_in x1_j10 16 ∧ (∀ v_reached_t44 : Nat → Int32, v_reached_t44 = upd v_reached_j10 x1_j10.toNatClampNeg ((v_rows x1_j10.toNatClampNeg) &&& (-(v_rows x1_j10.toNatClampNeg))) → post 1 v_reached_t44))))))
def lF_X3_reachFirst_10 (v_rows : Nat → Int32) (v_reached : Nat → Int32) (post : Int32 → (Nat → Int32) → Prop) : ((Int32 × (Nat → Int32)) → Prop) → (Int32 × (Nat → Int32)) → Prop := fun K s => wp_X3_reachFirst_10 v_rows v_reached post (fun b0 b1 => K (b0, b1)) s.1 s.2
def wp_X3_reachFirst (v_rows : Nat → Int32) (v_reached : Nat → Int32) (post : Int32 → (Nat → Int32) → Prop) : Prop := wp_J7_fill_53178 16 v_reached 0 (fun v_reached_c5 => lp (lF_X3_reachFirst_10 v_rows v_reached post) (0, v_reached_c5))
set_option maxHeartbeats 4000000 in
set_option maxRecDepth 100000 in
theorem c_X3_reachFirst (l : Launch) (D : va_G) (cI cJ cZ cO : ClassId) (h : Nat) (a : Nat → Nat) (sz : Nat) (v_rows : Nat → Int32) (v_reached : Nat → Int32) (post : Int32 → (Nat → Int32) → Prop) (hw : wp_X3_reachFirst v_rows v_reached post) : Met l yX3_reachFirst wsX3_reachFirst rm_X3_reachFirst (va_Pc [.ref h] (PRE D cI cJ cZ cO (W_X3_reachFirst h a cI cJ cZ v_rows v_reached) sz)) (va_Qi (fun r (u : (Nat → Int32)) => post r u) (fun u t => POST D (va_A (W_X3_reachFirst h a cI cJ cZ v_rows v_reached) sz) (W_X3_reachFirst h a cI cJ cZ v_rows u) t) (va_A (W_X3_reachFirst h a cI cJ cZ v_rows v_reached) sz)) 0 0 (va_A (W_X3_reachFirst h a cI cJ cZ v_rows v_reached) sz) := by
  refine met_go (cc := cX3_reachFirst) (maxL := 2) (ret := some .boolean) RX3 rfl (by decide) rfl (Nat.le_of_ble_eq_true rfl) ?_
  intro p e s m args below meth c ls hx hb hr hts hown hlocks hin hml hsz hP hK hE hD hA hS hl
  have iRX3 : ∀ w ∈ u_ws RX3 TX3 2, w ∈ wsX3_reachFirst := mem_seg 7 2 rfl
  generalize va_A (W_X3_reachFirst h a cI cJ cZ v_rows v_reached) sz = A at hD hA hS ⊢
  have RT : ∀ (v : Int32) (u : (Nat → Int32)) (H : Heap) (locs : List Loc) (pc : Nat) (ls : Array Slot), decode cX3_reachFirst pc = .ok (.ireturn, 1) → (v = 0 ∨ v = 1) → post v u → va_P D vwCl (W_X3_reachFirst h a cI cJ cZ v_rows u) H → va_D A (W_X3_reachFirst h a cI cJ cZ v_rows u) → va_S A s.heap H locs → W p l e rm_X3_reachFirst s m args below meth c H locs 0 0 (MQ below (va_Qi (fun r (u : (Nat → Int32)) => post r u) (fun u t => POST D A (W_X3_reachFirst h a cI cJ cZ v_rows u) t) A) args s 0 0 A) (F0 m pc ls [.int v]) := fun v u H locs pc ls d g0 g1 g2 g3 g4 => rt_z (Wf := fun u => (W_X3_reachFirst h a cI cJ cZ v_rows u)) u hx hb hr hlocks g0 g1 g2 g3 g4 d
  generalize (MQ below (va_Qi (fun r (u : (Nat → Int32)) => post r u) (fun u t => POST D A (W_X3_reachFirst h a cI cJ cZ v_rows u) t) A) args s 0 0 A) = QQ at RT ⊢
  have hl : lv_has ls 2 [(0, .ref h)] := hl
  have hP : va_P D vwCl (W_X3_reachFirst h a cI cJ cZ v_rows v_reached) s.heap := hP
  unfold wp_X3_reachFirst at hw
  suffices GO : ∀ (H : Heap) (locs : List Loc), va_P D vwCl (W_X3_reachFirst h a cI cJ cZ v_rows v_reached) H → va_S A s.heap H locs → W p l e rm_X3_reachFirst s m args below meth c H locs 0 0 QQ (F0 m 0 ls []) from GO _ _ hP hS
  clear hsz hP hS
  intro H locs hP hS
  have L10 : ∀ s0 : (Int32 × (Nat → Int32)), lp (lF_X3_reachFirst_10 v_rows v_reached post) s0 → ∀ (H : Heap) (locs : List Loc) (ls : Array Slot), va_P D vwCl (W_X3_reachFirst h a cI cJ cZ v_rows s0.2) H → va_D A (W_X3_reachFirst h a cI cJ cZ v_rows s0.2) → va_S A s.heap H locs → lv_has ls 2 [(0, .ref h), (1, .int s0.1)] → W p l e rm_X3_reachFirst s m args below meth c H locs 0 0 QQ (F0 m 10 ls []) := by
    refine lp_elim (fun K10 ih10 s0 hw => ?_)
    obtain ⟨x1_j10, v_reached_j10⟩ := s0
    intro H locs ls hP hD hS hl
    have hw : wp_X3_reachFirst_10 v_rows v_reached post (fun b0 b1 => K10 (b0, b1)) x1_j10 v_reached_j10 := hw
    have hP : va_P D vwCl (W_X3_reachFirst h a cI cJ cZ v_rows v_reached_j10) H := hP
    have hD : va_D A (W_X3_reachFirst h a cI cJ cZ v_rows v_reached_j10) := hD
    have hl : lv_has ls 2 [(0, .ref h), (1, .int x1_j10)] := hl
    unfold wp_X3_reachFirst_10 at hw
    refine lv_iload_n hx hb dX3_reachFirst_10 rfl (lv_at hl 1 rfl) ?_
    refine lv_bipush (v := 16) hx hb dX3_reachFirst_11 (by decide) ?_
    refine lv_icmp_ge (tgt := 53) hx hb dX3_reachFirst_13 (by decide) (fun c13 => ?_) (fun c13 => ?_)
    · have hw := hw.1 c13
      refine lv_iconst (v := 0) hx hb dX3_reachFirst_53 (by decide) ?_
      exact RT 0 v_reached_j10 _ _ _ _ dX3_reachFirst_54 (Or.inl rfl) hw hP hD hS
    · have hw := hw.2 c13
      refine lv_aload_n hx hb dX3_reachFirst_16 rfl (lv_at hl 0 rfl) ?_
      refine va_get (D := D) (ci := 4) (v := .ref (a 0)) (C := RX3) (T := TX3) (N := 2) hx hb hts iRX3 hown hK hP 0 rfl rfl 0 (by decide) (hts (.fieldLink RX3 9 "Leadlight$Shape" "rows" "[I") (List.mem_of_getElem? (i := 2) rfl)) (fun _ h9 => h9) rfl dX3_reachFirst_17 ?_
      refine lv_iload_n hx hb dX3_reachFirst_20 rfl (lv_at hl 1 rfl) ?_
      obtain ⟨hi_21, hw⟩ := hw
      refine va_iald hx hb hK hP 1 0 rfl rfl hi_21 dX3_reachFirst_21 ?_
      refine lv_if_eq (tgt := 47) hx hb dX3_reachFirst_22 (by decide) (fun c22 => ?_) (fun c22 => ?_)
      · have hw := hw.1 c22
        refine lv_iinc (v := (x1_j10 + 1)) (lv' := [(1, .int (x1_j10 + 1)), (0, .ref h)]) hx hb dX3_reachFirst_47 hl (k := 1) rfl rfl (by decide) rfl (fun ls hl => ?_)
        refine lv_goto (tgt := 10) hx hb dX3_reachFirst_50 (by decide) ?_
        exact ih10 ((x1_j10 + 1), v_reached_j10) hw _ _ ls hP hD hS (lv_sub hl [1, 0] rfl)
      · have hw := hw.2 c22
        refine lv_aload_n hx hb dX3_reachFirst_25 rfl (lv_at hl 0 rfl) ?_
        refine va_get (D := D) (ci := 4) (v := .ref (a 1)) (C := RX3) (T := TX3) (N := 2) hx hb hts iRX3 hown hK hP 0 rfl rfl 1 (by decide) (hts (.fieldLink RX3 15 "Leadlight$Shape" "reached" "[I") (List.mem_of_getElem? (i := 1) rfl)) (fun _ h9 => h9) rfl dX3_reachFirst_26 ?_
        refine lv_iload_n hx hb dX3_reachFirst_29 rfl (lv_at hl 1 rfl) ?_
        refine lv_aload_n hx hb dX3_reachFirst_30 rfl (lv_at hl 0 rfl) ?_
        refine va_get (D := D) (ci := 4) (v := .ref (a 0)) (C := RX3) (T := TX3) (N := 2) hx hb hts iRX3 hown hK hP 0 rfl rfl 0 (by decide) (hts (.fieldLink RX3 9 "Leadlight$Shape" "rows" "[I") (List.mem_of_getElem? (i := 2) rfl)) (fun _ h9 => h9) rfl dX3_reachFirst_31 ?_
        refine lv_iload_n hx hb dX3_reachFirst_34 rfl (lv_at hl 1 rfl) ?_
        obtain ⟨hi_35, hw⟩ := hw
        refine va_iald hx hb hK hP 1 0 rfl rfl hi_35 dX3_reachFirst_35 ?_
        refine lv_aload_n hx hb dX3_reachFirst_36 rfl (lv_at hl 0 rfl) ?_
        refine va_get (D := D) (ci := 4) (v := .ref (a 0)) (C := RX3) (T := TX3) (N := 2) hx hb hts iRX3 hown hK hP 0 rfl rfl 0 (by decide) (hts (.fieldLink RX3 9 "Leadlight$Shape" "rows" "[I") (List.mem_of_getElem? (i := 2) rfl)) (fun _ h9 => h9) rfl dX3_reachFirst_37 ?_
        refine lv_iload_n hx hb dX3_reachFirst_40 rfl (lv_at hl 1 rfl) ?_
        obtain ⟨hi_41, hw⟩ := hw
        refine va_iald hx hb hK hP 1 0 rfl rfl hi_41 dX3_reachFirst_41 ?_
        refine lv_ineg hx hb dX3_reachFirst_42 ?_
        refine lv_iand hx hb dX3_reachFirst_43 ?_
        obtain ⟨hi_44, hw⟩ := hw
        refine st_i hx hb hK hP hD hS 2 0 rfl rfl hi_44 dX3_reachFirst_44 (fun v_reached_t44 ev_reached_t44 H locs hP hD hS => ?_)
        have hw := hw v_reached_t44 ev_reached_t44
        have hP : va_P D vwCl (W_X3_reachFirst h a cI cJ cZ v_rows v_reached_t44) H := hP
        have hD : va_D A (W_X3_reachFirst h a cI cJ cZ v_rows v_reached_t44) := hD
        refine lv_iconst (v := 1) hx hb dX3_reachFirst_45 (by decide) ?_
        exact RT 1 v_reached_t44 _ _ _ _ dX3_reachFirst_46 (Or.inr rfl) hw hP hD hS
  refine lv_aload_n hx hb dX3_reachFirst_0 rfl (lv_at hl 0 rfl) ?_
  refine va_get (D := D) (ci := 4) (v := .ref (a 1)) (C := RX3) (T := TX3) (N := 2) hx hb hts iRX3 hown hK hP 0 rfl rfl 1 (by decide) (hts (.fieldLink RX3 15 "Leadlight$Shape" "reached" "[I") (List.mem_of_getElem? (i := 1) rfl)) (fun _ h9 => h9) rfl dX3_reachFirst_1 ?_
  refine lv_iconst (v := 0) hx hb dX3_reachFirst_4 (by decide) ?_
  refine af_v (X := (W_X3_reachFirst h a cI cJ cZ v_rows v_reached)) (pl := []) (cx := (W_J7_fill_53178 (a 1) 16 cI cJ cZ v_reached)) (w1 := fun (u : (Nat → Int32)) => (W_J7_fill_53178 (a 1) 16 cI cJ cZ u)) (X' := fun (u : (Nat → Int32)) => (W_X3_reachFirst h a cI cJ cZ v_rows u)) hP hD hS hA [2] [0, 1] [0, 1, 2] rfl rfl (by decide) (by decide) (fun u => rfl) (by decide) (va_runS (As := [.ref (a 1), .int 0]) (rest := []) ⟨hx, hb, hml, hown, hts⟩ (c_J7_fill_53178 l D cI cJ cZ cO (a 1) 16 H.size v_reached 0 _ hw) (va_cwS 2 hts gX3_reachFirst_J7_fill_53178 rfl rfl rfl (by decide +kernel) ⟨Nat.le_of_ble_eq_true rfl, Nat.le_of_ble_eq_true rfl⟩) (preS (X := (W_X3_reachFirst h a cI cJ cZ v_rows v_reached)) (pl := []) (cx := (W_J7_fill_53178 (a 1) 16 cI cJ cZ v_reached)) hK hE hP hD [2] (by decide) rfl) rfl rfl hl.1 rfl (lv_room (Nat.le_of_ble_eq_true rfl)) dX3_reachFirst_5 ⟨Nat.zero_le _, Nat.zero_le _⟩) (fun v_reached_c5 H locs hw hP hD hS => ?_)
  try dsimp only at hw
  have hP : va_P D vwCl (W_X3_reachFirst h a cI cJ cZ v_rows v_reached_c5) H := hP
  have hD : va_D A (W_X3_reachFirst h a cI cJ cZ v_rows v_reached_c5) := hD
  refine lv_iconst (v := 0) hx hb dX3_reachFirst_8 (by decide) ?_
  refine lv_istore_n (lv' := [(1, .int 0), (0, .ref h)]) hx hb dX3_reachFirst_9 rfl hl (by decide) rfl (fun ls hl => ?_)
  exact L10 (0, v_reached_c5) hw _ _ ls hP hD hS (lv_sub hl [1, 0] rfl)
abbrev rm_X3_runsWith : Room := { frames := 0, cells := 0, slots := 0, locals := 0 }
def wp_X3_runsWith_6 (p1 : Int32) (p2 : Int32) (post : Int32 → Prop) (K6 : Int32 → Int32 → Prop) (x2_j6 : Int32) (x3_j6 : Int32) : Prop := (16 ≤ x3_j6 → post x2_j6) ∧ (¬ 16 ≤ x3_j6 → ∀ y4_23 : Int32, y4_23 = (((x2_j6 ||| (x2_j6 <<< (1 &&& 31))) ||| ((x2_j6).toUInt32 >>> ((1 : Int32).toUInt32 &&& Int32.toUInt32 31)).toInt32) &&& p2) → (y4_23 = x2_j6 → post x2_j6) ∧ (¬ y4_23 = x2_j6 → K6 y4_23 (x3_j6 + 1)))
def lF_X3_runsWith_6 (p1 : Int32) (p2 : Int32) (post : Int32 → Prop) : ((Int32 × Int32) → Prop) → (Int32 × Int32) → Prop := fun K s => wp_X3_runsWith_6 p1 p2 post (fun b0 b1 => K (b0, b1)) s.1 s.2
def wp_X3_runsWith (p1 : Int32) (p2 : Int32) (post : Int32 → Prop) : Prop := lp (lF_X3_runsWith_6 p1 p2 post) ((p1 &&& p2), 0)
set_option maxHeartbeats 4000000 in
set_option maxRecDepth 100000 in
theorem c_X3_runsWith (l : Launch) (D : va_G) (cI cJ cZ cO : ClassId) (sz : Nat) (p1 : Int32) (p2 : Int32) (post : Int32 → Prop) (hw : wp_X3_runsWith p1 p2 post) : Met l yX3_runsWith wsX3_runsWith rm_X3_runsWith (va_Pc [.int p1, .int p2] (PRE D cI cJ cZ cO ([] : va_W) sz)) (va_Qi (fun r (_ : Unit) => post r) (fun u t => POST D (va_A ([] : va_W) sz) ([] : va_W) t) (va_A ([] : va_W) sz)) 0 0 (va_A ([] : va_W) sz) := by
  refine met_go (cc := cX3_runsWith) (maxL := 5) (ret := some .int) RX3 rfl (by decide) rfl (Nat.le_of_ble_eq_true rfl) ?_
  intro p e s m args below meth c ls hx hb hr hts hown hlocks hin hml hsz hP hK hE hD hA hS hl
  generalize va_A ([] : va_W) sz = A at hD hA hS ⊢
  have RT : ∀ (v : Int32) (u : Unit) (H : Heap) (locs : List Loc) (pc : Nat) (ls : Array Slot), decode cX3_runsWith pc = .ok (.ireturn, 1) → post v → va_P D vwCl ([] : va_W) H → va_D A ([] : va_W) → va_S A s.heap H locs → W p l e rm_X3_runsWith s m args below meth c H locs 0 0 (MQ below (va_Qi (fun r (_ : Unit) => post r) (fun u t => POST D A ([] : va_W) t) A) args s 0 0 A) (F0 m pc ls [.int v]) := fun v u H locs pc ls d g1 g2 g3 g4 => rt_i (Wf := fun u => ([] : va_W)) u hx hb hr hlocks g1 g2 g3 g4 d
  generalize (MQ below (va_Qi (fun r (_ : Unit) => post r) (fun u t => POST D A ([] : va_W) t) A) args s 0 0 A) = QQ at RT ⊢
  have hl : lv_has ls 5 [(0, .int p1), (1, .int p2)] := hl
  have hP : va_P D vwCl ([] : va_W) s.heap := hP
  unfold wp_X3_runsWith at hw
  suffices GO : ∀ (H : Heap) (locs : List Loc), va_P D vwCl ([] : va_W) H → va_S A s.heap H locs → W p l e rm_X3_runsWith s m args below meth c H locs 0 0 QQ (F0 m 0 ls []) from GO _ _ hP hS
  clear hsz hP hS
  intro H locs hP hS
  have L6 : ∀ s0 : (Int32 × Int32), lp (lF_X3_runsWith_6 p1 p2 post) s0 → ∀ (H : Heap) (locs : List Loc) (ls : Array Slot), va_P D vwCl ([] : va_W) H → va_D A ([] : va_W) → va_S A s.heap H locs → lv_has ls 5 [(1, .int p2), (2, .int s0.1), (3, .int s0.2)] → W p l e rm_X3_runsWith s m args below meth c H locs 0 0 QQ (F0 m 6 ls []) := by
    refine lp_elim (fun K6 ih6 s0 hw => ?_)
    obtain ⟨x2_j6, x3_j6⟩ := s0
    intro H locs ls hP hD hS hl
    have hw : wp_X3_runsWith_6 p1 p2 post (fun b0 b1 => K6 (b0, b1)) x2_j6 x3_j6 := hw
    have hP : va_P D vwCl ([] : va_W) H := hP
    have hD : va_D A ([] : va_W) := hD
    have hl : lv_has ls 5 [(1, .int p2), (2, .int x2_j6), (3, .int x3_j6)] := hl
    unfold wp_X3_runsWith_6 at hw
    refine lv_iload_n hx hb dX3_runsWith_6 rfl (lv_at hl 2 rfl) ?_
    refine lv_bipush (v := 16) hx hb dX3_runsWith_7 (by decide) ?_
    refine lv_icmp_ge (tgt := 42) hx hb dX3_runsWith_9 (by decide) (fun c9 => ?_) (fun c9 => ?_)
    · have hw := hw.1 c9
      refine lv_iload_n hx hb dX3_runsWith_42 rfl (lv_at hl 1 rfl) ?_
      exact RT x2_j6 () _ _ _ _ dX3_runsWith_43 hw hP hD hS
    · have hw := hw.2 c9
      refine lv_iload_n hx hb dX3_runsWith_12 rfl (lv_at hl 1 rfl) ?_
      refine lv_iload_n hx hb dX3_runsWith_13 rfl (lv_at hl 1 rfl) ?_
      refine lv_iconst (v := 1) hx hb dX3_runsWith_14 (by decide) ?_
      refine lv_ishl hx hb dX3_runsWith_15 ?_
      refine lv_ior hx hb dX3_runsWith_16 ?_
      refine lv_iload_n hx hb dX3_runsWith_17 rfl (lv_at hl 1 rfl) ?_
      refine lv_iconst (v := 1) hx hb dX3_runsWith_18 (by decide) ?_
      refine lv_iushr (v := ((x2_j6).toUInt32 >>> ((1 : Int32).toUInt32 &&& Int32.toUInt32 31)).toInt32) hx hb dX3_runsWith_19 rfl ?_
      refine lv_ior hx hb dX3_runsWith_20 ?_
      refine lv_iload_n hx hb dX3_runsWith_21 rfl (lv_at hl 0 rfl) ?_
      refine lv_iand hx hb dX3_runsWith_22 ?_
      refine lv_topi (fun y4_23 ey4_23 => ?_)
      have hw := hw y4_23 ey4_23
      refine lv_istore (lv' := [(4, .int y4_23), (1, .int p2), (2, .int x2_j6), (3, .int x3_j6)]) hx hb dX3_runsWith_23 hl (by decide) rfl (fun ls hl => ?_)
      refine lv_iload hx hb dX3_runsWith_25 (lv_at hl 0 rfl) ?_
      refine lv_iload_n hx hb dX3_runsWith_27 rfl (lv_at hl 2 rfl) ?_
      refine lv_icmp_ne (tgt := 33) hx hb dX3_runsWith_28 (by decide) (fun c28 => ?_) (fun c28 => ?_)
      · have hw := hw.2 c28
        refine lv_iload hx hb dX3_runsWith_33 (lv_at hl 0 rfl) ?_
        refine lv_istore_n (lv' := [(2, .int y4_23), (4, .int y4_23), (1, .int p2), (3, .int x3_j6)]) hx hb dX3_runsWith_35 rfl hl (by decide) rfl (fun ls hl => ?_)
        refine lv_iinc (v := (x3_j6 + 1)) (lv' := [(3, .int (x3_j6 + 1)), (2, .int y4_23), (4, .int y4_23), (1, .int p2)]) hx hb dX3_runsWith_36 hl (k := 3) rfl rfl (by decide) rfl (fun ls hl => ?_)
        refine lv_goto (tgt := 6) hx hb dX3_runsWith_39 (by decide) ?_
        exact ih6 (y4_23, (x3_j6 + 1)) hw _ _ ls hP hD hS (lv_sub hl [3, 1, 0] rfl)
      · have hw := hw.1 c28
        refine lv_iload_n hx hb dX3_runsWith_31 rfl (lv_at hl 2 rfl) ?_
        exact RT x2_j6 () _ _ _ _ dX3_runsWith_32 hw hP hD hS
  refine lv_iload_n hx hb dX3_runsWith_0 rfl (lv_at hl 0 rfl) ?_
  refine lv_iload_n hx hb dX3_runsWith_1 rfl (lv_at hl 1 rfl) ?_
  refine lv_iand hx hb dX3_runsWith_2 ?_
  refine lv_istore_n (lv' := [(2, .int (p1 &&& p2)), (0, .int p1), (1, .int p2)]) hx hb dX3_runsWith_3 rfl hl (by decide) rfl (fun ls hl => ?_)
  refine lv_iconst (v := 0) hx hb dX3_runsWith_4 (by decide) ?_
  refine lv_istore_n (lv' := [(3, .int 0), (2, .int (p1 &&& p2)), (0, .int p1), (1, .int p2)]) hx hb dX3_runsWith_5 rfl hl (by decide) rfl (fun ls hl => ?_)
  exact L6 ((p1 &&& p2), 0) hw _ _ ls hP hD hS (lv_sub hl [3, 1, 0] rfl)
abbrev rm_X3_reachFarther : Room := { frames := 1, cells := 0, slots := 0, locals := 24 }
abbrev W_X3_reachFarther (h : Nat) (a : Nat → Nat) (cI cJ cZ : ClassId) (v_rows : Nat → Int32) (v_reached : Nat → Int32) : va_W := [(h, .inr (4, [.ref (a 0), .ref (a 1)])), ((a 0), .inl (cI, 16, .inl v_rows)), ((a 1), .inl (cI, 16, .inl v_reached))]
def wp_X3_reachFarther_88 (v_rows : Nat → Int32) (v_reached : Nat → Int32) (post : Int32 → (Nat → Int32) → Prop) (K4 : Int32 → Int32 → (Nat → Int32) → Prop) (s0_j88 : Int32) (s1_j88 : Int32) (x2_j88 : Int32) (x5_j88 : Int32) (v_reached_j88 : Nat → Int32) : Prop := vp_in x2_j88 16 ∧ (∀ v_reached_t97 : Nat → Int32, v_reached_t97 = upd v_reached_j88 x2_j88.toNatClampNeg x5_j88 → K4 (s0_j88 ||| s1_j88) (x2_j88 + 1) v_reached_t97)
def wp_X3_reachFarther_47 (v_rows : Nat → Int32) (v_reached : Nat → Int32) (post : Int32 → (Nat → Int32) → Prop) (K4 : Int32 → Int32 → (Nat → Int32) → Prop) (s0_j47 : Int32) (x1_j47 : Int32) (x2_j47 : Int32) (x3_j47 : Int32) (v_reached_j47 : Nat → Int32) : Prop := vp_in x2_j47 16 ∧ (vp_in x2_j47 16 ∧ (wp_X3_runsWith (((v_reached_j47 x2_j47.toNatClampNeg) ||| x3_j47) ||| s0_j47) (v_rows x2_j47.toNatClampNeg) (fun r_66 => vp_in x2_j47 16 ∧ ((r_66 = (v_reached_j47 x2_j47.toNatClampNeg) → wp_X3_reachFarther_88 v_rows v_reached post K4 x1_j47 0 x2_j47 r_66 v_reached_j47) ∧ (¬ r_66 = (v_reached_j47 x2_j47.toNatClampNeg) → wp_X3_reachFarther_88 v_rows v_reached post K4 x1_j47 1 x2_j47 r_66 v_reached_j47)))))
def wp_X3_reachFarther_26 (v_rows : Nat → Int32) (v_reached : Nat → Int32) (post : Int32 → (Nat → Int32) → Prop) (K4 : Int32 → Int32 → (Nat → Int32) → Prop) (s0_j26 : Int32) (x1_j26 : Int32) (x2_j26 : Int32) (v_reached_j26 : Nat → Int32) : Prop := ((16 : Int32) ≤ (x2_j26 + 1) → wp_X3_reachFarther_47 v_rows v_reached post K4 0 x1_j26 x2_j26 s0_j26 v_reached_j26) ∧ (¬ (16 : Int32) ≤ (x2_j26 + 1) → vp_in (x2_j26 + 1) 16 ∧ (wp_X3_reachFarther_47 v_rows v_reached post K4 (v_reached_j26 (x2_j26 + 1).toNatClampNeg) x1_j26 x2_j26 s0_j26 v_reached_j26))
def wp_X3_reachFarther_4 (v_rows : Nat → Int32) (v_reached : Nat → Int32) (post : Int32 → (Nat → Int32) → Prop) (K4 : Int32 → Int32 → (Nat → Int32) → Prop) (x1_j4 : Int32) (x2_j4 : Int32) (v_reached_j4 : Nat → Int32) : Prop := (16 ≤ x2_j4 → (x1_j4 = 0 ∨ x1_j4 = 1) ∧ post x1_j4 v_reached_j4) ∧ (¬ 16 ≤ x2_j4 → (x2_j4 ≤ 0 → wp_X3_reachFarther_26 v_rows v_reached post K4 0 x1_j4 x2_j4 v_reached_j4) ∧ (¬ x2_j4 ≤ 0 → vp_in (x2_j4 - 1) 16 ∧ (wp_X3_reachFarther_26 v_rows v_reached post K4 (v_reached_j4 (x2_j4 - 1).toNatClampNeg) x1_j4 x2_j4 v_reached_j4)))
def lF_X3_reachFarther_4 (v_rows : Nat → Int32) (v_reached : Nat → Int32) (post : Int32 → (Nat → Int32) → Prop) : ((Int32 × Int32 × (Nat → Int32)) → Prop) → (Int32 × Int32 × (Nat → Int32)) → Prop := fun K s => wp_X3_reachFarther_4 v_rows v_reached post (fun b0 b1 b2 => K (b0, b1, b2)) s.1 s.2.1 s.2.2
def wp_X3_reachFarther (v_rows : Nat → Int32) (v_reached : Nat → Int32) (post : Int32 → (Nat → Int32) → Prop) : Prop := lp (lF_X3_reachFarther_4 v_rows v_reached post) (0, 0, v_reached)
set_option maxHeartbeats 4000000 in
set_option maxRecDepth 100000 in
theorem c_X3_reachFarther (l : Launch) (D : va_G) (cI cJ cZ cO : ClassId) (h : Nat) (a : Nat → Nat) (sz : Nat) (v_rows : Nat → Int32) (v_reached : Nat → Int32) (post : Int32 → (Nat → Int32) → Prop) (hw : wp_X3_reachFarther v_rows v_reached post) : Met l yX3_reachFarther wsX3_reachFarther rm_X3_reachFarther (va_Pc [.ref h] (PRE D cI cJ cZ cO (W_X3_reachFarther h a cI cJ cZ v_rows v_reached) sz)) (va_Qi (fun r (u : (Nat → Int32)) => post r u) (fun u t => POST D (va_A (W_X3_reachFarther h a cI cJ cZ v_rows v_reached) sz) (W_X3_reachFarther h a cI cJ cZ v_rows u) t) (va_A (W_X3_reachFarther h a cI cJ cZ v_rows v_reached) sz)) 0 0 (va_A (W_X3_reachFarther h a cI cJ cZ v_rows v_reached) sz) := by
  refine met_go (cc := cX3_reachFarther) (maxL := 6) (ret := some .boolean) RX3 rfl (by decide) rfl (Nat.le_of_ble_eq_true rfl) ?_
  intro p e s m args below meth c ls hx hb hr hts hown hlocks hin hml hsz hP hK hE hD hA hS hl
  have iRX3 : ∀ w ∈ u_ws RX3 TX3 2, w ∈ wsX3_reachFarther := mem_seg 7 2 rfl
  generalize va_A (W_X3_reachFarther h a cI cJ cZ v_rows v_reached) sz = A at hD hA hS ⊢
  have RT : ∀ (v : Int32) (u : (Nat → Int32)) (H : Heap) (locs : List Loc) (pc : Nat) (ls : Array Slot), decode cX3_reachFarther pc = .ok (.ireturn, 1) → (v = 0 ∨ v = 1) → post v u → va_P D vwCl (W_X3_reachFarther h a cI cJ cZ v_rows u) H → va_D A (W_X3_reachFarther h a cI cJ cZ v_rows u) → va_S A s.heap H locs → W p l e rm_X3_reachFarther s m args below meth c H locs 0 0 (MQ below (va_Qi (fun r (u : (Nat → Int32)) => post r u) (fun u t => POST D A (W_X3_reachFarther h a cI cJ cZ v_rows u) t) A) args s 0 0 A) (F0 m pc ls [.int v]) := fun v u H locs pc ls d g0 g1 g2 g3 g4 => rt_z (Wf := fun u => (W_X3_reachFarther h a cI cJ cZ v_rows u)) u hx hb hr hlocks g0 g1 g2 g3 g4 d
  generalize (MQ below (va_Qi (fun r (u : (Nat → Int32)) => post r u) (fun u t => POST D A (W_X3_reachFarther h a cI cJ cZ v_rows u) t) A) args s 0 0 A) = QQ at RT ⊢
  have hl : lv_has ls 6 [(0, .ref h)] := hl
  have hP : va_P D vwCl (W_X3_reachFarther h a cI cJ cZ v_rows v_reached) s.heap := hP
  unfold wp_X3_reachFarther at hw
  suffices GO : ∀ (H : Heap) (locs : List Loc), va_P D vwCl (W_X3_reachFarther h a cI cJ cZ v_rows v_reached) H → va_S A s.heap H locs → W p l e rm_X3_reachFarther s m args below meth c H locs 0 0 QQ (F0 m 0 ls []) from GO _ _ hP hS
  clear hsz hP hS
  intro H locs hP hS
  have L4 : ∀ s0 : (Int32 × Int32 × (Nat → Int32)), lp (lF_X3_reachFarther_4 v_rows v_reached post) s0 → ∀ (H : Heap) (locs : List Loc) (ls : Array Slot), va_P D vwCl (W_X3_reachFarther h a cI cJ cZ v_rows s0.2.2) H → va_D A (W_X3_reachFarther h a cI cJ cZ v_rows s0.2.2) → va_S A s.heap H locs → lv_has ls 6 [(0, .ref h), (1, .int s0.1), (2, .int s0.2.1)] → W p l e rm_X3_reachFarther s m args below meth c H locs 0 0 QQ (F0 m 4 ls []) := by
    refine lp_elim (fun K4 ih4 s0 hw => ?_)
    obtain ⟨x1_j4, x2_j4, v_reached_j4⟩ := s0
    intro H locs ls hP hD hS hl
    have hw : wp_X3_reachFarther_4 v_rows v_reached post (fun b0 b1 b2 => K4 (b0, b1, b2)) x1_j4 x2_j4 v_reached_j4 := hw
    have hP : va_P D vwCl (W_X3_reachFarther h a cI cJ cZ v_rows v_reached_j4) H := hP
    have hD : va_D A (W_X3_reachFarther h a cI cJ cZ v_rows v_reached_j4) := hD
    have hl : lv_has ls 6 [(0, .ref h), (1, .int x1_j4), (2, .int x2_j4)] := hl
    have J88 : ∀ (s0_j88 : Int32) (s1_j88 : Int32) (x2_j88 : Int32) (x5_j88 : Int32) (v_reached_j88 : Nat → Int32) , wp_X3_reachFarther_88 v_rows v_reached post (fun b0 b1 b2 => K4 (b0, b1, b2)) s0_j88 s1_j88 x2_j88 x5_j88 v_reached_j88 → ∀ (H : Heap) (locs : List Loc) (ls : Array Slot), va_P D vwCl (W_X3_reachFarther h a cI cJ cZ v_rows v_reached_j88) H → va_D A (W_X3_reachFarther h a cI cJ cZ v_rows v_reached_j88) → va_S A s.heap H locs → lv_has ls 6 [(0, .ref h), (2, .int x2_j88), (5, .int x5_j88)] → W p l e rm_X3_reachFarther s m args below meth c H locs 0 0 QQ (F0 m 88 ls [.int s1_j88, .int s0_j88]) := by
      intro s0_j88 s1_j88 x2_j88 x5_j88 v_reached_j88 hw H locs ls hP hD hS hl
      unfold wp_X3_reachFarther_88 at hw
      refine lv_ior hx hb dX3_reachFarther_88 ?_
      refine lv_istore_n (lv' := [(1, .int (s0_j88 ||| s1_j88)), (0, .ref h), (2, .int x2_j88), (5, .int x5_j88)]) hx hb dX3_reachFarther_89 rfl hl (by decide) rfl (fun ls hl => ?_)
      refine lv_aload_n hx hb dX3_reachFarther_90 rfl (lv_at hl 1 rfl) ?_
      refine va_get (D := D) (ci := 4) (v := .ref (a 1)) (C := RX3) (T := TX3) (N := 2) hx hb hts iRX3 hown hK hP 0 rfl rfl 1 (by decide) (hts (.fieldLink RX3 15 "Leadlight$Shape" "reached" "[I") (List.mem_of_getElem? (i := 1) rfl)) (fun _ h9 => h9) rfl dX3_reachFarther_91 ?_
      refine lv_iload_n hx hb dX3_reachFarther_94 rfl (lv_at hl 2 rfl) ?_
      refine lv_iload hx hb dX3_reachFarther_95 (lv_at hl 3 rfl) ?_
      obtain ⟨hi_97, hw⟩ := hw
      refine st_i hx hb hK hP hD hS 2 0 rfl rfl hi_97 dX3_reachFarther_97 (fun v_reached_t97 ev_reached_t97 H locs hP hD hS => ?_)
      have hw := hw v_reached_t97 ev_reached_t97
      have hP : va_P D vwCl (W_X3_reachFarther h a cI cJ cZ v_rows v_reached_t97) H := hP
      have hD : va_D A (W_X3_reachFarther h a cI cJ cZ v_rows v_reached_t97) := hD
      refine lv_iinc (v := (x2_j88 + 1)) (lv' := [(2, .int (x2_j88 + 1)), (1, .int (s0_j88 ||| s1_j88)), (0, .ref h), (5, .int x5_j88)]) hx hb dX3_reachFarther_98 hl (k := 2) rfl rfl (by decide) rfl (fun ls hl => ?_)
      refine lv_goto (tgt := 4) hx hb dX3_reachFarther_101 (by decide) ?_
      exact ih4 ((s0_j88 ||| s1_j88), (x2_j88 + 1), v_reached_t97) hw _ _ ls hP hD hS (lv_sub hl [2, 1, 0] rfl)
    have J47 : ∀ (s0_j47 : Int32) (x1_j47 : Int32) (x2_j47 : Int32) (x3_j47 : Int32) (v_reached_j47 : Nat → Int32) , wp_X3_reachFarther_47 v_rows v_reached post (fun b0 b1 b2 => K4 (b0, b1, b2)) s0_j47 x1_j47 x2_j47 x3_j47 v_reached_j47 → ∀ (H : Heap) (locs : List Loc) (ls : Array Slot), va_P D vwCl (W_X3_reachFarther h a cI cJ cZ v_rows v_reached_j47) H → va_D A (W_X3_reachFarther h a cI cJ cZ v_rows v_reached_j47) → va_S A s.heap H locs → lv_has ls 6 [(0, .ref h), (1, .int x1_j47), (2, .int x2_j47), (3, .int x3_j47)] → W p l e rm_X3_reachFarther s m args below meth c H locs 0 0 QQ (F0 m 47 ls [.int s0_j47]) := by
      intro s0_j47 x1_j47 x2_j47 x3_j47 v_reached_j47 hw H locs ls hP hD hS hl
      unfold wp_X3_reachFarther_47 at hw
      refine lv_istore (lv' := [(4, .int s0_j47), (0, .ref h), (1, .int x1_j47), (2, .int x2_j47), (3, .int x3_j47)]) hx hb dX3_reachFarther_47 hl (by decide) rfl (fun ls hl => ?_)
      refine lv_aload_n hx hb dX3_reachFarther_49 rfl (lv_at hl 1 rfl) ?_
      refine va_get (D := D) (ci := 4) (v := .ref (a 1)) (C := RX3) (T := TX3) (N := 2) hx hb hts iRX3 hown hK hP 0 rfl rfl 1 (by decide) (hts (.fieldLink RX3 15 "Leadlight$Shape" "reached" "[I") (List.mem_of_getElem? (i := 1) rfl)) (fun _ h9 => h9) rfl dX3_reachFarther_50 ?_
      refine lv_iload_n hx hb dX3_reachFarther_53 rfl (lv_at hl 3 rfl) ?_
      obtain ⟨hi_54, hw⟩ := hw
      refine va_iald hx hb hK hP 2 0 rfl rfl hi_54 dX3_reachFarther_54 ?_
      refine lv_iload_n hx hb dX3_reachFarther_55 rfl (lv_at hl 4 rfl) ?_
      refine lv_ior hx hb dX3_reachFarther_56 ?_
      refine lv_iload hx hb dX3_reachFarther_57 (lv_at hl 0 rfl) ?_
      refine lv_ior hx hb dX3_reachFarther_59 ?_
      refine lv_aload_n hx hb dX3_reachFarther_60 rfl (lv_at hl 1 rfl) ?_
      refine va_get (D := D) (ci := 4) (v := .ref (a 0)) (C := RX3) (T := TX3) (N := 2) hx hb hts iRX3 hown hK hP 0 rfl rfl 0 (by decide) (hts (.fieldLink RX3 9 "Leadlight$Shape" "rows" "[I") (List.mem_of_getElem? (i := 2) rfl)) (fun _ h9 => h9) rfl dX3_reachFarther_61 ?_
      refine lv_iload_n hx hb dX3_reachFarther_64 rfl (lv_at hl 3 rfl) ?_
      obtain ⟨hi_65, hw⟩ := hw
      refine va_iald hx hb hK hP 1 0 rfl rfl hi_65 dX3_reachFarther_65 ?_
      refine af_i (X := (W_X3_reachFarther h a cI cJ cZ v_rows v_reached_j47)) (pl := []) (cx := ([] : va_W)) (w1 := fun (u : Unit) => ([] : va_W)) (X' := fun (u : Unit) => (W_X3_reachFarther h a cI cJ cZ v_rows v_reached_j47)) hP hD hS hA [] [0, 1, 2] [0, 1, 2] rfl rfl (by decide) (by decide) (fun u => rfl) (by decide) (va_runS (As := [.int (((v_reached_j47 x2_j47.toNatClampNeg) ||| x3_j47) ||| s0_j47), .int (v_rows x2_j47.toNatClampNeg)]) (rest := []) ⟨hx, hb, hml, hown, hts⟩ (c_X3_runsWith l D cI cJ cZ cO H.size (((v_reached_j47 x2_j47.toNatClampNeg) ||| x3_j47) ||| s0_j47) (v_rows x2_j47.toNatClampNeg) _ hw) (va_cwS 2 hts gX3_reachFarther_X3_runsWith rfl rfl rfl (by decide +kernel) ⟨Nat.le_of_ble_eq_true rfl, Nat.le_of_ble_eq_true rfl⟩) (preS (X := (W_X3_reachFarther h a cI cJ cZ v_rows v_reached_j47)) (pl := []) (cx := ([] : va_W)) hK hE hP hD [] (by decide) rfl) rfl rfl hl.1 rfl (lv_room (Nat.le_of_ble_eq_true rfl)) dX3_reachFarther_66 ⟨Nat.zero_le _, Nat.zero_le _⟩) (fun r_66 _ H locs hw hP hD hS => ?_)
      try dsimp only at hw
      have hP : va_P D vwCl (W_X3_reachFarther h a cI cJ cZ v_rows v_reached_j47) H := hP
      have hD : va_D A (W_X3_reachFarther h a cI cJ cZ v_rows v_reached_j47) := hD
      refine lv_istore (lv' := [(5, .int r_66), (4, .int s0_j47), (0, .ref h), (1, .int x1_j47), (2, .int x2_j47), (3, .int x3_j47)]) hx hb dX3_reachFarther_69 hl (by decide) rfl (fun ls hl => ?_)
      refine lv_iload_n hx hb dX3_reachFarther_71 rfl (lv_at hl 3 rfl) ?_
      refine lv_iload hx hb dX3_reachFarther_72 (lv_at hl 0 rfl) ?_
      refine lv_aload_n hx hb dX3_reachFarther_74 rfl (lv_at hl 2 rfl) ?_
      refine va_get (D := D) (ci := 4) (v := .ref (a 1)) (C := RX3) (T := TX3) (N := 2) hx hb hts iRX3 hown hK hP 0 rfl rfl 1 (by decide) (hts (.fieldLink RX3 15 "Leadlight$Shape" "reached" "[I") (List.mem_of_getElem? (i := 1) rfl)) (fun _ h9 => h9) rfl dX3_reachFarther_75 ?_
      refine lv_iload_n hx hb dX3_reachFarther_78 rfl (lv_at hl 4 rfl) ?_
      obtain ⟨hi_79, hw⟩ := hw
      refine va_iald hx hb hK hP 2 0 rfl rfl hi_79 dX3_reachFarther_79 ?_
      refine lv_icmp_eq (tgt := 87) hx hb dX3_reachFarther_80 (by decide) (fun c80 => ?_) (fun c80 => ?_)
      · have hw := hw.1 c80
        refine lv_iconst (v := 0) hx hb dX3_reachFarther_87 (by decide) ?_
        exact J88 x1_j47 0 x2_j47 r_66 v_reached_j47 hw _ _ ls hP hD hS (lv_sub hl [2, 4, 0] rfl)
      · have hw := hw.2 c80
        refine lv_iconst (v := 1) hx hb dX3_reachFarther_83 (by decide) ?_
        refine lv_goto (tgt := 88) hx hb dX3_reachFarther_84 (by decide) ?_
        exact J88 x1_j47 1 x2_j47 r_66 v_reached_j47 hw _ _ ls hP hD hS (lv_sub hl [2, 4, 0] rfl)
    have J26 : ∀ (s0_j26 : Int32) (x1_j26 : Int32) (x2_j26 : Int32) (v_reached_j26 : Nat → Int32) , wp_X3_reachFarther_26 v_rows v_reached post (fun b0 b1 b2 => K4 (b0, b1, b2)) s0_j26 x1_j26 x2_j26 v_reached_j26 → ∀ (H : Heap) (locs : List Loc) (ls : Array Slot), va_P D vwCl (W_X3_reachFarther h a cI cJ cZ v_rows v_reached_j26) H → va_D A (W_X3_reachFarther h a cI cJ cZ v_rows v_reached_j26) → va_S A s.heap H locs → lv_has ls 6 [(0, .ref h), (1, .int x1_j26), (2, .int x2_j26)] → W p l e rm_X3_reachFarther s m args below meth c H locs 0 0 QQ (F0 m 26 ls [.int s0_j26]) := by
      intro s0_j26 x1_j26 x2_j26 v_reached_j26 hw H locs ls hP hD hS hl
      unfold wp_X3_reachFarther_26 at hw
      refine lv_istore_n (lv' := [(3, .int s0_j26), (0, .ref h), (1, .int x1_j26), (2, .int x2_j26)]) hx hb dX3_reachFarther_26 rfl hl (by decide) rfl (fun ls hl => ?_)
      refine lv_iload_n hx hb dX3_reachFarther_27 rfl (lv_at hl 3 rfl) ?_
      refine lv_iconst (v := 1) hx hb dX3_reachFarther_28 (by decide) ?_
      refine lv_iadd hx hb dX3_reachFarther_29 ?_
      refine lv_bipush (v := 16) hx hb dX3_reachFarther_30 (by decide) ?_
      refine lv_icmp_ge (tgt := 46) hx hb dX3_reachFarther_32 (by decide) (fun c32 => ?_) (fun c32 => ?_)
      · have hw := hw.1 c32
        refine lv_iconst (v := 0) hx hb dX3_reachFarther_46 (by decide) ?_
        exact J47 0 x1_j26 x2_j26 s0_j26 v_reached_j26 hw _ _ ls hP hD hS (lv_sub hl [1, 2, 3, 0] rfl)
      · have hw := hw.2 c32
        refine lv_aload_n hx hb dX3_reachFarther_35 rfl (lv_at hl 1 rfl) ?_
        refine va_get (D := D) (ci := 4) (v := .ref (a 1)) (C := RX3) (T := TX3) (N := 2) hx hb hts iRX3 hown hK hP 0 rfl rfl 1 (by decide) (hts (.fieldLink RX3 15 "Leadlight$Shape" "reached" "[I") (List.mem_of_getElem? (i := 1) rfl)) (fun _ h9 => h9) rfl dX3_reachFarther_36 ?_
        refine lv_iload_n hx hb dX3_reachFarther_39 rfl (lv_at hl 3 rfl) ?_
        refine lv_iconst (v := 1) hx hb dX3_reachFarther_40 (by decide) ?_
        refine lv_iadd hx hb dX3_reachFarther_41 ?_
        obtain ⟨hi_42, hw⟩ := hw
        refine va_iald hx hb hK hP 2 0 rfl rfl hi_42 dX3_reachFarther_42 ?_
        refine lv_goto (tgt := 47) hx hb dX3_reachFarther_43 (by decide) ?_
        exact J47 (v_reached_j26 (x2_j26 + 1).toNatClampNeg) x1_j26 x2_j26 s0_j26 v_reached_j26 hw _ _ ls hP hD hS (lv_sub hl [1, 2, 3, 0] rfl)
    unfold wp_X3_reachFarther_4 at hw
    refine lv_iload_n hx hb dX3_reachFarther_4 rfl (lv_at hl 2 rfl) ?_
    refine lv_bipush (v := 16) hx hb dX3_reachFarther_5 (by decide) ?_
    refine lv_icmp_ge (tgt := 104) hx hb dX3_reachFarther_7 (by decide) (fun c7 => ?_) (fun c7 => ?_)
    · have hw := hw.1 c7
      refine lv_iload_n hx hb dX3_reachFarther_104 rfl (lv_at hl 1 rfl) ?_
      exact RT x1_j4 v_reached_j4 _ _ _ _ dX3_reachFarther_105 hw.1 hw.2 hP hD hS
    · have hw := hw.2 c7
      refine lv_iload_n hx hb dX3_reachFarther_10 rfl (lv_at hl 2 rfl) ?_
      refine lv_if_le (tgt := 25) hx hb dX3_reachFarther_11 (by decide) (fun c11 => ?_) (fun c11 => ?_)
      · have hw := hw.1 c11
        refine lv_iconst (v := 0) hx hb dX3_reachFarther_25 (by decide) ?_
        exact J26 0 x1_j4 x2_j4 v_reached_j4 hw _ _ ls hP hD hS (lv_sub hl [0, 1, 2] rfl)
      · have hw := hw.2 c11
        refine lv_aload_n hx hb dX3_reachFarther_14 rfl (lv_at hl 0 rfl) ?_
        refine va_get (D := D) (ci := 4) (v := .ref (a 1)) (C := RX3) (T := TX3) (N := 2) hx hb hts iRX3 hown hK hP 0 rfl rfl 1 (by decide) (hts (.fieldLink RX3 15 "Leadlight$Shape" "reached" "[I") (List.mem_of_getElem? (i := 1) rfl)) (fun _ h9 => h9) rfl dX3_reachFarther_15 ?_
        refine lv_iload_n hx hb dX3_reachFarther_18 rfl (lv_at hl 2 rfl) ?_
        refine lv_iconst (v := 1) hx hb dX3_reachFarther_19 (by decide) ?_
        refine lv_isub hx hb dX3_reachFarther_20 ?_
        obtain ⟨hi_21, hw⟩ := hw
        refine va_iald hx hb hK hP 2 0 rfl rfl hi_21 dX3_reachFarther_21 ?_
        refine lv_goto (tgt := 26) hx hb dX3_reachFarther_22 (by decide) ?_
        exact J26 (v_reached_j4 (x2_j4 - 1).toNatClampNeg) x1_j4 x2_j4 v_reached_j4 hw _ _ ls hP hD hS (lv_sub hl [0, 1, 2] rfl)
  refine lv_iconst (v := 0) hx hb dX3_reachFarther_0 (by decide) ?_
  refine lv_istore_n (lv' := [(1, .int 0), (0, .ref h)]) hx hb dX3_reachFarther_1 rfl hl (by decide) rfl (fun ls hl => ?_)
  refine lv_iconst (v := 0) hx hb dX3_reachFarther_2 (by decide) ?_
  refine lv_istore_n (lv' := [(2, .int 0), (1, .int 0), (0, .ref h)]) hx hb dX3_reachFarther_3 rfl hl (by decide) rfl (fun ls hl => ?_)
  exact L4 (0, 0, v_reached) hw _ _ ls hP hD hS (lv_sub hl [2, 1, 0] rfl)
abbrev rm_X3_reachesAll : Room := { frames := 0, cells := 0, slots := 0, locals := 0 }
abbrev W_X3_reachesAll (h : Nat) (a : Nat → Nat) (cI cJ cZ : ClassId) (v_rows : Nat → Int32) (v_reached : Nat → Int32) : va_W := [(h, .inr (4, [.ref (a 0), .ref (a 1)])), ((a 0), .inl (cI, 16, .inl v_rows)), ((a 1), .inl (cI, 16, .inl v_reached))]
def wp_X3_reachesAll_42 (v_rows : Nat → Int32) (v_reached : Nat → Int32) (post : Int32 → Prop) (K4 : Int32 → Int32 → Prop) (s0_j42 : Int32) (s1_j42 : Int32) (x2_j42 : Int32) : Prop := K4 (s0_j42 ||| s1_j42) (x2_j42 + 1)
def wp_X3_reachesAll_4 (v_rows : Nat → Int32) (v_reached : Nat → Int32) (post : Int32 → Prop) (K4 : Int32 → Int32 → Prop) (x1_j4 : Int32) (x2_j4 : Int32) : Prop := (16 ≤ x2_j4 → (x1_j4 = 0 ∨ x1_j4 = 1) ∧ post x1_j4) ∧ (¬ 16 ≤ x2_j4 → vp_in x2_j4 16 ∧ (vp_in x2_j4 16 ∧ (((v_reached x2_j4.toNatClampNeg) = (v_rows x2_j4.toNatClampNeg) → vp_in x2_j4 16 ∧ (((v_rows x2_j4.toNatClampNeg) = 0 → wp_X3_reachesAll_42 v_rows v_reached post K4 x1_j4 0 x2_j4) ∧ (¬ (v_rows x2_j4.toNatClampNeg) = 0 → wp_X3_reachesAll_42 v_rows v_reached post K4 x1_j4 1 x2_j4))) ∧ (¬ (v_reached x2_j4.toNatClampNeg) = (v_rows x2_j4.toNatClampNeg) → post 0))))
def lF_X3_reachesAll_4 (v_rows : Nat → Int32) (v_reached : Nat → Int32) (post : Int32 → Prop) : ((Int32 × Int32) → Prop) → (Int32 × Int32) → Prop := fun K s => wp_X3_reachesAll_4 v_rows v_reached post (fun b0 b1 => K (b0, b1)) s.1 s.2
def wp_X3_reachesAll (v_rows : Nat → Int32) (v_reached : Nat → Int32) (post : Int32 → Prop) : Prop := lp (lF_X3_reachesAll_4 v_rows v_reached post) (0, 0)
set_option maxHeartbeats 4000000 in
set_option maxRecDepth 100000 in
theorem c_X3_reachesAll (l : Launch) (D : va_G) (cI cJ cZ cO : ClassId) (h : Nat) (a : Nat → Nat) (sz : Nat) (v_rows : Nat → Int32) (v_reached : Nat → Int32) (post : Int32 → Prop) (hw : wp_X3_reachesAll v_rows v_reached post) : Met l yX3_reachesAll wsX3_reachesAll rm_X3_reachesAll (va_Pc [.ref h] (PRE D cI cJ cZ cO (W_X3_reachesAll h a cI cJ cZ v_rows v_reached) sz)) (va_Qi (fun r (_ : Unit) => post r) (fun u t => POST D (va_A (W_X3_reachesAll h a cI cJ cZ v_rows v_reached) sz) (W_X3_reachesAll h a cI cJ cZ v_rows v_reached) t) (va_A (W_X3_reachesAll h a cI cJ cZ v_rows v_reached) sz)) 0 0 (va_A (W_X3_reachesAll h a cI cJ cZ v_rows v_reached) sz) := by
  refine met_go (cc := cX3_reachesAll) (maxL := 3) (ret := some .boolean) RX3 rfl (by decide) rfl (Nat.le_of_ble_eq_true rfl) ?_
  intro p e s m args below meth c ls hx hb hr hts hown hlocks hin hml hsz hP hK hE hD hA hS hl
  have iRX3 : ∀ w ∈ u_ws RX3 TX3 2, w ∈ wsX3_reachesAll := mem_seg 3 2 rfl
  generalize va_A (W_X3_reachesAll h a cI cJ cZ v_rows v_reached) sz = A at hD hA hS ⊢
  have RT : ∀ (v : Int32) (u : Unit) (H : Heap) (locs : List Loc) (pc : Nat) (ls : Array Slot), decode cX3_reachesAll pc = .ok (.ireturn, 1) → (v = 0 ∨ v = 1) → post v → va_P D vwCl (W_X3_reachesAll h a cI cJ cZ v_rows v_reached) H → va_D A (W_X3_reachesAll h a cI cJ cZ v_rows v_reached) → va_S A s.heap H locs → W p l e rm_X3_reachesAll s m args below meth c H locs 0 0 (MQ below (va_Qi (fun r (_ : Unit) => post r) (fun u t => POST D A (W_X3_reachesAll h a cI cJ cZ v_rows v_reached) t) A) args s 0 0 A) (F0 m pc ls [.int v]) := fun v u H locs pc ls d g0 g1 g2 g3 g4 => rt_z (Wf := fun u => (W_X3_reachesAll h a cI cJ cZ v_rows v_reached)) u hx hb hr hlocks g0 g1 g2 g3 g4 d
  generalize (MQ below (va_Qi (fun r (_ : Unit) => post r) (fun u t => POST D A (W_X3_reachesAll h a cI cJ cZ v_rows v_reached) t) A) args s 0 0 A) = QQ at RT ⊢
  have hl : lv_has ls 3 [(0, .ref h)] := hl
  have hP : va_P D vwCl (W_X3_reachesAll h a cI cJ cZ v_rows v_reached) s.heap := hP
  unfold wp_X3_reachesAll at hw
  suffices GO : ∀ (H : Heap) (locs : List Loc), va_P D vwCl (W_X3_reachesAll h a cI cJ cZ v_rows v_reached) H → va_S A s.heap H locs → W p l e rm_X3_reachesAll s m args below meth c H locs 0 0 QQ (F0 m 0 ls []) from GO _ _ hP hS
  clear hsz hP hS
  intro H locs hP hS
  have L4 : ∀ s0 : (Int32 × Int32), lp (lF_X3_reachesAll_4 v_rows v_reached post) s0 → ∀ (H : Heap) (locs : List Loc) (ls : Array Slot), va_P D vwCl (W_X3_reachesAll h a cI cJ cZ v_rows v_reached) H → va_D A (W_X3_reachesAll h a cI cJ cZ v_rows v_reached) → va_S A s.heap H locs → lv_has ls 3 [(0, .ref h), (1, .int s0.1), (2, .int s0.2)] → W p l e rm_X3_reachesAll s m args below meth c H locs 0 0 QQ (F0 m 4 ls []) := by
    refine lp_elim (fun K4 ih4 s0 hw => ?_)
    obtain ⟨x1_j4, x2_j4⟩ := s0
    intro H locs ls hP hD hS hl
    have hw : wp_X3_reachesAll_4 v_rows v_reached post (fun b0 b1 => K4 (b0, b1)) x1_j4 x2_j4 := hw
    have hP : va_P D vwCl (W_X3_reachesAll h a cI cJ cZ v_rows v_reached) H := hP
    have hD : va_D A (W_X3_reachesAll h a cI cJ cZ v_rows v_reached) := hD
    have hl : lv_has ls 3 [(0, .ref h), (1, .int x1_j4), (2, .int x2_j4)] := hl
    have J42 : ∀ (s0_j42 : Int32) (s1_j42 : Int32) (x2_j42 : Int32) , wp_X3_reachesAll_42 v_rows v_reached post (fun b0 b1 => K4 (b0, b1)) s0_j42 s1_j42 x2_j42 → ∀ (H : Heap) (locs : List Loc) (ls : Array Slot), va_P D vwCl (W_X3_reachesAll h a cI cJ cZ v_rows v_reached) H → va_D A (W_X3_reachesAll h a cI cJ cZ v_rows v_reached) → va_S A s.heap H locs → lv_has ls 3 [(0, .ref h), (2, .int x2_j42)] → W p l e rm_X3_reachesAll s m args below meth c H locs 0 0 QQ (F0 m 42 ls [.int s1_j42, .int s0_j42]) := by
      intro s0_j42 s1_j42 x2_j42 hw H locs ls hP hD hS hl
      unfold wp_X3_reachesAll_42 at hw
      refine lv_ior hx hb dX3_reachesAll_42 ?_
      refine lv_istore_n (lv' := [(1, .int (s0_j42 ||| s1_j42)), (0, .ref h), (2, .int x2_j42)]) hx hb dX3_reachesAll_43 rfl hl (by decide) rfl (fun ls hl => ?_)
      refine lv_iinc (v := (x2_j42 + 1)) (lv' := [(2, .int (x2_j42 + 1)), (1, .int (s0_j42 ||| s1_j42)), (0, .ref h)]) hx hb dX3_reachesAll_44 hl (k := 2) rfl rfl (by decide) rfl (fun ls hl => ?_)
      refine lv_goto (tgt := 4) hx hb dX3_reachesAll_47 (by decide) ?_
      exact ih4 ((s0_j42 ||| s1_j42), (x2_j42 + 1)) hw _ _ ls hP hD hS (lv_sub hl [2, 1, 0] rfl)
    unfold wp_X3_reachesAll_4 at hw
    refine lv_iload_n hx hb dX3_reachesAll_4 rfl (lv_at hl 2 rfl) ?_
    refine lv_bipush (v := 16) hx hb dX3_reachesAll_5 (by decide) ?_
    refine lv_icmp_ge (tgt := 50) hx hb dX3_reachesAll_7 (by decide) (fun c7 => ?_) (fun c7 => ?_)
    · have hw := hw.1 c7
      refine lv_iload_n hx hb dX3_reachesAll_50 rfl (lv_at hl 1 rfl) ?_
      exact RT x1_j4 () _ _ _ _ dX3_reachesAll_51 hw.1 hw.2 hP hD hS
    · have hw := hw.2 c7
      refine lv_aload_n hx hb dX3_reachesAll_10 rfl (lv_at hl 0 rfl) ?_
      refine va_get (D := D) (ci := 4) (v := .ref (a 1)) (C := RX3) (T := TX3) (N := 2) hx hb hts iRX3 hown hK hP 0 rfl rfl 1 (by decide) (hts (.fieldLink RX3 15 "Leadlight$Shape" "reached" "[I") (List.mem_of_getElem? (i := 1) rfl)) (fun _ h9 => h9) rfl dX3_reachesAll_11 ?_
      refine lv_iload_n hx hb dX3_reachesAll_14 rfl (lv_at hl 2 rfl) ?_
      obtain ⟨hi_15, hw⟩ := hw
      refine va_iald hx hb hK hP 2 0 rfl rfl hi_15 dX3_reachesAll_15 ?_
      refine lv_aload_n hx hb dX3_reachesAll_16 rfl (lv_at hl 0 rfl) ?_
      refine va_get (D := D) (ci := 4) (v := .ref (a 0)) (C := RX3) (T := TX3) (N := 2) hx hb hts iRX3 hown hK hP 0 rfl rfl 0 (by decide) (hts (.fieldLink RX3 9 "Leadlight$Shape" "rows" "[I") (List.mem_of_getElem? (i := 2) rfl)) (fun _ h9 => h9) rfl dX3_reachesAll_17 ?_
      refine lv_iload_n hx hb dX3_reachesAll_20 rfl (lv_at hl 2 rfl) ?_
      obtain ⟨hi_21, hw⟩ := hw
      refine va_iald hx hb hK hP 1 0 rfl rfl hi_21 dX3_reachesAll_21 ?_
      refine lv_icmp_eq (tgt := 27) hx hb dX3_reachesAll_22 (by decide) (fun c22 => ?_) (fun c22 => ?_)
      · have hw := hw.1 c22
        refine lv_iload_n hx hb dX3_reachesAll_27 rfl (lv_at hl 1 rfl) ?_
        refine lv_aload_n hx hb dX3_reachesAll_28 rfl (lv_at hl 0 rfl) ?_
        refine va_get (D := D) (ci := 4) (v := .ref (a 0)) (C := RX3) (T := TX3) (N := 2) hx hb hts iRX3 hown hK hP 0 rfl rfl 0 (by decide) (hts (.fieldLink RX3 9 "Leadlight$Shape" "rows" "[I") (List.mem_of_getElem? (i := 2) rfl)) (fun _ h9 => h9) rfl dX3_reachesAll_29 ?_
        refine lv_iload_n hx hb dX3_reachesAll_32 rfl (lv_at hl 2 rfl) ?_
        obtain ⟨hi_33, hw⟩ := hw
        refine va_iald hx hb hK hP 1 0 rfl rfl hi_33 dX3_reachesAll_33 ?_
        refine lv_if_eq (tgt := 41) hx hb dX3_reachesAll_34 (by decide) (fun c34 => ?_) (fun c34 => ?_)
        · have hw := hw.1 c34
          refine lv_iconst (v := 0) hx hb dX3_reachesAll_41 (by decide) ?_
          exact J42 x1_j4 0 x2_j4 hw _ _ ls hP hD hS (lv_sub hl [0, 2] rfl)
        · have hw := hw.2 c34
          refine lv_iconst (v := 1) hx hb dX3_reachesAll_37 (by decide) ?_
          refine lv_goto (tgt := 42) hx hb dX3_reachesAll_38 (by decide) ?_
          exact J42 x1_j4 1 x2_j4 hw _ _ ls hP hD hS (lv_sub hl [0, 2] rfl)
      · have hw := hw.2 c22
        refine lv_iconst (v := 0) hx hb dX3_reachesAll_25 (by decide) ?_
        exact RT 0 () _ _ _ _ dX3_reachesAll_26 (Or.inl rfl) hw hP hD hS
  refine lv_iconst (v := 0) hx hb dX3_reachesAll_0 (by decide) ?_
  refine lv_istore_n (lv' := [(1, .int 0), (0, .ref h)]) hx hb dX3_reachesAll_1 rfl hl (by decide) rfl (fun ls hl => ?_)
  refine lv_iconst (v := 0) hx hb dX3_reachesAll_2 (by decide) ?_
  refine lv_istore_n (lv' := [(2, .int 0), (1, .int 0), (0, .ref h)]) hx hb dX3_reachesAll_3 rfl hl (by decide) rfl (fun ls hl => ?_)
  exact L4 (0, 0) hw _ _ ls hP hD hS (lv_sub hl [2, 1, 0] rfl)
abbrev rm_X3_isOnePart : Room := { frames := 2, cells := 0, slots := 0, locals := 49 }
abbrev W_X3_isOnePart (h : Nat) (a : Nat → Nat) (cI cJ cZ : ClassId) (v_rows : Nat → Int32) (v_reached : Nat → Int32) : va_W := [(h, .inr (4, [.ref (a 0), .ref (a 1)])), ((a 0), .inl (cI, 16, .inl v_rows)), ((a 1), .inl (cI, 16, .inl v_reached))]
def wp_X3_isOnePart_29 (v_rows : Nat → Int32) (v_reached : Nat → Int32) (post : Int32 → (Nat → Int32) → Prop) (v_reached_j29 : Nat → Int32) : Prop := wp_X3_reachesAll v_rows v_reached_j29 (fun r_30 => (r_30 = 0 ∨ r_30 = 1) ∧ post r_30 v_reached_j29)
def wp_X3_isOnePart_7 (v_rows : Nat → Int32) (v_reached : Nat → Int32) (post : Int32 → (Nat → Int32) → Prop) (K7 : Int32 → Int32 → (Nat → Int32) → Prop) (x1_j7 : Int32) (x2_j7 : Int32) (v_reached_j7 : Nat → Int32) : Prop := (256 ≤ x2_j7 → wp_X3_isOnePart_29 v_rows v_reached post v_reached_j7) ∧ (¬ 256 ≤ x2_j7 → (x1_j7 = 0 → wp_X3_isOnePart_29 v_rows v_reached post v_reached_j7) ∧ (¬ x1_j7 = 0 → wp_X3_reachFarther v_rows v_reached_j7 (fun r_19 v_reached_c19 => K7 r_19 (x2_j7 + 1) v_reached_c19)))
def lF_X3_isOnePart_7 (v_rows : Nat → Int32) (v_reached : Nat → Int32) (post : Int32 → (Nat → Int32) → Prop) : ((Int32 × Int32 × (Nat → Int32)) → Prop) → (Int32 × Int32 × (Nat → Int32)) → Prop := fun K s => wp_X3_isOnePart_7 v_rows v_reached post (fun b0 b1 b2 => K (b0, b1, b2)) s.1 s.2.1 s.2.2
def wp_X3_isOnePart (v_rows : Nat → Int32) (v_reached : Nat → Int32) (post : Int32 → (Nat → Int32) → Prop) : Prop := wp_X3_reachFirst v_rows v_reached (fun r_1 v_reached_c1 => lp (lF_X3_isOnePart_7 v_rows v_reached post) (r_1, 0, v_reached_c1))
set_option maxHeartbeats 4000000 in
set_option maxRecDepth 100000 in
theorem c_X3_isOnePart (l : Launch) (D : va_G) (cI cJ cZ cO : ClassId) (h : Nat) (a : Nat → Nat) (sz : Nat) (v_rows : Nat → Int32) (v_reached : Nat → Int32) (post : Int32 → (Nat → Int32) → Prop) (hw : wp_X3_isOnePart v_rows v_reached post) : Met l yX3_isOnePart wsX3_isOnePart rm_X3_isOnePart (va_Pc [.ref h] (PRE D cI cJ cZ cO (W_X3_isOnePart h a cI cJ cZ v_rows v_reached) sz)) (va_Qi (fun r (u : (Nat → Int32)) => post r u) (fun u t => POST D (va_A (W_X3_isOnePart h a cI cJ cZ v_rows v_reached) sz) (W_X3_isOnePart h a cI cJ cZ v_rows u) t) (va_A (W_X3_isOnePart h a cI cJ cZ v_rows v_reached) sz)) 0 0 (va_A (W_X3_isOnePart h a cI cJ cZ v_rows v_reached) sz) := by
  refine met_go (cc := cX3_isOnePart) (maxL := 3) (ret := some .boolean) RX3 rfl (by decide) rfl (Nat.le_of_ble_eq_true rfl) ?_
  intro p e s m args below meth c ls hx hb hr hts hown hlocks hin hml hsz hP hK hE hD hA hS hl
  have iRX3 : ∀ w ∈ u_ws RX3 TX3 2, w ∈ wsX3_isOnePart := mem_seg 23 2 rfl
  generalize va_A (W_X3_isOnePart h a cI cJ cZ v_rows v_reached) sz = A at hD hA hS ⊢
  have RT : ∀ (v : Int32) (u : (Nat → Int32)) (H : Heap) (locs : List Loc) (pc : Nat) (ls : Array Slot), decode cX3_isOnePart pc = .ok (.ireturn, 1) → (v = 0 ∨ v = 1) → post v u → va_P D vwCl (W_X3_isOnePart h a cI cJ cZ v_rows u) H → va_D A (W_X3_isOnePart h a cI cJ cZ v_rows u) → va_S A s.heap H locs → W p l e rm_X3_isOnePart s m args below meth c H locs 0 0 (MQ below (va_Qi (fun r (u : (Nat → Int32)) => post r u) (fun u t => POST D A (W_X3_isOnePart h a cI cJ cZ v_rows u) t) A) args s 0 0 A) (F0 m pc ls [.int v]) := fun v u H locs pc ls d g0 g1 g2 g3 g4 => rt_z (Wf := fun u => (W_X3_isOnePart h a cI cJ cZ v_rows u)) u hx hb hr hlocks g0 g1 g2 g3 g4 d
  generalize (MQ below (va_Qi (fun r (u : (Nat → Int32)) => post r u) (fun u t => POST D A (W_X3_isOnePart h a cI cJ cZ v_rows u) t) A) args s 0 0 A) = QQ at RT ⊢
  have hl : lv_has ls 3 [(0, .ref h)] := hl
  have hP : va_P D vwCl (W_X3_isOnePart h a cI cJ cZ v_rows v_reached) s.heap := hP
  unfold wp_X3_isOnePart at hw
  suffices GO : ∀ (H : Heap) (locs : List Loc), va_P D vwCl (W_X3_isOnePart h a cI cJ cZ v_rows v_reached) H → va_S A s.heap H locs → W p l e rm_X3_isOnePart s m args below meth c H locs 0 0 QQ (F0 m 0 ls []) from GO _ _ hP hS
  clear hsz hP hS
  intro H locs hP hS
  have J29 : ∀ (v_reached_j29 : Nat → Int32) , wp_X3_isOnePart_29 v_rows v_reached post v_reached_j29 → ∀ (H : Heap) (locs : List Loc) (ls : Array Slot), va_P D vwCl (W_X3_isOnePart h a cI cJ cZ v_rows v_reached_j29) H → va_D A (W_X3_isOnePart h a cI cJ cZ v_rows v_reached_j29) → va_S A s.heap H locs → lv_has ls 3 [(0, .ref h)] → W p l e rm_X3_isOnePart s m args below meth c H locs 0 0 QQ (F0 m 29 ls []) := by
    intro v_reached_j29 hw H locs ls hP hD hS hl
    unfold wp_X3_isOnePart_29 at hw
    refine lv_aload_n hx hb dX3_isOnePart_29 rfl (lv_at hl 0 rfl) ?_
    refine af_i (X := (W_X3_isOnePart h a cI cJ cZ v_rows v_reached_j29)) (pl := []) (cx := (W_X3_reachesAll h a cI cJ cZ v_rows v_reached_j29)) (w1 := fun (u : Unit) => (W_X3_reachesAll h a cI cJ cZ v_rows v_reached_j29)) (X' := fun (u : Unit) => (W_X3_isOnePart h a cI cJ cZ v_rows v_reached_j29)) hP hD hS hA [0, 1, 2] [] [0, 1, 2] rfl rfl (by decide) (by decide) (fun u => rfl) (by decide) (va_runV (As := []) (rest := []) ⟨hx, hb, hml, hown, hts⟩ (c_X3_reachesAll l D cI cJ cZ cO h a H.size v_rows v_reached_j29 _ hw) (cwV 0 hts gX3_isOnePart_X3_reachesAll rfl rfl rfl (by decide +kernel) ⟨Nat.le_of_ble_eq_true rfl, Nat.le_of_ble_eq_true rfl⟩) (preV (X := (W_X3_isOnePart h a cI cJ cZ v_rows v_reached_j29)) (pl := []) (cx := (W_X3_reachesAll h a cI cJ cZ v_rows v_reached_j29)) (qb := 0) (ci := 4) hK hE hP hD [0, 1, 2] (by decide) rfl rfl rfl) rfl rfl hl.1 rfl (lv_room (Nat.le_of_ble_eq_true rfl)) dX3_isOnePart_30 ⟨Nat.zero_le _, Nat.zero_le _⟩) (fun r_30 _ H locs hw hP hD hS => ?_)
    try dsimp only at hw
    have hP : va_P D vwCl (W_X3_isOnePart h a cI cJ cZ v_rows v_reached_j29) H := hP
    have hD : va_D A (W_X3_isOnePart h a cI cJ cZ v_rows v_reached_j29) := hD
    exact RT r_30 v_reached_j29 _ _ _ _ dX3_isOnePart_33 hw.1 hw.2 hP hD hS
  have L7 : ∀ s0 : (Int32 × Int32 × (Nat → Int32)), lp (lF_X3_isOnePart_7 v_rows v_reached post) s0 → ∀ (H : Heap) (locs : List Loc) (ls : Array Slot), va_P D vwCl (W_X3_isOnePart h a cI cJ cZ v_rows s0.2.2) H → va_D A (W_X3_isOnePart h a cI cJ cZ v_rows s0.2.2) → va_S A s.heap H locs → lv_has ls 3 [(0, .ref h), (1, .int s0.1), (2, .int s0.2.1)] → W p l e rm_X3_isOnePart s m args below meth c H locs 0 0 QQ (F0 m 7 ls []) := by
    refine lp_elim (fun K7 ih7 s0 hw => ?_)
    obtain ⟨x1_j7, x2_j7, v_reached_j7⟩ := s0
    intro H locs ls hP hD hS hl
    have hw : wp_X3_isOnePart_7 v_rows v_reached post (fun b0 b1 b2 => K7 (b0, b1, b2)) x1_j7 x2_j7 v_reached_j7 := hw
    have hP : va_P D vwCl (W_X3_isOnePart h a cI cJ cZ v_rows v_reached_j7) H := hP
    have hD : va_D A (W_X3_isOnePart h a cI cJ cZ v_rows v_reached_j7) := hD
    have hl : lv_has ls 3 [(0, .ref h), (1, .int x1_j7), (2, .int x2_j7)] := hl
    unfold wp_X3_isOnePart_7 at hw
    refine lv_iload_n hx hb dX3_isOnePart_7 rfl (lv_at hl 2 rfl) ?_
    refine lv_sipush (v := 256) hx hb dX3_isOnePart_8 (by decide) ?_
    refine lv_icmp_ge (tgt := 29) hx hb dX3_isOnePart_11 (by decide) (fun c11 => ?_) (fun c11 => ?_)
    · have hw := hw.1 c11
      exact J29 v_reached_j7 hw _ _ ls hP hD hS (lv_sub hl [0] rfl)
    · have hw := hw.2 c11
      refine lv_iload_n hx hb dX3_isOnePart_14 rfl (lv_at hl 1 rfl) ?_
      refine lv_if_eq (tgt := 29) hx hb dX3_isOnePart_15 (by decide) (fun c15 => ?_) (fun c15 => ?_)
      · have hw := hw.1 c15
        exact J29 v_reached_j7 hw _ _ ls hP hD hS (lv_sub hl [0] rfl)
      · have hw := hw.2 c15
        refine lv_aload_n hx hb dX3_isOnePart_18 rfl (lv_at hl 0 rfl) ?_
        refine af_i (X := (W_X3_isOnePart h a cI cJ cZ v_rows v_reached_j7)) (pl := []) (cx := (W_X3_reachFarther h a cI cJ cZ v_rows v_reached_j7)) (w1 := fun (u : (Nat → Int32)) => (W_X3_reachFarther h a cI cJ cZ v_rows u)) (X' := fun (u : (Nat → Int32)) => (W_X3_isOnePart h a cI cJ cZ v_rows u)) hP hD hS hA [0, 1, 2] [] [0, 1, 2] rfl rfl (by decide) (by decide) (fun u => rfl) (by decide) (va_runV (As := []) (rest := []) ⟨hx, hb, hml, hown, hts⟩ (c_X3_reachFarther l D cI cJ cZ cO h a H.size v_rows v_reached_j7 _ hw) (cwV 0 hts gX3_isOnePart_X3_reachFarther rfl rfl rfl (by decide +kernel) ⟨Nat.le_of_ble_eq_true rfl, Nat.le_of_ble_eq_true rfl⟩) (preV (X := (W_X3_isOnePart h a cI cJ cZ v_rows v_reached_j7)) (pl := []) (cx := (W_X3_reachFarther h a cI cJ cZ v_rows v_reached_j7)) (qb := 0) (ci := 4) hK hE hP hD [0, 1, 2] (by decide) rfl rfl rfl) rfl rfl hl.1 rfl (lv_room (Nat.le_of_ble_eq_true rfl)) dX3_isOnePart_19 ⟨Nat.zero_le _, Nat.zero_le _⟩) (fun r_19 v_reached_c19 H locs hw hP hD hS => ?_)
        try dsimp only at hw
        have hP : va_P D vwCl (W_X3_isOnePart h a cI cJ cZ v_rows v_reached_c19) H := hP
        have hD : va_D A (W_X3_isOnePart h a cI cJ cZ v_rows v_reached_c19) := hD
        refine lv_istore_n (lv' := [(1, .int r_19), (0, .ref h), (2, .int x2_j7)]) hx hb dX3_isOnePart_22 rfl hl (by decide) rfl (fun ls hl => ?_)
        refine lv_iinc (v := (x2_j7 + 1)) (lv' := [(2, .int (x2_j7 + 1)), (1, .int r_19), (0, .ref h)]) hx hb dX3_isOnePart_23 hl (k := 2) rfl rfl (by decide) rfl (fun ls hl => ?_)
        refine lv_goto (tgt := 7) hx hb dX3_isOnePart_26 (by decide) ?_
        exact ih7 (r_19, (x2_j7 + 1), v_reached_c19) hw _ _ ls hP hD hS (lv_sub hl [2, 1, 0] rfl)
  refine lv_aload_n hx hb dX3_isOnePart_0 rfl (lv_at hl 0 rfl) ?_
  refine af_i (X := (W_X3_isOnePart h a cI cJ cZ v_rows v_reached)) (pl := []) (cx := (W_X3_reachFirst h a cI cJ cZ v_rows v_reached)) (w1 := fun (u : (Nat → Int32)) => (W_X3_reachFirst h a cI cJ cZ v_rows u)) (X' := fun (u : (Nat → Int32)) => (W_X3_isOnePart h a cI cJ cZ v_rows u)) hP hD hS hA [0, 1, 2] [] [0, 1, 2] rfl rfl (by decide) (by decide) (fun u => rfl) (by decide) (va_runV (As := []) (rest := []) ⟨hx, hb, hml, hown, hts⟩ (c_X3_reachFirst l D cI cJ cZ cO h a H.size v_rows v_reached _ hw) (cwV 0 hts gX3_isOnePart_X3_reachFirst rfl rfl rfl (by decide +kernel) ⟨Nat.le_of_ble_eq_true rfl, Nat.le_of_ble_eq_true rfl⟩) (preV (X := (W_X3_isOnePart h a cI cJ cZ v_rows v_reached)) (pl := []) (cx := (W_X3_reachFirst h a cI cJ cZ v_rows v_reached)) (qb := 0) (ci := 4) hK hE hP hD [0, 1, 2] (by decide) rfl rfl rfl) rfl rfl hl.1 rfl (lv_room (Nat.le_of_ble_eq_true rfl)) dX3_isOnePart_1 ⟨Nat.zero_le _, Nat.zero_le _⟩) (fun r_1 v_reached_c1 H locs hw hP hD hS => ?_)
  try dsimp only at hw
  have hP : va_P D vwCl (W_X3_isOnePart h a cI cJ cZ v_rows v_reached_c1) H := hP
  have hD : va_D A (W_X3_isOnePart h a cI cJ cZ v_rows v_reached_c1) := hD
  refine lv_istore_n (lv' := [(1, .int r_1), (0, .ref h)]) hx hb dX3_isOnePart_4 rfl hl (by decide) rfl (fun ls hl => ?_)
  refine lv_iconst (v := 0) hx hb dX3_isOnePart_5 (by decide) ?_
  refine lv_istore_n (lv' := [(2, .int 0), (1, .int r_1), (0, .ref h)]) hx hb dX3_isOnePart_6 rfl hl (by decide) rfl (fun ls hl => ?_)
  exact L7 (r_1, 0, v_reached_c1) hw _ _ ls hP hD hS (lv_sub hl [2, 1, 0] rfl)
abbrev rm_X3_isGoodPart : Room := { frames := 4, cells := 0, slots := 0, locals := 84 }
abbrev W_X3_isGoodPart (h : Nat) (a : Nat → Nat) (cI cJ cZ : ClassId) (v_rows : Nat → Int32) (v_reached : Nat → Int32) : va_W := [(h, .inr (4, [.ref (a 0), .ref (a 1)])), ((a 0), .inl (cI, 16, .inl v_rows)), ((a 1), .inl (cI, 16, .inl v_reached))]
def wp_X3_isGoodPart (v_rows : Nat → Int32) (v_reached : Nat → Int32) (post : Int32 → (Nat → Int32) → Prop) : Prop := wp_X3_cutFault v_rows (fun r_1 => (r_1 = 0 → wp_X3_isOnePart v_rows v_reached (fun r_8 v_reached_c8 => (r_8 = 0 → post 0 v_reached_c8) ∧ (¬ r_8 = 0 → post 1 v_reached_c8))) ∧ (¬ r_1 = 0 → post 0 v_reached))
set_option maxHeartbeats 4000000 in
set_option maxRecDepth 100000 in
theorem c_X3_isGoodPart (l : Launch) (D : va_G) (cI cJ cZ cO : ClassId) (h : Nat) (a : Nat → Nat) (sz : Nat) (v_rows : Nat → Int32) (v_reached : Nat → Int32) (post : Int32 → (Nat → Int32) → Prop) (hw : wp_X3_isGoodPart v_rows v_reached post) : Met l yX3_isGoodPart wsX3_isGoodPart rm_X3_isGoodPart (va_Pc [.ref h] (PRE D cI cJ cZ cO (W_X3_isGoodPart h a cI cJ cZ v_rows v_reached) sz)) (va_Qi (fun r (u : (Nat → Int32)) => post r u) (fun u t => POST D (va_A (W_X3_isGoodPart h a cI cJ cZ v_rows v_reached) sz) (W_X3_isGoodPart h a cI cJ cZ v_rows u) t) (va_A (W_X3_isGoodPart h a cI cJ cZ v_rows v_reached) sz)) 0 0 (va_A (W_X3_isGoodPart h a cI cJ cZ v_rows v_reached) sz) := by
  refine met_go (cc := cX3_isGoodPart) (maxL := 1) (ret := some .boolean) RX3 rfl (by decide) rfl (Nat.le_of_ble_eq_true rfl) ?_
  intro p e s m args below meth c ls hx hb hr hts hown hlocks hin hml hsz hP hK hE hD hA hS hl
  have iRX3 : ∀ w ∈ u_ws RX3 TX3 2, w ∈ wsX3_isGoodPart := mem_seg 46 2 rfl
  generalize va_A (W_X3_isGoodPart h a cI cJ cZ v_rows v_reached) sz = A at hD hA hS ⊢
  have RT : ∀ (v : Int32) (u : (Nat → Int32)) (H : Heap) (locs : List Loc) (pc : Nat) (ls : Array Slot), decode cX3_isGoodPart pc = .ok (.ireturn, 1) → (v = 0 ∨ v = 1) → post v u → va_P D vwCl (W_X3_isGoodPart h a cI cJ cZ v_rows u) H → va_D A (W_X3_isGoodPart h a cI cJ cZ v_rows u) → va_S A s.heap H locs → W p l e rm_X3_isGoodPart s m args below meth c H locs 0 0 (MQ below (va_Qi (fun r (u : (Nat → Int32)) => post r u) (fun u t => POST D A (W_X3_isGoodPart h a cI cJ cZ v_rows u) t) A) args s 0 0 A) (F0 m pc ls [.int v]) := fun v u H locs pc ls d g0 g1 g2 g3 g4 => rt_z (Wf := fun u => (W_X3_isGoodPart h a cI cJ cZ v_rows u)) u hx hb hr hlocks g0 g1 g2 g3 g4 d
  generalize (MQ below (va_Qi (fun r (u : (Nat → Int32)) => post r u) (fun u t => POST D A (W_X3_isGoodPart h a cI cJ cZ v_rows u) t) A) args s 0 0 A) = QQ at RT ⊢
  have hl : lv_has ls 1 [(0, .ref h)] := hl
  have hP : va_P D vwCl (W_X3_isGoodPart h a cI cJ cZ v_rows v_reached) s.heap := hP
  unfold wp_X3_isGoodPart at hw
  suffices GO : ∀ (H : Heap) (locs : List Loc), va_P D vwCl (W_X3_isGoodPart h a cI cJ cZ v_rows v_reached) H → va_S A s.heap H locs → W p l e rm_X3_isGoodPart s m args below meth c H locs 0 0 QQ (F0 m 0 ls []) from GO _ _ hP hS
  clear hsz hP hS
  intro H locs hP hS
  refine lv_aload_n hx hb dX3_isGoodPart_0 rfl (lv_at hl 0 rfl) ?_
  refine af_i (X := (W_X3_isGoodPart h a cI cJ cZ v_rows v_reached)) (pl := []) (cx := (W_X3_cutFault h a cI cJ cZ v_rows)) (w1 := fun (u : Unit) => (W_X3_cutFault h a cI cJ cZ v_rows)) (X' := fun (u : Unit) => (W_X3_isGoodPart h a cI cJ cZ v_rows v_reached)) hP hD hS hA [0, 1] [2] [1, 2, 0] rfl rfl (by decide) (by decide) (fun u => rfl) (by decide) (va_runV (As := []) (rest := []) ⟨hx, hb, hml, hown, hts⟩ (c_X3_cutFault l D cI cJ cZ cO h a H.size v_rows _ hw) (cwV 0 hts gX3_isGoodPart_X3_cutFault rfl rfl rfl (by decide +kernel) ⟨Nat.le_of_ble_eq_true rfl, Nat.le_of_ble_eq_true rfl⟩) (preV (X := (W_X3_isGoodPart h a cI cJ cZ v_rows v_reached)) (pl := []) (cx := (W_X3_cutFault h a cI cJ cZ v_rows)) (qb := 0) (ci := 4) hK hE hP hD [0, 1] (by decide) rfl rfl rfl) rfl rfl hl.1 rfl (lv_room (Nat.le_of_ble_eq_true rfl)) dX3_isGoodPart_1 ⟨Nat.zero_le _, Nat.zero_le _⟩) (fun r_1 _ H locs hw hP hD hS => ?_)
  try dsimp only at hw
  have hP : va_P D vwCl (W_X3_isGoodPart h a cI cJ cZ v_rows v_reached) H := hP
  have hD : va_D A (W_X3_isGoodPart h a cI cJ cZ v_rows v_reached) := hD
  refine lv_if_ne (tgt := 18) hx hb dX3_isGoodPart_4 (by decide) (fun c4 => ?_) (fun c4 => ?_)
  · have hw := hw.2 c4
    refine lv_iconst (v := 0) hx hb dX3_isGoodPart_18 (by decide) ?_
    exact RT 0 v_reached _ _ _ _ dX3_isGoodPart_19 (Or.inl rfl) hw hP hD hS
  · have hw := hw.1 c4
    refine lv_aload_n hx hb dX3_isGoodPart_7 rfl (lv_at hl 0 rfl) ?_
    refine af_i (X := (W_X3_isGoodPart h a cI cJ cZ v_rows v_reached)) (pl := []) (cx := (W_X3_isOnePart h a cI cJ cZ v_rows v_reached)) (w1 := fun (u : (Nat → Int32)) => (W_X3_isOnePart h a cI cJ cZ v_rows u)) (X' := fun (u : (Nat → Int32)) => (W_X3_isGoodPart h a cI cJ cZ v_rows u)) hP hD hS hA [0, 1, 2] [] [0, 1, 2] rfl rfl (by decide) (by decide) (fun u => rfl) (by decide) (va_runV (As := []) (rest := []) ⟨hx, hb, hml, hown, hts⟩ (c_X3_isOnePart l D cI cJ cZ cO h a H.size v_rows v_reached _ hw) (cwV 0 hts gX3_isGoodPart_X3_isOnePart rfl rfl rfl (by decide +kernel) ⟨Nat.le_of_ble_eq_true rfl, Nat.le_of_ble_eq_true rfl⟩) (preV (X := (W_X3_isGoodPart h a cI cJ cZ v_rows v_reached)) (pl := []) (cx := (W_X3_isOnePart h a cI cJ cZ v_rows v_reached)) (qb := 0) (ci := 4) hK hE hP hD [0, 1, 2] (by decide) rfl rfl rfl) rfl rfl hl.1 rfl (lv_room (Nat.le_of_ble_eq_true rfl)) dX3_isGoodPart_8 ⟨Nat.zero_le _, Nat.zero_le _⟩) (fun r_8 v_reached_c8 H locs hw hP hD hS => ?_)
    try dsimp only at hw
    have hP : va_P D vwCl (W_X3_isGoodPart h a cI cJ cZ v_rows v_reached_c8) H := hP
    have hD : va_D A (W_X3_isGoodPart h a cI cJ cZ v_rows v_reached_c8) := hD
    refine lv_if_eq (tgt := 18) hx hb dX3_isGoodPart_11 (by decide) (fun c11 => ?_) (fun c11 => ?_)
    · have hw := hw.1 c11
      refine lv_iconst (v := 0) hx hb dX3_isGoodPart_18 (by decide) ?_
      exact RT 0 v_reached_c8 _ _ _ _ dX3_isGoodPart_19 (Or.inl rfl) hw hP hD hS
    · have hw := hw.2 c11
      refine lv_iconst (v := 1) hx hb dX3_isGoodPart_14 (by decide) ?_
      refine lv_goto (tgt := 19) hx hb dX3_isGoodPart_15 (by decide) ?_
      exact RT 1 v_reached_c8 _ _ _ _ dX3_isGoodPart_19 (Or.inr rfl) hw hP hD hS
