/-! printed by wip/whole/gen: X3_cellCount X3_height X3_width X3_sidesBehindRow X3_sidesBehindColumn X3_sidesAlong X3_hasGap X3_squaresBelow X3_isThin X3_cutFault -/
abbrev rm_X3_cellCount : Room := { frames := 1, cells := 0, slots := 0, locals := 20 }
abbrev W_X3_cellCount (h : Nat) (a : Nat → Nat) (cI cJ cZ : ClassId) (v_rows : Nat → Int32) : va_W := [(h, .inr (4, [.ref (a 0), .ref (a 1)])), ((a 0), .inl (cI, 16, .inl v_rows))]
def wp_X3_cellCount_13 (v_rows : Nat → Int32) (post : Int32 → Prop) (K13 : Int32 → Int32 → Int32 → Prop) (x1_j13 : Int32) (x3_j13 : Int32) (x4_j13 : Int32) : Prop := (x3_j13 ≤ x4_j13 → post x1_j13) ∧ (¬ x3_j13 ≤ x4_j13 → vp_in x4_j13 16 ∧ (wp_J6_bitCount_0f7a4 (v_rows x4_j13.toNatClampNeg) (fun r_28 => K13 (x1_j13 + r_28) x3_j13 (x4_j13 + 1))))
def lF_X3_cellCount_13 (v_rows : Nat → Int32) (post : Int32 → Prop) : ((Int32 × Int32 × Int32) → Prop) → (Int32 × Int32 × Int32) → Prop := fun K s => wp_X3_cellCount_13 v_rows post (fun b0 b1 b2 => K (b0, b1, b2)) s.1 s.2.1 s.2.2
def wp_X3_cellCount (v_rows : Nat → Int32) (post : Int32 → Prop) : Prop := lp (lF_X3_cellCount_13 v_rows post) (0, 16, 0)
set_option maxHeartbeats 4000000 in
set_option maxRecDepth 100000 in
theorem c_X3_cellCount (l : Launch) (D : va_G) (cI cJ cZ cO : ClassId) (h : Nat) (a : Nat → Nat) (sz : Nat) (v_rows : Nat → Int32) (post : Int32 → Prop) (hw : wp_X3_cellCount v_rows post) : Met l yX3_cellCount wsX3_cellCount rm_X3_cellCount (va_Pc [.ref h] (PRE D cI cJ cZ cO (W_X3_cellCount h a cI cJ cZ v_rows) sz)) (va_Qi (fun r (_ : Unit) => post r) (fun u t => POST D (va_A (W_X3_cellCount h a cI cJ cZ v_rows) sz) (W_X3_cellCount h a cI cJ cZ v_rows) t) (va_A (W_X3_cellCount h a cI cJ cZ v_rows) sz)) 0 0 (va_A (W_X3_cellCount h a cI cJ cZ v_rows) sz) := by
  refine met_go (cc := cX3_cellCount) (maxL := 6) (ret := some .int) RX3 rfl (by decide) rfl (Nat.le_of_ble_eq_true rfl) ?_
  intro p e s m args below meth c ls hx hb hr hts hown hlocks hin hml hsz hP hK hE hD hA hS hl
  have iRX3 : ∀ w ∈ u_ws RX3 TX3 2, w ∈ wsX3_cellCount := mem_seg 9 2 rfl
  generalize va_A (W_X3_cellCount h a cI cJ cZ v_rows) sz = A at hD hA hS ⊢
  have RT : ∀ (v : Int32) (u : Unit) (H : Heap) (locs : List Loc) (pc : Nat) (ls : Array Slot), decode cX3_cellCount pc = .ok (.ireturn, 1) → post v → va_P D vwCl (W_X3_cellCount h a cI cJ cZ v_rows) H → va_D A (W_X3_cellCount h a cI cJ cZ v_rows) → va_S A s.heap H locs → W p l e rm_X3_cellCount s m args below meth c H locs 0 0 (MQ below (va_Qi (fun r (_ : Unit) => post r) (fun u t => POST D A (W_X3_cellCount h a cI cJ cZ v_rows) t) A) args s 0 0 A) (F0 m pc ls [.int v]) := fun v u H locs pc ls d g1 g2 g3 g4 => rt_i (Wf := fun u => (W_X3_cellCount h a cI cJ cZ v_rows)) u hx hb hr hlocks g1 g2 g3 g4 d
  generalize (MQ below (va_Qi (fun r (_ : Unit) => post r) (fun u t => POST D A (W_X3_cellCount h a cI cJ cZ v_rows) t) A) args s 0 0 A) = QQ at RT ⊢
  have hl : lv_has ls 6 [(0, .ref h)] := hl
  have hP : va_P D vwCl (W_X3_cellCount h a cI cJ cZ v_rows) s.heap := hP
  unfold wp_X3_cellCount at hw
  suffices GO : ∀ (H : Heap) (locs : List Loc), va_P D vwCl (W_X3_cellCount h a cI cJ cZ v_rows) H → va_S A s.heap H locs → W p l e rm_X3_cellCount s m args below meth c H locs 0 0 QQ (F0 m 0 ls []) from GO _ _ hP hS
  clear hsz hP hS
  intro H locs hP hS
  have L13 : ∀ s0 : (Int32 × Int32 × Int32), lp (lF_X3_cellCount_13 v_rows post) s0 → ∀ (H : Heap) (locs : List Loc) (ls : Array Slot), va_P D vwCl (W_X3_cellCount h a cI cJ cZ v_rows) H → va_D A (W_X3_cellCount h a cI cJ cZ v_rows) → va_S A s.heap H locs → lv_has ls 6 [(1, .int s0.1), (2, .ref (a 0)), (3, .int s0.2.1), (4, .int s0.2.2)] → W p l e rm_X3_cellCount s m args below meth c H locs 0 0 QQ (F0 m 13 ls []) := by
    refine lp_elim (fun K13 ih13 s0 hw => ?_)
    obtain ⟨x1_j13, x3_j13, x4_j13⟩ := s0
    intro H locs ls hP hD hS hl
    have hw : wp_X3_cellCount_13 v_rows post (fun b0 b1 b2 => K13 (b0, b1, b2)) x1_j13 x3_j13 x4_j13 := hw
    have hP : va_P D vwCl (W_X3_cellCount h a cI cJ cZ v_rows) H := hP
    have hD : va_D A (W_X3_cellCount h a cI cJ cZ v_rows) := hD
    have hl : lv_has ls 6 [(1, .int x1_j13), (2, .ref (a 0)), (3, .int x3_j13), (4, .int x4_j13)] := hl
    unfold wp_X3_cellCount_13 at hw
    refine lv_iload hx hb dX3_cellCount_13 (lv_at hl 3 rfl) ?_
    refine lv_iload_n hx hb dX3_cellCount_15 rfl (lv_at hl 2 rfl) ?_
    refine lv_icmp_ge (tgt := 39) hx hb dX3_cellCount_16 (by decide) (fun c16 => ?_) (fun c16 => ?_)
    · have hw := hw.1 c16
      refine lv_iload_n hx hb dX3_cellCount_39 rfl (lv_at hl 0 rfl) ?_
      exact RT x1_j13 () _ _ _ _ dX3_cellCount_40 hw hP hD hS
    · have hw := hw.2 c16
      refine lv_aload_n hx hb dX3_cellCount_19 rfl (lv_at hl 1 rfl) ?_
      refine lv_iload hx hb dX3_cellCount_20 (lv_at hl 3 rfl) ?_
      obtain ⟨hi_22, hw⟩ := hw
      refine va_iald hx hb hK hP 1 0 rfl rfl hi_22 dX3_cellCount_22 ?_
      refine lv_istore (lv' := [(5, .int (v_rows x4_j13.toNatClampNeg)), (1, .int x1_j13), (2, .ref (a 0)), (3, .int x3_j13), (4, .int x4_j13)]) hx hb dX3_cellCount_23 hl (by decide) rfl (fun ls hl => ?_)
      refine lv_iload_n hx hb dX3_cellCount_25 rfl (lv_at hl 1 rfl) ?_
      refine lv_iload hx hb dX3_cellCount_26 (lv_at hl 0 rfl) ?_
      refine af_i (X := (W_X3_cellCount h a cI cJ cZ v_rows)) (pl := []) (cx := ([] : va_W)) (w1 := fun (u : Unit) => ([] : va_W)) (X' := fun (u : Unit) => (W_X3_cellCount h a cI cJ cZ v_rows)) hP hD hS hA [] [0, 1] [0, 1] rfl rfl (by decide) (by decide) (fun u => rfl) (by decide) (va_runS (As := [.int (v_rows x4_j13.toNatClampNeg)]) (rest := [.int x1_j13]) ⟨hx, hb, hml, hown, hts⟩ (c_J6_bitCount_0f7a4 l D cI cJ cZ cO H.size (v_rows x4_j13.toNatClampNeg) _ hw) (va_cwS 1 hts gX3_cellCount_J6_bitCount_0f7a4 rfl rfl rfl (by decide +kernel) ⟨Nat.le_of_ble_eq_true rfl, Nat.le_of_ble_eq_true rfl⟩) (preS (X := (W_X3_cellCount h a cI cJ cZ v_rows)) (pl := []) (cx := ([] : va_W)) hK hE hP hD [] (by decide) rfl) rfl rfl hl.1 rfl (lv_room (Nat.le_of_ble_eq_true rfl)) dX3_cellCount_28 ⟨Nat.zero_le _, Nat.zero_le _⟩) (fun r_28 _ H locs hw hP hD hS => ?_)
      try dsimp only at hw
      have hP : va_P D vwCl (W_X3_cellCount h a cI cJ cZ v_rows) H := hP
      have hD : va_D A (W_X3_cellCount h a cI cJ cZ v_rows) := hD
      refine lv_iadd hx hb dX3_cellCount_31 ?_
      refine lv_istore_n (lv' := [(1, .int (x1_j13 + r_28)), (5, .int (v_rows x4_j13.toNatClampNeg)), (2, .ref (a 0)), (3, .int x3_j13), (4, .int x4_j13)]) hx hb dX3_cellCount_32 rfl hl (by decide) rfl (fun ls hl => ?_)
      refine lv_iinc (v := (x4_j13 + 1)) (lv' := [(4, .int (x4_j13 + 1)), (1, .int (x1_j13 + r_28)), (5, .int (v_rows x4_j13.toNatClampNeg)), (2, .ref (a 0)), (3, .int x3_j13)]) hx hb dX3_cellCount_33 hl (k := 4) rfl rfl (by decide) rfl (fun ls hl => ?_)
      refine lv_goto (tgt := 13) hx hb dX3_cellCount_36 (by decide) ?_
      exact ih13 ((x1_j13 + r_28), x3_j13, (x4_j13 + 1)) hw _ _ ls hP hD hS (lv_sub hl [1, 3, 4, 0] rfl)
  refine lv_iconst (v := 0) hx hb dX3_cellCount_0 (by decide) ?_
  refine lv_istore_n (lv' := [(1, .int 0), (0, .ref h)]) hx hb dX3_cellCount_1 rfl hl (by decide) rfl (fun ls hl => ?_)
  refine lv_aload_n hx hb dX3_cellCount_2 rfl (lv_at hl 1 rfl) ?_
  refine va_get (D := D) (ci := 4) (v := .ref (a 0)) (C := RX3) (T := TX3) (N := 2) hx hb hts iRX3 hown hK hP 0 rfl rfl 0 (by decide) (hts (.fieldLink RX3 9 "Leadlight$Shape" "rows" "[I") (List.mem_of_getElem? (i := 1) rfl)) (fun _ h9 => h9) rfl dX3_cellCount_3 ?_
  refine lv_astore_n (lv' := [(2, .ref (a 0)), (1, .int 0), (0, .ref h)]) hx hb dX3_cellCount_6 rfl hl (by decide) rfl (fun ls hl => ?_)
  refine lv_aload_n hx hb dX3_cellCount_7 rfl (lv_at hl 0 rfl) ?_
  refine va_alen (v := 16) hx hb hK hP 1 0 rfl rfl rfl dX3_cellCount_8 ?_
  refine lv_istore_n (lv' := [(3, .int 16), (2, .ref (a 0)), (1, .int 0), (0, .ref h)]) hx hb dX3_cellCount_9 rfl hl (by decide) rfl (fun ls hl => ?_)
  refine lv_iconst (v := 0) hx hb dX3_cellCount_10 (by decide) ?_
  refine lv_istore (lv' := [(4, .int 0), (3, .int 16), (2, .ref (a 0)), (1, .int 0), (0, .ref h)]) hx hb dX3_cellCount_11 hl (by decide) rfl (fun ls hl => ?_)
  exact L13 (0, 16, 0) hw _ _ ls hP hD hS (lv_sub hl [3, 2, 1, 0] rfl)
abbrev rm_X3_height : Room := { frames := 0, cells := 0, slots := 0, locals := 0 }
abbrev W_X3_height (h : Nat) (a : Nat → Nat) (cI cJ cZ : ClassId) (v_rows : Nat → Int32) : va_W := [(h, .inr (4, [.ref (a 0), .ref (a 1)])), ((a 0), .inl (cI, 16, .inl v_rows))]
def wp_X3_height_13 (v_rows : Nat → Int32) (post : Int32 → Prop) (K13 : Int32 → Int32 → Int32 → Prop) (x1_j13 : Int32) (x3_j13 : Int32) (x4_j13 : Int32) : Prop := (x3_j13 ≤ x4_j13 → post x1_j13) ∧ (¬ x3_j13 ≤ x4_j13 → vp_in x4_j13 16 ∧ (((v_rows x4_j13.toNatClampNeg) = 0 → K13 x1_j13 x3_j13 (x4_j13 + 1)) ∧ (¬ (v_rows x4_j13.toNatClampNeg) = 0 → K13 (x1_j13 + 1) x3_j13 (x4_j13 + 1))))
def lF_X3_height_13 (v_rows : Nat → Int32) (post : Int32 → Prop) : ((Int32 × Int32 × Int32) → Prop) → (Int32 × Int32 × Int32) → Prop := fun K s => wp_X3_height_13 v_rows post (fun b0 b1 b2 => K (b0, b1, b2)) s.1 s.2.1 s.2.2
def wp_X3_height (v_rows : Nat → Int32) (post : Int32 → Prop) : Prop := lp (lF_X3_height_13 v_rows post) (0, 16, 0)
set_option maxHeartbeats 4000000 in
set_option maxRecDepth 100000 in
theorem c_X3_height (l : Launch) (D : va_G) (cI cJ cZ cO : ClassId) (h : Nat) (a : Nat → Nat) (sz : Nat) (v_rows : Nat → Int32) (post : Int32 → Prop) (hw : wp_X3_height v_rows post) : Met l yX3_height wsX3_height rm_X3_height (va_Pc [.ref h] (PRE D cI cJ cZ cO (W_X3_height h a cI cJ cZ v_rows) sz)) (va_Qi (fun r (_ : Unit) => post r) (fun u t => POST D (va_A (W_X3_height h a cI cJ cZ v_rows) sz) (W_X3_height h a cI cJ cZ v_rows) t) (va_A (W_X3_height h a cI cJ cZ v_rows) sz)) 0 0 (va_A (W_X3_height h a cI cJ cZ v_rows) sz) := by
  refine met_go (cc := cX3_height) (maxL := 6) (ret := some .int) RX3 rfl (by decide) rfl (Nat.le_of_ble_eq_true rfl) ?_
  intro p e s m args below meth c ls hx hb hr hts hown hlocks hin hml hsz hP hK hE hD hA hS hl
  have iRX3 : ∀ w ∈ u_ws RX3 TX3 2, w ∈ wsX3_height := mem_seg 2 2 rfl
  generalize va_A (W_X3_height h a cI cJ cZ v_rows) sz = A at hD hA hS ⊢
  have RT : ∀ (v : Int32) (u : Unit) (H : Heap) (locs : List Loc) (pc : Nat) (ls : Array Slot), decode cX3_height pc = .ok (.ireturn, 1) → post v → va_P D vwCl (W_X3_height h a cI cJ cZ v_rows) H → va_D A (W_X3_height h a cI cJ cZ v_rows) → va_S A s.heap H locs → W p l e rm_X3_height s m args below meth c H locs 0 0 (MQ below (va_Qi (fun r (_ : Unit) => post r) (fun u t => POST D A (W_X3_height h a cI cJ cZ v_rows) t) A) args s 0 0 A) (F0 m pc ls [.int v]) := fun v u H locs pc ls d g1 g2 g3 g4 => rt_i (Wf := fun u => (W_X3_height h a cI cJ cZ v_rows)) u hx hb hr hlocks g1 g2 g3 g4 d
  generalize (MQ below (va_Qi (fun r (_ : Unit) => post r) (fun u t => POST D A (W_X3_height h a cI cJ cZ v_rows) t) A) args s 0 0 A) = QQ at RT ⊢
  have hl : lv_has ls 6 [(0, .ref h)] := hl
  have hP : va_P D vwCl (W_X3_height h a cI cJ cZ v_rows) s.heap := hP
  unfold wp_X3_height at hw
  suffices GO : ∀ (H : Heap) (locs : List Loc), va_P D vwCl (W_X3_height h a cI cJ cZ v_rows) H → va_S A s.heap H locs → W p l e rm_X3_height s m args below meth c H locs 0 0 QQ (F0 m 0 ls []) from GO _ _ hP hS
  clear hsz hP hS
  intro H locs hP hS
  have L13 : ∀ s0 : (Int32 × Int32 × Int32), lp (lF_X3_height_13 v_rows post) s0 → ∀ (H : Heap) (locs : List Loc) (ls : Array Slot), va_P D vwCl (W_X3_height h a cI cJ cZ v_rows) H → va_D A (W_X3_height h a cI cJ cZ v_rows) → va_S A s.heap H locs → lv_has ls 6 [(1, .int s0.1), (2, .ref (a 0)), (3, .int s0.2.1), (4, .int s0.2.2)] → W p l e rm_X3_height s m args below meth c H locs 0 0 QQ (F0 m 13 ls []) := by
    refine lp_elim (fun K13 ih13 s0 hw => ?_)
    obtain ⟨x1_j13, x3_j13, x4_j13⟩ := s0
    intro H locs ls hP hD hS hl
    have hw : wp_X3_height_13 v_rows post (fun b0 b1 b2 => K13 (b0, b1, b2)) x1_j13 x3_j13 x4_j13 := hw
    have hP : va_P D vwCl (W_X3_height h a cI cJ cZ v_rows) H := hP
    have hD : va_D A (W_X3_height h a cI cJ cZ v_rows) := hD
    have hl : lv_has ls 6 [(1, .int x1_j13), (2, .ref (a 0)), (3, .int x3_j13), (4, .int x4_j13)] := hl
    unfold wp_X3_height_13 at hw
    refine lv_iload hx hb dX3_height_13 (lv_at hl 3 rfl) ?_
    refine lv_iload_n hx hb dX3_height_15 rfl (lv_at hl 2 rfl) ?_
    refine lv_icmp_ge (tgt := 39) hx hb dX3_height_16 (by decide) (fun c16 => ?_) (fun c16 => ?_)
    · have hw := hw.1 c16
      refine lv_iload_n hx hb dX3_height_39 rfl (lv_at hl 0 rfl) ?_
      exact RT x1_j13 () _ _ _ _ dX3_height_40 hw hP hD hS
    · have hw := hw.2 c16
      refine lv_aload_n hx hb dX3_height_19 rfl (lv_at hl 1 rfl) ?_
      refine lv_iload hx hb dX3_height_20 (lv_at hl 3 rfl) ?_
      obtain ⟨hi_22, hw⟩ := hw
      refine va_iald hx hb hK hP 1 0 rfl rfl hi_22 dX3_height_22 ?_
      refine lv_istore (lv' := [(5, .int (v_rows x4_j13.toNatClampNeg)), (1, .int x1_j13), (2, .ref (a 0)), (3, .int x3_j13), (4, .int x4_j13)]) hx hb dX3_height_23 hl (by decide) rfl (fun ls hl => ?_)
      refine lv_iload hx hb dX3_height_25 (lv_at hl 0 rfl) ?_
      refine lv_if_eq (tgt := 33) hx hb dX3_height_27 (by decide) (fun c27 => ?_) (fun c27 => ?_)
      · have hw := hw.1 c27
        refine lv_iinc (v := (x4_j13 + 1)) (lv' := [(4, .int (x4_j13 + 1)), (5, .int (v_rows x4_j13.toNatClampNeg)), (1, .int x1_j13), (2, .ref (a 0)), (3, .int x3_j13)]) hx hb dX3_height_33 hl (k := 4) rfl rfl (by decide) rfl (fun ls hl => ?_)
        refine lv_goto (tgt := 13) hx hb dX3_height_36 (by decide) ?_
        exact ih13 (x1_j13, x3_j13, (x4_j13 + 1)) hw _ _ ls hP hD hS (lv_sub hl [2, 3, 4, 0] rfl)
      · have hw := hw.2 c27
        refine lv_iinc (v := (x1_j13 + 1)) (lv' := [(1, .int (x1_j13 + 1)), (5, .int (v_rows x4_j13.toNatClampNeg)), (2, .ref (a 0)), (3, .int x3_j13), (4, .int x4_j13)]) hx hb dX3_height_30 hl (k := 1) rfl rfl (by decide) rfl (fun ls hl => ?_)
        refine lv_iinc (v := (x4_j13 + 1)) (lv' := [(4, .int (x4_j13 + 1)), (1, .int (x1_j13 + 1)), (5, .int (v_rows x4_j13.toNatClampNeg)), (2, .ref (a 0)), (3, .int x3_j13)]) hx hb dX3_height_33 hl (k := 4) rfl rfl (by decide) rfl (fun ls hl => ?_)
        refine lv_goto (tgt := 13) hx hb dX3_height_36 (by decide) ?_
        exact ih13 ((x1_j13 + 1), x3_j13, (x4_j13 + 1)) hw _ _ ls hP hD hS (lv_sub hl [1, 3, 4, 0] rfl)
  refine lv_iconst (v := 0) hx hb dX3_height_0 (by decide) ?_
  refine lv_istore_n (lv' := [(1, .int 0), (0, .ref h)]) hx hb dX3_height_1 rfl hl (by decide) rfl (fun ls hl => ?_)
  refine lv_aload_n hx hb dX3_height_2 rfl (lv_at hl 1 rfl) ?_
  refine va_get (D := D) (ci := 4) (v := .ref (a 0)) (C := RX3) (T := TX3) (N := 2) hx hb hts iRX3 hown hK hP 0 rfl rfl 0 (by decide) (hts (.fieldLink RX3 9 "Leadlight$Shape" "rows" "[I") (List.mem_of_getElem? (i := 1) rfl)) (fun _ h9 => h9) rfl dX3_height_3 ?_
  refine lv_astore_n (lv' := [(2, .ref (a 0)), (1, .int 0), (0, .ref h)]) hx hb dX3_height_6 rfl hl (by decide) rfl (fun ls hl => ?_)
  refine lv_aload_n hx hb dX3_height_7 rfl (lv_at hl 0 rfl) ?_
  refine va_alen (v := 16) hx hb hK hP 1 0 rfl rfl rfl dX3_height_8 ?_
  refine lv_istore_n (lv' := [(3, .int 16), (2, .ref (a 0)), (1, .int 0), (0, .ref h)]) hx hb dX3_height_9 rfl hl (by decide) rfl (fun ls hl => ?_)
  refine lv_iconst (v := 0) hx hb dX3_height_10 (by decide) ?_
  refine lv_istore (lv' := [(4, .int 0), (3, .int 16), (2, .ref (a 0)), (1, .int 0), (0, .ref h)]) hx hb dX3_height_11 hl (by decide) rfl (fun ls hl => ?_)
  exact L13 (0, 16, 0) hw _ _ ls hP hD hS (lv_sub hl [3, 2, 1, 0] rfl)
abbrev rm_X3_width : Room := { frames := 1, cells := 0, slots := 0, locals := 20 }
abbrev W_X3_width (h : Nat) (a : Nat → Nat) (cI cJ cZ : ClassId) (v_rows : Nat → Int32) : va_W := [(h, .inr (4, [.ref (a 0), .ref (a 1)])), ((a 0), .inl (cI, 16, .inl v_rows))]
def wp_X3_width_13 (v_rows : Nat → Int32) (post : Int32 → Prop) (K13 : Int32 → Int32 → Int32 → Prop) (x1_j13 : Int32) (x3_j13 : Int32) (x4_j13 : Int32) : Prop := (x3_j13 ≤ x4_j13 → wp_J6_bitCount_0f7a4 x1_j13 (fun r_37 => post r_37)) ∧ (¬ x3_j13 ≤ x4_j13 → vp_in x4_j13 16 ∧ (∀ y1_29 : Int32, y1_29 = (x1_j13 ||| (v_rows x4_j13.toNatClampNeg)) → K13 y1_29 x3_j13 (x4_j13 + 1)))
def lF_X3_width_13 (v_rows : Nat → Int32) (post : Int32 → Prop) : ((Int32 × Int32 × Int32) → Prop) → (Int32 × Int32 × Int32) → Prop := fun K s => wp_X3_width_13 v_rows post (fun b0 b1 b2 => K (b0, b1, b2)) s.1 s.2.1 s.2.2
def wp_X3_width (v_rows : Nat → Int32) (post : Int32 → Prop) : Prop := lp (lF_X3_width_13 v_rows post) (0, 16, 0)
set_option maxHeartbeats 4000000 in
set_option maxRecDepth 100000 in
theorem c_X3_width (l : Launch) (D : va_G) (cI cJ cZ cO : ClassId) (h : Nat) (a : Nat → Nat) (sz : Nat) (v_rows : Nat → Int32) (post : Int32 → Prop) (hw : wp_X3_width v_rows post) : Met l yX3_width wsX3_width rm_X3_width (va_Pc [.ref h] (PRE D cI cJ cZ cO (W_X3_width h a cI cJ cZ v_rows) sz)) (va_Qi (fun r (_ : Unit) => post r) (fun u t => POST D (va_A (W_X3_width h a cI cJ cZ v_rows) sz) (W_X3_width h a cI cJ cZ v_rows) t) (va_A (W_X3_width h a cI cJ cZ v_rows) sz)) 0 0 (va_A (W_X3_width h a cI cJ cZ v_rows) sz) := by
  refine met_go (cc := cX3_width) (maxL := 6) (ret := some .int) RX3 rfl (by decide) rfl (Nat.le_of_ble_eq_true rfl) ?_
  intro p e s m args below meth c ls hx hb hr hts hown hlocks hin hml hsz hP hK hE hD hA hS hl
  have iRX3 : ∀ w ∈ u_ws RX3 TX3 2, w ∈ wsX3_width := mem_seg 9 2 rfl
  generalize va_A (W_X3_width h a cI cJ cZ v_rows) sz = A at hD hA hS ⊢
  have RT : ∀ (v : Int32) (u : Unit) (H : Heap) (locs : List Loc) (pc : Nat) (ls : Array Slot), decode cX3_width pc = .ok (.ireturn, 1) → post v → va_P D vwCl (W_X3_width h a cI cJ cZ v_rows) H → va_D A (W_X3_width h a cI cJ cZ v_rows) → va_S A s.heap H locs → W p l e rm_X3_width s m args below meth c H locs 0 0 (MQ below (va_Qi (fun r (_ : Unit) => post r) (fun u t => POST D A (W_X3_width h a cI cJ cZ v_rows) t) A) args s 0 0 A) (F0 m pc ls [.int v]) := fun v u H locs pc ls d g1 g2 g3 g4 => rt_i (Wf := fun u => (W_X3_width h a cI cJ cZ v_rows)) u hx hb hr hlocks g1 g2 g3 g4 d
  generalize (MQ below (va_Qi (fun r (_ : Unit) => post r) (fun u t => POST D A (W_X3_width h a cI cJ cZ v_rows) t) A) args s 0 0 A) = QQ at RT ⊢
  have hl : lv_has ls 6 [(0, .ref h)] := hl
  have hP : va_P D vwCl (W_X3_width h a cI cJ cZ v_rows) s.heap := hP
  unfold wp_X3_width at hw
  suffices GO : ∀ (H : Heap) (locs : List Loc), va_P D vwCl (W_X3_width h a cI cJ cZ v_rows) H → va_S A s.heap H locs → W p l e rm_X3_width s m args below meth c H locs 0 0 QQ (F0 m 0 ls []) from GO _ _ hP hS
  clear hsz hP hS
  intro H locs hP hS
  have L13 : ∀ s0 : (Int32 × Int32 × Int32), lp (lF_X3_width_13 v_rows post) s0 → ∀ (H : Heap) (locs : List Loc) (ls : Array Slot), va_P D vwCl (W_X3_width h a cI cJ cZ v_rows) H → va_D A (W_X3_width h a cI cJ cZ v_rows) → va_S A s.heap H locs → lv_has ls 6 [(1, .int s0.1), (2, .ref (a 0)), (3, .int s0.2.1), (4, .int s0.2.2)] → W p l e rm_X3_width s m args below meth c H locs 0 0 QQ (F0 m 13 ls []) := by
    refine lp_elim (fun K13 ih13 s0 hw => ?_)
    obtain ⟨x1_j13, x3_j13, x4_j13⟩ := s0
    intro H locs ls hP hD hS hl
    have hw : wp_X3_width_13 v_rows post (fun b0 b1 b2 => K13 (b0, b1, b2)) x1_j13 x3_j13 x4_j13 := hw
    have hP : va_P D vwCl (W_X3_width h a cI cJ cZ v_rows) H := hP
    have hD : va_D A (W_X3_width h a cI cJ cZ v_rows) := hD
    have hl : lv_has ls 6 [(1, .int x1_j13), (2, .ref (a 0)), (3, .int x3_j13), (4, .int x4_j13)] := hl
    unfold wp_X3_width_13 at hw
    refine lv_iload hx hb dX3_width_13 (lv_at hl 3 rfl) ?_
    refine lv_iload_n hx hb dX3_width_15 rfl (lv_at hl 2 rfl) ?_
    refine lv_icmp_ge (tgt := 36) hx hb dX3_width_16 (by decide) (fun c16 => ?_) (fun c16 => ?_)
    · have hw := hw.1 c16
      refine lv_iload_n hx hb dX3_width_36 rfl (lv_at hl 0 rfl) ?_
      refine af_i (X := (W_X3_width h a cI cJ cZ v_rows)) (pl := []) (cx := ([] : va_W)) (w1 := fun (u : Unit) => ([] : va_W)) (X' := fun (u : Unit) => (W_X3_width h a cI cJ cZ v_rows)) hP hD hS hA [] [0, 1] [0, 1] rfl rfl (by decide) (by decide) (fun u => rfl) (by decide) (va_runS (As := [.int x1_j13]) (rest := []) ⟨hx, hb, hml, hown, hts⟩ (c_J6_bitCount_0f7a4 l D cI cJ cZ cO H.size x1_j13 _ hw) (va_cwS 1 hts gX3_width_J6_bitCount_0f7a4 rfl rfl rfl (by decide +kernel) ⟨Nat.le_of_ble_eq_true rfl, Nat.le_of_ble_eq_true rfl⟩) (preS (X := (W_X3_width h a cI cJ cZ v_rows)) (pl := []) (cx := ([] : va_W)) hK hE hP hD [] (by decide) rfl) rfl rfl hl.1 rfl (lv_room (Nat.le_of_ble_eq_true rfl)) dX3_width_37 ⟨Nat.zero_le _, Nat.zero_le _⟩) (fun r_37 _ H locs hw hP hD hS => ?_)
      try dsimp only at hw
      have hP : va_P D vwCl (W_X3_width h a cI cJ cZ v_rows) H := hP
      have hD : va_D A (W_X3_width h a cI cJ cZ v_rows) := hD
      exact RT r_37 () _ _ _ _ dX3_width_40 hw hP hD hS
    · have hw := hw.2 c16
      refine lv_aload_n hx hb dX3_width_19 rfl (lv_at hl 1 rfl) ?_
      refine lv_iload hx hb dX3_width_20 (lv_at hl 3 rfl) ?_
      obtain ⟨hi_22, hw⟩ := hw
      refine va_iald hx hb hK hP 1 0 rfl rfl hi_22 dX3_width_22 ?_
      refine lv_istore (lv' := [(5, .int (v_rows x4_j13.toNatClampNeg)), (1, .int x1_j13), (2, .ref (a 0)), (3, .int x3_j13), (4, .int x4_j13)]) hx hb dX3_width_23 hl (by decide) rfl (fun ls hl => ?_)
      refine lv_iload_n hx hb dX3_width_25 rfl (lv_at hl 1 rfl) ?_
      refine lv_iload hx hb dX3_width_26 (lv_at hl 0 rfl) ?_
      refine lv_ior hx hb dX3_width_28 ?_
      refine lv_topi (fun y1_29 ey1_29 => ?_)
      have hw := hw y1_29 ey1_29
      refine lv_istore_n (lv' := [(1, .int y1_29), (5, .int (v_rows x4_j13.toNatClampNeg)), (2, .ref (a 0)), (3, .int x3_j13), (4, .int x4_j13)]) hx hb dX3_width_29 rfl hl (by decide) rfl (fun ls hl => ?_)
      refine lv_iinc (v := (x4_j13 + 1)) (lv' := [(4, .int (x4_j13 + 1)), (1, .int y1_29), (5, .int (v_rows x4_j13.toNatClampNeg)), (2, .ref (a 0)), (3, .int x3_j13)]) hx hb dX3_width_30 hl (k := 4) rfl rfl (by decide) rfl (fun ls hl => ?_)
      refine lv_goto (tgt := 13) hx hb dX3_width_33 (by decide) ?_
      exact ih13 (y1_29, x3_j13, (x4_j13 + 1)) hw _ _ ls hP hD hS (lv_sub hl [1, 3, 4, 0] rfl)
  refine lv_iconst (v := 0) hx hb dX3_width_0 (by decide) ?_
  refine lv_istore_n (lv' := [(1, .int 0), (0, .ref h)]) hx hb dX3_width_1 rfl hl (by decide) rfl (fun ls hl => ?_)
  refine lv_aload_n hx hb dX3_width_2 rfl (lv_at hl 1 rfl) ?_
  refine va_get (D := D) (ci := 4) (v := .ref (a 0)) (C := RX3) (T := TX3) (N := 2) hx hb hts iRX3 hown hK hP 0 rfl rfl 0 (by decide) (hts (.fieldLink RX3 9 "Leadlight$Shape" "rows" "[I") (List.mem_of_getElem? (i := 1) rfl)) (fun _ h9 => h9) rfl dX3_width_3 ?_
  refine lv_astore_n (lv' := [(2, .ref (a 0)), (1, .int 0), (0, .ref h)]) hx hb dX3_width_6 rfl hl (by decide) rfl (fun ls hl => ?_)
  refine lv_aload_n hx hb dX3_width_7 rfl (lv_at hl 0 rfl) ?_
  refine va_alen (v := 16) hx hb hK hP 1 0 rfl rfl rfl dX3_width_8 ?_
  refine lv_istore_n (lv' := [(3, .int 16), (2, .ref (a 0)), (1, .int 0), (0, .ref h)]) hx hb dX3_width_9 rfl hl (by decide) rfl (fun ls hl => ?_)
  refine lv_iconst (v := 0) hx hb dX3_width_10 (by decide) ?_
  refine lv_istore (lv' := [(4, .int 0), (3, .int 16), (2, .ref (a 0)), (1, .int 0), (0, .ref h)]) hx hb dX3_width_11 hl (by decide) rfl (fun ls hl => ?_)
  exact L13 (0, 16, 0) hw _ _ ls hP hD hS (lv_sub hl [3, 2, 1, 0] rfl)
abbrev rm_X3_sidesBehindRow : Room := { frames := 1, cells := 0, slots := 0, locals := 20 }
abbrev W_X3_sidesBehindRow (h : Nat) (a : Nat → Nat) (cI cJ cZ : ClassId) (v_rows : Nat → Int32) : va_W := [(h, .inr (4, [.ref (a 0), .ref (a 1)])), ((a 0), .inl (cI, 16, .inl v_rows))]
def wp_X3_sidesBehindRow (v_rows : Nat → Int32) (p1 : Int32) (post : Int32 → Prop) : Prop := wp_X4_isRowLine p1 (fun r_1 => (r_1 = 0 → post 0) ∧ (¬ r_1 = 0 → vp_in p1 16 ∧ (vp_in (p1 + 1) 16 ∧ (wp_J6_bitCount_0f7a4 ((v_rows p1.toNatClampNeg) &&& (v_rows (p1 + 1).toNatClampNeg)) (fun r_22 => post r_22)))))
set_option maxHeartbeats 4000000 in
set_option maxRecDepth 100000 in
theorem c_X3_sidesBehindRow (l : Launch) (D : va_G) (cI cJ cZ cO : ClassId) (h : Nat) (a : Nat → Nat) (sz : Nat) (v_rows : Nat → Int32) (p1 : Int32) (post : Int32 → Prop) (hw : wp_X3_sidesBehindRow v_rows p1 post) : Met l yX3_sidesBehindRow wsX3_sidesBehindRow rm_X3_sidesBehindRow (va_Pc [.ref h, .int p1] (PRE D cI cJ cZ cO (W_X3_sidesBehindRow h a cI cJ cZ v_rows) sz)) (va_Qi (fun r (_ : Unit) => post r) (fun u t => POST D (va_A (W_X3_sidesBehindRow h a cI cJ cZ v_rows) sz) (W_X3_sidesBehindRow h a cI cJ cZ v_rows) t) (va_A (W_X3_sidesBehindRow h a cI cJ cZ v_rows) sz)) 0 0 (va_A (W_X3_sidesBehindRow h a cI cJ cZ v_rows) sz) := by
  refine met_go (cc := cX3_sidesBehindRow) (maxL := 2) (ret := some .int) RX3 rfl (by decide) rfl (Nat.le_of_ble_eq_true rfl) ?_
  intro p e s m args below meth c ls hx hb hr hts hown hlocks hin hml hsz hP hK hE hD hA hS hl
  have iRX3 : ∀ w ∈ u_ws RX3 TX3 2, w ∈ wsX3_sidesBehindRow := mem_seg 12 2 rfl
  generalize va_A (W_X3_sidesBehindRow h a cI cJ cZ v_rows) sz = A at hD hA hS ⊢
  have RT : ∀ (v : Int32) (u : Unit) (H : Heap) (locs : List Loc) (pc : Nat) (ls : Array Slot), decode cX3_sidesBehindRow pc = .ok (.ireturn, 1) → post v → va_P D vwCl (W_X3_sidesBehindRow h a cI cJ cZ v_rows) H → va_D A (W_X3_sidesBehindRow h a cI cJ cZ v_rows) → va_S A s.heap H locs → W p l e rm_X3_sidesBehindRow s m args below meth c H locs 0 0 (MQ below (va_Qi (fun r (_ : Unit) => post r) (fun u t => POST D A (W_X3_sidesBehindRow h a cI cJ cZ v_rows) t) A) args s 0 0 A) (F0 m pc ls [.int v]) := fun v u H locs pc ls d g1 g2 g3 g4 => rt_i (Wf := fun u => (W_X3_sidesBehindRow h a cI cJ cZ v_rows)) u hx hb hr hlocks g1 g2 g3 g4 d
  generalize (MQ below (va_Qi (fun r (_ : Unit) => post r) (fun u t => POST D A (W_X3_sidesBehindRow h a cI cJ cZ v_rows) t) A) args s 0 0 A) = QQ at RT ⊢
  have hl : lv_has ls 2 [(0, .ref h), (1, .int p1)] := hl
  have hP : va_P D vwCl (W_X3_sidesBehindRow h a cI cJ cZ v_rows) s.heap := hP
  unfold wp_X3_sidesBehindRow at hw
  suffices GO : ∀ (H : Heap) (locs : List Loc), va_P D vwCl (W_X3_sidesBehindRow h a cI cJ cZ v_rows) H → va_S A s.heap H locs → W p l e rm_X3_sidesBehindRow s m args below meth c H locs 0 0 QQ (F0 m 0 ls []) from GO _ _ hP hS
  clear hsz hP hS
  intro H locs hP hS
  refine lv_iload_n hx hb dX3_sidesBehindRow_0 rfl (lv_at hl 1 rfl) ?_
  refine af_i (X := (W_X3_sidesBehindRow h a cI cJ cZ v_rows)) (pl := []) (cx := ([] : va_W)) (w1 := fun (u : Unit) => ([] : va_W)) (X' := fun (u : Unit) => (W_X3_sidesBehindRow h a cI cJ cZ v_rows)) hP hD hS hA [] [0, 1] [0, 1] rfl rfl (by decide) (by decide) (fun u => rfl) (by decide) (va_runSN (As := [.int p1]) (rest := []) ⟨hx, hb, hml, hown, hts⟩ (c_X4_isRowLine l D cI cJ cZ cO H.size p1 _ hw) ⟨va_cnB 1 hts gX3_sidesBehindRow_X4_isRowLine_n33 rfl rfl rfl (hE.1 _ (List.mem_of_getElem? (i := 5) rfl)) (hts (.initialized RX4) (List.mem_of_getElem? (i := 3) rfl)) (by decide +kernel) ⟨Nat.le_of_ble_eq_true rfl, Nat.le_of_ble_eq_true rfl⟩, hts (.static yX4_isRowLine) (List.mem_of_getElem? (i := 2) rfl), trivial⟩ (preS (X := (W_X3_sidesBehindRow h a cI cJ cZ v_rows)) (pl := []) (cx := ([] : va_W)) hK hE hP hD [] (by decide) rfl) rfl rfl hl.1 rfl (lv_room (Nat.le_of_ble_eq_true rfl)) dX3_sidesBehindRow_1 ⟨Nat.zero_le _, Nat.zero_le _⟩) (fun r_1 _ H locs hw hP hD hS => ?_)
  try dsimp only at hw
  have hP : va_P D vwCl (W_X3_sidesBehindRow h a cI cJ cZ v_rows) H := hP
  have hD : va_D A (W_X3_sidesBehindRow h a cI cJ cZ v_rows) := hD
  refine lv_if_eq (tgt := 28) hx hb dX3_sidesBehindRow_4 (by decide) (fun c4 => ?_) (fun c4 => ?_)
  · have hw := hw.1 c4
    refine lv_iconst (v := 0) hx hb dX3_sidesBehindRow_28 (by decide) ?_
    exact RT 0 () _ _ _ _ dX3_sidesBehindRow_29 hw hP hD hS
  · have hw := hw.2 c4
    refine lv_aload_n hx hb dX3_sidesBehindRow_7 rfl (lv_at hl 0 rfl) ?_
    refine va_get (D := D) (ci := 4) (v := .ref (a 0)) (C := RX3) (T := TX3) (N := 2) hx hb hts iRX3 hown hK hP 0 rfl rfl 0 (by decide) (hts (.fieldLink RX3 9 "Leadlight$Shape" "rows" "[I") (List.mem_of_getElem? (i := 1) rfl)) (fun _ h9 => h9) rfl dX3_sidesBehindRow_8 ?_
    refine lv_iload_n hx hb dX3_sidesBehindRow_11 rfl (lv_at hl 1 rfl) ?_
    obtain ⟨hi_12, hw⟩ := hw
    refine va_iald hx hb hK hP 1 0 rfl rfl hi_12 dX3_sidesBehindRow_12 ?_
    refine lv_aload_n hx hb dX3_sidesBehindRow_13 rfl (lv_at hl 0 rfl) ?_
    refine va_get (D := D) (ci := 4) (v := .ref (a 0)) (C := RX3) (T := TX3) (N := 2) hx hb hts iRX3 hown hK hP 0 rfl rfl 0 (by decide) (hts (.fieldLink RX3 9 "Leadlight$Shape" "rows" "[I") (List.mem_of_getElem? (i := 1) rfl)) (fun _ h9 => h9) rfl dX3_sidesBehindRow_14 ?_
    refine lv_iload_n hx hb dX3_sidesBehindRow_17 rfl (lv_at hl 1 rfl) ?_
    refine lv_iconst (v := 1) hx hb dX3_sidesBehindRow_18 (by decide) ?_
    refine lv_iadd hx hb dX3_sidesBehindRow_19 ?_
    obtain ⟨hi_20, hw⟩ := hw
    refine va_iald hx hb hK hP 1 0 rfl rfl hi_20 dX3_sidesBehindRow_20 ?_
    refine lv_iand hx hb dX3_sidesBehindRow_21 ?_
    refine af_i (X := (W_X3_sidesBehindRow h a cI cJ cZ v_rows)) (pl := []) (cx := ([] : va_W)) (w1 := fun (u : Unit) => ([] : va_W)) (X' := fun (u : Unit) => (W_X3_sidesBehindRow h a cI cJ cZ v_rows)) hP hD hS hA [] [0, 1] [0, 1] rfl rfl (by decide) (by decide) (fun u => rfl) (by decide) (va_runS (As := [.int ((v_rows p1.toNatClampNeg) &&& (v_rows (p1 + 1).toNatClampNeg))]) (rest := []) ⟨hx, hb, hml, hown, hts⟩ (c_J6_bitCount_0f7a4 l D cI cJ cZ cO H.size ((v_rows p1.toNatClampNeg) &&& (v_rows (p1 + 1).toNatClampNeg)) _ hw) (va_cwS 1 hts gX3_sidesBehindRow_J6_bitCount_0f7a4 rfl rfl rfl (by decide +kernel) ⟨Nat.le_of_ble_eq_true rfl, Nat.le_of_ble_eq_true rfl⟩) (preS (X := (W_X3_sidesBehindRow h a cI cJ cZ v_rows)) (pl := []) (cx := ([] : va_W)) hK hE hP hD [] (by decide) rfl) rfl rfl hl.1 rfl (lv_room (Nat.le_of_ble_eq_true rfl)) dX3_sidesBehindRow_22 ⟨Nat.zero_le _, Nat.zero_le _⟩) (fun r_22 _ H locs hw hP hD hS => ?_)
    try dsimp only at hw
    have hP : va_P D vwCl (W_X3_sidesBehindRow h a cI cJ cZ v_rows) H := hP
    have hD : va_D A (W_X3_sidesBehindRow h a cI cJ cZ v_rows) := hD
    refine lv_goto (tgt := 29) hx hb dX3_sidesBehindRow_25 (by decide) ?_
    exact RT r_22 () _ _ _ _ dX3_sidesBehindRow_29 hw hP hD hS
abbrev rm_X3_sidesBehindColumn : Room := { frames := 0, cells := 0, slots := 0, locals := 0 }
abbrev W_X3_sidesBehindColumn (h : Nat) (a : Nat → Nat) (cI cJ cZ : ClassId) (v_rows : Nat → Int32) : va_W := [(h, .inr (4, [.ref (a 0), .ref (a 1)])), ((a 0), .inl (cI, 16, .inl v_rows))]
def wp_X3_sidesBehindColumn_14 (v_rows : Nat → Int32) (p1 : Int32) (post : Int32 → Prop) (K14 : Int32 → Int32 → Int32 → Prop) (x2_j14 : Int32) (x4_j14 : Int32) (x5_j14 : Int32) : Prop := (x4_j14 ≤ x5_j14 → post x2_j14) ∧ (¬ x4_j14 ≤ x5_j14 → vp_in x5_j14 16 ∧ (∀ y7_34 : Int32, y7_34 = ((v_rows x5_j14.toNatClampNeg) &&& (((v_rows x5_j14.toNatClampNeg)).toUInt32 >>> ((1 : Int32).toUInt32 &&& Int32.toUInt32 31)).toInt32) → ∀ y2_44 : Int32, y2_44 = (x2_j14 + (((y7_34).toUInt32 >>> ((p1 : Int32).toUInt32 &&& Int32.toUInt32 31)).toInt32 &&& 1)) → K14 y2_44 x4_j14 (x5_j14 + 1)))
def lF_X3_sidesBehindColumn_14 (v_rows : Nat → Int32) (p1 : Int32) (post : Int32 → Prop) : ((Int32 × Int32 × Int32) → Prop) → (Int32 × Int32 × Int32) → Prop := fun K s => wp_X3_sidesBehindColumn_14 v_rows p1 post (fun b0 b1 b2 => K (b0, b1, b2)) s.1 s.2.1 s.2.2
def wp_X3_sidesBehindColumn (v_rows : Nat → Int32) (p1 : Int32) (post : Int32 → Prop) : Prop := lp (lF_X3_sidesBehindColumn_14 v_rows p1 post) (0, 16, 0)
set_option maxHeartbeats 4000000 in
set_option maxRecDepth 100000 in
theorem c_X3_sidesBehindColumn (l : Launch) (D : va_G) (cI cJ cZ cO : ClassId) (h : Nat) (a : Nat → Nat) (sz : Nat) (v_rows : Nat → Int32) (p1 : Int32) (post : Int32 → Prop) (hw : wp_X3_sidesBehindColumn v_rows p1 post) : Met l yX3_sidesBehindColumn wsX3_sidesBehindColumn rm_X3_sidesBehindColumn (va_Pc [.ref h, .int p1] (PRE D cI cJ cZ cO (W_X3_sidesBehindColumn h a cI cJ cZ v_rows) sz)) (va_Qi (fun r (_ : Unit) => post r) (fun u t => POST D (va_A (W_X3_sidesBehindColumn h a cI cJ cZ v_rows) sz) (W_X3_sidesBehindColumn h a cI cJ cZ v_rows) t) (va_A (W_X3_sidesBehindColumn h a cI cJ cZ v_rows) sz)) 0 0 (va_A (W_X3_sidesBehindColumn h a cI cJ cZ v_rows) sz) := by
  refine met_go (cc := cX3_sidesBehindColumn) (maxL := 8) (ret := some .int) RX3 rfl (by decide) rfl (Nat.le_of_ble_eq_true rfl) ?_
  intro p e s m args below meth c ls hx hb hr hts hown hlocks hin hml hsz hP hK hE hD hA hS hl
  have iRX3 : ∀ w ∈ u_ws RX3 TX3 2, w ∈ wsX3_sidesBehindColumn := mem_seg 2 2 rfl
  generalize va_A (W_X3_sidesBehindColumn h a cI cJ cZ v_rows) sz = A at hD hA hS ⊢
  have RT : ∀ (v : Int32) (u : Unit) (H : Heap) (locs : List Loc) (pc : Nat) (ls : Array Slot), decode cX3_sidesBehindColumn pc = .ok (.ireturn, 1) → post v → va_P D vwCl (W_X3_sidesBehindColumn h a cI cJ cZ v_rows) H → va_D A (W_X3_sidesBehindColumn h a cI cJ cZ v_rows) → va_S A s.heap H locs → W p l e rm_X3_sidesBehindColumn s m args below meth c H locs 0 0 (MQ below (va_Qi (fun r (_ : Unit) => post r) (fun u t => POST D A (W_X3_sidesBehindColumn h a cI cJ cZ v_rows) t) A) args s 0 0 A) (F0 m pc ls [.int v]) := fun v u H locs pc ls d g1 g2 g3 g4 => rt_i (Wf := fun u => (W_X3_sidesBehindColumn h a cI cJ cZ v_rows)) u hx hb hr hlocks g1 g2 g3 g4 d
  generalize (MQ below (va_Qi (fun r (_ : Unit) => post r) (fun u t => POST D A (W_X3_sidesBehindColumn h a cI cJ cZ v_rows) t) A) args s 0 0 A) = QQ at RT ⊢
  have hl : lv_has ls 8 [(0, .ref h), (1, .int p1)] := hl
  have hP : va_P D vwCl (W_X3_sidesBehindColumn h a cI cJ cZ v_rows) s.heap := hP
  unfold wp_X3_sidesBehindColumn at hw
  suffices GO : ∀ (H : Heap) (locs : List Loc), va_P D vwCl (W_X3_sidesBehindColumn h a cI cJ cZ v_rows) H → va_S A s.heap H locs → W p l e rm_X3_sidesBehindColumn s m args below meth c H locs 0 0 QQ (F0 m 0 ls []) from GO _ _ hP hS
  clear hsz hP hS
  intro H locs hP hS
  have L14 : ∀ s0 : (Int32 × Int32 × Int32), lp (lF_X3_sidesBehindColumn_14 v_rows p1 post) s0 → ∀ (H : Heap) (locs : List Loc) (ls : Array Slot), va_P D vwCl (W_X3_sidesBehindColumn h a cI cJ cZ v_rows) H → va_D A (W_X3_sidesBehindColumn h a cI cJ cZ v_rows) → va_S A s.heap H locs → lv_has ls 8 [(1, .int p1), (2, .int s0.1), (3, .ref (a 0)), (4, .int s0.2.1), (5, .int s0.2.2)] → W p l e rm_X3_sidesBehindColumn s m args below meth c H locs 0 0 QQ (F0 m 14 ls []) := by
    refine lp_elim (fun K14 ih14 s0 hw => ?_)
    obtain ⟨x2_j14, x4_j14, x5_j14⟩ := s0
    intro H locs ls hP hD hS hl
    have hw : wp_X3_sidesBehindColumn_14 v_rows p1 post (fun b0 b1 b2 => K14 (b0, b1, b2)) x2_j14 x4_j14 x5_j14 := hw
    have hP : va_P D vwCl (W_X3_sidesBehindColumn h a cI cJ cZ v_rows) H := hP
    have hD : va_D A (W_X3_sidesBehindColumn h a cI cJ cZ v_rows) := hD
    have hl : lv_has ls 8 [(1, .int p1), (2, .int x2_j14), (3, .ref (a 0)), (4, .int x4_j14), (5, .int x5_j14)] := hl
    unfold wp_X3_sidesBehindColumn_14 at hw
    refine lv_iload hx hb dX3_sidesBehindColumn_14 (lv_at hl 4 rfl) ?_
    refine lv_iload hx hb dX3_sidesBehindColumn_16 (lv_at hl 3 rfl) ?_
    refine lv_icmp_ge (tgt := 51) hx hb dX3_sidesBehindColumn_18 (by decide) (fun c18 => ?_) (fun c18 => ?_)
    · have hw := hw.1 c18
      refine lv_iload_n hx hb dX3_sidesBehindColumn_51 rfl (lv_at hl 1 rfl) ?_
      exact RT x2_j14 () _ _ _ _ dX3_sidesBehindColumn_52 hw hP hD hS
    · have hw := hw.2 c18
      refine lv_aload_n hx hb dX3_sidesBehindColumn_21 rfl (lv_at hl 2 rfl) ?_
      refine lv_iload hx hb dX3_sidesBehindColumn_22 (lv_at hl 4 rfl) ?_
      obtain ⟨hi_24, hw⟩ := hw
      refine va_iald hx hb hK hP 1 0 rfl rfl hi_24 dX3_sidesBehindColumn_24 ?_
      refine lv_istore (lv' := [(6, .int (v_rows x5_j14.toNatClampNeg)), (1, .int p1), (2, .int x2_j14), (3, .ref (a 0)), (4, .int x4_j14), (5, .int x5_j14)]) hx hb dX3_sidesBehindColumn_25 hl (by decide) rfl (fun ls hl => ?_)
      refine lv_iload hx hb dX3_sidesBehindColumn_27 (lv_at hl 0 rfl) ?_
      refine lv_iload hx hb dX3_sidesBehindColumn_29 (lv_at hl 0 rfl) ?_
      refine lv_iconst (v := 1) hx hb dX3_sidesBehindColumn_31 (by decide) ?_
      refine lv_iushr (v := (((v_rows x5_j14.toNatClampNeg)).toUInt32 >>> ((1 : Int32).toUInt32 &&& Int32.toUInt32 31)).toInt32) hx hb dX3_sidesBehindColumn_32 rfl ?_
      refine lv_iand hx hb dX3_sidesBehindColumn_33 ?_
      refine lv_topi (fun y7_34 ey7_34 => ?_)
      have hw := hw y7_34 ey7_34
      refine lv_istore (lv' := [(7, .int y7_34), (6, .int (v_rows x5_j14.toNatClampNeg)), (1, .int p1), (2, .int x2_j14), (3, .ref (a 0)), (4, .int x4_j14), (5, .int x5_j14)]) hx hb dX3_sidesBehindColumn_34 hl (by decide) rfl (fun ls hl => ?_)
      refine lv_iload_n hx hb dX3_sidesBehindColumn_36 rfl (lv_at hl 3 rfl) ?_
      refine lv_iload hx hb dX3_sidesBehindColumn_37 (lv_at hl 0 rfl) ?_
      refine lv_iload_n hx hb dX3_sidesBehindColumn_39 rfl (lv_at hl 2 rfl) ?_
      refine lv_iushr (v := ((y7_34).toUInt32 >>> ((p1 : Int32).toUInt32 &&& Int32.toUInt32 31)).toInt32) hx hb dX3_sidesBehindColumn_40 rfl ?_
      refine lv_iconst (v := 1) hx hb dX3_sidesBehindColumn_41 (by decide) ?_
      refine lv_iand hx hb dX3_sidesBehindColumn_42 ?_
      refine lv_iadd hx hb dX3_sidesBehindColumn_43 ?_
      refine lv_topi (fun y2_44 ey2_44 => ?_)
      have hw := hw y2_44 ey2_44
      refine lv_istore_n (lv' := [(2, .int y2_44), (7, .int y7_34), (6, .int (v_rows x5_j14.toNatClampNeg)), (1, .int p1), (3, .ref (a 0)), (4, .int x4_j14), (5, .int x5_j14)]) hx hb dX3_sidesBehindColumn_44 rfl hl (by decide) rfl (fun ls hl => ?_)
      refine lv_iinc (v := (x5_j14 + 1)) (lv' := [(5, .int (x5_j14 + 1)), (2, .int y2_44), (7, .int y7_34), (6, .int (v_rows x5_j14.toNatClampNeg)), (1, .int p1), (3, .ref (a 0)), (4, .int x4_j14)]) hx hb dX3_sidesBehindColumn_45 hl (k := 6) rfl rfl (by decide) rfl (fun ls hl => ?_)
      refine lv_goto (tgt := 14) hx hb dX3_sidesBehindColumn_48 (by decide) ?_
      exact ih14 (y2_44, x4_j14, (x5_j14 + 1)) hw _ _ ls hP hD hS (lv_sub hl [4, 1, 5, 6, 0] rfl)
  refine lv_iconst (v := 0) hx hb dX3_sidesBehindColumn_0 (by decide) ?_
  refine lv_istore_n (lv' := [(2, .int 0), (0, .ref h), (1, .int p1)]) hx hb dX3_sidesBehindColumn_1 rfl hl (by decide) rfl (fun ls hl => ?_)
  refine lv_aload_n hx hb dX3_sidesBehindColumn_2 rfl (lv_at hl 1 rfl) ?_
  refine va_get (D := D) (ci := 4) (v := .ref (a 0)) (C := RX3) (T := TX3) (N := 2) hx hb hts iRX3 hown hK hP 0 rfl rfl 0 (by decide) (hts (.fieldLink RX3 9 "Leadlight$Shape" "rows" "[I") (List.mem_of_getElem? (i := 1) rfl)) (fun _ h9 => h9) rfl dX3_sidesBehindColumn_3 ?_
  refine lv_astore_n (lv' := [(3, .ref (a 0)), (2, .int 0), (0, .ref h), (1, .int p1)]) hx hb dX3_sidesBehindColumn_6 rfl hl (by decide) rfl (fun ls hl => ?_)
  refine lv_aload_n hx hb dX3_sidesBehindColumn_7 rfl (lv_at hl 0 rfl) ?_
  refine va_alen (v := 16) hx hb hK hP 1 0 rfl rfl rfl dX3_sidesBehindColumn_8 ?_
  refine lv_istore (lv' := [(4, .int 16), (3, .ref (a 0)), (2, .int 0), (0, .ref h), (1, .int p1)]) hx hb dX3_sidesBehindColumn_9 hl (by decide) rfl (fun ls hl => ?_)
  refine lv_iconst (v := 0) hx hb dX3_sidesBehindColumn_11 (by decide) ?_
  refine lv_istore (lv' := [(5, .int 0), (4, .int 16), (3, .ref (a 0)), (2, .int 0), (0, .ref h), (1, .int p1)]) hx hb dX3_sidesBehindColumn_12 hl (by decide) rfl (fun ls hl => ?_)
  exact L14 (0, 16, 0) hw _ _ ls hP hD hS (lv_sub hl [5, 3, 2, 1, 0] rfl)
abbrev rm_X3_sidesAlong : Room := { frames := 2, cells := 0, slots := 0, locals := 41 }
abbrev W_X3_sidesAlong (h : Nat) (a : Nat → Nat) (cI cJ cZ : ClassId) (v_rows : Nat → Int32) : va_W := [(h, .inr (4, [.ref (a 0), .ref (a 1)])), ((a 0), .inl (cI, 16, .inl v_rows))]
def wp_X3_sidesAlong (v_rows : Nat → Int32) (p1 : Int32) (post : Int32 → Prop) : Prop := wp_X4_isRowLine p1 (fun r_1 => (r_1 = 0 → wp_X3_sidesBehindColumn v_rows (p1 - 16) (fun r_20 => post r_20)) ∧ (¬ r_1 = 0 → wp_X3_sidesBehindRow v_rows p1 (fun r_9 => post r_9)))
set_option maxHeartbeats 4000000 in
set_option maxRecDepth 100000 in
theorem c_X3_sidesAlong (l : Launch) (D : va_G) (cI cJ cZ cO : ClassId) (h : Nat) (a : Nat → Nat) (sz : Nat) (v_rows : Nat → Int32) (p1 : Int32) (post : Int32 → Prop) (hw : wp_X3_sidesAlong v_rows p1 post) : Met l yX3_sidesAlong wsX3_sidesAlong rm_X3_sidesAlong (va_Pc [.ref h, .int p1] (PRE D cI cJ cZ cO (W_X3_sidesAlong h a cI cJ cZ v_rows) sz)) (va_Qi (fun r (_ : Unit) => post r) (fun u t => POST D (va_A (W_X3_sidesAlong h a cI cJ cZ v_rows) sz) (W_X3_sidesAlong h a cI cJ cZ v_rows) t) (va_A (W_X3_sidesAlong h a cI cJ cZ v_rows) sz)) 0 0 (va_A (W_X3_sidesAlong h a cI cJ cZ v_rows) sz) := by
  refine met_go (cc := cX3_sidesAlong) (maxL := 2) (ret := some .int) RX3 rfl (by decide) rfl (Nat.le_of_ble_eq_true rfl) ?_
  intro p e s m args below meth c ls hx hb hr hts hown hlocks hin hml hsz hP hK hE hD hA hS hl
  have iRX3 : ∀ w ∈ u_ws RX3 TX3 2, w ∈ wsX3_sidesAlong := mem_seg 21 2 rfl
  generalize va_A (W_X3_sidesAlong h a cI cJ cZ v_rows) sz = A at hD hA hS ⊢
  have RT : ∀ (v : Int32) (u : Unit) (H : Heap) (locs : List Loc) (pc : Nat) (ls : Array Slot), decode cX3_sidesAlong pc = .ok (.ireturn, 1) → post v → va_P D vwCl (W_X3_sidesAlong h a cI cJ cZ v_rows) H → va_D A (W_X3_sidesAlong h a cI cJ cZ v_rows) → va_S A s.heap H locs → W p l e rm_X3_sidesAlong s m args below meth c H locs 0 0 (MQ below (va_Qi (fun r (_ : Unit) => post r) (fun u t => POST D A (W_X3_sidesAlong h a cI cJ cZ v_rows) t) A) args s 0 0 A) (F0 m pc ls [.int v]) := fun v u H locs pc ls d g1 g2 g3 g4 => rt_i (Wf := fun u => (W_X3_sidesAlong h a cI cJ cZ v_rows)) u hx hb hr hlocks g1 g2 g3 g4 d
  generalize (MQ below (va_Qi (fun r (_ : Unit) => post r) (fun u t => POST D A (W_X3_sidesAlong h a cI cJ cZ v_rows) t) A) args s 0 0 A) = QQ at RT ⊢
  have hl : lv_has ls 2 [(0, .ref h), (1, .int p1)] := hl
  have hP : va_P D vwCl (W_X3_sidesAlong h a cI cJ cZ v_rows) s.heap := hP
  unfold wp_X3_sidesAlong at hw
  suffices GO : ∀ (H : Heap) (locs : List Loc), va_P D vwCl (W_X3_sidesAlong h a cI cJ cZ v_rows) H → va_S A s.heap H locs → W p l e rm_X3_sidesAlong s m args below meth c H locs 0 0 QQ (F0 m 0 ls []) from GO _ _ hP hS
  clear hsz hP hS
  intro H locs hP hS
  refine lv_iload_n hx hb dX3_sidesAlong_0 rfl (lv_at hl 1 rfl) ?_
  refine af_i (X := (W_X3_sidesAlong h a cI cJ cZ v_rows)) (pl := []) (cx := ([] : va_W)) (w1 := fun (u : Unit) => ([] : va_W)) (X' := fun (u : Unit) => (W_X3_sidesAlong h a cI cJ cZ v_rows)) hP hD hS hA [] [0, 1] [0, 1] rfl rfl (by decide) (by decide) (fun u => rfl) (by decide) (va_runSN (As := [.int p1]) (rest := []) ⟨hx, hb, hml, hown, hts⟩ (c_X4_isRowLine l D cI cJ cZ cO H.size p1 _ hw) ⟨va_cnB 1 hts gX3_sidesAlong_X4_isRowLine_n33 rfl rfl rfl (hE.1 _ (List.mem_of_getElem? (i := 5) rfl)) (hts (.initialized RX4) (List.mem_of_getElem? (i := 2) rfl)) (by decide +kernel) ⟨Nat.le_of_ble_eq_true rfl, Nat.le_of_ble_eq_true rfl⟩, hts (.static yX4_isRowLine) (List.mem_of_getElem? (i := 1) rfl), trivial⟩ (preS (X := (W_X3_sidesAlong h a cI cJ cZ v_rows)) (pl := []) (cx := ([] : va_W)) hK hE hP hD [] (by decide) rfl) rfl rfl hl.1 rfl (lv_room (Nat.le_of_ble_eq_true rfl)) dX3_sidesAlong_1 ⟨Nat.zero_le _, Nat.zero_le _⟩) (fun r_1 _ H locs hw hP hD hS => ?_)
  try dsimp only at hw
  have hP : va_P D vwCl (W_X3_sidesAlong h a cI cJ cZ v_rows) H := hP
  have hD : va_D A (W_X3_sidesAlong h a cI cJ cZ v_rows) := hD
  refine lv_if_eq (tgt := 15) hx hb dX3_sidesAlong_4 (by decide) (fun c4 => ?_) (fun c4 => ?_)
  · have hw := hw.1 c4
    refine lv_aload_n hx hb dX3_sidesAlong_15 rfl (lv_at hl 0 rfl) ?_
    refine lv_iload_n hx hb dX3_sidesAlong_16 rfl (lv_at hl 1 rfl) ?_
    refine lv_bipush (v := 16) hx hb dX3_sidesAlong_17 (by decide) ?_
    refine lv_isub hx hb dX3_sidesAlong_19 ?_
    refine af_i (X := (W_X3_sidesAlong h a cI cJ cZ v_rows)) (pl := []) (cx := (W_X3_sidesBehindColumn h a cI cJ cZ v_rows)) (w1 := fun (u : Unit) => (W_X3_sidesBehindColumn h a cI cJ cZ v_rows)) (X' := fun (u : Unit) => (W_X3_sidesAlong h a cI cJ cZ v_rows)) hP hD hS hA [0, 1] [] [0, 1] rfl rfl (by decide) (by decide) (fun u => rfl) (by decide) (va_runV (As := [.int (p1 - 16)]) (rest := []) ⟨hx, hb, hml, hown, hts⟩ (c_X3_sidesBehindColumn l D cI cJ cZ cO h a H.size v_rows (p1 - 16) _ hw) (cwV 1 hts gX3_sidesAlong_X3_sidesBehindColumn rfl rfl rfl (by decide +kernel) ⟨Nat.le_of_ble_eq_true rfl, Nat.le_of_ble_eq_true rfl⟩) (preV (X := (W_X3_sidesAlong h a cI cJ cZ v_rows)) (pl := []) (cx := (W_X3_sidesBehindColumn h a cI cJ cZ v_rows)) (qb := 0) (ci := 4) hK hE hP hD [0, 1] (by decide) rfl rfl rfl) rfl rfl hl.1 rfl (lv_room (Nat.le_of_ble_eq_true rfl)) dX3_sidesAlong_20 ⟨Nat.zero_le _, Nat.zero_le _⟩) (fun r_20 _ H locs hw hP hD hS => ?_)
    try dsimp only at hw
    have hP : va_P D vwCl (W_X3_sidesAlong h a cI cJ cZ v_rows) H := hP
    have hD : va_D A (W_X3_sidesAlong h a cI cJ cZ v_rows) := hD
    exact RT r_20 () _ _ _ _ dX3_sidesAlong_23 hw hP hD hS
  · have hw := hw.2 c4
    refine lv_aload_n hx hb dX3_sidesAlong_7 rfl (lv_at hl 0 rfl) ?_
    refine lv_iload_n hx hb dX3_sidesAlong_8 rfl (lv_at hl 1 rfl) ?_
    refine af_i (X := (W_X3_sidesAlong h a cI cJ cZ v_rows)) (pl := []) (cx := (W_X3_sidesBehindRow h a cI cJ cZ v_rows)) (w1 := fun (u : Unit) => (W_X3_sidesBehindRow h a cI cJ cZ v_rows)) (X' := fun (u : Unit) => (W_X3_sidesAlong h a cI cJ cZ v_rows)) hP hD hS hA [0, 1] [] [0, 1] rfl rfl (by decide) (by decide) (fun u => rfl) (by decide) (va_runV (As := [.int p1]) (rest := []) ⟨hx, hb, hml, hown, hts⟩ (c_X3_sidesBehindRow l D cI cJ cZ cO h a H.size v_rows p1 _ hw) (cwV 1 hts gX3_sidesAlong_X3_sidesBehindRow rfl rfl rfl (by decide +kernel) ⟨Nat.le_of_ble_eq_true rfl, Nat.le_of_ble_eq_true rfl⟩) (preV (X := (W_X3_sidesAlong h a cI cJ cZ v_rows)) (pl := []) (cx := (W_X3_sidesBehindRow h a cI cJ cZ v_rows)) (qb := 0) (ci := 4) hK hE hP hD [0, 1] (by decide) rfl rfl rfl) rfl rfl hl.1 rfl (lv_room (Nat.le_of_ble_eq_true rfl)) dX3_sidesAlong_9 ⟨Nat.zero_le _, Nat.zero_le _⟩) (fun r_9 _ H locs hw hP hD hS => ?_)
    try dsimp only at hw
    have hP : va_P D vwCl (W_X3_sidesAlong h a cI cJ cZ v_rows) H := hP
    have hD : va_D A (W_X3_sidesAlong h a cI cJ cZ v_rows) := hD
    refine lv_goto (tgt := 23) hx hb dX3_sidesAlong_12 (by decide) ?_
    exact RT r_9 () _ _ _ _ dX3_sidesAlong_23 hw hP hD hS
abbrev rm_X3_hasGap : Room := { frames := 0, cells := 0, slots := 0, locals := 0 }
abbrev W_X3_hasGap (h : Nat) (a : Nat → Nat) (cI cJ cZ : ClassId) (v_rows : Nat → Int32) : va_W := [(h, .inr (4, [.ref (a 0), .ref (a 1)])), ((a 0), .inl (cI, 16, .inl v_rows))]
def wp_X3_hasGap_16 (v_rows : Nat → Int32) (post : Int32 → Prop) (K16 : Int32 → Int32 → Int32 → Int32 → Prop) (x1_j16 : Int32) (x2_j16 : Int32) (x4_j16 : Int32) (x5_j16 : Int32) : Prop := (x4_j16 ≤ x5_j16 → post 0) ∧ (¬ x4_j16 ≤ x5_j16 → vp_in x5_j16 16 ∧ (∀ y2_37 : Int32, y2_37 = (x2_j16 ||| (x1_j16 &&& ((v_rows x5_j16.toNatClampNeg) ^^^ (-1)))) → ∀ y1_42 : Int32, y1_42 = (x1_j16 ||| (v_rows x5_j16.toNatClampNeg)) → ∀ y7_55 : Int32, y7_55 = ((v_rows x5_j16.toNatClampNeg) &&& ((v_rows x5_j16.toNatClampNeg) + ((v_rows x5_j16.toNatClampNeg) &&& (-(v_rows x5_j16.toNatClampNeg))))) → (y7_55 = 0 → ((y2_37 &&& (v_rows x5_j16.toNatClampNeg)) = 0 → K16 y1_42 y2_37 x4_j16 (x5_j16 + 1)) ∧ (¬ (y2_37 &&& (v_rows x5_j16.toNatClampNeg)) = 0 → post 1)) ∧ (¬ y7_55 = 0 → post 1)))
def lF_X3_hasGap_16 (v_rows : Nat → Int32) (post : Int32 → Prop) : ((Int32 × Int32 × Int32 × Int32) → Prop) → (Int32 × Int32 × Int32 × Int32) → Prop := fun K s => wp_X3_hasGap_16 v_rows post (fun b0 b1 b2 b3 => K (b0, b1, b2, b3)) s.1 s.2.1 s.2.2.1 s.2.2.2
def wp_X3_hasGap (v_rows : Nat → Int32) (post : Int32 → Prop) : Prop := lp (lF_X3_hasGap_16 v_rows post) (0, 0, 16, 0)
set_option maxHeartbeats 4000000 in
set_option maxRecDepth 100000 in
theorem c_X3_hasGap (l : Launch) (D : va_G) (cI cJ cZ cO : ClassId) (h : Nat) (a : Nat → Nat) (sz : Nat) (v_rows : Nat → Int32) (post : Int32 → Prop) (hw : wp_X3_hasGap v_rows post) : Met l yX3_hasGap wsX3_hasGap rm_X3_hasGap (va_Pc [.ref h] (PRE D cI cJ cZ cO (W_X3_hasGap h a cI cJ cZ v_rows) sz)) (va_Qi (fun r (_ : Unit) => post r) (fun u t => POST D (va_A (W_X3_hasGap h a cI cJ cZ v_rows) sz) (W_X3_hasGap h a cI cJ cZ v_rows) t) (va_A (W_X3_hasGap h a cI cJ cZ v_rows) sz)) 0 0 (va_A (W_X3_hasGap h a cI cJ cZ v_rows) sz) := by
  refine met_go (cc := cX3_hasGap) (maxL := 8) (ret := some .boolean) RX3 rfl (by decide) rfl (Nat.le_of_ble_eq_true rfl) ?_
  intro p e s m args below meth c ls hx hb hr hts hown hlocks hin hml hsz hP hK hE hD hA hS hl
  have iRX3 : ∀ w ∈ u_ws RX3 TX3 2, w ∈ wsX3_hasGap := mem_seg 2 2 rfl
  generalize va_A (W_X3_hasGap h a cI cJ cZ v_rows) sz = A at hD hA hS ⊢
  have RT : ∀ (v : Int32) (u : Unit) (H : Heap) (locs : List Loc) (pc : Nat) (ls : Array Slot), decode cX3_hasGap pc = .ok (.ireturn, 1) → (v = 0 ∨ v = 1) → post v → va_P D vwCl (W_X3_hasGap h a cI cJ cZ v_rows) H → va_D A (W_X3_hasGap h a cI cJ cZ v_rows) → va_S A s.heap H locs → W p l e rm_X3_hasGap s m args below meth c H locs 0 0 (MQ below (va_Qi (fun r (_ : Unit) => post r) (fun u t => POST D A (W_X3_hasGap h a cI cJ cZ v_rows) t) A) args s 0 0 A) (F0 m pc ls [.int v]) := fun v u H locs pc ls d g0 g1 g2 g3 g4 => rt_z (Wf := fun u => (W_X3_hasGap h a cI cJ cZ v_rows)) u hx hb hr hlocks g0 g1 g2 g3 g4 d
  generalize (MQ below (va_Qi (fun r (_ : Unit) => post r) (fun u t => POST D A (W_X3_hasGap h a cI cJ cZ v_rows) t) A) args s 0 0 A) = QQ at RT ⊢
  have hl : lv_has ls 8 [(0, .ref h)] := hl
  have hP : va_P D vwCl (W_X3_hasGap h a cI cJ cZ v_rows) s.heap := hP
  unfold wp_X3_hasGap at hw
  suffices GO : ∀ (H : Heap) (locs : List Loc), va_P D vwCl (W_X3_hasGap h a cI cJ cZ v_rows) H → va_S A s.heap H locs → W p l e rm_X3_hasGap s m args below meth c H locs 0 0 QQ (F0 m 0 ls []) from GO _ _ hP hS
  clear hsz hP hS
  intro H locs hP hS
  have L16 : ∀ s0 : (Int32 × Int32 × Int32 × Int32), lp (lF_X3_hasGap_16 v_rows post) s0 → ∀ (H : Heap) (locs : List Loc) (ls : Array Slot), va_P D vwCl (W_X3_hasGap h a cI cJ cZ v_rows) H → va_D A (W_X3_hasGap h a cI cJ cZ v_rows) → va_S A s.heap H locs → lv_has ls 8 [(1, .int s0.1), (2, .int s0.2.1), (3, .ref (a 0)), (4, .int s0.2.2.1), (5, .int s0.2.2.2)] → W p l e rm_X3_hasGap s m args below meth c H locs 0 0 QQ (F0 m 16 ls []) := by
    refine lp_elim (fun K16 ih16 s0 hw => ?_)
    obtain ⟨x1_j16, x2_j16, x4_j16, x5_j16⟩ := s0
    intro H locs ls hP hD hS hl
    have hw : wp_X3_hasGap_16 v_rows post (fun b0 b1 b2 b3 => K16 (b0, b1, b2, b3)) x1_j16 x2_j16 x4_j16 x5_j16 := hw
    have hP : va_P D vwCl (W_X3_hasGap h a cI cJ cZ v_rows) H := hP
    have hD : va_D A (W_X3_hasGap h a cI cJ cZ v_rows) := hD
    have hl : lv_has ls 8 [(1, .int x1_j16), (2, .int x2_j16), (3, .ref (a 0)), (4, .int x4_j16), (5, .int x5_j16)] := hl
    unfold wp_X3_hasGap_16 at hw
    refine lv_iload hx hb dX3_hasGap_16 (lv_at hl 4 rfl) ?_
    refine lv_iload hx hb dX3_hasGap_18 (lv_at hl 3 rfl) ?_
    refine lv_icmp_ge (tgt := 77) hx hb dX3_hasGap_20 (by decide) (fun c20 => ?_) (fun c20 => ?_)
    · have hw := hw.1 c20
      refine lv_iconst (v := 0) hx hb dX3_hasGap_77 (by decide) ?_
      exact RT 0 () _ _ _ _ dX3_hasGap_78 (Or.inl rfl) hw hP hD hS
    · have hw := hw.2 c20
      refine lv_aload_n hx hb dX3_hasGap_23 rfl (lv_at hl 2 rfl) ?_
      refine lv_iload hx hb dX3_hasGap_24 (lv_at hl 4 rfl) ?_
      obtain ⟨hi_26, hw⟩ := hw
      refine va_iald hx hb hK hP 1 0 rfl rfl hi_26 dX3_hasGap_26 ?_
      refine lv_istore (lv' := [(6, .int (v_rows x5_j16.toNatClampNeg)), (1, .int x1_j16), (2, .int x2_j16), (3, .ref (a 0)), (4, .int x4_j16), (5, .int x5_j16)]) hx hb dX3_hasGap_27 hl (by decide) rfl (fun ls hl => ?_)
      refine lv_iload_n hx hb dX3_hasGap_29 rfl (lv_at hl 2 rfl) ?_
      refine lv_iload_n hx hb dX3_hasGap_30 rfl (lv_at hl 1 rfl) ?_
      refine lv_iload hx hb dX3_hasGap_31 (lv_at hl 0 rfl) ?_
      refine lv_iconst (v := (-1)) hx hb dX3_hasGap_33 (by decide) ?_
      refine lv_ixor hx hb dX3_hasGap_34 ?_
      refine lv_iand hx hb dX3_hasGap_35 ?_
      refine lv_ior hx hb dX3_hasGap_36 ?_
      refine lv_topi (fun y2_37 ey2_37 => ?_)
      have hw := hw y2_37 ey2_37
      refine lv_istore_n (lv' := [(2, .int y2_37), (6, .int (v_rows x5_j16.toNatClampNeg)), (1, .int x1_j16), (3, .ref (a 0)), (4, .int x4_j16), (5, .int x5_j16)]) hx hb dX3_hasGap_37 rfl hl (by decide) rfl (fun ls hl => ?_)
      refine lv_iload_n hx hb dX3_hasGap_38 rfl (lv_at hl 2 rfl) ?_
      refine lv_iload hx hb dX3_hasGap_39 (lv_at hl 1 rfl) ?_
      refine lv_ior hx hb dX3_hasGap_41 ?_
      refine lv_topi (fun y1_42 ey1_42 => ?_)
      have hw := hw y1_42 ey1_42
      refine lv_istore_n (lv' := [(1, .int y1_42), (2, .int y2_37), (6, .int (v_rows x5_j16.toNatClampNeg)), (3, .ref (a 0)), (4, .int x4_j16), (5, .int x5_j16)]) hx hb dX3_hasGap_42 rfl hl (by decide) rfl (fun ls hl => ?_)
      refine lv_iload hx hb dX3_hasGap_43 (lv_at hl 2 rfl) ?_
      refine lv_iload hx hb dX3_hasGap_45 (lv_at hl 2 rfl) ?_
      refine lv_iload hx hb dX3_hasGap_47 (lv_at hl 2 rfl) ?_
      refine lv_iload hx hb dX3_hasGap_49 (lv_at hl 2 rfl) ?_
      refine lv_ineg hx hb dX3_hasGap_51 ?_
      refine lv_iand hx hb dX3_hasGap_52 ?_
      refine lv_iadd hx hb dX3_hasGap_53 ?_
      refine lv_iand hx hb dX3_hasGap_54 ?_
      refine lv_topi (fun y7_55 ey7_55 => ?_)
      have hw := hw y7_55 ey7_55
      refine lv_istore (lv' := [(7, .int y7_55), (1, .int y1_42), (2, .int y2_37), (6, .int (v_rows x5_j16.toNatClampNeg)), (3, .ref (a 0)), (4, .int x4_j16), (5, .int x5_j16)]) hx hb dX3_hasGap_55 hl (by decide) rfl (fun ls hl => ?_)
      refine lv_iload hx hb dX3_hasGap_57 (lv_at hl 0 rfl) ?_
      refine lv_if_ne (tgt := 69) hx hb dX3_hasGap_59 (by decide) (fun c59 => ?_) (fun c59 => ?_)
      · have hw := hw.2 c59
        refine lv_iconst (v := 1) hx hb dX3_hasGap_69 (by decide) ?_
        exact RT 1 () _ _ _ _ dX3_hasGap_70 (Or.inr rfl) hw hP hD hS
      · have hw := hw.1 c59
        refine lv_iload_n hx hb dX3_hasGap_62 rfl (lv_at hl 2 rfl) ?_
        refine lv_iload hx hb dX3_hasGap_63 (lv_at hl 3 rfl) ?_
        refine lv_iand hx hb dX3_hasGap_65 ?_
        refine lv_if_eq (tgt := 71) hx hb dX3_hasGap_66 (by decide) (fun c66 => ?_) (fun c66 => ?_)
        · have hw := hw.1 c66
          refine lv_iinc (v := (x5_j16 + 1)) (lv' := [(5, .int (x5_j16 + 1)), (7, .int y7_55), (1, .int y1_42), (2, .int y2_37), (6, .int (v_rows x5_j16.toNatClampNeg)), (3, .ref (a 0)), (4, .int x4_j16)]) hx hb dX3_hasGap_71 hl (k := 6) rfl rfl (by decide) rfl (fun ls hl => ?_)
          refine lv_goto (tgt := 16) hx hb dX3_hasGap_74 (by decide) ?_
          exact ih16 (y1_42, y2_37, x4_j16, (x5_j16 + 1)) hw _ _ ls hP hD hS (lv_sub hl [2, 3, 5, 6, 0] rfl)
        · have hw := hw.2 c66
          refine lv_iconst (v := 1) hx hb dX3_hasGap_69 (by decide) ?_
          exact RT 1 () _ _ _ _ dX3_hasGap_70 (Or.inr rfl) hw hP hD hS
  refine lv_iconst (v := 0) hx hb dX3_hasGap_0 (by decide) ?_
  refine lv_istore_n (lv' := [(1, .int 0), (0, .ref h)]) hx hb dX3_hasGap_1 rfl hl (by decide) rfl (fun ls hl => ?_)
  refine lv_iconst (v := 0) hx hb dX3_hasGap_2 (by decide) ?_
  refine lv_istore_n (lv' := [(2, .int 0), (1, .int 0), (0, .ref h)]) hx hb dX3_hasGap_3 rfl hl (by decide) rfl (fun ls hl => ?_)
  refine lv_aload_n hx hb dX3_hasGap_4 rfl (lv_at hl 2 rfl) ?_
  refine va_get (D := D) (ci := 4) (v := .ref (a 0)) (C := RX3) (T := TX3) (N := 2) hx hb hts iRX3 hown hK hP 0 rfl rfl 0 (by decide) (hts (.fieldLink RX3 9 "Leadlight$Shape" "rows" "[I") (List.mem_of_getElem? (i := 1) rfl)) (fun _ h9 => h9) rfl dX3_hasGap_5 ?_
  refine lv_astore_n (lv' := [(3, .ref (a 0)), (2, .int 0), (1, .int 0), (0, .ref h)]) hx hb dX3_hasGap_8 rfl hl (by decide) rfl (fun ls hl => ?_)
  refine lv_aload_n hx hb dX3_hasGap_9 rfl (lv_at hl 0 rfl) ?_
  refine va_alen (v := 16) hx hb hK hP 1 0 rfl rfl rfl dX3_hasGap_10 ?_
  refine lv_istore (lv' := [(4, .int 16), (3, .ref (a 0)), (2, .int 0), (1, .int 0), (0, .ref h)]) hx hb dX3_hasGap_11 hl (by decide) rfl (fun ls hl => ?_)
  refine lv_iconst (v := 0) hx hb dX3_hasGap_13 (by decide) ?_
  refine lv_istore (lv' := [(5, .int 0), (4, .int 16), (3, .ref (a 0)), (2, .int 0), (1, .int 0), (0, .ref h)]) hx hb dX3_hasGap_14 hl (by decide) rfl (fun ls hl => ?_)
  exact L16 (0, 0, 16, 0) hw _ _ ls hP hD hS (lv_sub hl [4, 3, 2, 1, 0] rfl)
abbrev rm_X3_squaresBelow : Room := { frames := 1, cells := 0, slots := 0, locals := 20 }
abbrev W_X3_squaresBelow (h : Nat) (a : Nat → Nat) (cI cJ cZ : ClassId) (v_rows : Nat → Int32) : va_W := [(h, .inr (4, [.ref (a 0), .ref (a 1)])), ((a 0), .inl (cI, 16, .inl v_rows))]
def wp_X3_squaresBelow (v_rows : Nat → Int32) (p1 : Int32) (post : Int32 → Prop) : Prop := wp_X4_isRowLine p1 (fun r_1 => (r_1 = 0 → post 0) ∧ (¬ r_1 = 0 → vp_in p1 16 ∧ (vp_in (p1 + 1) 16 ∧ (∀ y2_24 : Int32, y2_24 = ((v_rows p1.toNatClampNeg) &&& (v_rows (p1 + 1).toNatClampNeg)) → post (y2_24 &&& ((y2_24).toUInt32 >>> ((1 : Int32).toUInt32 &&& Int32.toUInt32 31)).toInt32)))))
set_option maxHeartbeats 4000000 in
set_option maxRecDepth 100000 in
theorem c_X3_squaresBelow (l : Launch) (D : va_G) (cI cJ cZ cO : ClassId) (h : Nat) (a : Nat → Nat) (sz : Nat) (v_rows : Nat → Int32) (p1 : Int32) (post : Int32 → Prop) (hw : wp_X3_squaresBelow v_rows p1 post) : Met l yX3_squaresBelow wsX3_squaresBelow rm_X3_squaresBelow (va_Pc [.ref h, .int p1] (PRE D cI cJ cZ cO (W_X3_squaresBelow h a cI cJ cZ v_rows) sz)) (va_Qi (fun r (_ : Unit) => post r) (fun u t => POST D (va_A (W_X3_squaresBelow h a cI cJ cZ v_rows) sz) (W_X3_squaresBelow h a cI cJ cZ v_rows) t) (va_A (W_X3_squaresBelow h a cI cJ cZ v_rows) sz)) 0 0 (va_A (W_X3_squaresBelow h a cI cJ cZ v_rows) sz) := by
  refine met_go (cc := cX3_squaresBelow) (maxL := 3) (ret := some .int) RX3 rfl (by decide) rfl (Nat.le_of_ble_eq_true rfl) ?_
  intro p e s m args below meth c ls hx hb hr hts hown hlocks hin hml hsz hP hK hE hD hA hS hl
  have iRX3 : ∀ w ∈ u_ws RX3 TX3 2, w ∈ wsX3_squaresBelow := mem_seg 5 2 rfl
  generalize va_A (W_X3_squaresBelow h a cI cJ cZ v_rows) sz = A at hD hA hS ⊢
  have RT : ∀ (v : Int32) (u : Unit) (H : Heap) (locs : List Loc) (pc : Nat) (ls : Array Slot), decode cX3_squaresBelow pc = .ok (.ireturn, 1) → post v → va_P D vwCl (W_X3_squaresBelow h a cI cJ cZ v_rows) H → va_D A (W_X3_squaresBelow h a cI cJ cZ v_rows) → va_S A s.heap H locs → W p l e rm_X3_squaresBelow s m args below meth c H locs 0 0 (MQ below (va_Qi (fun r (_ : Unit) => post r) (fun u t => POST D A (W_X3_squaresBelow h a cI cJ cZ v_rows) t) A) args s 0 0 A) (F0 m pc ls [.int v]) := fun v u H locs pc ls d g1 g2 g3 g4 => rt_i (Wf := fun u => (W_X3_squaresBelow h a cI cJ cZ v_rows)) u hx hb hr hlocks g1 g2 g3 g4 d
  generalize (MQ below (va_Qi (fun r (_ : Unit) => post r) (fun u t => POST D A (W_X3_squaresBelow h a cI cJ cZ v_rows) t) A) args s 0 0 A) = QQ at RT ⊢
  have hl : lv_has ls 3 [(0, .ref h), (1, .int p1)] := hl
  have hP : va_P D vwCl (W_X3_squaresBelow h a cI cJ cZ v_rows) s.heap := hP
  unfold wp_X3_squaresBelow at hw
  suffices GO : ∀ (H : Heap) (locs : List Loc), va_P D vwCl (W_X3_squaresBelow h a cI cJ cZ v_rows) H → va_S A s.heap H locs → W p l e rm_X3_squaresBelow s m args below meth c H locs 0 0 QQ (F0 m 0 ls []) from GO _ _ hP hS
  clear hsz hP hS
  intro H locs hP hS
  refine lv_iload_n hx hb dX3_squaresBelow_0 rfl (lv_at hl 1 rfl) ?_
  refine af_i (X := (W_X3_squaresBelow h a cI cJ cZ v_rows)) (pl := []) (cx := ([] : va_W)) (w1 := fun (u : Unit) => ([] : va_W)) (X' := fun (u : Unit) => (W_X3_squaresBelow h a cI cJ cZ v_rows)) hP hD hS hA [] [0, 1] [0, 1] rfl rfl (by decide) (by decide) (fun u => rfl) (by decide) (va_runSN (As := [.int p1]) (rest := []) ⟨hx, hb, hml, hown, hts⟩ (c_X4_isRowLine l D cI cJ cZ cO H.size p1 _ hw) ⟨va_cnB 1 hts gX3_squaresBelow_X4_isRowLine_n33 rfl rfl rfl (hE.1 _ (List.mem_of_getElem? (i := 5) rfl)) (hts (.initialized RX4) (List.mem_of_getElem? (i := 3) rfl)) (by decide +kernel) ⟨Nat.le_of_ble_eq_true rfl, Nat.le_of_ble_eq_true rfl⟩, hts (.static yX4_isRowLine) (List.mem_of_getElem? (i := 2) rfl), trivial⟩ (preS (X := (W_X3_squaresBelow h a cI cJ cZ v_rows)) (pl := []) (cx := ([] : va_W)) hK hE hP hD [] (by decide) rfl) rfl rfl hl.1 rfl (lv_room (Nat.le_of_ble_eq_true rfl)) dX3_squaresBelow_1 ⟨Nat.zero_le _, Nat.zero_le _⟩) (fun r_1 _ H locs hw hP hD hS => ?_)
  try dsimp only at hw
  have hP : va_P D vwCl (W_X3_squaresBelow h a cI cJ cZ v_rows) H := hP
  have hD : va_D A (W_X3_squaresBelow h a cI cJ cZ v_rows) := hD
  refine lv_if_ne (tgt := 9) hx hb dX3_squaresBelow_4 (by decide) (fun c4 => ?_) (fun c4 => ?_)
  · have hw := hw.2 c4
    refine lv_aload_n hx hb dX3_squaresBelow_9 rfl (lv_at hl 0 rfl) ?_
    refine va_get (D := D) (ci := 4) (v := .ref (a 0)) (C := RX3) (T := TX3) (N := 2) hx hb hts iRX3 hown hK hP 0 rfl rfl 0 (by decide) (hts (.fieldLink RX3 9 "Leadlight$Shape" "rows" "[I") (List.mem_of_getElem? (i := 1) rfl)) (fun _ h9 => h9) rfl dX3_squaresBelow_10 ?_
    refine lv_iload_n hx hb dX3_squaresBelow_13 rfl (lv_at hl 1 rfl) ?_
    obtain ⟨hi_14, hw⟩ := hw
    refine va_iald hx hb hK hP 1 0 rfl rfl hi_14 dX3_squaresBelow_14 ?_
    refine lv_aload_n hx hb dX3_squaresBelow_15 rfl (lv_at hl 0 rfl) ?_
    refine va_get (D := D) (ci := 4) (v := .ref (a 0)) (C := RX3) (T := TX3) (N := 2) hx hb hts iRX3 hown hK hP 0 rfl rfl 0 (by decide) (hts (.fieldLink RX3 9 "Leadlight$Shape" "rows" "[I") (List.mem_of_getElem? (i := 1) rfl)) (fun _ h9 => h9) rfl dX3_squaresBelow_16 ?_
    refine lv_iload_n hx hb dX3_squaresBelow_19 rfl (lv_at hl 1 rfl) ?_
    refine lv_iconst (v := 1) hx hb dX3_squaresBelow_20 (by decide) ?_
    refine lv_iadd hx hb dX3_squaresBelow_21 ?_
    obtain ⟨hi_22, hw⟩ := hw
    refine va_iald hx hb hK hP 1 0 rfl rfl hi_22 dX3_squaresBelow_22 ?_
    refine lv_iand hx hb dX3_squaresBelow_23 ?_
    refine lv_topi (fun y2_24 ey2_24 => ?_)
    have hw := hw y2_24 ey2_24
    refine lv_istore_n (lv' := [(2, .int y2_24), (0, .ref h), (1, .int p1)]) hx hb dX3_squaresBelow_24 rfl hl (by decide) rfl (fun ls hl => ?_)
    refine lv_iload_n hx hb dX3_squaresBelow_25 rfl (lv_at hl 0 rfl) ?_
    refine lv_iload_n hx hb dX3_squaresBelow_26 rfl (lv_at hl 0 rfl) ?_
    refine lv_iconst (v := 1) hx hb dX3_squaresBelow_27 (by decide) ?_
    refine lv_iushr (v := ((y2_24).toUInt32 >>> ((1 : Int32).toUInt32 &&& Int32.toUInt32 31)).toInt32) hx hb dX3_squaresBelow_28 rfl ?_
    refine lv_iand hx hb dX3_squaresBelow_29 ?_
    exact RT (y2_24 &&& ((y2_24).toUInt32 >>> ((1 : Int32).toUInt32 &&& Int32.toUInt32 31)).toInt32) () _ _ _ _ dX3_squaresBelow_30 hw hP hD hS
  · have hw := hw.1 c4
    refine lv_iconst (v := 0) hx hb dX3_squaresBelow_7 (by decide) ?_
    exact RT 0 () _ _ _ _ dX3_squaresBelow_8 hw hP hD hS
abbrev rm_X3_isThin : Room := { frames := 2, cells := 0, slots := 0, locals := 42 }
abbrev W_X3_isThin (h : Nat) (a : Nat → Nat) (cI cJ cZ : ClassId) (v_rows : Nat → Int32) : va_W := [(h, .inr (4, [.ref (a 0), .ref (a 1)])), ((a 0), .inl (cI, 16, .inl v_rows))]
def wp_X3_isThin_2 (v_rows : Nat → Int32) (post : Int32 → Prop) (K2 : Int32 → Prop) (x1_j2 : Int32) : Prop := (16 ≤ x1_j2 → post 0) ∧ (¬ 16 ≤ x1_j2 → wp_X3_squaresBelow v_rows (x1_j2 - 1) (fun r_12 => wp_X3_squaresBelow v_rows x1_j2 (fun r_17 => vp_in x1_j2 16 ∧ ((((v_rows x1_j2.toNatClampNeg) &&& (((r_12 ||| r_17) ||| ((r_12 ||| r_17) <<< (1 &&& 31))) ^^^ (-1))) = 0 → K2 (x1_j2 + 1)) ∧ (¬ ((v_rows x1_j2.toNatClampNeg) &&& (((r_12 ||| r_17) ||| ((r_12 ||| r_17) <<< (1 &&& 31))) ^^^ (-1))) = 0 → post 1)))))
def lF_X3_isThin_2 (v_rows : Nat → Int32) (post : Int32 → Prop) : (Int32 → Prop) → Int32 → Prop := fun K s => wp_X3_isThin_2 v_rows post (fun b0 => K b0) s
def wp_X3_isThin (v_rows : Nat → Int32) (post : Int32 → Prop) : Prop := lp (lF_X3_isThin_2 v_rows post) 0
set_option maxHeartbeats 4000000 in
set_option maxRecDepth 100000 in
theorem c_X3_isThin (l : Launch) (D : va_G) (cI cJ cZ cO : ClassId) (h : Nat) (a : Nat → Nat) (sz : Nat) (v_rows : Nat → Int32) (post : Int32 → Prop) (hw : wp_X3_isThin v_rows post) : Met l yX3_isThin wsX3_isThin rm_X3_isThin (va_Pc [.ref h] (PRE D cI cJ cZ cO (W_X3_isThin h a cI cJ cZ v_rows) sz)) (va_Qi (fun r (_ : Unit) => post r) (fun u t => POST D (va_A (W_X3_isThin h a cI cJ cZ v_rows) sz) (W_X3_isThin h a cI cJ cZ v_rows) t) (va_A (W_X3_isThin h a cI cJ cZ v_rows) sz)) 0 0 (va_A (W_X3_isThin h a cI cJ cZ v_rows) sz) := by
  refine met_go (cc := cX3_isThin) (maxL := 3) (ret := some .boolean) RX3 rfl (by decide) rfl (Nat.le_of_ble_eq_true rfl) ?_
  intro p e s m args below meth c ls hx hb hr hts hown hlocks hin hml hsz hP hK hE hD hA hS hl
  have iRX3 : ∀ w ∈ u_ws RX3 TX3 2, w ∈ wsX3_isThin := mem_seg 10 2 rfl
  generalize va_A (W_X3_isThin h a cI cJ cZ v_rows) sz = A at hD hA hS ⊢
  have RT : ∀ (v : Int32) (u : Unit) (H : Heap) (locs : List Loc) (pc : Nat) (ls : Array Slot), decode cX3_isThin pc = .ok (.ireturn, 1) → (v = 0 ∨ v = 1) → post v → va_P D vwCl (W_X3_isThin h a cI cJ cZ v_rows) H → va_D A (W_X3_isThin h a cI cJ cZ v_rows) → va_S A s.heap H locs → W p l e rm_X3_isThin s m args below meth c H locs 0 0 (MQ below (va_Qi (fun r (_ : Unit) => post r) (fun u t => POST D A (W_X3_isThin h a cI cJ cZ v_rows) t) A) args s 0 0 A) (F0 m pc ls [.int v]) := fun v u H locs pc ls d g0 g1 g2 g3 g4 => rt_z (Wf := fun u => (W_X3_isThin h a cI cJ cZ v_rows)) u hx hb hr hlocks g0 g1 g2 g3 g4 d
  generalize (MQ below (va_Qi (fun r (_ : Unit) => post r) (fun u t => POST D A (W_X3_isThin h a cI cJ cZ v_rows) t) A) args s 0 0 A) = QQ at RT ⊢
  have hl : lv_has ls 3 [(0, .ref h)] := hl
  have hP : va_P D vwCl (W_X3_isThin h a cI cJ cZ v_rows) s.heap := hP
  unfold wp_X3_isThin at hw
  suffices GO : ∀ (H : Heap) (locs : List Loc), va_P D vwCl (W_X3_isThin h a cI cJ cZ v_rows) H → va_S A s.heap H locs → W p l e rm_X3_isThin s m args below meth c H locs 0 0 QQ (F0 m 0 ls []) from GO _ _ hP hS
  clear hsz hP hS
  intro H locs hP hS
  have L2 : ∀ s0 : Int32, lp (lF_X3_isThin_2 v_rows post) s0 → ∀ (H : Heap) (locs : List Loc) (ls : Array Slot), va_P D vwCl (W_X3_isThin h a cI cJ cZ v_rows) H → va_D A (W_X3_isThin h a cI cJ cZ v_rows) → va_S A s.heap H locs → lv_has ls 3 [(0, .ref h), (1, .int s0)] → W p l e rm_X3_isThin s m args below meth c H locs 0 0 QQ (F0 m 2 ls []) := by
    refine lp_elim (fun K2 ih2 s0 hw => ?_)
    obtain ⟨x1_j2, rfl⟩ : ∃ z, z = s0 := ⟨_, rfl⟩
    intro H locs ls hP hD hS hl
    have hw : wp_X3_isThin_2 v_rows post K2 x1_j2 := hw
    have hP : va_P D vwCl (W_X3_isThin h a cI cJ cZ v_rows) H := hP
    have hD : va_D A (W_X3_isThin h a cI cJ cZ v_rows) := hD
    have hl : lv_has ls 3 [(0, .ref h), (1, .int x1_j2)] := hl
    unfold wp_X3_isThin_2 at hw
    refine lv_iload_n hx hb dX3_isThin_2 rfl (lv_at hl 1 rfl) ?_
    refine lv_bipush (v := 16) hx hb dX3_isThin_3 (by decide) ?_
    refine lv_icmp_ge (tgt := 47) hx hb dX3_isThin_5 (by decide) (fun c5 => ?_) (fun c5 => ?_)
    · have hw := hw.1 c5
      refine lv_iconst (v := 0) hx hb dX3_isThin_47 (by decide) ?_
      exact RT 0 () _ _ _ _ dX3_isThin_48 (Or.inl rfl) hw hP hD hS
    · have hw := hw.2 c5
      refine lv_aload_n hx hb dX3_isThin_8 rfl (lv_at hl 0 rfl) ?_
      refine lv_iload_n hx hb dX3_isThin_9 rfl (lv_at hl 1 rfl) ?_
      refine lv_iconst (v := 1) hx hb dX3_isThin_10 (by decide) ?_
      refine lv_isub hx hb dX3_isThin_11 ?_
      refine af_i (X := (W_X3_isThin h a cI cJ cZ v_rows)) (pl := []) (cx := (W_X3_squaresBelow h a cI cJ cZ v_rows)) (w1 := fun (u : Unit) => (W_X3_squaresBelow h a cI cJ cZ v_rows)) (X' := fun (u : Unit) => (W_X3_isThin h a cI cJ cZ v_rows)) hP hD hS hA [0, 1] [] [0, 1] rfl rfl (by decide) (by decide) (fun u => rfl) (by decide) (va_runV (As := [.int (x1_j2 - 1)]) (rest := []) ⟨hx, hb, hml, hown, hts⟩ (c_X3_squaresBelow l D cI cJ cZ cO h a H.size v_rows (x1_j2 - 1) _ hw) (cwV 1 hts gX3_isThin_X3_squaresBelow rfl rfl rfl (by decide +kernel) ⟨Nat.le_of_ble_eq_true rfl, Nat.le_of_ble_eq_true rfl⟩) (preV (X := (W_X3_isThin h a cI cJ cZ v_rows)) (pl := []) (cx := (W_X3_squaresBelow h a cI cJ cZ v_rows)) (qb := 0) (ci := 4) hK hE hP hD [0, 1] (by decide) rfl rfl rfl) rfl rfl hl.1 rfl (lv_room (Nat.le_of_ble_eq_true rfl)) dX3_isThin_12 ⟨Nat.zero_le _, Nat.zero_le _⟩) (fun r_12 _ H locs hw hP hD hS => ?_)
      try dsimp only at hw
      have hP : va_P D vwCl (W_X3_isThin h a cI cJ cZ v_rows) H := hP
      have hD : va_D A (W_X3_isThin h a cI cJ cZ v_rows) := hD
      refine lv_aload_n hx hb dX3_isThin_15 rfl (lv_at hl 0 rfl) ?_
      refine lv_iload_n hx hb dX3_isThin_16 rfl (lv_at hl 1 rfl) ?_
      refine af_i (X := (W_X3_isThin h a cI cJ cZ v_rows)) (pl := []) (cx := (W_X3_squaresBelow h a cI cJ cZ v_rows)) (w1 := fun (u : Unit) => (W_X3_squaresBelow h a cI cJ cZ v_rows)) (X' := fun (u : Unit) => (W_X3_isThin h a cI cJ cZ v_rows)) hP hD hS hA [0, 1] [] [0, 1] rfl rfl (by decide) (by decide) (fun u => rfl) (by decide) (va_runV (As := [.int x1_j2]) (rest := [.int r_12]) ⟨hx, hb, hml, hown, hts⟩ (c_X3_squaresBelow l D cI cJ cZ cO h a H.size v_rows x1_j2 _ hw) (cwV 1 hts gX3_isThin_X3_squaresBelow rfl rfl rfl (by decide +kernel) ⟨Nat.le_of_ble_eq_true rfl, Nat.le_of_ble_eq_true rfl⟩) (preV (X := (W_X3_isThin h a cI cJ cZ v_rows)) (pl := []) (cx := (W_X3_squaresBelow h a cI cJ cZ v_rows)) (qb := 0) (ci := 4) hK hE hP hD [0, 1] (by decide) rfl rfl rfl) rfl rfl hl.1 rfl (lv_room (Nat.le_of_ble_eq_true rfl)) dX3_isThin_17 ⟨Nat.zero_le _, Nat.zero_le _⟩) (fun r_17 _ H locs hw hP hD hS => ?_)
      try dsimp only at hw
      have hP : va_P D vwCl (W_X3_isThin h a cI cJ cZ v_rows) H := hP
      have hD : va_D A (W_X3_isThin h a cI cJ cZ v_rows) := hD
      refine lv_ior hx hb dX3_isThin_20 ?_
      refine lv_istore_n (lv' := [(2, .int (r_12 ||| r_17)), (0, .ref h), (1, .int x1_j2)]) hx hb dX3_isThin_21 rfl hl (by decide) rfl (fun ls hl => ?_)
      refine lv_aload_n hx hb dX3_isThin_22 rfl (lv_at hl 1 rfl) ?_
      refine va_get (D := D) (ci := 4) (v := .ref (a 0)) (C := RX3) (T := TX3) (N := 2) hx hb hts iRX3 hown hK hP 0 rfl rfl 0 (by decide) (hts (.fieldLink RX3 9 "Leadlight$Shape" "rows" "[I") (List.mem_of_getElem? (i := 1) rfl)) (fun _ h9 => h9) rfl dX3_isThin_23 ?_
      refine lv_iload_n hx hb dX3_isThin_26 rfl (lv_at hl 2 rfl) ?_
      obtain ⟨hi_27, hw⟩ := hw
      refine va_iald hx hb hK hP 1 0 rfl rfl hi_27 dX3_isThin_27 ?_
      refine lv_iload_n hx hb dX3_isThin_28 rfl (lv_at hl 0 rfl) ?_
      refine lv_iload_n hx hb dX3_isThin_29 rfl (lv_at hl 0 rfl) ?_
      refine lv_iconst (v := 1) hx hb dX3_isThin_30 (by decide) ?_
      refine lv_ishl hx hb dX3_isThin_31 ?_
      refine lv_ior hx hb dX3_isThin_32 ?_
      refine lv_iconst (v := (-1)) hx hb dX3_isThin_33 (by decide) ?_
      refine lv_ixor hx hb dX3_isThin_34 ?_
      refine lv_iand hx hb dX3_isThin_35 ?_
      refine lv_if_eq (tgt := 41) hx hb dX3_isThin_36 (by decide) (fun c36 => ?_) (fun c36 => ?_)
      · have hw := hw.1 c36
        refine lv_iinc (v := (x1_j2 + 1)) (lv' := [(1, .int (x1_j2 + 1)), (2, .int (r_12 ||| r_17)), (0, .ref h)]) hx hb dX3_isThin_41 hl (k := 2) rfl rfl (by decide) rfl (fun ls hl => ?_)
        refine lv_goto (tgt := 2) hx hb dX3_isThin_44 (by decide) ?_
        exact ih2 (x1_j2 + 1) hw _ _ ls hP hD hS (lv_sub hl [2, 0] rfl)
      · have hw := hw.2 c36
        refine lv_iconst (v := 1) hx hb dX3_isThin_39 (by decide) ?_
        exact RT 1 () _ _ _ _ dX3_isThin_40 (Or.inr rfl) hw hP hD hS
  refine lv_iconst (v := 0) hx hb dX3_isThin_0 (by decide) ?_
  refine lv_istore_n (lv' := [(1, .int 0), (0, .ref h)]) hx hb dX3_isThin_1 rfl hl (by decide) rfl (fun ls hl => ?_)
  exact L2 0 hw _ _ ls hP hD hS (lv_sub hl [1, 0] rfl)
abbrev rm_X3_cutFault : Room := { frames := 3, cells := 0, slots := 0, locals := 64 }
abbrev W_X3_cutFault (h : Nat) (a : Nat → Nat) (cI cJ cZ : ClassId) (v_rows : Nat → Int32) : va_W := [(h, .inr (4, [.ref (a 0), .ref (a 1)])), ((a 0), .inl (cI, 16, .inl v_rows))]
def wp_X3_cutFault (v_rows : Nat → Int32) (post : Int32 → Prop) : Prop := wp_X3_hasGap v_rows (fun r_1 => (r_1 = 0 → wp_X3_isThin v_rows (fun r_10 => (r_10 = 0 → post 0) ∧ (¬ r_10 = 0 → post 2))) ∧ (¬ r_1 = 0 → post 1))
set_option maxHeartbeats 4000000 in
set_option maxRecDepth 100000 in
theorem c_X3_cutFault (l : Launch) (D : va_G) (cI cJ cZ cO : ClassId) (h : Nat) (a : Nat → Nat) (sz : Nat) (v_rows : Nat → Int32) (post : Int32 → Prop) (hw : wp_X3_cutFault v_rows post) : Met l yX3_cutFault wsX3_cutFault rm_X3_cutFault (va_Pc [.ref h] (PRE D cI cJ cZ cO (W_X3_cutFault h a cI cJ cZ v_rows) sz)) (va_Qi (fun r (_ : Unit) => post r) (fun u t => POST D (va_A (W_X3_cutFault h a cI cJ cZ v_rows) sz) (W_X3_cutFault h a cI cJ cZ v_rows) t) (va_A (W_X3_cutFault h a cI cJ cZ v_rows) sz)) 0 0 (va_A (W_X3_cutFault h a cI cJ cZ v_rows) sz) := by
  refine met_go (cc := cX3_cutFault) (maxL := 1) (ret := some .int) RX3 rfl (by decide) rfl (Nat.le_of_ble_eq_true rfl) ?_
  intro p e s m args below meth c ls hx hb hr hts hown hlocks hin hml hsz hP hK hE hD hA hS hl
  have iRX3 : ∀ w ∈ u_ws RX3 TX3 2, w ∈ wsX3_cutFault := mem_seg 18 2 rfl
  generalize va_A (W_X3_cutFault h a cI cJ cZ v_rows) sz = A at hD hA hS ⊢
  have RT : ∀ (v : Int32) (u : Unit) (H : Heap) (locs : List Loc) (pc : Nat) (ls : Array Slot), decode cX3_cutFault pc = .ok (.ireturn, 1) → post v → va_P D vwCl (W_X3_cutFault h a cI cJ cZ v_rows) H → va_D A (W_X3_cutFault h a cI cJ cZ v_rows) → va_S A s.heap H locs → W p l e rm_X3_cutFault s m args below meth c H locs 0 0 (MQ below (va_Qi (fun r (_ : Unit) => post r) (fun u t => POST D A (W_X3_cutFault h a cI cJ cZ v_rows) t) A) args s 0 0 A) (F0 m pc ls [.int v]) := fun v u H locs pc ls d g1 g2 g3 g4 => rt_i (Wf := fun u => (W_X3_cutFault h a cI cJ cZ v_rows)) u hx hb hr hlocks g1 g2 g3 g4 d
  generalize (MQ below (va_Qi (fun r (_ : Unit) => post r) (fun u t => POST D A (W_X3_cutFault h a cI cJ cZ v_rows) t) A) args s 0 0 A) = QQ at RT ⊢
  have hl : lv_has ls 1 [(0, .ref h)] := hl
  have hP : va_P D vwCl (W_X3_cutFault h a cI cJ cZ v_rows) s.heap := hP
  unfold wp_X3_cutFault at hw
  suffices GO : ∀ (H : Heap) (locs : List Loc), va_P D vwCl (W_X3_cutFault h a cI cJ cZ v_rows) H → va_S A s.heap H locs → W p l e rm_X3_cutFault s m args below meth c H locs 0 0 QQ (F0 m 0 ls []) from GO _ _ hP hS
  clear hsz hP hS
  intro H locs hP hS
  refine lv_aload_n hx hb dX3_cutFault_0 rfl (lv_at hl 0 rfl) ?_
  refine af_i (X := (W_X3_cutFault h a cI cJ cZ v_rows)) (pl := []) (cx := (W_X3_hasGap h a cI cJ cZ v_rows)) (w1 := fun (u : Unit) => (W_X3_hasGap h a cI cJ cZ v_rows)) (X' := fun (u : Unit) => (W_X3_cutFault h a cI cJ cZ v_rows)) hP hD hS hA [0, 1] [] [0, 1] rfl rfl (by decide) (by decide) (fun u => rfl) (by decide) (va_runV (As := []) (rest := []) ⟨hx, hb, hml, hown, hts⟩ (c_X3_hasGap l D cI cJ cZ cO h a H.size v_rows _ hw) (cwV 0 hts gX3_cutFault_X3_hasGap rfl rfl rfl (by decide +kernel) ⟨Nat.le_of_ble_eq_true rfl, Nat.le_of_ble_eq_true rfl⟩) (preV (X := (W_X3_cutFault h a cI cJ cZ v_rows)) (pl := []) (cx := (W_X3_hasGap h a cI cJ cZ v_rows)) (qb := 0) (ci := 4) hK hE hP hD [0, 1] (by decide) rfl rfl rfl) rfl rfl hl.1 rfl (lv_room (Nat.le_of_ble_eq_true rfl)) dX3_cutFault_1 ⟨Nat.zero_le _, Nat.zero_le _⟩) (fun r_1 _ H locs hw hP hD hS => ?_)
  try dsimp only at hw
  have hP : va_P D vwCl (W_X3_cutFault h a cI cJ cZ v_rows) H := hP
  have hD : va_D A (W_X3_cutFault h a cI cJ cZ v_rows) := hD
  refine lv_if_eq (tgt := 9) hx hb dX3_cutFault_4 (by decide) (fun c4 => ?_) (fun c4 => ?_)
  · have hw := hw.1 c4
    refine lv_aload_n hx hb dX3_cutFault_9 rfl (lv_at hl 0 rfl) ?_
    refine af_i (X := (W_X3_cutFault h a cI cJ cZ v_rows)) (pl := []) (cx := (W_X3_isThin h a cI cJ cZ v_rows)) (w1 := fun (u : Unit) => (W_X3_isThin h a cI cJ cZ v_rows)) (X' := fun (u : Unit) => (W_X3_cutFault h a cI cJ cZ v_rows)) hP hD hS hA [0, 1] [] [0, 1] rfl rfl (by decide) (by decide) (fun u => rfl) (by decide) (va_runV (As := []) (rest := []) ⟨hx, hb, hml, hown, hts⟩ (c_X3_isThin l D cI cJ cZ cO h a H.size v_rows _ hw) (cwV 0 hts gX3_cutFault_X3_isThin rfl rfl rfl (by decide +kernel) ⟨Nat.le_of_ble_eq_true rfl, Nat.le_of_ble_eq_true rfl⟩) (preV (X := (W_X3_cutFault h a cI cJ cZ v_rows)) (pl := []) (cx := (W_X3_isThin h a cI cJ cZ v_rows)) (qb := 0) (ci := 4) hK hE hP hD [0, 1] (by decide) rfl rfl rfl) rfl rfl hl.1 rfl (lv_room (Nat.le_of_ble_eq_true rfl)) dX3_cutFault_10 ⟨Nat.zero_le _, Nat.zero_le _⟩) (fun r_10 _ H locs hw hP hD hS => ?_)
    try dsimp only at hw
    have hP : va_P D vwCl (W_X3_cutFault h a cI cJ cZ v_rows) H := hP
    have hD : va_D A (W_X3_cutFault h a cI cJ cZ v_rows) := hD
    refine lv_if_eq (tgt := 20) hx hb dX3_cutFault_13 (by decide) (fun c13 => ?_) (fun c13 => ?_)
    · have hw := hw.1 c13
      refine lv_iconst (v := 0) hx hb dX3_cutFault_20 (by decide) ?_
      exact RT 0 () _ _ _ _ dX3_cutFault_21 hw hP hD hS
    · have hw := hw.2 c13
      refine lv_iconst (v := 2) hx hb dX3_cutFault_16 (by decide) ?_
      refine lv_goto (tgt := 21) hx hb dX3_cutFault_17 (by decide) ?_
      exact RT 2 () _ _ _ _ dX3_cutFault_21 hw hP hD hS
  · have hw := hw.2 c4
    refine lv_iconst (v := 1) hx hb dX3_cutFault_7 (by decide) ?_
    exact RT 1 () _ _ _ _ dX3_cutFault_8 hw hP hD hS
