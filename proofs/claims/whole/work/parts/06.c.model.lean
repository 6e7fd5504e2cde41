/-! printed by wip/whole/gen: X5_box X5_layersOf X5_piece X5_along X5_bestLine X5_at X5_length X5_lead X5_joints X5_weight X5_canGoIn X5_assembled -/
abbrev rm_X5_box : Room := { frames := 0, cells := 0, slots := 0, locals := 0 }
abbrev W_X5_box (h : Nat) (a : Nat → Nat) (cI cJ cZ : ClassId) (v_thrown : Int32) (v_made : Int32) (v_of : Nat → Int32) (v_heart : Int32) (v_width : Int32) (v_sheets : Int32) (v_covered : Int32) : va_W := [(h, .inr (6, [.int v_thrown, .int v_made, .ref (a 2), .ref (a 3), .ref (a 4), .ref (a 5), .ref (a 6), .ref (a 7), .ref (a 8), .ref (a 9), .ref (a 10), .ref (a 11), .int v_heart, .int v_width, .ref (a 14), .ref (a 15), .ref (a 16), .ref (a 17), .ref (a 18), .ref (a 19), .ref (a 20), .ref (a 21), .int v_sheets, .int v_covered])), ((a 2), .inl (cI, 256, .inl v_of))]
def wp_X5_box_85 (v_of : Nat → Int32) (p1 : Int32) (p2 : Int32) (post : Int32 → Prop) (K9 : Int32 → Int32 → Int32 → Prop) (s0_j85 : Int32) (x3_j85 : Int32) (x5_j85 : Int32) : Prop := K9 x3_j85 s0_j85 (x5_j85 + 1)
def wp_X5_box_59 (v_of : Nat → Int32) (p1 : Int32) (p2 : Int32) (post : Int32 → Prop) (K9 : Int32 → Int32 → Int32 → Prop) (s0_j59 : Int32) (x4_j59 : Int32) (x5_j59 : Int32) (x6_j59 : Int32) : Prop := vp_in x5_j59 256 ∧ (((v_of x5_j59.toNatClampNeg) = p1 → (x6_j59 ≤ x4_j59 → wp_X5_box_85 v_of p1 p2 post K9 x4_j59 s0_j59 x5_j59) ∧ (¬ x6_j59 ≤ x4_j59 → wp_X5_box_85 v_of p1 p2 post K9 x6_j59 s0_j59 x5_j59)) ∧ (¬ (v_of x5_j59.toNatClampNeg) = p1 → wp_X5_box_85 v_of p1 p2 post K9 x4_j59 s0_j59 x5_j59))
def wp_X5_box_34 (v_of : Nat → Int32) (p1 : Int32) (p2 : Int32) (post : Int32 → Prop) (K9 : Int32 → Int32 → Int32 → Prop) (s0_j34 : Int32) (x3_j34 : Int32) (x4_j34 : Int32) (x5_j34 : Int32) : Prop := vp_in x5_j34 256 ∧ (((v_of x5_j34.toNatClampNeg) = p1 → (x3_j34 ≤ s0_j34 → wp_X5_box_59 v_of p1 p2 post K9 x3_j34 x4_j34 x5_j34 s0_j34) ∧ (¬ x3_j34 ≤ s0_j34 → wp_X5_box_59 v_of p1 p2 post K9 s0_j34 x4_j34 x5_j34 s0_j34)) ∧ (¬ (v_of x5_j34.toNatClampNeg) = p1 → wp_X5_box_59 v_of p1 p2 post K9 x3_j34 x4_j34 x5_j34 s0_j34))
def wp_X5_box_9 (v_of : Nat → Int32) (p1 : Int32) (p2 : Int32) (post : Int32 → Prop) (K9 : Int32 → Int32 → Int32 → Prop) (x3_j9 : Int32) (x4_j9 : Int32) (x5_j9 : Int32) : Prop := (256 ≤ x5_j9 → post ((x4_j9 - x3_j9) + 1)) ∧ (¬ 256 ≤ x5_j9 → (p2 = 0 → wp_X5_box_34 v_of p1 p2 post K9 (x5_j9 - x5_j9 / 16 * 16) x3_j9 x4_j9 x5_j9) ∧ (¬ p2 = 0 → wp_X5_box_34 v_of p1 p2 post K9 (x5_j9 / 16) x3_j9 x4_j9 x5_j9))
def lF_X5_box_9 (v_of : Nat → Int32) (p1 : Int32) (p2 : Int32) (post : Int32 → Prop) : ((Int32 × Int32 × Int32) → Prop) → (Int32 × Int32 × Int32) → Prop := fun K s => wp_X5_box_9 v_of p1 p2 post (fun b0 b1 b2 => K (b0, b1, b2)) s.1 s.2.1 s.2.2
def wp_X5_box (v_of : Nat → Int32) (p1 : Int32) (p2 : Int32) (post : Int32 → Prop) : Prop := lp (lF_X5_box_9 v_of p1 p2 post) (16, (-1), 0)
set_option maxHeartbeats 4000000 in
set_option maxRecDepth 100000 in
theorem c_X5_box (l : Launch) (D : va_G) (cI cJ cZ cO : ClassId) (h : Nat) (a : Nat → Nat) (sz : Nat) (v_thrown : Int32) (v_made : Int32) (v_of : Nat → Int32) (v_heart : Int32) (v_width : Int32) (v_sheets : Int32) (v_covered : Int32) (p1 : Int32) (p2 : Int32) (post : Int32 → Prop) (hw : wp_X5_box v_of p1 p2 post) : Met l yX5_box wsX5_box rm_X5_box (va_Pc [.ref h, .int p1, .int p2] (PRE D cI cJ cZ cO (W_X5_box h a cI cJ cZ v_thrown v_made v_of v_heart v_width v_sheets v_covered) sz)) (va_Qi (fun r (_ : Unit) => post r) (fun u t => POST D (va_A (W_X5_box h a cI cJ cZ v_thrown v_made v_of v_heart v_width v_sheets v_covered) sz) (W_X5_box h a cI cJ cZ v_thrown v_made v_of v_heart v_width v_sheets v_covered) t) (va_A (W_X5_box h a cI cJ cZ v_thrown v_made v_of v_heart v_width v_sheets v_covered) sz)) 0 0 (va_A (W_X5_box h a cI cJ cZ v_thrown v_made v_of v_heart v_width v_sheets v_covered) sz) := by
  refine met_go (cc := cX5_box) (maxL := 7) (ret := some .int) RX5 rfl (by decide) rfl (Nat.le_of_ble_eq_true rfl) ?_
  intro p e s m args below meth c ls hx hb hr hts hown hlocks hin hml hsz hP hK hE hD hA hS hl
  have iRX5 : ∀ w ∈ u_ws RX5 TX5 24, w ∈ wsX5_box := mem_seg 2 24 rfl
  generalize va_A (W_X5_box h a cI cJ cZ v_thrown v_made v_of v_heart v_width v_sheets v_covered) sz = A at hD hA hS ⊢
  have RT : ∀ (v : Int32) (u : Unit) (H : Heap) (locs : List Loc) (pc : Nat) (ls : Array Slot), decode cX5_box pc = .ok (.ireturn, 1) → post v → va_P D vwCl (W_X5_box h a cI cJ cZ v_thrown v_made v_of v_heart v_width v_sheets v_covered) H → va_D A (W_X5_box h a cI cJ cZ v_thrown v_made v_of v_heart v_width v_sheets v_covered) → va_S A s.heap H locs → W p l e rm_X5_box s m args below meth c H locs 0 0 (MQ below (va_Qi (fun r (_ : Unit) => post r) (fun u t => POST D A (W_X5_box h a cI cJ cZ v_thrown v_made v_of v_heart v_width v_sheets v_covered) t) A) args s 0 0 A) (F0 m pc ls [.int v]) := fun v u H locs pc ls d g1 g2 g3 g4 => rt_i (Wf := fun u => (W_X5_box h a cI cJ cZ v_thrown v_made v_of v_heart v_width v_sheets v_covered)) u hx hb hr hlocks g1 g2 g3 g4 d
  generalize (MQ below (va_Qi (fun r (_ : Unit) => post r) (fun u t => POST D A (W_X5_box h a cI cJ cZ v_thrown v_made v_of v_heart v_width v_sheets v_covered) t) A) args s 0 0 A) = QQ at RT ⊢
  have hl : lv_has ls 7 [(0, .ref h), (1, .int p1), (2, .int p2)] := hl
  have hP : va_P D vwCl (W_X5_box h a cI cJ cZ v_thrown v_made v_of v_heart v_width v_sheets v_covered) s.heap := hP
  unfold wp_X5_box at hw
  suffices GO : ∀ (H : Heap) (locs : List Loc), va_P D vwCl (W_X5_box h a cI cJ cZ v_thrown v_made v_of v_heart v_width v_sheets v_covered) H → va_S A s.heap H locs → W p l e rm_X5_box s m args below meth c H locs 0 0 QQ (F0 m 0 ls []) from GO _ _ hP hS
  clear hsz hP hS
  intro H locs hP hS
  have L9 : ∀ s0 : (Int32 × Int32 × Int32), lp (lF_X5_box_9 v_of p1 p2 post) s0 → ∀ (H : Heap) (locs : List Loc) (ls : Array Slot), va_P D vwCl (W_X5_box h a cI cJ cZ v_thrown v_made v_of v_heart v_width v_sheets v_covered) H → va_D A (W_X5_box h a cI cJ cZ v_thrown v_made v_of v_heart v_width v_sheets v_covered) → va_S A s.heap H locs → lv_has ls 7 [(0, .ref h), (1, .int p1), (2, .int p2), (3, .int s0.1), (4, .int s0.2.1), (5, .int s0.2.2)] → W p l e rm_X5_box s m args below meth c H locs 0 0 QQ (F0 m 9 ls []) := by
    refine lp_elim (fun K9 ih9 s0 hw => ?_)
    obtain ⟨x3_j9, x4_j9, x5_j9⟩ := s0
    intro H locs ls hP hD hS hl
    have hw : wp_X5_box_9 v_of p1 p2 post (fun b0 b1 b2 => K9 (b0, b1, b2)) x3_j9 x4_j9 x5_j9 := hw
    have hP : va_P D vwCl (W_X5_box h a cI cJ cZ v_thrown v_made v_of v_heart v_width v_sheets v_covered) H := hP
    have hD : va_D A (W_X5_box h a cI cJ cZ v_thrown v_made v_of v_heart v_width v_sheets v_covered) := hD
    have hl : lv_has ls 7 [(0, .ref h), (1, .int p1), (2, .int p2), (3, .int x3_j9), (4, .int x4_j9), (5, .int x5_j9)] := hl
    have J85 : ∀ (s0_j85 : Int32) (x3_j85 : Int32) (x5_j85 : Int32) , wp_X5_box_85 v_of p1 p2 post (fun b0 b1 b2 => K9 (b0, b1, b2)) s0_j85 x3_j85 x5_j85 → ∀ (H : Heap) (locs : List Loc) (ls : Array Slot), va_P D vwCl (W_X5_box h a cI cJ cZ v_thrown v_made v_of v_heart v_width v_sheets v_covered) H → va_D A (W_X5_box h a cI cJ cZ v_thrown v_made v_of v_heart v_width v_sheets v_covered) → va_S A s.heap H locs → lv_has ls 7 [(0, .ref h), (1, .int p1), (2, .int p2), (3, .int x3_j85), (5, .int x5_j85)] → W p l e rm_X5_box s m args below meth c H locs 0 0 QQ (F0 m 85 ls [.int s0_j85]) := by
      intro s0_j85 x3_j85 x5_j85 hw H locs ls hP hD hS hl
      unfold wp_X5_box_85 at hw
      refine lv_istore (lv' := [(4, .int s0_j85), (0, .ref h), (1, .int p1), (2, .int p2), (3, .int x3_j85), (5, .int x5_j85)]) hx hb dX5_box_85 hl (by decide) rfl (fun ls hl => ?_)
      refine lv_iinc (v := (x5_j85 + 1)) (lv' := [(5, .int (x5_j85 + 1)), (4, .int s0_j85), (0, .ref h), (1, .int p1), (2, .int p2), (3, .int x3_j85)]) hx hb dX5_box_87 hl (k := 5) rfl rfl (by decide) rfl (fun ls hl => ?_)
      refine lv_goto (tgt := 9) hx hb dX5_box_90 (by decide) ?_
      exact ih9 (x3_j85, s0_j85, (x5_j85 + 1)) hw _ _ ls hP hD hS (lv_sub hl [2, 3, 4, 5, 1, 0] rfl)
    have J59 : ∀ (s0_j59 : Int32) (x4_j59 : Int32) (x5_j59 : Int32) (x6_j59 : Int32) , wp_X5_box_59 v_of p1 p2 post (fun b0 b1 b2 => K9 (b0, b1, b2)) s0_j59 x4_j59 x5_j59 x6_j59 → ∀ (H : Heap) (locs : List Loc) (ls : Array Slot), va_P D vwCl (W_X5_box h a cI cJ cZ v_thrown v_made v_of v_heart v_width v_sheets v_covered) H → va_D A (W_X5_box h a cI cJ cZ v_thrown v_made v_of v_heart v_width v_sheets v_covered) → va_S A s.heap H locs → lv_has ls 7 [(0, .ref h), (1, .int p1), (2, .int p2), (4, .int x4_j59), (5, .int x5_j59), (6, .int x6_j59)] → W p l e rm_X5_box s m args below meth c H locs 0 0 QQ (F0 m 59 ls [.int s0_j59]) := by
      intro s0_j59 x4_j59 x5_j59 x6_j59 hw H locs ls hP hD hS hl
      unfold wp_X5_box_59 at hw
      refine lv_istore_n (lv' := [(3, .int s0_j59), (0, .ref h), (1, .int p1), (2, .int p2), (4, .int x4_j59), (5, .int x5_j59), (6, .int x6_j59)]) hx hb dX5_box_59 rfl hl (by decide) rfl (fun ls hl => ?_)
      refine lv_aload_n hx hb dX5_box_60 rfl (lv_at hl 1 rfl) ?_
      refine va_get (D := D) (ci := 6) (v := .ref (a 2)) (C := RX5) (T := TX5) (N := 24) hx hb hts iRX5 hown hK hP 0 rfl rfl 2 (by decide) (hts (.fieldLink RX5 13 "LeadlightModel" "of" "[I") (List.mem_of_getElem? (i := 1) rfl)) (fun _ h9 => h9) rfl dX5_box_61 ?_
      refine lv_iload hx hb dX5_box_64 (lv_at hl 5 rfl) ?_
      obtain ⟨hi_66, hw⟩ := hw
      refine va_iald hx hb hK hP 1 0 rfl rfl hi_66 dX5_box_66 ?_
      refine lv_iload_n hx hb dX5_box_67 rfl (lv_at hl 2 rfl) ?_
      refine lv_icmp_ne (tgt := 83) hx hb dX5_box_68 (by decide) (fun c68 => ?_) (fun c68 => ?_)
      · have hw := hw.2 c68
        refine lv_iload hx hb dX5_box_83 (lv_at hl 4 rfl) ?_
        exact J85 x4_j59 s0_j59 x5_j59 hw _ _ ls hP hD hS (lv_sub hl [1, 2, 3, 0, 5] rfl)
      · have hw := hw.1 c68
        refine lv_iload hx hb dX5_box_71 (lv_at hl 6 rfl) ?_
        refine lv_iload hx hb dX5_box_73 (lv_at hl 4 rfl) ?_
        refine lv_icmp_le (tgt := 83) hx hb dX5_box_75 (by decide) (fun c75 => ?_) (fun c75 => ?_)
        · have hw := hw.1 c75
          refine lv_iload hx hb dX5_box_83 (lv_at hl 4 rfl) ?_
          exact J85 x4_j59 s0_j59 x5_j59 hw _ _ ls hP hD hS (lv_sub hl [1, 2, 3, 0, 5] rfl)
        · have hw := hw.2 c75
          refine lv_iload hx hb dX5_box_78 (lv_at hl 6 rfl) ?_
          refine lv_goto (tgt := 85) hx hb dX5_box_80 (by decide) ?_
          exact J85 x6_j59 s0_j59 x5_j59 hw _ _ ls hP hD hS (lv_sub hl [1, 2, 3, 0, 5] rfl)
    have J34 : ∀ (s0_j34 : Int32) (x3_j34 : Int32) (x4_j34 : Int32) (x5_j34 : Int32) , wp_X5_box_34 v_of p1 p2 post (fun b0 b1 b2 => K9 (b0, b1, b2)) s0_j34 x3_j34 x4_j34 x5_j34 → ∀ (H : Heap) (locs : List Loc) (ls : Array Slot), va_P D vwCl (W_X5_box h a cI cJ cZ v_thrown v_made v_of v_heart v_width v_sheets v_covered) H → va_D A (W_X5_box h a cI cJ cZ v_thrown v_made v_of v_heart v_width v_sheets v_covered) → va_S A s.heap H locs → lv_has ls 7 [(0, .ref h), (1, .int p1), (2, .int p2), (3, .int x3_j34), (4, .int x4_j34), (5, .int x5_j34)] → W p l e rm_X5_box s m args below meth c H locs 0 0 QQ (F0 m 34 ls [.int s0_j34]) := by
      intro s0_j34 x3_j34 x4_j34 x5_j34 hw H locs ls hP hD hS hl
      unfold wp_X5_box_34 at hw
      refine lv_istore (lv' := [(6, .int s0_j34), (0, .ref h), (1, .int p1), (2, .int p2), (3, .int x3_j34), (4, .int x4_j34), (5, .int x5_j34)]) hx hb dX5_box_34 hl (by decide) rfl (fun ls hl => ?_)
      refine lv_aload_n hx hb dX5_box_36 rfl (lv_at hl 1 rfl) ?_
      refine va_get (D := D) (ci := 6) (v := .ref (a 2)) (C := RX5) (T := TX5) (N := 24) hx hb hts iRX5 hown hK hP 0 rfl rfl 2 (by decide) (hts (.fieldLink RX5 13 "LeadlightModel" "of" "[I") (List.mem_of_getElem? (i := 1) rfl)) (fun _ h9 => h9) rfl dX5_box_37 ?_
      refine lv_iload hx hb dX5_box_40 (lv_at hl 6 rfl) ?_
      obtain ⟨hi_42, hw⟩ := hw
      refine va_iald hx hb hK hP 1 0 rfl rfl hi_42 dX5_box_42 ?_
      refine lv_iload_n hx hb dX5_box_43 rfl (lv_at hl 2 rfl) ?_
      refine lv_icmp_ne (tgt := 58) hx hb dX5_box_44 (by decide) (fun c44 => ?_) (fun c44 => ?_)
      · have hw := hw.2 c44
        refine lv_iload_n hx hb dX5_box_58 rfl (lv_at hl 4 rfl) ?_
        exact J59 x3_j34 x4_j34 x5_j34 s0_j34 hw _ _ ls hP hD hS (lv_sub hl [1, 2, 3, 5, 6, 0] rfl)
      · have hw := hw.1 c44
        refine lv_iload hx hb dX5_box_47 (lv_at hl 0 rfl) ?_
        refine lv_iload_n hx hb dX5_box_49 rfl (lv_at hl 4 rfl) ?_
        refine lv_icmp_ge (tgt := 58) hx hb dX5_box_50 (by decide) (fun c50 => ?_) (fun c50 => ?_)
        · have hw := hw.1 c50
          refine lv_iload_n hx hb dX5_box_58 rfl (lv_at hl 4 rfl) ?_
          exact J59 x3_j34 x4_j34 x5_j34 s0_j34 hw _ _ ls hP hD hS (lv_sub hl [1, 2, 3, 5, 6, 0] rfl)
        · have hw := hw.2 c50
          refine lv_iload hx hb dX5_box_53 (lv_at hl 0 rfl) ?_
          refine lv_goto (tgt := 59) hx hb dX5_box_55 (by decide) ?_
          exact J59 s0_j34 x4_j34 x5_j34 s0_j34 hw _ _ ls hP hD hS (lv_sub hl [1, 2, 3, 5, 6, 0] rfl)
    unfold wp_X5_box_9 at hw
    refine lv_iload hx hb dX5_box_9 (lv_at hl 5 rfl) ?_
    refine lv_sipush (v := 256) hx hb dX5_box_11 (by decide) ?_
    refine lv_icmp_ge (tgt := 93) hx hb dX5_box_14 (by decide) (fun c14 => ?_) (fun c14 => ?_)
    · have hw := hw.1 c14
      refine lv_iload hx hb dX5_box_93 (lv_at hl 4 rfl) ?_
      refine lv_iload_n hx hb dX5_box_95 rfl (lv_at hl 3 rfl) ?_
      refine lv_isub hx hb dX5_box_96 ?_
      refine lv_iconst (v := 1) hx hb dX5_box_97 (by decide) ?_
      refine lv_iadd hx hb dX5_box_98 ?_
      exact RT ((x4_j9 - x3_j9) + 1) () _ _ _ _ dX5_box_99 hw hP hD hS
    · have hw := hw.2 c14
      refine lv_iload_n hx hb dX5_box_17 rfl (lv_at hl 2 rfl) ?_
      refine lv_if_eq (tgt := 29) hx hb dX5_box_18 (by decide) (fun c18 => ?_) (fun c18 => ?_)
      · have hw := hw.1 c18
        refine lv_iload hx hb dX5_box_29 (lv_at hl 5 rfl) ?_
        refine lv_bipush (v := 16) hx hb dX5_box_31 (by decide) ?_
        refine lv_irem hx hb dX5_box_33 (by decide) ?_
        exact J34 (x5_j9 - x5_j9 / 16 * 16) x3_j9 x4_j9 x5_j9 hw _ _ ls hP hD hS (lv_sub hl [0, 1, 2, 3, 4, 5] rfl)
      · have hw := hw.2 c18
        refine lv_iload hx hb dX5_box_21 (lv_at hl 5 rfl) ?_
        refine lv_bipush (v := 16) hx hb dX5_box_23 (by decide) ?_
        refine lv_idiv hx hb dX5_box_25 (by decide) ?_
        refine lv_goto (tgt := 34) hx hb dX5_box_26 (by decide) ?_
        exact J34 (x5_j9 / 16) x3_j9 x4_j9 x5_j9 hw _ _ ls hP hD hS (lv_sub hl [0, 1, 2, 3, 4, 5] rfl)
  refine lv_bipush (v := 16) hx hb dX5_box_0 (by decide) ?_
  refine lv_istore_n (lv' := [(3, .int 16), (0, .ref h), (1, .int p1), (2, .int p2)]) hx hb dX5_box_2 rfl hl (by decide) rfl (fun ls hl => ?_)
  refine lv_iconst (v := (-1)) hx hb dX5_box_3 (by decide) ?_
  refine lv_istore (lv' := [(4, .int (-1)), (3, .int 16), (0, .ref h), (1, .int p1), (2, .int p2)]) hx hb dX5_box_4 hl (by decide) rfl (fun ls hl => ?_)
  refine lv_iconst (v := 0) hx hb dX5_box_6 (by decide) ?_
  refine lv_istore (lv' := [(5, .int 0), (4, .int (-1)), (3, .int 16), (0, .ref h), (1, .int p1), (2, .int p2)]) hx hb dX5_box_7 hl (by decide) rfl (fun ls hl => ?_)
  exact L9 (16, (-1), 0) hw _ _ ls hP hD hS (lv_sub hl [3, 4, 5, 2, 1, 0] rfl)
abbrev rm_X5_layersOf : Room := { frames := 0, cells := 0, slots := 0, locals := 0 }
abbrev W_X5_layersOf (h : Nat) (a : Nat → Nat) (cI cJ cZ : ClassId) (v_thrown : Int32) (v_made : Int32) (v_layers : Nat → Int32) (v_burnt : Nat → Int32) (v_heart : Int32) (v_width : Int32) (v_sheets : Int32) (v_covered : Int32) : va_W := [(h, .inr (6, [.int v_thrown, .int v_made, .ref (a 2), .ref (a 3), .ref (a 4), .ref (a 5), .ref (a 6), .ref (a 7), .ref (a 8), .ref (a 9), .ref (a 10), .ref (a 11), .int v_heart, .int v_width, .ref (a 14), .ref (a 15), .ref (a 16), .ref (a 17), .ref (a 18), .ref (a 19), .ref (a 20), .ref (a 21), .int v_sheets, .int v_covered])), ((a 7), .inl (cI, 60, .inl v_layers)), ((a 9), .inl (cI, 300, .inl v_burnt))]
def wp_X5_layersOf_39 (v_layers : Nat → Int32) (v_burnt : Nat → Int32) (p1 : Int32) (p2 : Int32) (post : Int32 → Prop) (K7 : Int32 → Int32 → Prop) (s0_j39 : Int32) (s1_j39 : Int32) (x4_j39 : Int32) : Prop := K7 (s0_j39 + s1_j39) (x4_j39 + 1)
def wp_X5_layersOf_7 (v_layers : Nat → Int32) (v_burnt : Nat → Int32) (p1 : Int32) (p2 : Int32) (post : Int32 → Prop) (K7 : Int32 → Int32 → Prop) (x3_j7 : Int32) (x4_j7 : Int32) : Prop := vp_in p1 60 ∧ ((((5 * p1) + (v_layers p1.toNatClampNeg)) ≤ x4_j7 → post x3_j7) ∧ (¬ ((5 * p1) + (v_layers p1.toNatClampNeg)) ≤ x4_j7 → vp_in x4_j7 300 ∧ (((v_burnt x4_j7.toNatClampNeg) = p2 → wp_X5_layersOf_39 v_layers v_burnt p1 p2 post K7 x3_j7 1 x4_j7) ∧ (¬ (v_burnt x4_j7.toNatClampNeg) = p2 → wp_X5_layersOf_39 v_layers v_burnt p1 p2 post K7 x3_j7 0 x4_j7))))
def lF_X5_layersOf_7 (v_layers : Nat → Int32) (v_burnt : Nat → Int32) (p1 : Int32) (p2 : Int32) (post : Int32 → Prop) : ((Int32 × Int32) → Prop) → (Int32 × Int32) → Prop := fun K s => wp_X5_layersOf_7 v_layers v_burnt p1 p2 post (fun b0 b1 => K (b0, b1)) s.1 s.2
def wp_X5_layersOf (v_layers : Nat → Int32) (v_burnt : Nat → Int32) (p1 : Int32) (p2 : Int32) (post : Int32 → Prop) : Prop := lp (lF_X5_layersOf_7 v_layers v_burnt p1 p2 post) (0, (5 * p1))
set_option maxHeartbeats 4000000 in
set_option maxRecDepth 100000 in
theorem c_X5_layersOf (l : Launch) (D : va_G) (cI cJ cZ cO : ClassId) (h : Nat) (a : Nat → Nat) (sz : Nat) (v_thrown : Int32) (v_made : Int32) (v_layers : Nat → Int32) (v_burnt : Nat → Int32) (v_heart : Int32) (v_width : Int32) (v_sheets : Int32) (v_covered : Int32) (p1 : Int32) (p2 : Int32) (post : Int32 → Prop) (hw : wp_X5_layersOf v_layers v_burnt p1 p2 post) : Met l yX5_layersOf wsX5_layersOf rm_X5_layersOf (va_Pc [.ref h, .int p1, .int p2] (PRE D cI cJ cZ cO (W_X5_layersOf h a cI cJ cZ v_thrown v_made v_layers v_burnt v_heart v_width v_sheets v_covered) sz)) (va_Qi (fun r (_ : Unit) => post r) (fun u t => POST D (va_A (W_X5_layersOf h a cI cJ cZ v_thrown v_made v_layers v_burnt v_heart v_width v_sheets v_covered) sz) (W_X5_layersOf h a cI cJ cZ v_thrown v_made v_layers v_burnt v_heart v_width v_sheets v_covered) t) (va_A (W_X5_layersOf h a cI cJ cZ v_thrown v_made v_layers v_burnt v_heart v_width v_sheets v_covered) sz)) 0 0 (va_A (W_X5_layersOf h a cI cJ cZ v_thrown v_made v_layers v_burnt v_heart v_width v_sheets v_covered) sz) := by
  refine met_go (cc := cX5_layersOf) (maxL := 5) (ret := some .int) RX5 rfl (by decide) rfl (Nat.le_of_ble_eq_true rfl) ?_
  intro p e s m args below meth c ls hx hb hr hts hown hlocks hin hml hsz hP hK hE hD hA hS hl
  have iRX5 : ∀ w ∈ u_ws RX5 TX5 24, w ∈ wsX5_layersOf := mem_seg 3 24 rfl
  generalize va_A (W_X5_layersOf h a cI cJ cZ v_thrown v_made v_layers v_burnt v_heart v_width v_sheets v_covered) sz = A at hD hA hS ⊢
  have RT : ∀ (v : Int32) (u : Unit) (H : Heap) (locs : List Loc) (pc : Nat) (ls : Array Slot), decode cX5_layersOf pc = .ok (.ireturn, 1) → post v → va_P D vwCl (W_X5_layersOf h a cI cJ cZ v_thrown v_made v_layers v_burnt v_heart v_width v_sheets v_covered) H → va_D A (W_X5_layersOf h a cI cJ cZ v_thrown v_made v_layers v_burnt v_heart v_width v_sheets v_covered) → va_S A s.heap H locs → W p l e rm_X5_layersOf s m args below meth c H locs 0 0 (MQ below (va_Qi (fun r (_ : Unit) => post r) (fun u t => POST D A (W_X5_layersOf h a cI cJ cZ v_thrown v_made v_layers v_burnt v_heart v_width v_sheets v_covered) t) A) args s 0 0 A) (F0 m pc ls [.int v]) := fun v u H locs pc ls d g1 g2 g3 g4 => rt_i (Wf := fun u => (W_X5_layersOf h a cI cJ cZ v_thrown v_made v_layers v_burnt v_heart v_width v_sheets v_covered)) u hx hb hr hlocks g1 g2 g3 g4 d
  generalize (MQ below (va_Qi (fun r (_ : Unit) => post r) (fun u t => POST D A (W_X5_layersOf h a cI cJ cZ v_thrown v_made v_layers v_burnt v_heart v_width v_sheets v_covered) t) A) args s 0 0 A) = QQ at RT ⊢
  have hl : lv_has ls 5 [(0, .ref h), (1, .int p1), (2, .int p2)] := hl
  have hP : va_P D vwCl (W_X5_layersOf h a cI cJ cZ v_thrown v_made v_layers v_burnt v_heart v_width v_sheets v_covered) s.heap := hP
  unfold wp_X5_layersOf at hw
  suffices GO : ∀ (H : Heap) (locs : List Loc), va_P D vwCl (W_X5_layersOf h a cI cJ cZ v_thrown v_made v_layers v_burnt v_heart v_width v_sheets v_covered) H → va_S A s.heap H locs → W p l e rm_X5_layersOf s m args below meth c H locs 0 0 QQ (F0 m 0 ls []) from GO _ _ hP hS
  clear hsz hP hS
  intro H locs hP hS
  have L7 : ∀ s0 : (Int32 × Int32), lp (lF_X5_layersOf_7 v_layers v_burnt p1 p2 post) s0 → ∀ (H : Heap) (locs : List Loc) (ls : Array Slot), va_P D vwCl (W_X5_layersOf h a cI cJ cZ v_thrown v_made v_layers v_burnt v_heart v_width v_sheets v_covered) H → va_D A (W_X5_layersOf h a cI cJ cZ v_thrown v_made v_layers v_burnt v_heart v_width v_sheets v_covered) → va_S A s.heap H locs → lv_has ls 5 [(0, .ref h), (1, .int p1), (2, .int p2), (3, .int s0.1), (4, .int s0.2)] → W p l e rm_X5_layersOf s m args below meth c H locs 0 0 QQ (F0 m 7 ls []) := by
    refine lp_elim (fun K7 ih7 s0 hw => ?_)
    obtain ⟨x3_j7, x4_j7⟩ := s0
    intro H locs ls hP hD hS hl
    have hw : wp_X5_layersOf_7 v_layers v_burnt p1 p2 post (fun b0 b1 => K7 (b0, b1)) x3_j7 x4_j7 := hw
    have hP : va_P D vwCl (W_X5_layersOf h a cI cJ cZ v_thrown v_made v_layers v_burnt v_heart v_width v_sheets v_covered) H := hP
    have hD : va_D A (W_X5_layersOf h a cI cJ cZ v_thrown v_made v_layers v_burnt v_heart v_width v_sheets v_covered) := hD
    have hl : lv_has ls 5 [(0, .ref h), (1, .int p1), (2, .int p2), (3, .int x3_j7), (4, .int x4_j7)] := hl
    have J39 : ∀ (s0_j39 : Int32) (s1_j39 : Int32) (x4_j39 : Int32) , wp_X5_layersOf_39 v_layers v_burnt p1 p2 post (fun b0 b1 => K7 (b0, b1)) s0_j39 s1_j39 x4_j39 → ∀ (H : Heap) (locs : List Loc) (ls : Array Slot), va_P D vwCl (W_X5_layersOf h a cI cJ cZ v_thrown v_made v_layers v_burnt v_heart v_width v_sheets v_covered) H → va_D A (W_X5_layersOf h a cI cJ cZ v_thrown v_made v_layers v_burnt v_heart v_width v_sheets v_covered) → va_S A s.heap H locs → lv_has ls 5 [(0, .ref h), (1, .int p1), (2, .int p2), (4, .int x4_j39)] → W p l e rm_X5_layersOf s m args below meth c H locs 0 0 QQ (F0 m 39 ls [.int s1_j39, .int s0_j39]) := by
      intro s0_j39 s1_j39 x4_j39 hw H locs ls hP hD hS hl
      unfold wp_X5_layersOf_39 at hw
      refine lv_iadd hx hb dX5_layersOf_39 ?_
      refine lv_istore_n (lv' := [(3, .int (s0_j39 + s1_j39)), (0, .ref h), (1, .int p1), (2, .int p2), (4, .int x4_j39)]) hx hb dX5_layersOf_40 rfl hl (by decide) rfl (fun ls hl => ?_)
      refine lv_iinc (v := (x4_j39 + 1)) (lv' := [(4, .int (x4_j39 + 1)), (3, .int (s0_j39 + s1_j39)), (0, .ref h), (1, .int p1), (2, .int p2)]) hx hb dX5_layersOf_41 hl (k := 4) rfl rfl (by decide) rfl (fun ls hl => ?_)
      refine lv_goto (tgt := 7) hx hb dX5_layersOf_44 (by decide) ?_
      exact ih7 ((s0_j39 + s1_j39), (x4_j39 + 1)) hw _ _ ls hP hD hS (lv_sub hl [2, 3, 4, 1, 0] rfl)
    unfold wp_X5_layersOf_7 at hw
    refine lv_iload hx hb dX5_layersOf_7 (lv_at hl 4 rfl) ?_
    refine lv_iconst (v := 5) hx hb dX5_layersOf_9 (by decide) ?_
    refine lv_iload_n hx hb dX5_layersOf_10 rfl (lv_at hl 1 rfl) ?_
    refine lv_imul hx hb dX5_layersOf_11 ?_
    refine lv_aload_n hx hb dX5_layersOf_12 rfl (lv_at hl 0 rfl) ?_
    refine va_get (D := D) (ci := 6) (v := .ref (a 7)) (C := RX5) (T := TX5) (N := 24) hx hb hts iRX5 hown hK hP 0 rfl rfl 7 (by decide) (hts (.fieldLink RX5 30 "LeadlightModel" "layers" "[I") (List.mem_of_getElem? (i := 1) rfl)) (fun _ h9 => h9) rfl dX5_layersOf_13 ?_
    refine lv_iload_n hx hb dX5_layersOf_16 rfl (lv_at hl 1 rfl) ?_
    obtain ⟨hi_17, hw⟩ := hw
    refine va_iald hx hb hK hP 1 0 rfl rfl hi_17 dX5_layersOf_17 ?_
    refine lv_iadd hx hb dX5_layersOf_18 ?_
    refine lv_icmp_ge (tgt := 47) hx hb dX5_layersOf_19 (by decide) (fun c19 => ?_) (fun c19 => ?_)
    · have hw := hw.1 c19
      refine lv_iload_n hx hb dX5_layersOf_47 rfl (lv_at hl 3 rfl) ?_
      exact RT x3_j7 () _ _ _ _ dX5_layersOf_48 hw hP hD hS
    · have hw := hw.2 c19
      refine lv_iload_n hx hb dX5_layersOf_22 rfl (lv_at hl 3 rfl) ?_
      refine lv_aload_n hx hb dX5_layersOf_23 rfl (lv_at hl 0 rfl) ?_
      refine va_get (D := D) (ci := 6) (v := .ref (a 9)) (C := RX5) (T := TX5) (N := 24) hx hb hts iRX5 hown hK hP 0 rfl rfl 9 (by decide) (hts (.fieldLink RX5 36 "LeadlightModel" "burnt" "[I") (List.mem_of_getElem? (i := 2) rfl)) (fun _ h9 => h9) rfl dX5_layersOf_24 ?_
      refine lv_iload hx hb dX5_layersOf_27 (lv_at hl 4 rfl) ?_
      obtain ⟨hi_29, hw⟩ := hw
      refine va_iald hx hb hK hP 2 0 rfl rfl hi_29 dX5_layersOf_29 ?_
      refine lv_iload_n hx hb dX5_layersOf_30 rfl (lv_at hl 2 rfl) ?_
      refine lv_icmp_ne (tgt := 38) hx hb dX5_layersOf_31 (by decide) (fun c31 => ?_) (fun c31 => ?_)
      · have hw := hw.2 c31
        refine lv_iconst (v := 0) hx hb dX5_layersOf_38 (by decide) ?_
        exact J39 x3_j7 0 x4_j7 hw _ _ ls hP hD hS (lv_sub hl [0, 1, 2, 4] rfl)
      · have hw := hw.1 c31
        refine lv_iconst (v := 1) hx hb dX5_layersOf_34 (by decide) ?_
        refine lv_goto (tgt := 39) hx hb dX5_layersOf_35 (by decide) ?_
        exact J39 x3_j7 1 x4_j7 hw _ _ ls hP hD hS (lv_sub hl [0, 1, 2, 4] rfl)
  refine lv_iconst (v := 0) hx hb dX5_layersOf_0 (by decide) ?_
  refine lv_istore_n (lv' := [(3, .int 0), (0, .ref h), (1, .int p1), (2, .int p2)]) hx hb dX5_layersOf_1 rfl hl (by decide) rfl (fun ls hl => ?_)
  refine lv_iconst (v := 5) hx hb dX5_layersOf_2 (by decide) ?_
  refine lv_iload_n hx hb dX5_layersOf_3 rfl (lv_at hl 2 rfl) ?_
  refine lv_imul hx hb dX5_layersOf_4 ?_
  refine lv_istore (lv' := [(4, .int (5 * p1)), (3, .int 0), (0, .ref h), (1, .int p1), (2, .int p2)]) hx hb dX5_layersOf_5 hl (by decide) rfl (fun ls hl => ?_)
  exact L7 (0, (5 * p1)) hw _ _ ls hP hD hS (lv_sub hl [2, 3, 4, 1, 0] rfl)
abbrev rm_X5_piece : Room := { frames := 3, cells := 0, slots := 0, locals := 70 }
abbrev W_X5_piece (h : Nat) (a : Nat → Nat) (cI cJ cZ : ClassId) (v_thrown : Int32) (v_made : Int32) (v_of : Nat → Int32) (v_many : Nat → Int32) (v_colour : Nat → Int32) (v_isOriginal : Nat → Int32) (v_state : Nat → Int32) (v_layers : Nat → Int32) (v_burnt : Nat → Int32) (v_heart : Int32) (v_width : Int32) (v_set : Nat → Int32) (v_sheets : Int32) (v_covered : Int32) : va_W := [(h, .inr (6, [.int v_thrown, .int v_made, .ref (a 2), .ref (a 3), .ref (a 4), .ref (a 5), .ref (a 6), .ref (a 7), .ref (a 8), .ref (a 9), .ref (a 10), .ref (a 11), .int v_heart, .int v_width, .ref (a 14), .ref (a 15), .ref (a 16), .ref (a 17), .ref (a 18), .ref (a 19), .ref (a 20), .ref (a 21), .int v_sheets, .int v_covered])), ((a 2), .inl (cI, 256, .inl v_of)), ((a 3), .inl (cI, 60, .inl v_many)), ((a 4), .inl (cI, 60, .inl v_colour)), ((a 5), .inl (cZ, 60, .inl v_isOriginal)), ((a 6), .inl (cI, 60, .inl v_state)), ((a 7), .inl (cI, 60, .inl v_layers)), ((a 9), .inl (cI, 300, .inl v_burnt)), ((a 15), .inl (cZ, 256, .inl v_set))]
def wp_X5_piece_30 (v_thrown : Int32) (v_made : Int32) (v_of : Nat → Int32) (v_many : Nat → Int32) (v_colour : Nat → Int32) (v_isOriginal : Nat → Int32) (v_state : Nat → Int32) (v_layers : Nat → Int32) (v_burnt : Nat → Int32) (v_set : Nat → Int32) (p1 : Int32) (p2 : Int32) (post : Int32 → Int32 → (Nat → Int32) → Prop) (s1_j30 : Int32) : Prop := wp_X5_goesWell v_thrown s1_j30 (fun r_30 v_thrown_c30 => (r_30 = 0 → post 0 v_thrown_c30 v_set) ∧ (¬ r_30 = 0 → wp_X5_setPiece v_of v_set p1 (-1) (fun r_41 v_set_c41 => (p2 = 0 → post r_41 v_thrown_c30 v_set_c41) ∧ (p2 = 1 → vp_in p1 60 ∧ (post (v_colour p1.toNatClampNeg) v_thrown_c30 v_set_c41)) ∧ (p2 = 2 → vp_in p1 60 ∧ (((v_isOriginal p1.toNatClampNeg) = 0 → post 0 v_thrown_c30 v_set_c41) ∧ (¬ (v_isOriginal p1.toNatClampNeg) = 0 → post 1 v_thrown_c30 v_set_c41))) ∧ (p2 = 3 → vp_in p1 60 ∧ (post (v_state p1.toNatClampNeg) v_thrown_c30 v_set_c41)) ∧ (p2 = 4 → wp_X5_cut v_set_c41 (fun r_125 => post r_125 v_thrown_c30 v_set_c41)) ∧ (p2 = 5 → wp_X5_box v_of p1 1 (fun r_132 => post r_132 v_thrown_c30 v_set_c41)) ∧ (p2 = 6 → wp_X5_box v_of p1 0 (fun r_139 => post r_139 v_thrown_c30 v_set_c41)) ∧ (p2 = 7 → vp_in p1 60 ∧ (post (v_layers p1.toNatClampNeg) v_thrown_c30 v_set_c41)) ∧ (¬ p2 = 0 → ¬ p2 = 1 → ¬ p2 = 2 → ¬ p2 = 3 → ¬ p2 = 4 → ¬ p2 = 5 → ¬ p2 = 6 → ¬ p2 = 7 → wp_X5_layersOf v_layers v_burnt p1 (p2 - 7) (fun r_156 => post r_156 v_thrown_c30 v_set_c41)))))
def wp_X5_piece (v_thrown : Int32) (v_made : Int32) (v_of : Nat → Int32) (v_many : Nat → Int32) (v_colour : Nat → Int32) (v_isOriginal : Nat → Int32) (v_state : Nat → Int32) (v_layers : Nat → Int32) (v_burnt : Nat → Int32) (v_set : Nat → Int32) (p1 : Int32) (p2 : Int32) (post : Int32 → Int32 → (Nat → Int32) → Prop) : Prop := wp_X5_isPiece v_made v_many p1 (fun r_2 => (r_2 = 0 → wp_X5_piece_30 v_thrown v_made v_of v_many v_colour v_isOriginal v_state v_layers v_burnt v_set p1 p2 post 1) ∧ (¬ r_2 = 0 → wp_X5_in p2 0 9 (fun r_19 => (r_19 = 0 → wp_X5_piece_30 v_thrown v_made v_of v_many v_colour v_isOriginal v_state v_layers v_burnt v_set p1 p2 post 2) ∧ (¬ r_19 = 0 → wp_X5_piece_30 v_thrown v_made v_of v_many v_colour v_isOriginal v_state v_layers v_burnt v_set p1 p2 post 0))))
set_option maxHeartbeats 4000000 in
set_option maxRecDepth 100000 in
theorem c_X5_piece (l : Launch) (D : va_G) (cI cJ cZ cO : ClassId) (h : Nat) (a : Nat → Nat) (sz : Nat) (v_thrown : Int32) (v_made : Int32) (v_of : Nat → Int32) (v_many : Nat → Int32) (v_colour : Nat → Int32) (v_isOriginal : Nat → Int32) (v_state : Nat → Int32) (v_layers : Nat → Int32) (v_burnt : Nat → Int32) (v_heart : Int32) (v_width : Int32) (v_set : Nat → Int32) (v_sheets : Int32) (v_covered : Int32) (p1 : Int32) (p2 : Int32) (post : Int32 → Int32 → (Nat → Int32) → Prop) (hw : wp_X5_piece v_thrown v_made v_of v_many v_colour v_isOriginal v_state v_layers v_burnt v_set p1 p2 post) : Met l yX5_piece wsX5_piece rm_X5_piece (va_Pc [.ref h, .int p1, .int p2] (PRE D cI cJ cZ cO (W_X5_piece h a cI cJ cZ v_thrown v_made v_of v_many v_colour v_isOriginal v_state v_layers v_burnt v_heart v_width v_set v_sheets v_covered) sz)) (va_Qi (fun r (u : Int32 × (Nat → Int32)) => post r u.1 u.2) (fun u t => POST D (va_A (W_X5_piece h a cI cJ cZ v_thrown v_made v_of v_many v_colour v_isOriginal v_state v_layers v_burnt v_heart v_width v_set v_sheets v_covered) sz) (W_X5_piece h a cI cJ cZ u.1 v_made v_of v_many v_colour v_isOriginal v_state v_layers v_burnt v_heart v_width u.2 v_sheets v_covered) t) (va_A (W_X5_piece h a cI cJ cZ v_thrown v_made v_of v_many v_colour v_isOriginal v_state v_layers v_burnt v_heart v_width v_set v_sheets v_covered) sz)) 0 0 (va_A (W_X5_piece h a cI cJ cZ v_thrown v_made v_of v_many v_colour v_isOriginal v_state v_layers v_burnt v_heart v_width v_set v_sheets v_covered) sz) := by
  refine met_go (cc := cX5_piece) (maxL := 5) (ret := some .int) RX5 rfl (by decide) rfl (Nat.le_of_ble_eq_true rfl) ?_
  intro p e s m args below meth c ls hx hb hr hts hown hlocks hin hml hsz hP hK hE hD hA hS hl
  have iRX5 : ∀ w ∈ u_ws RX5 TX5 24, w ∈ wsX5_piece := mem_seg 47 24 rfl
  generalize va_A (W_X5_piece h a cI cJ cZ v_thrown v_made v_of v_many v_colour v_isOriginal v_state v_layers v_burnt v_heart v_width v_set v_sheets v_covered) sz = A at hD hA hS ⊢
  have RT : ∀ (v : Int32) (u : Int32 × (Nat → Int32)) (H : Heap) (locs : List Loc) (pc : Nat) (ls : Array Slot), decode cX5_piece pc = .ok (.ireturn, 1) → post v u.1 u.2 → va_P D vwCl (W_X5_piece h a cI cJ cZ u.1 v_made v_of v_many v_colour v_isOriginal v_state v_layers v_burnt v_heart v_width u.2 v_sheets v_covered) H → va_D A (W_X5_piece h a cI cJ cZ u.1 v_made v_of v_many v_colour v_isOriginal v_state v_layers v_burnt v_heart v_width u.2 v_sheets v_covered) → va_S A s.heap H locs → W p l e rm_X5_piece s m args below meth c H locs 0 0 (MQ below (va_Qi (fun r (u : Int32 × (Nat → Int32)) => post r u.1 u.2) (fun u t => POST D A (W_X5_piece h a cI cJ cZ u.1 v_made v_of v_many v_colour v_isOriginal v_state v_layers v_burnt v_heart v_width u.2 v_sheets v_covered) t) A) args s 0 0 A) (F0 m pc ls [.int v]) := fun v u H locs pc ls d g1 g2 g3 g4 => rt_i (Wf := fun u => (W_X5_piece h a cI cJ cZ u.1 v_made v_of v_many v_colour v_isOriginal v_state v_layers v_burnt v_heart v_width u.2 v_sheets v_covered)) u hx hb hr hlocks g1 g2 g3 g4 d
  generalize (MQ below (va_Qi (fun r (u : Int32 × (Nat → Int32)) => post r u.1 u.2) (fun u t => POST D A (W_X5_piece h a cI cJ cZ u.1 v_made v_of v_many v_colour v_isOriginal v_state v_layers v_burnt v_heart v_width u.2 v_sheets v_covered) t) A) args s 0 0 A) = QQ at RT ⊢
  have hl : lv_has ls 5 [(0, .ref h), (1, .int p1), (2, .int p2)] := hl
  have hP : va_P D vwCl (W_X5_piece h a cI cJ cZ v_thrown v_made v_of v_many v_colour v_isOriginal v_state v_layers v_burnt v_heart v_width v_set v_sheets v_covered) s.heap := hP
  unfold wp_X5_piece at hw
  suffices GO : ∀ (H : Heap) (locs : List Loc), va_P D vwCl (W_X5_piece h a cI cJ cZ v_thrown v_made v_of v_many v_colour v_isOriginal v_state v_layers v_burnt v_heart v_width v_set v_sheets v_covered) H → va_S A s.heap H locs → W p l e rm_X5_piece s m args below meth c H locs 0 0 QQ (F0 m 0 ls []) from GO _ _ hP hS
  clear hsz hP hS
  intro H locs hP hS
  have J30 : ∀ (s1_j30 : Int32) , wp_X5_piece_30 v_thrown v_made v_of v_many v_colour v_isOriginal v_state v_layers v_burnt v_set p1 p2 post s1_j30 → ∀ (H : Heap) (locs : List Loc) (ls : Array Slot), va_P D vwCl (W_X5_piece h a cI cJ cZ v_thrown v_made v_of v_many v_colour v_isOriginal v_state v_layers v_burnt v_heart v_width v_set v_sheets v_covered) H → va_D A (W_X5_piece h a cI cJ cZ v_thrown v_made v_of v_many v_colour v_isOriginal v_state v_layers v_burnt v_heart v_width v_set v_sheets v_covered) → va_S A s.heap H locs → lv_has ls 5 [(0, .ref h), (1, .int p1), (2, .int p2)] → W p l e rm_X5_piece s m args below meth c H locs 0 0 QQ (F0 m 30 ls [.int s1_j30, .ref h]) := by
    intro s1_j30 hw H locs ls hP hD hS hl
    unfold wp_X5_piece_30 at hw
    refine af_i (X := (W_X5_piece h a cI cJ cZ v_thrown v_made v_of v_many v_colour v_isOriginal v_state v_layers v_burnt v_heart v_width v_set v_sheets v_covered)) (pl := []) (cx := (W_X5_goesWell h a cI cJ cZ v_thrown v_made v_heart v_width v_sheets v_covered)) (w1 := fun (u : Int32) => (W_X5_goesWell h a cI cJ cZ u v_made v_heart v_width v_sheets v_covered)) (X' := fun (u : Int32) => (W_X5_piece h a cI cJ cZ u v_made v_of v_many v_colour v_isOriginal v_state v_layers v_burnt v_heart v_width v_set v_sheets v_covered)) hP hD hS hA [0] [1, 2, 3, 4, 5, 6, 7, 8] [8, 0, 1, 2, 3, 4, 5, 6, 7] rfl rfl (by decide) (by decide) (fun u => rfl) (by decide) (va_runV (As := [.int s1_j30]) (rest := []) ⟨hx, hb, hml, hown, hts⟩ (c_X5_goesWell l D cI cJ cZ cO h a H.size v_thrown v_made v_heart v_width v_sheets v_covered s1_j30 _ hw) (cwV 1 hts gX5_piece_X5_goesWell rfl rfl rfl (by decide +kernel) ⟨Nat.le_of_ble_eq_true rfl, Nat.le_of_ble_eq_true rfl⟩) (preV (X := (W_X5_piece h a cI cJ cZ v_thrown v_made v_of v_many v_colour v_isOriginal v_state v_layers v_burnt v_heart v_width v_set v_sheets v_covered)) (pl := []) (cx := (W_X5_goesWell h a cI cJ cZ v_thrown v_made v_heart v_width v_sheets v_covered)) (qb := 0) (ci := 6) hK hE hP hD [0] (by decide) rfl rfl rfl) rfl rfl hl.1 rfl (lv_room (Nat.le_of_ble_eq_true rfl)) dX5_piece_30 ⟨Nat.zero_le _, Nat.zero_le _⟩) (fun r_30 v_thrown_c30 H locs hw hP hD hS => ?_)
    try dsimp only at hw
    have hP : va_P D vwCl (W_X5_piece h a cI cJ cZ v_thrown_c30 v_made v_of v_many v_colour v_isOriginal v_state v_layers v_burnt v_heart v_width v_set v_sheets v_covered) H := hP
    have hD : va_D A (W_X5_piece h a cI cJ cZ v_thrown_c30 v_made v_of v_many v_colour v_isOriginal v_state v_layers v_burnt v_heart v_width v_set v_sheets v_covered) := hD
    refine lv_if_ne (tgt := 38) hx hb dX5_piece_33 (by decide) (fun c33 => ?_) (fun c33 => ?_)
    · have hw := hw.2 c33
      refine lv_aload_n hx hb dX5_piece_38 rfl (lv_at hl 0 rfl) ?_
      refine lv_iload_n hx hb dX5_piece_39 rfl (lv_at hl 1 rfl) ?_
      refine lv_iconst (v := (-1)) hx hb dX5_piece_40 (by decide) ?_
      refine af_i (X := (W_X5_piece h a cI cJ cZ v_thrown_c30 v_made v_of v_many v_colour v_isOriginal v_state v_layers v_burnt v_heart v_width v_set v_sheets v_covered)) (pl := []) (cx := (W_X5_setPiece h a cI cJ cZ v_thrown_c30 v_made v_of v_heart v_width v_set v_sheets v_covered)) (w1 := fun (u : (Nat → Int32)) => (W_X5_setPiece h a cI cJ cZ v_thrown_c30 v_made v_of v_heart v_width u v_sheets v_covered)) (X' := fun (u : (Nat → Int32)) => (W_X5_piece h a cI cJ cZ v_thrown_c30 v_made v_of v_many v_colour v_isOriginal v_state v_layers v_burnt v_heart v_width u v_sheets v_covered)) hP hD hS hA [0, 1, 8] [2, 3, 4, 5, 6, 7] [6, 7, 0, 1, 2, 3, 4, 5, 8] rfl rfl (by decide) (by decide) (fun u => rfl) (by decide) (va_runV (As := [.int p1, .int (-1)]) (rest := []) ⟨hx, hb, hml, hown, hts⟩ (c_X5_setPiece l D cI cJ cZ cO h a H.size v_thrown_c30 v_made v_of v_heart v_width v_set v_sheets v_covered p1 (-1) _ hw) (cwV 2 hts gX5_piece_X5_setPiece rfl rfl rfl (by decide +kernel) ⟨Nat.le_of_ble_eq_true rfl, Nat.le_of_ble_eq_true rfl⟩) (preV (X := (W_X5_piece h a cI cJ cZ v_thrown_c30 v_made v_of v_many v_colour v_isOriginal v_state v_layers v_burnt v_heart v_width v_set v_sheets v_covered)) (pl := []) (cx := (W_X5_setPiece h a cI cJ cZ v_thrown_c30 v_made v_of v_heart v_width v_set v_sheets v_covered)) (qb := 0) (ci := 6) hK hE hP hD [0, 1, 8] (by decide) rfl rfl rfl) rfl rfl hl.1 rfl (lv_room (Nat.le_of_ble_eq_true rfl)) dX5_piece_41 ⟨Nat.zero_le _, Nat.zero_le _⟩) (fun r_41 v_set_c41 H locs hw hP hD hS => ?_)
      try dsimp only at hw
      have hP : va_P D vwCl (W_X5_piece h a cI cJ cZ v_thrown_c30 v_made v_of v_many v_colour v_isOriginal v_state v_layers v_burnt v_heart v_width v_set_c41 v_sheets v_covered) H := hP
      have hD : va_D A (W_X5_piece h a cI cJ cZ v_thrown_c30 v_made v_of v_many v_colour v_isOriginal v_state v_layers v_burnt v_heart v_width v_set_c41 v_sheets v_covered) := hD
      refine lv_istore (lv' := [(4, .int r_41), (0, .ref h), (1, .int p1), (2, .int p2)]) hx hb dX5_piece_44 hl (by decide) rfl (fun ls hl => ?_)
      refine lv_iload_n hx hb dX5_piece_46 rfl (lv_at hl 3 rfl) ?_
      by_cases c47_0 : p2 = 0
      · have hw := hw.1 c47_0
        rw [c47_0]
        refine lv_tableIn (tgt := 92) hx hb dX5_piece_47 (by decide) (by decide) rfl (by decide) ?_
        refine lv_iload hx hb dX5_piece_92 (lv_at hl 0 rfl) ?_
        exact RT r_41 (v_thrown_c30, v_set_c41) _ _ _ _ dX5_piece_94 hw hP hD hS
      by_cases c47_1 : p2 = 1
      · have hw := hw.2.1 c47_1
        rw [c47_1]
        refine lv_tableIn (tgt := 95) hx hb dX5_piece_47 (by decide) (by decide) rfl (by decide) ?_
        refine lv_aload_n hx hb dX5_piece_95 rfl (lv_at hl 1 rfl) ?_
        refine va_get (D := D) (ci := 6) (v := .ref (a 4)) (C := RX5) (T := TX5) (N := 24) hx hb hts iRX5 hown hK hP 0 rfl rfl 4 (by decide) (hts (.fieldLink RX5 20 "LeadlightModel" "colour" "[I") (List.mem_of_getElem? (i := 1) rfl)) (fun _ h9 => h9) rfl dX5_piece_96 ?_
        refine lv_iload_n hx hb dX5_piece_99 rfl (lv_at hl 2 rfl) ?_
        obtain ⟨hi_100, hw⟩ := hw
        refine va_iald hx hb hK hP 3 0 rfl rfl hi_100 dX5_piece_100 ?_
        exact RT (v_colour p1.toNatClampNeg) (v_thrown_c30, v_set_c41) _ _ _ _ dX5_piece_101 hw hP hD hS
      by_cases c47_2 : p2 = 2
      · have hw := hw.2.2.1 c47_2
        rw [c47_2]
        refine lv_tableIn (tgt := 102) hx hb dX5_piece_47 (by decide) (by decide) rfl (by decide) ?_
        refine lv_aload_n hx hb dX5_piece_102 rfl (lv_at hl 1 rfl) ?_
        refine va_get (D := D) (ci := 6) (v := .ref (a 5)) (C := RX5) (T := TX5) (N := 24) hx hb hts iRX5 hown hK hP 0 rfl rfl 5 (by decide) (hts (.fieldLink RX5 23 "LeadlightModel" "isOriginal" "[Z") (List.mem_of_getElem? (i := 2) rfl)) (fun _ h9 => h9) rfl dX5_piece_103 ?_
        refine lv_iload_n hx hb dX5_piece_106 rfl (lv_at hl 2 rfl) ?_
        obtain ⟨hi_107, hw⟩ := hw
        refine va_zald hx hb hK hP 4 2 rfl rfl hi_107 dX5_piece_107 ?_
        refine lv_if_eq (tgt := 115) hx hb dX5_piece_108 (by decide) (fun c108 => ?_) (fun c108 => ?_)
        · have hw := hw.1 c108
          refine lv_iconst (v := 0) hx hb dX5_piece_115 (by decide) ?_
          exact RT 0 (v_thrown_c30, v_set_c41) _ _ _ _ dX5_piece_116 hw hP hD hS
        · have hw := hw.2 c108
          refine lv_iconst (v := 1) hx hb dX5_piece_111 (by decide) ?_
          refine lv_goto (tgt := 116) hx hb dX5_piece_112 (by decide) ?_
          exact RT 1 (v_thrown_c30, v_set_c41) _ _ _ _ dX5_piece_116 hw hP hD hS
      by_cases c47_3 : p2 = 3
      · have hw := hw.2.2.2.1 c47_3
        rw [c47_3]
        refine lv_tableIn (tgt := 117) hx hb dX5_piece_47 (by decide) (by decide) rfl (by decide) ?_
        refine lv_aload_n hx hb dX5_piece_117 rfl (lv_at hl 1 rfl) ?_
        refine va_get (D := D) (ci := 6) (v := .ref (a 6)) (C := RX5) (T := TX5) (N := 24) hx hb hts iRX5 hown hK hP 0 rfl rfl 6 (by decide) (hts (.fieldLink RX5 27 "LeadlightModel" "state" "[I") (List.mem_of_getElem? (i := 3) rfl)) (fun _ h9 => h9) rfl dX5_piece_118 ?_
        refine lv_iload_n hx hb dX5_piece_121 rfl (lv_at hl 2 rfl) ?_
        obtain ⟨hi_122, hw⟩ := hw
        refine va_iald hx hb hK hP 5 0 rfl rfl hi_122 dX5_piece_122 ?_
        exact RT (v_state p1.toNatClampNeg) (v_thrown_c30, v_set_c41) _ _ _ _ dX5_piece_123 hw hP hD hS
      by_cases c47_4 : p2 = 4
      · have hw := hw.2.2.2.2.1 c47_4
        rw [c47_4]
        refine lv_tableIn (tgt := 124) hx hb dX5_piece_47 (by decide) (by decide) rfl (by decide) ?_
        refine lv_aload_n hx hb dX5_piece_124 rfl (lv_at hl 1 rfl) ?_
        refine af_i (X := (W_X5_piece h a cI cJ cZ v_thrown_c30 v_made v_of v_many v_colour v_isOriginal v_state v_layers v_burnt v_heart v_width v_set_c41 v_sheets v_covered)) (pl := []) (cx := (W_X5_cut h a cI cJ cZ v_thrown_c30 v_made v_heart v_width v_set_c41 v_sheets v_covered)) (w1 := fun (u : Unit) => (W_X5_cut h a cI cJ cZ v_thrown_c30 v_made v_heart v_width v_set_c41 v_sheets v_covered)) (X' := fun (u : Unit) => (W_X5_piece h a cI cJ cZ v_thrown_c30 v_made v_of v_many v_colour v_isOriginal v_state v_layers v_burnt v_heart v_width v_set_c41 v_sheets v_covered)) hP hD hS hA [0, 8] [1, 2, 3, 4, 5, 6, 7] [7, 0, 1, 2, 3, 4, 5, 6, 8] rfl rfl (by decide) (by decide) (fun u => rfl) (by decide) (va_runV (As := []) (rest := []) ⟨hx, hb, hml, hown, hts⟩ (c_X5_cut l D cI cJ cZ cO h a H.size v_thrown_c30 v_made v_heart v_width v_set_c41 v_sheets v_covered _ hw) (cwV 0 hts gX5_piece_X5_cut rfl rfl rfl (by decide +kernel) ⟨Nat.le_of_ble_eq_true rfl, Nat.le_of_ble_eq_true rfl⟩) (preV (X := (W_X5_piece h a cI cJ cZ v_thrown_c30 v_made v_of v_many v_colour v_isOriginal v_state v_layers v_burnt v_heart v_width v_set_c41 v_sheets v_covered)) (pl := []) (cx := (W_X5_cut h a cI cJ cZ v_thrown_c30 v_made v_heart v_width v_set_c41 v_sheets v_covered)) (qb := 0) (ci := 6) hK hE hP hD [0, 8] (by decide) rfl rfl rfl) rfl rfl hl.1 rfl (lv_room (Nat.le_of_ble_eq_true rfl)) dX5_piece_125 ⟨Nat.zero_le _, Nat.zero_le _⟩) (fun r_125 _ H locs hw hP hD hS => ?_)
        try dsimp only at hw
        have hP : va_P D vwCl (W_X5_piece h a cI cJ cZ v_thrown_c30 v_made v_of v_many v_colour v_isOriginal v_state v_layers v_burnt v_heart v_width v_set_c41 v_sheets v_covered) H := hP
        have hD : va_D A (W_X5_piece h a cI cJ cZ v_thrown_c30 v_made v_of v_many v_colour v_isOriginal v_state v_layers v_burnt v_heart v_width v_set_c41 v_sheets v_covered) := hD
        exact RT r_125 (v_thrown_c30, v_set_c41) _ _ _ _ dX5_piece_128 hw hP hD hS
      by_cases c47_5 : p2 = 5
      · have hw := hw.2.2.2.2.2.1 c47_5
        rw [c47_5]
        refine lv_tableIn (tgt := 129) hx hb dX5_piece_47 (by decide) (by decide) rfl (by decide) ?_
        refine lv_aload_n hx hb dX5_piece_129 rfl (lv_at hl 1 rfl) ?_
        refine lv_iload_n hx hb dX5_piece_130 rfl (lv_at hl 2 rfl) ?_
        refine lv_iconst (v := 1) hx hb dX5_piece_131 (by decide) ?_
        refine af_i (X := (W_X5_piece h a cI cJ cZ v_thrown_c30 v_made v_of v_many v_colour v_isOriginal v_state v_layers v_burnt v_heart v_width v_set_c41 v_sheets v_covered)) (pl := []) (cx := (W_X5_box h a cI cJ cZ v_thrown_c30 v_made v_of v_heart v_width v_sheets v_covered)) (w1 := fun (u : Unit) => (W_X5_box h a cI cJ cZ v_thrown_c30 v_made v_of v_heart v_width v_sheets v_covered)) (X' := fun (u : Unit) => (W_X5_piece h a cI cJ cZ v_thrown_c30 v_made v_of v_many v_colour v_isOriginal v_state v_layers v_burnt v_heart v_width v_set_c41 v_sheets v_covered)) hP hD hS hA [0, 1] [2, 3, 4, 5, 6, 7, 8] [7, 8, 0, 1, 2, 3, 4, 5, 6] rfl rfl (by decide) (by decide) (fun u => rfl) (by decide) (va_runV (As := [.int p1, .int 1]) (rest := []) ⟨hx, hb, hml, hown, hts⟩ (c_X5_box l D cI cJ cZ cO h a H.size v_thrown_c30 v_made v_of v_heart v_width v_sheets v_covered p1 1 _ hw) (cwV 2 hts gX5_piece_X5_box rfl rfl rfl (by decide +kernel) ⟨Nat.le_of_ble_eq_true rfl, Nat.le_of_ble_eq_true rfl⟩) (preV (X := (W_X5_piece h a cI cJ cZ v_thrown_c30 v_made v_of v_many v_colour v_isOriginal v_state v_layers v_burnt v_heart v_width v_set_c41 v_sheets v_covered)) (pl := []) (cx := (W_X5_box h a cI cJ cZ v_thrown_c30 v_made v_of v_heart v_width v_sheets v_covered)) (qb := 0) (ci := 6) hK hE hP hD [0, 1] (by decide) rfl rfl rfl) rfl rfl hl.1 rfl (lv_room (Nat.le_of_ble_eq_true rfl)) dX5_piece_132 ⟨Nat.zero_le _, Nat.zero_le _⟩) (fun r_132 _ H locs hw hP hD hS => ?_)
        try dsimp only at hw
        have hP : va_P D vwCl (W_X5_piece h a cI cJ cZ v_thrown_c30 v_made v_of v_many v_colour v_isOriginal v_state v_layers v_burnt v_heart v_width v_set_c41 v_sheets v_covered) H := hP
        have hD : va_D A (W_X5_piece h a cI cJ cZ v_thrown_c30 v_made v_of v_many v_colour v_isOriginal v_state v_layers v_burnt v_heart v_width v_set_c41 v_sheets v_covered) := hD
        exact RT r_132 (v_thrown_c30, v_set_c41) _ _ _ _ dX5_piece_135 hw hP hD hS
      by_cases c47_6 : p2 = 6
      · have hw := hw.2.2.2.2.2.2.1 c47_6
        rw [c47_6]
        refine lv_tableIn (tgt := 136) hx hb dX5_piece_47 (by decide) (by decide) rfl (by decide) ?_
        refine lv_aload_n hx hb dX5_piece_136 rfl (lv_at hl 1 rfl) ?_
        refine lv_iload_n hx hb dX5_piece_137 rfl (lv_at hl 2 rfl) ?_
        refine lv_iconst (v := 0) hx hb dX5_piece_138 (by decide) ?_
        refine af_i (X := (W_X5_piece h a cI cJ cZ v_thrown_c30 v_made v_of v_many v_colour v_isOriginal v_state v_layers v_burnt v_heart v_width v_set_c41 v_sheets v_covered)) (pl := []) (cx := (W_X5_box h a cI cJ cZ v_thrown_c30 v_made v_of v_heart v_width v_sheets v_covered)) (w1 := fun (u : Unit) => (W_X5_box h a cI cJ cZ v_thrown_c30 v_made v_of v_heart v_width v_sheets v_covered)) (X' := fun (u : Unit) => (W_X5_piece h a cI cJ cZ v_thrown_c30 v_made v_of v_many v_colour v_isOriginal v_state v_layers v_burnt v_heart v_width v_set_c41 v_sheets v_covered)) hP hD hS hA [0, 1] [2, 3, 4, 5, 6, 7, 8] [7, 8, 0, 1, 2, 3, 4, 5, 6] rfl rfl (by decide) (by decide) (fun u => rfl) (by decide) (va_runV (As := [.int p1, .int 0]) (rest := []) ⟨hx, hb, hml, hown, hts⟩ (c_X5_box l D cI cJ cZ cO h a H.size v_thrown_c30 v_made v_of v_heart v_width v_sheets v_covered p1 0 _ hw) (cwV 2 hts gX5_piece_X5_box rfl rfl rfl (by decide +kernel) ⟨Nat.le_of_ble_eq_true rfl, Nat.le_of_ble_eq_true rfl⟩) (preV (X := (W_X5_piece h a cI cJ cZ v_thrown_c30 v_made v_of v_many v_colour v_isOriginal v_state v_layers v_burnt v_heart v_width v_set_c41 v_sheets v_covered)) (pl := []) (cx := (W_X5_box h a cI cJ cZ v_thrown_c30 v_made v_of v_heart v_width v_sheets v_covered)) (qb := 0) (ci := 6) hK hE hP hD [0, 1] (by decide) rfl rfl rfl) rfl rfl hl.1 rfl (lv_room (Nat.le_of_ble_eq_true rfl)) dX5_piece_139 ⟨Nat.zero_le _, Nat.zero_le _⟩) (fun r_139 _ H locs hw hP hD hS => ?_)
        try dsimp only at hw
        have hP : va_P D vwCl (W_X5_piece h a cI cJ cZ v_thrown_c30 v_made v_of v_many v_colour v_isOriginal v_state v_layers v_burnt v_heart v_width v_set_c41 v_sheets v_covered) H := hP
        have hD : va_D A (W_X5_piece h a cI cJ cZ v_thrown_c30 v_made v_of v_many v_colour v_isOriginal v_state v_layers v_burnt v_heart v_width v_set_c41 v_sheets v_covered) := hD
        exact RT r_139 (v_thrown_c30, v_set_c41) _ _ _ _ dX5_piece_142 hw hP hD hS
      by_cases c47_7 : p2 = 7
      · have hw := hw.2.2.2.2.2.2.2.1 c47_7
        rw [c47_7]
        refine lv_tableIn (tgt := 143) hx hb dX5_piece_47 (by decide) (by decide) rfl (by decide) ?_
        refine lv_aload_n hx hb dX5_piece_143 rfl (lv_at hl 1 rfl) ?_
        refine va_get (D := D) (ci := 6) (v := .ref (a 7)) (C := RX5) (T := TX5) (N := 24) hx hb hts iRX5 hown hK hP 0 rfl rfl 7 (by decide) (hts (.fieldLink RX5 30 "LeadlightModel" "layers" "[I") (List.mem_of_getElem? (i := 4) rfl)) (fun _ h9 => h9) rfl dX5_piece_144 ?_
        refine lv_iload_n hx hb dX5_piece_147 rfl (lv_at hl 2 rfl) ?_
        obtain ⟨hi_148, hw⟩ := hw
        refine va_iald hx hb hK hP 6 0 rfl rfl hi_148 dX5_piece_148 ?_
        exact RT (v_layers p1.toNatClampNeg) (v_thrown_c30, v_set_c41) _ _ _ _ dX5_piece_149 hw hP hD hS
      have hw := hw.2.2.2.2.2.2.2.2 c47_0 c47_1 c47_2 c47_3 c47_4 c47_5 c47_6 c47_7
      refine lv_tableOut (tgt := 150) hx hb dX5_piece_47 (tsw_8 c47_0 c47_1 c47_2 c47_3 c47_4 c47_5 c47_6 c47_7) (by decide) ?_
      refine lv_aload_n hx hb dX5_piece_150 rfl (lv_at hl 1 rfl) ?_
      refine lv_iload_n hx hb dX5_piece_151 rfl (lv_at hl 2 rfl) ?_
      refine lv_iload_n hx hb dX5_piece_152 rfl (lv_at hl 3 rfl) ?_
      refine lv_bipush (v := 7) hx hb dX5_piece_153 (by decide) ?_
      refine lv_isub hx hb dX5_piece_155 ?_
      refine af_i (X := (W_X5_piece h a cI cJ cZ v_thrown_c30 v_made v_of v_many v_colour v_isOriginal v_state v_layers v_burnt v_heart v_width v_set_c41 v_sheets v_covered)) (pl := []) (cx := (W_X5_layersOf h a cI cJ cZ v_thrown_c30 v_made v_layers v_burnt v_heart v_width v_sheets v_covered)) (w1 := fun (u : Unit) => (W_X5_layersOf h a cI cJ cZ v_thrown_c30 v_made v_layers v_burnt v_heart v_width v_sheets v_covered)) (X' := fun (u : Unit) => (W_X5_piece h a cI cJ cZ v_thrown_c30 v_made v_of v_many v_colour v_isOriginal v_state v_layers v_burnt v_heart v_width v_set_c41 v_sheets v_covered)) hP hD hS hA [0, 6, 7] [1, 2, 3, 4, 5, 8] [6, 0, 1, 2, 3, 4, 7, 8, 5] rfl rfl (by decide) (by decide) (fun u => rfl) (by decide) (va_runV (As := [.int p1, .int (p2 - 7)]) (rest := []) ⟨hx, hb, hml, hown, hts⟩ (c_X5_layersOf l D cI cJ cZ cO h a H.size v_thrown_c30 v_made v_layers v_burnt v_heart v_width v_sheets v_covered p1 (p2 - 7) _ hw) (cwV 2 hts gX5_piece_X5_layersOf rfl rfl rfl (by decide +kernel) ⟨Nat.le_of_ble_eq_true rfl, Nat.le_of_ble_eq_true rfl⟩) (preV (X := (W_X5_piece h a cI cJ cZ v_thrown_c30 v_made v_of v_many v_colour v_isOriginal v_state v_layers v_burnt v_heart v_width v_set_c41 v_sheets v_covered)) (pl := []) (cx := (W_X5_layersOf h a cI cJ cZ v_thrown_c30 v_made v_layers v_burnt v_heart v_width v_sheets v_covered)) (qb := 0) (ci := 6) hK hE hP hD [0, 6, 7] (by decide) rfl rfl rfl) rfl rfl hl.1 rfl (lv_room (Nat.le_of_ble_eq_true rfl)) dX5_piece_156 ⟨Nat.zero_le _, Nat.zero_le _⟩) (fun r_156 _ H locs hw hP hD hS => ?_)
      try dsimp only at hw
      have hP : va_P D vwCl (W_X5_piece h a cI cJ cZ v_thrown_c30 v_made v_of v_many v_colour v_isOriginal v_state v_layers v_burnt v_heart v_width v_set_c41 v_sheets v_covered) H := hP
      have hD : va_D A (W_X5_piece h a cI cJ cZ v_thrown_c30 v_made v_of v_many v_colour v_isOriginal v_state v_layers v_burnt v_heart v_width v_set_c41 v_sheets v_covered) := hD
      exact RT r_156 (v_thrown_c30, v_set_c41) _ _ _ _ dX5_piece_159 hw hP hD hS
    · have hw := hw.1 c33
      refine lv_iconst (v := 0) hx hb dX5_piece_36 (by decide) ?_
      exact RT 0 (v_thrown_c30, v_set) _ _ _ _ dX5_piece_37 hw hP hD hS
  refine lv_aload_n hx hb dX5_piece_0 rfl (lv_at hl 0 rfl) ?_
  refine lv_iload_n hx hb dX5_piece_1 rfl (lv_at hl 1 rfl) ?_
  refine af_i (X := (W_X5_piece h a cI cJ cZ v_thrown v_made v_of v_many v_colour v_isOriginal v_state v_layers v_burnt v_heart v_width v_set v_sheets v_covered)) (pl := []) (cx := (W_X5_isPiece h a cI cJ cZ v_thrown v_made v_many v_heart v_width v_sheets v_covered)) (w1 := fun (u : Unit) => (W_X5_isPiece h a cI cJ cZ v_thrown v_made v_many v_heart v_width v_sheets v_covered)) (X' := fun (u : Unit) => (W_X5_piece h a cI cJ cZ v_thrown v_made v_of v_many v_colour v_isOriginal v_state v_layers v_burnt v_heart v_width v_set v_sheets v_covered)) hP hD hS hA [0, 2] [1, 3, 4, 5, 6, 7, 8] [7, 0, 8, 1, 2, 3, 4, 5, 6] rfl rfl (by decide) (by decide) (fun u => rfl) (by decide) (va_runV (As := [.int p1]) (rest := []) ⟨hx, hb, hml, hown, hts⟩ (c_X5_isPiece l D cI cJ cZ cO h a H.size v_thrown v_made v_many v_heart v_width v_sheets v_covered p1 _ hw) (cwV 1 hts gX5_piece_X5_isPiece rfl rfl rfl (by decide +kernel) ⟨Nat.le_of_ble_eq_true rfl, Nat.le_of_ble_eq_true rfl⟩) (preV (X := (W_X5_piece h a cI cJ cZ v_thrown v_made v_of v_many v_colour v_isOriginal v_state v_layers v_burnt v_heart v_width v_set v_sheets v_covered)) (pl := []) (cx := (W_X5_isPiece h a cI cJ cZ v_thrown v_made v_many v_heart v_width v_sheets v_covered)) (qb := 0) (ci := 6) hK hE hP hD [0, 2] (by decide) rfl rfl rfl) rfl rfl hl.1 rfl (lv_room (Nat.le_of_ble_eq_true rfl)) dX5_piece_2 ⟨Nat.zero_le _, Nat.zero_le _⟩) (fun r_2 _ H locs hw hP hD hS => ?_)
  try dsimp only at hw
  have hP : va_P D vwCl (W_X5_piece h a cI cJ cZ v_thrown v_made v_of v_many v_colour v_isOriginal v_state v_layers v_burnt v_heart v_width v_set v_sheets v_covered) H := hP
  have hD : va_D A (W_X5_piece h a cI cJ cZ v_thrown v_made v_of v_many v_colour v_isOriginal v_state v_layers v_burnt v_heart v_width v_set v_sheets v_covered) := hD
  refine lv_istore_n (lv' := [(3, .int r_2), (0, .ref h), (1, .int p1), (2, .int p2)]) hx hb dX5_piece_5 rfl hl (by decide) rfl (fun ls hl => ?_)
  refine lv_aload_n hx hb dX5_piece_6 rfl (lv_at hl 1 rfl) ?_
  refine lv_iload_n hx hb dX5_piece_7 rfl (lv_at hl 0 rfl) ?_
  refine lv_if_ne (tgt := 15) hx hb dX5_piece_8 (by decide) (fun c8 => ?_) (fun c8 => ?_)
  · have hw := hw.2 c8
    refine lv_iload_n hx hb dX5_piece_15 rfl (lv_at hl 3 rfl) ?_
    refine lv_iconst (v := 0) hx hb dX5_piece_16 (by decide) ?_
    refine lv_bipush (v := 9) hx hb dX5_piece_17 (by decide) ?_
    refine af_i (X := (W_X5_piece h a cI cJ cZ v_thrown v_made v_of v_many v_colour v_isOriginal v_state v_layers v_burnt v_heart v_width v_set v_sheets v_covered)) (pl := []) (cx := ([] : va_W)) (w1 := fun (u : Unit) => ([] : va_W)) (X' := fun (u : Unit) => (W_X5_piece h a cI cJ cZ v_thrown v_made v_of v_many v_colour v_isOriginal v_state v_layers v_burnt v_heart v_width v_set v_sheets v_covered)) hP hD hS hA [] [0, 1, 2, 3, 4, 5, 6, 7, 8] [0, 1, 2, 3, 4, 5, 6, 7, 8] rfl rfl (by decide) (by decide) (fun u => rfl) (by decide) (va_runS (As := [.int p2, .int 0, .int 9]) (rest := [.ref h]) ⟨hx, hb, hml, hown, hts⟩ (c_X5_in l D cI cJ cZ cO H.size p2 0 9 _ hw) (va_cwS 3 hts gX5_piece_X5_in rfl rfl rfl (by decide +kernel) ⟨Nat.le_of_ble_eq_true rfl, Nat.le_of_ble_eq_true rfl⟩) (preS (X := (W_X5_piece h a cI cJ cZ v_thrown v_made v_of v_many v_colour v_isOriginal v_state v_layers v_burnt v_heart v_width v_set v_sheets v_covered)) (pl := []) (cx := ([] : va_W)) hK hE hP hD [] (by decide) rfl) rfl rfl hl.1 rfl (lv_room (Nat.le_of_ble_eq_true rfl)) dX5_piece_19 ⟨Nat.zero_le _, Nat.zero_le _⟩) (fun r_19 _ H locs hw hP hD hS => ?_)
    try dsimp only at hw
    have hP : va_P D vwCl (W_X5_piece h a cI cJ cZ v_thrown v_made v_of v_many v_colour v_isOriginal v_state v_layers v_burnt v_heart v_width v_set v_sheets v_covered) H := hP
    have hD : va_D A (W_X5_piece h a cI cJ cZ v_thrown v_made v_of v_many v_colour v_isOriginal v_state v_layers v_burnt v_heart v_width v_set v_sheets v_covered) := hD
    refine lv_if_eq (tgt := 29) hx hb dX5_piece_22 (by decide) (fun c22 => ?_) (fun c22 => ?_)
    · have hw := hw.1 c22
      refine lv_iconst (v := 2) hx hb dX5_piece_29 (by decide) ?_
      exact J30 2 hw _ _ ls hP hD hS (lv_sub hl [1, 2, 3] rfl)
    · have hw := hw.2 c22
      refine lv_iconst (v := 0) hx hb dX5_piece_25 (by decide) ?_
      refine lv_goto (tgt := 30) hx hb dX5_piece_26 (by decide) ?_
      exact J30 0 hw _ _ ls hP hD hS (lv_sub hl [1, 2, 3] rfl)
  · have hw := hw.1 c8
    refine lv_iconst (v := 1) hx hb dX5_piece_11 (by decide) ?_
    refine lv_goto (tgt := 30) hx hb dX5_piece_12 (by decide) ?_
    exact J30 1 hw _ _ ls hP hD hS (lv_sub hl [1, 2, 3] rfl)
abbrev rm_X5_along : Room := { frames := 2, cells := 0, slots := 0, locals := 45 }
abbrev W_X5_along (h : Nat) (a : Nat → Nat) (cI cJ cZ : ClassId) (v_thrown : Int32) (v_made : Int32) (v_of : Nat → Int32) (v_heart : Int32) (v_width : Int32) (v_sheets : Int32) (v_covered : Int32) : va_W := [(h, .inr (6, [.int v_thrown, .int v_made, .ref (a 2), .ref (a 3), .ref (a 4), .ref (a 5), .ref (a 6), .ref (a 7), .ref (a 8), .ref (a 9), .ref (a 10), .ref (a 11), .int v_heart, .int v_width, .ref (a 14), .ref (a 15), .ref (a 16), .ref (a 17), .ref (a 18), .ref (a 19), .ref (a 20), .ref (a 21), .int v_sheets, .int v_covered])), ((a 2), .inl (cI, 256, .inl v_of))]
def wp_X5_along_83 (v_of : Nat → Int32) (p1 : Int32) (p2 : Int32) (post : Int32 → Prop) (K5 : Int32 → Int32 → Prop) (s0_j83 : Int32) (s1_j83 : Int32) (x4_j83 : Int32) : Prop := K5 (s0_j83 + s1_j83) (x4_j83 + 1)
def wp_X5_along_26 (v_of : Nat → Int32) (p1 : Int32) (p2 : Int32) (post : Int32 → Prop) (K5 : Int32 → Int32 → Prop) (s0_j26 : Int32) (s1_j26 : Int32) (x3_j26 : Int32) (x4_j26 : Int32) : Prop := wp_X5_beside s0_j26 s1_j26 (fun r_26 => (r_26 = (-1) → wp_X5_along_83 v_of p1 p2 post K5 x3_j26 0 x4_j26) ∧ (¬ r_26 = (-1) → vp_in x4_j26 256 ∧ (((v_of x4_j26.toNatClampNeg) = p1 → vp_in r_26 256 ∧ (((v_of r_26.toNatClampNeg) = p1 → wp_X5_isBeyond x4_j26 p2 (fun r_63 => (r_63 = 0 → wp_X5_isBeyond r_26 p2 (fun r_72 => (r_72 = 0 → wp_X5_along_83 v_of p1 p2 post K5 x3_j26 0 x4_j26) ∧ (¬ r_72 = 0 → wp_X5_along_83 v_of p1 p2 post K5 x3_j26 1 x4_j26))) ∧ (¬ r_63 = 0 → wp_X5_along_83 v_of p1 p2 post K5 x3_j26 0 x4_j26))) ∧ (¬ (v_of r_26.toNatClampNeg) = p1 → wp_X5_along_83 v_of p1 p2 post K5 x3_j26 0 x4_j26))) ∧ (¬ (v_of x4_j26.toNatClampNeg) = p1 → wp_X5_along_83 v_of p1 p2 post K5 x3_j26 0 x4_j26))))
def wp_X5_along_5 (v_of : Nat → Int32) (p1 : Int32) (p2 : Int32) (post : Int32 → Prop) (K5 : Int32 → Int32 → Prop) (x3_j5 : Int32) (x4_j5 : Int32) : Prop := (256 ≤ x4_j5 → post x3_j5) ∧ (¬ 256 ≤ x4_j5 → (16 ≤ p2 → wp_X5_along_26 v_of p1 p2 post K5 x4_j5 3 x3_j5 x4_j5) ∧ (¬ 16 ≤ p2 → wp_X5_along_26 v_of p1 p2 post K5 x4_j5 1 x3_j5 x4_j5))
def lF_X5_along_5 (v_of : Nat → Int32) (p1 : Int32) (p2 : Int32) (post : Int32 → Prop) : ((Int32 × Int32) → Prop) → (Int32 × Int32) → Prop := fun K s => wp_X5_along_5 v_of p1 p2 post (fun b0 b1 => K (b0, b1)) s.1 s.2
def wp_X5_along (v_of : Nat → Int32) (p1 : Int32) (p2 : Int32) (post : Int32 → Prop) : Prop := lp (lF_X5_along_5 v_of p1 p2 post) (0, 0)
set_option maxHeartbeats 4000000 in
set_option maxRecDepth 100000 in
theorem c_X5_along (l : Launch) (D : va_G) (cI cJ cZ cO : ClassId) (h : Nat) (a : Nat → Nat) (sz : Nat) (v_thrown : Int32) (v_made : Int32) (v_of : Nat → Int32) (v_heart : Int32) (v_width : Int32) (v_sheets : Int32) (v_covered : Int32) (p1 : Int32) (p2 : Int32) (post : Int32 → Prop) (hw : wp_X5_along v_of p1 p2 post) : Met l yX5_along wsX5_along rm_X5_along (va_Pc [.ref h, .int p1, .int p2] (PRE D cI cJ cZ cO (W_X5_along h a cI cJ cZ v_thrown v_made v_of v_heart v_width v_sheets v_covered) sz)) (va_Qi (fun r (_ : Unit) => post r) (fun u t => POST D (va_A (W_X5_along h a cI cJ cZ v_thrown v_made v_of v_heart v_width v_sheets v_covered) sz) (W_X5_along h a cI cJ cZ v_thrown v_made v_of v_heart v_width v_sheets v_covered) t) (va_A (W_X5_along h a cI cJ cZ v_thrown v_made v_of v_heart v_width v_sheets v_covered) sz)) 0 0 (va_A (W_X5_along h a cI cJ cZ v_thrown v_made v_of v_heart v_width v_sheets v_covered) sz) := by
  refine met_go (cc := cX5_along) (maxL := 6) (ret := some .int) RX5 rfl (by decide) rfl (Nat.le_of_ble_eq_true rfl) ?_
  intro p e s m args below meth c ls hx hb hr hts hown hlocks hin hml hsz hP hK hE hD hA hS hl
  have iRX5 : ∀ w ∈ u_ws RX5 TX5 24, w ∈ wsX5_along := mem_seg 12 24 rfl
  generalize va_A (W_X5_along h a cI cJ cZ v_thrown v_made v_of v_heart v_width v_sheets v_covered) sz = A at hD hA hS ⊢
  have RT : ∀ (v : Int32) (u : Unit) (H : Heap) (locs : List Loc) (pc : Nat) (ls : Array Slot), decode cX5_along pc = .ok (.ireturn, 1) → post v → va_P D vwCl (W_X5_along h a cI cJ cZ v_thrown v_made v_of v_heart v_width v_sheets v_covered) H → va_D A (W_X5_along h a cI cJ cZ v_thrown v_made v_of v_heart v_width v_sheets v_covered) → va_S A s.heap H locs → W p l e rm_X5_along s m args below meth c H locs 0 0 (MQ below (va_Qi (fun r (_ : Unit) => post r) (fun u t => POST D A (W_X5_along h a cI cJ cZ v_thrown v_made v_of v_heart v_width v_sheets v_covered) t) A) args s 0 0 A) (F0 m pc ls [.int v]) := fun v u H locs pc ls d g1 g2 g3 g4 => rt_i (Wf := fun u => (W_X5_along h a cI cJ cZ v_thrown v_made v_of v_heart v_width v_sheets v_covered)) u hx hb hr hlocks g1 g2 g3 g4 d
  generalize (MQ below (va_Qi (fun r (_ : Unit) => post r) (fun u t => POST D A (W_X5_along h a cI cJ cZ v_thrown v_made v_of v_heart v_width v_sheets v_covered) t) A) args s 0 0 A) = QQ at RT ⊢
  have hl : lv_has ls 6 [(0, .ref h), (1, .int p1), (2, .int p2)] := hl
  have hP : va_P D vwCl (W_X5_along h a cI cJ cZ v_thrown v_made v_of v_heart v_width v_sheets v_covered) s.heap := hP
  unfold wp_X5_along at hw
  suffices GO : ∀ (H : Heap) (locs : List Loc), va_P D vwCl (W_X5_along h a cI cJ cZ v_thrown v_made v_of v_heart v_width v_sheets v_covered) H → va_S A s.heap H locs → W p l e rm_X5_along s m args below meth c H locs 0 0 QQ (F0 m 0 ls []) from GO _ _ hP hS
  clear hsz hP hS
  intro H locs hP hS
  have L5 : ∀ s0 : (Int32 × Int32), lp (lF_X5_along_5 v_of p1 p2 post) s0 → ∀ (H : Heap) (locs : List Loc) (ls : Array Slot), va_P D vwCl (W_X5_along h a cI cJ cZ v_thrown v_made v_of v_heart v_width v_sheets v_covered) H → va_D A (W_X5_along h a cI cJ cZ v_thrown v_made v_of v_heart v_width v_sheets v_covered) → va_S A s.heap H locs → lv_has ls 6 [(0, .ref h), (1, .int p1), (2, .int p2), (3, .int s0.1), (4, .int s0.2)] → W p l e rm_X5_along s m args below meth c H locs 0 0 QQ (F0 m 5 ls []) := by
    refine lp_elim (fun K5 ih5 s0 hw => ?_)
    obtain ⟨x3_j5, x4_j5⟩ := s0
    intro H locs ls hP hD hS hl
    have hw : wp_X5_along_5 v_of p1 p2 post (fun b0 b1 => K5 (b0, b1)) x3_j5 x4_j5 := hw
    have hP : va_P D vwCl (W_X5_along h a cI cJ cZ v_thrown v_made v_of v_heart v_width v_sheets v_covered) H := hP
    have hD : va_D A (W_X5_along h a cI cJ cZ v_thrown v_made v_of v_heart v_width v_sheets v_covered) := hD
    have hl : lv_has ls 6 [(0, .ref h), (1, .int p1), (2, .int p2), (3, .int x3_j5), (4, .int x4_j5)] := hl
    have J83 : ∀ (s0_j83 : Int32) (s1_j83 : Int32) (x4_j83 : Int32) , wp_X5_along_83 v_of p1 p2 post (fun b0 b1 => K5 (b0, b1)) s0_j83 s1_j83 x4_j83 → ∀ (H : Heap) (locs : List Loc) (ls : Array Slot), va_P D vwCl (W_X5_along h a cI cJ cZ v_thrown v_made v_of v_heart v_width v_sheets v_covered) H → va_D A (W_X5_along h a cI cJ cZ v_thrown v_made v_of v_heart v_width v_sheets v_covered) → va_S A s.heap H locs → lv_has ls 6 [(0, .ref h), (1, .int p1), (2, .int p2), (4, .int x4_j83)] → W p l e rm_X5_along s m args below meth c H locs 0 0 QQ (F0 m 83 ls [.int s1_j83, .int s0_j83]) := by
      intro s0_j83 s1_j83 x4_j83 hw H locs ls hP hD hS hl
      unfold wp_X5_along_83 at hw
      refine lv_iadd hx hb dX5_along_83 ?_
      refine lv_istore_n (lv' := [(3, .int (s0_j83 + s1_j83)), (0, .ref h), (1, .int p1), (2, .int p2), (4, .int x4_j83)]) hx hb dX5_along_84 rfl hl (by decide) rfl (fun ls hl => ?_)
      refine lv_iinc (v := (x4_j83 + 1)) (lv' := [(4, .int (x4_j83 + 1)), (3, .int (s0_j83 + s1_j83)), (0, .ref h), (1, .int p1), (2, .int p2)]) hx hb dX5_along_85 hl (k := 4) rfl rfl (by decide) rfl (fun ls hl => ?_)
      refine lv_goto (tgt := 5) hx hb dX5_along_88 (by decide) ?_
      exact ih5 ((s0_j83 + s1_j83), (x4_j83 + 1)) hw _ _ ls hP hD hS (lv_sub hl [2, 3, 4, 1, 0] rfl)
    have J26 : ∀ (s0_j26 : Int32) (s1_j26 : Int32) (x3_j26 : Int32) (x4_j26 : Int32) , wp_X5_along_26 v_of p1 p2 post (fun b0 b1 => K5 (b0, b1)) s0_j26 s1_j26 x3_j26 x4_j26 → ∀ (H : Heap) (locs : List Loc) (ls : Array Slot), va_P D vwCl (W_X5_along h a cI cJ cZ v_thrown v_made v_of v_heart v_width v_sheets v_covered) H → va_D A (W_X5_along h a cI cJ cZ v_thrown v_made v_of v_heart v_width v_sheets v_covered) → va_S A s.heap H locs → lv_has ls 6 [(0, .ref h), (1, .int p1), (2, .int p2), (3, .int x3_j26), (4, .int x4_j26)] → W p l e rm_X5_along s m args below meth c H locs 0 0 QQ (F0 m 26 ls [.int s1_j26, .int s0_j26]) := by
      intro s0_j26 s1_j26 x3_j26 x4_j26 hw H locs ls hP hD hS hl
      unfold wp_X5_along_26 at hw
      refine af_i (X := (W_X5_along h a cI cJ cZ v_thrown v_made v_of v_heart v_width v_sheets v_covered)) (pl := []) (cx := ([] : va_W)) (w1 := fun (u : Unit) => ([] : va_W)) (X' := fun (u : Unit) => (W_X5_along h a cI cJ cZ v_thrown v_made v_of v_heart v_width v_sheets v_covered)) hP hD hS hA [] [0, 1] [0, 1] rfl rfl (by decide) (by decide) (fun u => rfl) (by decide) (va_runS (As := [.int s0_j26, .int s1_j26]) (rest := []) ⟨hx, hb, hml, hown, hts⟩ (c_X5_beside l D cI cJ cZ cO H.size s0_j26 s1_j26 _ hw) (va_cwS 2 hts gX5_along_X5_beside rfl rfl rfl (by decide +kernel) ⟨Nat.le_of_ble_eq_true rfl, Nat.le_of_ble_eq_true rfl⟩) (preS (X := (W_X5_along h a cI cJ cZ v_thrown v_made v_of v_heart v_width v_sheets v_covered)) (pl := []) (cx := ([] : va_W)) hK hE hP hD [] (by decide) rfl) rfl rfl hl.1 rfl (lv_room (Nat.le_of_ble_eq_true rfl)) dX5_along_26 ⟨Nat.zero_le _, Nat.zero_le _⟩) (fun r_26 _ H locs hw hP hD hS => ?_)
      try dsimp only at hw
      have hP : va_P D vwCl (W_X5_along h a cI cJ cZ v_thrown v_made v_of v_heart v_width v_sheets v_covered) H := hP
      have hD : va_D A (W_X5_along h a cI cJ cZ v_thrown v_made v_of v_heart v_width v_sheets v_covered) := hD
      refine lv_istore (lv' := [(5, .int r_26), (0, .ref h), (1, .int p1), (2, .int p2), (3, .int x3_j26), (4, .int x4_j26)]) hx hb dX5_along_29 hl (by decide) rfl (fun ls hl => ?_)
      refine lv_iload_n hx hb dX5_along_31 rfl (lv_at hl 4 rfl) ?_
      refine lv_iload hx hb dX5_along_32 (lv_at hl 0 rfl) ?_
      refine lv_iconst (v := (-1)) hx hb dX5_along_34 (by decide) ?_
      refine lv_icmp_eq (tgt := 82) hx hb dX5_along_35 (by decide) (fun c35 => ?_) (fun c35 => ?_)
      · have hw := hw.1 c35
        refine lv_iconst (v := 0) hx hb dX5_along_82 (by decide) ?_
        exact J83 x3_j26 0 x4_j26 hw _ _ ls hP hD hS (lv_sub hl [1, 2, 3, 5] rfl)
      · have hw := hw.2 c35
        refine lv_aload_n hx hb dX5_along_38 rfl (lv_at hl 1 rfl) ?_
        refine va_get (D := D) (ci := 6) (v := .ref (a 2)) (C := RX5) (T := TX5) (N := 24) hx hb hts iRX5 hown hK hP 0 rfl rfl 2 (by decide) (hts (.fieldLink RX5 13 "LeadlightModel" "of" "[I") (List.mem_of_getElem? (i := 1) rfl)) (fun _ h9 => h9) rfl dX5_along_39 ?_
        refine lv_iload hx hb dX5_along_42 (lv_at hl 5 rfl) ?_
        obtain ⟨hi_44, hw⟩ := hw
        refine va_iald hx hb hK hP 1 0 rfl rfl hi_44 dX5_along_44 ?_
        refine lv_iload_n hx hb dX5_along_45 rfl (lv_at hl 2 rfl) ?_
        refine lv_icmp_ne (tgt := 82) hx hb dX5_along_46 (by decide) (fun c46 => ?_) (fun c46 => ?_)
        · have hw := hw.2 c46
          refine lv_iconst (v := 0) hx hb dX5_along_82 (by decide) ?_
          exact J83 x3_j26 0 x4_j26 hw _ _ ls hP hD hS (lv_sub hl [1, 2, 3, 5] rfl)
        · have hw := hw.1 c46
          refine lv_aload_n hx hb dX5_along_49 rfl (lv_at hl 1 rfl) ?_
          refine va_get (D := D) (ci := 6) (v := .ref (a 2)) (C := RX5) (T := TX5) (N := 24) hx hb hts iRX5 hown hK hP 0 rfl rfl 2 (by decide) (hts (.fieldLink RX5 13 "LeadlightModel" "of" "[I") (List.mem_of_getElem? (i := 1) rfl)) (fun _ h9 => h9) rfl dX5_along_50 ?_
          refine lv_iload hx hb dX5_along_53 (lv_at hl 0 rfl) ?_
          obtain ⟨hi_55, hw⟩ := hw
          refine va_iald hx hb hK hP 1 0 rfl rfl hi_55 dX5_along_55 ?_
          refine lv_iload_n hx hb dX5_along_56 rfl (lv_at hl 2 rfl) ?_
          refine lv_icmp_ne (tgt := 82) hx hb dX5_along_57 (by decide) (fun c57 => ?_) (fun c57 => ?_)
          · have hw := hw.2 c57
            refine lv_iconst (v := 0) hx hb dX5_along_82 (by decide) ?_
            exact J83 x3_j26 0 x4_j26 hw _ _ ls hP hD hS (lv_sub hl [1, 2, 3, 5] rfl)
          · have hw := hw.1 c57
            refine lv_iload hx hb dX5_along_60 (lv_at hl 5 rfl) ?_
            refine lv_iload_n hx hb dX5_along_62 rfl (lv_at hl 3 rfl) ?_
            refine af_i (X := (W_X5_along h a cI cJ cZ v_thrown v_made v_of v_heart v_width v_sheets v_covered)) (pl := []) (cx := ([] : va_W)) (w1 := fun (u : Unit) => ([] : va_W)) (X' := fun (u : Unit) => (W_X5_along h a cI cJ cZ v_thrown v_made v_of v_heart v_width v_sheets v_covered)) hP hD hS hA [] [0, 1] [0, 1] rfl rfl (by decide) (by decide) (fun u => rfl) (by decide) (va_runS (As := [.int x4_j26, .int p2]) (rest := [.int x3_j26]) ⟨hx, hb, hml, hown, hts⟩ (c_X5_isBeyond l D cI cJ cZ cO H.size x4_j26 p2 _ hw) (va_cwS 2 hts gX5_along_X5_isBeyond rfl rfl rfl (by decide +kernel) ⟨Nat.le_of_ble_eq_true rfl, Nat.le_of_ble_eq_true rfl⟩) (preS (X := (W_X5_along h a cI cJ cZ v_thrown v_made v_of v_heart v_width v_sheets v_covered)) (pl := []) (cx := ([] : va_W)) hK hE hP hD [] (by decide) rfl) rfl rfl hl.1 rfl (lv_room (Nat.le_of_ble_eq_true rfl)) dX5_along_63 ⟨Nat.zero_le _, Nat.zero_le _⟩) (fun r_63 _ H locs hw hP hD hS => ?_)
            try dsimp only at hw
            have hP : va_P D vwCl (W_X5_along h a cI cJ cZ v_thrown v_made v_of v_heart v_width v_sheets v_covered) H := hP
            have hD : va_D A (W_X5_along h a cI cJ cZ v_thrown v_made v_of v_heart v_width v_sheets v_covered) := hD
            refine lv_if_ne (tgt := 82) hx hb dX5_along_66 (by decide) (fun c66 => ?_) (fun c66 => ?_)
            · have hw := hw.2 c66
              refine lv_iconst (v := 0) hx hb dX5_along_82 (by decide) ?_
              exact J83 x3_j26 0 x4_j26 hw _ _ ls hP hD hS (lv_sub hl [1, 2, 3, 5] rfl)
            · have hw := hw.1 c66
              refine lv_iload hx hb dX5_along_69 (lv_at hl 0 rfl) ?_
              refine lv_iload_n hx hb dX5_along_71 rfl (lv_at hl 3 rfl) ?_
              refine af_i (X := (W_X5_along h a cI cJ cZ v_thrown v_made v_of v_heart v_width v_sheets v_covered)) (pl := []) (cx := ([] : va_W)) (w1 := fun (u : Unit) => ([] : va_W)) (X' := fun (u : Unit) => (W_X5_along h a cI cJ cZ v_thrown v_made v_of v_heart v_width v_sheets v_covered)) hP hD hS hA [] [0, 1] [0, 1] rfl rfl (by decide) (by decide) (fun u => rfl) (by decide) (va_runS (As := [.int r_26, .int p2]) (rest := [.int x3_j26]) ⟨hx, hb, hml, hown, hts⟩ (c_X5_isBeyond l D cI cJ cZ cO H.size r_26 p2 _ hw) (va_cwS 2 hts gX5_along_X5_isBeyond rfl rfl rfl (by decide +kernel) ⟨Nat.le_of_ble_eq_true rfl, Nat.le_of_ble_eq_true rfl⟩) (preS (X := (W_X5_along h a cI cJ cZ v_thrown v_made v_of v_heart v_width v_sheets v_covered)) (pl := []) (cx := ([] : va_W)) hK hE hP hD [] (by decide) rfl) rfl rfl hl.1 rfl (lv_room (Nat.le_of_ble_eq_true rfl)) dX5_along_72 ⟨Nat.zero_le _, Nat.zero_le _⟩) (fun r_72 _ H locs hw hP hD hS => ?_)
              try dsimp only at hw
              have hP : va_P D vwCl (W_X5_along h a cI cJ cZ v_thrown v_made v_of v_heart v_width v_sheets v_covered) H := hP
              have hD : va_D A (W_X5_along h a cI cJ cZ v_thrown v_made v_of v_heart v_width v_sheets v_covered) := hD
              refine lv_if_eq (tgt := 82) hx hb dX5_along_75 (by decide) (fun c75 => ?_) (fun c75 => ?_)
              · have hw := hw.1 c75
                refine lv_iconst (v := 0) hx hb dX5_along_82 (by decide) ?_
                exact J83 x3_j26 0 x4_j26 hw _ _ ls hP hD hS (lv_sub hl [1, 2, 3, 5] rfl)
              · have hw := hw.2 c75
                refine lv_iconst (v := 1) hx hb dX5_along_78 (by decide) ?_
                refine lv_goto (tgt := 83) hx hb dX5_along_79 (by decide) ?_
                exact J83 x3_j26 1 x4_j26 hw _ _ ls hP hD hS (lv_sub hl [1, 2, 3, 5] rfl)
    unfold wp_X5_along_5 at hw
    refine lv_iload hx hb dX5_along_5 (lv_at hl 4 rfl) ?_
    refine lv_sipush (v := 256) hx hb dX5_along_7 (by decide) ?_
    refine lv_icmp_ge (tgt := 91) hx hb dX5_along_10 (by decide) (fun c10 => ?_) (fun c10 => ?_)
    · have hw := hw.1 c10
      refine lv_iload_n hx hb dX5_along_91 rfl (lv_at hl 3 rfl) ?_
      exact RT x3_j5 () _ _ _ _ dX5_along_92 hw hP hD hS
    · have hw := hw.2 c10
      refine lv_iload hx hb dX5_along_13 (lv_at hl 4 rfl) ?_
      refine lv_iload_n hx hb dX5_along_15 rfl (lv_at hl 2 rfl) ?_
      refine lv_bipush (v := 16) hx hb dX5_along_16 (by decide) ?_
      refine lv_icmp_ge (tgt := 25) hx hb dX5_along_18 (by decide) (fun c18 => ?_) (fun c18 => ?_)
      · have hw := hw.1 c18
        refine lv_iconst (v := 3) hx hb dX5_along_25 (by decide) ?_
        exact J26 x4_j5 3 x3_j5 x4_j5 hw _ _ ls hP hD hS (lv_sub hl [0, 1, 2, 3, 4] rfl)
      · have hw := hw.2 c18
        refine lv_iconst (v := 1) hx hb dX5_along_21 (by decide) ?_
        refine lv_goto (tgt := 26) hx hb dX5_along_22 (by decide) ?_
        exact J26 x4_j5 1 x3_j5 x4_j5 hw _ _ ls hP hD hS (lv_sub hl [0, 1, 2, 3, 4] rfl)
  refine lv_iconst (v := 0) hx hb dX5_along_0 (by decide) ?_
  refine lv_istore_n (lv' := [(3, .int 0), (0, .ref h), (1, .int p1), (2, .int p2)]) hx hb dX5_along_1 rfl hl (by decide) rfl (fun ls hl => ?_)
  refine lv_iconst (v := 0) hx hb dX5_along_2 (by decide) ?_
  refine lv_istore (lv' := [(4, .int 0), (3, .int 0), (0, .ref h), (1, .int p1), (2, .int p2)]) hx hb dX5_along_3 hl (by decide) rfl (fun ls hl => ?_)
  exact L5 (0, 0) hw _ _ ls hP hD hS (lv_sub hl [2, 3, 4, 1, 0] rfl)
abbrev rm_X5_bestLine : Room := { frames := 3, cells := 0, slots := 0, locals := 71 }
abbrev W_X5_bestLine (h : Nat) (a : Nat → Nat) (cI cJ cZ : ClassId) (v_thrown : Int32) (v_made : Int32) (v_of : Nat → Int32) (v_many : Nat → Int32) (v_heart : Int32) (v_width : Int32) (v_set : Nat → Int32) (v_seen : Nat → Int32) (v_pile : Nat → Int32) (v_sheets : Int32) (v_covered : Int32) : va_W := [(h, .inr (6, [.int v_thrown, .int v_made, .ref (a 2), .ref (a 3), .ref (a 4), .ref (a 5), .ref (a 6), .ref (a 7), .ref (a 8), .ref (a 9), .ref (a 10), .ref (a 11), .int v_heart, .int v_width, .ref (a 14), .ref (a 15), .ref (a 16), .ref (a 17), .ref (a 18), .ref (a 19), .ref (a 20), .ref (a 21), .int v_sheets, .int v_covered])), ((a 2), .inl (cI, 256, .inl v_of)), ((a 3), .inl (cI, 60, .inl v_many)), ((a 15), .inl (cZ, 256, .inl v_set)), ((a 16), .inl (cZ, 256, .inl v_seen)), ((a 17), .inl (cI, 256, .inl v_pile))]
def wp_X5_bestLine_123 (v_thrown : Int32) (v_made : Int32) (v_of : Nat → Int32) (v_many : Nat → Int32) (v_set : Nat → Int32) (v_seen : Nat → Int32) (v_pile : Nat → Int32) (p1 : Int32) (post : Int32 → Int32 → (Nat → Int32) → (Nat → Int32) → (Nat → Int32) → Prop) (K26 : Int32 → Int32 → Int32 → (Nat → Int32) → (Nat → Int32) → (Nat → Int32) → Prop) (s0_j123 : Int32) (x3_j123 : Int32) (v_thrown_j123 : Int32) (v_set_j123 : Nat → Int32) (v_seen_j123 : Nat → Int32) (v_pile_j123 : Nat → Int32) : Prop := K26 s0_j123 (x3_j123 + 1) v_thrown_j123 v_set_j123 v_seen_j123 v_pile_j123
def wp_X5_bestLine_91 (v_thrown : Int32) (v_made : Int32) (v_of : Nat → Int32) (v_many : Nat → Int32) (v_set : Nat → Int32) (v_seen : Nat → Int32) (v_pile : Nat → Int32) (p1 : Int32) (post : Int32 → Int32 → (Nat → Int32) → (Nat → Int32) → (Nat → Int32) → Prop) (K26 : Int32 → Int32 → Int32 → (Nat → Int32) → (Nat → Int32) → (Nat → Int32) → Prop) (s0_j91 : Int32) (x2_j91 : Int32) (x3_j91 : Int32) (v_thrown_j91 : Int32) (v_set_j91 : Nat → Int32) (v_seen_j91 : Nat → Int32) (v_pile_j91 : Nat → Int32) : Prop := (s0_j91 = 0 → wp_X5_bestLine_123 v_thrown v_made v_of v_many v_set v_seen v_pile p1 post K26 x2_j91 x3_j91 v_thrown_j91 v_set_j91 v_seen_j91 v_pile_j91) ∧ (¬ s0_j91 = 0 → (x2_j91 = (-1) → wp_X5_bestLine_123 v_thrown v_made v_of v_many v_set v_seen v_pile p1 post K26 x3_j91 x3_j91 v_thrown_j91 v_set_j91 v_seen_j91 v_pile_j91) ∧ (¬ x2_j91 = (-1) → wp_X5_along v_of p1 x3_j91 (fun r_106 => wp_X5_along v_of p1 x2_j91 (fun r_112 => (r_112 ≤ r_106 → wp_X5_bestLine_123 v_thrown v_made v_of v_many v_set v_seen v_pile p1 post K26 x2_j91 x3_j91 v_thrown_j91 v_set_j91 v_seen_j91 v_pile_j91) ∧ (¬ r_112 ≤ r_106 → wp_X5_bestLine_123 v_thrown v_made v_of v_many v_set v_seen v_pile p1 post K26 x3_j91 x3_j91 v_thrown_j91 v_set_j91 v_seen_j91 v_pile_j91)))))
def wp_X5_bestLine_26 (v_thrown : Int32) (v_made : Int32) (v_of : Nat → Int32) (v_many : Nat → Int32) (v_set : Nat → Int32) (v_seen : Nat → Int32) (v_pile : Nat → Int32) (p1 : Int32) (post : Int32 → Int32 → (Nat → Int32) → (Nat → Int32) → (Nat → Int32) → Prop) (K26 : Int32 → Int32 → Int32 → (Nat → Int32) → (Nat → Int32) → (Nat → Int32) → Prop) (x2_j26 : Int32) (x3_j26 : Int32) (v_thrown_j26 : Int32) (v_set_j26 : Nat → Int32) (v_seen_j26 : Nat → Int32) (v_pile_j26 : Nat → Int32) : Prop := (31 ≤ x3_j26 → post x2_j26 v_thrown_j26 v_set_j26 v_seen_j26 v_pile_j26) ∧ (¬ 31 ≤ x3_j26 → (x3_j26 = 15 → wp_X5_bestLine_91 v_thrown v_made v_of v_many v_set v_seen v_pile p1 post K26 0 x2_j26 x3_j26 v_thrown_j26 v_set_j26 v_seen_j26 v_pile_j26) ∧ (¬ x3_j26 = 15 → wp_X5_setSide v_of v_set_j26 p1 x3_j26 1 (fun r_42 v_set_c42 => (r_42 ≤ 0 → wp_X5_bestLine_91 v_thrown v_made v_of v_many v_set v_seen v_pile p1 post K26 0 x2_j26 x3_j26 v_thrown_j26 v_set_c42 v_seen_j26 v_pile_j26) ∧ (¬ r_42 ≤ 0 → wp_X5_isOne v_set_c42 v_seen_j26 v_pile_j26 (fun r_49 v_seen_c49 v_pile_c49 => (r_49 = 0 → wp_X5_bestLine_91 v_thrown v_made v_of v_many v_set v_seen v_pile p1 post K26 0 x2_j26 x3_j26 v_thrown_j26 v_set_c42 v_seen_c49 v_pile_c49) ∧ (¬ r_49 = 0 → wp_X5_cut v_set_c42 (fun r_56 => (r_56 = 0 → wp_X5_setSide v_of v_set_c42 p1 x3_j26 0 (fun r_66 v_set_c66 => (r_66 ≤ 0 → wp_X5_bestLine_91 v_thrown v_made v_of v_many v_set v_seen v_pile p1 post K26 0 x2_j26 x3_j26 v_thrown_j26 v_set_c66 v_seen_c49 v_pile_c49) ∧ (¬ r_66 ≤ 0 → wp_X5_isOne v_set_c66 v_seen_c49 v_pile_c49 (fun r_73 v_seen_c73 v_pile_c73 => (r_73 = 0 → wp_X5_bestLine_91 v_thrown v_made v_of v_many v_set v_seen v_pile p1 post K26 0 x2_j26 x3_j26 v_thrown_j26 v_set_c66 v_seen_c73 v_pile_c73) ∧ (¬ r_73 = 0 → wp_X5_cut v_set_c66 (fun r_80 => (r_80 = 0 → wp_X5_bestLine_91 v_thrown v_made v_of v_many v_set v_seen v_pile p1 post K26 1 x2_j26 x3_j26 v_thrown_j26 v_set_c66 v_seen_c73 v_pile_c73) ∧ (¬ r_80 = 0 → wp_X5_bestLine_91 v_thrown v_made v_of v_many v_set v_seen v_pile p1 post K26 0 x2_j26 x3_j26 v_thrown_j26 v_set_c66 v_seen_c73 v_pile_c73))))))) ∧ (¬ r_56 = 0 → wp_X5_bestLine_91 v_thrown v_made v_of v_many v_set v_seen v_pile p1 post K26 0 x2_j26 x3_j26 v_thrown_j26 v_set_c42 v_seen_c49 v_pile_c49))))))))
def lF_X5_bestLine_26 (v_thrown : Int32) (v_made : Int32) (v_of : Nat → Int32) (v_many : Nat → Int32) (v_set : Nat → Int32) (v_seen : Nat → Int32) (v_pile : Nat → Int32) (p1 : Int32) (post : Int32 → Int32 → (Nat → Int32) → (Nat → Int32) → (Nat → Int32) → Prop) : ((Int32 × Int32 × Int32 × (Nat → Int32) × (Nat → Int32) × (Nat → Int32)) → Prop) → (Int32 × Int32 × Int32 × (Nat → Int32) × (Nat → Int32) × (Nat → Int32)) → Prop := fun K s => wp_X5_bestLine_26 v_thrown v_made v_of v_many v_set v_seen v_pile p1 post (fun b0 b1 b2 b3 b4 b5 => K (b0, b1, b2, b3, b4, b5)) s.1 s.2.1 s.2.2.1 s.2.2.2.1 s.2.2.2.2.1 s.2.2.2.2.2
def wp_X5_bestLine_14 (v_thrown : Int32) (v_made : Int32) (v_of : Nat → Int32) (v_many : Nat → Int32) (v_set : Nat → Int32) (v_seen : Nat → Int32) (v_pile : Nat → Int32) (p1 : Int32) (post : Int32 → Int32 → (Nat → Int32) → (Nat → Int32) → (Nat → Int32) → Prop) (s1_j14 : Int32) : Prop := wp_X5_goesWell v_thrown s1_j14 (fun r_14 v_thrown_c14 => (r_14 = 0 → post 0 v_thrown_c14 v_set v_seen v_pile) ∧ (¬ r_14 = 0 → lp (lF_X5_bestLine_26 v_thrown v_made v_of v_many v_set v_seen v_pile p1 post) ((-1), 0, v_thrown_c14, v_set, v_seen, v_pile)))
def wp_X5_bestLine (v_thrown : Int32) (v_made : Int32) (v_of : Nat → Int32) (v_many : Nat → Int32) (v_set : Nat → Int32) (v_seen : Nat → Int32) (v_pile : Nat → Int32) (p1 : Int32) (post : Int32 → Int32 → (Nat → Int32) → (Nat → Int32) → (Nat → Int32) → Prop) : Prop := wp_X5_isPiece v_made v_many p1 (fun r_3 => (r_3 = 0 → wp_X5_bestLine_14 v_thrown v_made v_of v_many v_set v_seen v_pile p1 post 1) ∧ (¬ r_3 = 0 → wp_X5_bestLine_14 v_thrown v_made v_of v_many v_set v_seen v_pile p1 post 0))
set_option maxHeartbeats 4000000 in
set_option maxRecDepth 100000 in
theorem c_X5_bestLine (l : Launch) (D : va_G) (cI cJ cZ cO : ClassId) (h : Nat) (a : Nat → Nat) (sz : Nat) (v_thrown : Int32) (v_made : Int32) (v_of : Nat → Int32) (v_many : Nat → Int32) (v_heart : Int32) (v_width : Int32) (v_set : Nat → Int32) (v_seen : Nat → Int32) (v_pile : Nat → Int32) (v_sheets : Int32) (v_covered : Int32) (p1 : Int32) (post : Int32 → Int32 → (Nat → Int32) → (Nat → Int32) → (Nat → Int32) → Prop) (hw : wp_X5_bestLine v_thrown v_made v_of v_many v_set v_seen v_pile p1 post) : Met l yX5_bestLine wsX5_bestLine rm_X5_bestLine (va_Pc [.ref h, .int p1] (PRE D cI cJ cZ cO (W_X5_bestLine h a cI cJ cZ v_thrown v_made v_of v_many v_heart v_width v_set v_seen v_pile v_sheets v_covered) sz)) (va_Qi (fun r (u : Int32 × (Nat → Int32) × (Nat → Int32) × (Nat → Int32)) => post r u.1 u.2.1 u.2.2.1 u.2.2.2) (fun u t => POST D (va_A (W_X5_bestLine h a cI cJ cZ v_thrown v_made v_of v_many v_heart v_width v_set v_seen v_pile v_sheets v_covered) sz) (W_X5_bestLine h a cI cJ cZ u.1 v_made v_of v_many v_heart v_width u.2.1 u.2.2.1 u.2.2.2 v_sheets v_covered) t) (va_A (W_X5_bestLine h a cI cJ cZ v_thrown v_made v_of v_many v_heart v_width v_set v_seen v_pile v_sheets v_covered) sz)) 0 0 (va_A (W_X5_bestLine h a cI cJ cZ v_thrown v_made v_of v_many v_heart v_width v_set v_seen v_pile v_sheets v_covered) sz) := by
  refine met_go (cc := cX5_bestLine) (maxL := 5) (ret := some .int) RX5 rfl (by decide) rfl (Nat.le_of_ble_eq_true rfl) ?_
  intro p e s m args below meth c ls hx hb hr hts hown hlocks hin hml hsz hP hK hE hD hA hS hl
  have iRX5 : ∀ w ∈ u_ws RX5 TX5 24, w ∈ wsX5_bestLine := mem_seg 50 24 rfl
  generalize va_A (W_X5_bestLine h a cI cJ cZ v_thrown v_made v_of v_many v_heart v_width v_set v_seen v_pile v_sheets v_covered) sz = A at hD hA hS ⊢
  have RT : ∀ (v : Int32) (u : Int32 × (Nat → Int32) × (Nat → Int32) × (Nat → Int32)) (H : Heap) (locs : List Loc) (pc : Nat) (ls : Array Slot), decode cX5_bestLine pc = .ok (.ireturn, 1) → post v u.1 u.2.1 u.2.2.1 u.2.2.2 → va_P D vwCl (W_X5_bestLine h a cI cJ cZ u.1 v_made v_of v_many v_heart v_width u.2.1 u.2.2.1 u.2.2.2 v_sheets v_covered) H → va_D A (W_X5_bestLine h a cI cJ cZ u.1 v_made v_of v_many v_heart v_width u.2.1 u.2.2.1 u.2.2.2 v_sheets v_covered) → va_S A s.heap H locs → W p l e rm_X5_bestLine s m args below meth c H locs 0 0 (MQ below (va_Qi (fun r (u : Int32 × (Nat → Int32) × (Nat → Int32) × (Nat → Int32)) => post r u.1 u.2.1 u.2.2.1 u.2.2.2) (fun u t => POST D A (W_X5_bestLine h a cI cJ cZ u.1 v_made v_of v_many v_heart v_width u.2.1 u.2.2.1 u.2.2.2 v_sheets v_covered) t) A) args s 0 0 A) (F0 m pc ls [.int v]) := fun v u H locs pc ls d g1 g2 g3 g4 => rt_i (Wf := fun u => (W_X5_bestLine h a cI cJ cZ u.1 v_made v_of v_many v_heart v_width u.2.1 u.2.2.1 u.2.2.2 v_sheets v_covered)) u hx hb hr hlocks g1 g2 g3 g4 d
  generalize (MQ below (va_Qi (fun r (u : Int32 × (Nat → Int32) × (Nat → Int32) × (Nat → Int32)) => post r u.1 u.2.1 u.2.2.1 u.2.2.2) (fun u t => POST D A (W_X5_bestLine h a cI cJ cZ u.1 v_made v_of v_many v_heart v_width u.2.1 u.2.2.1 u.2.2.2 v_sheets v_covered) t) A) args s 0 0 A) = QQ at RT ⊢
  have hl : lv_has ls 5 [(0, .ref h), (1, .int p1)] := hl
  have hP : va_P D vwCl (W_X5_bestLine h a cI cJ cZ v_thrown v_made v_of v_many v_heart v_width v_set v_seen v_pile v_sheets v_covered) s.heap := hP
  unfold wp_X5_bestLine at hw
  suffices GO : ∀ (H : Heap) (locs : List Loc), va_P D vwCl (W_X5_bestLine h a cI cJ cZ v_thrown v_made v_of v_many v_heart v_width v_set v_seen v_pile v_sheets v_covered) H → va_S A s.heap H locs → W p l e rm_X5_bestLine s m args below meth c H locs 0 0 QQ (F0 m 0 ls []) from GO _ _ hP hS
  clear hsz hP hS
  intro H locs hP hS
  have L26 : ∀ s0 : (Int32 × Int32 × Int32 × (Nat → Int32) × (Nat → Int32) × (Nat → Int32)), lp (lF_X5_bestLine_26 v_thrown v_made v_of v_many v_set v_seen v_pile p1 post) s0 → ∀ (H : Heap) (locs : List Loc) (ls : Array Slot), va_P D vwCl (W_X5_bestLine h a cI cJ cZ s0.2.2.1 v_made v_of v_many v_heart v_width s0.2.2.2.1 s0.2.2.2.2.1 s0.2.2.2.2.2 v_sheets v_covered) H → va_D A (W_X5_bestLine h a cI cJ cZ s0.2.2.1 v_made v_of v_many v_heart v_width s0.2.2.2.1 s0.2.2.2.2.1 s0.2.2.2.2.2 v_sheets v_covered) → va_S A s.heap H locs → lv_has ls 5 [(0, .ref h), (1, .int p1), (2, .int s0.1), (3, .int s0.2.1)] → W p l e rm_X5_bestLine s m args below meth c H locs 0 0 QQ (F0 m 26 ls []) := by
    refine lp_elim (fun K26 ih26 s0 hw => ?_)
    obtain ⟨x2_j26, x3_j26, v_thrown_j26, v_set_j26, v_seen_j26, v_pile_j26⟩ := s0
    intro H locs ls hP hD hS hl
    have hw : wp_X5_bestLine_26 v_thrown v_made v_of v_many v_set v_seen v_pile p1 post (fun b0 b1 b2 b3 b4 b5 => K26 (b0, b1, b2, b3, b4, b5)) x2_j26 x3_j26 v_thrown_j26 v_set_j26 v_seen_j26 v_pile_j26 := hw
    have hP : va_P D vwCl (W_X5_bestLine h a cI cJ cZ v_thrown_j26 v_made v_of v_many v_heart v_width v_set_j26 v_seen_j26 v_pile_j26 v_sheets v_covered) H := hP
    have hD : va_D A (W_X5_bestLine h a cI cJ cZ v_thrown_j26 v_made v_of v_many v_heart v_width v_set_j26 v_seen_j26 v_pile_j26 v_sheets v_covered) := hD
    have hl : lv_has ls 5 [(0, .ref h), (1, .int p1), (2, .int x2_j26), (3, .int x3_j26)] := hl
    have J123 : ∀ (s0_j123 : Int32) (x3_j123 : Int32) (v_thrown_j123 : Int32) (v_set_j123 : Nat → Int32) (v_seen_j123 : Nat → Int32) (v_pile_j123 : Nat → Int32) , wp_X5_bestLine_123 v_thrown v_made v_of v_many v_set v_seen v_pile p1 post (fun b0 b1 b2 b3 b4 b5 => K26 (b0, b1, b2, b3, b4, b5)) s0_j123 x3_j123 v_thrown_j123 v_set_j123 v_seen_j123 v_pile_j123 → ∀ (H : Heap) (locs : List Loc) (ls : Array Slot), va_P D vwCl (W_X5_bestLine h a cI cJ cZ v_thrown_j123 v_made v_of v_many v_heart v_width v_set_j123 v_seen_j123 v_pile_j123 v_sheets v_covered) H → va_D A (W_X5_bestLine h a cI cJ cZ v_thrown_j123 v_made v_of v_many v_heart v_width v_set_j123 v_seen_j123 v_pile_j123 v_sheets v_covered) → va_S A s.heap H locs → lv_has ls 5 [(0, .ref h), (1, .int p1), (3, .int x3_j123)] → W p l e rm_X5_bestLine s m args below meth c H locs 0 0 QQ (F0 m 123 ls [.int s0_j123]) := by
      intro s0_j123 x3_j123 v_thrown_j123 v_set_j123 v_seen_j123 v_pile_j123 hw H locs ls hP hD hS hl
      unfold wp_X5_bestLine_123 at hw
      refine lv_istore_n (lv' := [(2, .int s0_j123), (0, .ref h), (1, .int p1), (3, .int x3_j123)]) hx hb dX5_bestLine_123 rfl hl (by decide) rfl (fun ls hl => ?_)
      refine lv_iinc (v := (x3_j123 + 1)) (lv' := [(3, .int (x3_j123 + 1)), (2, .int s0_j123), (0, .ref h), (1, .int p1)]) hx hb dX5_bestLine_124 hl (k := 3) rfl rfl (by decide) rfl (fun ls hl => ?_)
      refine lv_goto (tgt := 26) hx hb dX5_bestLine_127 (by decide) ?_
      exact ih26 (s0_j123, (x3_j123 + 1), v_thrown_j123, v_set_j123, v_seen_j123, v_pile_j123) hw _ _ ls hP hD hS (lv_sub hl [2, 3, 1, 0] rfl)
    have J91 : ∀ (s0_j91 : Int32) (x2_j91 : Int32) (x3_j91 : Int32) (v_thrown_j91 : Int32) (v_set_j91 : Nat → Int32) (v_seen_j91 : Nat → Int32) (v_pile_j91 : Nat → Int32) , wp_X5_bestLine_91 v_thrown v_made v_of v_many v_set v_seen v_pile p1 post (fun b0 b1 b2 b3 b4 b5 => K26 (b0, b1, b2, b3, b4, b5)) s0_j91 x2_j91 x3_j91 v_thrown_j91 v_set_j91 v_seen_j91 v_pile_j91 → ∀ (H : Heap) (locs : List Loc) (ls : Array Slot), va_P D vwCl (W_X5_bestLine h a cI cJ cZ v_thrown_j91 v_made v_of v_many v_heart v_width v_set_j91 v_seen_j91 v_pile_j91 v_sheets v_covered) H → va_D A (W_X5_bestLine h a cI cJ cZ v_thrown_j91 v_made v_of v_many v_heart v_width v_set_j91 v_seen_j91 v_pile_j91 v_sheets v_covered) → va_S A s.heap H locs → lv_has ls 5 [(0, .ref h), (1, .int p1), (2, .int x2_j91), (3, .int x3_j91)] → W p l e rm_X5_bestLine s m args below meth c H locs 0 0 QQ (F0 m 91 ls [.int s0_j91]) := by
      intro s0_j91 x2_j91 x3_j91 v_thrown_j91 v_set_j91 v_seen_j91 v_pile_j91 hw H locs ls hP hD hS hl
      unfold wp_X5_bestLine_91 at hw
      refine lv_istore (lv' := [(4, .int s0_j91), (0, .ref h), (1, .int p1), (2, .int x2_j91), (3, .int x3_j91)]) hx hb dX5_bestLine_91 hl (by decide) rfl (fun ls hl => ?_)
      refine lv_iload hx hb dX5_bestLine_93 (lv_at hl 0 rfl) ?_
      refine lv_if_eq (tgt := 122) hx hb dX5_bestLine_95 (by decide) (fun c95 => ?_) (fun c95 => ?_)
      · have hw := hw.1 c95
        refine lv_iload_n hx hb dX5_bestLine_122 rfl (lv_at hl 3 rfl) ?_
        exact J123 x2_j91 x3_j91 v_thrown_j91 v_set_j91 v_seen_j91 v_pile_j91 hw _ _ ls hP hD hS (lv_sub hl [1, 2, 4] rfl)
      · have hw := hw.2 c95
        refine lv_iload_n hx hb dX5_bestLine_98 rfl (lv_at hl 3 rfl) ?_
        refine lv_iconst (v := (-1)) hx hb dX5_bestLine_99 (by decide) ?_
        refine lv_icmp_eq (tgt := 118) hx hb dX5_bestLine_100 (by decide) (fun c100 => ?_) (fun c100 => ?_)
        · have hw := hw.1 c100
          refine lv_iload_n hx hb dX5_bestLine_118 rfl (lv_at hl 4 rfl) ?_
          refine lv_goto (tgt := 123) hx hb dX5_bestLine_119 (by decide) ?_
          exact J123 x3_j91 x3_j91 v_thrown_j91 v_set_j91 v_seen_j91 v_pile_j91 hw _ _ ls hP hD hS (lv_sub hl [1, 2, 4] rfl)
        · have hw := hw.2 c100
          refine lv_aload_n hx hb dX5_bestLine_103 rfl (lv_at hl 1 rfl) ?_
          refine lv_iload_n hx hb dX5_bestLine_104 rfl (lv_at hl 2 rfl) ?_
          refine lv_iload_n hx hb dX5_bestLine_105 rfl (lv_at hl 4 rfl) ?_
          refine af_i (X := (W_X5_bestLine h a cI cJ cZ v_thrown_j91 v_made v_of v_many v_heart v_width v_set_j91 v_seen_j91 v_pile_j91 v_sheets v_covered)) (pl := []) (cx := (W_X5_along h a cI cJ cZ v_thrown_j91 v_made v_of v_heart v_width v_sheets v_covered)) (w1 := fun (u : Unit) => (W_X5_along h a cI cJ cZ v_thrown_j91 v_made v_of v_heart v_width v_sheets v_covered)) (X' := fun (u : Unit) => (W_X5_bestLine h a cI cJ cZ v_thrown_j91 v_made v_of v_many v_heart v_width v_set_j91 v_seen_j91 v_pile_j91 v_sheets v_covered)) hP hD hS hA [0, 1] [2, 3, 4, 5] [4, 5, 0, 1, 2, 3] rfl rfl (by decide) (by decide) (fun u => rfl) (by decide) (va_runV (As := [.int p1, .int x3_j91]) (rest := []) ⟨hx, hb, hml, hown, hts⟩ (c_X5_along l D cI cJ cZ cO h a H.size v_thrown_j91 v_made v_of v_heart v_width v_sheets v_covered p1 x3_j91 _ hw) (cwV 2 hts gX5_bestLine_X5_along rfl rfl rfl (by decide +kernel) ⟨Nat.le_of_ble_eq_true rfl, Nat.le_of_ble_eq_true rfl⟩) (preV (X := (W_X5_bestLine h a cI cJ cZ v_thrown_j91 v_made v_of v_many v_heart v_width v_set_j91 v_seen_j91 v_pile_j91 v_sheets v_covered)) (pl := []) (cx := (W_X5_along h a cI cJ cZ v_thrown_j91 v_made v_of v_heart v_width v_sheets v_covered)) (qb := 0) (ci := 6) hK hE hP hD [0, 1] (by decide) rfl rfl rfl) rfl rfl hl.1 rfl (lv_room (Nat.le_of_ble_eq_true rfl)) dX5_bestLine_106 ⟨Nat.zero_le _, Nat.zero_le _⟩) (fun r_106 _ H locs hw hP hD hS => ?_)
          try dsimp only at hw
          have hP : va_P D vwCl (W_X5_bestLine h a cI cJ cZ v_thrown_j91 v_made v_of v_many v_heart v_width v_set_j91 v_seen_j91 v_pile_j91 v_sheets v_covered) H := hP
          have hD : va_D A (W_X5_bestLine h a cI cJ cZ v_thrown_j91 v_made v_of v_many v_heart v_width v_set_j91 v_seen_j91 v_pile_j91 v_sheets v_covered) := hD
          refine lv_aload_n hx hb dX5_bestLine_109 rfl (lv_at hl 1 rfl) ?_
          refine lv_iload_n hx hb dX5_bestLine_110 rfl (lv_at hl 2 rfl) ?_
          refine lv_iload_n hx hb dX5_bestLine_111 rfl (lv_at hl 3 rfl) ?_
          refine af_i (X := (W_X5_bestLine h a cI cJ cZ v_thrown_j91 v_made v_of v_many v_heart v_width v_set_j91 v_seen_j91 v_pile_j91 v_sheets v_covered)) (pl := []) (cx := (W_X5_along h a cI cJ cZ v_thrown_j91 v_made v_of v_heart v_width v_sheets v_covered)) (w1 := fun (u : Unit) => (W_X5_along h a cI cJ cZ v_thrown_j91 v_made v_of v_heart v_width v_sheets v_covered)) (X' := fun (u : Unit) => (W_X5_bestLine h a cI cJ cZ v_thrown_j91 v_made v_of v_many v_heart v_width v_set_j91 v_seen_j91 v_pile_j91 v_sheets v_covered)) hP hD hS hA [0, 1] [2, 3, 4, 5] [4, 5, 0, 1, 2, 3] rfl rfl (by decide) (by decide) (fun u => rfl) (by decide) (va_runV (As := [.int p1, .int x2_j91]) (rest := [.int r_106]) ⟨hx, hb, hml, hown, hts⟩ (c_X5_along l D cI cJ cZ cO h a H.size v_thrown_j91 v_made v_of v_heart v_width v_sheets v_covered p1 x2_j91 _ hw) (cwV 2 hts gX5_bestLine_X5_along rfl rfl rfl (by decide +kernel) ⟨Nat.le_of_ble_eq_true rfl, Nat.le_of_ble_eq_true rfl⟩) (preV (X := (W_X5_bestLine h a cI cJ cZ v_thrown_j91 v_made v_of v_many v_heart v_width v_set_j91 v_seen_j91 v_pile_j91 v_sheets v_covered)) (pl := []) (cx := (W_X5_along h a cI cJ cZ v_thrown_j91 v_made v_of v_heart v_width v_sheets v_covered)) (qb := 0) (ci := 6) hK hE hP hD [0, 1] (by decide) rfl rfl rfl) rfl rfl hl.1 rfl (lv_room (Nat.le_of_ble_eq_true rfl)) dX5_bestLine_112 ⟨Nat.zero_le _, Nat.zero_le _⟩) (fun r_112 _ H locs hw hP hD hS => ?_)
          try dsimp only at hw
          have hP : va_P D vwCl (W_X5_bestLine h a cI cJ cZ v_thrown_j91 v_made v_of v_many v_heart v_width v_set_j91 v_seen_j91 v_pile_j91 v_sheets v_covered) H := hP
          have hD : va_D A (W_X5_bestLine h a cI cJ cZ v_thrown_j91 v_made v_of v_many v_heart v_width v_set_j91 v_seen_j91 v_pile_j91 v_sheets v_covered) := hD
          refine lv_icmp_ge (tgt := 122) hx hb dX5_bestLine_115 (by decide) (fun c115 => ?_) (fun c115 => ?_)
          · have hw := hw.1 c115
            refine lv_iload_n hx hb dX5_bestLine_122 rfl (lv_at hl 3 rfl) ?_
            exact J123 x2_j91 x3_j91 v_thrown_j91 v_set_j91 v_seen_j91 v_pile_j91 hw _ _ ls hP hD hS (lv_sub hl [1, 2, 4] rfl)
          · have hw := hw.2 c115
            refine lv_iload_n hx hb dX5_bestLine_118 rfl (lv_at hl 4 rfl) ?_
            refine lv_goto (tgt := 123) hx hb dX5_bestLine_119 (by decide) ?_
            exact J123 x3_j91 x3_j91 v_thrown_j91 v_set_j91 v_seen_j91 v_pile_j91 hw _ _ ls hP hD hS (lv_sub hl [1, 2, 4] rfl)
    unfold wp_X5_bestLine_26 at hw
    refine lv_iload_n hx hb dX5_bestLine_26 rfl (lv_at hl 3 rfl) ?_
    refine lv_bipush (v := 31) hx hb dX5_bestLine_27 (by decide) ?_
    refine lv_icmp_ge (tgt := 130) hx hb dX5_bestLine_29 (by decide) (fun c29 => ?_) (fun c29 => ?_)
    · have hw := hw.1 c29
      refine lv_iload_n hx hb dX5_bestLine_130 rfl (lv_at hl 2 rfl) ?_
      exact RT x2_j26 (v_thrown_j26, v_set_j26, v_seen_j26, v_pile_j26) _ _ _ _ dX5_bestLine_131 hw hP hD hS
    · have hw := hw.2 c29
      refine lv_iload_n hx hb dX5_bestLine_32 rfl (lv_at hl 3 rfl) ?_
      refine lv_bipush (v := 15) hx hb dX5_bestLine_33 (by decide) ?_
      refine lv_icmp_eq (tgt := 90) hx hb dX5_bestLine_35 (by decide) (fun c35 => ?_) (fun c35 => ?_)
      · have hw := hw.1 c35
        refine lv_iconst (v := 0) hx hb dX5_bestLine_90 (by decide) ?_
        exact J91 0 x2_j26 x3_j26 v_thrown_j26 v_set_j26 v_seen_j26 v_pile_j26 hw _ _ ls hP hD hS (lv_sub hl [0, 1, 2, 3] rfl)
      · have hw := hw.2 c35
        refine lv_aload_n hx hb dX5_bestLine_38 rfl (lv_at hl 0 rfl) ?_
        refine lv_iload_n hx hb dX5_bestLine_39 rfl (lv_at hl 1 rfl) ?_
        refine lv_iload_n hx hb dX5_bestLine_40 rfl (lv_at hl 3 rfl) ?_
        refine lv_iconst (v := 1) hx hb dX5_bestLine_41 (by decide) ?_
        refine af_i (X := (W_X5_bestLine h a cI cJ cZ v_thrown_j26 v_made v_of v_many v_heart v_width v_set_j26 v_seen_j26 v_pile_j26 v_sheets v_covered)) (pl := []) (cx := (W_X5_setSide h a cI cJ cZ v_thrown_j26 v_made v_of v_heart v_width v_set_j26 v_sheets v_covered)) (w1 := fun (u : (Nat → Int32)) => (W_X5_setSide h a cI cJ cZ v_thrown_j26 v_made v_of v_heart v_width u v_sheets v_covered)) (X' := fun (u : (Nat → Int32)) => (W_X5_bestLine h a cI cJ cZ v_thrown_j26 v_made v_of v_many v_heart v_width u v_seen_j26 v_pile_j26 v_sheets v_covered)) hP hD hS hA [0, 1, 3] [2, 4, 5] [3, 4, 0, 5, 1, 2] rfl rfl (by decide) (by decide) (fun u => rfl) (by decide) (va_runV (As := [.int p1, .int x3_j26, .int 1]) (rest := []) ⟨hx, hb, hml, hown, hts⟩ (c_X5_setSide l D cI cJ cZ cO h a H.size v_thrown_j26 v_made v_of v_heart v_width v_set_j26 v_sheets v_covered p1 x3_j26 1 _ hw) (cwV 3 hts gX5_bestLine_X5_setSide rfl rfl rfl (by decide +kernel) ⟨Nat.le_of_ble_eq_true rfl, Nat.le_of_ble_eq_true rfl⟩) (preV (X := (W_X5_bestLine h a cI cJ cZ v_thrown_j26 v_made v_of v_many v_heart v_width v_set_j26 v_seen_j26 v_pile_j26 v_sheets v_covered)) (pl := []) (cx := (W_X5_setSide h a cI cJ cZ v_thrown_j26 v_made v_of v_heart v_width v_set_j26 v_sheets v_covered)) (qb := 0) (ci := 6) hK hE hP hD [0, 1, 3] (by decide) rfl rfl rfl) rfl rfl hl.1 rfl (lv_room (Nat.le_of_ble_eq_true rfl)) dX5_bestLine_42 ⟨Nat.zero_le _, Nat.zero_le _⟩) (fun r_42 v_set_c42 H locs hw hP hD hS => ?_)
        try dsimp only at hw
        have hP : va_P D vwCl (W_X5_bestLine h a cI cJ cZ v_thrown_j26 v_made v_of v_many v_heart v_width v_set_c42 v_seen_j26 v_pile_j26 v_sheets v_covered) H := hP
        have hD : va_D A (W_X5_bestLine h a cI cJ cZ v_thrown_j26 v_made v_of v_many v_heart v_width v_set_c42 v_seen_j26 v_pile_j26 v_sheets v_covered) := hD
        refine lv_if_le (tgt := 90) hx hb dX5_bestLine_45 (by decide) (fun c45 => ?_) (fun c45 => ?_)
        · have hw := hw.1 c45
          refine lv_iconst (v := 0) hx hb dX5_bestLine_90 (by decide) ?_
          exact J91 0 x2_j26 x3_j26 v_thrown_j26 v_set_c42 v_seen_j26 v_pile_j26 hw _ _ ls hP hD hS (lv_sub hl [0, 1, 2, 3] rfl)
        · have hw := hw.2 c45
          refine lv_aload_n hx hb dX5_bestLine_48 rfl (lv_at hl 0 rfl) ?_
          refine af_i (X := (W_X5_bestLine h a cI cJ cZ v_thrown_j26 v_made v_of v_many v_heart v_width v_set_c42 v_seen_j26 v_pile_j26 v_sheets v_covered)) (pl := []) (cx := (W_X5_isOne h a cI cJ cZ v_thrown_j26 v_made v_heart v_width v_set_c42 v_seen_j26 v_pile_j26 v_sheets v_covered)) (w1 := fun (u : (Nat → Int32) × (Nat → Int32)) => (W_X5_isOne h a cI cJ cZ v_thrown_j26 v_made v_heart v_width v_set_c42 u.1 u.2 v_sheets v_covered)) (X' := fun (u : (Nat → Int32) × (Nat → Int32)) => (W_X5_bestLine h a cI cJ cZ v_thrown_j26 v_made v_of v_many v_heart v_width v_set_c42 u.1 u.2 v_sheets v_covered)) hP hD hS hA [0, 3, 4, 5] [1, 2] [2, 0, 1, 3, 4, 5] rfl rfl (by decide) (by decide) (fun u => rfl) (by decide) (va_runV (As := []) (rest := []) ⟨hx, hb, hml, hown, hts⟩ (c_X5_isOne l D cI cJ cZ cO h a H.size v_thrown_j26 v_made v_heart v_width v_set_c42 v_seen_j26 v_pile_j26 v_sheets v_covered _ hw) (cwV 0 hts gX5_bestLine_X5_isOne rfl rfl rfl (by decide +kernel) ⟨Nat.le_of_ble_eq_true rfl, Nat.le_of_ble_eq_true rfl⟩) (preV (X := (W_X5_bestLine h a cI cJ cZ v_thrown_j26 v_made v_of v_many v_heart v_width v_set_c42 v_seen_j26 v_pile_j26 v_sheets v_covered)) (pl := []) (cx := (W_X5_isOne h a cI cJ cZ v_thrown_j26 v_made v_heart v_width v_set_c42 v_seen_j26 v_pile_j26 v_sheets v_covered)) (qb := 0) (ci := 6) hK hE hP hD [0, 3, 4, 5] (by decide) rfl rfl rfl) rfl rfl hl.1 rfl (lv_room (Nat.le_of_ble_eq_true rfl)) dX5_bestLine_49 ⟨Nat.zero_le _, Nat.zero_le _⟩) (fun r_49 u H locs hw hP hD hS => ?_)
          obtain ⟨v_seen_c49, v_pile_c49⟩ := u
          try dsimp only at hw
          have hP : va_P D vwCl (W_X5_bestLine h a cI cJ cZ v_thrown_j26 v_made v_of v_many v_heart v_width v_set_c42 v_seen_c49 v_pile_c49 v_sheets v_covered) H := hP
          have hD : va_D A (W_X5_bestLine h a cI cJ cZ v_thrown_j26 v_made v_of v_many v_heart v_width v_set_c42 v_seen_c49 v_pile_c49 v_sheets v_covered) := hD
          refine lv_if_eq (tgt := 90) hx hb dX5_bestLine_52 (by decide) (fun c52 => ?_) (fun c52 => ?_)
          · have hw := hw.1 c52
            refine lv_iconst (v := 0) hx hb dX5_bestLine_90 (by decide) ?_
            exact J91 0 x2_j26 x3_j26 v_thrown_j26 v_set_c42 v_seen_c49 v_pile_c49 hw _ _ ls hP hD hS (lv_sub hl [0, 1, 2, 3] rfl)
          · have hw := hw.2 c52
            refine lv_aload_n hx hb dX5_bestLine_55 rfl (lv_at hl 0 rfl) ?_
            refine af_i (X := (W_X5_bestLine h a cI cJ cZ v_thrown_j26 v_made v_of v_many v_heart v_width v_set_c42 v_seen_c49 v_pile_c49 v_sheets v_covered)) (pl := []) (cx := (W_X5_cut h a cI cJ cZ v_thrown_j26 v_made v_heart v_width v_set_c42 v_sheets v_covered)) (w1 := fun (u : Unit) => (W_X5_cut h a cI cJ cZ v_thrown_j26 v_made v_heart v_width v_set_c42 v_sheets v_covered)) (X' := fun (u : Unit) => (W_X5_bestLine h a cI cJ cZ v_thrown_j26 v_made v_of v_many v_heart v_width v_set_c42 v_seen_c49 v_pile_c49 v_sheets v_covered)) hP hD hS hA [0, 3] [1, 2, 4, 5] [4, 0, 1, 5, 2, 3] rfl rfl (by decide) (by decide) (fun u => rfl) (by decide) (va_runV (As := []) (rest := []) ⟨hx, hb, hml, hown, hts⟩ (c_X5_cut l D cI cJ cZ cO h a H.size v_thrown_j26 v_made v_heart v_width v_set_c42 v_sheets v_covered _ hw) (cwV 0 hts gX5_bestLine_X5_cut rfl rfl rfl (by decide +kernel) ⟨Nat.le_of_ble_eq_true rfl, Nat.le_of_ble_eq_true rfl⟩) (preV (X := (W_X5_bestLine h a cI cJ cZ v_thrown_j26 v_made v_of v_many v_heart v_width v_set_c42 v_seen_c49 v_pile_c49 v_sheets v_covered)) (pl := []) (cx := (W_X5_cut h a cI cJ cZ v_thrown_j26 v_made v_heart v_width v_set_c42 v_sheets v_covered)) (qb := 0) (ci := 6) hK hE hP hD [0, 3] (by decide) rfl rfl rfl) rfl rfl hl.1 rfl (lv_room (Nat.le_of_ble_eq_true rfl)) dX5_bestLine_56 ⟨Nat.zero_le _, Nat.zero_le _⟩) (fun r_56 _ H locs hw hP hD hS => ?_)
            try dsimp only at hw
            have hP : va_P D vwCl (W_X5_bestLine h a cI cJ cZ v_thrown_j26 v_made v_of v_many v_heart v_width v_set_c42 v_seen_c49 v_pile_c49 v_sheets v_covered) H := hP
            have hD : va_D A (W_X5_bestLine h a cI cJ cZ v_thrown_j26 v_made v_of v_many v_heart v_width v_set_c42 v_seen_c49 v_pile_c49 v_sheets v_covered) := hD
            refine lv_if_ne (tgt := 90) hx hb dX5_bestLine_59 (by decide) (fun c59 => ?_) (fun c59 => ?_)
            · have hw := hw.2 c59
              refine lv_iconst (v := 0) hx hb dX5_bestLine_90 (by decide) ?_
              exact J91 0 x2_j26 x3_j26 v_thrown_j26 v_set_c42 v_seen_c49 v_pile_c49 hw _ _ ls hP hD hS (lv_sub hl [0, 1, 2, 3] rfl)
            · have hw := hw.1 c59
              refine lv_aload_n hx hb dX5_bestLine_62 rfl (lv_at hl 0 rfl) ?_
              refine lv_iload_n hx hb dX5_bestLine_63 rfl (lv_at hl 1 rfl) ?_
              refine lv_iload_n hx hb dX5_bestLine_64 rfl (lv_at hl 3 rfl) ?_
              refine lv_iconst (v := 0) hx hb dX5_bestLine_65 (by decide) ?_
              refine af_i (X := (W_X5_bestLine h a cI cJ cZ v_thrown_j26 v_made v_of v_many v_heart v_width v_set_c42 v_seen_c49 v_pile_c49 v_sheets v_covered)) (pl := []) (cx := (W_X5_setSide h a cI cJ cZ v_thrown_j26 v_made v_of v_heart v_width v_set_c42 v_sheets v_covered)) (w1 := fun (u : (Nat → Int32)) => (W_X5_setSide h a cI cJ cZ v_thrown_j26 v_made v_of v_heart v_width u v_sheets v_covered)) (X' := fun (u : (Nat → Int32)) => (W_X5_bestLine h a cI cJ cZ v_thrown_j26 v_made v_of v_many v_heart v_width u v_seen_c49 v_pile_c49 v_sheets v_covered)) hP hD hS hA [0, 1, 3] [2, 4, 5] [3, 4, 0, 5, 1, 2] rfl rfl (by decide) (by decide) (fun u => rfl) (by decide) (va_runV (As := [.int p1, .int x3_j26, .int 0]) (rest := []) ⟨hx, hb, hml, hown, hts⟩ (c_X5_setSide l D cI cJ cZ cO h a H.size v_thrown_j26 v_made v_of v_heart v_width v_set_c42 v_sheets v_covered p1 x3_j26 0 _ hw) (cwV 3 hts gX5_bestLine_X5_setSide rfl rfl rfl (by decide +kernel) ⟨Nat.le_of_ble_eq_true rfl, Nat.le_of_ble_eq_true rfl⟩) (preV (X := (W_X5_bestLine h a cI cJ cZ v_thrown_j26 v_made v_of v_many v_heart v_width v_set_c42 v_seen_c49 v_pile_c49 v_sheets v_covered)) (pl := []) (cx := (W_X5_setSide h a cI cJ cZ v_thrown_j26 v_made v_of v_heart v_width v_set_c42 v_sheets v_covered)) (qb := 0) (ci := 6) hK hE hP hD [0, 1, 3] (by decide) rfl rfl rfl) rfl rfl hl.1 rfl (lv_room (Nat.le_of_ble_eq_true rfl)) dX5_bestLine_66 ⟨Nat.zero_le _, Nat.zero_le _⟩) (fun r_66 v_set_c66 H locs hw hP hD hS => ?_)
              try dsimp only at hw
              have hP : va_P D vwCl (W_X5_bestLine h a cI cJ cZ v_thrown_j26 v_made v_of v_many v_heart v_width v_set_c66 v_seen_c49 v_pile_c49 v_sheets v_covered) H := hP
              have hD : va_D A (W_X5_bestLine h a cI cJ cZ v_thrown_j26 v_made v_of v_many v_heart v_width v_set_c66 v_seen_c49 v_pile_c49 v_sheets v_covered) := hD
              refine lv_if_le (tgt := 90) hx hb dX5_bestLine_69 (by decide) (fun c69 => ?_) (fun c69 => ?_)
              · have hw := hw.1 c69
                refine lv_iconst (v := 0) hx hb dX5_bestLine_90 (by decide) ?_
                exact J91 0 x2_j26 x3_j26 v_thrown_j26 v_set_c66 v_seen_c49 v_pile_c49 hw _ _ ls hP hD hS (lv_sub hl [0, 1, 2, 3] rfl)
              · have hw := hw.2 c69
                refine lv_aload_n hx hb dX5_bestLine_72 rfl (lv_at hl 0 rfl) ?_
                refine af_i (X := (W_X5_bestLine h a cI cJ cZ v_thrown_j26 v_made v_of v_many v_heart v_width v_set_c66 v_seen_c49 v_pile_c49 v_sheets v_covered)) (pl := []) (cx := (W_X5_isOne h a cI cJ cZ v_thrown_j26 v_made v_heart v_width v_set_c66 v_seen_c49 v_pile_c49 v_sheets v_covered)) (w1 := fun (u : (Nat → Int32) × (Nat → Int32)) => (W_X5_isOne h a cI cJ cZ v_thrown_j26 v_made v_heart v_width v_set_c66 u.1 u.2 v_sheets v_covered)) (X' := fun (u : (Nat → Int32) × (Nat → Int32)) => (W_X5_bestLine h a cI cJ cZ v_thrown_j26 v_made v_of v_many v_heart v_width v_set_c66 u.1 u.2 v_sheets v_covered)) hP hD hS hA [0, 3, 4, 5] [1, 2] [2, 0, 1, 3, 4, 5] rfl rfl (by decide) (by decide) (fun u => rfl) (by decide) (va_runV (As := []) (rest := []) ⟨hx, hb, hml, hown, hts⟩ (c_X5_isOne l D cI cJ cZ cO h a H.size v_thrown_j26 v_made v_heart v_width v_set_c66 v_seen_c49 v_pile_c49 v_sheets v_covered _ hw) (cwV 0 hts gX5_bestLine_X5_isOne rfl rfl rfl (by decide +kernel) ⟨Nat.le_of_ble_eq_true rfl, Nat.le_of_ble_eq_true rfl⟩) (preV (X := (W_X5_bestLine h a cI cJ cZ v_thrown_j26 v_made v_of v_many v_heart v_width v_set_c66 v_seen_c49 v_pile_c49 v_sheets v_covered)) (pl := []) (cx := (W_X5_isOne h a cI cJ cZ v_thrown_j26 v_made v_heart v_width v_set_c66 v_seen_c49 v_pile_c49 v_sheets v_covered)) (qb := 0) (ci := 6) hK hE hP hD [0, 3, 4, 5] (by decide) rfl rfl rfl) rfl rfl hl.1 rfl (lv_room (Nat.le_of_ble_eq_true rfl)) dX5_bestLine_73 ⟨Nat.zero_le _, Nat.zero_le _⟩) (fun r_73 u H locs hw hP hD hS => ?_)
                obtain ⟨v_seen_c73, v_pile_c73⟩ := u
                try dsimp only at hw
                have hP : va_P D vwCl (W_X5_bestLine h a cI cJ cZ v_thrown_j26 v_made v_of v_many v_heart v_width v_set_c66 v_seen_c73 v_pile_c73 v_sheets v_covered) H := hP
                have hD : va_D A (W_X5_bestLine h a cI cJ cZ v_thrown_j26 v_made v_of v_many v_heart v_width v_set_c66 v_seen_c73 v_pile_c73 v_sheets v_covered) := hD
                refine lv_if_eq (tgt := 90) hx hb dX5_bestLine_76 (by decide) (fun c76 => ?_) (fun c76 => ?_)
                · have hw := hw.1 c76
                  refine lv_iconst (v := 0) hx hb dX5_bestLine_90 (by decide) ?_
                  exact J91 0 x2_j26 x3_j26 v_thrown_j26 v_set_c66 v_seen_c73 v_pile_c73 hw _ _ ls hP hD hS (lv_sub hl [0, 1, 2, 3] rfl)
                · have hw := hw.2 c76
                  refine lv_aload_n hx hb dX5_bestLine_79 rfl (lv_at hl 0 rfl) ?_
                  refine af_i (X := (W_X5_bestLine h a cI cJ cZ v_thrown_j26 v_made v_of v_many v_heart v_width v_set_c66 v_seen_c73 v_pile_c73 v_sheets v_covered)) (pl := []) (cx := (W_X5_cut h a cI cJ cZ v_thrown_j26 v_made v_heart v_width v_set_c66 v_sheets v_covered)) (w1 := fun (u : Unit) => (W_X5_cut h a cI cJ cZ v_thrown_j26 v_made v_heart v_width v_set_c66 v_sheets v_covered)) (X' := fun (u : Unit) => (W_X5_bestLine h a cI cJ cZ v_thrown_j26 v_made v_of v_many v_heart v_width v_set_c66 v_seen_c73 v_pile_c73 v_sheets v_covered)) hP hD hS hA [0, 3] [1, 2, 4, 5] [4, 0, 1, 5, 2, 3] rfl rfl (by decide) (by decide) (fun u => rfl) (by decide) (va_runV (As := []) (rest := []) ⟨hx, hb, hml, hown, hts⟩ (c_X5_cut l D cI cJ cZ cO h a H.size v_thrown_j26 v_made v_heart v_width v_set_c66 v_sheets v_covered _ hw) (cwV 0 hts gX5_bestLine_X5_cut rfl rfl rfl (by decide +kernel) ⟨Nat.le_of_ble_eq_true rfl, Nat.le_of_ble_eq_true rfl⟩) (preV (X := (W_X5_bestLine h a cI cJ cZ v_thrown_j26 v_made v_of v_many v_heart v_width v_set_c66 v_seen_c73 v_pile_c73 v_sheets v_covered)) (pl := []) (cx := (W_X5_cut h a cI cJ cZ v_thrown_j26 v_made v_heart v_width v_set_c66 v_sheets v_covered)) (qb := 0) (ci := 6) hK hE hP hD [0, 3] (by decide) rfl rfl rfl) rfl rfl hl.1 rfl (lv_room (Nat.le_of_ble_eq_true rfl)) dX5_bestLine_80 ⟨Nat.zero_le _, Nat.zero_le _⟩) (fun r_80 _ H locs hw hP hD hS => ?_)
                  try dsimp only at hw
                  have hP : va_P D vwCl (W_X5_bestLine h a cI cJ cZ v_thrown_j26 v_made v_of v_many v_heart v_width v_set_c66 v_seen_c73 v_pile_c73 v_sheets v_covered) H := hP
                  have hD : va_D A (W_X5_bestLine h a cI cJ cZ v_thrown_j26 v_made v_of v_many v_heart v_width v_set_c66 v_seen_c73 v_pile_c73 v_sheets v_covered) := hD
                  refine lv_if_ne (tgt := 90) hx hb dX5_bestLine_83 (by decide) (fun c83 => ?_) (fun c83 => ?_)
                  · have hw := hw.2 c83
                    refine lv_iconst (v := 0) hx hb dX5_bestLine_90 (by decide) ?_
                    exact J91 0 x2_j26 x3_j26 v_thrown_j26 v_set_c66 v_seen_c73 v_pile_c73 hw _ _ ls hP hD hS (lv_sub hl [0, 1, 2, 3] rfl)
                  · have hw := hw.1 c83
                    refine lv_iconst (v := 1) hx hb dX5_bestLine_86 (by decide) ?_
                    refine lv_goto (tgt := 91) hx hb dX5_bestLine_87 (by decide) ?_
                    exact J91 1 x2_j26 x3_j26 v_thrown_j26 v_set_c66 v_seen_c73 v_pile_c73 hw _ _ ls hP hD hS (lv_sub hl [0, 1, 2, 3] rfl)
  have J14 : ∀ (s1_j14 : Int32) , wp_X5_bestLine_14 v_thrown v_made v_of v_many v_set v_seen v_pile p1 post s1_j14 → ∀ (H : Heap) (locs : List Loc) (ls : Array Slot), va_P D vwCl (W_X5_bestLine h a cI cJ cZ v_thrown v_made v_of v_many v_heart v_width v_set v_seen v_pile v_sheets v_covered) H → va_D A (W_X5_bestLine h a cI cJ cZ v_thrown v_made v_of v_many v_heart v_width v_set v_seen v_pile v_sheets v_covered) → va_S A s.heap H locs → lv_has ls 5 [(0, .ref h), (1, .int p1)] → W p l e rm_X5_bestLine s m args below meth c H locs 0 0 QQ (F0 m 14 ls [.int s1_j14, .ref h]) := by
    intro s1_j14 hw H locs ls hP hD hS hl
    unfold wp_X5_bestLine_14 at hw
    refine af_i (X := (W_X5_bestLine h a cI cJ cZ v_thrown v_made v_of v_many v_heart v_width v_set v_seen v_pile v_sheets v_covered)) (pl := []) (cx := (W_X5_goesWell h a cI cJ cZ v_thrown v_made v_heart v_width v_sheets v_covered)) (w1 := fun (u : Int32) => (W_X5_goesWell h a cI cJ cZ u v_made v_heart v_width v_sheets v_covered)) (X' := fun (u : Int32) => (W_X5_bestLine h a cI cJ cZ u v_made v_of v_many v_heart v_width v_set v_seen v_pile v_sheets v_covered)) hP hD hS hA [0] [1, 2, 3, 4, 5] [5, 0, 1, 2, 3, 4] rfl rfl (by decide) (by decide) (fun u => rfl) (by decide) (va_runV (As := [.int s1_j14]) (rest := []) ⟨hx, hb, hml, hown, hts⟩ (c_X5_goesWell l D cI cJ cZ cO h a H.size v_thrown v_made v_heart v_width v_sheets v_covered s1_j14 _ hw) (cwV 1 hts gX5_bestLine_X5_goesWell rfl rfl rfl (by decide +kernel) ⟨Nat.le_of_ble_eq_true rfl, Nat.le_of_ble_eq_true rfl⟩) (preV (X := (W_X5_bestLine h a cI cJ cZ v_thrown v_made v_of v_many v_heart v_width v_set v_seen v_pile v_sheets v_covered)) (pl := []) (cx := (W_X5_goesWell h a cI cJ cZ v_thrown v_made v_heart v_width v_sheets v_covered)) (qb := 0) (ci := 6) hK hE hP hD [0] (by decide) rfl rfl rfl) rfl rfl hl.1 rfl (lv_room (Nat.le_of_ble_eq_true rfl)) dX5_bestLine_14 ⟨Nat.zero_le _, Nat.zero_le _⟩) (fun r_14 v_thrown_c14 H locs hw hP hD hS => ?_)
    try dsimp only at hw
    have hP : va_P D vwCl (W_X5_bestLine h a cI cJ cZ v_thrown_c14 v_made v_of v_many v_heart v_width v_set v_seen v_pile v_sheets v_covered) H := hP
    have hD : va_D A (W_X5_bestLine h a cI cJ cZ v_thrown_c14 v_made v_of v_many v_heart v_width v_set v_seen v_pile v_sheets v_covered) := hD
    refine lv_if_ne (tgt := 22) hx hb dX5_bestLine_17 (by decide) (fun c17 => ?_) (fun c17 => ?_)
    · have hw := hw.2 c17
      refine lv_iconst (v := (-1)) hx hb dX5_bestLine_22 (by decide) ?_
      refine lv_istore_n (lv' := [(2, .int (-1)), (0, .ref h), (1, .int p1)]) hx hb dX5_bestLine_23 rfl hl (by decide) rfl (fun ls hl => ?_)
      refine lv_iconst (v := 0) hx hb dX5_bestLine_24 (by decide) ?_
      refine lv_istore_n (lv' := [(3, .int 0), (2, .int (-1)), (0, .ref h), (1, .int p1)]) hx hb dX5_bestLine_25 rfl hl (by decide) rfl (fun ls hl => ?_)
      exact L26 ((-1), 0, v_thrown_c14, v_set, v_seen, v_pile) hw _ _ ls hP hD hS (lv_sub hl [2, 3, 1, 0] rfl)
    · have hw := hw.1 c17
      refine lv_iconst (v := 0) hx hb dX5_bestLine_20 (by decide) ?_
      exact RT 0 (v_thrown_c14, v_set, v_seen, v_pile) _ _ _ _ dX5_bestLine_21 hw hP hD hS
  refine lv_aload_n hx hb dX5_bestLine_0 rfl (lv_at hl 0 rfl) ?_
  refine lv_aload_n hx hb dX5_bestLine_1 rfl (lv_at hl 0 rfl) ?_
  refine lv_iload_n hx hb dX5_bestLine_2 rfl (lv_at hl 1 rfl) ?_
  refine af_i (X := (W_X5_bestLine h a cI cJ cZ v_thrown v_made v_of v_many v_heart v_width v_set v_seen v_pile v_sheets v_covered)) (pl := []) (cx := (W_X5_isPiece h a cI cJ cZ v_thrown v_made v_many v_heart v_width v_sheets v_covered)) (w1 := fun (u : Unit) => (W_X5_isPiece h a cI cJ cZ v_thrown v_made v_many v_heart v_width v_sheets v_covered)) (X' := fun (u : Unit) => (W_X5_bestLine h a cI cJ cZ v_thrown v_made v_of v_many v_heart v_width v_set v_seen v_pile v_sheets v_covered)) hP hD hS hA [0, 2] [1, 3, 4, 5] [4, 0, 5, 1, 2, 3] rfl rfl (by decide) (by decide) (fun u => rfl) (by decide) (va_runV (As := [.int p1]) (rest := [.ref h]) ⟨hx, hb, hml, hown, hts⟩ (c_X5_isPiece l D cI cJ cZ cO h a H.size v_thrown v_made v_many v_heart v_width v_sheets v_covered p1 _ hw) (cwV 1 hts gX5_bestLine_X5_isPiece rfl rfl rfl (by decide +kernel) ⟨Nat.le_of_ble_eq_true rfl, Nat.le_of_ble_eq_true rfl⟩) (preV (X := (W_X5_bestLine h a cI cJ cZ v_thrown v_made v_of v_many v_heart v_width v_set v_seen v_pile v_sheets v_covered)) (pl := []) (cx := (W_X5_isPiece h a cI cJ cZ v_thrown v_made v_many v_heart v_width v_sheets v_covered)) (qb := 0) (ci := 6) hK hE hP hD [0, 2] (by decide) rfl rfl rfl) rfl rfl hl.1 rfl (lv_room (Nat.le_of_ble_eq_true rfl)) dX5_bestLine_3 ⟨Nat.zero_le _, Nat.zero_le _⟩) (fun r_3 _ H locs hw hP hD hS => ?_)
  try dsimp only at hw
  have hP : va_P D vwCl (W_X5_bestLine h a cI cJ cZ v_thrown v_made v_of v_many v_heart v_width v_set v_seen v_pile v_sheets v_covered) H := hP
  have hD : va_D A (W_X5_bestLine h a cI cJ cZ v_thrown v_made v_of v_many v_heart v_width v_set v_seen v_pile v_sheets v_covered) := hD
  refine lv_if_eq (tgt := 13) hx hb dX5_bestLine_6 (by decide) (fun c6 => ?_) (fun c6 => ?_)
  · have hw := hw.1 c6
    refine lv_iconst (v := 1) hx hb dX5_bestLine_13 (by decide) ?_
    exact J14 1 hw _ _ ls hP hD hS (lv_sub hl [0, 1] rfl)
  · have hw := hw.2 c6
    refine lv_iconst (v := 0) hx hb dX5_bestLine_9 (by decide) ?_
    refine lv_goto (tgt := 14) hx hb dX5_bestLine_10 (by decide) ?_
    exact J14 0 hw _ _ ls hP hD hS (lv_sub hl [0, 1] rfl)
abbrev rm_X5_at : Room := { frames := 1, cells := 0, slots := 0, locals := 22 }
abbrev W_X5_at (h : Nat) (a : Nat → Nat) (cI cJ cZ : ClassId) (v_thrown : Int32) (v_made : Int32) (v_of : Nat → Int32) (v_heart : Int32) (v_width : Int32) (v_sheets : Int32) (v_covered : Int32) : va_W := [(h, .inr (6, [.int v_thrown, .int v_made, .ref (a 2), .ref (a 3), .ref (a 4), .ref (a 5), .ref (a 6), .ref (a 7), .ref (a 8), .ref (a 9), .ref (a 10), .ref (a 11), .int v_heart, .int v_width, .ref (a 14), .ref (a 15), .ref (a 16), .ref (a 17), .ref (a 18), .ref (a 19), .ref (a 20), .ref (a 21), .int v_sheets, .int v_covered])), ((a 2), .inl (cI, 256, .inl v_of))]
def wp_X5_at (v_of : Nat → Int32) (p1 : Int32) (p2 : Int32) (post : Int32 → Prop) : Prop := wp_X5_in p1 0 15 (fun r_4 => (r_4 = 0 → post (-1)) ∧ (¬ r_4 = 0 → wp_X5_in p2 0 15 (fun r_14 => (r_14 = 0 → post (-1)) ∧ (¬ r_14 = 0 → vp_in ((16 * p1) + p2) 256 ∧ (post (v_of ((16 * p1) + p2).toNatClampNeg))))))
set_option maxHeartbeats 4000000 in
set_option maxRecDepth 100000 in
theorem c_X5_at (l : Launch) (D : va_G) (cI cJ cZ cO : ClassId) (h : Nat) (a : Nat → Nat) (sz : Nat) (v_thrown : Int32) (v_made : Int32) (v_of : Nat → Int32) (v_heart : Int32) (v_width : Int32) (v_sheets : Int32) (v_covered : Int32) (p1 : Int32) (p2 : Int32) (post : Int32 → Prop) (hw : wp_X5_at v_of p1 p2 post) : Met l yX5_at wsX5_at rm_X5_at (va_Pc [.ref h, .int p1, .int p2] (PRE D cI cJ cZ cO (W_X5_at h a cI cJ cZ v_thrown v_made v_of v_heart v_width v_sheets v_covered) sz)) (va_Qi (fun r (_ : Unit) => post r) (fun u t => POST D (va_A (W_X5_at h a cI cJ cZ v_thrown v_made v_of v_heart v_width v_sheets v_covered) sz) (W_X5_at h a cI cJ cZ v_thrown v_made v_of v_heart v_width v_sheets v_covered) t) (va_A (W_X5_at h a cI cJ cZ v_thrown v_made v_of v_heart v_width v_sheets v_covered) sz)) 0 0 (va_A (W_X5_at h a cI cJ cZ v_thrown v_made v_of v_heart v_width v_sheets v_covered) sz) := by
  refine met_go (cc := cX5_at) (maxL := 3) (ret := some .int) RX5 rfl (by decide) rfl (Nat.le_of_ble_eq_true rfl) ?_
  intro p e s m args below meth c ls hx hb hr hts hown hlocks hin hml hsz hP hK hE hD hA hS hl
  have iRX5 : ∀ w ∈ u_ws RX5 TX5 24, w ∈ wsX5_at := mem_seg 6 24 rfl
  generalize va_A (W_X5_at h a cI cJ cZ v_thrown v_made v_of v_heart v_width v_sheets v_covered) sz = A at hD hA hS ⊢
  have RT : ∀ (v : Int32) (u : Unit) (H : Heap) (locs : List Loc) (pc : Nat) (ls : Array Slot), decode cX5_at pc = .ok (.ireturn, 1) → post v → va_P D vwCl (W_X5_at h a cI cJ cZ v_thrown v_made v_of v_heart v_width v_sheets v_covered) H → va_D A (W_X5_at h a cI cJ cZ v_thrown v_made v_of v_heart v_width v_sheets v_covered) → va_S A s.heap H locs → W p l e rm_X5_at s m args below meth c H locs 0 0 (MQ below (va_Qi (fun r (_ : Unit) => post r) (fun u t => POST D A (W_X5_at h a cI cJ cZ v_thrown v_made v_of v_heart v_width v_sheets v_covered) t) A) args s 0 0 A) (F0 m pc ls [.int v]) := fun v u H locs pc ls d g1 g2 g3 g4 => rt_i (Wf := fun u => (W_X5_at h a cI cJ cZ v_thrown v_made v_of v_heart v_width v_sheets v_covered)) u hx hb hr hlocks g1 g2 g3 g4 d
  generalize (MQ below (va_Qi (fun r (_ : Unit) => post r) (fun u t => POST D A (W_X5_at h a cI cJ cZ v_thrown v_made v_of v_heart v_width v_sheets v_covered) t) A) args s 0 0 A) = QQ at RT ⊢
  have hl : lv_has ls 3 [(0, .ref h), (1, .int p1), (2, .int p2)] := hl
  have hP : va_P D vwCl (W_X5_at h a cI cJ cZ v_thrown v_made v_of v_heart v_width v_sheets v_covered) s.heap := hP
  unfold wp_X5_at at hw
  suffices GO : ∀ (H : Heap) (locs : List Loc), va_P D vwCl (W_X5_at h a cI cJ cZ v_thrown v_made v_of v_heart v_width v_sheets v_covered) H → va_S A s.heap H locs → W p l e rm_X5_at s m args below meth c H locs 0 0 QQ (F0 m 0 ls []) from GO _ _ hP hS
  clear hsz hP hS
  intro H locs hP hS
  refine lv_iload_n hx hb dX5_at_0 rfl (lv_at hl 1 rfl) ?_
  refine lv_iconst (v := 0) hx hb dX5_at_1 (by decide) ?_
  refine lv_bipush (v := 15) hx hb dX5_at_2 (by decide) ?_
  refine af_i (X := (W_X5_at h a cI cJ cZ v_thrown v_made v_of v_heart v_width v_sheets v_covered)) (pl := []) (cx := ([] : va_W)) (w1 := fun (u : Unit) => ([] : va_W)) (X' := fun (u : Unit) => (W_X5_at h a cI cJ cZ v_thrown v_made v_of v_heart v_width v_sheets v_covered)) hP hD hS hA [] [0, 1] [0, 1] rfl rfl (by decide) (by decide) (fun u => rfl) (by decide) (va_runS (As := [.int p1, .int 0, .int 15]) (rest := []) ⟨hx, hb, hml, hown, hts⟩ (c_X5_in l D cI cJ cZ cO H.size p1 0 15 _ hw) (va_cwS 3 hts gX5_at_X5_in rfl rfl rfl (by decide +kernel) ⟨Nat.le_of_ble_eq_true rfl, Nat.le_of_ble_eq_true rfl⟩) (preS (X := (W_X5_at h a cI cJ cZ v_thrown v_made v_of v_heart v_width v_sheets v_covered)) (pl := []) (cx := ([] : va_W)) hK hE hP hD [] (by decide) rfl) rfl rfl hl.1 rfl (lv_room (Nat.le_of_ble_eq_true rfl)) dX5_at_4 ⟨Nat.zero_le _, Nat.zero_le _⟩) (fun r_4 _ H locs hw hP hD hS => ?_)
  try dsimp only at hw
  have hP : va_P D vwCl (W_X5_at h a cI cJ cZ v_thrown v_made v_of v_heart v_width v_sheets v_covered) H := hP
  have hD : va_D A (W_X5_at h a cI cJ cZ v_thrown v_made v_of v_heart v_width v_sheets v_covered) := hD
  refine lv_if_eq (tgt := 34) hx hb dX5_at_7 (by decide) (fun c7 => ?_) (fun c7 => ?_)
  · have hw := hw.1 c7
    refine lv_iconst (v := (-1)) hx hb dX5_at_34 (by decide) ?_
    exact RT (-1) () _ _ _ _ dX5_at_35 hw hP hD hS
  · have hw := hw.2 c7
    refine lv_iload_n hx hb dX5_at_10 rfl (lv_at hl 2 rfl) ?_
    refine lv_iconst (v := 0) hx hb dX5_at_11 (by decide) ?_
    refine lv_bipush (v := 15) hx hb dX5_at_12 (by decide) ?_
    refine af_i (X := (W_X5_at h a cI cJ cZ v_thrown v_made v_of v_heart v_width v_sheets v_covered)) (pl := []) (cx := ([] : va_W)) (w1 := fun (u : Unit) => ([] : va_W)) (X' := fun (u : Unit) => (W_X5_at h a cI cJ cZ v_thrown v_made v_of v_heart v_width v_sheets v_covered)) hP hD hS hA [] [0, 1] [0, 1] rfl rfl (by decide) (by decide) (fun u => rfl) (by decide) (va_runS (As := [.int p2, .int 0, .int 15]) (rest := []) ⟨hx, hb, hml, hown, hts⟩ (c_X5_in l D cI cJ cZ cO H.size p2 0 15 _ hw) (va_cwS 3 hts gX5_at_X5_in rfl rfl rfl (by decide +kernel) ⟨Nat.le_of_ble_eq_true rfl, Nat.le_of_ble_eq_true rfl⟩) (preS (X := (W_X5_at h a cI cJ cZ v_thrown v_made v_of v_heart v_width v_sheets v_covered)) (pl := []) (cx := ([] : va_W)) hK hE hP hD [] (by decide) rfl) rfl rfl hl.1 rfl (lv_room (Nat.le_of_ble_eq_true rfl)) dX5_at_14 ⟨Nat.zero_le _, Nat.zero_le _⟩) (fun r_14 _ H locs hw hP hD hS => ?_)
    try dsimp only at hw
    have hP : va_P D vwCl (W_X5_at h a cI cJ cZ v_thrown v_made v_of v_heart v_width v_sheets v_covered) H := hP
    have hD : va_D A (W_X5_at h a cI cJ cZ v_thrown v_made v_of v_heart v_width v_sheets v_covered) := hD
    refine lv_if_eq (tgt := 34) hx hb dX5_at_17 (by decide) (fun c17 => ?_) (fun c17 => ?_)
    · have hw := hw.1 c17
      refine lv_iconst (v := (-1)) hx hb dX5_at_34 (by decide) ?_
      exact RT (-1) () _ _ _ _ dX5_at_35 hw hP hD hS
    · have hw := hw.2 c17
      refine lv_aload_n hx hb dX5_at_20 rfl (lv_at hl 0 rfl) ?_
      refine va_get (D := D) (ci := 6) (v := .ref (a 2)) (C := RX5) (T := TX5) (N := 24) hx hb hts iRX5 hown hK hP 0 rfl rfl 2 (by decide) (hts (.fieldLink RX5 13 "LeadlightModel" "of" "[I") (List.mem_of_getElem? (i := 1) rfl)) (fun _ h9 => h9) rfl dX5_at_21 ?_
      refine lv_bipush (v := 16) hx hb dX5_at_24 (by decide) ?_
      refine lv_iload_n hx hb dX5_at_26 rfl (lv_at hl 1 rfl) ?_
      refine lv_imul hx hb dX5_at_27 ?_
      refine lv_iload_n hx hb dX5_at_28 rfl (lv_at hl 2 rfl) ?_
      refine lv_iadd hx hb dX5_at_29 ?_
      obtain ⟨hi_30, hw⟩ := hw
      refine va_iald hx hb hK hP 1 0 rfl rfl hi_30 dX5_at_30 ?_
      refine lv_goto (tgt := 35) hx hb dX5_at_31 (by decide) ?_
      exact RT (v_of ((16 * p1) + p2).toNatClampNeg) () _ _ _ _ dX5_at_35 hw hP hD hS
abbrev rm_X5_length : Room := { frames := 2, cells := 0, slots := 0, locals := 44 }
abbrev W_X5_length (h : Nat) (a : Nat → Nat) (cI cJ cZ : ClassId) (v_thrown : Int32) (v_made : Int32) (v_of : Nat → Int32) (v_heart : Int32) (v_width : Int32) (v_sheets : Int32) (v_covered : Int32) : va_W := [(h, .inr (6, [.int v_thrown, .int v_made, .ref (a 2), .ref (a 3), .ref (a 4), .ref (a 5), .ref (a 6), .ref (a 7), .ref (a 8), .ref (a 9), .ref (a 10), .ref (a 11), .int v_heart, .int v_width, .ref (a 14), .ref (a 15), .ref (a 16), .ref (a 17), .ref (a 18), .ref (a 19), .ref (a 20), .ref (a 21), .int v_sheets, .int v_covered])), ((a 2), .inl (cI, 256, .inl v_of))]
def wp_X5_length_63 (v_of : Nat → Int32) (post : Int32 → Prop) (K4 : Int32 → Int32 → Prop) (K12 : Int32 → Int32 → Int32 → Prop) (s0_j63 : Int32) (s1_j63 : Int32) (s2_j63 : Int32) (x2_j63 : Int32) (x3_j63 : Int32) : Prop := K12 (s0_j63 + (s1_j63 + s2_j63)) x2_j63 (x3_j63 + 1)
def wp_X5_length_41 (v_of : Nat → Int32) (post : Int32 → Prop) (K4 : Int32 → Int32 → Prop) (K12 : Int32 → Int32 → Int32 → Prop) (s0_j41 : Int32) (s1_j41 : Int32) (x2_j41 : Int32) (x3_j41 : Int32) : Prop := wp_X5_at v_of x3_j41 (x2_j41 - 1) (fun r_46 => wp_X5_at v_of x3_j41 x2_j41 (fun r_52 => (r_46 = r_52 → wp_X5_length_63 v_of post K4 K12 s0_j41 s1_j41 0 x2_j41 x3_j41) ∧ (¬ r_46 = r_52 → wp_X5_length_63 v_of post K4 K12 s0_j41 s1_j41 1 x2_j41 x3_j41)))
def wp_X5_length_12 (v_of : Nat → Int32) (post : Int32 → Prop) (K4 : Int32 → Int32 → Prop) (K12 : Int32 → Int32 → Int32 → Prop) (x1_j12 : Int32) (x2_j12 : Int32) (x3_j12 : Int32) : Prop := (16 ≤ x3_j12 → K4 x1_j12 (x2_j12 + 1)) ∧ (¬ 16 ≤ x3_j12 → wp_X5_at v_of (x2_j12 - 1) x3_j12 (fun r_24 => wp_X5_at v_of x2_j12 x3_j12 (fun r_30 => (r_24 = r_30 → wp_X5_length_41 v_of post K4 K12 x1_j12 0 x2_j12 x3_j12) ∧ (¬ r_24 = r_30 → wp_X5_length_41 v_of post K4 K12 x1_j12 1 x2_j12 x3_j12))))
def lF_X5_length_12 (v_of : Nat → Int32) (post : Int32 → Prop) (K4 : Int32 → Int32 → Prop) : ((Int32 × Int32 × Int32) → Prop) → (Int32 × Int32 × Int32) → Prop := fun K s => wp_X5_length_12 v_of post K4 (fun b0 b1 b2 => K (b0, b1, b2)) s.1 s.2.1 s.2.2
def wp_X5_length_4 (v_of : Nat → Int32) (post : Int32 → Prop) (K4 : Int32 → Int32 → Prop) (x1_j4 : Int32) (x2_j4 : Int32) : Prop := (16 < x2_j4 → post x1_j4) ∧ (¬ 16 < x2_j4 → lp (lF_X5_length_12 v_of post K4) (x1_j4, x2_j4, 0))
def lF_X5_length_4 (v_of : Nat → Int32) (post : Int32 → Prop) : ((Int32 × Int32) → Prop) → (Int32 × Int32) → Prop := fun K s => wp_X5_length_4 v_of post (fun b0 b1 => K (b0, b1)) s.1 s.2
def wp_X5_length (v_of : Nat → Int32) (post : Int32 → Prop) : Prop := lp (lF_X5_length_4 v_of post) (0, 0)
set_option maxHeartbeats 4000000 in
set_option maxRecDepth 100000 in
theorem c_X5_length (l : Launch) (D : va_G) (cI cJ cZ cO : ClassId) (h : Nat) (a : Nat → Nat) (sz : Nat) (v_thrown : Int32) (v_made : Int32) (v_of : Nat → Int32) (v_heart : Int32) (v_width : Int32) (v_sheets : Int32) (v_covered : Int32) (post : Int32 → Prop) (hw : wp_X5_length v_of post) : Met l yX5_length wsX5_length rm_X5_length (va_Pc [.ref h] (PRE D cI cJ cZ cO (W_X5_length h a cI cJ cZ v_thrown v_made v_of v_heart v_width v_sheets v_covered) sz)) (va_Qi (fun r (_ : Unit) => post r) (fun u t => POST D (va_A (W_X5_length h a cI cJ cZ v_thrown v_made v_of v_heart v_width v_sheets v_covered) sz) (W_X5_length h a cI cJ cZ v_thrown v_made v_of v_heart v_width v_sheets v_covered) t) (va_A (W_X5_length h a cI cJ cZ v_thrown v_made v_of v_heart v_width v_sheets v_covered) sz)) 0 0 (va_A (W_X5_length h a cI cJ cZ v_thrown v_made v_of v_heart v_width v_sheets v_covered) sz) := by
  refine met_go (cc := cX5_length) (maxL := 4) (ret := some .int) RX5 rfl (by decide) rfl (Nat.le_of_ble_eq_true rfl) ?_
  intro p e s m args below meth c ls hx hb hr hts hown hlocks hin hml hsz hP hK hE hD hA hS hl
  have iRX5 : ∀ w ∈ u_ws RX5 TX5 24, w ∈ wsX5_length := mem_seg 10 24 rfl
  generalize va_A (W_X5_length h a cI cJ cZ v_thrown v_made v_of v_heart v_width v_sheets v_covered) sz = A at hD hA hS ⊢
  have RT : ∀ (v : Int32) (u : Unit) (H : Heap) (locs : List Loc) (pc : Nat) (ls : Array Slot), decode cX5_length pc = .ok (.ireturn, 1) → post v → va_P D vwCl (W_X5_length h a cI cJ cZ v_thrown v_made v_of v_heart v_width v_sheets v_covered) H → va_D A (W_X5_length h a cI cJ cZ v_thrown v_made v_of v_heart v_width v_sheets v_covered) → va_S A s.heap H locs → W p l e rm_X5_length s m args below meth c H locs 0 0 (MQ below (va_Qi (fun r (_ : Unit) => post r) (fun u t => POST D A (W_X5_length h a cI cJ cZ v_thrown v_made v_of v_heart v_width v_sheets v_covered) t) A) args s 0 0 A) (F0 m pc ls [.int v]) := fun v u H locs pc ls d g1 g2 g3 g4 => rt_i (Wf := fun u => (W_X5_length h a cI cJ cZ v_thrown v_made v_of v_heart v_width v_sheets v_covered)) u hx hb hr hlocks g1 g2 g3 g4 d
  generalize (MQ below (va_Qi (fun r (_ : Unit) => post r) (fun u t => POST D A (W_X5_length h a cI cJ cZ v_thrown v_made v_of v_heart v_width v_sheets v_covered) t) A) args s 0 0 A) = QQ at RT ⊢
  have hl : lv_has ls 4 [(0, .ref h)] := hl
  have hP : va_P D vwCl (W_X5_length h a cI cJ cZ v_thrown v_made v_of v_heart v_width v_sheets v_covered) s.heap := hP
  unfold wp_X5_length at hw
  suffices GO : ∀ (H : Heap) (locs : List Loc), va_P D vwCl (W_X5_length h a cI cJ cZ v_thrown v_made v_of v_heart v_width v_sheets v_covered) H → va_S A s.heap H locs → W p l e rm_X5_length s m args below meth c H locs 0 0 QQ (F0 m 0 ls []) from GO _ _ hP hS
  clear hsz hP hS
  intro H locs hP hS
  have L4 : ∀ s0 : (Int32 × Int32), lp (lF_X5_length_4 v_of post) s0 → ∀ (H : Heap) (locs : List Loc) (ls : Array Slot), va_P D vwCl (W_X5_length h a cI cJ cZ v_thrown v_made v_of v_heart v_width v_sheets v_covered) H → va_D A (W_X5_length h a cI cJ cZ v_thrown v_made v_of v_heart v_width v_sheets v_covered) → va_S A s.heap H locs → lv_has ls 4 [(0, .ref h), (1, .int s0.1), (2, .int s0.2)] → W p l e rm_X5_length s m args below meth c H locs 0 0 QQ (F0 m 4 ls []) := by
    refine lp_elim (fun K4 ih4 s0 hw => ?_)
    obtain ⟨x1_j4, x2_j4⟩ := s0
    intro H locs ls hP hD hS hl
    have hw : wp_X5_length_4 v_of post (fun b0 b1 => K4 (b0, b1)) x1_j4 x2_j4 := hw
    have hP : va_P D vwCl (W_X5_length h a cI cJ cZ v_thrown v_made v_of v_heart v_width v_sheets v_covered) H := hP
    have hD : va_D A (W_X5_length h a cI cJ cZ v_thrown v_made v_of v_heart v_width v_sheets v_covered) := hD
    have hl : lv_has ls 4 [(0, .ref h), (1, .int x1_j4), (2, .int x2_j4)] := hl
    have L12 : ∀ s0 : (Int32 × Int32 × Int32), lp (lF_X5_length_12 v_of post (fun b0 b1 => K4 (b0, b1))) s0 → ∀ (H : Heap) (locs : List Loc) (ls : Array Slot), va_P D vwCl (W_X5_length h a cI cJ cZ v_thrown v_made v_of v_heart v_width v_sheets v_covered) H → va_D A (W_X5_length h a cI cJ cZ v_thrown v_made v_of v_heart v_width v_sheets v_covered) → va_S A s.heap H locs → lv_has ls 4 [(0, .ref h), (1, .int s0.1), (2, .int s0.2.1), (3, .int s0.2.2)] → W p l e rm_X5_length s m args below meth c H locs 0 0 QQ (F0 m 12 ls []) := by
      refine lp_elim (fun K12 ih12 s0 hw => ?_)
      obtain ⟨x1_j12, x2_j12, x3_j12⟩ := s0
      intro H locs ls hP hD hS hl
      have hw : wp_X5_length_12 v_of post (fun b0 b1 => K4 (b0, b1)) (fun b0 b1 b2 => K12 (b0, b1, b2)) x1_j12 x2_j12 x3_j12 := hw
      have hP : va_P D vwCl (W_X5_length h a cI cJ cZ v_thrown v_made v_of v_heart v_width v_sheets v_covered) H := hP
      have hD : va_D A (W_X5_length h a cI cJ cZ v_thrown v_made v_of v_heart v_width v_sheets v_covered) := hD
      have hl : lv_has ls 4 [(0, .ref h), (1, .int x1_j12), (2, .int x2_j12), (3, .int x3_j12)] := hl
      have J63 : ∀ (s0_j63 : Int32) (s1_j63 : Int32) (s2_j63 : Int32) (x2_j63 : Int32) (x3_j63 : Int32) , wp_X5_length_63 v_of post (fun b0 b1 => K4 (b0, b1)) (fun b0 b1 b2 => K12 (b0, b1, b2)) s0_j63 s1_j63 s2_j63 x2_j63 x3_j63 → ∀ (H : Heap) (locs : List Loc) (ls : Array Slot), va_P D vwCl (W_X5_length h a cI cJ cZ v_thrown v_made v_of v_heart v_width v_sheets v_covered) H → va_D A (W_X5_length h a cI cJ cZ v_thrown v_made v_of v_heart v_width v_sheets v_covered) → va_S A s.heap H locs → lv_has ls 4 [(0, .ref h), (2, .int x2_j63), (3, .int x3_j63)] → W p l e rm_X5_length s m args below meth c H locs 0 0 QQ (F0 m 63 ls [.int s2_j63, .int s1_j63, .int s0_j63]) := by
        intro s0_j63 s1_j63 s2_j63 x2_j63 x3_j63 hw H locs ls hP hD hS hl
        unfold wp_X5_length_63 at hw
        refine lv_iadd hx hb dX5_length_63 ?_
        refine lv_iadd hx hb dX5_length_64 ?_
        refine lv_istore_n (lv' := [(1, .int (s0_j63 + (s1_j63 + s2_j63))), (0, .ref h), (2, .int x2_j63), (3, .int x3_j63)]) hx hb dX5_length_65 rfl hl (by decide) rfl (fun ls hl => ?_)
        refine lv_iinc (v := (x3_j63 + 1)) (lv' := [(3, .int (x3_j63 + 1)), (1, .int (s0_j63 + (s1_j63 + s2_j63))), (0, .ref h), (2, .int x2_j63)]) hx hb dX5_length_66 hl (k := 3) rfl rfl (by decide) rfl (fun ls hl => ?_)
        refine lv_goto (tgt := 12) hx hb dX5_length_69 (by decide) ?_
        exact ih12 ((s0_j63 + (s1_j63 + s2_j63)), x2_j63, (x3_j63 + 1)) hw _ _ ls hP hD hS (lv_sub hl [2, 1, 3, 0] rfl)
      have J41 : ∀ (s0_j41 : Int32) (s1_j41 : Int32) (x2_j41 : Int32) (x3_j41 : Int32) , wp_X5_length_41 v_of post (fun b0 b1 => K4 (b0, b1)) (fun b0 b1 b2 => K12 (b0, b1, b2)) s0_j41 s1_j41 x2_j41 x3_j41 → ∀ (H : Heap) (locs : List Loc) (ls : Array Slot), va_P D vwCl (W_X5_length h a cI cJ cZ v_thrown v_made v_of v_heart v_width v_sheets v_covered) H → va_D A (W_X5_length h a cI cJ cZ v_thrown v_made v_of v_heart v_width v_sheets v_covered) → va_S A s.heap H locs → lv_has ls 4 [(0, .ref h), (2, .int x2_j41), (3, .int x3_j41)] → W p l e rm_X5_length s m args below meth c H locs 0 0 QQ (F0 m 41 ls [.int s1_j41, .int s0_j41]) := by
        intro s0_j41 s1_j41 x2_j41 x3_j41 hw H locs ls hP hD hS hl
        unfold wp_X5_length_41 at hw
        refine lv_aload_n hx hb dX5_length_41 rfl (lv_at hl 0 rfl) ?_
        refine lv_iload_n hx hb dX5_length_42 rfl (lv_at hl 2 rfl) ?_
        refine lv_iload_n hx hb dX5_length_43 rfl (lv_at hl 1 rfl) ?_
        refine lv_iconst (v := 1) hx hb dX5_length_44 (by decide) ?_
        refine lv_isub hx hb dX5_length_45 ?_
        refine af_i (X := (W_X5_length h a cI cJ cZ v_thrown v_made v_of v_heart v_width v_sheets v_covered)) (pl := []) (cx := (W_X5_at h a cI cJ cZ v_thrown v_made v_of v_heart v_width v_sheets v_covered)) (w1 := fun (u : Unit) => (W_X5_at h a cI cJ cZ v_thrown v_made v_of v_heart v_width v_sheets v_covered)) (X' := fun (u : Unit) => (W_X5_length h a cI cJ cZ v_thrown v_made v_of v_heart v_width v_sheets v_covered)) hP hD hS hA [0, 1] [] [0, 1] rfl rfl (by decide) (by decide) (fun u => rfl) (by decide) (va_runV (As := [.int x3_j41, .int (x2_j41 - 1)]) (rest := [.int s1_j41, .int s0_j41]) ⟨hx, hb, hml, hown, hts⟩ (c_X5_at l D cI cJ cZ cO h a H.size v_thrown v_made v_of v_heart v_width v_sheets v_covered x3_j41 (x2_j41 - 1) _ hw) (cwV 2 hts gX5_length_X5_at rfl rfl rfl (by decide +kernel) ⟨Nat.le_of_ble_eq_true rfl, Nat.le_of_ble_eq_true rfl⟩) (preV (X := (W_X5_length h a cI cJ cZ v_thrown v_made v_of v_heart v_width v_sheets v_covered)) (pl := []) (cx := (W_X5_at h a cI cJ cZ v_thrown v_made v_of v_heart v_width v_sheets v_covered)) (qb := 0) (ci := 6) hK hE hP hD [0, 1] (by decide) rfl rfl rfl) rfl rfl hl.1 rfl (lv_room (Nat.le_of_ble_eq_true rfl)) dX5_length_46 ⟨Nat.zero_le _, Nat.zero_le _⟩) (fun r_46 _ H locs hw hP hD hS => ?_)
        try dsimp only at hw
        have hP : va_P D vwCl (W_X5_length h a cI cJ cZ v_thrown v_made v_of v_heart v_width v_sheets v_covered) H := hP
        have hD : va_D A (W_X5_length h a cI cJ cZ v_thrown v_made v_of v_heart v_width v_sheets v_covered) := hD
        refine lv_aload_n hx hb dX5_length_49 rfl (lv_at hl 0 rfl) ?_
        refine lv_iload_n hx hb dX5_length_50 rfl (lv_at hl 2 rfl) ?_
        refine lv_iload_n hx hb dX5_length_51 rfl (lv_at hl 1 rfl) ?_
        refine af_i (X := (W_X5_length h a cI cJ cZ v_thrown v_made v_of v_heart v_width v_sheets v_covered)) (pl := []) (cx := (W_X5_at h a cI cJ cZ v_thrown v_made v_of v_heart v_width v_sheets v_covered)) (w1 := fun (u : Unit) => (W_X5_at h a cI cJ cZ v_thrown v_made v_of v_heart v_width v_sheets v_covered)) (X' := fun (u : Unit) => (W_X5_length h a cI cJ cZ v_thrown v_made v_of v_heart v_width v_sheets v_covered)) hP hD hS hA [0, 1] [] [0, 1] rfl rfl (by decide) (by decide) (fun u => rfl) (by decide) (va_runV (As := [.int x3_j41, .int x2_j41]) (rest := [.int r_46, .int s1_j41, .int s0_j41]) ⟨hx, hb, hml, hown, hts⟩ (c_X5_at l D cI cJ cZ cO h a H.size v_thrown v_made v_of v_heart v_width v_sheets v_covered x3_j41 x2_j41 _ hw) (cwV 2 hts gX5_length_X5_at rfl rfl rfl (by decide +kernel) ⟨Nat.le_of_ble_eq_true rfl, Nat.le_of_ble_eq_true rfl⟩) (preV (X := (W_X5_length h a cI cJ cZ v_thrown v_made v_of v_heart v_width v_sheets v_covered)) (pl := []) (cx := (W_X5_at h a cI cJ cZ v_thrown v_made v_of v_heart v_width v_sheets v_covered)) (qb := 0) (ci := 6) hK hE hP hD [0, 1] (by decide) rfl rfl rfl) rfl rfl hl.1 rfl (lv_room (Nat.le_of_ble_eq_true rfl)) dX5_length_52 ⟨Nat.zero_le _, Nat.zero_le _⟩) (fun r_52 _ H locs hw hP hD hS => ?_)
        try dsimp only at hw
        have hP : va_P D vwCl (W_X5_length h a cI cJ cZ v_thrown v_made v_of v_heart v_width v_sheets v_covered) H := hP
        have hD : va_D A (W_X5_length h a cI cJ cZ v_thrown v_made v_of v_heart v_width v_sheets v_covered) := hD
        refine lv_icmp_eq (tgt := 62) hx hb dX5_length_55 (by decide) (fun c55 => ?_) (fun c55 => ?_)
        · have hw := hw.1 c55
          refine lv_iconst (v := 0) hx hb dX5_length_62 (by decide) ?_
          exact J63 s0_j41 s1_j41 0 x2_j41 x3_j41 hw _ _ ls hP hD hS (lv_sub hl [0, 1, 2] rfl)
        · have hw := hw.2 c55
          refine lv_iconst (v := 1) hx hb dX5_length_58 (by decide) ?_
          refine lv_goto (tgt := 63) hx hb dX5_length_59 (by decide) ?_
          exact J63 s0_j41 s1_j41 1 x2_j41 x3_j41 hw _ _ ls hP hD hS (lv_sub hl [0, 1, 2] rfl)
      unfold wp_X5_length_12 at hw
      refine lv_iload_n hx hb dX5_length_12 rfl (lv_at hl 3 rfl) ?_
      refine lv_bipush (v := 16) hx hb dX5_length_13 (by decide) ?_
      refine lv_icmp_ge (tgt := 72) hx hb dX5_length_15 (by decide) (fun c15 => ?_) (fun c15 => ?_)
      · have hw := hw.1 c15
        refine lv_iinc (v := (x2_j12 + 1)) (lv' := [(2, .int (x2_j12 + 1)), (0, .ref h), (1, .int x1_j12), (3, .int x3_j12)]) hx hb dX5_length_72 hl (k := 2) rfl rfl (by decide) rfl (fun ls hl => ?_)
        refine lv_goto (tgt := 4) hx hb dX5_length_75 (by decide) ?_
        exact ih4 (x1_j12, (x2_j12 + 1)) hw _ _ ls hP hD hS (lv_sub hl [1, 2, 0] rfl)
      · have hw := hw.2 c15
        refine lv_iload_n hx hb dX5_length_18 rfl (lv_at hl 1 rfl) ?_
        refine lv_aload_n hx hb dX5_length_19 rfl (lv_at hl 0 rfl) ?_
        refine lv_iload_n hx hb dX5_length_20 rfl (lv_at hl 2 rfl) ?_
        refine lv_iconst (v := 1) hx hb dX5_length_21 (by decide) ?_
        refine lv_isub hx hb dX5_length_22 ?_
        refine lv_iload_n hx hb dX5_length_23 rfl (lv_at hl 3 rfl) ?_
        refine af_i (X := (W_X5_length h a cI cJ cZ v_thrown v_made v_of v_heart v_width v_sheets v_covered)) (pl := []) (cx := (W_X5_at h a cI cJ cZ v_thrown v_made v_of v_heart v_width v_sheets v_covered)) (w1 := fun (u : Unit) => (W_X5_at h a cI cJ cZ v_thrown v_made v_of v_heart v_width v_sheets v_covered)) (X' := fun (u : Unit) => (W_X5_length h a cI cJ cZ v_thrown v_made v_of v_heart v_width v_sheets v_covered)) hP hD hS hA [0, 1] [] [0, 1] rfl rfl (by decide) (by decide) (fun u => rfl) (by decide) (va_runV (As := [.int (x2_j12 - 1), .int x3_j12]) (rest := [.int x1_j12]) ⟨hx, hb, hml, hown, hts⟩ (c_X5_at l D cI cJ cZ cO h a H.size v_thrown v_made v_of v_heart v_width v_sheets v_covered (x2_j12 - 1) x3_j12 _ hw) (cwV 2 hts gX5_length_X5_at rfl rfl rfl (by decide +kernel) ⟨Nat.le_of_ble_eq_true rfl, Nat.le_of_ble_eq_true rfl⟩) (preV (X := (W_X5_length h a cI cJ cZ v_thrown v_made v_of v_heart v_width v_sheets v_covered)) (pl := []) (cx := (W_X5_at h a cI cJ cZ v_thrown v_made v_of v_heart v_width v_sheets v_covered)) (qb := 0) (ci := 6) hK hE hP hD [0, 1] (by decide) rfl rfl rfl) rfl rfl hl.1 rfl (lv_room (Nat.le_of_ble_eq_true rfl)) dX5_length_24 ⟨Nat.zero_le _, Nat.zero_le _⟩) (fun r_24 _ H locs hw hP hD hS => ?_)
        try dsimp only at hw
        have hP : va_P D vwCl (W_X5_length h a cI cJ cZ v_thrown v_made v_of v_heart v_width v_sheets v_covered) H := hP
        have hD : va_D A (W_X5_length h a cI cJ cZ v_thrown v_made v_of v_heart v_width v_sheets v_covered) := hD
        refine lv_aload_n hx hb dX5_length_27 rfl (lv_at hl 0 rfl) ?_
        refine lv_iload_n hx hb dX5_length_28 rfl (lv_at hl 2 rfl) ?_
        refine lv_iload_n hx hb dX5_length_29 rfl (lv_at hl 3 rfl) ?_
        refine af_i (X := (W_X5_length h a cI cJ cZ v_thrown v_made v_of v_heart v_width v_sheets v_covered)) (pl := []) (cx := (W_X5_at h a cI cJ cZ v_thrown v_made v_of v_heart v_width v_sheets v_covered)) (w1 := fun (u : Unit) => (W_X5_at h a cI cJ cZ v_thrown v_made v_of v_heart v_width v_sheets v_covered)) (X' := fun (u : Unit) => (W_X5_length h a cI cJ cZ v_thrown v_made v_of v_heart v_width v_sheets v_covered)) hP hD hS hA [0, 1] [] [0, 1] rfl rfl (by decide) (by decide) (fun u => rfl) (by decide) (va_runV (As := [.int x2_j12, .int x3_j12]) (rest := [.int r_24, .int x1_j12]) ⟨hx, hb, hml, hown, hts⟩ (c_X5_at l D cI cJ cZ cO h a H.size v_thrown v_made v_of v_heart v_width v_sheets v_covered x2_j12 x3_j12 _ hw) (cwV 2 hts gX5_length_X5_at rfl rfl rfl (by decide +kernel) ⟨Nat.le_of_ble_eq_true rfl, Nat.le_of_ble_eq_true rfl⟩) (preV (X := (W_X5_length h a cI cJ cZ v_thrown v_made v_of v_heart v_width v_sheets v_covered)) (pl := []) (cx := (W_X5_at h a cI cJ cZ v_thrown v_made v_of v_heart v_width v_sheets v_covered)) (qb := 0) (ci := 6) hK hE hP hD [0, 1] (by decide) rfl rfl rfl) rfl rfl hl.1 rfl (lv_room (Nat.le_of_ble_eq_true rfl)) dX5_length_30 ⟨Nat.zero_le _, Nat.zero_le _⟩) (fun r_30 _ H locs hw hP hD hS => ?_)
        try dsimp only at hw
        have hP : va_P D vwCl (W_X5_length h a cI cJ cZ v_thrown v_made v_of v_heart v_width v_sheets v_covered) H := hP
        have hD : va_D A (W_X5_length h a cI cJ cZ v_thrown v_made v_of v_heart v_width v_sheets v_covered) := hD
        refine lv_icmp_eq (tgt := 40) hx hb dX5_length_33 (by decide) (fun c33 => ?_) (fun c33 => ?_)
        · have hw := hw.1 c33
          refine lv_iconst (v := 0) hx hb dX5_length_40 (by decide) ?_
          exact J41 x1_j12 0 x2_j12 x3_j12 hw _ _ ls hP hD hS (lv_sub hl [0, 2, 3] rfl)
        · have hw := hw.2 c33
          refine lv_iconst (v := 1) hx hb dX5_length_36 (by decide) ?_
          refine lv_goto (tgt := 41) hx hb dX5_length_37 (by decide) ?_
          exact J41 x1_j12 1 x2_j12 x3_j12 hw _ _ ls hP hD hS (lv_sub hl [0, 2, 3] rfl)
    unfold wp_X5_length_4 at hw
    refine lv_iload_n hx hb dX5_length_4 rfl (lv_at hl 2 rfl) ?_
    refine lv_bipush (v := 16) hx hb dX5_length_5 (by decide) ?_
    refine lv_icmp_gt (tgt := 78) hx hb dX5_length_7 (by decide) (fun c7 => ?_) (fun c7 => ?_)
    · have hw := hw.1 c7
      refine lv_iload_n hx hb dX5_length_78 rfl (lv_at hl 1 rfl) ?_
      exact RT x1_j4 () _ _ _ _ dX5_length_79 hw hP hD hS
    · have hw := hw.2 c7
      refine lv_iconst (v := 0) hx hb dX5_length_10 (by decide) ?_
      refine lv_istore_n (lv' := [(3, .int 0), (0, .ref h), (1, .int x1_j4), (2, .int x2_j4)]) hx hb dX5_length_11 rfl hl (by decide) rfl (fun ls hl => ?_)
      exact L12 (x1_j4, x2_j4, 0) hw _ _ ls hP hD hS (lv_sub hl [1, 2, 3, 0] rfl)
  refine lv_iconst (v := 0) hx hb dX5_length_0 (by decide) ?_
  refine lv_istore_n (lv' := [(1, .int 0), (0, .ref h)]) hx hb dX5_length_1 rfl hl (by decide) rfl (fun ls hl => ?_)
  refine lv_iconst (v := 0) hx hb dX5_length_2 (by decide) ?_
  refine lv_istore_n (lv' := [(2, .int 0), (1, .int 0), (0, .ref h)]) hx hb dX5_length_3 rfl hl (by decide) rfl (fun ls hl => ?_)
  exact L4 (0, 0) hw _ _ ls hP hD hS (lv_sub hl [2, 1, 0] rfl)
abbrev rm_X5_lead : Room := { frames := 3, cells := 0, slots := 0, locals := 67 }
abbrev W_X5_lead (h : Nat) (a : Nat → Nat) (cI cJ cZ : ClassId) (v_thrown : Int32) (v_made : Int32) (v_of : Nat → Int32) (v_heart : Int32) (v_width : Int32) (v_sheets : Int32) (v_covered : Int32) : va_W := [(h, .inr (6, [.int v_thrown, .int v_made, .ref (a 2), .ref (a 3), .ref (a 4), .ref (a 5), .ref (a 6), .ref (a 7), .ref (a 8), .ref (a 9), .ref (a 10), .ref (a 11), .int v_heart, .int v_width, .ref (a 14), .ref (a 15), .ref (a 16), .ref (a 17), .ref (a 18), .ref (a 19), .ref (a 20), .ref (a 21), .int v_sheets, .int v_covered])), ((a 2), .inl (cI, 256, .inl v_of))]
def wp_X5_lead (v_thrown : Int32) (v_of : Nat → Int32) (post : Int32 → Int32 → Prop) : Prop := ∀ v_thrown_t2 : Int32, v_thrown_t2 = 0 → wp_X5_length v_of (fun r_6 => post r_6 v_thrown_t2)
set_option maxHeartbeats 4000000 in
set_option maxRecDepth 100000 in
theorem c_X5_lead (l : Launch) (D : va_G) (cI cJ cZ cO : ClassId) (h : Nat) (a : Nat → Nat) (sz : Nat) (v_thrown : Int32) (v_made : Int32) (v_of : Nat → Int32) (v_heart : Int32) (v_width : Int32) (v_sheets : Int32) (v_covered : Int32) (post : Int32 → Int32 → Prop) (hw : wp_X5_lead v_thrown v_of post) : Met l yX5_lead wsX5_lead rm_X5_lead (va_Pc [.ref h] (PRE D cI cJ cZ cO (W_X5_lead h a cI cJ cZ v_thrown v_made v_of v_heart v_width v_sheets v_covered) sz)) (va_Qi (fun r (u : Int32) => post r u) (fun u t => POST D (va_A (W_X5_lead h a cI cJ cZ v_thrown v_made v_of v_heart v_width v_sheets v_covered) sz) (W_X5_lead h a cI cJ cZ u v_made v_of v_heart v_width v_sheets v_covered) t) (va_A (W_X5_lead h a cI cJ cZ v_thrown v_made v_of v_heart v_width v_sheets v_covered) sz)) 0 0 (va_A (W_X5_lead h a cI cJ cZ v_thrown v_made v_of v_heart v_width v_sheets v_covered) sz) := by
  refine met_go (cc := cX5_lead) (maxL := 1) (ret := some .int) RX5 rfl (by decide) rfl (Nat.le_of_ble_eq_true rfl) ?_
  intro p e s m args below meth c ls hx hb hr hts hown hlocks hin hml hsz hP hK hE hD hA hS hl
  have iRX5 : ∀ w ∈ u_ws RX5 TX5 24, w ∈ wsX5_lead := mem_seg 15 24 rfl
  generalize va_A (W_X5_lead h a cI cJ cZ v_thrown v_made v_of v_heart v_width v_sheets v_covered) sz = A at hD hA hS ⊢
  have RT : ∀ (v : Int32) (u : Int32) (H : Heap) (locs : List Loc) (pc : Nat) (ls : Array Slot), decode cX5_lead pc = .ok (.ireturn, 1) → post v u → va_P D vwCl (W_X5_lead h a cI cJ cZ u v_made v_of v_heart v_width v_sheets v_covered) H → va_D A (W_X5_lead h a cI cJ cZ u v_made v_of v_heart v_width v_sheets v_covered) → va_S A s.heap H locs → W p l e rm_X5_lead s m args below meth c H locs 0 0 (MQ below (va_Qi (fun r (u : Int32) => post r u) (fun u t => POST D A (W_X5_lead h a cI cJ cZ u v_made v_of v_heart v_width v_sheets v_covered) t) A) args s 0 0 A) (F0 m pc ls [.int v]) := fun v u H locs pc ls d g1 g2 g3 g4 => rt_i (Wf := fun u => (W_X5_lead h a cI cJ cZ u v_made v_of v_heart v_width v_sheets v_covered)) u hx hb hr hlocks g1 g2 g3 g4 d
  generalize (MQ below (va_Qi (fun r (u : Int32) => post r u) (fun u t => POST D A (W_X5_lead h a cI cJ cZ u v_made v_of v_heart v_width v_sheets v_covered) t) A) args s 0 0 A) = QQ at RT ⊢
  have hl : lv_has ls 1 [(0, .ref h)] := hl
  have hP : va_P D vwCl (W_X5_lead h a cI cJ cZ v_thrown v_made v_of v_heart v_width v_sheets v_covered) s.heap := hP
  unfold wp_X5_lead at hw
  suffices GO : ∀ (H : Heap) (locs : List Loc), va_P D vwCl (W_X5_lead h a cI cJ cZ v_thrown v_made v_of v_heart v_width v_sheets v_covered) H → va_S A s.heap H locs → W p l e rm_X5_lead s m args below meth c H locs 0 0 QQ (F0 m 0 ls []) from GO _ _ hP hS
  clear hsz hP hS
  intro H locs hP hS
  refine lv_aload_n hx hb dX5_lead_0 rfl (lv_at hl 0 rfl) ?_
  refine lv_iconst (v := 0) hx hb dX5_lead_1 (by decide) ?_
  refine lv_topi (fun v_thrown_t2 ev_thrown_t2 => ?_)
  have hw := hw v_thrown_t2 ev_thrown_t2
  refine va_put (D := D) (ci := 6) (v := .int v_thrown_t2) (ty := .int) (C := RX5) (T := TX5) (N := 24) hx hb hts iRX5 tyX5 tyX5_ok nmX5 hown hK hP hD hS 0 rfl rfl 0 (by decide) (hts (.fieldLink RX5 79 "LeadlightModel" "thrown" "I") (List.mem_of_getElem? (i := 1) rfl)) (fun _ h9 => h9) rfl (by decide +kernel) rfl rfl (Nat.le_of_ble_eq_true rfl) dX5_lead_2 (fun H locs hP hD hS => ?_)
  have hP : va_P D vwCl (W_X5_lead h a cI cJ cZ v_thrown_t2 v_made v_of v_heart v_width v_sheets v_covered) H := hP
  have hD : va_D A (W_X5_lead h a cI cJ cZ v_thrown_t2 v_made v_of v_heart v_width v_sheets v_covered) := hD
  refine lv_aload_n hx hb dX5_lead_5 rfl (lv_at hl 0 rfl) ?_
  refine af_i (X := (W_X5_lead h a cI cJ cZ v_thrown_t2 v_made v_of v_heart v_width v_sheets v_covered)) (pl := []) (cx := (W_X5_length h a cI cJ cZ v_thrown_t2 v_made v_of v_heart v_width v_sheets v_covered)) (w1 := fun (u : Unit) => (W_X5_length h a cI cJ cZ v_thrown_t2 v_made v_of v_heart v_width v_sheets v_covered)) (X' := fun (u : Unit) => (W_X5_lead h a cI cJ cZ v_thrown_t2 v_made v_of v_heart v_width v_sheets v_covered)) hP hD hS hA [0, 1] [] [0, 1] rfl rfl (by decide) (by decide) (fun u => rfl) (by decide) (va_runV (As := []) (rest := []) ⟨hx, hb, hml, hown, hts⟩ (c_X5_length l D cI cJ cZ cO h a H.size v_thrown_t2 v_made v_of v_heart v_width v_sheets v_covered _ hw) (cwV 0 hts gX5_lead_X5_length rfl rfl rfl (by decide +kernel) ⟨Nat.le_of_ble_eq_true rfl, Nat.le_of_ble_eq_true rfl⟩) (preV (X := (W_X5_lead h a cI cJ cZ v_thrown_t2 v_made v_of v_heart v_width v_sheets v_covered)) (pl := []) (cx := (W_X5_length h a cI cJ cZ v_thrown_t2 v_made v_of v_heart v_width v_sheets v_covered)) (qb := 0) (ci := 6) hK hE hP hD [0, 1] (by decide) rfl rfl rfl) rfl rfl hl.1 rfl (lv_room (Nat.le_of_ble_eq_true rfl)) dX5_lead_6 ⟨Nat.zero_le _, Nat.zero_le _⟩) (fun r_6 _ H locs hw hP hD hS => ?_)
  try dsimp only at hw
  have hP : va_P D vwCl (W_X5_lead h a cI cJ cZ v_thrown_t2 v_made v_of v_heart v_width v_sheets v_covered) H := hP
  have hD : va_D A (W_X5_lead h a cI cJ cZ v_thrown_t2 v_made v_of v_heart v_width v_sheets v_covered) := hD
  exact RT r_6 v_thrown_t2 _ _ _ _ dX5_lead_9 hw hP hD hS
abbrev rm_X5_joints : Room := { frames := 2, cells := 0, slots := 0, locals := 44 }
abbrev W_X5_joints (h : Nat) (a : Nat → Nat) (cI cJ cZ : ClassId) (v_thrown : Int32) (v_made : Int32) (v_of : Nat → Int32) (v_heart : Int32) (v_width : Int32) (v_sheets : Int32) (v_covered : Int32) : va_W := [(h, .inr (6, [.int v_thrown, .int v_made, .ref (a 2), .ref (a 3), .ref (a 4), .ref (a 5), .ref (a 6), .ref (a 7), .ref (a 8), .ref (a 9), .ref (a 10), .ref (a 11), .int v_heart, .int v_width, .ref (a 14), .ref (a 15), .ref (a 16), .ref (a 17), .ref (a 18), .ref (a 19), .ref (a 20), .ref (a 21), .int v_sheets, .int v_covered])), ((a 2), .inl (cI, 256, .inl v_of))]
def wp_X5_joints_140 (v_thrown : Int32) (v_of : Nat → Int32) (post : Int32 → Int32 → Prop) (K9 : Int32 → Int32 → Int32 → Prop) (K17 : Int32 → Int32 → Int32 → Int32 → Prop) (s0_j140 : Int32) (s1_j140 : Int32) (x2_j140 : Int32) (x3_j140 : Int32) (v_thrown_j140 : Int32) : Prop := K17 (s0_j140 + s1_j140) x2_j140 (x3_j140 + 1) v_thrown_j140
def wp_X5_joints_124 (v_thrown : Int32) (v_of : Nat → Int32) (post : Int32 → Int32 → Prop) (K9 : Int32 → Int32 → Int32 → Prop) (K17 : Int32 → Int32 → Int32 → Int32 → Prop) (s0_j124 : Int32) (s1_j124 : Int32) (s2_j124 : Int32) (x1_j124 : Int32) (x2_j124 : Int32) (x3_j124 : Int32) (v_thrown_j124 : Int32) : Prop := ((s0_j124 + (s1_j124 + s2_j124)) ≤ 2 → wp_X5_joints_140 v_thrown v_of post K9 K17 x1_j124 0 x2_j124 x3_j124 v_thrown_j124) ∧ (¬ (s0_j124 + (s1_j124 + s2_j124)) ≤ 2 → wp_X5_joints_140 v_thrown v_of post K9 K17 x1_j124 1 x2_j124 x3_j124 v_thrown_j124)
def wp_X5_joints_102 (v_thrown : Int32) (v_of : Nat → Int32) (post : Int32 → Int32 → Prop) (K9 : Int32 → Int32 → Int32 → Prop) (K17 : Int32 → Int32 → Int32 → Int32 → Prop) (s0_j102 : Int32) (s1_j102 : Int32) (x1_j102 : Int32) (x2_j102 : Int32) (x3_j102 : Int32) (v_thrown_j102 : Int32) : Prop := wp_X5_at v_of (x2_j102 - 1) x3_j102 (fun r_107 => wp_X5_at v_of x2_j102 x3_j102 (fun r_113 => (r_107 = r_113 → wp_X5_joints_124 v_thrown v_of post K9 K17 s0_j102 s1_j102 0 x1_j102 x2_j102 x3_j102 v_thrown_j102) ∧ (¬ r_107 = r_113 → wp_X5_joints_124 v_thrown v_of post K9 K17 s0_j102 s1_j102 1 x1_j102 x2_j102 x3_j102 v_thrown_j102)))
def wp_X5_joints_71 (v_thrown : Int32) (v_of : Nat → Int32) (post : Int32 → Int32 → Prop) (K9 : Int32 → Int32 → Int32 → Prop) (K17 : Int32 → Int32 → Int32 → Int32 → Prop) (s0_j71 : Int32) (s1_j71 : Int32) (x1_j71 : Int32) (x2_j71 : Int32) (x3_j71 : Int32) (v_thrown_j71 : Int32) : Prop := wp_X5_at v_of (x2_j71 - 1) (x3_j71 - 1) (fun r_83 => wp_X5_at v_of x2_j71 (x3_j71 - 1) (fun r_91 => (r_83 = r_91 → wp_X5_joints_102 v_thrown v_of post K9 K17 (s0_j71 + s1_j71) 0 x1_j71 x2_j71 x3_j71 v_thrown_j71) ∧ (¬ r_83 = r_91 → wp_X5_joints_102 v_thrown v_of post K9 K17 (s0_j71 + s1_j71) 1 x1_j71 x2_j71 x3_j71 v_thrown_j71)))
def wp_X5_joints_49 (v_thrown : Int32) (v_of : Nat → Int32) (post : Int32 → Int32 → Prop) (K9 : Int32 → Int32 → Int32 → Prop) (K17 : Int32 → Int32 → Int32 → Int32 → Prop) (s0_j49 : Int32) (x1_j49 : Int32) (x2_j49 : Int32) (x3_j49 : Int32) (v_thrown_j49 : Int32) : Prop := wp_X5_at v_of x2_j49 (x3_j49 - 1) (fun r_54 => wp_X5_at v_of x2_j49 x3_j49 (fun r_60 => (r_54 = r_60 → wp_X5_joints_71 v_thrown v_of post K9 K17 s0_j49 0 x1_j49 x2_j49 x3_j49 v_thrown_j49) ∧ (¬ r_54 = r_60 → wp_X5_joints_71 v_thrown v_of post K9 K17 s0_j49 1 x1_j49 x2_j49 x3_j49 v_thrown_j49)))
def wp_X5_joints_17 (v_thrown : Int32) (v_of : Nat → Int32) (post : Int32 → Int32 → Prop) (K9 : Int32 → Int32 → Int32 → Prop) (K17 : Int32 → Int32 → Int32 → Int32 → Prop) (x1_j17 : Int32) (x2_j17 : Int32) (x3_j17 : Int32) (v_thrown_j17 : Int32) : Prop := (16 < x3_j17 → K9 x1_j17 (x2_j17 + 1) v_thrown_j17) ∧ (¬ 16 < x3_j17 → wp_X5_at v_of (x2_j17 - 1) (x3_j17 - 1) (fun r_30 => wp_X5_at v_of (x2_j17 - 1) x3_j17 (fun r_38 => (r_30 = r_38 → wp_X5_joints_49 v_thrown v_of post K9 K17 0 x1_j17 x2_j17 x3_j17 v_thrown_j17) ∧ (¬ r_30 = r_38 → wp_X5_joints_49 v_thrown v_of post K9 K17 1 x1_j17 x2_j17 x3_j17 v_thrown_j17))))
def lF_X5_joints_17 (v_thrown : Int32) (v_of : Nat → Int32) (post : Int32 → Int32 → Prop) (K9 : Int32 → Int32 → Int32 → Prop) : ((Int32 × Int32 × Int32 × Int32) → Prop) → (Int32 × Int32 × Int32 × Int32) → Prop := fun K s => wp_X5_joints_17 v_thrown v_of post K9 (fun b0 b1 b2 b3 => K (b0, b1, b2, b3)) s.1 s.2.1 s.2.2.1 s.2.2.2
def wp_X5_joints_9 (v_thrown : Int32) (v_of : Nat → Int32) (post : Int32 → Int32 → Prop) (K9 : Int32 → Int32 → Int32 → Prop) (x1_j9 : Int32) (x2_j9 : Int32) (v_thrown_j9 : Int32) : Prop := (16 < x2_j9 → post x1_j9 v_thrown_j9) ∧ (¬ 16 < x2_j9 → lp (lF_X5_joints_17 v_thrown v_of post K9) (x1_j9, x2_j9, 0, v_thrown_j9))
def lF_X5_joints_9 (v_thrown : Int32) (v_of : Nat → Int32) (post : Int32 → Int32 → Prop) : ((Int32 × Int32 × Int32) → Prop) → (Int32 × Int32 × Int32) → Prop := fun K s => wp_X5_joints_9 v_thrown v_of post (fun b0 b1 b2 => K (b0, b1, b2)) s.1 s.2.1 s.2.2
def wp_X5_joints (v_thrown : Int32) (v_of : Nat → Int32) (post : Int32 → Int32 → Prop) : Prop := ∀ v_thrown_t2 : Int32, v_thrown_t2 = 0 → lp (lF_X5_joints_9 v_thrown v_of post) (0, 0, v_thrown_t2)
set_option maxHeartbeats 4000000 in
set_option maxRecDepth 100000 in
theorem c_X5_joints (l : Launch) (D : va_G) (cI cJ cZ cO : ClassId) (h : Nat) (a : Nat → Nat) (sz : Nat) (v_thrown : Int32) (v_made : Int32) (v_of : Nat → Int32) (v_heart : Int32) (v_width : Int32) (v_sheets : Int32) (v_covered : Int32) (post : Int32 → Int32 → Prop) (hw : wp_X5_joints v_thrown v_of post) : Met l yX5_joints wsX5_joints rm_X5_joints (va_Pc [.ref h] (PRE D cI cJ cZ cO (W_X5_joints h a cI cJ cZ v_thrown v_made v_of v_heart v_width v_sheets v_covered) sz)) (va_Qi (fun r (u : Int32) => post r u) (fun u t => POST D (va_A (W_X5_joints h a cI cJ cZ v_thrown v_made v_of v_heart v_width v_sheets v_covered) sz) (W_X5_joints h a cI cJ cZ u v_made v_of v_heart v_width v_sheets v_covered) t) (va_A (W_X5_joints h a cI cJ cZ v_thrown v_made v_of v_heart v_width v_sheets v_covered) sz)) 0 0 (va_A (W_X5_joints h a cI cJ cZ v_thrown v_made v_of v_heart v_width v_sheets v_covered) sz) := by
  refine met_go (cc := cX5_joints) (maxL := 5) (ret := some .int) RX5 rfl (by decide) rfl (Nat.le_of_ble_eq_true rfl) ?_
  intro p e s m args below meth c ls hx hb hr hts hown hlocks hin hml hsz hP hK hE hD hA hS hl
  have iRX5 : ∀ w ∈ u_ws RX5 TX5 24, w ∈ wsX5_joints := mem_seg 11 24 rfl
  generalize va_A (W_X5_joints h a cI cJ cZ v_thrown v_made v_of v_heart v_width v_sheets v_covered) sz = A at hD hA hS ⊢
  have RT : ∀ (v : Int32) (u : Int32) (H : Heap) (locs : List Loc) (pc : Nat) (ls : Array Slot), decode cX5_joints pc = .ok (.ireturn, 1) → post v u → va_P D vwCl (W_X5_joints h a cI cJ cZ u v_made v_of v_heart v_width v_sheets v_covered) H → va_D A (W_X5_joints h a cI cJ cZ u v_made v_of v_heart v_width v_sheets v_covered) → va_S A s.heap H locs → W p l e rm_X5_joints s m args below meth c H locs 0 0 (MQ below (va_Qi (fun r (u : Int32) => post r u) (fun u t => POST D A (W_X5_joints h a cI cJ cZ u v_made v_of v_heart v_width v_sheets v_covered) t) A) args s 0 0 A) (F0 m pc ls [.int v]) := fun v u H locs pc ls d g1 g2 g3 g4 => rt_i (Wf := fun u => (W_X5_joints h a cI cJ cZ u v_made v_of v_heart v_width v_sheets v_covered)) u hx hb hr hlocks g1 g2 g3 g4 d
  generalize (MQ below (va_Qi (fun r (u : Int32) => post r u) (fun u t => POST D A (W_X5_joints h a cI cJ cZ u v_made v_of v_heart v_width v_sheets v_covered) t) A) args s 0 0 A) = QQ at RT ⊢
  have hl : lv_has ls 5 [(0, .ref h)] := hl
  have hP : va_P D vwCl (W_X5_joints h a cI cJ cZ v_thrown v_made v_of v_heart v_width v_sheets v_covered) s.heap := hP
  unfold wp_X5_joints at hw
  suffices GO : ∀ (H : Heap) (locs : List Loc), va_P D vwCl (W_X5_joints h a cI cJ cZ v_thrown v_made v_of v_heart v_width v_sheets v_covered) H → va_S A s.heap H locs → W p l e rm_X5_joints s m args below meth c H locs 0 0 QQ (F0 m 0 ls []) from GO _ _ hP hS
  clear hsz hP hS
  intro H locs hP hS
  have L9 : ∀ s0 : (Int32 × Int32 × Int32), lp (lF_X5_joints_9 v_thrown v_of post) s0 → ∀ (H : Heap) (locs : List Loc) (ls : Array Slot), va_P D vwCl (W_X5_joints h a cI cJ cZ s0.2.2 v_made v_of v_heart v_width v_sheets v_covered) H → va_D A (W_X5_joints h a cI cJ cZ s0.2.2 v_made v_of v_heart v_width v_sheets v_covered) → va_S A s.heap H locs → lv_has ls 5 [(0, .ref h), (1, .int s0.1), (2, .int s0.2.1)] → W p l e rm_X5_joints s m args below meth c H locs 0 0 QQ (F0 m 9 ls []) := by
    refine lp_elim (fun K9 ih9 s0 hw => ?_)
    obtain ⟨x1_j9, x2_j9, v_thrown_j9⟩ := s0
    intro H locs ls hP hD hS hl
    have hw : wp_X5_joints_9 v_thrown v_of post (fun b0 b1 b2 => K9 (b0, b1, b2)) x1_j9 x2_j9 v_thrown_j9 := hw
    have hP : va_P D vwCl (W_X5_joints h a cI cJ cZ v_thrown_j9 v_made v_of v_heart v_width v_sheets v_covered) H := hP
    have hD : va_D A (W_X5_joints h a cI cJ cZ v_thrown_j9 v_made v_of v_heart v_width v_sheets v_covered) := hD
    have hl : lv_has ls 5 [(0, .ref h), (1, .int x1_j9), (2, .int x2_j9)] := hl
    have L17 : ∀ s0 : (Int32 × Int32 × Int32 × Int32), lp (lF_X5_joints_17 v_thrown v_of post (fun b0 b1 b2 => K9 (b0, b1, b2))) s0 → ∀ (H : Heap) (locs : List Loc) (ls : Array Slot), va_P D vwCl (W_X5_joints h a cI cJ cZ s0.2.2.2 v_made v_of v_heart v_width v_sheets v_covered) H → va_D A (W_X5_joints h a cI cJ cZ s0.2.2.2 v_made v_of v_heart v_width v_sheets v_covered) → va_S A s.heap H locs → lv_has ls 5 [(0, .ref h), (1, .int s0.1), (2, .int s0.2.1), (3, .int s0.2.2.1)] → W p l e rm_X5_joints s m args below meth c H locs 0 0 QQ (F0 m 17 ls []) := by
      refine lp_elim (fun K17 ih17 s0 hw => ?_)
      obtain ⟨x1_j17, x2_j17, x3_j17, v_thrown_j17⟩ := s0
      intro H locs ls hP hD hS hl
      have hw : wp_X5_joints_17 v_thrown v_of post (fun b0 b1 b2 => K9 (b0, b1, b2)) (fun b0 b1 b2 b3 => K17 (b0, b1, b2, b3)) x1_j17 x2_j17 x3_j17 v_thrown_j17 := hw
      have hP : va_P D vwCl (W_X5_joints h a cI cJ cZ v_thrown_j17 v_made v_of v_heart v_width v_sheets v_covered) H := hP
      have hD : va_D A (W_X5_joints h a cI cJ cZ v_thrown_j17 v_made v_of v_heart v_width v_sheets v_covered) := hD
      have hl : lv_has ls 5 [(0, .ref h), (1, .int x1_j17), (2, .int x2_j17), (3, .int x3_j17)] := hl
      have J140 : ∀ (s0_j140 : Int32) (s1_j140 : Int32) (x2_j140 : Int32) (x3_j140 : Int32) (v_thrown_j140 : Int32) , wp_X5_joints_140 v_thrown v_of post (fun b0 b1 b2 => K9 (b0, b1, b2)) (fun b0 b1 b2 b3 => K17 (b0, b1, b2, b3)) s0_j140 s1_j140 x2_j140 x3_j140 v_thrown_j140 → ∀ (H : Heap) (locs : List Loc) (ls : Array Slot), va_P D vwCl (W_X5_joints h a cI cJ cZ v_thrown_j140 v_made v_of v_heart v_width v_sheets v_covered) H → va_D A (W_X5_joints h a cI cJ cZ v_thrown_j140 v_made v_of v_heart v_width v_sheets v_covered) → va_S A s.heap H locs → lv_has ls 5 [(0, .ref h), (2, .int x2_j140), (3, .int x3_j140)] → W p l e rm_X5_joints s m args below meth c H locs 0 0 QQ (F0 m 140 ls [.int s1_j140, .int s0_j140]) := by
        intro s0_j140 s1_j140 x2_j140 x3_j140 v_thrown_j140 hw H locs ls hP hD hS hl
        unfold wp_X5_joints_140 at hw
        refine lv_iadd hx hb dX5_joints_140 ?_
        refine lv_istore_n (lv' := [(1, .int (s0_j140 + s1_j140)), (0, .ref h), (2, .int x2_j140), (3, .int x3_j140)]) hx hb dX5_joints_141 rfl hl (by decide) rfl (fun ls hl => ?_)
        refine lv_iinc (v := (x3_j140 + 1)) (lv' := [(3, .int (x3_j140 + 1)), (1, .int (s0_j140 + s1_j140)), (0, .ref h), (2, .int x2_j140)]) hx hb dX5_joints_142 hl (k := 3) rfl rfl (by decide) rfl (fun ls hl => ?_)
        refine lv_goto (tgt := 17) hx hb dX5_joints_145 (by decide) ?_
        exact ih17 ((s0_j140 + s1_j140), x2_j140, (x3_j140 + 1), v_thrown_j140) hw _ _ ls hP hD hS (lv_sub hl [2, 1, 3, 0] rfl)
      have J124 : ∀ (s0_j124 : Int32) (s1_j124 : Int32) (s2_j124 : Int32) (x1_j124 : Int32) (x2_j124 : Int32) (x3_j124 : Int32) (v_thrown_j124 : Int32) , wp_X5_joints_124 v_thrown v_of post (fun b0 b1 b2 => K9 (b0, b1, b2)) (fun b0 b1 b2 b3 => K17 (b0, b1, b2, b3)) s0_j124 s1_j124 s2_j124 x1_j124 x2_j124 x3_j124 v_thrown_j124 → ∀ (H : Heap) (locs : List Loc) (ls : Array Slot), va_P D vwCl (W_X5_joints h a cI cJ cZ v_thrown_j124 v_made v_of v_heart v_width v_sheets v_covered) H → va_D A (W_X5_joints h a cI cJ cZ v_thrown_j124 v_made v_of v_heart v_width v_sheets v_covered) → va_S A s.heap H locs → lv_has ls 5 [(0, .ref h), (1, .int x1_j124), (2, .int x2_j124), (3, .int x3_j124)] → W p l e rm_X5_joints s m args below meth c H locs 0 0 QQ (F0 m 124 ls [.int s2_j124, .int s1_j124, .int s0_j124]) := by
        intro s0_j124 s1_j124 s2_j124 x1_j124 x2_j124 x3_j124 v_thrown_j124 hw H locs ls hP hD hS hl
        unfold wp_X5_joints_124 at hw
        refine lv_iadd hx hb dX5_joints_124 ?_
        refine lv_iadd hx hb dX5_joints_125 ?_
        refine lv_istore (lv' := [(4, .int (s0_j124 + (s1_j124 + s2_j124))), (0, .ref h), (1, .int x1_j124), (2, .int x2_j124), (3, .int x3_j124)]) hx hb dX5_joints_126 hl (by decide) rfl (fun ls hl => ?_)
        refine lv_iload_n hx hb dX5_joints_128 rfl (lv_at hl 2 rfl) ?_
        refine lv_iload hx hb dX5_joints_129 (lv_at hl 0 rfl) ?_
        refine lv_iconst (v := 2) hx hb dX5_joints_131 (by decide) ?_
        refine lv_icmp_le (tgt := 139) hx hb dX5_joints_132 (by decide) (fun c132 => ?_) (fun c132 => ?_)
        · have hw := hw.1 c132
          refine lv_iconst (v := 0) hx hb dX5_joints_139 (by decide) ?_
          exact J140 x1_j124 0 x2_j124 x3_j124 v_thrown_j124 hw _ _ ls hP hD hS (lv_sub hl [1, 3, 4] rfl)
        · have hw := hw.2 c132
          refine lv_iconst (v := 1) hx hb dX5_joints_135 (by decide) ?_
          refine lv_goto (tgt := 140) hx hb dX5_joints_136 (by decide) ?_
          exact J140 x1_j124 1 x2_j124 x3_j124 v_thrown_j124 hw _ _ ls hP hD hS (lv_sub hl [1, 3, 4] rfl)
      have J102 : ∀ (s0_j102 : Int32) (s1_j102 : Int32) (x1_j102 : Int32) (x2_j102 : Int32) (x3_j102 : Int32) (v_thrown_j102 : Int32) , wp_X5_joints_102 v_thrown v_of post (fun b0 b1 b2 => K9 (b0, b1, b2)) (fun b0 b1 b2 b3 => K17 (b0, b1, b2, b3)) s0_j102 s1_j102 x1_j102 x2_j102 x3_j102 v_thrown_j102 → ∀ (H : Heap) (locs : List Loc) (ls : Array Slot), va_P D vwCl (W_X5_joints h a cI cJ cZ v_thrown_j102 v_made v_of v_heart v_width v_sheets v_covered) H → va_D A (W_X5_joints h a cI cJ cZ v_thrown_j102 v_made v_of v_heart v_width v_sheets v_covered) → va_S A s.heap H locs → lv_has ls 5 [(0, .ref h), (1, .int x1_j102), (2, .int x2_j102), (3, .int x3_j102)] → W p l e rm_X5_joints s m args below meth c H locs 0 0 QQ (F0 m 102 ls [.int s1_j102, .int s0_j102]) := by
        intro s0_j102 s1_j102 x1_j102 x2_j102 x3_j102 v_thrown_j102 hw H locs ls hP hD hS hl
        unfold wp_X5_joints_102 at hw
        refine lv_aload_n hx hb dX5_joints_102 rfl (lv_at hl 0 rfl) ?_
        refine lv_iload_n hx hb dX5_joints_103 rfl (lv_at hl 2 rfl) ?_
        refine lv_iconst (v := 1) hx hb dX5_joints_104 (by decide) ?_
        refine lv_isub hx hb dX5_joints_105 ?_
        refine lv_iload_n hx hb dX5_joints_106 rfl (lv_at hl 3 rfl) ?_
        refine af_i (X := (W_X5_joints h a cI cJ cZ v_thrown_j102 v_made v_of v_heart v_width v_sheets v_covered)) (pl := []) (cx := (W_X5_at h a cI cJ cZ v_thrown_j102 v_made v_of v_heart v_width v_sheets v_covered)) (w1 := fun (u : Unit) => (W_X5_at h a cI cJ cZ v_thrown_j102 v_made v_of v_heart v_width v_sheets v_covered)) (X' := fun (u : Unit) => (W_X5_joints h a cI cJ cZ v_thrown_j102 v_made v_of v_heart v_width v_sheets v_covered)) hP hD hS hA [0, 1] [] [0, 1] rfl rfl (by decide) (by decide) (fun u => rfl) (by decide) (va_runV (As := [.int (x2_j102 - 1), .int x3_j102]) (rest := [.int s1_j102, .int s0_j102]) ⟨hx, hb, hml, hown, hts⟩ (c_X5_at l D cI cJ cZ cO h a H.size v_thrown_j102 v_made v_of v_heart v_width v_sheets v_covered (x2_j102 - 1) x3_j102 _ hw) (cwV 2 hts gX5_joints_X5_at rfl rfl rfl (by decide +kernel) ⟨Nat.le_of_ble_eq_true rfl, Nat.le_of_ble_eq_true rfl⟩) (preV (X := (W_X5_joints h a cI cJ cZ v_thrown_j102 v_made v_of v_heart v_width v_sheets v_covered)) (pl := []) (cx := (W_X5_at h a cI cJ cZ v_thrown_j102 v_made v_of v_heart v_width v_sheets v_covered)) (qb := 0) (ci := 6) hK hE hP hD [0, 1] (by decide) rfl rfl rfl) rfl rfl hl.1 rfl (lv_room (Nat.le_of_ble_eq_true rfl)) dX5_joints_107 ⟨Nat.zero_le _, Nat.zero_le _⟩) (fun r_107 _ H locs hw hP hD hS => ?_)
        try dsimp only at hw
        have hP : va_P D vwCl (W_X5_joints h a cI cJ cZ v_thrown_j102 v_made v_of v_heart v_width v_sheets v_covered) H := hP
        have hD : va_D A (W_X5_joints h a cI cJ cZ v_thrown_j102 v_made v_of v_heart v_width v_sheets v_covered) := hD
        refine lv_aload_n hx hb dX5_joints_110 rfl (lv_at hl 0 rfl) ?_
        refine lv_iload_n hx hb dX5_joints_111 rfl (lv_at hl 2 rfl) ?_
        refine lv_iload_n hx hb dX5_joints_112 rfl (lv_at hl 3 rfl) ?_
        refine af_i (X := (W_X5_joints h a cI cJ cZ v_thrown_j102 v_made v_of v_heart v_width v_sheets v_covered)) (pl := []) (cx := (W_X5_at h a cI cJ cZ v_thrown_j102 v_made v_of v_heart v_width v_sheets v_covered)) (w1 := fun (u : Unit) => (W_X5_at h a cI cJ cZ v_thrown_j102 v_made v_of v_heart v_width v_sheets v_covered)) (X' := fun (u : Unit) => (W_X5_joints h a cI cJ cZ v_thrown_j102 v_made v_of v_heart v_width v_sheets v_covered)) hP hD hS hA [0, 1] [] [0, 1] rfl rfl (by decide) (by decide) (fun u => rfl) (by decide) (va_runV (As := [.int x2_j102, .int x3_j102]) (rest := [.int r_107, .int s1_j102, .int s0_j102]) ⟨hx, hb, hml, hown, hts⟩ (c_X5_at l D cI cJ cZ cO h a H.size v_thrown_j102 v_made v_of v_heart v_width v_sheets v_covered x2_j102 x3_j102 _ hw) (cwV 2 hts gX5_joints_X5_at rfl rfl rfl (by decide +kernel) ⟨Nat.le_of_ble_eq_true rfl, Nat.le_of_ble_eq_true rfl⟩) (preV (X := (W_X5_joints h a cI cJ cZ v_thrown_j102 v_made v_of v_heart v_width v_sheets v_covered)) (pl := []) (cx := (W_X5_at h a cI cJ cZ v_thrown_j102 v_made v_of v_heart v_width v_sheets v_covered)) (qb := 0) (ci := 6) hK hE hP hD [0, 1] (by decide) rfl rfl rfl) rfl rfl hl.1 rfl (lv_room (Nat.le_of_ble_eq_true rfl)) dX5_joints_113 ⟨Nat.zero_le _, Nat.zero_le _⟩) (fun r_113 _ H locs hw hP hD hS => ?_)
        try dsimp only at hw
        have hP : va_P D vwCl (W_X5_joints h a cI cJ cZ v_thrown_j102 v_made v_of v_heart v_width v_sheets v_covered) H := hP
        have hD : va_D A (W_X5_joints h a cI cJ cZ v_thrown_j102 v_made v_of v_heart v_width v_sheets v_covered) := hD
        refine lv_icmp_eq (tgt := 123) hx hb dX5_joints_116 (by decide) (fun c116 => ?_) (fun c116 => ?_)
        · have hw := hw.1 c116
          refine lv_iconst (v := 0) hx hb dX5_joints_123 (by decide) ?_
          exact J124 s0_j102 s1_j102 0 x1_j102 x2_j102 x3_j102 v_thrown_j102 hw _ _ ls hP hD hS (lv_sub hl [0, 1, 2, 3] rfl)
        · have hw := hw.2 c116
          refine lv_iconst (v := 1) hx hb dX5_joints_119 (by decide) ?_
          refine lv_goto (tgt := 124) hx hb dX5_joints_120 (by decide) ?_
          exact J124 s0_j102 s1_j102 1 x1_j102 x2_j102 x3_j102 v_thrown_j102 hw _ _ ls hP hD hS (lv_sub hl [0, 1, 2, 3] rfl)
      have J71 : ∀ (s0_j71 : Int32) (s1_j71 : Int32) (x1_j71 : Int32) (x2_j71 : Int32) (x3_j71 : Int32) (v_thrown_j71 : Int32) , wp_X5_joints_71 v_thrown v_of post (fun b0 b1 b2 => K9 (b0, b1, b2)) (fun b0 b1 b2 b3 => K17 (b0, b1, b2, b3)) s0_j71 s1_j71 x1_j71 x2_j71 x3_j71 v_thrown_j71 → ∀ (H : Heap) (locs : List Loc) (ls : Array Slot), va_P D vwCl (W_X5_joints h a cI cJ cZ v_thrown_j71 v_made v_of v_heart v_width v_sheets v_covered) H → va_D A (W_X5_joints h a cI cJ cZ v_thrown_j71 v_made v_of v_heart v_width v_sheets v_covered) → va_S A s.heap H locs → lv_has ls 5 [(0, .ref h), (1, .int x1_j71), (2, .int x2_j71), (3, .int x3_j71)] → W p l e rm_X5_joints s m args below meth c H locs 0 0 QQ (F0 m 71 ls [.int s1_j71, .int s0_j71]) := by
        intro s0_j71 s1_j71 x1_j71 x2_j71 x3_j71 v_thrown_j71 hw H locs ls hP hD hS hl
        unfold wp_X5_joints_71 at hw
        refine lv_iadd hx hb dX5_joints_71 ?_
        refine lv_istore (lv' := [(4, .int (s0_j71 + s1_j71)), (0, .ref h), (1, .int x1_j71), (2, .int x2_j71), (3, .int x3_j71)]) hx hb dX5_joints_72 hl (by decide) rfl (fun ls hl => ?_)
        refine lv_iload hx hb dX5_joints_74 (lv_at hl 0 rfl) ?_
        refine lv_aload_n hx hb dX5_joints_76 rfl (lv_at hl 1 rfl) ?_
        refine lv_iload_n hx hb dX5_joints_77 rfl (lv_at hl 3 rfl) ?_
        refine lv_iconst (v := 1) hx hb dX5_joints_78 (by decide) ?_
        refine lv_isub hx hb dX5_joints_79 ?_
        refine lv_iload_n hx hb dX5_joints_80 rfl (lv_at hl 4 rfl) ?_
        refine lv_iconst (v := 1) hx hb dX5_joints_81 (by decide) ?_
        refine lv_isub hx hb dX5_joints_82 ?_
        refine af_i (X := (W_X5_joints h a cI cJ cZ v_thrown_j71 v_made v_of v_heart v_width v_sheets v_covered)) (pl := []) (cx := (W_X5_at h a cI cJ cZ v_thrown_j71 v_made v_of v_heart v_width v_sheets v_covered)) (w1 := fun (u : Unit) => (W_X5_at h a cI cJ cZ v_thrown_j71 v_made v_of v_heart v_width v_sheets v_covered)) (X' := fun (u : Unit) => (W_X5_joints h a cI cJ cZ v_thrown_j71 v_made v_of v_heart v_width v_sheets v_covered)) hP hD hS hA [0, 1] [] [0, 1] rfl rfl (by decide) (by decide) (fun u => rfl) (by decide) (va_runV (As := [.int (x2_j71 - 1), .int (x3_j71 - 1)]) (rest := [.int (s0_j71 + s1_j71)]) ⟨hx, hb, hml, hown, hts⟩ (c_X5_at l D cI cJ cZ cO h a H.size v_thrown_j71 v_made v_of v_heart v_width v_sheets v_covered (x2_j71 - 1) (x3_j71 - 1) _ hw) (cwV 2 hts gX5_joints_X5_at rfl rfl rfl (by decide +kernel) ⟨Nat.le_of_ble_eq_true rfl, Nat.le_of_ble_eq_true rfl⟩) (preV (X := (W_X5_joints h a cI cJ cZ v_thrown_j71 v_made v_of v_heart v_width v_sheets v_covered)) (pl := []) (cx := (W_X5_at h a cI cJ cZ v_thrown_j71 v_made v_of v_heart v_width v_sheets v_covered)) (qb := 0) (ci := 6) hK hE hP hD [0, 1] (by decide) rfl rfl rfl) rfl rfl hl.1 rfl (lv_room (Nat.le_of_ble_eq_true rfl)) dX5_joints_83 ⟨Nat.zero_le _, Nat.zero_le _⟩) (fun r_83 _ H locs hw hP hD hS => ?_)
        try dsimp only at hw
        have hP : va_P D vwCl (W_X5_joints h a cI cJ cZ v_thrown_j71 v_made v_of v_heart v_width v_sheets v_covered) H := hP
        have hD : va_D A (W_X5_joints h a cI cJ cZ v_thrown_j71 v_made v_of v_heart v_width v_sheets v_covered) := hD
        refine lv_aload_n hx hb dX5_joints_86 rfl (lv_at hl 1 rfl) ?_
        refine lv_iload_n hx hb dX5_joints_87 rfl (lv_at hl 3 rfl) ?_
        refine lv_iload_n hx hb dX5_joints_88 rfl (lv_at hl 4 rfl) ?_
        refine lv_iconst (v := 1) hx hb dX5_joints_89 (by decide) ?_
        refine lv_isub hx hb dX5_joints_90 ?_
        refine af_i (X := (W_X5_joints h a cI cJ cZ v_thrown_j71 v_made v_of v_heart v_width v_sheets v_covered)) (pl := []) (cx := (W_X5_at h a cI cJ cZ v_thrown_j71 v_made v_of v_heart v_width v_sheets v_covered)) (w1 := fun (u : Unit) => (W_X5_at h a cI cJ cZ v_thrown_j71 v_made v_of v_heart v_width v_sheets v_covered)) (X' := fun (u : Unit) => (W_X5_joints h a cI cJ cZ v_thrown_j71 v_made v_of v_heart v_width v_sheets v_covered)) hP hD hS hA [0, 1] [] [0, 1] rfl rfl (by decide) (by decide) (fun u => rfl) (by decide) (va_runV (As := [.int x2_j71, .int (x3_j71 - 1)]) (rest := [.int r_83, .int (s0_j71 + s1_j71)]) ⟨hx, hb, hml, hown, hts⟩ (c_X5_at l D cI cJ cZ cO h a H.size v_thrown_j71 v_made v_of v_heart v_width v_sheets v_covered x2_j71 (x3_j71 - 1) _ hw) (cwV 2 hts gX5_joints_X5_at rfl rfl rfl (by decide +kernel) ⟨Nat.le_of_ble_eq_true rfl, Nat.le_of_ble_eq_true rfl⟩) (preV (X := (W_X5_joints h a cI cJ cZ v_thrown_j71 v_made v_of v_heart v_width v_sheets v_covered)) (pl := []) (cx := (W_X5_at h a cI cJ cZ v_thrown_j71 v_made v_of v_heart v_width v_sheets v_covered)) (qb := 0) (ci := 6) hK hE hP hD [0, 1] (by decide) rfl rfl rfl) rfl rfl hl.1 rfl (lv_room (Nat.le_of_ble_eq_true rfl)) dX5_joints_91 ⟨Nat.zero_le _, Nat.zero_le _⟩) (fun r_91 _ H locs hw hP hD hS => ?_)
        try dsimp only at hw
        have hP : va_P D vwCl (W_X5_joints h a cI cJ cZ v_thrown_j71 v_made v_of v_heart v_width v_sheets v_covered) H := hP
        have hD : va_D A (W_X5_joints h a cI cJ cZ v_thrown_j71 v_made v_of v_heart v_width v_sheets v_covered) := hD
        refine lv_icmp_eq (tgt := 101) hx hb dX5_joints_94 (by decide) (fun c94 => ?_) (fun c94 => ?_)
        · have hw := hw.1 c94
          refine lv_iconst (v := 0) hx hb dX5_joints_101 (by decide) ?_
          exact J102 (s0_j71 + s1_j71) 0 x1_j71 x2_j71 x3_j71 v_thrown_j71 hw _ _ ls hP hD hS (lv_sub hl [1, 2, 3, 4] rfl)
        · have hw := hw.2 c94
          refine lv_iconst (v := 1) hx hb dX5_joints_97 (by decide) ?_
          refine lv_goto (tgt := 102) hx hb dX5_joints_98 (by decide) ?_
          exact J102 (s0_j71 + s1_j71) 1 x1_j71 x2_j71 x3_j71 v_thrown_j71 hw _ _ ls hP hD hS (lv_sub hl [1, 2, 3, 4] rfl)
      have J49 : ∀ (s0_j49 : Int32) (x1_j49 : Int32) (x2_j49 : Int32) (x3_j49 : Int32) (v_thrown_j49 : Int32) , wp_X5_joints_49 v_thrown v_of post (fun b0 b1 b2 => K9 (b0, b1, b2)) (fun b0 b1 b2 b3 => K17 (b0, b1, b2, b3)) s0_j49 x1_j49 x2_j49 x3_j49 v_thrown_j49 → ∀ (H : Heap) (locs : List Loc) (ls : Array Slot), va_P D vwCl (W_X5_joints h a cI cJ cZ v_thrown_j49 v_made v_of v_heart v_width v_sheets v_covered) H → va_D A (W_X5_joints h a cI cJ cZ v_thrown_j49 v_made v_of v_heart v_width v_sheets v_covered) → va_S A s.heap H locs → lv_has ls 5 [(0, .ref h), (1, .int x1_j49), (2, .int x2_j49), (3, .int x3_j49)] → W p l e rm_X5_joints s m args below meth c H locs 0 0 QQ (F0 m 49 ls [.int s0_j49]) := by
        intro s0_j49 x1_j49 x2_j49 x3_j49 v_thrown_j49 hw H locs ls hP hD hS hl
        unfold wp_X5_joints_49 at hw
        refine lv_aload_n hx hb dX5_joints_49 rfl (lv_at hl 0 rfl) ?_
        refine lv_iload_n hx hb dX5_joints_50 rfl (lv_at hl 2 rfl) ?_
        refine lv_iload_n hx hb dX5_joints_51 rfl (lv_at hl 3 rfl) ?_
        refine lv_iconst (v := 1) hx hb dX5_joints_52 (by decide) ?_
        refine lv_isub hx hb dX5_joints_53 ?_
        refine af_i (X := (W_X5_joints h a cI cJ cZ v_thrown_j49 v_made v_of v_heart v_width v_sheets v_covered)) (pl := []) (cx := (W_X5_at h a cI cJ cZ v_thrown_j49 v_made v_of v_heart v_width v_sheets v_covered)) (w1 := fun (u : Unit) => (W_X5_at h a cI cJ cZ v_thrown_j49 v_made v_of v_heart v_width v_sheets v_covered)) (X' := fun (u : Unit) => (W_X5_joints h a cI cJ cZ v_thrown_j49 v_made v_of v_heart v_width v_sheets v_covered)) hP hD hS hA [0, 1] [] [0, 1] rfl rfl (by decide) (by decide) (fun u => rfl) (by decide) (va_runV (As := [.int x2_j49, .int (x3_j49 - 1)]) (rest := [.int s0_j49]) ⟨hx, hb, hml, hown, hts⟩ (c_X5_at l D cI cJ cZ cO h a H.size v_thrown_j49 v_made v_of v_heart v_width v_sheets v_covered x2_j49 (x3_j49 - 1) _ hw) (cwV 2 hts gX5_joints_X5_at rfl rfl rfl (by decide +kernel) ⟨Nat.le_of_ble_eq_true rfl, Nat.le_of_ble_eq_true rfl⟩) (preV (X := (W_X5_joints h a cI cJ cZ v_thrown_j49 v_made v_of v_heart v_width v_sheets v_covered)) (pl := []) (cx := (W_X5_at h a cI cJ cZ v_thrown_j49 v_made v_of v_heart v_width v_sheets v_covered)) (qb := 0) (ci := 6) hK hE hP hD [0, 1] (by decide) rfl rfl rfl) rfl rfl hl.1 rfl (lv_room (Nat.le_of_ble_eq_true rfl)) dX5_joints_54 ⟨Nat.zero_le _, Nat.zero_le _⟩) (fun r_54 _ H locs hw hP hD hS => ?_)
        try dsimp only at hw
        have hP : va_P D vwCl (W_X5_joints h a cI cJ cZ v_thrown_j49 v_made v_of v_heart v_width v_sheets v_covered) H := hP
        have hD : va_D A (W_X5_joints h a cI cJ cZ v_thrown_j49 v_made v_of v_heart v_width v_sheets v_covered) := hD
        refine lv_aload_n hx hb dX5_joints_57 rfl (lv_at hl 0 rfl) ?_
        refine lv_iload_n hx hb dX5_joints_58 rfl (lv_at hl 2 rfl) ?_
        refine lv_iload_n hx hb dX5_joints_59 rfl (lv_at hl 3 rfl) ?_
        refine af_i (X := (W_X5_joints h a cI cJ cZ v_thrown_j49 v_made v_of v_heart v_width v_sheets v_covered)) (pl := []) (cx := (W_X5_at h a cI cJ cZ v_thrown_j49 v_made v_of v_heart v_width v_sheets v_covered)) (w1 := fun (u : Unit) => (W_X5_at h a cI cJ cZ v_thrown_j49 v_made v_of v_heart v_width v_sheets v_covered)) (X' := fun (u : Unit) => (W_X5_joints h a cI cJ cZ v_thrown_j49 v_made v_of v_heart v_width v_sheets v_covered)) hP hD hS hA [0, 1] [] [0, 1] rfl rfl (by decide) (by decide) (fun u => rfl) (by decide) (va_runV (As := [.int x2_j49, .int x3_j49]) (rest := [.int r_54, .int s0_j49]) ⟨hx, hb, hml, hown, hts⟩ (c_X5_at l D cI cJ cZ cO h a H.size v_thrown_j49 v_made v_of v_heart v_width v_sheets v_covered x2_j49 x3_j49 _ hw) (cwV 2 hts gX5_joints_X5_at rfl rfl rfl (by decide +kernel) ⟨Nat.le_of_ble_eq_true rfl, Nat.le_of_ble_eq_true rfl⟩) (preV (X := (W_X5_joints h a cI cJ cZ v_thrown_j49 v_made v_of v_heart v_width v_sheets v_covered)) (pl := []) (cx := (W_X5_at h a cI cJ cZ v_thrown_j49 v_made v_of v_heart v_width v_sheets v_covered)) (qb := 0) (ci := 6) hK hE hP hD [0, 1] (by decide) rfl rfl rfl) rfl rfl hl.1 rfl (lv_room (Nat.le_of_ble_eq_true rfl)) dX5_joints_60 ⟨Nat.zero_le _, Nat.zero_le _⟩) (fun r_60 _ H locs hw hP hD hS => ?_)
        try dsimp only at hw
        have hP : va_P D vwCl (W_X5_joints h a cI cJ cZ v_thrown_j49 v_made v_of v_heart v_width v_sheets v_covered) H := hP
        have hD : va_D A (W_X5_joints h a cI cJ cZ v_thrown_j49 v_made v_of v_heart v_width v_sheets v_covered) := hD
        refine lv_icmp_eq (tgt := 70) hx hb dX5_joints_63 (by decide) (fun c63 => ?_) (fun c63 => ?_)
        · have hw := hw.1 c63
          refine lv_iconst (v := 0) hx hb dX5_joints_70 (by decide) ?_
          exact J71 s0_j49 0 x1_j49 x2_j49 x3_j49 v_thrown_j49 hw _ _ ls hP hD hS (lv_sub hl [0, 1, 2, 3] rfl)
        · have hw := hw.2 c63
          refine lv_iconst (v := 1) hx hb dX5_joints_66 (by decide) ?_
          refine lv_goto (tgt := 71) hx hb dX5_joints_67 (by decide) ?_
          exact J71 s0_j49 1 x1_j49 x2_j49 x3_j49 v_thrown_j49 hw _ _ ls hP hD hS (lv_sub hl [0, 1, 2, 3] rfl)
      unfold wp_X5_joints_17 at hw
      refine lv_iload_n hx hb dX5_joints_17 rfl (lv_at hl 3 rfl) ?_
      refine lv_bipush (v := 16) hx hb dX5_joints_18 (by decide) ?_
      refine lv_icmp_gt (tgt := 148) hx hb dX5_joints_20 (by decide) (fun c20 => ?_) (fun c20 => ?_)
      · have hw := hw.1 c20
        refine lv_iinc (v := (x2_j17 + 1)) (lv' := [(2, .int (x2_j17 + 1)), (0, .ref h), (1, .int x1_j17), (3, .int x3_j17)]) hx hb dX5_joints_148 hl (k := 2) rfl rfl (by decide) rfl (fun ls hl => ?_)
        refine lv_goto (tgt := 9) hx hb dX5_joints_151 (by decide) ?_
        exact ih9 (x1_j17, (x2_j17 + 1), v_thrown_j17) hw _ _ ls hP hD hS (lv_sub hl [1, 2, 0] rfl)
      · have hw := hw.2 c20
        refine lv_aload_n hx hb dX5_joints_23 rfl (lv_at hl 0 rfl) ?_
        refine lv_iload_n hx hb dX5_joints_24 rfl (lv_at hl 2 rfl) ?_
        refine lv_iconst (v := 1) hx hb dX5_joints_25 (by decide) ?_
        refine lv_isub hx hb dX5_joints_26 ?_
        refine lv_iload_n hx hb dX5_joints_27 rfl (lv_at hl 3 rfl) ?_
        refine lv_iconst (v := 1) hx hb dX5_joints_28 (by decide) ?_
        refine lv_isub hx hb dX5_joints_29 ?_
        refine af_i (X := (W_X5_joints h a cI cJ cZ v_thrown_j17 v_made v_of v_heart v_width v_sheets v_covered)) (pl := []) (cx := (W_X5_at h a cI cJ cZ v_thrown_j17 v_made v_of v_heart v_width v_sheets v_covered)) (w1 := fun (u : Unit) => (W_X5_at h a cI cJ cZ v_thrown_j17 v_made v_of v_heart v_width v_sheets v_covered)) (X' := fun (u : Unit) => (W_X5_joints h a cI cJ cZ v_thrown_j17 v_made v_of v_heart v_width v_sheets v_covered)) hP hD hS hA [0, 1] [] [0, 1] rfl rfl (by decide) (by decide) (fun u => rfl) (by decide) (va_runV (As := [.int (x2_j17 - 1), .int (x3_j17 - 1)]) (rest := []) ⟨hx, hb, hml, hown, hts⟩ (c_X5_at l D cI cJ cZ cO h a H.size v_thrown_j17 v_made v_of v_heart v_width v_sheets v_covered (x2_j17 - 1) (x3_j17 - 1) _ hw) (cwV 2 hts gX5_joints_X5_at rfl rfl rfl (by decide +kernel) ⟨Nat.le_of_ble_eq_true rfl, Nat.le_of_ble_eq_true rfl⟩) (preV (X := (W_X5_joints h a cI cJ cZ v_thrown_j17 v_made v_of v_heart v_width v_sheets v_covered)) (pl := []) (cx := (W_X5_at h a cI cJ cZ v_thrown_j17 v_made v_of v_heart v_width v_sheets v_covered)) (qb := 0) (ci := 6) hK hE hP hD [0, 1] (by decide) rfl rfl rfl) rfl rfl hl.1 rfl (lv_room (Nat.le_of_ble_eq_true rfl)) dX5_joints_30 ⟨Nat.zero_le _, Nat.zero_le _⟩) (fun r_30 _ H locs hw hP hD hS => ?_)
        try dsimp only at hw
        have hP : va_P D vwCl (W_X5_joints h a cI cJ cZ v_thrown_j17 v_made v_of v_heart v_width v_sheets v_covered) H := hP
        have hD : va_D A (W_X5_joints h a cI cJ cZ v_thrown_j17 v_made v_of v_heart v_width v_sheets v_covered) := hD
        refine lv_aload_n hx hb dX5_joints_33 rfl (lv_at hl 0 rfl) ?_
        refine lv_iload_n hx hb dX5_joints_34 rfl (lv_at hl 2 rfl) ?_
        refine lv_iconst (v := 1) hx hb dX5_joints_35 (by decide) ?_
        refine lv_isub hx hb dX5_joints_36 ?_
        refine lv_iload_n hx hb dX5_joints_37 rfl (lv_at hl 3 rfl) ?_
        refine af_i (X := (W_X5_joints h a cI cJ cZ v_thrown_j17 v_made v_of v_heart v_width v_sheets v_covered)) (pl := []) (cx := (W_X5_at h a cI cJ cZ v_thrown_j17 v_made v_of v_heart v_width v_sheets v_covered)) (w1 := fun (u : Unit) => (W_X5_at h a cI cJ cZ v_thrown_j17 v_made v_of v_heart v_width v_sheets v_covered)) (X' := fun (u : Unit) => (W_X5_joints h a cI cJ cZ v_thrown_j17 v_made v_of v_heart v_width v_sheets v_covered)) hP hD hS hA [0, 1] [] [0, 1] rfl rfl (by decide) (by decide) (fun u => rfl) (by decide) (va_runV (As := [.int (x2_j17 - 1), .int x3_j17]) (rest := [.int r_30]) ⟨hx, hb, hml, hown, hts⟩ (c_X5_at l D cI cJ cZ cO h a H.size v_thrown_j17 v_made v_of v_heart v_width v_sheets v_covered (x2_j17 - 1) x3_j17 _ hw) (cwV 2 hts gX5_joints_X5_at rfl rfl rfl (by decide +kernel) ⟨Nat.le_of_ble_eq_true rfl, Nat.le_of_ble_eq_true rfl⟩) (preV (X := (W_X5_joints h a cI cJ cZ v_thrown_j17 v_made v_of v_heart v_width v_sheets v_covered)) (pl := []) (cx := (W_X5_at h a cI cJ cZ v_thrown_j17 v_made v_of v_heart v_width v_sheets v_covered)) (qb := 0) (ci := 6) hK hE hP hD [0, 1] (by decide) rfl rfl rfl) rfl rfl hl.1 rfl (lv_room (Nat.le_of_ble_eq_true rfl)) dX5_joints_38 ⟨Nat.zero_le _, Nat.zero_le _⟩) (fun r_38 _ H locs hw hP hD hS => ?_)
        try dsimp only at hw
        have hP : va_P D vwCl (W_X5_joints h a cI cJ cZ v_thrown_j17 v_made v_of v_heart v_width v_sheets v_covered) H := hP
        have hD : va_D A (W_X5_joints h a cI cJ cZ v_thrown_j17 v_made v_of v_heart v_width v_sheets v_covered) := hD
        refine lv_icmp_eq (tgt := 48) hx hb dX5_joints_41 (by decide) (fun c41 => ?_) (fun c41 => ?_)
        · have hw := hw.1 c41
          refine lv_iconst (v := 0) hx hb dX5_joints_48 (by decide) ?_
          exact J49 0 x1_j17 x2_j17 x3_j17 v_thrown_j17 hw _ _ ls hP hD hS (lv_sub hl [0, 1, 2, 3] rfl)
        · have hw := hw.2 c41
          refine lv_iconst (v := 1) hx hb dX5_joints_44 (by decide) ?_
          refine lv_goto (tgt := 49) hx hb dX5_joints_45 (by decide) ?_
          exact J49 1 x1_j17 x2_j17 x3_j17 v_thrown_j17 hw _ _ ls hP hD hS (lv_sub hl [0, 1, 2, 3] rfl)
    unfold wp_X5_joints_9 at hw
    refine lv_iload_n hx hb dX5_joints_9 rfl (lv_at hl 2 rfl) ?_
    refine lv_bipush (v := 16) hx hb dX5_joints_10 (by decide) ?_
    refine lv_icmp_gt (tgt := 154) hx hb dX5_joints_12 (by decide) (fun c12 => ?_) (fun c12 => ?_)
    · have hw := hw.1 c12
      refine lv_iload_n hx hb dX5_joints_154 rfl (lv_at hl 1 rfl) ?_
      exact RT x1_j9 v_thrown_j9 _ _ _ _ dX5_joints_155 hw hP hD hS
    · have hw := hw.2 c12
      refine lv_iconst (v := 0) hx hb dX5_joints_15 (by decide) ?_
      refine lv_istore_n (lv' := [(3, .int 0), (0, .ref h), (1, .int x1_j9), (2, .int x2_j9)]) hx hb dX5_joints_16 rfl hl (by decide) rfl (fun ls hl => ?_)
      exact L17 (x1_j9, x2_j9, 0, v_thrown_j9) hw _ _ ls hP hD hS (lv_sub hl [1, 2, 3, 0] rfl)
  refine lv_aload_n hx hb dX5_joints_0 rfl (lv_at hl 0 rfl) ?_
  refine lv_iconst (v := 0) hx hb dX5_joints_1 (by decide) ?_
  refine lv_topi (fun v_thrown_t2 ev_thrown_t2 => ?_)
  have hw := hw v_thrown_t2 ev_thrown_t2
  refine va_put (D := D) (ci := 6) (v := .int v_thrown_t2) (ty := .int) (C := RX5) (T := TX5) (N := 24) hx hb hts iRX5 tyX5 tyX5_ok nmX5 hown hK hP hD hS 0 rfl rfl 0 (by decide) (hts (.fieldLink RX5 79 "LeadlightModel" "thrown" "I") (List.mem_of_getElem? (i := 1) rfl)) (fun _ h9 => h9) rfl (by decide +kernel) rfl rfl (Nat.le_of_ble_eq_true rfl) dX5_joints_2 (fun H locs hP hD hS => ?_)
  have hP : va_P D vwCl (W_X5_joints h a cI cJ cZ v_thrown_t2 v_made v_of v_heart v_width v_sheets v_covered) H := hP
  have hD : va_D A (W_X5_joints h a cI cJ cZ v_thrown_t2 v_made v_of v_heart v_width v_sheets v_covered) := hD
  refine lv_iconst (v := 0) hx hb dX5_joints_5 (by decide) ?_
  refine lv_istore_n (lv' := [(1, .int 0), (0, .ref h)]) hx hb dX5_joints_6 rfl hl (by decide) rfl (fun ls hl => ?_)
  refine lv_iconst (v := 0) hx hb dX5_joints_7 (by decide) ?_
  refine lv_istore_n (lv' := [(2, .int 0), (1, .int 0), (0, .ref h)]) hx hb dX5_joints_8 rfl hl (by decide) rfl (fun ls hl => ?_)
  exact L9 (0, 0, v_thrown_t2) hw _ _ ls hP hD hS (lv_sub hl [2, 1, 0] rfl)
abbrev rm_X5_weight : Room := { frames := 3, cells := 0, slots := 0, locals := 67 }
abbrev W_X5_weight (h : Nat) (a : Nat → Nat) (cI cJ cZ : ClassId) (v_thrown : Int32) (v_made : Int32) (v_of : Nat → Int32) (v_heart : Int32) (v_width : Int32) (v_sheets : Int32) (v_covered : Int32) : va_W := [(h, .inr (6, [.int v_thrown, .int v_made, .ref (a 2), .ref (a 3), .ref (a 4), .ref (a 5), .ref (a 6), .ref (a 7), .ref (a 8), .ref (a 9), .ref (a 10), .ref (a 11), .int v_heart, .int v_width, .ref (a 14), .ref (a 15), .ref (a 16), .ref (a 17), .ref (a 18), .ref (a 19), .ref (a 20), .ref (a 21), .int v_sheets, .int v_covered])), ((a 2), .inl (cI, 256, .inl v_of))]
def wp_X5_weight (v_thrown : Int32) (v_of : Nat → Int32) (v_heart : Int32) (post : Int32 → Int32 → Prop) : Prop := ∀ v_thrown_t2 : Int32, v_thrown_t2 = 0 → wp_X5_length v_of (fun r_13 => post (768 + (v_heart * r_13)) v_thrown_t2)
set_option maxHeartbeats 4000000 in
set_option maxRecDepth 100000 in
theorem c_X5_weight (l : Launch) (D : va_G) (cI cJ cZ cO : ClassId) (h : Nat) (a : Nat → Nat) (sz : Nat) (v_thrown : Int32) (v_made : Int32) (v_of : Nat → Int32) (v_heart : Int32) (v_width : Int32) (v_sheets : Int32) (v_covered : Int32) (post : Int32 → Int32 → Prop) (hw : wp_X5_weight v_thrown v_of v_heart post) : Met l yX5_weight wsX5_weight rm_X5_weight (va_Pc [.ref h] (PRE D cI cJ cZ cO (W_X5_weight h a cI cJ cZ v_thrown v_made v_of v_heart v_width v_sheets v_covered) sz)) (va_Qi (fun r (u : Int32) => post r u) (fun u t => POST D (va_A (W_X5_weight h a cI cJ cZ v_thrown v_made v_of v_heart v_width v_sheets v_covered) sz) (W_X5_weight h a cI cJ cZ u v_made v_of v_heart v_width v_sheets v_covered) t) (va_A (W_X5_weight h a cI cJ cZ v_thrown v_made v_of v_heart v_width v_sheets v_covered) sz)) 0 0 (va_A (W_X5_weight h a cI cJ cZ v_thrown v_made v_of v_heart v_width v_sheets v_covered) sz) := by
  refine met_go (cc := cX5_weight) (maxL := 1) (ret := some .int) RX5 rfl (by decide) rfl (Nat.le_of_ble_eq_true rfl) ?_
  intro p e s m args below meth c ls hx hb hr hts hown hlocks hin hml hsz hP hK hE hD hA hS hl
  have iRX5 : ∀ w ∈ u_ws RX5 TX5 24, w ∈ wsX5_weight := mem_seg 16 24 rfl
  generalize va_A (W_X5_weight h a cI cJ cZ v_thrown v_made v_of v_heart v_width v_sheets v_covered) sz = A at hD hA hS ⊢
  have RT : ∀ (v : Int32) (u : Int32) (H : Heap) (locs : List Loc) (pc : Nat) (ls : Array Slot), decode cX5_weight pc = .ok (.ireturn, 1) → post v u → va_P D vwCl (W_X5_weight h a cI cJ cZ u v_made v_of v_heart v_width v_sheets v_covered) H → va_D A (W_X5_weight h a cI cJ cZ u v_made v_of v_heart v_width v_sheets v_covered) → va_S A s.heap H locs → W p l e rm_X5_weight s m args below meth c H locs 0 0 (MQ below (va_Qi (fun r (u : Int32) => post r u) (fun u t => POST D A (W_X5_weight h a cI cJ cZ u v_made v_of v_heart v_width v_sheets v_covered) t) A) args s 0 0 A) (F0 m pc ls [.int v]) := fun v u H locs pc ls d g1 g2 g3 g4 => rt_i (Wf := fun u => (W_X5_weight h a cI cJ cZ u v_made v_of v_heart v_width v_sheets v_covered)) u hx hb hr hlocks g1 g2 g3 g4 d
  generalize (MQ below (va_Qi (fun r (u : Int32) => post r u) (fun u t => POST D A (W_X5_weight h a cI cJ cZ u v_made v_of v_heart v_width v_sheets v_covered) t) A) args s 0 0 A) = QQ at RT ⊢
  have hl : lv_has ls 1 [(0, .ref h)] := hl
  have hP : va_P D vwCl (W_X5_weight h a cI cJ cZ v_thrown v_made v_of v_heart v_width v_sheets v_covered) s.heap := hP
  unfold wp_X5_weight at hw
  suffices GO : ∀ (H : Heap) (locs : List Loc), va_P D vwCl (W_X5_weight h a cI cJ cZ v_thrown v_made v_of v_heart v_width v_sheets v_covered) H → va_S A s.heap H locs → W p l e rm_X5_weight s m args below meth c H locs 0 0 QQ (F0 m 0 ls []) from GO _ _ hP hS
  clear hsz hP hS
  intro H locs hP hS
  refine lv_aload_n hx hb dX5_weight_0 rfl (lv_at hl 0 rfl) ?_
  refine lv_iconst (v := 0) hx hb dX5_weight_1 (by decide) ?_
  refine lv_topi (fun v_thrown_t2 ev_thrown_t2 => ?_)
  have hw := hw v_thrown_t2 ev_thrown_t2
  refine va_put (D := D) (ci := 6) (v := .int v_thrown_t2) (ty := .int) (C := RX5) (T := TX5) (N := 24) hx hb hts iRX5 tyX5 tyX5_ok nmX5 hown hK hP hD hS 0 rfl rfl 0 (by decide) (hts (.fieldLink RX5 79 "LeadlightModel" "thrown" "I") (List.mem_of_getElem? (i := 1) rfl)) (fun _ h9 => h9) rfl (by decide +kernel) rfl rfl (Nat.le_of_ble_eq_true rfl) dX5_weight_2 (fun H locs hP hD hS => ?_)
  have hP : va_P D vwCl (W_X5_weight h a cI cJ cZ v_thrown_t2 v_made v_of v_heart v_width v_sheets v_covered) H := hP
  have hD : va_D A (W_X5_weight h a cI cJ cZ v_thrown_t2 v_made v_of v_heart v_width v_sheets v_covered) := hD
  refine lv_sipush (v := 768) hx hb dX5_weight_5 (by decide) ?_
  refine lv_aload_n hx hb dX5_weight_8 rfl (lv_at hl 0 rfl) ?_
  refine va_get (D := D) (ci := 6) (v := .int v_heart) (C := RX5) (T := TX5) (N := 24) hx hb hts iRX5 hown hK hP 0 rfl rfl 12 (by decide) (hts (.fieldLink RX5 45 "LeadlightModel" "heart" "I") (List.mem_of_getElem? (i := 2) rfl)) (fun _ h9 => h9) rfl dX5_weight_9 ?_
  refine lv_aload_n hx hb dX5_weight_12 rfl (lv_at hl 0 rfl) ?_
  refine af_i (X := (W_X5_weight h a cI cJ cZ v_thrown_t2 v_made v_of v_heart v_width v_sheets v_covered)) (pl := []) (cx := (W_X5_length h a cI cJ cZ v_thrown_t2 v_made v_of v_heart v_width v_sheets v_covered)) (w1 := fun (u : Unit) => (W_X5_length h a cI cJ cZ v_thrown_t2 v_made v_of v_heart v_width v_sheets v_covered)) (X' := fun (u : Unit) => (W_X5_weight h a cI cJ cZ v_thrown_t2 v_made v_of v_heart v_width v_sheets v_covered)) hP hD hS hA [0, 1] [] [0, 1] rfl rfl (by decide) (by decide) (fun u => rfl) (by decide) (va_runV (As := []) (rest := [.int v_heart, .int 768]) ⟨hx, hb, hml, hown, hts⟩ (c_X5_length l D cI cJ cZ cO h a H.size v_thrown_t2 v_made v_of v_heart v_width v_sheets v_covered _ hw) (cwV 0 hts gX5_weight_X5_length rfl rfl rfl (by decide +kernel) ⟨Nat.le_of_ble_eq_true rfl, Nat.le_of_ble_eq_true rfl⟩) (preV (X := (W_X5_weight h a cI cJ cZ v_thrown_t2 v_made v_of v_heart v_width v_sheets v_covered)) (pl := []) (cx := (W_X5_length h a cI cJ cZ v_thrown_t2 v_made v_of v_heart v_width v_sheets v_covered)) (qb := 0) (ci := 6) hK hE hP hD [0, 1] (by decide) rfl rfl rfl) rfl rfl hl.1 rfl (lv_room (Nat.le_of_ble_eq_true rfl)) dX5_weight_13 ⟨Nat.zero_le _, Nat.zero_le _⟩) (fun r_13 _ H locs hw hP hD hS => ?_)
  try dsimp only at hw
  have hP : va_P D vwCl (W_X5_weight h a cI cJ cZ v_thrown_t2 v_made v_of v_heart v_width v_sheets v_covered) H := hP
  have hD : va_D A (W_X5_weight h a cI cJ cZ v_thrown_t2 v_made v_of v_heart v_width v_sheets v_covered) := hD
  refine lv_imul hx hb dX5_weight_16 ?_
  refine lv_iadd hx hb dX5_weight_17 ?_
  exact RT (768 + (v_heart * r_13)) v_thrown_t2 _ _ _ _ dX5_weight_18 hw hP hD hS
abbrev rm_X5_canGoIn : Room := { frames := 2, cells := 0, slots := 0, locals := 45 }
abbrev W_X5_canGoIn (h : Nat) (a : Nat → Nat) (cI cJ cZ : ClassId) (v_thrown : Int32) (v_made : Int32) (v_of : Nat → Int32) (v_heart : Int32) (v_width : Int32) (v_isIn : Nat → Int32) (v_sheets : Int32) (v_covered : Int32) : va_W := [(h, .inr (6, [.int v_thrown, .int v_made, .ref (a 2), .ref (a 3), .ref (a 4), .ref (a 5), .ref (a 6), .ref (a 7), .ref (a 8), .ref (a 9), .ref (a 10), .ref (a 11), .int v_heart, .int v_width, .ref (a 14), .ref (a 15), .ref (a 16), .ref (a 17), .ref (a 18), .ref (a 19), .ref (a 20), .ref (a 21), .int v_sheets, .int v_covered])), ((a 2), .inl (cI, 256, .inl v_of)), ((a 18), .inl (cZ, 60, .inl v_isIn))]
def wp_X5_canGoIn_120 (v_of : Nat → Int32) (v_isIn : Nat → Int32) (p1 : Int32) (post : Int32 → Prop) (K4 : Int32 → Int32 → Prop) (s0_j120 : Int32) (x3_j120 : Int32) : Prop := K4 s0_j120 (x3_j120 + 1)
def wp_X5_canGoIn_94 (v_of : Nat → Int32) (v_isIn : Nat → Int32) (p1 : Int32) (post : Int32 → Prop) (K4 : Int32 → Int32 → Prop) (s0_j94 : Int32) (x2_j94 : Int32) (x3_j94 : Int32) : Prop := (x2_j94 = 0 → wp_X5_canGoIn_120 v_of v_isIn p1 post K4 0 x3_j94) ∧ (¬ x2_j94 = 0 → vp_in x3_j94 256 ∧ (((v_of x3_j94.toNatClampNeg) = p1 → (s0_j94 = 0 → wp_X5_canGoIn_120 v_of v_isIn p1 post K4 1 x3_j94) ∧ (¬ s0_j94 = 0 → wp_X5_canGoIn_120 v_of v_isIn p1 post K4 0 x3_j94)) ∧ (¬ (v_of x3_j94.toNatClampNeg) = p1 → wp_X5_canGoIn_120 v_of v_isIn p1 post K4 1 x3_j94)))
def wp_X5_canGoIn_57 (v_of : Nat → Int32) (v_isIn : Nat → Int32) (p1 : Int32) (post : Int32 → Prop) (K4 : Int32 → Int32 → Prop) (x2_j57 : Int32) (x3_j57 : Int32) (x5_j57 : Int32) : Prop := (x5_j57 = (-1) → wp_X5_canGoIn_94 v_of v_isIn p1 post K4 0 x2_j57 x3_j57) ∧ (¬ x5_j57 = (-1) → vp_in x5_j57 256 ∧ (((v_of x5_j57.toNatClampNeg) = p1 → wp_X5_canGoIn_94 v_of v_isIn p1 post K4 0 x2_j57 x3_j57) ∧ (¬ (v_of x5_j57.toNatClampNeg) = p1 → vp_in x5_j57 256 ∧ (vp_in (v_of x5_j57.toNatClampNeg) 60 ∧ (((v_isIn (v_of x5_j57.toNatClampNeg).toNatClampNeg) = 0 → wp_X5_canGoIn_94 v_of v_isIn p1 post K4 1 x2_j57 x3_j57) ∧ (¬ (v_isIn (v_of x5_j57.toNatClampNeg).toNatClampNeg) = 0 → wp_X5_canGoIn_94 v_of v_isIn p1 post K4 0 x2_j57 x3_j57))))))
def wp_X5_canGoIn_4 (v_of : Nat → Int32) (v_isIn : Nat → Int32) (p1 : Int32) (post : Int32 → Prop) (K4 : Int32 → Int32 → Prop) (x2_j4 : Int32) (x3_j4 : Int32) : Prop := (256 ≤ x3_j4 → (x2_j4 = 0 ∨ x2_j4 = 1) ∧ post x2_j4) ∧ (¬ 256 ≤ x3_j4 → wp_X5_beside x3_j4 1 (fun r_13 => wp_X5_beside x3_j4 2 (fun r_20 => (r_13 = (-1) → wp_X5_canGoIn_57 v_of v_isIn p1 post K4 x2_j4 x3_j4 r_20) ∧ (¬ r_13 = (-1) → vp_in r_13 256 ∧ (((v_of r_13.toNatClampNeg) = p1 → wp_X5_canGoIn_57 v_of v_isIn p1 post K4 x2_j4 x3_j4 r_20) ∧ (¬ (v_of r_13.toNatClampNeg) = p1 → vp_in r_13 256 ∧ (vp_in (v_of r_13.toNatClampNeg) 60 ∧ (((v_isIn (v_of r_13.toNatClampNeg).toNatClampNeg) = 0 → wp_X5_canGoIn_94 v_of v_isIn p1 post K4 1 x2_j4 x3_j4) ∧ (¬ (v_isIn (v_of r_13.toNatClampNeg).toNatClampNeg) = 0 → wp_X5_canGoIn_57 v_of v_isIn p1 post K4 x2_j4 x3_j4 r_20)))))))))
def lF_X5_canGoIn_4 (v_of : Nat → Int32) (v_isIn : Nat → Int32) (p1 : Int32) (post : Int32 → Prop) : ((Int32 × Int32) → Prop) → (Int32 × Int32) → Prop := fun K s => wp_X5_canGoIn_4 v_of v_isIn p1 post (fun b0 b1 => K (b0, b1)) s.1 s.2
def wp_X5_canGoIn (v_of : Nat → Int32) (v_isIn : Nat → Int32) (p1 : Int32) (post : Int32 → Prop) : Prop := lp (lF_X5_canGoIn_4 v_of v_isIn p1 post) (1, 0)
set_option maxHeartbeats 4000000 in
set_option maxRecDepth 100000 in
theorem c_X5_canGoIn (l : Launch) (D : va_G) (cI cJ cZ cO : ClassId) (h : Nat) (a : Nat → Nat) (sz : Nat) (v_thrown : Int32) (v_made : Int32) (v_of : Nat → Int32) (v_heart : Int32) (v_width : Int32) (v_isIn : Nat → Int32) (v_sheets : Int32) (v_covered : Int32) (p1 : Int32) (post : Int32 → Prop) (hw : wp_X5_canGoIn v_of v_isIn p1 post) : Met l yX5_canGoIn wsX5_canGoIn rm_X5_canGoIn (va_Pc [.ref h, .int p1] (PRE D cI cJ cZ cO (W_X5_canGoIn h a cI cJ cZ v_thrown v_made v_of v_heart v_width v_isIn v_sheets v_covered) sz)) (va_Qi (fun r (_ : Unit) => post r) (fun u t => POST D (va_A (W_X5_canGoIn h a cI cJ cZ v_thrown v_made v_of v_heart v_width v_isIn v_sheets v_covered) sz) (W_X5_canGoIn h a cI cJ cZ v_thrown v_made v_of v_heart v_width v_isIn v_sheets v_covered) t) (va_A (W_X5_canGoIn h a cI cJ cZ v_thrown v_made v_of v_heart v_width v_isIn v_sheets v_covered) sz)) 0 0 (va_A (W_X5_canGoIn h a cI cJ cZ v_thrown v_made v_of v_heart v_width v_isIn v_sheets v_covered) sz) := by
  refine met_go (cc := cX5_canGoIn) (maxL := 7) (ret := some .boolean) RX5 rfl (by decide) rfl (Nat.le_of_ble_eq_true rfl) ?_
  intro p e s m args below meth c ls hx hb hr hts hown hlocks hin hml hsz hP hK hE hD hA hS hl
  have iRX5 : ∀ w ∈ u_ws RX5 TX5 24, w ∈ wsX5_canGoIn := mem_seg 10 24 rfl
  generalize va_A (W_X5_canGoIn h a cI cJ cZ v_thrown v_made v_of v_heart v_width v_isIn v_sheets v_covered) sz = A at hD hA hS ⊢
  have RT : ∀ (v : Int32) (u : Unit) (H : Heap) (locs : List Loc) (pc : Nat) (ls : Array Slot), decode cX5_canGoIn pc = .ok (.ireturn, 1) → (v = 0 ∨ v = 1) → post v → va_P D vwCl (W_X5_canGoIn h a cI cJ cZ v_thrown v_made v_of v_heart v_width v_isIn v_sheets v_covered) H → va_D A (W_X5_canGoIn h a cI cJ cZ v_thrown v_made v_of v_heart v_width v_isIn v_sheets v_covered) → va_S A s.heap H locs → W p l e rm_X5_canGoIn s m args below meth c H locs 0 0 (MQ below (va_Qi (fun r (_ : Unit) => post r) (fun u t => POST D A (W_X5_canGoIn h a cI cJ cZ v_thrown v_made v_of v_heart v_width v_isIn v_sheets v_covered) t) A) args s 0 0 A) (F0 m pc ls [.int v]) := fun v u H locs pc ls d g0 g1 g2 g3 g4 => rt_z (Wf := fun u => (W_X5_canGoIn h a cI cJ cZ v_thrown v_made v_of v_heart v_width v_isIn v_sheets v_covered)) u hx hb hr hlocks g0 g1 g2 g3 g4 d
  generalize (MQ below (va_Qi (fun r (_ : Unit) => post r) (fun u t => POST D A (W_X5_canGoIn h a cI cJ cZ v_thrown v_made v_of v_heart v_width v_isIn v_sheets v_covered) t) A) args s 0 0 A) = QQ at RT ⊢
  have hl : lv_has ls 7 [(0, .ref h), (1, .int p1)] := hl
  have hP : va_P D vwCl (W_X5_canGoIn h a cI cJ cZ v_thrown v_made v_of v_heart v_width v_isIn v_sheets v_covered) s.heap := hP
  unfold wp_X5_canGoIn at hw
  suffices GO : ∀ (H : Heap) (locs : List Loc), va_P D vwCl (W_X5_canGoIn h a cI cJ cZ v_thrown v_made v_of v_heart v_width v_isIn v_sheets v_covered) H → va_S A s.heap H locs → W p l e rm_X5_canGoIn s m args below meth c H locs 0 0 QQ (F0 m 0 ls []) from GO _ _ hP hS
  clear hsz hP hS
  intro H locs hP hS
  have L4 : ∀ s0 : (Int32 × Int32), lp (lF_X5_canGoIn_4 v_of v_isIn p1 post) s0 → ∀ (H : Heap) (locs : List Loc) (ls : Array Slot), va_P D vwCl (W_X5_canGoIn h a cI cJ cZ v_thrown v_made v_of v_heart v_width v_isIn v_sheets v_covered) H → va_D A (W_X5_canGoIn h a cI cJ cZ v_thrown v_made v_of v_heart v_width v_isIn v_sheets v_covered) → va_S A s.heap H locs → lv_has ls 7 [(0, .ref h), (1, .int p1), (2, .int s0.1), (3, .int s0.2)] → W p l e rm_X5_canGoIn s m args below meth c H locs 0 0 QQ (F0 m 4 ls []) := by
    refine lp_elim (fun K4 ih4 s0 hw => ?_)
    obtain ⟨x2_j4, x3_j4⟩ := s0
    intro H locs ls hP hD hS hl
    have hw : wp_X5_canGoIn_4 v_of v_isIn p1 post (fun b0 b1 => K4 (b0, b1)) x2_j4 x3_j4 := hw
    have hP : va_P D vwCl (W_X5_canGoIn h a cI cJ cZ v_thrown v_made v_of v_heart v_width v_isIn v_sheets v_covered) H := hP
    have hD : va_D A (W_X5_canGoIn h a cI cJ cZ v_thrown v_made v_of v_heart v_width v_isIn v_sheets v_covered) := hD
    have hl : lv_has ls 7 [(0, .ref h), (1, .int p1), (2, .int x2_j4), (3, .int x3_j4)] := hl
    have J120 : ∀ (s0_j120 : Int32) (x3_j120 : Int32) , wp_X5_canGoIn_120 v_of v_isIn p1 post (fun b0 b1 => K4 (b0, b1)) s0_j120 x3_j120 → ∀ (H : Heap) (locs : List Loc) (ls : Array Slot), va_P D vwCl (W_X5_canGoIn h a cI cJ cZ v_thrown v_made v_of v_heart v_width v_isIn v_sheets v_covered) H → va_D A (W_X5_canGoIn h a cI cJ cZ v_thrown v_made v_of v_heart v_width v_isIn v_sheets v_covered) → va_S A s.heap H locs → lv_has ls 7 [(0, .ref h), (1, .int p1), (3, .int x3_j120)] → W p l e rm_X5_canGoIn s m args below meth c H locs 0 0 QQ (F0 m 120 ls [.int s0_j120]) := by
      intro s0_j120 x3_j120 hw H locs ls hP hD hS hl
      unfold wp_X5_canGoIn_120 at hw
      refine lv_istore_n (lv' := [(2, .int s0_j120), (0, .ref h), (1, .int p1), (3, .int x3_j120)]) hx hb dX5_canGoIn_120 rfl hl (by decide) rfl (fun ls hl => ?_)
      refine lv_iinc (v := (x3_j120 + 1)) (lv' := [(3, .int (x3_j120 + 1)), (2, .int s0_j120), (0, .ref h), (1, .int p1)]) hx hb dX5_canGoIn_121 hl (k := 3) rfl rfl (by decide) rfl (fun ls hl => ?_)
      refine lv_goto (tgt := 4) hx hb dX5_canGoIn_124 (by decide) ?_
      exact ih4 (s0_j120, (x3_j120 + 1)) hw _ _ ls hP hD hS (lv_sub hl [2, 3, 1, 0] rfl)
    have J94 : ∀ (s0_j94 : Int32) (x2_j94 : Int32) (x3_j94 : Int32) , wp_X5_canGoIn_94 v_of v_isIn p1 post (fun b0 b1 => K4 (b0, b1)) s0_j94 x2_j94 x3_j94 → ∀ (H : Heap) (locs : List Loc) (ls : Array Slot), va_P D vwCl (W_X5_canGoIn h a cI cJ cZ v_thrown v_made v_of v_heart v_width v_isIn v_sheets v_covered) H → va_D A (W_X5_canGoIn h a cI cJ cZ v_thrown v_made v_of v_heart v_width v_isIn v_sheets v_covered) → va_S A s.heap H locs → lv_has ls 7 [(0, .ref h), (1, .int p1), (2, .int x2_j94), (3, .int x3_j94)] → W p l e rm_X5_canGoIn s m args below meth c H locs 0 0 QQ (F0 m 94 ls [.int s0_j94]) := by
      intro s0_j94 x2_j94 x3_j94 hw H locs ls hP hD hS hl
      unfold wp_X5_canGoIn_94 at hw
      refine lv_istore (lv' := [(6, .int s0_j94), (0, .ref h), (1, .int p1), (2, .int x2_j94), (3, .int x3_j94)]) hx hb dX5_canGoIn_94 hl (by decide) rfl (fun ls hl => ?_)
      refine lv_iload_n hx hb dX5_canGoIn_96 rfl (lv_at hl 3 rfl) ?_
      refine lv_if_eq (tgt := 119) hx hb dX5_canGoIn_97 (by decide) (fun c97 => ?_) (fun c97 => ?_)
      · have hw := hw.1 c97
        refine lv_iconst (v := 0) hx hb dX5_canGoIn_119 (by decide) ?_
        exact J120 0 x3_j94 hw _ _ ls hP hD hS (lv_sub hl [1, 2, 4] rfl)
      · have hw := hw.2 c97
        refine lv_aload_n hx hb dX5_canGoIn_100 rfl (lv_at hl 1 rfl) ?_
        refine va_get (D := D) (ci := 6) (v := .ref (a 2)) (C := RX5) (T := TX5) (N := 24) hx hb hts iRX5 hown hK hP 0 rfl rfl 2 (by decide) (hts (.fieldLink RX5 13 "LeadlightModel" "of" "[I") (List.mem_of_getElem? (i := 1) rfl)) (fun _ h9 => h9) rfl dX5_canGoIn_101 ?_
        refine lv_iload_n hx hb dX5_canGoIn_104 rfl (lv_at hl 4 rfl) ?_
        obtain ⟨hi_105, hw⟩ := hw
        refine va_iald hx hb hK hP 1 0 rfl rfl hi_105 dX5_canGoIn_105 ?_
        refine lv_iload_n hx hb dX5_canGoIn_106 rfl (lv_at hl 2 rfl) ?_
        refine lv_icmp_ne (tgt := 115) hx hb dX5_canGoIn_107 (by decide) (fun c107 => ?_) (fun c107 => ?_)
        · have hw := hw.2 c107
          refine lv_iconst (v := 1) hx hb dX5_canGoIn_115 (by decide) ?_
          refine lv_goto (tgt := 120) hx hb dX5_canGoIn_116 (by decide) ?_
          exact J120 1 x3_j94 hw _ _ ls hP hD hS (lv_sub hl [1, 2, 4] rfl)
        · have hw := hw.1 c107
          refine lv_iload hx hb dX5_canGoIn_110 (lv_at hl 0 rfl) ?_
          refine lv_if_ne (tgt := 119) hx hb dX5_canGoIn_112 (by decide) (fun c112 => ?_) (fun c112 => ?_)
          · have hw := hw.2 c112
            refine lv_iconst (v := 0) hx hb dX5_canGoIn_119 (by decide) ?_
            exact J120 0 x3_j94 hw _ _ ls hP hD hS (lv_sub hl [1, 2, 4] rfl)
          · have hw := hw.1 c112
            refine lv_iconst (v := 1) hx hb dX5_canGoIn_115 (by decide) ?_
            refine lv_goto (tgt := 120) hx hb dX5_canGoIn_116 (by decide) ?_
            exact J120 1 x3_j94 hw _ _ ls hP hD hS (lv_sub hl [1, 2, 4] rfl)
    have J57 : ∀ (x2_j57 : Int32) (x3_j57 : Int32) (x5_j57 : Int32) , wp_X5_canGoIn_57 v_of v_isIn p1 post (fun b0 b1 => K4 (b0, b1)) x2_j57 x3_j57 x5_j57 → ∀ (H : Heap) (locs : List Loc) (ls : Array Slot), va_P D vwCl (W_X5_canGoIn h a cI cJ cZ v_thrown v_made v_of v_heart v_width v_isIn v_sheets v_covered) H → va_D A (W_X5_canGoIn h a cI cJ cZ v_thrown v_made v_of v_heart v_width v_isIn v_sheets v_covered) → va_S A s.heap H locs → lv_has ls 7 [(0, .ref h), (1, .int p1), (2, .int x2_j57), (3, .int x3_j57), (5, .int x5_j57)] → W p l e rm_X5_canGoIn s m args below meth c H locs 0 0 QQ (F0 m 57 ls []) := by
      intro x2_j57 x3_j57 x5_j57 hw H locs ls hP hD hS hl
      unfold wp_X5_canGoIn_57 at hw
      refine lv_iload hx hb dX5_canGoIn_57 (lv_at hl 4 rfl) ?_
      refine lv_iconst (v := (-1)) hx hb dX5_canGoIn_59 (by decide) ?_
      refine lv_icmp_eq (tgt := 93) hx hb dX5_canGoIn_60 (by decide) (fun c60 => ?_) (fun c60 => ?_)
      · have hw := hw.1 c60
        refine lv_iconst (v := 0) hx hb dX5_canGoIn_93 (by decide) ?_
        exact J94 0 x2_j57 x3_j57 hw _ _ ls hP hD hS (lv_sub hl [0, 1, 2, 3] rfl)
      · have hw := hw.2 c60
        refine lv_aload_n hx hb dX5_canGoIn_63 rfl (lv_at hl 0 rfl) ?_
        refine va_get (D := D) (ci := 6) (v := .ref (a 2)) (C := RX5) (T := TX5) (N := 24) hx hb hts iRX5 hown hK hP 0 rfl rfl 2 (by decide) (hts (.fieldLink RX5 13 "LeadlightModel" "of" "[I") (List.mem_of_getElem? (i := 1) rfl)) (fun _ h9 => h9) rfl dX5_canGoIn_64 ?_
        refine lv_iload hx hb dX5_canGoIn_67 (lv_at hl 4 rfl) ?_
        obtain ⟨hi_69, hw⟩ := hw
        refine va_iald hx hb hK hP 1 0 rfl rfl hi_69 dX5_canGoIn_69 ?_
        refine lv_iload_n hx hb dX5_canGoIn_70 rfl (lv_at hl 1 rfl) ?_
        refine lv_icmp_eq (tgt := 93) hx hb dX5_canGoIn_71 (by decide) (fun c71 => ?_) (fun c71 => ?_)
        · have hw := hw.1 c71
          refine lv_iconst (v := 0) hx hb dX5_canGoIn_93 (by decide) ?_
          exact J94 0 x2_j57 x3_j57 hw _ _ ls hP hD hS (lv_sub hl [0, 1, 2, 3] rfl)
        · have hw := hw.2 c71
          refine lv_aload_n hx hb dX5_canGoIn_74 rfl (lv_at hl 0 rfl) ?_
          refine va_get (D := D) (ci := 6) (v := .ref (a 18)) (C := RX5) (T := TX5) (N := 24) hx hb hts iRX5 hown hK hP 0 rfl rfl 18 (by decide) (hts (.fieldLink RX5 63 "LeadlightModel" "isIn" "[Z") (List.mem_of_getElem? (i := 2) rfl)) (fun _ h9 => h9) rfl dX5_canGoIn_75 ?_
          refine lv_aload_n hx hb dX5_canGoIn_78 rfl (lv_at hl 0 rfl) ?_
          refine va_get (D := D) (ci := 6) (v := .ref (a 2)) (C := RX5) (T := TX5) (N := 24) hx hb hts iRX5 hown hK hP 0 rfl rfl 2 (by decide) (hts (.fieldLink RX5 13 "LeadlightModel" "of" "[I") (List.mem_of_getElem? (i := 1) rfl)) (fun _ h9 => h9) rfl dX5_canGoIn_79 ?_
          refine lv_iload hx hb dX5_canGoIn_82 (lv_at hl 4 rfl) ?_
          obtain ⟨hi_84, hw⟩ := hw
          refine va_iald hx hb hK hP 1 0 rfl rfl hi_84 dX5_canGoIn_84 ?_
          obtain ⟨hi_85, hw⟩ := hw
          refine va_zald hx hb hK hP 2 2 rfl rfl hi_85 dX5_canGoIn_85 ?_
          refine lv_if_ne (tgt := 93) hx hb dX5_canGoIn_86 (by decide) (fun c86 => ?_) (fun c86 => ?_)
          · have hw := hw.2 c86
            refine lv_iconst (v := 0) hx hb dX5_canGoIn_93 (by decide) ?_
            exact J94 0 x2_j57 x3_j57 hw _ _ ls hP hD hS (lv_sub hl [0, 1, 2, 3] rfl)
          · have hw := hw.1 c86
            refine lv_iconst (v := 1) hx hb dX5_canGoIn_89 (by decide) ?_
            refine lv_goto (tgt := 94) hx hb dX5_canGoIn_90 (by decide) ?_
            exact J94 1 x2_j57 x3_j57 hw _ _ ls hP hD hS (lv_sub hl [0, 1, 2, 3] rfl)
    unfold wp_X5_canGoIn_4 at hw
    refine lv_iload_n hx hb dX5_canGoIn_4 rfl (lv_at hl 3 rfl) ?_
    refine lv_sipush (v := 256) hx hb dX5_canGoIn_5 (by decide) ?_
    refine lv_icmp_ge (tgt := 127) hx hb dX5_canGoIn_8 (by decide) (fun c8 => ?_) (fun c8 => ?_)
    · have hw := hw.1 c8
      refine lv_iload_n hx hb dX5_canGoIn_127 rfl (lv_at hl 2 rfl) ?_
      exact RT x2_j4 () _ _ _ _ dX5_canGoIn_128 hw.1 hw.2 hP hD hS
    · have hw := hw.2 c8
      refine lv_iload_n hx hb dX5_canGoIn_11 rfl (lv_at hl 3 rfl) ?_
      refine lv_iconst (v := 1) hx hb dX5_canGoIn_12 (by decide) ?_
      refine af_i (X := (W_X5_canGoIn h a cI cJ cZ v_thrown v_made v_of v_heart v_width v_isIn v_sheets v_covered)) (pl := []) (cx := ([] : va_W)) (w1 := fun (u : Unit) => ([] : va_W)) (X' := fun (u : Unit) => (W_X5_canGoIn h a cI cJ cZ v_thrown v_made v_of v_heart v_width v_isIn v_sheets v_covered)) hP hD hS hA [] [0, 1, 2] [0, 1, 2] rfl rfl (by decide) (by decide) (fun u => rfl) (by decide) (va_runS (As := [.int x3_j4, .int 1]) (rest := []) ⟨hx, hb, hml, hown, hts⟩ (c_X5_beside l D cI cJ cZ cO H.size x3_j4 1 _ hw) (va_cwS 2 hts gX5_canGoIn_X5_beside rfl rfl rfl (by decide +kernel) ⟨Nat.le_of_ble_eq_true rfl, Nat.le_of_ble_eq_true rfl⟩) (preS (X := (W_X5_canGoIn h a cI cJ cZ v_thrown v_made v_of v_heart v_width v_isIn v_sheets v_covered)) (pl := []) (cx := ([] : va_W)) hK hE hP hD [] (by decide) rfl) rfl rfl hl.1 rfl (lv_room (Nat.le_of_ble_eq_true rfl)) dX5_canGoIn_13 ⟨Nat.zero_le _, Nat.zero_le _⟩) (fun r_13 _ H locs hw hP hD hS => ?_)
      try dsimp only at hw
      have hP : va_P D vwCl (W_X5_canGoIn h a cI cJ cZ v_thrown v_made v_of v_heart v_width v_isIn v_sheets v_covered) H := hP
      have hD : va_D A (W_X5_canGoIn h a cI cJ cZ v_thrown v_made v_of v_heart v_width v_isIn v_sheets v_covered) := hD
      refine lv_istore (lv' := [(4, .int r_13), (0, .ref h), (1, .int p1), (2, .int x2_j4), (3, .int x3_j4)]) hx hb dX5_canGoIn_16 hl (by decide) rfl (fun ls hl => ?_)
      refine lv_iload_n hx hb dX5_canGoIn_18 rfl (lv_at hl 4 rfl) ?_
      refine lv_iconst (v := 2) hx hb dX5_canGoIn_19 (by decide) ?_
      refine af_i (X := (W_X5_canGoIn h a cI cJ cZ v_thrown v_made v_of v_heart v_width v_isIn v_sheets v_covered)) (pl := []) (cx := ([] : va_W)) (w1 := fun (u : Unit) => ([] : va_W)) (X' := fun (u : Unit) => (W_X5_canGoIn h a cI cJ cZ v_thrown v_made v_of v_heart v_width v_isIn v_sheets v_covered)) hP hD hS hA [] [0, 1, 2] [0, 1, 2] rfl rfl (by decide) (by decide) (fun u => rfl) (by decide) (va_runS (As := [.int x3_j4, .int 2]) (rest := []) ⟨hx, hb, hml, hown, hts⟩ (c_X5_beside l D cI cJ cZ cO H.size x3_j4 2 _ hw) (va_cwS 2 hts gX5_canGoIn_X5_beside rfl rfl rfl (by decide +kernel) ⟨Nat.le_of_ble_eq_true rfl, Nat.le_of_ble_eq_true rfl⟩) (preS (X := (W_X5_canGoIn h a cI cJ cZ v_thrown v_made v_of v_heart v_width v_isIn v_sheets v_covered)) (pl := []) (cx := ([] : va_W)) hK hE hP hD [] (by decide) rfl) rfl rfl hl.1 rfl (lv_room (Nat.le_of_ble_eq_true rfl)) dX5_canGoIn_20 ⟨Nat.zero_le _, Nat.zero_le _⟩) (fun r_20 _ H locs hw hP hD hS => ?_)
      try dsimp only at hw
      have hP : va_P D vwCl (W_X5_canGoIn h a cI cJ cZ v_thrown v_made v_of v_heart v_width v_isIn v_sheets v_covered) H := hP
      have hD : va_D A (W_X5_canGoIn h a cI cJ cZ v_thrown v_made v_of v_heart v_width v_isIn v_sheets v_covered) := hD
      refine lv_istore (lv' := [(5, .int r_20), (4, .int r_13), (0, .ref h), (1, .int p1), (2, .int x2_j4), (3, .int x3_j4)]) hx hb dX5_canGoIn_23 hl (by decide) rfl (fun ls hl => ?_)
      refine lv_iload hx hb dX5_canGoIn_25 (lv_at hl 1 rfl) ?_
      refine lv_iconst (v := (-1)) hx hb dX5_canGoIn_27 (by decide) ?_
      refine lv_icmp_eq (tgt := 57) hx hb dX5_canGoIn_28 (by decide) (fun c28 => ?_) (fun c28 => ?_)
      · have hw := hw.1 c28
        exact J57 x2_j4 x3_j4 r_20 hw _ _ ls hP hD hS (lv_sub hl [2, 3, 4, 5, 0] rfl)
      · have hw := hw.2 c28
        refine lv_aload_n hx hb dX5_canGoIn_31 rfl (lv_at hl 2 rfl) ?_
        refine va_get (D := D) (ci := 6) (v := .ref (a 2)) (C := RX5) (T := TX5) (N := 24) hx hb hts iRX5 hown hK hP 0 rfl rfl 2 (by decide) (hts (.fieldLink RX5 13 "LeadlightModel" "of" "[I") (List.mem_of_getElem? (i := 1) rfl)) (fun _ h9 => h9) rfl dX5_canGoIn_32 ?_
        refine lv_iload hx hb dX5_canGoIn_35 (lv_at hl 1 rfl) ?_
        obtain ⟨hi_37, hw⟩ := hw
        refine va_iald hx hb hK hP 1 0 rfl rfl hi_37 dX5_canGoIn_37 ?_
        refine lv_iload_n hx hb dX5_canGoIn_38 rfl (lv_at hl 3 rfl) ?_
        refine lv_icmp_eq (tgt := 57) hx hb dX5_canGoIn_39 (by decide) (fun c39 => ?_) (fun c39 => ?_)
        · have hw := hw.1 c39
          exact J57 x2_j4 x3_j4 r_20 hw _ _ ls hP hD hS (lv_sub hl [2, 3, 4, 5, 0] rfl)
        · have hw := hw.2 c39
          refine lv_aload_n hx hb dX5_canGoIn_42 rfl (lv_at hl 2 rfl) ?_
          refine va_get (D := D) (ci := 6) (v := .ref (a 18)) (C := RX5) (T := TX5) (N := 24) hx hb hts iRX5 hown hK hP 0 rfl rfl 18 (by decide) (hts (.fieldLink RX5 63 "LeadlightModel" "isIn" "[Z") (List.mem_of_getElem? (i := 2) rfl)) (fun _ h9 => h9) rfl dX5_canGoIn_43 ?_
          refine lv_aload_n hx hb dX5_canGoIn_46 rfl (lv_at hl 2 rfl) ?_
          refine va_get (D := D) (ci := 6) (v := .ref (a 2)) (C := RX5) (T := TX5) (N := 24) hx hb hts iRX5 hown hK hP 0 rfl rfl 2 (by decide) (hts (.fieldLink RX5 13 "LeadlightModel" "of" "[I") (List.mem_of_getElem? (i := 1) rfl)) (fun _ h9 => h9) rfl dX5_canGoIn_47 ?_
          refine lv_iload hx hb dX5_canGoIn_50 (lv_at hl 1 rfl) ?_
          obtain ⟨hi_52, hw⟩ := hw
          refine va_iald hx hb hK hP 1 0 rfl rfl hi_52 dX5_canGoIn_52 ?_
          obtain ⟨hi_53, hw⟩ := hw
          refine va_zald hx hb hK hP 2 2 rfl rfl hi_53 dX5_canGoIn_53 ?_
          refine lv_if_eq (tgt := 89) hx hb dX5_canGoIn_54 (by decide) (fun c54 => ?_) (fun c54 => ?_)
          · have hw := hw.1 c54
            refine lv_iconst (v := 1) hx hb dX5_canGoIn_89 (by decide) ?_
            refine lv_goto (tgt := 94) hx hb dX5_canGoIn_90 (by decide) ?_
            exact J94 1 x2_j4 x3_j4 hw _ _ ls hP hD hS (lv_sub hl [2, 3, 4, 5] rfl)
          · have hw := hw.2 c54
            exact J57 x2_j4 x3_j4 r_20 hw _ _ ls hP hD hS (lv_sub hl [2, 3, 4, 5, 0] rfl)
  refine lv_iconst (v := 1) hx hb dX5_canGoIn_0 (by decide) ?_
  refine lv_istore_n (lv' := [(2, .int 1), (0, .ref h), (1, .int p1)]) hx hb dX5_canGoIn_1 rfl hl (by decide) rfl (fun ls hl => ?_)
  refine lv_iconst (v := 0) hx hb dX5_canGoIn_2 (by decide) ?_
  refine lv_istore_n (lv' := [(3, .int 0), (2, .int 1), (0, .ref h), (1, .int p1)]) hx hb dX5_canGoIn_3 rfl hl (by decide) rfl (fun ls hl => ?_)
  exact L4 (1, 0) hw _ _ ls hP hD hS (lv_sub hl [2, 3, 1, 0] rfl)
abbrev rm_X5_assembled : Room := { frames := 3, cells := 0, slots := 0, locals := 71 }
abbrev W_X5_assembled (h : Nat) (a : Nat → Nat) (cI cJ cZ : ClassId) (v_thrown : Int32) (v_made : Int32) (v_of : Nat → Int32) (v_many : Nat → Int32) (v_heart : Int32) (v_width : Int32) (v_isIn : Nat → Int32) (v_order : Nat → Int32) (v_sheets : Int32) (v_covered : Int32) : va_W := [(h, .inr (6, [.int v_thrown, .int v_made, .ref (a 2), .ref (a 3), .ref (a 4), .ref (a 5), .ref (a 6), .ref (a 7), .ref (a 8), .ref (a 9), .ref (a 10), .ref (a 11), .int v_heart, .int v_width, .ref (a 14), .ref (a 15), .ref (a 16), .ref (a 17), .ref (a 18), .ref (a 19), .ref (a 20), .ref (a 21), .int v_sheets, .int v_covered])), ((a 2), .inl (cI, 256, .inl v_of)), ((a 3), .inl (cI, 60, .inl v_many)), ((a 18), .inl (cZ, 60, .inl v_isIn)), ((a 19), .inl (cI, 60, .inl v_order))]
def wp_X5_assembled_106 (v_thrown : Int32) (v_made : Int32) (v_of : Nat → Int32) (v_many : Nat → Int32) (v_isIn : Nat → Int32) (v_order : Nat → Int32) (p1 : Int32) (post : Int32 → Int32 → (Nat → Int32) → (Nat → Int32) → Prop) (K49 : Int32 → Int32 → Int32 → (Nat → Int32) → (Nat → Int32) → Prop) (K65 : Int32 → Int32 → Int32 → Int32 → Int32 → (Nat → Int32) → (Nat → Int32) → Prop) (s0_j106 : Int32) (x2_j106 : Int32) (x3_j106 : Int32) (x5_j106 : Int32) (v_thrown_j106 : Int32) (v_isIn_j106 : Nat → Int32) (v_order_j106 : Nat → Int32) : Prop := K65 x2_j106 x3_j106 s0_j106 (x5_j106 + (-1)) v_thrown_j106 v_isIn_j106 v_order_j106
def wp_X5_assembled_65 (v_thrown : Int32) (v_made : Int32) (v_of : Nat → Int32) (v_many : Nat → Int32) (v_isIn : Nat → Int32) (v_order : Nat → Int32) (p1 : Int32) (post : Int32 → Int32 → (Nat → Int32) → (Nat → Int32) → Prop) (K49 : Int32 → Int32 → Int32 → (Nat → Int32) → (Nat → Int32) → Prop) (K65 : Int32 → Int32 → Int32 → Int32 → Int32 → (Nat → Int32) → (Nat → Int32) → Prop) (x2_j65 : Int32) (x3_j65 : Int32) (x4_j65 : Int32) (x5_j65 : Int32) (v_thrown_j65 : Int32) (v_isIn_j65 : Nat → Int32) (v_order_j65 : Nat → Int32) : Prop := (x5_j65 < 0 → (x4_j65 = (-1) → post (-1) v_thrown_j65 v_isIn_j65 v_order_j65) ∧ (¬ x4_j65 = (-1) → vp_in x4_j65 60 ∧ (∀ v_isIn_t129 : Nat → Int32, v_isIn_t129 = upd v_isIn_j65 x4_j65.toNatClampNeg (vp_nar .boolean 1) → vp_in x3_j65 60 ∧ (∀ v_order_t137 : Nat → Int32, v_order_t137 = upd v_order_j65 x3_j65.toNatClampNeg x4_j65 → K49 x2_j65 (x3_j65 + 1) v_thrown_j65 v_isIn_t129 v_order_t137)))) ∧ (¬ x5_j65 < 0 → vp_in x5_j65 60 ∧ (((v_many x5_j65.toNatClampNeg) ≤ 0 → wp_X5_assembled_106 v_thrown v_made v_of v_many v_isIn v_order p1 post K49 K65 x4_j65 x2_j65 x3_j65 x5_j65 v_thrown_j65 v_isIn_j65 v_order_j65) ∧ (¬ (v_many x5_j65.toNatClampNeg) ≤ 0 → vp_in x5_j65 60 ∧ (((v_isIn_j65 x5_j65.toNatClampNeg) = 0 → wp_X5_canGoIn v_of v_isIn_j65 x5_j65 (fun r_93 => (r_93 = 0 → wp_X5_assembled_106 v_thrown v_made v_of v_many v_isIn v_order p1 post K49 K65 x4_j65 x2_j65 x3_j65 x5_j65 v_thrown_j65 v_isIn_j65 v_order_j65) ∧ (¬ r_93 = 0 → wp_X5_assembled_106 v_thrown v_made v_of v_many v_isIn v_order p1 post K49 K65 x5_j65 x2_j65 x3_j65 x5_j65 v_thrown_j65 v_isIn_j65 v_order_j65))) ∧ (¬ (v_isIn_j65 x5_j65.toNatClampNeg) = 0 → wp_X5_assembled_106 v_thrown v_made v_of v_many v_isIn v_order p1 post K49 K65 x4_j65 x2_j65 x3_j65 x5_j65 v_thrown_j65 v_isIn_j65 v_order_j65)))))
def lF_X5_assembled_65 (v_thrown : Int32) (v_made : Int32) (v_of : Nat → Int32) (v_many : Nat → Int32) (v_isIn : Nat → Int32) (v_order : Nat → Int32) (p1 : Int32) (post : Int32 → Int32 → (Nat → Int32) → (Nat → Int32) → Prop) (K49 : Int32 → Int32 → Int32 → (Nat → Int32) → (Nat → Int32) → Prop) : ((Int32 × Int32 × Int32 × Int32 × Int32 × (Nat → Int32) × (Nat → Int32)) → Prop) → (Int32 × Int32 × Int32 × Int32 × Int32 × (Nat → Int32) × (Nat → Int32)) → Prop := fun K s => wp_X5_assembled_65 v_thrown v_made v_of v_many v_isIn v_order p1 post K49 (fun b0 b1 b2 b3 b4 b5 b6 => K (b0, b1, b2, b3, b4, b5, b6)) s.1 s.2.1 s.2.2.1 s.2.2.2.1 s.2.2.2.2.1 s.2.2.2.2.2.1 s.2.2.2.2.2.2
def wp_X5_assembled_49 (v_thrown : Int32) (v_made : Int32) (v_of : Nat → Int32) (v_many : Nat → Int32) (v_isIn : Nat → Int32) (v_order : Nat → Int32) (p1 : Int32) (post : Int32 → Int32 → (Nat → Int32) → (Nat → Int32) → Prop) (K49 : Int32 → Int32 → Int32 → (Nat → Int32) → (Nat → Int32) → Prop) (x2_j49 : Int32) (x3_j49 : Int32) (v_thrown_j49 : Int32) (v_isIn_j49 : Nat → Int32) (v_order_j49 : Nat → Int32) : Prop := (x2_j49 ≤ x3_j49 → wp_X5_in p1 0 (x2_j49 - 1) (fun r_149 => (r_149 = 0 → post (-1) v_thrown_j49 v_isIn_j49 v_order_j49) ∧ (¬ r_149 = 0 → vp_in p1 60 ∧ (post (v_order_j49 p1.toNatClampNeg) v_thrown_j49 v_isIn_j49 v_order_j49)))) ∧ (¬ x2_j49 ≤ x3_j49 → lp (lF_X5_assembled_65 v_thrown v_made v_of v_many v_isIn v_order p1 post K49) (x2_j49, x3_j49, (-1), (v_made - 1), v_thrown_j49, v_isIn_j49, v_order_j49))
def lF_X5_assembled_49 (v_thrown : Int32) (v_made : Int32) (v_of : Nat → Int32) (v_many : Nat → Int32) (v_isIn : Nat → Int32) (v_order : Nat → Int32) (p1 : Int32) (post : Int32 → Int32 → (Nat → Int32) → (Nat → Int32) → Prop) : ((Int32 × Int32 × Int32 × (Nat → Int32) × (Nat → Int32)) → Prop) → (Int32 × Int32 × Int32 × (Nat → Int32) × (Nat → Int32)) → Prop := fun K s => wp_X5_assembled_49 v_thrown v_made v_of v_many v_isIn v_order p1 post (fun b0 b1 b2 b3 b4 => K (b0, b1, b2, b3, b4)) s.1 s.2.1 s.2.2.1 s.2.2.2.1 s.2.2.2.2
def wp_X5_assembled_39 (v_thrown : Int32) (v_made : Int32) (v_of : Nat → Int32) (v_many : Nat → Int32) (v_isIn : Nat → Int32) (v_order : Nat → Int32) (p1 : Int32) (post : Int32 → Int32 → (Nat → Int32) → (Nat → Int32) → Prop) (K9 : Int32 → Int32 → Int32 → (Nat → Int32) → Prop) (s0_j39 : Int32) (s1_j39 : Int32) (x3_j39 : Int32) (v_thrown_j39 : Int32) (v_isIn_j39 : Nat → Int32) : Prop := K9 (s0_j39 + s1_j39) (x3_j39 + 1) v_thrown_j39 v_isIn_j39
def wp_X5_assembled_9 (v_thrown : Int32) (v_made : Int32) (v_of : Nat → Int32) (v_many : Nat → Int32) (v_isIn : Nat → Int32) (v_order : Nat → Int32) (p1 : Int32) (post : Int32 → Int32 → (Nat → Int32) → (Nat → Int32) → Prop) (K9 : Int32 → Int32 → Int32 → (Nat → Int32) → Prop) (x2_j9 : Int32) (x3_j9 : Int32) (v_thrown_j9 : Int32) (v_isIn_j9 : Nat → Int32) : Prop := (v_made ≤ x3_j9 → lp (lF_X5_assembled_49 v_thrown v_made v_of v_many v_isIn v_order p1 post) (x2_j9, 0, v_thrown_j9, v_isIn_j9, v_order)) ∧ (¬ v_made ≤ x3_j9 → vp_in x3_j9 60 ∧ (∀ v_isIn_t23 : Nat → Int32, v_isIn_t23 = upd v_isIn_j9 x3_j9.toNatClampNeg (vp_nar .boolean 0) → vp_in x3_j9 60 ∧ (((v_many x3_j9.toNatClampNeg) ≤ 0 → wp_X5_assembled_39 v_thrown v_made v_of v_many v_isIn v_order p1 post K9 x2_j9 0 x3_j9 v_thrown_j9 v_isIn_t23) ∧ (¬ (v_many x3_j9.toNatClampNeg) ≤ 0 → wp_X5_assembled_39 v_thrown v_made v_of v_many v_isIn v_order p1 post K9 x2_j9 1 x3_j9 v_thrown_j9 v_isIn_t23))))
def lF_X5_assembled_9 (v_thrown : Int32) (v_made : Int32) (v_of : Nat → Int32) (v_many : Nat → Int32) (v_isIn : Nat → Int32) (v_order : Nat → Int32) (p1 : Int32) (post : Int32 → Int32 → (Nat → Int32) → (Nat → Int32) → Prop) : ((Int32 × Int32 × Int32 × (Nat → Int32)) → Prop) → (Int32 × Int32 × Int32 × (Nat → Int32)) → Prop := fun K s => wp_X5_assembled_9 v_thrown v_made v_of v_many v_isIn v_order p1 post (fun b0 b1 b2 b3 => K (b0, b1, b2, b3)) s.1 s.2.1 s.2.2.1 s.2.2.2
def wp_X5_assembled (v_thrown : Int32) (v_made : Int32) (v_of : Nat → Int32) (v_many : Nat → Int32) (v_isIn : Nat → Int32) (v_order : Nat → Int32) (p1 : Int32) (post : Int32 → Int32 → (Nat → Int32) → (Nat → Int32) → Prop) : Prop := ∀ v_thrown_t2 : Int32, v_thrown_t2 = 0 → lp (lF_X5_assembled_9 v_thrown v_made v_of v_many v_isIn v_order p1 post) (0, 0, v_thrown_t2, v_isIn)
set_option maxHeartbeats 4000000 in
set_option maxRecDepth 100000 in
theorem c_X5_assembled (l : Launch) (D : va_G) (cI cJ cZ cO : ClassId) (h : Nat) (a : Nat → Nat) (sz : Nat) (v_thrown : Int32) (v_made : Int32) (v_of : Nat → Int32) (v_many : Nat → Int32) (v_heart : Int32) (v_width : Int32) (v_isIn : Nat → Int32) (v_order : Nat → Int32) (v_sheets : Int32) (v_covered : Int32) (p1 : Int32) (post : Int32 → Int32 → (Nat → Int32) → (Nat → Int32) → Prop) (hw : wp_X5_assembled v_thrown v_made v_of v_many v_isIn v_order p1 post) : Met l yX5_assembled wsX5_assembled rm_X5_assembled (va_Pc [.ref h, .int p1] (PRE D cI cJ cZ cO (W_X5_assembled h a cI cJ cZ v_thrown v_made v_of v_many v_heart v_width v_isIn v_order v_sheets v_covered) sz)) (va_Qi (fun r (u : Int32 × (Nat → Int32) × (Nat → Int32)) => post r u.1 u.2.1 u.2.2) (fun u t => POST D (va_A (W_X5_assembled h a cI cJ cZ v_thrown v_made v_of v_many v_heart v_width v_isIn v_order v_sheets v_covered) sz) (W_X5_assembled h a cI cJ cZ u.1 v_made v_of v_many v_heart v_width u.2.1 u.2.2 v_sheets v_covered) t) (va_A (W_X5_assembled h a cI cJ cZ v_thrown v_made v_of v_many v_heart v_width v_isIn v_order v_sheets v_covered) sz)) 0 0 (va_A (W_X5_assembled h a cI cJ cZ v_thrown v_made v_of v_many v_heart v_width v_isIn v_order v_sheets v_covered) sz) := by
  refine met_go (cc := cX5_assembled) (maxL := 6) (ret := some .int) RX5 rfl (by decide) rfl (Nat.le_of_ble_eq_true rfl) ?_
  intro p e s m args below meth c ls hx hb hr hts hown hlocks hin hml hsz hP hK hE hD hA hS hl
  have iRX5 : ∀ w ∈ u_ws RX5 TX5 24, w ∈ wsX5_assembled := mem_seg 18 24 rfl
  generalize va_A (W_X5_assembled h a cI cJ cZ v_thrown v_made v_of v_many v_heart v_width v_isIn v_order v_sheets v_covered) sz = A at hD hA hS ⊢
  have RT : ∀ (v : Int32) (u : Int32 × (Nat → Int32) × (Nat → Int32)) (H : Heap) (locs : List Loc) (pc : Nat) (ls : Array Slot), decode cX5_assembled pc = .ok (.ireturn, 1) → post v u.1 u.2.1 u.2.2 → va_P D vwCl (W_X5_assembled h a cI cJ cZ u.1 v_made v_of v_many v_heart v_width u.2.1 u.2.2 v_sheets v_covered) H → va_D A (W_X5_assembled h a cI cJ cZ u.1 v_made v_of v_many v_heart v_width u.2.1 u.2.2 v_sheets v_covered) → va_S A s.heap H locs → W p l e rm_X5_assembled s m args below meth c H locs 0 0 (MQ below (va_Qi (fun r (u : Int32 × (Nat → Int32) × (Nat → Int32)) => post r u.1 u.2.1 u.2.2) (fun u t => POST D A (W_X5_assembled h a cI cJ cZ u.1 v_made v_of v_many v_heart v_width u.2.1 u.2.2 v_sheets v_covered) t) A) args s 0 0 A) (F0 m pc ls [.int v]) := fun v u H locs pc ls d g1 g2 g3 g4 => rt_i (Wf := fun u => (W_X5_assembled h a cI cJ cZ u.1 v_made v_of v_many v_heart v_width u.2.1 u.2.2 v_sheets v_covered)) u hx hb hr hlocks g1 g2 g3 g4 d
  generalize (MQ below (va_Qi (fun r (u : Int32 × (Nat → Int32) × (Nat → Int32)) => post r u.1 u.2.1 u.2.2) (fun u t => POST D A (W_X5_assembled h a cI cJ cZ u.1 v_made v_of v_many v_heart v_width u.2.1 u.2.2 v_sheets v_covered) t) A) args s 0 0 A) = QQ at RT ⊢
  have hl : lv_has ls 6 [(0, .ref h), (1, .int p1)] := hl
  have hP : va_P D vwCl (W_X5_assembled h a cI cJ cZ v_thrown v_made v_of v_many v_heart v_width v_isIn v_order v_sheets v_covered) s.heap := hP
  unfold wp_X5_assembled at hw
  suffices GO : ∀ (H : Heap) (locs : List Loc), va_P D vwCl (W_X5_assembled h a cI cJ cZ v_thrown v_made v_of v_many v_heart v_width v_isIn v_order v_sheets v_covered) H → va_S A s.heap H locs → W p l e rm_X5_assembled s m args below meth c H locs 0 0 QQ (F0 m 0 ls []) from GO _ _ hP hS
  clear hsz hP hS
  intro H locs hP hS
  have L49 : ∀ s0 : (Int32 × Int32 × Int32 × (Nat → Int32) × (Nat → Int32)), lp (lF_X5_assembled_49 v_thrown v_made v_of v_many v_isIn v_order p1 post) s0 → ∀ (H : Heap) (locs : List Loc) (ls : Array Slot), va_P D vwCl (W_X5_assembled h a cI cJ cZ s0.2.2.1 v_made v_of v_many v_heart v_width s0.2.2.2.1 s0.2.2.2.2 v_sheets v_covered) H → va_D A (W_X5_assembled h a cI cJ cZ s0.2.2.1 v_made v_of v_many v_heart v_width s0.2.2.2.1 s0.2.2.2.2 v_sheets v_covered) → va_S A s.heap H locs → lv_has ls 6 [(0, .ref h), (1, .int p1), (2, .int s0.1), (3, .int s0.2.1)] → W p l e rm_X5_assembled s m args below meth c H locs 0 0 QQ (F0 m 49 ls []) := by
    refine lp_elim (fun K49 ih49 s0 hw => ?_)
    obtain ⟨x2_j49, x3_j49, v_thrown_j49, v_isIn_j49, v_order_j49⟩ := s0
    intro H locs ls hP hD hS hl
    have hw : wp_X5_assembled_49 v_thrown v_made v_of v_many v_isIn v_order p1 post (fun b0 b1 b2 b3 b4 => K49 (b0, b1, b2, b3, b4)) x2_j49 x3_j49 v_thrown_j49 v_isIn_j49 v_order_j49 := hw
    have hP : va_P D vwCl (W_X5_assembled h a cI cJ cZ v_thrown_j49 v_made v_of v_many v_heart v_width v_isIn_j49 v_order_j49 v_sheets v_covered) H := hP
    have hD : va_D A (W_X5_assembled h a cI cJ cZ v_thrown_j49 v_made v_of v_many v_heart v_width v_isIn_j49 v_order_j49 v_sheets v_covered) := hD
    have hl : lv_has ls 6 [(0, .ref h), (1, .int p1), (2, .int x2_j49), (3, .int x3_j49)] := hl
    have L65 : ∀ s0 : (Int32 × Int32 × Int32 × Int32 × Int32 × (Nat → Int32) × (Nat → Int32)), lp (lF_X5_assembled_65 v_thrown v_made v_of v_many v_isIn v_order p1 post (fun b0 b1 b2 b3 b4 => K49 (b0, b1, b2, b3, b4))) s0 → ∀ (H : Heap) (locs : List Loc) (ls : Array Slot), va_P D vwCl (W_X5_assembled h a cI cJ cZ s0.2.2.2.2.1 v_made v_of v_many v_heart v_width s0.2.2.2.2.2.1 s0.2.2.2.2.2.2 v_sheets v_covered) H → va_D A (W_X5_assembled h a cI cJ cZ s0.2.2.2.2.1 v_made v_of v_many v_heart v_width s0.2.2.2.2.2.1 s0.2.2.2.2.2.2 v_sheets v_covered) → va_S A s.heap H locs → lv_has ls 6 [(0, .ref h), (1, .int p1), (2, .int s0.1), (3, .int s0.2.1), (4, .int s0.2.2.1), (5, .int s0.2.2.2.1)] → W p l e rm_X5_assembled s m args below meth c H locs 0 0 QQ (F0 m 65 ls []) := by
      refine lp_elim (fun K65 ih65 s0 hw => ?_)
      obtain ⟨x2_j65, x3_j65, x4_j65, x5_j65, v_thrown_j65, v_isIn_j65, v_order_j65⟩ := s0
      intro H locs ls hP hD hS hl
      have hw : wp_X5_assembled_65 v_thrown v_made v_of v_many v_isIn v_order p1 post (fun b0 b1 b2 b3 b4 => K49 (b0, b1, b2, b3, b4)) (fun b0 b1 b2 b3 b4 b5 b6 => K65 (b0, b1, b2, b3, b4, b5, b6)) x2_j65 x3_j65 x4_j65 x5_j65 v_thrown_j65 v_isIn_j65 v_order_j65 := hw
      have hP : va_P D vwCl (W_X5_assembled h a cI cJ cZ v_thrown_j65 v_made v_of v_many v_heart v_width v_isIn_j65 v_order_j65 v_sheets v_covered) H := hP
      have hD : va_D A (W_X5_assembled h a cI cJ cZ v_thrown_j65 v_made v_of v_many v_heart v_width v_isIn_j65 v_order_j65 v_sheets v_covered) := hD
      have hl : lv_has ls 6 [(0, .ref h), (1, .int p1), (2, .int x2_j65), (3, .int x3_j65), (4, .int x4_j65), (5, .int x5_j65)] := hl
      have J106 : ∀ (s0_j106 : Int32) (x2_j106 : Int32) (x3_j106 : Int32) (x5_j106 : Int32) (v_thrown_j106 : Int32) (v_isIn_j106 : Nat → Int32) (v_order_j106 : Nat → Int32) , wp_X5_assembled_106 v_thrown v_made v_of v_many v_isIn v_order p1 post (fun b0 b1 b2 b3 b4 => K49 (b0, b1, b2, b3, b4)) (fun b0 b1 b2 b3 b4 b5 b6 => K65 (b0, b1, b2, b3, b4, b5, b6)) s0_j106 x2_j106 x3_j106 x5_j106 v_thrown_j106 v_isIn_j106 v_order_j106 → ∀ (H : Heap) (locs : List Loc) (ls : Array Slot), va_P D vwCl (W_X5_assembled h a cI cJ cZ v_thrown_j106 v_made v_of v_many v_heart v_width v_isIn_j106 v_order_j106 v_sheets v_covered) H → va_D A (W_X5_assembled h a cI cJ cZ v_thrown_j106 v_made v_of v_many v_heart v_width v_isIn_j106 v_order_j106 v_sheets v_covered) → va_S A s.heap H locs → lv_has ls 6 [(0, .ref h), (1, .int p1), (2, .int x2_j106), (3, .int x3_j106), (5, .int x5_j106)] → W p l e rm_X5_assembled s m args below meth c H locs 0 0 QQ (F0 m 106 ls [.int s0_j106]) := by
        intro s0_j106 x2_j106 x3_j106 x5_j106 v_thrown_j106 v_isIn_j106 v_order_j106 hw H locs ls hP hD hS hl
        unfold wp_X5_assembled_106 at hw
        refine lv_istore (lv' := [(4, .int s0_j106), (0, .ref h), (1, .int p1), (2, .int x2_j106), (3, .int x3_j106), (5, .int x5_j106)]) hx hb dX5_assembled_106 hl (by decide) rfl (fun ls hl => ?_)
        refine lv_iinc (v := (x5_j106 + (-1))) (lv' := [(5, .int (x5_j106 + (-1))), (4, .int s0_j106), (0, .ref h), (1, .int p1), (2, .int x2_j106), (3, .int x3_j106)]) hx hb dX5_assembled_108 hl (k := 5) rfl rfl (by decide) rfl (fun ls hl => ?_)
        refine lv_goto (tgt := 65) hx hb dX5_assembled_111 (by decide) ?_
        exact ih65 (x2_j106, x3_j106, s0_j106, (x5_j106 + (-1)), v_thrown_j106, v_isIn_j106, v_order_j106) hw _ _ ls hP hD hS (lv_sub hl [2, 3, 4, 5, 1, 0] rfl)
      unfold wp_X5_assembled_65 at hw
      refine lv_iload hx hb dX5_assembled_65 (lv_at hl 5 rfl) ?_
      refine lv_if_lt (tgt := 114) hx hb dX5_assembled_67 (by decide) (fun c67 => ?_) (fun c67 => ?_)
      · have hw := hw.1 c67
        refine lv_iload hx hb dX5_assembled_114 (lv_at hl 4 rfl) ?_
        refine lv_iconst (v := (-1)) hx hb dX5_assembled_116 (by decide) ?_
        refine lv_icmp_ne (tgt := 122) hx hb dX5_assembled_117 (by decide) (fun c117 => ?_) (fun c117 => ?_)
        · have hw := hw.2 c117
          refine lv_aload_n hx hb dX5_assembled_122 rfl (lv_at hl 0 rfl) ?_
          refine va_get (D := D) (ci := 6) (v := .ref (a 18)) (C := RX5) (T := TX5) (N := 24) hx hb hts iRX5 hown hK hP 0 rfl rfl 18 (by decide) (hts (.fieldLink RX5 63 "LeadlightModel" "isIn" "[Z") (List.mem_of_getElem? (i := 3) rfl)) (fun _ h9 => h9) rfl dX5_assembled_123 ?_
          refine lv_iload hx hb dX5_assembled_126 (lv_at hl 4 rfl) ?_
          refine lv_iconst (v := 1) hx hb dX5_assembled_128 (by decide) ?_
          obtain ⟨hi_129, hw⟩ := hw
          refine st_z hx hb hK hP hD hS 3 2 rfl rfl hi_129 dX5_assembled_129 (fun v_isIn_t129 ev_isIn_t129 H locs hP hD hS => ?_)
          have hw := hw v_isIn_t129 ev_isIn_t129
          have hP : va_P D vwCl (W_X5_assembled h a cI cJ cZ v_thrown_j65 v_made v_of v_many v_heart v_width v_isIn_t129 v_order_j65 v_sheets v_covered) H := hP
          have hD : va_D A (W_X5_assembled h a cI cJ cZ v_thrown_j65 v_made v_of v_many v_heart v_width v_isIn_t129 v_order_j65 v_sheets v_covered) := hD
          refine lv_aload_n hx hb dX5_assembled_130 rfl (lv_at hl 0 rfl) ?_
          refine va_get (D := D) (ci := 6) (v := .ref (a 19)) (C := RX5) (T := TX5) (N := 24) hx hb hts iRX5 hown hK hP 0 rfl rfl 19 (by decide) (hts (.fieldLink RX5 66 "LeadlightModel" "order" "[I") (List.mem_of_getElem? (i := 5) rfl)) (fun _ h9 => h9) rfl dX5_assembled_131 ?_
          refine lv_iload_n hx hb dX5_assembled_134 rfl (lv_at hl 3 rfl) ?_
          refine lv_iload hx hb dX5_assembled_135 (lv_at hl 4 rfl) ?_
          obtain ⟨hi_137, hw⟩ := hw
          refine st_i hx hb hK hP hD hS 4 0 rfl rfl hi_137 dX5_assembled_137 (fun v_order_t137 ev_order_t137 H locs hP hD hS => ?_)
          have hw := hw v_order_t137 ev_order_t137
          have hP : va_P D vwCl (W_X5_assembled h a cI cJ cZ v_thrown_j65 v_made v_of v_many v_heart v_width v_isIn_t129 v_order_t137 v_sheets v_covered) H := hP
          have hD : va_D A (W_X5_assembled h a cI cJ cZ v_thrown_j65 v_made v_of v_many v_heart v_width v_isIn_t129 v_order_t137 v_sheets v_covered) := hD
          refine lv_iinc (v := (x3_j65 + 1)) (lv' := [(3, .int (x3_j65 + 1)), (0, .ref h), (1, .int p1), (2, .int x2_j65), (4, .int x4_j65), (5, .int x5_j65)]) hx hb dX5_assembled_138 hl (k := 3) rfl rfl (by decide) rfl (fun ls hl => ?_)
          refine lv_goto (tgt := 49) hx hb dX5_assembled_141 (by decide) ?_
          exact ih49 (x2_j65, (x3_j65 + 1), v_thrown_j65, v_isIn_t129, v_order_t137) hw _ _ ls hP hD hS (lv_sub hl [1, 2, 3, 0] rfl)
        · have hw := hw.1 c117
          refine lv_iconst (v := (-1)) hx hb dX5_assembled_120 (by decide) ?_
          exact RT (-1) (v_thrown_j65, v_isIn_j65, v_order_j65) _ _ _ _ dX5_assembled_121 hw hP hD hS
      · have hw := hw.2 c67
        refine lv_aload_n hx hb dX5_assembled_70 rfl (lv_at hl 0 rfl) ?_
        refine va_get (D := D) (ci := 6) (v := .ref (a 3)) (C := RX5) (T := TX5) (N := 24) hx hb hts iRX5 hown hK hP 0 rfl rfl 3 (by decide) (hts (.fieldLink RX5 17 "LeadlightModel" "many" "[I") (List.mem_of_getElem? (i := 4) rfl)) (fun _ h9 => h9) rfl dX5_assembled_71 ?_
        refine lv_iload hx hb dX5_assembled_74 (lv_at hl 5 rfl) ?_
        obtain ⟨hi_76, hw⟩ := hw
        refine va_iald hx hb hK hP 2 0 rfl rfl hi_76 dX5_assembled_76 ?_
        refine lv_if_le (tgt := 104) hx hb dX5_assembled_77 (by decide) (fun c77 => ?_) (fun c77 => ?_)
        · have hw := hw.1 c77
          refine lv_iload hx hb dX5_assembled_104 (lv_at hl 4 rfl) ?_
          exact J106 x4_j65 x2_j65 x3_j65 x5_j65 v_thrown_j65 v_isIn_j65 v_order_j65 hw _ _ ls hP hD hS (lv_sub hl [0, 1, 2, 3, 5] rfl)
        · have hw := hw.2 c77
          refine lv_aload_n hx hb dX5_assembled_80 rfl (lv_at hl 0 rfl) ?_
          refine va_get (D := D) (ci := 6) (v := .ref (a 18)) (C := RX5) (T := TX5) (N := 24) hx hb hts iRX5 hown hK hP 0 rfl rfl 18 (by decide) (hts (.fieldLink RX5 63 "LeadlightModel" "isIn" "[Z") (List.mem_of_getElem? (i := 3) rfl)) (fun _ h9 => h9) rfl dX5_assembled_81 ?_
          refine lv_iload hx hb dX5_assembled_84 (lv_at hl 5 rfl) ?_
          obtain ⟨hi_86, hw⟩ := hw
          refine va_zald hx hb hK hP 3 2 rfl rfl hi_86 dX5_assembled_86 ?_
          refine lv_if_ne (tgt := 104) hx hb dX5_assembled_87 (by decide) (fun c87 => ?_) (fun c87 => ?_)
          · have hw := hw.2 c87
            refine lv_iload hx hb dX5_assembled_104 (lv_at hl 4 rfl) ?_
            exact J106 x4_j65 x2_j65 x3_j65 x5_j65 v_thrown_j65 v_isIn_j65 v_order_j65 hw _ _ ls hP hD hS (lv_sub hl [0, 1, 2, 3, 5] rfl)
          · have hw := hw.1 c87
            refine lv_aload_n hx hb dX5_assembled_90 rfl (lv_at hl 0 rfl) ?_
            refine lv_iload hx hb dX5_assembled_91 (lv_at hl 5 rfl) ?_
            refine af_i (X := (W_X5_assembled h a cI cJ cZ v_thrown_j65 v_made v_of v_many v_heart v_width v_isIn_j65 v_order_j65 v_sheets v_covered)) (pl := []) (cx := (W_X5_canGoIn h a cI cJ cZ v_thrown_j65 v_made v_of v_heart v_width v_isIn_j65 v_sheets v_covered)) (w1 := fun (u : Unit) => (W_X5_canGoIn h a cI cJ cZ v_thrown_j65 v_made v_of v_heart v_width v_isIn_j65 v_sheets v_covered)) (X' := fun (u : Unit) => (W_X5_assembled h a cI cJ cZ v_thrown_j65 v_made v_of v_many v_heart v_width v_isIn_j65 v_order_j65 v_sheets v_covered)) hP hD hS hA [0, 1, 3] [2, 4] [2, 3, 0, 4, 1] rfl rfl (by decide) (by decide) (fun u => rfl) (by decide) (va_runV (As := [.int x5_j65]) (rest := []) ⟨hx, hb, hml, hown, hts⟩ (c_X5_canGoIn l D cI cJ cZ cO h a H.size v_thrown_j65 v_made v_of v_heart v_width v_isIn_j65 v_sheets v_covered x5_j65 _ hw) (cwV 1 hts gX5_assembled_X5_canGoIn rfl rfl rfl (by decide +kernel) ⟨Nat.le_of_ble_eq_true rfl, Nat.le_of_ble_eq_true rfl⟩) (preV (X := (W_X5_assembled h a cI cJ cZ v_thrown_j65 v_made v_of v_many v_heart v_width v_isIn_j65 v_order_j65 v_sheets v_covered)) (pl := []) (cx := (W_X5_canGoIn h a cI cJ cZ v_thrown_j65 v_made v_of v_heart v_width v_isIn_j65 v_sheets v_covered)) (qb := 0) (ci := 6) hK hE hP hD [0, 1, 3] (by decide) rfl rfl rfl) rfl rfl hl.1 rfl (lv_room (Nat.le_of_ble_eq_true rfl)) dX5_assembled_93 ⟨Nat.zero_le _, Nat.zero_le _⟩) (fun r_93 _ H locs hw hP hD hS => ?_)
            try dsimp only at hw
            have hP : va_P D vwCl (W_X5_assembled h a cI cJ cZ v_thrown_j65 v_made v_of v_many v_heart v_width v_isIn_j65 v_order_j65 v_sheets v_covered) H := hP
            have hD : va_D A (W_X5_assembled h a cI cJ cZ v_thrown_j65 v_made v_of v_many v_heart v_width v_isIn_j65 v_order_j65 v_sheets v_covered) := hD
            refine lv_if_eq (tgt := 104) hx hb dX5_assembled_96 (by decide) (fun c96 => ?_) (fun c96 => ?_)
            · have hw := hw.1 c96
              refine lv_iload hx hb dX5_assembled_104 (lv_at hl 4 rfl) ?_
              exact J106 x4_j65 x2_j65 x3_j65 x5_j65 v_thrown_j65 v_isIn_j65 v_order_j65 hw _ _ ls hP hD hS (lv_sub hl [0, 1, 2, 3, 5] rfl)
            · have hw := hw.2 c96
              refine lv_iload hx hb dX5_assembled_99 (lv_at hl 5 rfl) ?_
              refine lv_goto (tgt := 106) hx hb dX5_assembled_101 (by decide) ?_
              exact J106 x5_j65 x2_j65 x3_j65 x5_j65 v_thrown_j65 v_isIn_j65 v_order_j65 hw _ _ ls hP hD hS (lv_sub hl [0, 1, 2, 3, 5] rfl)
    unfold wp_X5_assembled_49 at hw
    refine lv_iload_n hx hb dX5_assembled_49 rfl (lv_at hl 3 rfl) ?_
    refine lv_iload_n hx hb dX5_assembled_50 rfl (lv_at hl 2 rfl) ?_
    refine lv_icmp_ge (tgt := 144) hx hb dX5_assembled_51 (by decide) (fun c51 => ?_) (fun c51 => ?_)
    · have hw := hw.1 c51
      refine lv_iload_n hx hb dX5_assembled_144 rfl (lv_at hl 1 rfl) ?_
      refine lv_iconst (v := 0) hx hb dX5_assembled_145 (by decide) ?_
      refine lv_iload_n hx hb dX5_assembled_146 rfl (lv_at hl 2 rfl) ?_
      refine lv_iconst (v := 1) hx hb dX5_assembled_147 (by decide) ?_
      refine lv_isub hx hb dX5_assembled_148 ?_
      refine af_i (X := (W_X5_assembled h a cI cJ cZ v_thrown_j49 v_made v_of v_many v_heart v_width v_isIn_j49 v_order_j49 v_sheets v_covered)) (pl := []) (cx := ([] : va_W)) (w1 := fun (u : Unit) => ([] : va_W)) (X' := fun (u : Unit) => (W_X5_assembled h a cI cJ cZ v_thrown_j49 v_made v_of v_many v_heart v_width v_isIn_j49 v_order_j49 v_sheets v_covered)) hP hD hS hA [] [0, 1, 2, 3, 4] [0, 1, 2, 3, 4] rfl rfl (by decide) (by decide) (fun u => rfl) (by decide) (va_runS (As := [.int p1, .int 0, .int (x2_j49 - 1)]) (rest := []) ⟨hx, hb, hml, hown, hts⟩ (c_X5_in l D cI cJ cZ cO H.size p1 0 (x2_j49 - 1) _ hw) (va_cwS 3 hts gX5_assembled_X5_in rfl rfl rfl (by decide +kernel) ⟨Nat.le_of_ble_eq_true rfl, Nat.le_of_ble_eq_true rfl⟩) (preS (X := (W_X5_assembled h a cI cJ cZ v_thrown_j49 v_made v_of v_many v_heart v_width v_isIn_j49 v_order_j49 v_sheets v_covered)) (pl := []) (cx := ([] : va_W)) hK hE hP hD [] (by decide) rfl) rfl rfl hl.1 rfl (lv_room (Nat.le_of_ble_eq_true rfl)) dX5_assembled_149 ⟨Nat.zero_le _, Nat.zero_le _⟩) (fun r_149 _ H locs hw hP hD hS => ?_)
      try dsimp only at hw
      have hP : va_P D vwCl (W_X5_assembled h a cI cJ cZ v_thrown_j49 v_made v_of v_many v_heart v_width v_isIn_j49 v_order_j49 v_sheets v_covered) H := hP
      have hD : va_D A (W_X5_assembled h a cI cJ cZ v_thrown_j49 v_made v_of v_many v_heart v_width v_isIn_j49 v_order_j49 v_sheets v_covered) := hD
      refine lv_if_eq (tgt := 164) hx hb dX5_assembled_152 (by decide) (fun c152 => ?_) (fun c152 => ?_)
      · have hw := hw.1 c152
        refine lv_iconst (v := (-1)) hx hb dX5_assembled_164 (by decide) ?_
        exact RT (-1) (v_thrown_j49, v_isIn_j49, v_order_j49) _ _ _ _ dX5_assembled_165 hw hP hD hS
      · have hw := hw.2 c152
        refine lv_aload_n hx hb dX5_assembled_155 rfl (lv_at hl 0 rfl) ?_
        refine va_get (D := D) (ci := 6) (v := .ref (a 19)) (C := RX5) (T := TX5) (N := 24) hx hb hts iRX5 hown hK hP 0 rfl rfl 19 (by decide) (hts (.fieldLink RX5 66 "LeadlightModel" "order" "[I") (List.mem_of_getElem? (i := 5) rfl)) (fun _ h9 => h9) rfl dX5_assembled_156 ?_
        refine lv_iload_n hx hb dX5_assembled_159 rfl (lv_at hl 1 rfl) ?_
        obtain ⟨hi_160, hw⟩ := hw
        refine va_iald hx hb hK hP 4 0 rfl rfl hi_160 dX5_assembled_160 ?_
        refine lv_goto (tgt := 165) hx hb dX5_assembled_161 (by decide) ?_
        exact RT (v_order_j49 p1.toNatClampNeg) (v_thrown_j49, v_isIn_j49, v_order_j49) _ _ _ _ dX5_assembled_165 hw hP hD hS
    · have hw := hw.2 c51
      refine lv_iconst (v := (-1)) hx hb dX5_assembled_54 (by decide) ?_
      refine lv_istore (lv' := [(4, .int (-1)), (0, .ref h), (1, .int p1), (2, .int x2_j49), (3, .int x3_j49)]) hx hb dX5_assembled_55 hl (by decide) rfl (fun ls hl => ?_)
      refine lv_aload_n hx hb dX5_assembled_57 rfl (lv_at hl 1 rfl) ?_
      refine va_get (D := D) (ci := 6) (v := .int v_made) (C := RX5) (T := TX5) (N := 24) hx hb hts iRX5 hown hK hP 0 rfl rfl 1 (by decide) (hts (.fieldLink RX5 7 "LeadlightModel" "made" "I") (List.mem_of_getElem? (i := 2) rfl)) (fun _ h9 => h9) rfl dX5_assembled_58 ?_
      refine lv_iconst (v := 1) hx hb dX5_assembled_61 (by decide) ?_
      refine lv_isub hx hb dX5_assembled_62 ?_
      refine lv_istore (lv' := [(5, .int (v_made - 1)), (4, .int (-1)), (0, .ref h), (1, .int p1), (2, .int x2_j49), (3, .int x3_j49)]) hx hb dX5_assembled_63 hl (by decide) rfl (fun ls hl => ?_)
      exact L65 (x2_j49, x3_j49, (-1), (v_made - 1), v_thrown_j49, v_isIn_j49, v_order_j49) hw _ _ ls hP hD hS (lv_sub hl [2, 3, 4, 5, 1, 0] rfl)
  have L9 : ∀ s0 : (Int32 × Int32 × Int32 × (Nat → Int32)), lp (lF_X5_assembled_9 v_thrown v_made v_of v_many v_isIn v_order p1 post) s0 → ∀ (H : Heap) (locs : List Loc) (ls : Array Slot), va_P D vwCl (W_X5_assembled h a cI cJ cZ s0.2.2.1 v_made v_of v_many v_heart v_width s0.2.2.2 v_order v_sheets v_covered) H → va_D A (W_X5_assembled h a cI cJ cZ s0.2.2.1 v_made v_of v_many v_heart v_width s0.2.2.2 v_order v_sheets v_covered) → va_S A s.heap H locs → lv_has ls 6 [(0, .ref h), (1, .int p1), (2, .int s0.1), (3, .int s0.2.1)] → W p l e rm_X5_assembled s m args below meth c H locs 0 0 QQ (F0 m 9 ls []) := by
    refine lp_elim (fun K9 ih9 s0 hw => ?_)
    obtain ⟨x2_j9, x3_j9, v_thrown_j9, v_isIn_j9⟩ := s0
    intro H locs ls hP hD hS hl
    have hw : wp_X5_assembled_9 v_thrown v_made v_of v_many v_isIn v_order p1 post (fun b0 b1 b2 b3 => K9 (b0, b1, b2, b3)) x2_j9 x3_j9 v_thrown_j9 v_isIn_j9 := hw
    have hP : va_P D vwCl (W_X5_assembled h a cI cJ cZ v_thrown_j9 v_made v_of v_many v_heart v_width v_isIn_j9 v_order v_sheets v_covered) H := hP
    have hD : va_D A (W_X5_assembled h a cI cJ cZ v_thrown_j9 v_made v_of v_many v_heart v_width v_isIn_j9 v_order v_sheets v_covered) := hD
    have hl : lv_has ls 6 [(0, .ref h), (1, .int p1), (2, .int x2_j9), (3, .int x3_j9)] := hl
    have J39 : ∀ (s0_j39 : Int32) (s1_j39 : Int32) (x3_j39 : Int32) (v_thrown_j39 : Int32) (v_isIn_j39 : Nat → Int32) , wp_X5_assembled_39 v_thrown v_made v_of v_many v_isIn v_order p1 post (fun b0 b1 b2 b3 => K9 (b0, b1, b2, b3)) s0_j39 s1_j39 x3_j39 v_thrown_j39 v_isIn_j39 → ∀ (H : Heap) (locs : List Loc) (ls : Array Slot), va_P D vwCl (W_X5_assembled h a cI cJ cZ v_thrown_j39 v_made v_of v_many v_heart v_width v_isIn_j39 v_order v_sheets v_covered) H → va_D A (W_X5_assembled h a cI cJ cZ v_thrown_j39 v_made v_of v_many v_heart v_width v_isIn_j39 v_order v_sheets v_covered) → va_S A s.heap H locs → lv_has ls 6 [(0, .ref h), (1, .int p1), (3, .int x3_j39)] → W p l e rm_X5_assembled s m args below meth c H locs 0 0 QQ (F0 m 39 ls [.int s1_j39, .int s0_j39]) := by
      intro s0_j39 s1_j39 x3_j39 v_thrown_j39 v_isIn_j39 hw H locs ls hP hD hS hl
      unfold wp_X5_assembled_39 at hw
      refine lv_iadd hx hb dX5_assembled_39 ?_
      refine lv_istore_n (lv' := [(2, .int (s0_j39 + s1_j39)), (0, .ref h), (1, .int p1), (3, .int x3_j39)]) hx hb dX5_assembled_40 rfl hl (by decide) rfl (fun ls hl => ?_)
      refine lv_iinc (v := (x3_j39 + 1)) (lv' := [(3, .int (x3_j39 + 1)), (2, .int (s0_j39 + s1_j39)), (0, .ref h), (1, .int p1)]) hx hb dX5_assembled_41 hl (k := 3) rfl rfl (by decide) rfl (fun ls hl => ?_)
      refine lv_goto (tgt := 9) hx hb dX5_assembled_44 (by decide) ?_
      exact ih9 ((s0_j39 + s1_j39), (x3_j39 + 1), v_thrown_j39, v_isIn_j39) hw _ _ ls hP hD hS (lv_sub hl [2, 3, 1, 0] rfl)
    unfold wp_X5_assembled_9 at hw
    refine lv_iload_n hx hb dX5_assembled_9 rfl (lv_at hl 3 rfl) ?_
    refine lv_aload_n hx hb dX5_assembled_10 rfl (lv_at hl 0 rfl) ?_
    refine va_get (D := D) (ci := 6) (v := .int v_made) (C := RX5) (T := TX5) (N := 24) hx hb hts iRX5 hown hK hP 0 rfl rfl 1 (by decide) (hts (.fieldLink RX5 7 "LeadlightModel" "made" "I") (List.mem_of_getElem? (i := 2) rfl)) (fun _ h9 => h9) rfl dX5_assembled_11 ?_
    refine lv_icmp_ge (tgt := 47) hx hb dX5_assembled_14 (by decide) (fun c14 => ?_) (fun c14 => ?_)
    · have hw := hw.1 c14
      refine lv_iconst (v := 0) hx hb dX5_assembled_47 (by decide) ?_
      refine lv_istore_n (lv' := [(3, .int 0), (0, .ref h), (1, .int p1), (2, .int x2_j9)]) hx hb dX5_assembled_48 rfl hl (by decide) rfl (fun ls hl => ?_)
      exact L49 (x2_j9, 0, v_thrown_j9, v_isIn_j9, v_order) hw _ _ ls hP hD hS (lv_sub hl [1, 2, 3, 0] rfl)
    · have hw := hw.2 c14
      refine lv_aload_n hx hb dX5_assembled_17 rfl (lv_at hl 0 rfl) ?_
      refine va_get (D := D) (ci := 6) (v := .ref (a 18)) (C := RX5) (T := TX5) (N := 24) hx hb hts iRX5 hown hK hP 0 rfl rfl 18 (by decide) (hts (.fieldLink RX5 63 "LeadlightModel" "isIn" "[Z") (List.mem_of_getElem? (i := 3) rfl)) (fun _ h9 => h9) rfl dX5_assembled_18 ?_
      refine lv_iload_n hx hb dX5_assembled_21 rfl (lv_at hl 3 rfl) ?_
      refine lv_iconst (v := 0) hx hb dX5_assembled_22 (by decide) ?_
      obtain ⟨hi_23, hw⟩ := hw
      refine st_z hx hb hK hP hD hS 3 2 rfl rfl hi_23 dX5_assembled_23 (fun v_isIn_t23 ev_isIn_t23 H locs hP hD hS => ?_)
      have hw := hw v_isIn_t23 ev_isIn_t23
      have hP : va_P D vwCl (W_X5_assembled h a cI cJ cZ v_thrown_j9 v_made v_of v_many v_heart v_width v_isIn_t23 v_order v_sheets v_covered) H := hP
      have hD : va_D A (W_X5_assembled h a cI cJ cZ v_thrown_j9 v_made v_of v_many v_heart v_width v_isIn_t23 v_order v_sheets v_covered) := hD
      refine lv_iload_n hx hb dX5_assembled_24 rfl (lv_at hl 2 rfl) ?_
      refine lv_aload_n hx hb dX5_assembled_25 rfl (lv_at hl 0 rfl) ?_
      refine va_get (D := D) (ci := 6) (v := .ref (a 3)) (C := RX5) (T := TX5) (N := 24) hx hb hts iRX5 hown hK hP 0 rfl rfl 3 (by decide) (hts (.fieldLink RX5 17 "LeadlightModel" "many" "[I") (List.mem_of_getElem? (i := 4) rfl)) (fun _ h9 => h9) rfl dX5_assembled_26 ?_
      refine lv_iload_n hx hb dX5_assembled_29 rfl (lv_at hl 3 rfl) ?_
      obtain ⟨hi_30, hw⟩ := hw
      refine va_iald hx hb hK hP 2 0 rfl rfl hi_30 dX5_assembled_30 ?_
      refine lv_if_le (tgt := 38) hx hb dX5_assembled_31 (by decide) (fun c31 => ?_) (fun c31 => ?_)
      · have hw := hw.1 c31
        refine lv_iconst (v := 0) hx hb dX5_assembled_38 (by decide) ?_
        exact J39 x2_j9 0 x3_j9 v_thrown_j9 v_isIn_t23 hw _ _ ls hP hD hS (lv_sub hl [0, 1, 3] rfl)
      · have hw := hw.2 c31
        refine lv_iconst (v := 1) hx hb dX5_assembled_34 (by decide) ?_
        refine lv_goto (tgt := 39) hx hb dX5_assembled_35 (by decide) ?_
        exact J39 x2_j9 1 x3_j9 v_thrown_j9 v_isIn_t23 hw _ _ ls hP hD hS (lv_sub hl [0, 1, 3] rfl)
  refine lv_aload_n hx hb dX5_assembled_0 rfl (lv_at hl 0 rfl) ?_
  refine lv_iconst (v := 0) hx hb dX5_assembled_1 (by decide) ?_
  refine lv_topi (fun v_thrown_t2 ev_thrown_t2 => ?_)
  have hw := hw v_thrown_t2 ev_thrown_t2
  refine va_put (D := D) (ci := 6) (v := .int v_thrown_t2) (ty := .int) (C := RX5) (T := TX5) (N := 24) hx hb hts iRX5 tyX5 tyX5_ok nmX5 hown hK hP hD hS 0 rfl rfl 0 (by decide) (hts (.fieldLink RX5 79 "LeadlightModel" "thrown" "I") (List.mem_of_getElem? (i := 1) rfl)) (fun _ h9 => h9) rfl (by decide +kernel) rfl rfl (Nat.le_of_ble_eq_true rfl) dX5_assembled_2 (fun H locs hP hD hS => ?_)
  have hP : va_P D vwCl (W_X5_assembled h a cI cJ cZ v_thrown_t2 v_made v_of v_many v_heart v_width v_isIn v_order v_sheets v_covered) H := hP
  have hD : va_D A (W_X5_assembled h a cI cJ cZ v_thrown_t2 v_made v_of v_many v_heart v_width v_isIn v_order v_sheets v_covered) := hD
  refine lv_iconst (v := 0) hx hb dX5_assembled_5 (by decide) ?_
  refine lv_istore_n (lv' := [(2, .int 0), (0, .ref h), (1, .int p1)]) hx hb dX5_assembled_6 rfl hl (by decide) rfl (fun ls hl => ?_)
  refine lv_iconst (v := 0) hx hb dX5_assembled_7 (by decide) ?_
  refine lv_istore_n (lv' := [(3, .int 0), (2, .int 0), (0, .ref h), (1, .int p1)]) hx hb dX5_assembled_8 rfl hl (by decide) rfl (fun ls hl => ?_)
  exact L9 (0, 0, v_thrown_t2, v_isIn) hw _ _ ls hP hD hS (lv_sub hl [2, 3, 1, 0] rfl)
