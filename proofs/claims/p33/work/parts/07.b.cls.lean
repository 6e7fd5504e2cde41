/-! printed by wip/whole/gen: X0_ownerAt X0_holds X0_present X0_hand X3_has X0_hand_ X0_touches X0_adjoin X0_leadsBetween X0_leadLength -/
abbrev rm_X0_ownerAt : Room := { frames := 0, cells := 0, slots := 0, locals := 0 }
abbrev W_X0_ownerAt (h : Nat) (a : Nat → Nat) (cI cJ cZ : ClassId) (v_owners : Nat → Int32) : va_W := [(h, .inr (1, [.ref (a 0), .ref (a 1)])), ((a 0), .inl (cI, 256, .inl v_owners))]
def wp_X0_ownerAt (v_owners : Nat → Int32) (p1 : Int32) (p2 : Int32) (post : Int32 → Prop) : Prop := (p1 < 0 → post (-1)) ∧ (¬ p1 < 0 → (16 ≤ p1 → post (-1)) ∧ (¬ 16 ≤ p1 → (p2 < 0 → post (-1)) ∧ (¬ p2 < 0 → (p2 < 16 → vp_in ((p1 * 16) + p2) 256 ∧ (post (v_owners ((p1 * 16) + p2).toNatClampNeg))) ∧ (¬ p2 < 16 → post (-1)))))
set_option maxHeartbeats 4000000 in
set_option maxRecDepth 100000 in
theorem c_X0_ownerAt (l : Launch) (D : va_G) (cI cJ cZ cO : ClassId) (h : Nat) (a : Nat → Nat) (sz : Nat) (v_owners : Nat → Int32) (p1 : Int32) (p2 : Int32) (post : Int32 → Prop) (hw : wp_X0_ownerAt v_owners p1 p2 post) : Met l yX0_ownerAt wsX0_ownerAt rm_X0_ownerAt (va_Pc [.ref h, .int p1, .int p2] (PRE D cI cJ cZ cO (W_X0_ownerAt h a cI cJ cZ v_owners) sz)) (va_Qi (fun r (_ : Unit) => post r) (fun u t => POST D (va_A (W_X0_ownerAt h a cI cJ cZ v_owners) sz) (W_X0_ownerAt h a cI cJ cZ v_owners) t) (va_A (W_X0_ownerAt h a cI cJ cZ v_owners) sz)) 0 0 (va_A (W_X0_ownerAt h a cI cJ cZ v_owners) sz) := by
  refine met_go (cc := cX0_ownerAt) (maxL := 3) (ret := some .int) RX0 rfl (by decide) rfl (Nat.le_of_ble_eq_true rfl) ?_
  intro p e s m args below meth c ls hx hb hr hts hown hlocks hin hml hsz hP hK hE hD hA hS hl
  have iRX0 : ∀ w ∈ u_ws RX0 TX0 2, w ∈ wsX0_ownerAt := mem_seg 2 2 rfl
  generalize va_A (W_X0_ownerAt h a cI cJ cZ v_owners) sz = A at hD hA hS ⊢
  have RT : ∀ (v : Int32) (u : Unit) (H : Heap) (locs : List Loc) (pc : Nat) (ls : Array Slot), decode cX0_ownerAt pc = .ok (.ireturn, 1) → post v → va_P D vwCl (W_X0_ownerAt h a cI cJ cZ v_owners) H → va_D A (W_X0_ownerAt h a cI cJ cZ v_owners) → va_S A s.heap H locs → W p l e rm_X0_ownerAt s m args below meth c H locs 0 0 (MQ below (va_Qi (fun r (_ : Unit) => post r) (fun u t => POST D A (W_X0_ownerAt h a cI cJ cZ v_owners) t) A) args s 0 0 A) (F0 m pc ls [.int v]) := fun v u H locs pc ls d g1 g2 g3 g4 => rt_i (Wf := fun u => (W_X0_ownerAt h a cI cJ cZ v_owners)) u hx hb hr hlocks g1 g2 g3 g4 d
  generalize (MQ below (va_Qi (fun r (_ : Unit) => post r) (fun u t => POST D A (W_X0_ownerAt h a cI cJ cZ v_owners) t) A) args s 0 0 A) = QQ at RT ⊢
  have hl : lv_has ls 3 [(0, .ref h), (1, .int p1), (2, .int p2)] := hl
  have hP : va_P D vwCl (W_X0_ownerAt h a cI cJ cZ v_owners) s.heap := hP
  unfold wp_X0_ownerAt at hw
  suffices GO : ∀ (H : Heap) (locs : List Loc), va_P D vwCl (W_X0_ownerAt h a cI cJ cZ v_owners) H → va_S A s.heap H locs → W p l e rm_X0_ownerAt s m args below meth c H locs 0 0 QQ (F0 m 0 ls []) from GO _ _ hP hS
  clear hsz hP hS
  intro H locs hP hS
  refine lv_iload_n hx hb dX0_ownerAt_0 rfl (lv_at hl 1 rfl) ?_
  refine lv_if_lt (tgt := 20) hx hb dX0_ownerAt_1 (by decide) (fun c1 => ?_) (fun c1 => ?_)
  · have hw := hw.1 c1
    refine lv_iconst (v := (-1)) hx hb dX0_ownerAt_20 (by decide) ?_
    exact RT (-1) () _ _ _ _ dX0_ownerAt_21 hw hP hD hS
  · have hw := hw.2 c1
    refine lv_iload_n hx hb dX0_ownerAt_4 rfl (lv_at hl 1 rfl) ?_
    refine lv_bipush (v := 16) hx hb dX0_ownerAt_5 (by decide) ?_
    refine lv_icmp_ge (tgt := 20) hx hb dX0_ownerAt_7 (by decide) (fun c7 => ?_) (fun c7 => ?_)
    · have hw := hw.1 c7
      refine lv_iconst (v := (-1)) hx hb dX0_ownerAt_20 (by decide) ?_
      exact RT (-1) () _ _ _ _ dX0_ownerAt_21 hw hP hD hS
    · have hw := hw.2 c7
      refine lv_iload_n hx hb dX0_ownerAt_10 rfl (lv_at hl 2 rfl) ?_
      refine lv_if_lt (tgt := 20) hx hb dX0_ownerAt_11 (by decide) (fun c11 => ?_) (fun c11 => ?_)
      · have hw := hw.1 c11
        refine lv_iconst (v := (-1)) hx hb dX0_ownerAt_20 (by decide) ?_
        exact RT (-1) () _ _ _ _ dX0_ownerAt_21 hw hP hD hS
      · have hw := hw.2 c11
        refine lv_iload_n hx hb dX0_ownerAt_14 rfl (lv_at hl 2 rfl) ?_
        refine lv_bipush (v := 16) hx hb dX0_ownerAt_15 (by decide) ?_
        refine lv_icmp_lt (tgt := 22) hx hb dX0_ownerAt_17 (by decide) (fun c17 => ?_) (fun c17 => ?_)
        · have hw := hw.1 c17
          refine lv_aload_n hx hb dX0_ownerAt_22 rfl (lv_at hl 0 rfl) ?_
          refine va_get (D := D) (ci := 1) (v := .ref (a 0)) (C := RX0) (T := TX0) (N := 2) hx hb hts iRX0 hown hK hP 0 rfl rfl 0 (by decide) (hts (.fieldLink RX0 9 "Leadlight$Cartoon" "owners" "[I") (List.mem_of_getElem? (i := 1) rfl)) (fun _ h9 => h9) rfl dX0_ownerAt_23 ?_
          refine lv_iload_n hx hb dX0_ownerAt_26 rfl (lv_at hl 1 rfl) ?_
          refine lv_bipush (v := 16) hx hb dX0_ownerAt_27 (by decide) ?_
          refine lv_imul hx hb dX0_ownerAt_29 ?_
          refine lv_iload_n hx hb dX0_ownerAt_30 rfl (lv_at hl 2 rfl) ?_
          refine lv_iadd hx hb dX0_ownerAt_31 ?_
          obtain ⟨hi_32, hw⟩ := hw
          refine va_iald hx hb hK hP 1 0 rfl rfl hi_32 dX0_ownerAt_32 ?_
          exact RT (v_owners ((p1 * 16) + p2).toNatClampNeg) () _ _ _ _ dX0_ownerAt_33 hw hP hD hS
        · have hw := hw.2 c17
          refine lv_iconst (v := (-1)) hx hb dX0_ownerAt_20 (by decide) ?_
          exact RT (-1) () _ _ _ _ dX0_ownerAt_21 hw hP hD hS
abbrev rm_X0_holds : Room := { frames := 0, cells := 0, slots := 0, locals := 0 }
abbrev W_X0_holds (h : Nat) (a : Nat → Nat) (cI cJ cZ : ClassId) (v_owners : Nat → Int32) : va_W := [(h, .inr (1, [.ref (a 0), .ref (a 1)])), ((a 0), .inl (cI, 256, .inl v_owners))]
def wp_X0_holds_11 (v_owners : Nat → Int32) (p1 : Int32) (post : Int32 → Prop) (K11 : Int32 → Int32 → Prop) (x3_j11 : Int32) (x4_j11 : Int32) : Prop := (x3_j11 ≤ x4_j11 → post 0) ∧ (¬ x3_j11 ≤ x4_j11 → vp_in x4_j11 256 ∧ (((v_owners x4_j11.toNatClampNeg) = p1 → post 1) ∧ (¬ (v_owners x4_j11.toNatClampNeg) = p1 → K11 x3_j11 (x4_j11 + 1))))
def lF_X0_holds_11 (v_owners : Nat → Int32) (p1 : Int32) (post : Int32 → Prop) : ((Int32 × Int32) → Prop) → (Int32 × Int32) → Prop := fun K s => wp_X0_holds_11 v_owners p1 post (fun b0 b1 => K (b0, b1)) s.1 s.2
def wp_X0_holds (v_owners : Nat → Int32) (p1 : Int32) (post : Int32 → Prop) : Prop := lp (lF_X0_holds_11 v_owners p1 post) (256, 0)
set_option maxHeartbeats 4000000 in
set_option maxRecDepth 100000 in
theorem c_X0_holds (l : Launch) (D : va_G) (cI cJ cZ cO : ClassId) (h : Nat) (a : Nat → Nat) (sz : Nat) (v_owners : Nat → Int32) (p1 : Int32) (post : Int32 → Prop) (hw : wp_X0_holds v_owners p1 post) : Met l yX0_holds wsX0_holds rm_X0_holds (va_Pc [.ref h, .int p1] (PRE D cI cJ cZ cO (W_X0_holds h a cI cJ cZ v_owners) sz)) (va_Qi (fun r (_ : Unit) => post r) (fun u t => POST D (va_A (W_X0_holds h a cI cJ cZ v_owners) sz) (W_X0_holds h a cI cJ cZ v_owners) t) (va_A (W_X0_holds h a cI cJ cZ v_owners) sz)) 0 0 (va_A (W_X0_holds h a cI cJ cZ v_owners) sz) := by
  refine met_go (cc := cX0_holds) (maxL := 6) (ret := some .boolean) RX0 rfl (by decide) rfl (Nat.le_of_ble_eq_true rfl) ?_
  intro p e s m args below meth c ls hx hb hr hts hown hlocks hin hml hsz hP hK hE hD hA hS hl
  have iRX0 : ∀ w ∈ u_ws RX0 TX0 2, w ∈ wsX0_holds := mem_seg 2 2 rfl
  generalize va_A (W_X0_holds h a cI cJ cZ v_owners) sz = A at hD hA hS ⊢
  have RT : ∀ (v : Int32) (u : Unit) (H : Heap) (locs : List Loc) (pc : Nat) (ls : Array Slot), decode cX0_holds pc = .ok (.ireturn, 1) → (v = 0 ∨ v = 1) → post v → va_P D vwCl (W_X0_holds h a cI cJ cZ v_owners) H → va_D A (W_X0_holds h a cI cJ cZ v_owners) → va_S A s.heap H locs → W p l e rm_X0_holds s m args below meth c H locs 0 0 (MQ below (va_Qi (fun r (_ : Unit) => post r) (fun u t => POST D A (W_X0_holds h a cI cJ cZ v_owners) t) A) args s 0 0 A) (F0 m pc ls [.int v]) := fun v u H locs pc ls d g0 g1 g2 g3 g4 => rt_z (Wf := fun u => (W_X0_holds h a cI cJ cZ v_owners)) u hx hb hr hlocks g0 g1 g2 g3 g4 d
  generalize (MQ below (va_Qi (fun r (_ : Unit) => post r) (fun u t => POST D A (W_X0_holds h a cI cJ cZ v_owners) t) A) args s 0 0 A) = QQ at RT ⊢
  have hl : lv_has ls 6 [(0, .ref h), (1, .int p1)] := hl
  have hP : va_P D vwCl (W_X0_holds h a cI cJ cZ v_owners) s.heap := hP
  unfold wp_X0_holds at hw
  suffices GO : ∀ (H : Heap) (locs : List Loc), va_P D vwCl (W_X0_holds h a cI cJ cZ v_owners) H → va_S A s.heap H locs → W p l e rm_X0_holds s m args below meth c H locs 0 0 QQ (F0 m 0 ls []) from GO _ _ hP hS
  clear hsz hP hS
  intro H locs hP hS
  have L11 : ∀ s0 : (Int32 × Int32), lp (lF_X0_holds_11 v_owners p1 post) s0 → ∀ (H : Heap) (locs : List Loc) (ls : Array Slot), va_P D vwCl (W_X0_holds h a cI cJ cZ v_owners) H → va_D A (W_X0_holds h a cI cJ cZ v_owners) → va_S A s.heap H locs → lv_has ls 6 [(1, .int p1), (2, .ref (a 0)), (3, .int s0.1), (4, .int s0.2)] → W p l e rm_X0_holds s m args below meth c H locs 0 0 QQ (F0 m 11 ls []) := by
    refine lp_elim (fun K11 ih11 s0 hw => ?_)
    obtain ⟨x3_j11, x4_j11⟩ := s0
    intro H locs ls hP hD hS hl
    have hw : wp_X0_holds_11 v_owners p1 post (fun b0 b1 => K11 (b0, b1)) x3_j11 x4_j11 := hw
    have hP : va_P D vwCl (W_X0_holds h a cI cJ cZ v_owners) H := hP
    have hD : va_D A (W_X0_holds h a cI cJ cZ v_owners) := hD
    have hl : lv_has ls 6 [(1, .int p1), (2, .ref (a 0)), (3, .int x3_j11), (4, .int x4_j11)] := hl
    unfold wp_X0_holds_11 at hw
    refine lv_iload hx hb dX0_holds_11 (lv_at hl 3 rfl) ?_
    refine lv_iload_n hx hb dX0_holds_13 rfl (lv_at hl 2 rfl) ?_
    refine lv_icmp_ge (tgt := 37) hx hb dX0_holds_14 (by decide) (fun c14 => ?_) (fun c14 => ?_)
    · have hw := hw.1 c14
      refine lv_iconst (v := 0) hx hb dX0_holds_37 (by decide) ?_
      exact RT 0 () _ _ _ _ dX0_holds_38 (Or.inl rfl) hw hP hD hS
    · have hw := hw.2 c14
      refine lv_aload_n hx hb dX0_holds_17 rfl (lv_at hl 1 rfl) ?_
      refine lv_iload hx hb dX0_holds_18 (lv_at hl 3 rfl) ?_
      obtain ⟨hi_20, hw⟩ := hw
      refine va_iald hx hb hK hP 1 0 rfl rfl hi_20 dX0_holds_20 ?_
      refine lv_istore (lv' := [(5, .int (v_owners x4_j11.toNatClampNeg)), (1, .int p1), (2, .ref (a 0)), (3, .int x3_j11), (4, .int x4_j11)]) hx hb dX0_holds_21 hl (by decide) rfl (fun ls hl => ?_)
      refine lv_iload hx hb dX0_holds_23 (lv_at hl 0 rfl) ?_
      refine lv_iload_n hx hb dX0_holds_25 rfl (lv_at hl 1 rfl) ?_
      refine lv_icmp_ne (tgt := 31) hx hb dX0_holds_26 (by decide) (fun c26 => ?_) (fun c26 => ?_)
      · have hw := hw.2 c26
        refine lv_iinc (v := (x4_j11 + 1)) (lv' := [(4, .int (x4_j11 + 1)), (5, .int (v_owners x4_j11.toNatClampNeg)), (1, .int p1), (2, .ref (a 0)), (3, .int x3_j11)]) hx hb dX0_holds_31 hl (k := 4) rfl rfl (by decide) rfl (fun ls hl => ?_)
        refine lv_goto (tgt := 11) hx hb dX0_holds_34 (by decide) ?_
        exact ih11 (x3_j11, (x4_j11 + 1)) hw _ _ ls hP hD hS (lv_sub hl [2, 3, 4, 0] rfl)
      · have hw := hw.1 c26
        refine lv_iconst (v := 1) hx hb dX0_holds_29 (by decide) ?_
        exact RT 1 () _ _ _ _ dX0_holds_30 (Or.inr rfl) hw hP hD hS
  refine lv_aload_n hx hb dX0_holds_0 rfl (lv_at hl 0 rfl) ?_
  refine va_get (D := D) (ci := 1) (v := .ref (a 0)) (C := RX0) (T := TX0) (N := 2) hx hb hts iRX0 hown hK hP 0 rfl rfl 0 (by decide) (hts (.fieldLink RX0 9 "Leadlight$Cartoon" "owners" "[I") (List.mem_of_getElem? (i := 1) rfl)) (fun _ h9 => h9) rfl dX0_holds_1 ?_
  refine lv_astore_n (lv' := [(2, .ref (a 0)), (0, .ref h), (1, .int p1)]) hx hb dX0_holds_4 rfl hl (by decide) rfl (fun ls hl => ?_)
  refine lv_aload_n hx hb dX0_holds_5 rfl (lv_at hl 0 rfl) ?_
  refine va_alen (v := 256) hx hb hK hP 1 0 rfl rfl rfl dX0_holds_6 ?_
  refine lv_istore_n (lv' := [(3, .int 256), (2, .ref (a 0)), (0, .ref h), (1, .int p1)]) hx hb dX0_holds_7 rfl hl (by decide) rfl (fun ls hl => ?_)
  refine lv_iconst (v := 0) hx hb dX0_holds_8 (by decide) ?_
  refine lv_istore (lv' := [(4, .int 0), (3, .int 256), (2, .ref (a 0)), (0, .ref h), (1, .int p1)]) hx hb dX0_holds_9 hl (by decide) rfl (fun ls hl => ?_)
  exact L11 (256, 0) hw _ _ ls hP hD hS (lv_sub hl [4, 2, 1, 0] rfl)
abbrev rm_X0_present : Room := { frames := 0, cells := 0, slots := 0, locals := 0 }
abbrev W_X0_present (h : Nat) (a : Nat → Nat) (cI cJ cZ : ClassId) (v_owners : Nat → Int32) : va_W := [(h, .inr (1, [.ref (a 0), .ref (a 1)])), ((a 0), .inl (cI, 256, .inl v_owners))]
def wp_X0_present_14 (v_owners : Nat → Int32) (post : Int64 → Prop) (K14 : Int64 → Int32 → Int32 → Prop) (x1_j14 : Int64) (x4_j14 : Int32) (x5_j14 : Int32) : Prop := (x4_j14 ≤ x5_j14 → post x1_j14) ∧ (¬ x4_j14 ≤ x5_j14 → vp_in x5_j14 256 ∧ (∀ y1_33 : Int64, y1_33 = (x1_j14 ||| ((1 : Int64) <<< (((v_owners x5_j14.toNatClampNeg) : Int32).toInt64 &&& 63))) → K14 y1_33 x4_j14 (x5_j14 + 1)))
def lF_X0_present_14 (v_owners : Nat → Int32) (post : Int64 → Prop) : ((Int64 × Int32 × Int32) → Prop) → (Int64 × Int32 × Int32) → Prop := fun K s => wp_X0_present_14 v_owners post (fun b0 b1 b2 => K (b0, b1, b2)) s.1 s.2.1 s.2.2
def wp_X0_present (v_owners : Nat → Int32) (post : Int64 → Prop) : Prop := lp (lF_X0_present_14 v_owners post) (0, 256, 0)
set_option maxHeartbeats 4000000 in
set_option maxRecDepth 100000 in
theorem c_X0_present (l : Launch) (D : va_G) (cI cJ cZ cO : ClassId) (h : Nat) (a : Nat → Nat) (sz : Nat) (v_owners : Nat → Int32) (post : Int64 → Prop) (hw : wp_X0_present v_owners post) : Met l yX0_present wsX0_present rm_X0_present (va_Pc [.ref h] (PRE D cI cJ cZ cO (W_X0_present h a cI cJ cZ v_owners) sz)) (va_Ql (fun r (_ : Unit) => post r) (fun u t => POST D (va_A (W_X0_present h a cI cJ cZ v_owners) sz) (W_X0_present h a cI cJ cZ v_owners) t) (va_A (W_X0_present h a cI cJ cZ v_owners) sz)) 0 0 (va_A (W_X0_present h a cI cJ cZ v_owners) sz) := by
  refine met_go (cc := cX0_present) (maxL := 7) (ret := some .long) RX0 rfl (by decide) rfl (Nat.le_of_ble_eq_true rfl) ?_
  intro p e s m args below meth c ls hx hb hr hts hown hlocks hin hml hsz hP hK hE hD hA hS hl
  have iRX0 : ∀ w ∈ u_ws RX0 TX0 2, w ∈ wsX0_present := mem_seg 2 2 rfl
  generalize va_A (W_X0_present h a cI cJ cZ v_owners) sz = A at hD hA hS ⊢
  have RT : ∀ (v : Int64) (u : Unit) (H : Heap) (locs : List Loc) (pc : Nat) (ls : Array Slot), decode cX0_present pc = .ok (.lreturn, 1) → post v → va_P D vwCl (W_X0_present h a cI cJ cZ v_owners) H → va_D A (W_X0_present h a cI cJ cZ v_owners) → va_S A s.heap H locs → W p l e rm_X0_present s m args below meth c H locs 0 0 (MQ below (va_Ql (fun r (_ : Unit) => post r) (fun u t => POST D A (W_X0_present h a cI cJ cZ v_owners) t) A) args s 0 0 A) (F0 m pc ls [.long v]) := fun v u H locs pc ls d g1 g2 g3 g4 => rt_l (Wf := fun u => (W_X0_present h a cI cJ cZ v_owners)) u hx hb hr hlocks g1 g2 g3 g4 d
  generalize (MQ below (va_Ql (fun r (_ : Unit) => post r) (fun u t => POST D A (W_X0_present h a cI cJ cZ v_owners) t) A) args s 0 0 A) = QQ at RT ⊢
  have hl : lv_has ls 7 [(0, .ref h)] := hl
  have hP : va_P D vwCl (W_X0_present h a cI cJ cZ v_owners) s.heap := hP
  unfold wp_X0_present at hw
  suffices GO : ∀ (H : Heap) (locs : List Loc), va_P D vwCl (W_X0_present h a cI cJ cZ v_owners) H → va_S A s.heap H locs → W p l e rm_X0_present s m args below meth c H locs 0 0 QQ (F0 m 0 ls []) from GO _ _ hP hS
  clear hsz hP hS
  intro H locs hP hS
  have L14 : ∀ s0 : (Int64 × Int32 × Int32), lp (lF_X0_present_14 v_owners post) s0 → ∀ (H : Heap) (locs : List Loc) (ls : Array Slot), va_P D vwCl (W_X0_present h a cI cJ cZ v_owners) H → va_D A (W_X0_present h a cI cJ cZ v_owners) → va_S A s.heap H locs → lv_has ls 7 [(1, .long s0.1), (3, .ref (a 0)), (4, .int s0.2.1), (5, .int s0.2.2)] → W p l e rm_X0_present s m args below meth c H locs 0 0 QQ (F0 m 14 ls []) := by
    refine lp_elim (fun K14 ih14 s0 hw => ?_)
    obtain ⟨x1_j14, x4_j14, x5_j14⟩ := s0
    intro H locs ls hP hD hS hl
    have hw : wp_X0_present_14 v_owners post (fun b0 b1 b2 => K14 (b0, b1, b2)) x1_j14 x4_j14 x5_j14 := hw
    have hP : va_P D vwCl (W_X0_present h a cI cJ cZ v_owners) H := hP
    have hD : va_D A (W_X0_present h a cI cJ cZ v_owners) := hD
    have hl : lv_has ls 7 [(1, .long x1_j14), (3, .ref (a 0)), (4, .int x4_j14), (5, .int x5_j14)] := hl
    unfold wp_X0_present_14 at hw
    refine lv_iload hx hb dX0_present_14 (lv_at hl 3 rfl) ?_
    refine lv_iload hx hb dX0_present_16 (lv_at hl 2 rfl) ?_
    refine lv_icmp_ge (tgt := 40) hx hb dX0_present_18 (by decide) (fun c18 => ?_) (fun c18 => ?_)
    · have hw := hw.1 c18
      refine lv_lload_n hx hb dX0_present_40 rfl (lv_at hl 0 rfl) ?_
      exact RT x1_j14 () _ _ _ _ dX0_present_41 hw hP hD hS
    · have hw := hw.2 c18
      refine lv_aload_n hx hb dX0_present_21 rfl (lv_at hl 1 rfl) ?_
      refine lv_iload hx hb dX0_present_22 (lv_at hl 3 rfl) ?_
      obtain ⟨hi_24, hw⟩ := hw
      refine va_iald hx hb hK hP 1 0 rfl rfl hi_24 dX0_present_24 ?_
      refine lv_istore (lv' := [(6, .int (v_owners x5_j14.toNatClampNeg)), (1, .long x1_j14), (3, .ref (a 0)), (4, .int x4_j14), (5, .int x5_j14)]) hx hb dX0_present_25 hl (by decide) rfl (fun ls hl => ?_)
      refine lv_lload_n hx hb dX0_present_27 rfl (lv_at hl 1 rfl) ?_
      refine lv_lconst (v := 1) hx hb dX0_present_28 (by decide) ?_
      refine lv_iload hx hb dX0_present_29 (lv_at hl 0 rfl) ?_
      refine lv_lshl (v := ((1 : Int64) <<< (((v_owners x5_j14.toNatClampNeg) : Int32).toInt64 &&& 63))) hx hb dX0_present_31 rfl ?_
      refine lv_lor hx hb dX0_present_32 ?_
      refine lv_topl (fun y1_33 ey1_33 => ?_)
      have hw := hw y1_33 ey1_33
      refine lv_lstore_n (lv' := [(1, .long y1_33), (6, .int (v_owners x5_j14.toNatClampNeg)), (3, .ref (a 0)), (4, .int x4_j14), (5, .int x5_j14)]) hx hb dX0_present_33 rfl hl (by decide) rfl (fun ls hl => ?_)
      refine lv_iinc (v := (x5_j14 + 1)) (lv' := [(5, .int (x5_j14 + 1)), (1, .long y1_33), (6, .int (v_owners x5_j14.toNatClampNeg)), (3, .ref (a 0)), (4, .int x4_j14)]) hx hb dX0_present_34 hl (k := 4) rfl rfl (by decide) rfl (fun ls hl => ?_)
      refine lv_goto (tgt := 14) hx hb dX0_present_37 (by decide) ?_
      exact ih14 (y1_33, x4_j14, (x5_j14 + 1)) hw _ _ ls hP hD hS (lv_sub hl [1, 3, 4, 0] rfl)
  refine lv_lconst (v := 0) hx hb dX0_present_0 (by decide) ?_
  refine lv_lstore_n (lv' := [(1, .long 0), (0, .ref h)]) hx hb dX0_present_1 rfl hl (by decide) rfl (fun ls hl => ?_)
  refine lv_aload_n hx hb dX0_present_2 rfl (lv_at hl 1 rfl) ?_
  refine va_get (D := D) (ci := 1) (v := .ref (a 0)) (C := RX0) (T := TX0) (N := 2) hx hb hts iRX0 hown hK hP 0 rfl rfl 0 (by decide) (hts (.fieldLink RX0 9 "Leadlight$Cartoon" "owners" "[I") (List.mem_of_getElem? (i := 1) rfl)) (fun _ h9 => h9) rfl dX0_present_3 ?_
  refine lv_astore_n (lv' := [(3, .ref (a 0)), (1, .long 0), (0, .ref h)]) hx hb dX0_present_6 rfl hl (by decide) rfl (fun ls hl => ?_)
  refine lv_aload_n hx hb dX0_present_7 rfl (lv_at hl 0 rfl) ?_
  refine va_alen (v := 256) hx hb hK hP 1 0 rfl rfl rfl dX0_present_8 ?_
  refine lv_istore (lv' := [(4, .int 256), (3, .ref (a 0)), (1, .long 0), (0, .ref h)]) hx hb dX0_present_9 hl (by decide) rfl (fun ls hl => ?_)
  refine lv_iconst (v := 0) hx hb dX0_present_11 (by decide) ?_
  refine lv_istore (lv' := [(5, .int 0), (4, .int 256), (3, .ref (a 0)), (1, .long 0), (0, .ref h)]) hx hb dX0_present_12 hl (by decide) rfl (fun ls hl => ?_)
  exact L14 (0, 256, 0) hw _ _ ls hP hD hS (lv_sub hl [3, 2, 1, 0] rfl)
abbrev rm_X0_hand : Room := { frames := 0, cells := 0, slots := 0, locals := 0 }
abbrev W_X0_hand (h : Nat) (a : Nat → Nat) (cI cJ cZ : ClassId) (v_owners : Nat → Int32) : va_W := [(h, .inr (1, [.ref (a 0), .ref (a 1)])), ((a 0), .inl (cI, 256, .inl v_owners))]
def wp_X0_hand (v_owners : Nat → Int32) (p1 : Int32) (p2 : Int32) (post : (Nat → Int32) → Prop) : Prop := (p1 < 0 → post v_owners) ∧ (¬ p1 < 0 → (256 ≤ p1 → post v_owners) ∧ (¬ 256 ≤ p1 → vp_in p1 256 ∧ (∀ v_owners_t17 : Nat → Int32, v_owners_t17 = upd v_owners p1.toNatClampNeg p2 → post v_owners_t17)))
set_option maxHeartbeats 4000000 in
set_option maxRecDepth 100000 in
theorem c_X0_hand (l : Launch) (D : va_G) (cI cJ cZ cO : ClassId) (h : Nat) (a : Nat → Nat) (sz : Nat) (v_owners : Nat → Int32) (p1 : Int32) (p2 : Int32) (post : (Nat → Int32) → Prop) (hw : wp_X0_hand v_owners p1 p2 post) : Met l yX0_hand wsX0_hand rm_X0_hand (va_Pc [.ref h, .int p1, .int p2] (PRE D cI cJ cZ cO (W_X0_hand h a cI cJ cZ v_owners) sz)) (va_Qv (fun (u : (Nat → Int32)) => post u) (fun u t => POST D (va_A (W_X0_hand h a cI cJ cZ v_owners) sz) (W_X0_hand h a cI cJ cZ u) t) (va_A (W_X0_hand h a cI cJ cZ v_owners) sz)) 0 0 (va_A (W_X0_hand h a cI cJ cZ v_owners) sz) := by
  refine met_go (cc := cX0_hand) (maxL := 3) (ret := none) RX0 rfl (by decide) rfl (Nat.le_of_ble_eq_true rfl) ?_
  intro p e s m args below meth c ls hx hb hr hts hown hlocks hin hml hsz hP hK hE hD hA hS hl
  have iRX0 : ∀ w ∈ u_ws RX0 TX0 2, w ∈ wsX0_hand := mem_seg 2 2 rfl
  generalize va_A (W_X0_hand h a cI cJ cZ v_owners) sz = A at hD hA hS ⊢
  have RT : ∀ (u : (Nat → Int32)) (H : Heap) (locs : List Loc) (pc : Nat) (ls : Array Slot), decode cX0_hand pc = .ok (.return_, 1) → post u → va_P D vwCl (W_X0_hand h a cI cJ cZ u) H → va_D A (W_X0_hand h a cI cJ cZ u) → va_S A s.heap H locs → W p l e rm_X0_hand s m args below meth c H locs 0 0 (MQ below (va_Qv (fun (u : (Nat → Int32)) => post u) (fun u t => POST D A (W_X0_hand h a cI cJ cZ u) t) A) args s 0 0 A) (F0 m pc ls []) := fun u H locs pc ls d g1 g2 g3 g4 => rt_v (Wf := fun u => (W_X0_hand h a cI cJ cZ u)) u hx hb hr hlocks g1 g2 g3 g4 d
  generalize (MQ below (va_Qv (fun (u : (Nat → Int32)) => post u) (fun u t => POST D A (W_X0_hand h a cI cJ cZ u) t) A) args s 0 0 A) = QQ at RT ⊢
  have hl : lv_has ls 3 [(0, .ref h), (1, .int p1), (2, .int p2)] := hl
  have hP : va_P D vwCl (W_X0_hand h a cI cJ cZ v_owners) s.heap := hP
  unfold wp_X0_hand at hw
  suffices GO : ∀ (H : Heap) (locs : List Loc), va_P D vwCl (W_X0_hand h a cI cJ cZ v_owners) H → va_S A s.heap H locs → W p l e rm_X0_hand s m args below meth c H locs 0 0 QQ (F0 m 0 ls []) from GO _ _ hP hS
  clear hsz hP hS
  intro H locs hP hS
  refine lv_iload_n hx hb dX0_hand_0 rfl (lv_at hl 1 rfl) ?_
  refine lv_if_lt (tgt := 18) hx hb dX0_hand_1 (by decide) (fun c1 => ?_) (fun c1 => ?_)
  · have hw := hw.1 c1
    exact RT v_owners _ _ _ _ dX0_hand_18 hw hP hD hS
  · have hw := hw.2 c1
    refine lv_iload_n hx hb dX0_hand_4 rfl (lv_at hl 1 rfl) ?_
    refine lv_sipush (v := 256) hx hb dX0_hand_5 (by decide) ?_
    refine lv_icmp_ge (tgt := 18) hx hb dX0_hand_8 (by decide) (fun c8 => ?_) (fun c8 => ?_)
    · have hw := hw.1 c8
      exact RT v_owners _ _ _ _ dX0_hand_18 hw hP hD hS
    · have hw := hw.2 c8
      refine lv_aload_n hx hb dX0_hand_11 rfl (lv_at hl 0 rfl) ?_
      refine va_get (D := D) (ci := 1) (v := .ref (a 0)) (C := RX0) (T := TX0) (N := 2) hx hb hts iRX0 hown hK hP 0 rfl rfl 0 (by decide) (hts (.fieldLink RX0 9 "Leadlight$Cartoon" "owners" "[I") (List.mem_of_getElem? (i := 1) rfl)) (fun _ h9 => h9) rfl dX0_hand_12 ?_
      refine lv_iload_n hx hb dX0_hand_15 rfl (lv_at hl 1 rfl) ?_
      refine lv_iload_n hx hb dX0_hand_16 rfl (lv_at hl 2 rfl) ?_
      obtain ⟨hi_17, hw⟩ := hw
      refine st_i hx hb hK hP hD hS 1 0 rfl rfl hi_17 dX0_hand_17 (fun v_owners_t17 ev_owners_t17 H locs hP hD hS => ?_)
      have hw := hw v_owners_t17 ev_owners_t17
      have hP : va_P D vwCl (W_X0_hand h a cI cJ cZ v_owners_t17) H := hP
      have hD : va_D A (W_X0_hand h a cI cJ cZ v_owners_t17) := hD
      exact RT v_owners_t17 _ _ _ _ dX0_hand_18 hw hP hD hS
abbrev rm_X3_has : Room := { frames := 0, cells := 0, slots := 0, locals := 0 }
abbrev W_X3_has (h : Nat) (a : Nat → Nat) (cI cJ cZ : ClassId) (v_rows : Nat → Int32) : va_W := [(h, .inr (4, [.ref (a 0), .ref (a 1)])), ((a 0), .inl (cI, 16, .inl v_rows))]
def wp_X3_has (v_rows : Nat → Int32) (p1 : Int32) (post : Int32 → Prop) : Prop := (p1 < 0 → post 0) ∧ (¬ p1 < 0 → (256 ≤ p1 → post 0) ∧ (¬ 256 ≤ p1 → vp_in (p1 / 16) 16 ∧ ((((((v_rows (p1 / 16).toNatClampNeg)).toUInt32 >>> (((p1 - p1 / 16 * 16) : Int32).toUInt32 &&& Int32.toUInt32 31)).toInt32 &&& 1) = 0 → post 0) ∧ (¬ ((((v_rows (p1 / 16).toNatClampNeg)).toUInt32 >>> (((p1 - p1 / 16 * 16) : Int32).toUInt32 &&& Int32.toUInt32 31)).toInt32 &&& 1) = 0 → post 1))))
set_option maxHeartbeats 4000000 in
set_option maxRecDepth 100000 in
theorem c_X3_has (l : Launch) (D : va_G) (cI cJ cZ cO : ClassId) (h : Nat) (a : Nat → Nat) (sz : Nat) (v_rows : Nat → Int32) (p1 : Int32) (post : Int32 → Prop) (hw : wp_X3_has v_rows p1 post) : Met l yX3_has wsX3_has rm_X3_has (va_Pc [.ref h, .int p1] (PRE D cI cJ cZ cO (W_X3_has h a cI cJ cZ v_rows) sz)) (va_Qi (fun r (_ : Unit) => post r) (fun u t => POST D (va_A (W_X3_has h a cI cJ cZ v_rows) sz) (W_X3_has h a cI cJ cZ v_rows) t) (va_A (W_X3_has h a cI cJ cZ v_rows) sz)) 0 0 (va_A (W_X3_has h a cI cJ cZ v_rows) sz) := by
  refine met_go (cc := cX3_has) (maxL := 2) (ret := some .boolean) RX3 rfl (by decide) rfl (Nat.le_of_ble_eq_true rfl) ?_
  intro p e s m args below meth c ls hx hb hr hts hown hlocks hin hml hsz hP hK hE hD hA hS hl
  have iRX3 : ∀ w ∈ u_ws RX3 TX3 2, w ∈ wsX3_has := mem_seg 2 2 rfl
  generalize va_A (W_X3_has h a cI cJ cZ v_rows) sz = A at hD hA hS ⊢
  have RT : ∀ (v : Int32) (u : Unit) (H : Heap) (locs : List Loc) (pc : Nat) (ls : Array Slot), decode cX3_has pc = .ok (.ireturn, 1) → (v = 0 ∨ v = 1) → post v → va_P D vwCl (W_X3_has h a cI cJ cZ v_rows) H → va_D A (W_X3_has h a cI cJ cZ v_rows) → va_S A s.heap H locs → W p l e rm_X3_has s m args below meth c H locs 0 0 (MQ below (va_Qi (fun r (_ : Unit) => post r) (fun u t => POST D A (W_X3_has h a cI cJ cZ v_rows) t) A) args s 0 0 A) (F0 m pc ls [.int v]) := fun v u H locs pc ls d g0 g1 g2 g3 g4 => rt_z (Wf := fun u => (W_X3_has h a cI cJ cZ v_rows)) u hx hb hr hlocks g0 g1 g2 g3 g4 d
  generalize (MQ below (va_Qi (fun r (_ : Unit) => post r) (fun u t => POST D A (W_X3_has h a cI cJ cZ v_rows) t) A) args s 0 0 A) = QQ at RT ⊢
  have hl : lv_has ls 2 [(0, .ref h), (1, .int p1)] := hl
  have hP : va_P D vwCl (W_X3_has h a cI cJ cZ v_rows) s.heap := hP
  unfold wp_X3_has at hw
  suffices GO : ∀ (H : Heap) (locs : List Loc), va_P D vwCl (W_X3_has h a cI cJ cZ v_rows) H → va_S A s.heap H locs → W p l e rm_X3_has s m args below meth c H locs 0 0 QQ (F0 m 0 ls []) from GO _ _ hP hS
  clear hsz hP hS
  intro H locs hP hS
  refine lv_iload_n hx hb dX3_has_0 rfl (lv_at hl 1 rfl) ?_
  refine lv_if_lt (tgt := 34) hx hb dX3_has_1 (by decide) (fun c1 => ?_) (fun c1 => ?_)
  · have hw := hw.1 c1
    refine lv_iconst (v := 0) hx hb dX3_has_34 (by decide) ?_
    exact RT 0 () _ _ _ _ dX3_has_35 (Or.inl rfl) hw hP hD hS
  · have hw := hw.2 c1
    refine lv_iload_n hx hb dX3_has_4 rfl (lv_at hl 1 rfl) ?_
    refine lv_sipush (v := 256) hx hb dX3_has_5 (by decide) ?_
    refine lv_icmp_ge (tgt := 34) hx hb dX3_has_8 (by decide) (fun c8 => ?_) (fun c8 => ?_)
    · have hw := hw.1 c8
      refine lv_iconst (v := 0) hx hb dX3_has_34 (by decide) ?_
      exact RT 0 () _ _ _ _ dX3_has_35 (Or.inl rfl) hw hP hD hS
    · have hw := hw.2 c8
      refine lv_aload_n hx hb dX3_has_11 rfl (lv_at hl 0 rfl) ?_
      refine va_get (D := D) (ci := 4) (v := .ref (a 0)) (C := RX3) (T := TX3) (N := 2) hx hb hts iRX3 hown hK hP 0 rfl rfl 0 (by decide) (hts (.fieldLink RX3 9 "Leadlight$Shape" "rows" "[I") (List.mem_of_getElem? (i := 1) rfl)) (fun _ h9 => h9) rfl dX3_has_12 ?_
      refine lv_iload_n hx hb dX3_has_15 rfl (lv_at hl 1 rfl) ?_
      refine lv_bipush (v := 16) hx hb dX3_has_16 (by decide) ?_
      refine lv_idiv hx hb dX3_has_18 (by decide) ?_
      obtain ⟨hi_19, hw⟩ := hw
      refine va_iald hx hb hK hP 1 0 rfl rfl hi_19 dX3_has_19 ?_
      refine lv_iload_n hx hb dX3_has_20 rfl (lv_at hl 1 rfl) ?_
      refine lv_bipush (v := 16) hx hb dX3_has_21 (by decide) ?_
      refine lv_irem hx hb dX3_has_23 (by decide) ?_
      refine lv_iushr (v := (((v_rows (p1 / 16).toNatClampNeg)).toUInt32 >>> (((p1 - p1 / 16 * 16) : Int32).toUInt32 &&& Int32.toUInt32 31)).toInt32) hx hb dX3_has_24 rfl ?_
      refine lv_iconst (v := 1) hx hb dX3_has_25 (by decide) ?_
      refine lv_iand hx hb dX3_has_26 ?_
      refine lv_if_eq (tgt := 34) hx hb dX3_has_27 (by decide) (fun c27 => ?_) (fun c27 => ?_)
      · have hw := hw.1 c27
        refine lv_iconst (v := 0) hx hb dX3_has_34 (by decide) ?_
        exact RT 0 () _ _ _ _ dX3_has_35 (Or.inl rfl) hw hP hD hS
      · have hw := hw.2 c27
        refine lv_iconst (v := 1) hx hb dX3_has_30 (by decide) ?_
        refine lv_goto (tgt := 35) hx hb dX3_has_31 (by decide) ?_
        exact RT 1 () _ _ _ _ dX3_has_35 (Or.inr rfl) hw hP hD hS
abbrev rm_X0_hand_ : Room := { frames := 1, cells := 0, slots := 0, locals := 21 }
abbrev W_X0_hand_ (h : Nat) (a : Nat → Nat) (h1 : Nat) (b1 : Nat → Nat) (cI cJ cZ : ClassId) (v_owners : Nat → Int32) (q1_rows : Nat → Int32) : va_W := [(h, .inr (1, [.ref (a 0), .ref (a 1)])), ((a 0), .inl (cI, 256, .inl v_owners)), (h1, .inr (4, [.ref (b1 0), .ref (b1 1)])), ((b1 0), .inl (cI, 16, .inl q1_rows))]
def wp_X0_hand__2 (v_owners : Nat → Int32) (q1_rows : Nat → Int32) (p2 : Int32) (post : (Nat → Int32) → Prop) (K2 : Int32 → (Nat → Int32) → Prop) (x3_j2 : Int32) (v_owners_j2 : Nat → Int32) : Prop := (256 ≤ x3_j2 → post v_owners_j2) ∧ (¬ 256 ≤ x3_j2 → wp_X3_has q1_rows x3_j2 (fun r_11 => (r_11 = 0 → K2 (x3_j2 + 1) v_owners_j2) ∧ (¬ r_11 = 0 → vp_in x3_j2 256 ∧ (∀ v_owners_t23 : Nat → Int32, v_owners_t23 = upd v_owners_j2 x3_j2.toNatClampNeg p2 → K2 (x3_j2 + 1) v_owners_t23))))
def lF_X0_hand__2 (v_owners : Nat → Int32) (q1_rows : Nat → Int32) (p2 : Int32) (post : (Nat → Int32) → Prop) : ((Int32 × (Nat → Int32)) → Prop) → (Int32 × (Nat → Int32)) → Prop := fun K s => wp_X0_hand__2 v_owners q1_rows p2 post (fun b0 b1 => K (b0, b1)) s.1 s.2
def wp_X0_hand_ (v_owners : Nat → Int32) (q1_rows : Nat → Int32) (p2 : Int32) (post : (Nat → Int32) → Prop) : Prop := lp (lF_X0_hand__2 v_owners q1_rows p2 post) (0, v_owners)
set_option maxHeartbeats 4000000 in
set_option maxRecDepth 100000 in
theorem c_X0_hand_ (l : Launch) (D : va_G) (cI cJ cZ cO : ClassId) (h : Nat) (a : Nat → Nat) (h1 : Nat) (b1 : Nat → Nat) (sz : Nat) (v_owners : Nat → Int32) (q1_rows : Nat → Int32) (p2 : Int32) (post : (Nat → Int32) → Prop) (hw : wp_X0_hand_ v_owners q1_rows p2 post) : Met l yX0_hand_ wsX0_hand_ rm_X0_hand_ (va_Pc [.ref h, .ref h1, .int p2] (PRE D cI cJ cZ cO (W_X0_hand_ h a h1 b1 cI cJ cZ v_owners q1_rows) sz)) (va_Qv (fun (u : (Nat → Int32)) => post u) (fun u t => POST D (va_A (W_X0_hand_ h a h1 b1 cI cJ cZ v_owners q1_rows) sz) (W_X0_hand_ h a h1 b1 cI cJ cZ u q1_rows) t) (va_A (W_X0_hand_ h a h1 b1 cI cJ cZ v_owners q1_rows) sz)) 0 0 (va_A (W_X0_hand_ h a h1 b1 cI cJ cZ v_owners q1_rows) sz) := by
  refine met_go (cc := cX0_hand_) (maxL := 4) (ret := none) RX0 rfl (by decide) rfl (Nat.le_of_ble_eq_true rfl) ?_
  intro p e s m args below meth c ls hx hb hr hts hown hlocks hin hml hsz hP hK hE hD hA hS hl
  have iRX0 : ∀ w ∈ u_ws RX0 TX0 2, w ∈ wsX0_hand_ := mem_seg 8 2 rfl
  have iRX3 : ∀ w ∈ u_ws RX3 TX3 2, w ∈ wsX0_hand_ := mem_seg 10 2 rfl
  generalize va_A (W_X0_hand_ h a h1 b1 cI cJ cZ v_owners q1_rows) sz = A at hD hA hS ⊢
  have RT : ∀ (u : (Nat → Int32)) (H : Heap) (locs : List Loc) (pc : Nat) (ls : Array Slot), decode cX0_hand_ pc = .ok (.return_, 1) → post u → va_P D vwCl (W_X0_hand_ h a h1 b1 cI cJ cZ u q1_rows) H → va_D A (W_X0_hand_ h a h1 b1 cI cJ cZ u q1_rows) → va_S A s.heap H locs → W p l e rm_X0_hand_ s m args below meth c H locs 0 0 (MQ below (va_Qv (fun (u : (Nat → Int32)) => post u) (fun u t => POST D A (W_X0_hand_ h a h1 b1 cI cJ cZ u q1_rows) t) A) args s 0 0 A) (F0 m pc ls []) := fun u H locs pc ls d g1 g2 g3 g4 => rt_v (Wf := fun u => (W_X0_hand_ h a h1 b1 cI cJ cZ u q1_rows)) u hx hb hr hlocks g1 g2 g3 g4 d
  generalize (MQ below (va_Qv (fun (u : (Nat → Int32)) => post u) (fun u t => POST D A (W_X0_hand_ h a h1 b1 cI cJ cZ u q1_rows) t) A) args s 0 0 A) = QQ at RT ⊢
  have hl : lv_has ls 4 [(0, .ref h), (1, .ref h1), (2, .int p2)] := hl
  have hP : va_P D vwCl (W_X0_hand_ h a h1 b1 cI cJ cZ v_owners q1_rows) s.heap := hP
  unfold wp_X0_hand_ at hw
  suffices GO : ∀ (H : Heap) (locs : List Loc), va_P D vwCl (W_X0_hand_ h a h1 b1 cI cJ cZ v_owners q1_rows) H → va_S A s.heap H locs → W p l e rm_X0_hand_ s m args below meth c H locs 0 0 QQ (F0 m 0 ls []) from GO _ _ hP hS
  clear hsz hP hS
  intro H locs hP hS
  have L2 : ∀ s0 : (Int32 × (Nat → Int32)), lp (lF_X0_hand__2 v_owners q1_rows p2 post) s0 → ∀ (H : Heap) (locs : List Loc) (ls : Array Slot), va_P D vwCl (W_X0_hand_ h a h1 b1 cI cJ cZ s0.2 q1_rows) H → va_D A (W_X0_hand_ h a h1 b1 cI cJ cZ s0.2 q1_rows) → va_S A s.heap H locs → lv_has ls 4 [(0, .ref h), (1, .ref h1), (2, .int p2), (3, .int s0.1)] → W p l e rm_X0_hand_ s m args below meth c H locs 0 0 QQ (F0 m 2 ls []) := by
    refine lp_elim (fun K2 ih2 s0 hw => ?_)
    obtain ⟨x3_j2, v_owners_j2⟩ := s0
    intro H locs ls hP hD hS hl
    have hw : wp_X0_hand__2 v_owners q1_rows p2 post (fun b0 b1 => K2 (b0, b1)) x3_j2 v_owners_j2 := hw
    have hP : va_P D vwCl (W_X0_hand_ h a h1 b1 cI cJ cZ v_owners_j2 q1_rows) H := hP
    have hD : va_D A (W_X0_hand_ h a h1 b1 cI cJ cZ v_owners_j2 q1_rows) := hD
    have hl : lv_has ls 4 [(0, .ref h), (1, .ref h1), (2, .int p2), (3, .int x3_j2)] := hl
    unfold wp_X0_hand__2 at hw
    refine lv_iload_n hx hb dX0_hand__2 rfl (lv_at hl 3 rfl) ?_
    refine lv_sipush (v := 256) hx hb dX0_hand__3 (by decide) ?_
    refine lv_icmp_ge (tgt := 30) hx hb dX0_hand__6 (by decide) (fun c6 => ?_) (fun c6 => ?_)
    · have hw := hw.1 c6
      exact RT v_owners_j2 _ _ _ _ dX0_hand__30 hw hP hD hS
    · have hw := hw.2 c6
      refine lv_aload_n hx hb dX0_hand__9 rfl (lv_at hl 1 rfl) ?_
      refine lv_iload_n hx hb dX0_hand__10 rfl (lv_at hl 3 rfl) ?_
      refine af_i (X := (W_X0_hand_ h a h1 b1 cI cJ cZ v_owners_j2 q1_rows)) (pl := []) (cx := (W_X3_has h1 b1 cI cJ cZ q1_rows)) (w1 := fun (u : Unit) => (W_X3_has h1 b1 cI cJ cZ q1_rows)) (X' := fun (u : Unit) => (W_X0_hand_ h a h1 b1 cI cJ cZ v_owners_j2 q1_rows)) hP hD hS hA [2, 3] [0, 1] [0, 1, 2, 3] rfl rfl (by decide) (by decide) (fun u => rfl) (by decide) (va_runV (As := [.int x3_j2]) (rest := []) ⟨hx, hb, hml, hown, hts⟩ (c_X3_has l D cI cJ cZ cO h1 b1 H.size q1_rows x3_j2 _ hw) (cwV 1 hts gX0_hand__X3_has rfl rfl rfl (by decide +kernel) ⟨Nat.le_of_ble_eq_true rfl, Nat.le_of_ble_eq_true rfl⟩) (preV (X := (W_X0_hand_ h a h1 b1 cI cJ cZ v_owners_j2 q1_rows)) (pl := []) (cx := (W_X3_has h1 b1 cI cJ cZ q1_rows)) (qb := 0) (ci := 4) hK hE hP hD [2, 3] (by decide) rfl rfl rfl) rfl rfl hl.1 rfl (lv_room (Nat.le_of_ble_eq_true rfl)) dX0_hand__11 ⟨Nat.zero_le _, Nat.zero_le _⟩) (fun r_11 _ H locs hw hP hD hS => ?_)
      try dsimp only at hw
      have hP : va_P D vwCl (W_X0_hand_ h a h1 b1 cI cJ cZ v_owners_j2 q1_rows) H := hP
      have hD : va_D A (W_X0_hand_ h a h1 b1 cI cJ cZ v_owners_j2 q1_rows) := hD
      refine lv_if_eq (tgt := 24) hx hb dX0_hand__14 (by decide) (fun c14 => ?_) (fun c14 => ?_)
      · have hw := hw.1 c14
        refine lv_iinc (v := (x3_j2 + 1)) (lv' := [(3, .int (x3_j2 + 1)), (0, .ref h), (1, .ref h1), (2, .int p2)]) hx hb dX0_hand__24 hl (k := 3) rfl rfl (by decide) rfl (fun ls hl => ?_)
        refine lv_goto (tgt := 2) hx hb dX0_hand__27 (by decide) ?_
        exact ih2 ((x3_j2 + 1), v_owners_j2) hw _ _ ls hP hD hS (lv_sub hl [1, 2, 3, 0] rfl)
      · have hw := hw.2 c14
        refine lv_aload_n hx hb dX0_hand__17 rfl (lv_at hl 0 rfl) ?_
        refine va_get (D := D) (ci := 1) (v := .ref (a 0)) (C := RX0) (T := TX0) (N := 2) hx hb hts iRX0 hown hK hP 0 rfl rfl 0 (by decide) (hts (.fieldLink RX0 9 "Leadlight$Cartoon" "owners" "[I") (List.mem_of_getElem? (i := 1) rfl)) (fun _ h9 => h9) rfl dX0_hand__18 ?_
        refine lv_iload_n hx hb dX0_hand__21 rfl (lv_at hl 3 rfl) ?_
        refine lv_iload_n hx hb dX0_hand__22 rfl (lv_at hl 2 rfl) ?_
        obtain ⟨hi_23, hw⟩ := hw
        refine st_i hx hb hK hP hD hS 1 0 rfl rfl hi_23 dX0_hand__23 (fun v_owners_t23 ev_owners_t23 H locs hP hD hS => ?_)
        have hw := hw v_owners_t23 ev_owners_t23
        have hP : va_P D vwCl (W_X0_hand_ h a h1 b1 cI cJ cZ v_owners_t23 q1_rows) H := hP
        have hD : va_D A (W_X0_hand_ h a h1 b1 cI cJ cZ v_owners_t23 q1_rows) := hD
        refine lv_iinc (v := (x3_j2 + 1)) (lv' := [(3, .int (x3_j2 + 1)), (0, .ref h), (1, .ref h1), (2, .int p2)]) hx hb dX0_hand__24 hl (k := 3) rfl rfl (by decide) rfl (fun ls hl => ?_)
        refine lv_goto (tgt := 2) hx hb dX0_hand__27 (by decide) ?_
        exact ih2 ((x3_j2 + 1), v_owners_t23) hw _ _ ls hP hD hS (lv_sub hl [1, 2, 3, 0] rfl)
  refine lv_iconst (v := 0) hx hb dX0_hand__0 (by decide) ?_
  refine lv_istore_n (lv' := [(3, .int 0), (0, .ref h), (1, .ref h1), (2, .int p2)]) hx hb dX0_hand__1 rfl hl (by decide) rfl (fun ls hl => ?_)
  exact L2 (0, v_owners) hw _ _ ls hP hD hS (lv_sub hl [1, 2, 3, 0] rfl)
abbrev rm_X0_touches : Room := { frames := 1, cells := 0, slots := 0, locals := 22 }
abbrev W_X0_touches (h : Nat) (a : Nat → Nat) (cI cJ cZ : ClassId) (v_owners : Nat → Int32) : va_W := [(h, .inr (1, [.ref (a 0), .ref (a 1)])), ((a 0), .inl (cI, 256, .inl v_owners))]
def wp_X0_touches (v_owners : Nat → Int32) (p1 : Int32) (p2 : Int32) (post : Int32 → Prop) : Prop := wp_X0_ownerAt v_owners ((p1 / 16) - 1) (p1 - p1 / 16 * 16) (fun r_17 => (r_17 = p2 → post 1) ∧ (¬ r_17 = p2 → wp_X0_ownerAt v_owners ((p1 / 16) + 1) (p1 - p1 / 16 * 16) (fun r_30 => (r_30 = p2 → post 1) ∧ (¬ r_30 = p2 → wp_X0_ownerAt v_owners (p1 / 16) ((p1 - p1 / 16 * 16) - 1) (fun r_43 => (r_43 = p2 → post 1) ∧ (¬ r_43 = p2 → wp_X0_ownerAt v_owners (p1 / 16) ((p1 - p1 / 16 * 16) + 1) (fun r_56 => (r_56 = p2 → post 1) ∧ (¬ r_56 = p2 → post 0))))))))
set_option maxHeartbeats 4000000 in
set_option maxRecDepth 100000 in
theorem c_X0_touches (l : Launch) (D : va_G) (cI cJ cZ cO : ClassId) (h : Nat) (a : Nat → Nat) (sz : Nat) (v_owners : Nat → Int32) (p1 : Int32) (p2 : Int32) (post : Int32 → Prop) (hw : wp_X0_touches v_owners p1 p2 post) : Met l yX0_touches wsX0_touches rm_X0_touches (va_Pc [.ref h, .int p1, .int p2] (PRE D cI cJ cZ cO (W_X0_touches h a cI cJ cZ v_owners) sz)) (va_Qi (fun r (_ : Unit) => post r) (fun u t => POST D (va_A (W_X0_touches h a cI cJ cZ v_owners) sz) (W_X0_touches h a cI cJ cZ v_owners) t) (va_A (W_X0_touches h a cI cJ cZ v_owners) sz)) 0 0 (va_A (W_X0_touches h a cI cJ cZ v_owners) sz) := by
  refine met_go (cc := cX0_touches) (maxL := 5) (ret := some .boolean) RX0 rfl (by decide) rfl (Nat.le_of_ble_eq_true rfl) ?_
  intro p e s m args below meth c ls hx hb hr hts hown hlocks hin hml hsz hP hK hE hD hA hS hl
  have iRX0 : ∀ w ∈ u_ws RX0 TX0 2, w ∈ wsX0_touches := mem_seg 7 2 rfl
  generalize va_A (W_X0_touches h a cI cJ cZ v_owners) sz = A at hD hA hS ⊢
  have RT : ∀ (v : Int32) (u : Unit) (H : Heap) (locs : List Loc) (pc : Nat) (ls : Array Slot), decode cX0_touches pc = .ok (.ireturn, 1) → (v = 0 ∨ v = 1) → post v → va_P D vwCl (W_X0_touches h a cI cJ cZ v_owners) H → va_D A (W_X0_touches h a cI cJ cZ v_owners) → va_S A s.heap H locs → W p l e rm_X0_touches s m args below meth c H locs 0 0 (MQ below (va_Qi (fun r (_ : Unit) => post r) (fun u t => POST D A (W_X0_touches h a cI cJ cZ v_owners) t) A) args s 0 0 A) (F0 m pc ls [.int v]) := fun v u H locs pc ls d g0 g1 g2 g3 g4 => rt_z (Wf := fun u => (W_X0_touches h a cI cJ cZ v_owners)) u hx hb hr hlocks g0 g1 g2 g3 g4 d
  generalize (MQ below (va_Qi (fun r (_ : Unit) => post r) (fun u t => POST D A (W_X0_touches h a cI cJ cZ v_owners) t) A) args s 0 0 A) = QQ at RT ⊢
  have hl : lv_has ls 5 [(0, .ref h), (1, .int p1), (2, .int p2)] := hl
  have hP : va_P D vwCl (W_X0_touches h a cI cJ cZ v_owners) s.heap := hP
  unfold wp_X0_touches at hw
  suffices GO : ∀ (H : Heap) (locs : List Loc), va_P D vwCl (W_X0_touches h a cI cJ cZ v_owners) H → va_S A s.heap H locs → W p l e rm_X0_touches s m args below meth c H locs 0 0 QQ (F0 m 0 ls []) from GO _ _ hP hS
  clear hsz hP hS
  intro H locs hP hS
  refine lv_iload_n hx hb dX0_touches_0 rfl (lv_at hl 1 rfl) ?_
  refine lv_bipush (v := 16) hx hb dX0_touches_1 (by decide) ?_
  refine lv_idiv hx hb dX0_touches_3 (by decide) ?_
  refine lv_istore_n (lv' := [(3, .int (p1 / 16)), (0, .ref h), (1, .int p1), (2, .int p2)]) hx hb dX0_touches_4 rfl hl (by decide) rfl (fun ls hl => ?_)
  refine lv_iload_n hx hb dX0_touches_5 rfl (lv_at hl 2 rfl) ?_
  refine lv_bipush (v := 16) hx hb dX0_touches_6 (by decide) ?_
  refine lv_irem hx hb dX0_touches_8 (by decide) ?_
  refine lv_istore (lv' := [(4, .int (p1 - p1 / 16 * 16)), (3, .int (p1 / 16)), (0, .ref h), (1, .int p1), (2, .int p2)]) hx hb dX0_touches_9 hl (by decide) rfl (fun ls hl => ?_)
  refine lv_aload_n hx hb dX0_touches_11 rfl (lv_at hl 2 rfl) ?_
  refine lv_iload_n hx hb dX0_touches_12 rfl (lv_at hl 1 rfl) ?_
  refine lv_iconst (v := 1) hx hb dX0_touches_13 (by decide) ?_
  refine lv_isub hx hb dX0_touches_14 ?_
  refine lv_iload hx hb dX0_touches_15 (lv_at hl 0 rfl) ?_
  refine af_i (X := (W_X0_touches h a cI cJ cZ v_owners)) (pl := []) (cx := (W_X0_ownerAt h a cI cJ cZ v_owners)) (w1 := fun (u : Unit) => (W_X0_ownerAt h a cI cJ cZ v_owners)) (X' := fun (u : Unit) => (W_X0_touches h a cI cJ cZ v_owners)) hP hD hS hA [0, 1] [] [0, 1] rfl rfl (by decide) (by decide) (fun u => rfl) (by decide) (va_runV (As := [.int ((p1 / 16) - 1), .int (p1 - p1 / 16 * 16)]) (rest := []) ⟨hx, hb, hml, hown, hts⟩ (c_X0_ownerAt l D cI cJ cZ cO h a H.size v_owners ((p1 / 16) - 1) (p1 - p1 / 16 * 16) _ hw) (cwV 2 hts gX0_touches_X0_ownerAt rfl rfl rfl (by decide +kernel) ⟨Nat.le_of_ble_eq_true rfl, Nat.le_of_ble_eq_true rfl⟩) (preV (X := (W_X0_touches h a cI cJ cZ v_owners)) (pl := []) (cx := (W_X0_ownerAt h a cI cJ cZ v_owners)) (qb := 0) (ci := 1) hK hE hP hD [0, 1] (by decide) rfl rfl rfl) rfl rfl hl.1 rfl (lv_room (Nat.le_of_ble_eq_true rfl)) dX0_touches_17 ⟨Nat.zero_le _, Nat.zero_le _⟩) (fun r_17 _ H locs hw hP hD hS => ?_)
  try dsimp only at hw
  have hP : va_P D vwCl (W_X0_touches h a cI cJ cZ v_owners) H := hP
  have hD : va_D A (W_X0_touches h a cI cJ cZ v_owners) := hD
  refine lv_iload_n hx hb dX0_touches_20 rfl (lv_at hl 4 rfl) ?_
  refine lv_icmp_eq (tgt := 63) hx hb dX0_touches_21 (by decide) (fun c21 => ?_) (fun c21 => ?_)
  · have hw := hw.1 c21
    refine lv_iconst (v := 1) hx hb dX0_touches_63 (by decide) ?_
    refine lv_goto (tgt := 68) hx hb dX0_touches_64 (by decide) ?_
    exact RT 1 () _ _ _ _ dX0_touches_68 (Or.inr rfl) hw hP hD hS
  · have hw := hw.2 c21
    refine lv_aload_n hx hb dX0_touches_24 rfl (lv_at hl 2 rfl) ?_
    refine lv_iload_n hx hb dX0_touches_25 rfl (lv_at hl 1 rfl) ?_
    refine lv_iconst (v := 1) hx hb dX0_touches_26 (by decide) ?_
    refine lv_iadd hx hb dX0_touches_27 ?_
    refine lv_iload hx hb dX0_touches_28 (lv_at hl 0 rfl) ?_
    refine af_i (X := (W_X0_touches h a cI cJ cZ v_owners)) (pl := []) (cx := (W_X0_ownerAt h a cI cJ cZ v_owners)) (w1 := fun (u : Unit) => (W_X0_ownerAt h a cI cJ cZ v_owners)) (X' := fun (u : Unit) => (W_X0_touches h a cI cJ cZ v_owners)) hP hD hS hA [0, 1] [] [0, 1] rfl rfl (by decide) (by decide) (fun u => rfl) (by decide) (va_runV (As := [.int ((p1 / 16) + 1), .int (p1 - p1 / 16 * 16)]) (rest := []) ⟨hx, hb, hml, hown, hts⟩ (c_X0_ownerAt l D cI cJ cZ cO h a H.size v_owners ((p1 / 16) + 1) (p1 - p1 / 16 * 16) _ hw) (cwV 2 hts gX0_touches_X0_ownerAt rfl rfl rfl (by decide +kernel) ⟨Nat.le_of_ble_eq_true rfl, Nat.le_of_ble_eq_true rfl⟩) (preV (X := (W_X0_touches h a cI cJ cZ v_owners)) (pl := []) (cx := (W_X0_ownerAt h a cI cJ cZ v_owners)) (qb := 0) (ci := 1) hK hE hP hD [0, 1] (by decide) rfl rfl rfl) rfl rfl hl.1 rfl (lv_room (Nat.le_of_ble_eq_true rfl)) dX0_touches_30 ⟨Nat.zero_le _, Nat.zero_le _⟩) (fun r_30 _ H locs hw hP hD hS => ?_)
    try dsimp only at hw
    have hP : va_P D vwCl (W_X0_touches h a cI cJ cZ v_owners) H := hP
    have hD : va_D A (W_X0_touches h a cI cJ cZ v_owners) := hD
    refine lv_iload_n hx hb dX0_touches_33 rfl (lv_at hl 4 rfl) ?_
    refine lv_icmp_eq (tgt := 63) hx hb dX0_touches_34 (by decide) (fun c34 => ?_) (fun c34 => ?_)
    · have hw := hw.1 c34
      refine lv_iconst (v := 1) hx hb dX0_touches_63 (by decide) ?_
      refine lv_goto (tgt := 68) hx hb dX0_touches_64 (by decide) ?_
      exact RT 1 () _ _ _ _ dX0_touches_68 (Or.inr rfl) hw hP hD hS
    · have hw := hw.2 c34
      refine lv_aload_n hx hb dX0_touches_37 rfl (lv_at hl 2 rfl) ?_
      refine lv_iload_n hx hb dX0_touches_38 rfl (lv_at hl 1 rfl) ?_
      refine lv_iload hx hb dX0_touches_39 (lv_at hl 0 rfl) ?_
      refine lv_iconst (v := 1) hx hb dX0_touches_41 (by decide) ?_
      refine lv_isub hx hb dX0_touches_42 ?_
      refine af_i (X := (W_X0_touches h a cI cJ cZ v_owners)) (pl := []) (cx := (W_X0_ownerAt h a cI cJ cZ v_owners)) (w1 := fun (u : Unit) => (W_X0_ownerAt h a cI cJ cZ v_owners)) (X' := fun (u : Unit) => (W_X0_touches h a cI cJ cZ v_owners)) hP hD hS hA [0, 1] [] [0, 1] rfl rfl (by decide) (by decide) (fun u => rfl) (by decide) (va_runV (As := [.int (p1 / 16), .int ((p1 - p1 / 16 * 16) - 1)]) (rest := []) ⟨hx, hb, hml, hown, hts⟩ (c_X0_ownerAt l D cI cJ cZ cO h a H.size v_owners (p1 / 16) ((p1 - p1 / 16 * 16) - 1) _ hw) (cwV 2 hts gX0_touches_X0_ownerAt rfl rfl rfl (by decide +kernel) ⟨Nat.le_of_ble_eq_true rfl, Nat.le_of_ble_eq_true rfl⟩) (preV (X := (W_X0_touches h a cI cJ cZ v_owners)) (pl := []) (cx := (W_X0_ownerAt h a cI cJ cZ v_owners)) (qb := 0) (ci := 1) hK hE hP hD [0, 1] (by decide) rfl rfl rfl) rfl rfl hl.1 rfl (lv_room (Nat.le_of_ble_eq_true rfl)) dX0_touches_43 ⟨Nat.zero_le _, Nat.zero_le _⟩) (fun r_43 _ H locs hw hP hD hS => ?_)
      try dsimp only at hw
      have hP : va_P D vwCl (W_X0_touches h a cI cJ cZ v_owners) H := hP
      have hD : va_D A (W_X0_touches h a cI cJ cZ v_owners) := hD
      refine lv_iload_n hx hb dX0_touches_46 rfl (lv_at hl 4 rfl) ?_
      refine lv_icmp_eq (tgt := 63) hx hb dX0_touches_47 (by decide) (fun c47 => ?_) (fun c47 => ?_)
      · have hw := hw.1 c47
        refine lv_iconst (v := 1) hx hb dX0_touches_63 (by decide) ?_
        refine lv_goto (tgt := 68) hx hb dX0_touches_64 (by decide) ?_
        exact RT 1 () _ _ _ _ dX0_touches_68 (Or.inr rfl) hw hP hD hS
      · have hw := hw.2 c47
        refine lv_aload_n hx hb dX0_touches_50 rfl (lv_at hl 2 rfl) ?_
        refine lv_iload_n hx hb dX0_touches_51 rfl (lv_at hl 1 rfl) ?_
        refine lv_iload hx hb dX0_touches_52 (lv_at hl 0 rfl) ?_
        refine lv_iconst (v := 1) hx hb dX0_touches_54 (by decide) ?_
        refine lv_iadd hx hb dX0_touches_55 ?_
        refine af_i (X := (W_X0_touches h a cI cJ cZ v_owners)) (pl := []) (cx := (W_X0_ownerAt h a cI cJ cZ v_owners)) (w1 := fun (u : Unit) => (W_X0_ownerAt h a cI cJ cZ v_owners)) (X' := fun (u : Unit) => (W_X0_touches h a cI cJ cZ v_owners)) hP hD hS hA [0, 1] [] [0, 1] rfl rfl (by decide) (by decide) (fun u => rfl) (by decide) (va_runV (As := [.int (p1 / 16), .int ((p1 - p1 / 16 * 16) + 1)]) (rest := []) ⟨hx, hb, hml, hown, hts⟩ (c_X0_ownerAt l D cI cJ cZ cO h a H.size v_owners (p1 / 16) ((p1 - p1 / 16 * 16) + 1) _ hw) (cwV 2 hts gX0_touches_X0_ownerAt rfl rfl rfl (by decide +kernel) ⟨Nat.le_of_ble_eq_true rfl, Nat.le_of_ble_eq_true rfl⟩) (preV (X := (W_X0_touches h a cI cJ cZ v_owners)) (pl := []) (cx := (W_X0_ownerAt h a cI cJ cZ v_owners)) (qb := 0) (ci := 1) hK hE hP hD [0, 1] (by decide) rfl rfl rfl) rfl rfl hl.1 rfl (lv_room (Nat.le_of_ble_eq_true rfl)) dX0_touches_56 ⟨Nat.zero_le _, Nat.zero_le _⟩) (fun r_56 _ H locs hw hP hD hS => ?_)
        try dsimp only at hw
        have hP : va_P D vwCl (W_X0_touches h a cI cJ cZ v_owners) H := hP
        have hD : va_D A (W_X0_touches h a cI cJ cZ v_owners) := hD
        refine lv_iload_n hx hb dX0_touches_59 rfl (lv_at hl 4 rfl) ?_
        refine lv_icmp_ne (tgt := 67) hx hb dX0_touches_60 (by decide) (fun c60 => ?_) (fun c60 => ?_)
        · have hw := hw.2 c60
          refine lv_iconst (v := 0) hx hb dX0_touches_67 (by decide) ?_
          exact RT 0 () _ _ _ _ dX0_touches_68 (Or.inl rfl) hw hP hD hS
        · have hw := hw.1 c60
          refine lv_iconst (v := 1) hx hb dX0_touches_63 (by decide) ?_
          refine lv_goto (tgt := 68) hx hb dX0_touches_64 (by decide) ?_
          exact RT 1 () _ _ _ _ dX0_touches_68 (Or.inr rfl) hw hP hD hS
abbrev rm_X0_adjoin : Room := { frames := 2, cells := 0, slots := 0, locals := 46 }
abbrev W_X0_adjoin (h : Nat) (a : Nat → Nat) (cI cJ cZ : ClassId) (v_owners : Nat → Int32) : va_W := [(h, .inr (1, [.ref (a 0), .ref (a 1)])), ((a 0), .inl (cI, 256, .inl v_owners))]
def wp_X0_adjoin_2 (v_owners : Nat → Int32) (p1 : Int32) (p2 : Int32) (post : Int32 → Prop) (K2 : Int32 → Prop) (x3_j2 : Int32) : Prop := (256 ≤ x3_j2 → post 0) ∧ (¬ 256 ≤ x3_j2 → vp_in x3_j2 256 ∧ (((v_owners x3_j2.toNatClampNeg) = p1 → wp_X0_touches v_owners x3_j2 p2 (fun r_22 => (r_22 = 0 → K2 (x3_j2 + 1)) ∧ (¬ r_22 = 0 → post 1))) ∧ (¬ (v_owners x3_j2.toNatClampNeg) = p1 → K2 (x3_j2 + 1))))
def lF_X0_adjoin_2 (v_owners : Nat → Int32) (p1 : Int32) (p2 : Int32) (post : Int32 → Prop) : (Int32 → Prop) → Int32 → Prop := fun K s => wp_X0_adjoin_2 v_owners p1 p2 post (fun b0 => K b0) s
def wp_X0_adjoin (v_owners : Nat → Int32) (p1 : Int32) (p2 : Int32) (post : Int32 → Prop) : Prop := lp (lF_X0_adjoin_2 v_owners p1 p2 post) 0
set_option maxHeartbeats 4000000 in
set_option maxRecDepth 100000 in
theorem c_X0_adjoin (l : Launch) (D : va_G) (cI cJ cZ cO : ClassId) (h : Nat) (a : Nat → Nat) (sz : Nat) (v_owners : Nat → Int32) (p1 : Int32) (p2 : Int32) (post : Int32 → Prop) (hw : wp_X0_adjoin v_owners p1 p2 post) : Met l yX0_adjoin wsX0_adjoin rm_X0_adjoin (va_Pc [.ref h, .int p1, .int p2] (PRE D cI cJ cZ cO (W_X0_adjoin h a cI cJ cZ v_owners) sz)) (va_Qi (fun r (_ : Unit) => post r) (fun u t => POST D (va_A (W_X0_adjoin h a cI cJ cZ v_owners) sz) (W_X0_adjoin h a cI cJ cZ v_owners) t) (va_A (W_X0_adjoin h a cI cJ cZ v_owners) sz)) 0 0 (va_A (W_X0_adjoin h a cI cJ cZ v_owners) sz) := by
  refine met_go (cc := cX0_adjoin) (maxL := 4) (ret := some .boolean) RX0 rfl (by decide) rfl (Nat.le_of_ble_eq_true rfl) ?_
  intro p e s m args below meth c ls hx hb hr hts hown hlocks hin hml hsz hP hK hE hD hA hS hl
  have iRX0 : ∀ w ∈ u_ws RX0 TX0 2, w ∈ wsX0_adjoin := mem_seg 11 2 rfl
  generalize va_A (W_X0_adjoin h a cI cJ cZ v_owners) sz = A at hD hA hS ⊢
  have RT : ∀ (v : Int32) (u : Unit) (H : Heap) (locs : List Loc) (pc : Nat) (ls : Array Slot), decode cX0_adjoin pc = .ok (.ireturn, 1) → (v = 0 ∨ v = 1) → post v → va_P D vwCl (W_X0_adjoin h a cI cJ cZ v_owners) H → va_D A (W_X0_adjoin h a cI cJ cZ v_owners) → va_S A s.heap H locs → W p l e rm_X0_adjoin s m args below meth c H locs 0 0 (MQ below (va_Qi (fun r (_ : Unit) => post r) (fun u t => POST D A (W_X0_adjoin h a cI cJ cZ v_owners) t) A) args s 0 0 A) (F0 m pc ls [.int v]) := fun v u H locs pc ls d g0 g1 g2 g3 g4 => rt_z (Wf := fun u => (W_X0_adjoin h a cI cJ cZ v_owners)) u hx hb hr hlocks g0 g1 g2 g3 g4 d
  generalize (MQ below (va_Qi (fun r (_ : Unit) => post r) (fun u t => POST D A (W_X0_adjoin h a cI cJ cZ v_owners) t) A) args s 0 0 A) = QQ at RT ⊢
  have hl : lv_has ls 4 [(0, .ref h), (1, .int p1), (2, .int p2)] := hl
  have hP : va_P D vwCl (W_X0_adjoin h a cI cJ cZ v_owners) s.heap := hP
  unfold wp_X0_adjoin at hw
  suffices GO : ∀ (H : Heap) (locs : List Loc), va_P D vwCl (W_X0_adjoin h a cI cJ cZ v_owners) H → va_S A s.heap H locs → W p l e rm_X0_adjoin s m args below meth c H locs 0 0 QQ (F0 m 0 ls []) from GO _ _ hP hS
  clear hsz hP hS
  intro H locs hP hS
  have L2 : ∀ s0 : Int32, lp (lF_X0_adjoin_2 v_owners p1 p2 post) s0 → ∀ (H : Heap) (locs : List Loc) (ls : Array Slot), va_P D vwCl (W_X0_adjoin h a cI cJ cZ v_owners) H → va_D A (W_X0_adjoin h a cI cJ cZ v_owners) → va_S A s.heap H locs → lv_has ls 4 [(0, .ref h), (1, .int p1), (2, .int p2), (3, .int s0)] → W p l e rm_X0_adjoin s m args below meth c H locs 0 0 QQ (F0 m 2 ls []) := by
    refine lp_elim (fun K2 ih2 s0 hw => ?_)
    obtain ⟨x3_j2, rfl⟩ : ∃ z, z = s0 := ⟨_, rfl⟩
    intro H locs ls hP hD hS hl
    have hw : wp_X0_adjoin_2 v_owners p1 p2 post K2 x3_j2 := hw
    have hP : va_P D vwCl (W_X0_adjoin h a cI cJ cZ v_owners) H := hP
    have hD : va_D A (W_X0_adjoin h a cI cJ cZ v_owners) := hD
    have hl : lv_has ls 4 [(0, .ref h), (1, .int p1), (2, .int p2), (3, .int x3_j2)] := hl
    unfold wp_X0_adjoin_2 at hw
    refine lv_iload_n hx hb dX0_adjoin_2 rfl (lv_at hl 3 rfl) ?_
    refine lv_sipush (v := 256) hx hb dX0_adjoin_3 (by decide) ?_
    refine lv_icmp_ge (tgt := 36) hx hb dX0_adjoin_6 (by decide) (fun c6 => ?_) (fun c6 => ?_)
    · have hw := hw.1 c6
      refine lv_iconst (v := 0) hx hb dX0_adjoin_36 (by decide) ?_
      exact RT 0 () _ _ _ _ dX0_adjoin_37 (Or.inl rfl) hw hP hD hS
    · have hw := hw.2 c6
      refine lv_aload_n hx hb dX0_adjoin_9 rfl (lv_at hl 0 rfl) ?_
      refine va_get (D := D) (ci := 1) (v := .ref (a 0)) (C := RX0) (T := TX0) (N := 2) hx hb hts iRX0 hown hK hP 0 rfl rfl 0 (by decide) (hts (.fieldLink RX0 9 "Leadlight$Cartoon" "owners" "[I") (List.mem_of_getElem? (i := 1) rfl)) (fun _ h9 => h9) rfl dX0_adjoin_10 ?_
      refine lv_iload_n hx hb dX0_adjoin_13 rfl (lv_at hl 3 rfl) ?_
      obtain ⟨hi_14, hw⟩ := hw
      refine va_iald hx hb hK hP 1 0 rfl rfl hi_14 dX0_adjoin_14 ?_
      refine lv_iload_n hx hb dX0_adjoin_15 rfl (lv_at hl 1 rfl) ?_
      refine lv_icmp_ne (tgt := 30) hx hb dX0_adjoin_16 (by decide) (fun c16 => ?_) (fun c16 => ?_)
      · have hw := hw.2 c16
        refine lv_iinc (v := (x3_j2 + 1)) (lv' := [(3, .int (x3_j2 + 1)), (0, .ref h), (1, .int p1), (2, .int p2)]) hx hb dX0_adjoin_30 hl (k := 3) rfl rfl (by decide) rfl (fun ls hl => ?_)
        refine lv_goto (tgt := 2) hx hb dX0_adjoin_33 (by decide) ?_
        exact ih2 (x3_j2 + 1) hw _ _ ls hP hD hS (lv_sub hl [1, 2, 3, 0] rfl)
      · have hw := hw.1 c16
        refine lv_aload_n hx hb dX0_adjoin_19 rfl (lv_at hl 0 rfl) ?_
        refine lv_iload_n hx hb dX0_adjoin_20 rfl (lv_at hl 3 rfl) ?_
        refine lv_iload_n hx hb dX0_adjoin_21 rfl (lv_at hl 2 rfl) ?_
        refine af_i (X := (W_X0_adjoin h a cI cJ cZ v_owners)) (pl := []) (cx := (W_X0_touches h a cI cJ cZ v_owners)) (w1 := fun (u : Unit) => (W_X0_touches h a cI cJ cZ v_owners)) (X' := fun (u : Unit) => (W_X0_adjoin h a cI cJ cZ v_owners)) hP hD hS hA [0, 1] [] [0, 1] rfl rfl (by decide) (by decide) (fun u => rfl) (by decide) (va_runV (As := [.int x3_j2, .int p2]) (rest := []) ⟨hx, hb, hml, hown, hts⟩ (c_X0_touches l D cI cJ cZ cO h a H.size v_owners x3_j2 p2 _ hw) (cwV 2 hts gX0_adjoin_X0_touches rfl rfl rfl (by decide +kernel) ⟨Nat.le_of_ble_eq_true rfl, Nat.le_of_ble_eq_true rfl⟩) (preV (X := (W_X0_adjoin h a cI cJ cZ v_owners)) (pl := []) (cx := (W_X0_touches h a cI cJ cZ v_owners)) (qb := 0) (ci := 1) hK hE hP hD [0, 1] (by decide) rfl rfl rfl) rfl rfl hl.1 rfl (lv_room (Nat.le_of_ble_eq_true rfl)) dX0_adjoin_22 ⟨Nat.zero_le _, Nat.zero_le _⟩) (fun r_22 _ H locs hw hP hD hS => ?_)
        try dsimp only at hw
        have hP : va_P D vwCl (W_X0_adjoin h a cI cJ cZ v_owners) H := hP
        have hD : va_D A (W_X0_adjoin h a cI cJ cZ v_owners) := hD
        refine lv_if_eq (tgt := 30) hx hb dX0_adjoin_25 (by decide) (fun c25 => ?_) (fun c25 => ?_)
        · have hw := hw.1 c25
          refine lv_iinc (v := (x3_j2 + 1)) (lv' := [(3, .int (x3_j2 + 1)), (0, .ref h), (1, .int p1), (2, .int p2)]) hx hb dX0_adjoin_30 hl (k := 3) rfl rfl (by decide) rfl (fun ls hl => ?_)
          refine lv_goto (tgt := 2) hx hb dX0_adjoin_33 (by decide) ?_
          exact ih2 (x3_j2 + 1) hw _ _ ls hP hD hS (lv_sub hl [1, 2, 3, 0] rfl)
        · have hw := hw.2 c25
          refine lv_iconst (v := 1) hx hb dX0_adjoin_28 (by decide) ?_
          exact RT 1 () _ _ _ _ dX0_adjoin_29 (Or.inr rfl) hw hP hD hS
  refine lv_iconst (v := 0) hx hb dX0_adjoin_0 (by decide) ?_
  refine lv_istore_n (lv' := [(3, .int 0), (0, .ref h), (1, .int p1), (2, .int p2)]) hx hb dX0_adjoin_1 rfl hl (by decide) rfl (fun ls hl => ?_)
  exact L2 0 hw _ _ ls hP hD hS (lv_sub hl [1, 2, 3, 0] rfl)
abbrev rm_X0_leadsBetween : Room := { frames := 0, cells := 0, slots := 0, locals := 0 }
def wp_X0_leadsBetween (p1 : Int32) (p2 : Int32) (post : Int32 → Prop) : Prop := (p1 = p2 → post 0) ∧ (¬ p1 = p2 → post 1)
set_option maxHeartbeats 4000000 in
set_option maxRecDepth 100000 in
theorem c_X0_leadsBetween (l : Launch) (D : va_G) (cI cJ cZ cO : ClassId) (sz : Nat) (p1 : Int32) (p2 : Int32) (post : Int32 → Prop) (hw : wp_X0_leadsBetween p1 p2 post) : Met l yX0_leadsBetween wsX0_leadsBetween rm_X0_leadsBetween (va_Pc [.int p1, .int p2] (PRE D cI cJ cZ cO ([] : va_W) sz)) (va_Qi (fun r (_ : Unit) => post r) (fun u t => POST D (va_A ([] : va_W) sz) ([] : va_W) t) (va_A ([] : va_W) sz)) 0 0 (va_A ([] : va_W) sz) := by
  refine met_go (cc := cX0_leadsBetween) (maxL := 2) (ret := some .int) RX0 rfl (by decide) rfl (Nat.le_of_ble_eq_true rfl) ?_
  intro p e s m args below meth c ls hx hb hr hts hown hlocks hin hml hsz hP hK hE hD hA hS hl
  generalize va_A ([] : va_W) sz = A at hD hA hS ⊢
  have RT : ∀ (v : Int32) (u : Unit) (H : Heap) (locs : List Loc) (pc : Nat) (ls : Array Slot), decode cX0_leadsBetween pc = .ok (.ireturn, 1) → post v → va_P D vwCl ([] : va_W) H → va_D A ([] : va_W) → va_S A s.heap H locs → W p l e rm_X0_leadsBetween s m args below meth c H locs 0 0 (MQ below (va_Qi (fun r (_ : Unit) => post r) (fun u t => POST D A ([] : va_W) t) A) args s 0 0 A) (F0 m pc ls [.int v]) := fun v u H locs pc ls d g1 g2 g3 g4 => rt_i (Wf := fun u => ([] : va_W)) u hx hb hr hlocks g1 g2 g3 g4 d
  generalize (MQ below (va_Qi (fun r (_ : Unit) => post r) (fun u t => POST D A ([] : va_W) t) A) args s 0 0 A) = QQ at RT ⊢
  have hl : lv_has ls 2 [(0, .int p1), (1, .int p2)] := hl
  have hP : va_P D vwCl ([] : va_W) s.heap := hP
  unfold wp_X0_leadsBetween at hw
  suffices GO : ∀ (H : Heap) (locs : List Loc), va_P D vwCl ([] : va_W) H → va_S A s.heap H locs → W p l e rm_X0_leadsBetween s m args below meth c H locs 0 0 QQ (F0 m 0 ls []) from GO _ _ hP hS
  clear hsz hP hS
  intro H locs hP hS
  refine lv_iload_n hx hb dX0_leadsBetween_0 rfl (lv_at hl 0 rfl) ?_
  refine lv_iload_n hx hb dX0_leadsBetween_1 rfl (lv_at hl 1 rfl) ?_
  refine lv_icmp_ne (tgt := 9) hx hb dX0_leadsBetween_2 (by decide) (fun c2 => ?_) (fun c2 => ?_)
  · have hw := hw.2 c2
    refine lv_iconst (v := 1) hx hb dX0_leadsBetween_9 (by decide) ?_
    exact RT 1 () _ _ _ _ dX0_leadsBetween_10 hw hP hD hS
  · have hw := hw.1 c2
    refine lv_iconst (v := 0) hx hb dX0_leadsBetween_5 (by decide) ?_
    refine lv_goto (tgt := 10) hx hb dX0_leadsBetween_6 (by decide) ?_
    exact RT 0 () _ _ _ _ dX0_leadsBetween_10 hw hP hD hS
abbrev rm_X0_leadLength : Room := { frames := 1, cells := 0, slots := 0, locals := 22 }
abbrev W_X0_leadLength (h : Nat) (a : Nat → Nat) (cI cJ cZ : ClassId) (v_owners : Nat → Int32) : va_W := [(h, .inr (1, [.ref (a 0), .ref (a 1)])), ((a 0), .inl (cI, 256, .inl v_owners))]
def wp_X0_leadLength_12 (v_owners : Nat → Int32) (post : Int32 → Prop) (K4 : Int32 → Int32 → Prop) (K12 : Int32 → Int32 → Int32 → Prop) (x1_j12 : Int32) (x2_j12 : Int32) (x3_j12 : Int32) : Prop := (16 < x3_j12 → K4 x1_j12 (x2_j12 + 1)) ∧ (¬ 16 < x3_j12 → wp_X0_ownerAt v_owners x2_j12 x3_j12 (fun r_21 => wp_X0_ownerAt v_owners (x2_j12 - 1) x3_j12 (fun r_34 => wp_X0_leadsBetween r_21 r_34 (fun r_37 => wp_X0_ownerAt v_owners x2_j12 (x3_j12 - 1) (fun r_50 => wp_X0_leadsBetween r_21 r_50 (fun r_53 => K12 ((x1_j12 + r_37) + r_53) x2_j12 (x3_j12 + 1)))))))
def lF_X0_leadLength_12 (v_owners : Nat → Int32) (post : Int32 → Prop) (K4 : Int32 → Int32 → Prop) : ((Int32 × Int32 × Int32) → Prop) → (Int32 × Int32 × Int32) → Prop := fun K s => wp_X0_leadLength_12 v_owners post K4 (fun b0 b1 b2 => K (b0, b1, b2)) s.1 s.2.1 s.2.2
def wp_X0_leadLength_4 (v_owners : Nat → Int32) (post : Int32 → Prop) (K4 : Int32 → Int32 → Prop) (x1_j4 : Int32) (x2_j4 : Int32) : Prop := (16 < x2_j4 → post x1_j4) ∧ (¬ 16 < x2_j4 → lp (lF_X0_leadLength_12 v_owners post K4) (x1_j4, x2_j4, 0))
def lF_X0_leadLength_4 (v_owners : Nat → Int32) (post : Int32 → Prop) : ((Int32 × Int32) → Prop) → (Int32 × Int32) → Prop := fun K s => wp_X0_leadLength_4 v_owners post (fun b0 b1 => K (b0, b1)) s.1 s.2
def wp_X0_leadLength (v_owners : Nat → Int32) (post : Int32 → Prop) : Prop := lp (lF_X0_leadLength_4 v_owners post) (0, 0)
set_option maxHeartbeats 4000000 in
set_option maxRecDepth 100000 in
theorem c_X0_leadLength (l : Launch) (D : va_G) (cI cJ cZ cO : ClassId) (h : Nat) (a : Nat → Nat) (sz : Nat) (v_owners : Nat → Int32) (post : Int32 → Prop) (hw : wp_X0_leadLength v_owners post) : Met l yX0_leadLength wsX0_leadLength rm_X0_leadLength (va_Pc [.ref h] (PRE D cI cJ cZ cO (W_X0_leadLength h a cI cJ cZ v_owners) sz)) (va_Qi (fun r (_ : Unit) => post r) (fun u t => POST D (va_A (W_X0_leadLength h a cI cJ cZ v_owners) sz) (W_X0_leadLength h a cI cJ cZ v_owners) t) (va_A (W_X0_leadLength h a cI cJ cZ v_owners) sz)) 0 0 (va_A (W_X0_leadLength h a cI cJ cZ v_owners) sz) := by
  refine met_go (cc := cX0_leadLength) (maxL := 5) (ret := some .int) RX0 rfl (by decide) rfl (Nat.le_of_ble_eq_true rfl) ?_
  intro p e s m args below meth c ls hx hb hr hts hown hlocks hin hml hsz hP hK hE hD hA hS hl
  have iRX0 : ∀ w ∈ u_ws RX0 TX0 2, w ∈ wsX0_leadLength := mem_seg 10 2 rfl
  generalize va_A (W_X0_leadLength h a cI cJ cZ v_owners) sz = A at hD hA hS ⊢
  have RT : ∀ (v : Int32) (u : Unit) (H : Heap) (locs : List Loc) (pc : Nat) (ls : Array Slot), decode cX0_leadLength pc = .ok (.ireturn, 1) → post v → va_P D vwCl (W_X0_leadLength h a cI cJ cZ v_owners) H → va_D A (W_X0_leadLength h a cI cJ cZ v_owners) → va_S A s.heap H locs → W p l e rm_X0_leadLength s m args below meth c H locs 0 0 (MQ below (va_Qi (fun r (_ : Unit) => post r) (fun u t => POST D A (W_X0_leadLength h a cI cJ cZ v_owners) t) A) args s 0 0 A) (F0 m pc ls [.int v]) := fun v u H locs pc ls d g1 g2 g3 g4 => rt_i (Wf := fun u => (W_X0_leadLength h a cI cJ cZ v_owners)) u hx hb hr hlocks g1 g2 g3 g4 d
  generalize (MQ below (va_Qi (fun r (_ : Unit) => post r) (fun u t => POST D A (W_X0_leadLength h a cI cJ cZ v_owners) t) A) args s 0 0 A) = QQ at RT ⊢
  have hl : lv_has ls 5 [(0, .ref h)] := hl
  have hP : va_P D vwCl (W_X0_leadLength h a cI cJ cZ v_owners) s.heap := hP
  unfold wp_X0_leadLength at hw
  suffices GO : ∀ (H : Heap) (locs : List Loc), va_P D vwCl (W_X0_leadLength h a cI cJ cZ v_owners) H → va_S A s.heap H locs → W p l e rm_X0_leadLength s m args below meth c H locs 0 0 QQ (F0 m 0 ls []) from GO _ _ hP hS
  clear hsz hP hS
  intro H locs hP hS
  have L4 : ∀ s0 : (Int32 × Int32), lp (lF_X0_leadLength_4 v_owners post) s0 → ∀ (H : Heap) (locs : List Loc) (ls : Array Slot), va_P D vwCl (W_X0_leadLength h a cI cJ cZ v_owners) H → va_D A (W_X0_leadLength h a cI cJ cZ v_owners) → va_S A s.heap H locs → lv_has ls 5 [(0, .ref h), (1, .int s0.1), (2, .int s0.2)] → W p l e rm_X0_leadLength s m args below meth c H locs 0 0 QQ (F0 m 4 ls []) := by
    refine lp_elim (fun K4 ih4 s0 hw => ?_)
    obtain ⟨x1_j4, x2_j4⟩ := s0
    intro H locs ls hP hD hS hl
    have hw : wp_X0_leadLength_4 v_owners post (fun b0 b1 => K4 (b0, b1)) x1_j4 x2_j4 := hw
    have hP : va_P D vwCl (W_X0_leadLength h a cI cJ cZ v_owners) H := hP
    have hD : va_D A (W_X0_leadLength h a cI cJ cZ v_owners) := hD
    have hl : lv_has ls 5 [(0, .ref h), (1, .int x1_j4), (2, .int x2_j4)] := hl
    have L12 : ∀ s0 : (Int32 × Int32 × Int32), lp (lF_X0_leadLength_12 v_owners post (fun b0 b1 => K4 (b0, b1))) s0 → ∀ (H : Heap) (locs : List Loc) (ls : Array Slot), va_P D vwCl (W_X0_leadLength h a cI cJ cZ v_owners) H → va_D A (W_X0_leadLength h a cI cJ cZ v_owners) → va_S A s.heap H locs → lv_has ls 5 [(0, .ref h), (1, .int s0.1), (2, .int s0.2.1), (3, .int s0.2.2)] → W p l e rm_X0_leadLength s m args below meth c H locs 0 0 QQ (F0 m 12 ls []) := by
      refine lp_elim (fun K12 ih12 s0 hw => ?_)
      obtain ⟨x1_j12, x2_j12, x3_j12⟩ := s0
      intro H locs ls hP hD hS hl
      have hw : wp_X0_leadLength_12 v_owners post (fun b0 b1 => K4 (b0, b1)) (fun b0 b1 b2 => K12 (b0, b1, b2)) x1_j12 x2_j12 x3_j12 := hw
      have hP : va_P D vwCl (W_X0_leadLength h a cI cJ cZ v_owners) H := hP
      have hD : va_D A (W_X0_leadLength h a cI cJ cZ v_owners) := hD
      have hl : lv_has ls 5 [(0, .ref h), (1, .int x1_j12), (2, .int x2_j12), (3, .int x3_j12)] := hl
      unfold wp_X0_leadLength_12 at hw
      refine lv_iload_n hx hb dX0_leadLength_12 rfl (lv_at hl 3 rfl) ?_
      refine lv_bipush (v := 16) hx hb dX0_leadLength_13 (by decide) ?_
      refine lv_icmp_gt (tgt := 64) hx hb dX0_leadLength_15 (by decide) (fun c15 => ?_) (fun c15 => ?_)
      · have hw := hw.1 c15
        refine lv_iinc (v := (x2_j12 + 1)) (lv' := [(2, .int (x2_j12 + 1)), (0, .ref h), (1, .int x1_j12), (3, .int x3_j12)]) hx hb dX0_leadLength_64 hl (k := 2) rfl rfl (by decide) rfl (fun ls hl => ?_)
        refine lv_goto (tgt := 4) hx hb dX0_leadLength_67 (by decide) ?_
        exact ih4 (x1_j12, (x2_j12 + 1)) hw _ _ ls hP hD hS (lv_sub hl [1, 2, 0] rfl)
      · have hw := hw.2 c15
        refine lv_aload_n hx hb dX0_leadLength_18 rfl (lv_at hl 0 rfl) ?_
        refine lv_iload_n hx hb dX0_leadLength_19 rfl (lv_at hl 2 rfl) ?_
        refine lv_iload_n hx hb dX0_leadLength_20 rfl (lv_at hl 3 rfl) ?_
        refine af_i (X := (W_X0_leadLength h a cI cJ cZ v_owners)) (pl := []) (cx := (W_X0_ownerAt h a cI cJ cZ v_owners)) (w1 := fun (u : Unit) => (W_X0_ownerAt h a cI cJ cZ v_owners)) (X' := fun (u : Unit) => (W_X0_leadLength h a cI cJ cZ v_owners)) hP hD hS hA [0, 1] [] [0, 1] rfl rfl (by decide) (by decide) (fun u => rfl) (by decide) (va_runV (As := [.int x2_j12, .int x3_j12]) (rest := []) ⟨hx, hb, hml, hown, hts⟩ (c_X0_ownerAt l D cI cJ cZ cO h a H.size v_owners x2_j12 x3_j12 _ hw) (cwV 2 hts gX0_leadLength_X0_ownerAt rfl rfl rfl (by decide +kernel) ⟨Nat.le_of_ble_eq_true rfl, Nat.le_of_ble_eq_true rfl⟩) (preV (X := (W_X0_leadLength h a cI cJ cZ v_owners)) (pl := []) (cx := (W_X0_ownerAt h a cI cJ cZ v_owners)) (qb := 0) (ci := 1) hK hE hP hD [0, 1] (by decide) rfl rfl rfl) rfl rfl hl.1 rfl (lv_room (Nat.le_of_ble_eq_true rfl)) dX0_leadLength_21 ⟨Nat.zero_le _, Nat.zero_le _⟩) (fun r_21 _ H locs hw hP hD hS => ?_)
        try dsimp only at hw
        have hP : va_P D vwCl (W_X0_leadLength h a cI cJ cZ v_owners) H := hP
        have hD : va_D A (W_X0_leadLength h a cI cJ cZ v_owners) := hD
        refine lv_istore (lv' := [(4, .int r_21), (0, .ref h), (1, .int x1_j12), (2, .int x2_j12), (3, .int x3_j12)]) hx hb dX0_leadLength_24 hl (by decide) rfl (fun ls hl => ?_)
        refine lv_iload_n hx hb dX0_leadLength_26 rfl (lv_at hl 2 rfl) ?_
        refine lv_iload hx hb dX0_leadLength_27 (lv_at hl 0 rfl) ?_
        refine lv_aload_n hx hb dX0_leadLength_29 rfl (lv_at hl 1 rfl) ?_
        refine lv_iload_n hx hb dX0_leadLength_30 rfl (lv_at hl 3 rfl) ?_
        refine lv_iconst (v := 1) hx hb dX0_leadLength_31 (by decide) ?_
        refine lv_isub hx hb dX0_leadLength_32 ?_
        refine lv_iload_n hx hb dX0_leadLength_33 rfl (lv_at hl 4 rfl) ?_
        refine af_i (X := (W_X0_leadLength h a cI cJ cZ v_owners)) (pl := []) (cx := (W_X0_ownerAt h a cI cJ cZ v_owners)) (w1 := fun (u : Unit) => (W_X0_ownerAt h a cI cJ cZ v_owners)) (X' := fun (u : Unit) => (W_X0_leadLength h a cI cJ cZ v_owners)) hP hD hS hA [0, 1] [] [0, 1] rfl rfl (by decide) (by decide) (fun u => rfl) (by decide) (va_runV (As := [.int (x2_j12 - 1), .int x3_j12]) (rest := [.int r_21, .int x1_j12]) ⟨hx, hb, hml, hown, hts⟩ (c_X0_ownerAt l D cI cJ cZ cO h a H.size v_owners (x2_j12 - 1) x3_j12 _ hw) (cwV 2 hts gX0_leadLength_X0_ownerAt rfl rfl rfl (by decide +kernel) ⟨Nat.le_of_ble_eq_true rfl, Nat.le_of_ble_eq_true rfl⟩) (preV (X := (W_X0_leadLength h a cI cJ cZ v_owners)) (pl := []) (cx := (W_X0_ownerAt h a cI cJ cZ v_owners)) (qb := 0) (ci := 1) hK hE hP hD [0, 1] (by decide) rfl rfl rfl) rfl rfl hl.1 rfl (lv_room (Nat.le_of_ble_eq_true rfl)) dX0_leadLength_34 ⟨Nat.zero_le _, Nat.zero_le _⟩) (fun r_34 _ H locs hw hP hD hS => ?_)
        try dsimp only at hw
        have hP : va_P D vwCl (W_X0_leadLength h a cI cJ cZ v_owners) H := hP
        have hD : va_D A (W_X0_leadLength h a cI cJ cZ v_owners) := hD
        refine af_i (X := (W_X0_leadLength h a cI cJ cZ v_owners)) (pl := []) (cx := ([] : va_W)) (w1 := fun (u : Unit) => ([] : va_W)) (X' := fun (u : Unit) => (W_X0_leadLength h a cI cJ cZ v_owners)) hP hD hS hA [] [0, 1] [0, 1] rfl rfl (by decide) (by decide) (fun u => rfl) (by decide) (va_runS (As := [.int r_21, .int r_34]) (rest := [.int x1_j12]) ⟨hx, hb, hml, hown, hts⟩ (c_X0_leadsBetween l D cI cJ cZ cO H.size r_21 r_34 _ hw) (va_cwS 2 hts gX0_leadLength_X0_leadsBetween rfl rfl rfl (by decide +kernel) ⟨Nat.le_of_ble_eq_true rfl, Nat.le_of_ble_eq_true rfl⟩) (preS (X := (W_X0_leadLength h a cI cJ cZ v_owners)) (pl := []) (cx := ([] : va_W)) hK hE hP hD [] (by decide) rfl) rfl rfl hl.1 rfl (lv_room (Nat.le_of_ble_eq_true rfl)) dX0_leadLength_37 ⟨Nat.zero_le _, Nat.zero_le _⟩) (fun r_37 _ H locs hw hP hD hS => ?_)
        try dsimp only at hw
        have hP : va_P D vwCl (W_X0_leadLength h a cI cJ cZ v_owners) H := hP
        have hD : va_D A (W_X0_leadLength h a cI cJ cZ v_owners) := hD
        refine lv_iadd hx hb dX0_leadLength_40 ?_
        refine lv_istore_n (lv' := [(1, .int (x1_j12 + r_37)), (4, .int r_21), (0, .ref h), (2, .int x2_j12), (3, .int x3_j12)]) hx hb dX0_leadLength_41 rfl hl (by decide) rfl (fun ls hl => ?_)
        refine lv_iload_n hx hb dX0_leadLength_42 rfl (lv_at hl 0 rfl) ?_
        refine lv_iload hx hb dX0_leadLength_43 (lv_at hl 1 rfl) ?_
        refine lv_aload_n hx hb dX0_leadLength_45 rfl (lv_at hl 2 rfl) ?_
        refine lv_iload_n hx hb dX0_leadLength_46 rfl (lv_at hl 3 rfl) ?_
        refine lv_iload_n hx hb dX0_leadLength_47 rfl (lv_at hl 4 rfl) ?_
        refine lv_iconst (v := 1) hx hb dX0_leadLength_48 (by decide) ?_
        refine lv_isub hx hb dX0_leadLength_49 ?_
        refine af_i (X := (W_X0_leadLength h a cI cJ cZ v_owners)) (pl := []) (cx := (W_X0_ownerAt h a cI cJ cZ v_owners)) (w1 := fun (u : Unit) => (W_X0_ownerAt h a cI cJ cZ v_owners)) (X' := fun (u : Unit) => (W_X0_leadLength h a cI cJ cZ v_owners)) hP hD hS hA [0, 1] [] [0, 1] rfl rfl (by decide) (by decide) (fun u => rfl) (by decide) (va_runV (As := [.int x2_j12, .int (x3_j12 - 1)]) (rest := [.int r_21, .int (x1_j12 + r_37)]) ⟨hx, hb, hml, hown, hts⟩ (c_X0_ownerAt l D cI cJ cZ cO h a H.size v_owners x2_j12 (x3_j12 - 1) _ hw) (cwV 2 hts gX0_leadLength_X0_ownerAt rfl rfl rfl (by decide +kernel) ⟨Nat.le_of_ble_eq_true rfl, Nat.le_of_ble_eq_true rfl⟩) (preV (X := (W_X0_leadLength h a cI cJ cZ v_owners)) (pl := []) (cx := (W_X0_ownerAt h a cI cJ cZ v_owners)) (qb := 0) (ci := 1) hK hE hP hD [0, 1] (by decide) rfl rfl rfl) rfl rfl hl.1 rfl (lv_room (Nat.le_of_ble_eq_true rfl)) dX0_leadLength_50 ⟨Nat.zero_le _, Nat.zero_le _⟩) (fun r_50 _ H locs hw hP hD hS => ?_)
        try dsimp only at hw
        have hP : va_P D vwCl (W_X0_leadLength h a cI cJ cZ v_owners) H := hP
        have hD : va_D A (W_X0_leadLength h a cI cJ cZ v_owners) := hD
        refine af_i (X := (W_X0_leadLength h a cI cJ cZ v_owners)) (pl := []) (cx := ([] : va_W)) (w1 := fun (u : Unit) => ([] : va_W)) (X' := fun (u : Unit) => (W_X0_leadLength h a cI cJ cZ v_owners)) hP hD hS hA [] [0, 1] [0, 1] rfl rfl (by decide) (by decide) (fun u => rfl) (by decide) (va_runS (As := [.int r_21, .int r_50]) (rest := [.int (x1_j12 + r_37)]) ⟨hx, hb, hml, hown, hts⟩ (c_X0_leadsBetween l D cI cJ cZ cO H.size r_21 r_50 _ hw) (va_cwS 2 hts gX0_leadLength_X0_leadsBetween rfl rfl rfl (by decide +kernel) ⟨Nat.le_of_ble_eq_true rfl, Nat.le_of_ble_eq_true rfl⟩) (preS (X := (W_X0_leadLength h a cI cJ cZ v_owners)) (pl := []) (cx := ([] : va_W)) hK hE hP hD [] (by decide) rfl) rfl rfl hl.1 rfl (lv_room (Nat.le_of_ble_eq_true rfl)) dX0_leadLength_53 ⟨Nat.zero_le _, Nat.zero_le _⟩) (fun r_53 _ H locs hw hP hD hS => ?_)
        try dsimp only at hw
        have hP : va_P D vwCl (W_X0_leadLength h a cI cJ cZ v_owners) H := hP
        have hD : va_D A (W_X0_leadLength h a cI cJ cZ v_owners) := hD
        refine lv_iadd hx hb dX0_leadLength_56 ?_
        refine lv_istore_n (lv' := [(1, .int ((x1_j12 + r_37) + r_53)), (4, .int r_21), (0, .ref h), (2, .int x2_j12), (3, .int x3_j12)]) hx hb dX0_leadLength_57 rfl hl (by decide) rfl (fun ls hl => ?_)
        refine lv_iinc (v := (x3_j12 + 1)) (lv' := [(3, .int (x3_j12 + 1)), (1, .int ((x1_j12 + r_37) + r_53)), (4, .int r_21), (0, .ref h), (2, .int x2_j12)]) hx hb dX0_leadLength_58 hl (k := 4) rfl rfl (by decide) rfl (fun ls hl => ?_)
        refine lv_goto (tgt := 12) hx hb dX0_leadLength_61 (by decide) ?_
        exact ih12 (((x1_j12 + r_37) + r_53), x2_j12, (x3_j12 + 1)) hw _ _ ls hP hD hS (lv_sub hl [3, 1, 4, 0] rfl)
    unfold wp_X0_leadLength_4 at hw
    refine lv_iload_n hx hb dX0_leadLength_4 rfl (lv_at hl 2 rfl) ?_
    refine lv_bipush (v := 16) hx hb dX0_leadLength_5 (by decide) ?_
    refine lv_icmp_gt (tgt := 70) hx hb dX0_leadLength_7 (by decide) (fun c7 => ?_) (fun c7 => ?_)
    · have hw := hw.1 c7
      refine lv_iload_n hx hb dX0_leadLength_70 rfl (lv_at hl 1 rfl) ?_
      exact RT x1_j4 () _ _ _ _ dX0_leadLength_71 hw hP hD hS
    · have hw := hw.2 c7
      refine lv_iconst (v := 0) hx hb dX0_leadLength_10 (by decide) ?_
      refine lv_istore_n (lv' := [(3, .int 0), (0, .ref h), (1, .int x1_j4), (2, .int x2_j4)]) hx hb dX0_leadLength_11 rfl hl (by decide) rfl (fun ls hl => ?_)
      exact L12 (x1_j4, x2_j4, 0) hw _ _ ls hP hD hS (lv_sub hl [1, 2, 3, 0] rfl)
  refine lv_iconst (v := 0) hx hb dX0_leadLength_0 (by decide) ?_
  refine lv_istore_n (lv' := [(1, .int 0), (0, .ref h)]) hx hb dX0_leadLength_1 rfl hl (by decide) rfl (fun ls hl => ?_)
  refine lv_iconst (v := 0) hx hb dX0_leadLength_2 (by decide) ?_
  refine lv_istore_n (lv' := [(2, .int 0), (1, .int 0), (0, .ref h)]) hx hb dX0_leadLength_3 rfl hl (by decide) rfl (fun ls hl => ?_)
  exact L4 (0, 0) hw _ _ ls hP hD hS (lv_sub hl [2, 1, 0] rfl)
