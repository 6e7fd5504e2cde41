/-! printed by wip/whole/gen: X5_firstOf X5_layAll X5_sheets X5_laid X5_waste X5_floorDiv X5_shown X5_floor X5_floorAnew X5_crosses X5_bends X5_isShut X5_history -/
abbrev rm_X5_firstOf : Room := { frames := 1, cells := 0, slots := 0, locals := 26 }
abbrev W_X5_firstOf (h : Nat) (a : Nat → Nat) (cI cJ cZ : ClassId) (v_thrown : Int32) (v_made : Int32) (v_of : Nat → Int32) (v_many : Nat → Int32) (v_colour : Nat → Int32) (v_heart : Int32) (v_width : Int32) (v_isTried : Nat → Int32) (v_sheets : Int32) (v_covered : Int32) : va_W := [(h, .inr (6, [.int v_thrown, .int v_made, .ref (a 2), .ref (a 3), .ref (a 4), .ref (a 5), .ref (a 6), .ref (a 7), .ref (a 8), .ref (a 9), .ref (a 10), .ref (a 11), .int v_heart, .int v_width, .ref (a 14), .ref (a 15), .ref (a 16), .ref (a 17), .ref (a 18), .ref (a 19), .ref (a 20), .ref (a 21), .int v_sheets, .int v_covered])), ((a 2), .inl (cI, 256, .inl v_of)), ((a 3), .inl (cI, 60, .inl v_many)), ((a 4), .inl (cI, 60, .inl v_colour)), ((a 21), .inl (cZ, 60, .inl v_isTried))]
def wp_X5_firstOf_99 (v_made : Int32) (v_of : Nat → Int32) (v_many : Nat → Int32) (v_colour : Nat → Int32) (v_isTried : Nat → Int32) (p1 : Int32) (post : Int32 → Prop) (K4 : Int32 → Int32 → Prop) (s0_j99 : Int32) (x3_j99 : Int32) : Prop := K4 s0_j99 (x3_j99 + 1)
def wp_X5_firstOf_87 (v_made : Int32) (v_of : Nat → Int32) (v_many : Nat → Int32) (v_colour : Nat → Int32) (v_isTried : Nat → Int32) (p1 : Int32) (post : Int32 → Prop) (K4 : Int32 → Int32 → Prop) (s0_j87 : Int32) (x2_j87 : Int32) (x3_j87 : Int32) : Prop := (s0_j87 ≤ 0 → wp_X5_firstOf_99 v_made v_of v_many v_colour v_isTried p1 post K4 x2_j87 x3_j87) ∧ (¬ s0_j87 ≤ 0 → wp_X5_firstOf_99 v_made v_of v_many v_colour v_isTried p1 post K4 x3_j87 x3_j87)
def wp_X5_firstOf_62 (v_made : Int32) (v_of : Nat → Int32) (v_many : Nat → Int32) (v_colour : Nat → Int32) (v_isTried : Nat → Int32) (p1 : Int32) (post : Int32 → Prop) (K4 : Int32 → Int32 → Prop) (s0_j62 : Int32) (x2_j62 : Int32) (x3_j62 : Int32) : Prop := (s0_j62 = 0 → wp_X5_box v_of x3_j62 0 (fun r_77 => wp_X5_box v_of x2_j62 0 (fun r_83 => wp_X5_firstOf_87 v_made v_of v_many v_colour v_isTried p1 post K4 (r_77 - r_83) x2_j62 x3_j62))) ∧ (¬ s0_j62 = 0 → wp_X5_firstOf_87 v_made v_of v_many v_colour v_isTried p1 post K4 s0_j62 x2_j62 x3_j62)
def wp_X5_firstOf_4 (v_made : Int32) (v_of : Nat → Int32) (v_many : Nat → Int32) (v_colour : Nat → Int32) (v_isTried : Nat → Int32) (p1 : Int32) (post : Int32 → Prop) (K4 : Int32 → Int32 → Prop) (x2_j4 : Int32) (x3_j4 : Int32) : Prop := (v_made ≤ x3_j4 → post x2_j4) ∧ (¬ v_made ≤ x3_j4 → vp_in x3_j4 60 ∧ (((v_many x3_j4.toNatClampNeg) ≤ 0 → K4 x2_j4 (x3_j4 + 1)) ∧ (¬ (v_many x3_j4.toNatClampNeg) ≤ 0 → vp_in x3_j4 60 ∧ (((v_colour x3_j4.toNatClampNeg) = p1 → vp_in x3_j4 60 ∧ (((v_isTried x3_j4.toNatClampNeg) = 0 → (x2_j4 = (-1) → wp_X5_firstOf_62 v_made v_of v_many v_colour v_isTried p1 post K4 1 x2_j4 x3_j4) ∧ (¬ x2_j4 = (-1) → wp_X5_box v_of x3_j4 1 (fun r_52 => wp_X5_box v_of x2_j4 1 (fun r_58 => wp_X5_firstOf_62 v_made v_of v_many v_colour v_isTried p1 post K4 (r_52 - r_58) x2_j4 x3_j4)))) ∧ (¬ (v_isTried x3_j4.toNatClampNeg) = 0 → K4 x2_j4 (x3_j4 + 1)))) ∧ (¬ (v_colour x3_j4.toNatClampNeg) = p1 → K4 x2_j4 (x3_j4 + 1))))))
def lF_X5_firstOf_4 (v_made : Int32) (v_of : Nat → Int32) (v_many : Nat → Int32) (v_colour : Nat → Int32) (v_isTried : Nat → Int32) (p1 : Int32) (post : Int32 → Prop) : ((Int32 × Int32) → Prop) → (Int32 × Int32) → Prop := fun K s => wp_X5_firstOf_4 v_made v_of v_many v_colour v_isTried p1 post (fun b0 b1 => K (b0, b1)) s.1 s.2
def wp_X5_firstOf (v_made : Int32) (v_of : Nat → Int32) (v_many : Nat → Int32) (v_colour : Nat → Int32) (v_isTried : Nat → Int32) (p1 : Int32) (post : Int32 → Prop) : Prop := lp (lF_X5_firstOf_4 v_made v_of v_many v_colour v_isTried p1 post) ((-1), 0)
set_option maxHeartbeats 4000000 in
set_option maxRecDepth 100000 in
theorem c_X5_firstOf (l : Launch) (D : va_G) (cI cJ cZ cO : ClassId) (h : Nat) (a : Nat → Nat) (sz : Nat) (v_thrown : Int32) (v_made : Int32) (v_of : Nat → Int32) (v_many : Nat → Int32) (v_colour : Nat → Int32) (v_heart : Int32) (v_width : Int32) (v_isTried : Nat → Int32) (v_sheets : Int32) (v_covered : Int32) (p1 : Int32) (post : Int32 → Prop) (hw : wp_X5_firstOf v_made v_of v_many v_colour v_isTried p1 post) : Met l yX5_firstOf wsX5_firstOf rm_X5_firstOf (va_Pc [.ref h, .int p1] (PRE D cI cJ cZ cO (W_X5_firstOf h a cI cJ cZ v_thrown v_made v_of v_many v_colour v_heart v_width v_isTried v_sheets v_covered) sz)) (va_Qi (fun r (_ : Unit) => post r) (fun u t => POST D (va_A (W_X5_firstOf h a cI cJ cZ v_thrown v_made v_of v_many v_colour v_heart v_width v_isTried v_sheets v_covered) sz) (W_X5_firstOf h a cI cJ cZ v_thrown v_made v_of v_many v_colour v_heart v_width v_isTried v_sheets v_covered) t) (va_A (W_X5_firstOf h a cI cJ cZ v_thrown v_made v_of v_many v_colour v_heart v_width v_isTried v_sheets v_covered) sz)) 0 0 (va_A (W_X5_firstOf h a cI cJ cZ v_thrown v_made v_of v_many v_colour v_heart v_width v_isTried v_sheets v_covered) sz) := by
  refine met_go (cc := cX5_firstOf) (maxL := 5) (ret := some .int) RX5 rfl (by decide) rfl (Nat.le_of_ble_eq_true rfl) ?_
  intro p e s m args below meth c ls hx hb hr hts hown hlocks hin hml hsz hP hK hE hD hA hS hl
  have iRX5 : ∀ w ∈ u_ws RX5 TX5 24, w ∈ wsX5_firstOf := mem_seg 11 24 rfl
  generalize va_A (W_X5_firstOf h a cI cJ cZ v_thrown v_made v_of v_many v_colour v_heart v_width v_isTried v_sheets v_covered) sz = A at hD hA hS ⊢
  have RT : ∀ (v : Int32) (u : Unit) (H : Heap) (locs : List Loc) (pc : Nat) (ls : Array Slot), decode cX5_firstOf pc = .ok (.ireturn, 1) → post v → va_P D vwCl (W_X5_firstOf h a cI cJ cZ v_thrown v_made v_of v_many v_colour v_heart v_width v_isTried v_sheets v_covered) H → va_D A (W_X5_firstOf h a cI cJ cZ v_thrown v_made v_of v_many v_colour v_heart v_width v_isTried v_sheets v_covered) → va_S A s.heap H locs → W p l e rm_X5_firstOf s m args below meth c H locs 0 0 (MQ below (va_Qi (fun r (_ : Unit) => post r) (fun u t => POST D A (W_X5_firstOf h a cI cJ cZ v_thrown v_made v_of v_many v_colour v_heart v_width v_isTried v_sheets v_covered) t) A) args s 0 0 A) (F0 m pc ls [.int v]) := fun v u H locs pc ls d g1 g2 g3 g4 => rt_i (Wf := fun u => (W_X5_firstOf h a cI cJ cZ v_thrown v_made v_of v_many v_colour v_heart v_width v_isTried v_sheets v_covered)) u hx hb hr hlocks g1 g2 g3 g4 d
  generalize (MQ below (va_Qi (fun r (_ : Unit) => post r) (fun u t => POST D A (W_X5_firstOf h a cI cJ cZ v_thrown v_made v_of v_many v_colour v_heart v_width v_isTried v_sheets v_covered) t) A) args s 0 0 A) = QQ at RT ⊢
  have hl : lv_has ls 5 [(0, .ref h), (1, .int p1)] := hl
  have hP : va_P D vwCl (W_X5_firstOf h a cI cJ cZ v_thrown v_made v_of v_many v_colour v_heart v_width v_isTried v_sheets v_covered) s.heap := hP
  unfold wp_X5_firstOf at hw
  suffices GO : ∀ (H : Heap) (locs : List Loc), va_P D vwCl (W_X5_firstOf h a cI cJ cZ v_thrown v_made v_of v_many v_colour v_heart v_width v_isTried v_sheets v_covered) H → va_S A s.heap H locs → W p l e rm_X5_firstOf s m args below meth c H locs 0 0 QQ (F0 m 0 ls []) from GO _ _ hP hS
  clear hsz hP hS
  intro H locs hP hS
  have L4 : ∀ s0 : (Int32 × Int32), lp (lF_X5_firstOf_4 v_made v_of v_many v_colour v_isTried p1 post) s0 → ∀ (H : Heap) (locs : List Loc) (ls : Array Slot), va_P D vwCl (W_X5_firstOf h a cI cJ cZ v_thrown v_made v_of v_many v_colour v_heart v_width v_isTried v_sheets v_covered) H → va_D A (W_X5_firstOf h a cI cJ cZ v_thrown v_made v_of v_many v_colour v_heart v_width v_isTried v_sheets v_covered) → va_S A s.heap H locs → lv_has ls 5 [(0, .ref h), (1, .int p1), (2, .int s0.1), (3, .int s0.2)] → W p l e rm_X5_firstOf s m args below meth c H locs 0 0 QQ (F0 m 4 ls []) := by
    refine lp_elim (fun K4 ih4 s0 hw => ?_)
    obtain ⟨x2_j4, x3_j4⟩ := s0
    intro H locs ls hP hD hS hl
    have hw : wp_X5_firstOf_4 v_made v_of v_many v_colour v_isTried p1 post (fun b0 b1 => K4 (b0, b1)) x2_j4 x3_j4 := hw
    have hP : va_P D vwCl (W_X5_firstOf h a cI cJ cZ v_thrown v_made v_of v_many v_colour v_heart v_width v_isTried v_sheets v_covered) H := hP
    have hD : va_D A (W_X5_firstOf h a cI cJ cZ v_thrown v_made v_of v_many v_colour v_heart v_width v_isTried v_sheets v_covered) := hD
    have hl : lv_has ls 5 [(0, .ref h), (1, .int p1), (2, .int x2_j4), (3, .int x3_j4)] := hl
    have J99 : ∀ (s0_j99 : Int32) (x3_j99 : Int32) , wp_X5_firstOf_99 v_made v_of v_many v_colour v_isTried p1 post (fun b0 b1 => K4 (b0, b1)) s0_j99 x3_j99 → ∀ (H : Heap) (locs : List Loc) (ls : Array Slot), va_P D vwCl (W_X5_firstOf h a cI cJ cZ v_thrown v_made v_of v_many v_colour v_heart v_width v_isTried v_sheets v_covered) H → va_D A (W_X5_firstOf h a cI cJ cZ v_thrown v_made v_of v_many v_colour v_heart v_width v_isTried v_sheets v_covered) → va_S A s.heap H locs → lv_has ls 5 [(0, .ref h), (1, .int p1), (3, .int x3_j99)] → W p l e rm_X5_firstOf s m args below meth c H locs 0 0 QQ (F0 m 99 ls [.int s0_j99]) := by
      intro s0_j99 x3_j99 hw H locs ls hP hD hS hl
      unfold wp_X5_firstOf_99 at hw
      refine lv_istore_n (lv' := [(2, .int s0_j99), (0, .ref h), (1, .int p1), (3, .int x3_j99)]) hx hb dX5_firstOf_99 rfl hl (by decide) rfl (fun ls hl => ?_)
      refine lv_iinc (v := (x3_j99 + 1)) (lv' := [(3, .int (x3_j99 + 1)), (2, .int s0_j99), (0, .ref h), (1, .int p1)]) hx hb dX5_firstOf_100 hl (k := 3) rfl rfl (by decide) rfl (fun ls hl => ?_)
      refine lv_goto (tgt := 4) hx hb dX5_firstOf_103 (by decide) ?_
      exact ih4 (s0_j99, (x3_j99 + 1)) hw _ _ ls hP hD hS (lv_sub hl [2, 3, 1, 0] rfl)
    have J87 : ∀ (s0_j87 : Int32) (x2_j87 : Int32) (x3_j87 : Int32) , wp_X5_firstOf_87 v_made v_of v_many v_colour v_isTried p1 post (fun b0 b1 => K4 (b0, b1)) s0_j87 x2_j87 x3_j87 → ∀ (H : Heap) (locs : List Loc) (ls : Array Slot), va_P D vwCl (W_X5_firstOf h a cI cJ cZ v_thrown v_made v_of v_many v_colour v_heart v_width v_isTried v_sheets v_covered) H → va_D A (W_X5_firstOf h a cI cJ cZ v_thrown v_made v_of v_many v_colour v_heart v_width v_isTried v_sheets v_covered) → va_S A s.heap H locs → lv_has ls 5 [(0, .ref h), (1, .int p1), (2, .int x2_j87), (3, .int x3_j87)] → W p l e rm_X5_firstOf s m args below meth c H locs 0 0 QQ (F0 m 87 ls [.int s0_j87]) := by
      intro s0_j87 x2_j87 x3_j87 hw H locs ls hP hD hS hl
      unfold wp_X5_firstOf_87 at hw
      refine lv_istore (lv' := [(4, .int s0_j87), (0, .ref h), (1, .int p1), (2, .int x2_j87), (3, .int x3_j87)]) hx hb dX5_firstOf_87 hl (by decide) rfl (fun ls hl => ?_)
      refine lv_iload hx hb dX5_firstOf_89 (lv_at hl 0 rfl) ?_
      refine lv_if_le (tgt := 98) hx hb dX5_firstOf_91 (by decide) (fun c91 => ?_) (fun c91 => ?_)
      · have hw := hw.1 c91
        refine lv_iload_n hx hb dX5_firstOf_98 rfl (lv_at hl 3 rfl) ?_
        exact J99 x2_j87 x3_j87 hw _ _ ls hP hD hS (lv_sub hl [1, 2, 4] rfl)
      · have hw := hw.2 c91
        refine lv_iload_n hx hb dX5_firstOf_94 rfl (lv_at hl 4 rfl) ?_
        refine lv_goto (tgt := 99) hx hb dX5_firstOf_95 (by decide) ?_
        exact J99 x3_j87 x3_j87 hw _ _ ls hP hD hS (lv_sub hl [1, 2, 4] rfl)
    have J62 : ∀ (s0_j62 : Int32) (x2_j62 : Int32) (x3_j62 : Int32) , wp_X5_firstOf_62 v_made v_of v_many v_colour v_isTried p1 post (fun b0 b1 => K4 (b0, b1)) s0_j62 x2_j62 x3_j62 → ∀ (H : Heap) (locs : List Loc) (ls : Array Slot), va_P D vwCl (W_X5_firstOf h a cI cJ cZ v_thrown v_made v_of v_many v_colour v_heart v_width v_isTried v_sheets v_covered) H → va_D A (W_X5_firstOf h a cI cJ cZ v_thrown v_made v_of v_many v_colour v_heart v_width v_isTried v_sheets v_covered) → va_S A s.heap H locs → lv_has ls 5 [(0, .ref h), (1, .int p1), (2, .int x2_j62), (3, .int x3_j62)] → W p l e rm_X5_firstOf s m args below meth c H locs 0 0 QQ (F0 m 62 ls [.int s0_j62]) := by
      intro s0_j62 x2_j62 x3_j62 hw H locs ls hP hD hS hl
      unfold wp_X5_firstOf_62 at hw
      refine lv_istore (lv' := [(4, .int s0_j62), (0, .ref h), (1, .int p1), (2, .int x2_j62), (3, .int x3_j62)]) hx hb dX5_firstOf_62 hl (by decide) rfl (fun ls hl => ?_)
      refine lv_iload hx hb dX5_firstOf_64 (lv_at hl 0 rfl) ?_
      refine lv_if_eq (tgt := 74) hx hb dX5_firstOf_66 (by decide) (fun c66 => ?_) (fun c66 => ?_)
      · have hw := hw.1 c66
        refine lv_aload_n hx hb dX5_firstOf_74 rfl (lv_at hl 1 rfl) ?_
        refine lv_iload_n hx hb dX5_firstOf_75 rfl (lv_at hl 4 rfl) ?_
        refine lv_iconst (v := 0) hx hb dX5_firstOf_76 (by decide) ?_
        refine af_i (X := (W_X5_firstOf h a cI cJ cZ v_thrown v_made v_of v_many v_colour v_heart v_width v_isTried v_sheets v_covered)) (pl := []) (cx := (W_X5_box h a cI cJ cZ v_thrown v_made v_of v_heart v_width v_sheets v_covered)) (w1 := fun (u : Unit) => (W_X5_box h a cI cJ cZ v_thrown v_made v_of v_heart v_width v_sheets v_covered)) (X' := fun (u : Unit) => (W_X5_firstOf h a cI cJ cZ v_thrown v_made v_of v_many v_colour v_heart v_width v_isTried v_sheets v_covered)) hP hD hS hA [0, 1] [2, 3, 4] [3, 4, 0, 1, 2] rfl rfl (by decide) (by decide) (fun u => rfl) (by decide) (va_runV (As := [.int x3_j62, .int 0]) (rest := []) ⟨hx, hb, hml, hown, hts⟩ (c_X5_box l D cI cJ cZ cO h a H.size v_thrown v_made v_of v_heart v_width v_sheets v_covered x3_j62 0 _ hw) (cwV 2 hts gX5_firstOf_X5_box rfl rfl rfl (by decide +kernel) ⟨Nat.le_of_ble_eq_true rfl, Nat.le_of_ble_eq_true rfl⟩) (preV (X := (W_X5_firstOf h a cI cJ cZ v_thrown v_made v_of v_many v_colour v_heart v_width v_isTried v_sheets v_covered)) (pl := []) (cx := (W_X5_box h a cI cJ cZ v_thrown v_made v_of v_heart v_width v_sheets v_covered)) (qb := 0) (ci := 6) hK hE hP hD [0, 1] (by decide) rfl rfl rfl) rfl rfl hl.1 rfl (lv_room (Nat.le_of_ble_eq_true rfl)) dX5_firstOf_77 ⟨Nat.zero_le _, Nat.zero_le _⟩) (fun r_77 _ H locs hw hP hD hS => ?_)
        try dsimp only at hw
        have hP : va_P D vwCl (W_X5_firstOf h a cI cJ cZ v_thrown v_made v_of v_many v_colour v_heart v_width v_isTried v_sheets v_covered) H := hP
        have hD : va_D A (W_X5_firstOf h a cI cJ cZ v_thrown v_made v_of v_many v_colour v_heart v_width v_isTried v_sheets v_covered) := hD
        refine lv_aload_n hx hb dX5_firstOf_80 rfl (lv_at hl 1 rfl) ?_
        refine lv_iload_n hx hb dX5_firstOf_81 rfl (lv_at hl 3 rfl) ?_
        refine lv_iconst (v := 0) hx hb dX5_firstOf_82 (by decide) ?_
        refine af_i (X := (W_X5_firstOf h a cI cJ cZ v_thrown v_made v_of v_many v_colour v_heart v_width v_isTried v_sheets v_covered)) (pl := []) (cx := (W_X5_box h a cI cJ cZ v_thrown v_made v_of v_heart v_width v_sheets v_covered)) (w1 := fun (u : Unit) => (W_X5_box h a cI cJ cZ v_thrown v_made v_of v_heart v_width v_sheets v_covered)) (X' := fun (u : Unit) => (W_X5_firstOf h a cI cJ cZ v_thrown v_made v_of v_many v_colour v_heart v_width v_isTried v_sheets v_covered)) hP hD hS hA [0, 1] [2, 3, 4] [3, 4, 0, 1, 2] rfl rfl (by decide) (by decide) (fun u => rfl) (by decide) (va_runV (As := [.int x2_j62, .int 0]) (rest := [.int r_77]) ⟨hx, hb, hml, hown, hts⟩ (c_X5_box l D cI cJ cZ cO h a H.size v_thrown v_made v_of v_heart v_width v_sheets v_covered x2_j62 0 _ hw) (cwV 2 hts gX5_firstOf_X5_box rfl rfl rfl (by decide +kernel) ⟨Nat.le_of_ble_eq_true rfl, Nat.le_of_ble_eq_true rfl⟩) (preV (X := (W_X5_firstOf h a cI cJ cZ v_thrown v_made v_of v_many v_colour v_heart v_width v_isTried v_sheets v_covered)) (pl := []) (cx := (W_X5_box h a cI cJ cZ v_thrown v_made v_of v_heart v_width v_sheets v_covered)) (qb := 0) (ci := 6) hK hE hP hD [0, 1] (by decide) rfl rfl rfl) rfl rfl hl.1 rfl (lv_room (Nat.le_of_ble_eq_true rfl)) dX5_firstOf_83 ⟨Nat.zero_le _, Nat.zero_le _⟩) (fun r_83 _ H locs hw hP hD hS => ?_)
        try dsimp only at hw
        have hP : va_P D vwCl (W_X5_firstOf h a cI cJ cZ v_thrown v_made v_of v_many v_colour v_heart v_width v_isTried v_sheets v_covered) H := hP
        have hD : va_D A (W_X5_firstOf h a cI cJ cZ v_thrown v_made v_of v_many v_colour v_heart v_width v_isTried v_sheets v_covered) := hD
        refine lv_isub hx hb dX5_firstOf_86 ?_
        exact J87 (r_77 - r_83) x2_j62 x3_j62 hw _ _ ls hP hD hS (lv_sub hl [1, 2, 3, 4] rfl)
      · have hw := hw.2 c66
        refine lv_iload hx hb dX5_firstOf_69 (lv_at hl 0 rfl) ?_
        refine lv_goto (tgt := 87) hx hb dX5_firstOf_71 (by decide) ?_
        exact J87 s0_j62 x2_j62 x3_j62 hw _ _ ls hP hD hS (lv_sub hl [1, 2, 3, 4] rfl)
    unfold wp_X5_firstOf_4 at hw
    refine lv_iload_n hx hb dX5_firstOf_4 rfl (lv_at hl 3 rfl) ?_
    refine lv_aload_n hx hb dX5_firstOf_5 rfl (lv_at hl 0 rfl) ?_
    refine va_get (D := D) (ci := 6) (v := .int v_made) (C := RX5) (T := TX5) (N := 24) hx hb hts iRX5 hown hK hP 0 rfl rfl 1 (by decide) (hts (.fieldLink RX5 7 "LeadlightModel" "made" "I") (List.mem_of_getElem? (i := 1) rfl)) (fun _ h9 => h9) rfl dX5_firstOf_6 ?_
    refine lv_icmp_ge (tgt := 106) hx hb dX5_firstOf_9 (by decide) (fun c9 => ?_) (fun c9 => ?_)
    · have hw := hw.1 c9
      refine lv_iload_n hx hb dX5_firstOf_106 rfl (lv_at hl 2 rfl) ?_
      exact RT x2_j4 () _ _ _ _ dX5_firstOf_107 hw hP hD hS
    · have hw := hw.2 c9
      refine lv_aload_n hx hb dX5_firstOf_12 rfl (lv_at hl 0 rfl) ?_
      refine va_get (D := D) (ci := 6) (v := .ref (a 3)) (C := RX5) (T := TX5) (N := 24) hx hb hts iRX5 hown hK hP 0 rfl rfl 3 (by decide) (hts (.fieldLink RX5 17 "LeadlightModel" "many" "[I") (List.mem_of_getElem? (i := 2) rfl)) (fun _ h9 => h9) rfl dX5_firstOf_13 ?_
      refine lv_iload_n hx hb dX5_firstOf_16 rfl (lv_at hl 3 rfl) ?_
      obtain ⟨hi_17, hw⟩ := hw
      refine va_iald hx hb hK hP 2 0 rfl rfl hi_17 dX5_firstOf_17 ?_
      refine lv_if_le (tgt := 100) hx hb dX5_firstOf_18 (by decide) (fun c18 => ?_) (fun c18 => ?_)
      · have hw := hw.1 c18
        refine lv_iinc (v := (x3_j4 + 1)) (lv' := [(3, .int (x3_j4 + 1)), (0, .ref h), (1, .int p1), (2, .int x2_j4)]) hx hb dX5_firstOf_100 hl (k := 3) rfl rfl (by decide) rfl (fun ls hl => ?_)
        refine lv_goto (tgt := 4) hx hb dX5_firstOf_103 (by decide) ?_
        exact ih4 (x2_j4, (x3_j4 + 1)) hw _ _ ls hP hD hS (lv_sub hl [1, 2, 3, 0] rfl)
      · have hw := hw.2 c18
        refine lv_aload_n hx hb dX5_firstOf_21 rfl (lv_at hl 0 rfl) ?_
        refine va_get (D := D) (ci := 6) (v := .ref (a 4)) (C := RX5) (T := TX5) (N := 24) hx hb hts iRX5 hown hK hP 0 rfl rfl 4 (by decide) (hts (.fieldLink RX5 20 "LeadlightModel" "colour" "[I") (List.mem_of_getElem? (i := 3) rfl)) (fun _ h9 => h9) rfl dX5_firstOf_22 ?_
        refine lv_iload_n hx hb dX5_firstOf_25 rfl (lv_at hl 3 rfl) ?_
        obtain ⟨hi_26, hw⟩ := hw
        refine va_iald hx hb hK hP 3 0 rfl rfl hi_26 dX5_firstOf_26 ?_
        refine lv_iload_n hx hb dX5_firstOf_27 rfl (lv_at hl 1 rfl) ?_
        refine lv_icmp_ne (tgt := 100) hx hb dX5_firstOf_28 (by decide) (fun c28 => ?_) (fun c28 => ?_)
        · have hw := hw.2 c28
          refine lv_iinc (v := (x3_j4 + 1)) (lv' := [(3, .int (x3_j4 + 1)), (0, .ref h), (1, .int p1), (2, .int x2_j4)]) hx hb dX5_firstOf_100 hl (k := 3) rfl rfl (by decide) rfl (fun ls hl => ?_)
          refine lv_goto (tgt := 4) hx hb dX5_firstOf_103 (by decide) ?_
          exact ih4 (x2_j4, (x3_j4 + 1)) hw _ _ ls hP hD hS (lv_sub hl [1, 2, 3, 0] rfl)
        · have hw := hw.1 c28
          refine lv_aload_n hx hb dX5_firstOf_31 rfl (lv_at hl 0 rfl) ?_
          refine va_get (D := D) (ci := 6) (v := .ref (a 21)) (C := RX5) (T := TX5) (N := 24) hx hb hts iRX5 hown hK hP 0 rfl rfl 21 (by decide) (hts (.fieldLink RX5 72 "LeadlightModel" "isTried" "[Z") (List.mem_of_getElem? (i := 4) rfl)) (fun _ h9 => h9) rfl dX5_firstOf_32 ?_
          refine lv_iload_n hx hb dX5_firstOf_35 rfl (lv_at hl 3 rfl) ?_
          obtain ⟨hi_36, hw⟩ := hw
          refine va_zald hx hb hK hP 4 2 rfl rfl hi_36 dX5_firstOf_36 ?_
          refine lv_if_ne (tgt := 100) hx hb dX5_firstOf_37 (by decide) (fun c37 => ?_) (fun c37 => ?_)
          · have hw := hw.2 c37
            refine lv_iinc (v := (x3_j4 + 1)) (lv' := [(3, .int (x3_j4 + 1)), (0, .ref h), (1, .int p1), (2, .int x2_j4)]) hx hb dX5_firstOf_100 hl (k := 3) rfl rfl (by decide) rfl (fun ls hl => ?_)
            refine lv_goto (tgt := 4) hx hb dX5_firstOf_103 (by decide) ?_
            exact ih4 (x2_j4, (x3_j4 + 1)) hw _ _ ls hP hD hS (lv_sub hl [1, 2, 3, 0] rfl)
          · have hw := hw.1 c37
            refine lv_iload_n hx hb dX5_firstOf_40 rfl (lv_at hl 2 rfl) ?_
            refine lv_iconst (v := (-1)) hx hb dX5_firstOf_41 (by decide) ?_
            refine lv_icmp_ne (tgt := 49) hx hb dX5_firstOf_42 (by decide) (fun c42 => ?_) (fun c42 => ?_)
            · have hw := hw.2 c42
              refine lv_aload_n hx hb dX5_firstOf_49 rfl (lv_at hl 0 rfl) ?_
              refine lv_iload_n hx hb dX5_firstOf_50 rfl (lv_at hl 3 rfl) ?_
              refine lv_iconst (v := 1) hx hb dX5_firstOf_51 (by decide) ?_
              refine af_i (X := (W_X5_firstOf h a cI cJ cZ v_thrown v_made v_of v_many v_colour v_heart v_width v_isTried v_sheets v_covered)) (pl := []) (cx := (W_X5_box h a cI cJ cZ v_thrown v_made v_of v_heart v_width v_sheets v_covered)) (w1 := fun (u : Unit) => (W_X5_box h a cI cJ cZ v_thrown v_made v_of v_heart v_width v_sheets v_covered)) (X' := fun (u : Unit) => (W_X5_firstOf h a cI cJ cZ v_thrown v_made v_of v_many v_colour v_heart v_width v_isTried v_sheets v_covered)) hP hD hS hA [0, 1] [2, 3, 4] [3, 4, 0, 1, 2] rfl rfl (by decide) (by decide) (fun u => rfl) (by decide) (va_runV (As := [.int x3_j4, .int 1]) (rest := []) ⟨hx, hb, hml, hown, hts⟩ (c_X5_box l D cI cJ cZ cO h a H.size v_thrown v_made v_of v_heart v_width v_sheets v_covered x3_j4 1 _ hw) (cwV 2 hts gX5_firstOf_X5_box rfl rfl rfl (by decide +kernel) ⟨Nat.le_of_ble_eq_true rfl, Nat.le_of_ble_eq_true rfl⟩) (preV (X := (W_X5_firstOf h a cI cJ cZ v_thrown v_made v_of v_many v_colour v_heart v_width v_isTried v_sheets v_covered)) (pl := []) (cx := (W_X5_box h a cI cJ cZ v_thrown v_made v_of v_heart v_width v_sheets v_covered)) (qb := 0) (ci := 6) hK hE hP hD [0, 1] (by decide) rfl rfl rfl) rfl rfl hl.1 rfl (lv_room (Nat.le_of_ble_eq_true rfl)) dX5_firstOf_52 ⟨Nat.zero_le _, Nat.zero_le _⟩) (fun r_52 _ H locs hw hP hD hS => ?_)
              try dsimp only at hw
              have hP : va_P D vwCl (W_X5_firstOf h a cI cJ cZ v_thrown v_made v_of v_many v_colour v_heart v_width v_isTried v_sheets v_covered) H := hP
              have hD : va_D A (W_X5_firstOf h a cI cJ cZ v_thrown v_made v_of v_many v_colour v_heart v_width v_isTried v_sheets v_covered) := hD
              refine lv_aload_n hx hb dX5_firstOf_55 rfl (lv_at hl 0 rfl) ?_
              refine lv_iload_n hx hb dX5_firstOf_56 rfl (lv_at hl 2 rfl) ?_
              refine lv_iconst (v := 1) hx hb dX5_firstOf_57 (by decide) ?_
              refine af_i (X := (W_X5_firstOf h a cI cJ cZ v_thrown v_made v_of v_many v_colour v_heart v_width v_isTried v_sheets v_covered)) (pl := []) (cx := (W_X5_box h a cI cJ cZ v_thrown v_made v_of v_heart v_width v_sheets v_covered)) (w1 := fun (u : Unit) => (W_X5_box h a cI cJ cZ v_thrown v_made v_of v_heart v_width v_sheets v_covered)) (X' := fun (u : Unit) => (W_X5_firstOf h a cI cJ cZ v_thrown v_made v_of v_many v_colour v_heart v_width v_isTried v_sheets v_covered)) hP hD hS hA [0, 1] [2, 3, 4] [3, 4, 0, 1, 2] rfl rfl (by decide) (by decide) (fun u => rfl) (by decide) (va_runV (As := [.int x2_j4, .int 1]) (rest := [.int r_52]) ⟨hx, hb, hml, hown, hts⟩ (c_X5_box l D cI cJ cZ cO h a H.size v_thrown v_made v_of v_heart v_width v_sheets v_covered x2_j4 1 _ hw) (cwV 2 hts gX5_firstOf_X5_box rfl rfl rfl (by decide +kernel) ⟨Nat.le_of_ble_eq_true rfl, Nat.le_of_ble_eq_true rfl⟩) (preV (X := (W_X5_firstOf h a cI cJ cZ v_thrown v_made v_of v_many v_colour v_heart v_width v_isTried v_sheets v_covered)) (pl := []) (cx := (W_X5_box h a cI cJ cZ v_thrown v_made v_of v_heart v_width v_sheets v_covered)) (qb := 0) (ci := 6) hK hE hP hD [0, 1] (by decide) rfl rfl rfl) rfl rfl hl.1 rfl (lv_room (Nat.le_of_ble_eq_true rfl)) dX5_firstOf_58 ⟨Nat.zero_le _, Nat.zero_le _⟩) (fun r_58 _ H locs hw hP hD hS => ?_)
              try dsimp only at hw
              have hP : va_P D vwCl (W_X5_firstOf h a cI cJ cZ v_thrown v_made v_of v_many v_colour v_heart v_width v_isTried v_sheets v_covered) H := hP
              have hD : va_D A (W_X5_firstOf h a cI cJ cZ v_thrown v_made v_of v_many v_colour v_heart v_width v_isTried v_sheets v_covered) := hD
              refine lv_isub hx hb dX5_firstOf_61 ?_
              exact J62 (r_52 - r_58) x2_j4 x3_j4 hw _ _ ls hP hD hS (lv_sub hl [0, 1, 2, 3] rfl)
            · have hw := hw.1 c42
              refine lv_iconst (v := 1) hx hb dX5_firstOf_45 (by decide) ?_
              refine lv_goto (tgt := 62) hx hb dX5_firstOf_46 (by decide) ?_
              exact J62 1 x2_j4 x3_j4 hw _ _ ls hP hD hS (lv_sub hl [0, 1, 2, 3] rfl)
  refine lv_iconst (v := (-1)) hx hb dX5_firstOf_0 (by decide) ?_
  refine lv_istore_n (lv' := [(2, .int (-1)), (0, .ref h), (1, .int p1)]) hx hb dX5_firstOf_1 rfl hl (by decide) rfl (fun ls hl => ?_)
  refine lv_iconst (v := 0) hx hb dX5_firstOf_2 (by decide) ?_
  refine lv_istore_n (lv' := [(3, .int 0), (2, .int (-1)), (0, .ref h), (1, .int p1)]) hx hb dX5_firstOf_3 rfl hl (by decide) rfl (fun ls hl => ?_)
  exact L4 ((-1), 0) hw _ _ ls hP hD hS (lv_sub hl [2, 3, 1, 0] rfl)
abbrev rm_X5_layAll : Room := { frames := 2, cells := 0, slots := 0, locals := 50 }
abbrev W_X5_layAll (h : Nat) (a : Nat → Nat) (cI cJ cZ : ClassId) (v_thrown : Int32) (v_made : Int32) (v_of : Nat → Int32) (v_many : Nat → Int32) (v_colour : Nat → Int32) (v_heart : Int32) (v_width : Int32) (v_where : Nat → Int32) (v_isTried : Nat → Int32) (v_sheets : Int32) (v_covered : Int32) : va_W := [(h, .inr (6, [.int v_thrown, .int v_made, .ref (a 2), .ref (a 3), .ref (a 4), .ref (a 5), .ref (a 6), .ref (a 7), .ref (a 8), .ref (a 9), .ref (a 10), .ref (a 11), .int v_heart, .int v_width, .ref (a 14), .ref (a 15), .ref (a 16), .ref (a 17), .ref (a 18), .ref (a 19), .ref (a 20), .ref (a 21), .int v_sheets, .int v_covered])), ((a 2), .inl (cI, 256, .inl v_of)), ((a 3), .inl (cI, 60, .inl v_many)), ((a 4), .inl (cI, 60, .inl v_colour)), ((a 20), .inl (cI, 60, .inl v_where)), ((a 21), .inl (cZ, 60, .inl v_isTried))]
def wp_X5_layAll_217 (v_made : Int32) (v_of : Nat → Int32) (v_many : Nat → Int32) (v_colour : Nat → Int32) (v_width : Int32) (v_where : Nat → Int32) (v_isTried : Nat → Int32) (v_sheets : Int32) (v_covered : Int32) (p1 : Int32) (post : (Nat → Int32) → (Nat → Int32) → Int32 → Int32 → Prop) (K47 : Int32 → Int32 → Int32 → Int32 → (Nat → Int32) → (Nat → Int32) → Int32 → Int32 → Prop) (x2_j217 : Int32) (x3_j217 : Int32) (x4_j217 : Int32) (v_where_j217 : Nat → Int32) (v_isTried_j217 : Nat → Int32) (v_sheets_j217 : Int32) (v_covered_j217 : Int32) : Prop := wp_X5_firstOf v_made v_of v_many v_colour v_isTried_j217 p1 (fun r_219 => K47 x2_j217 x3_j217 x4_j217 r_219 v_where_j217 v_isTried_j217 v_sheets_j217 v_covered_j217)
def wp_X5_layAll_169 (v_made : Int32) (v_of : Nat → Int32) (v_many : Nat → Int32) (v_colour : Nat → Int32) (v_width : Int32) (v_where : Nat → Int32) (v_isTried : Nat → Int32) (v_sheets : Int32) (v_covered : Int32) (p1 : Int32) (post : (Nat → Int32) → (Nat → Int32) → Int32 → Int32 → Prop) (K47 : Int32 → Int32 → Int32 → Int32 → (Nat → Int32) → (Nat → Int32) → Int32 → Int32 → Prop) (x2_j169 : Int32) (x3_j169 : Int32) (x4_j169 : Int32) (x5_j169 : Int32) (x7_j169 : Int32) (v_where_j169 : Nat → Int32) (v_isTried_j169 : Nat → Int32) (v_sheets_j169 : Int32) (v_covered_j169 : Int32) : Prop := vp_in x5_j169 60 ∧ (∀ v_where_t193 : Nat → Int32, v_where_t193 = upd v_where_j169 x5_j169.toNatClampNeg (((10000 * (v_sheets_j169 - 1)) + (100 * x2_j169)) + x4_j169) → vp_in x5_j169 60 ∧ (∀ v_covered_t214 : Int32, v_covered_t214 = (v_covered_j169 + (v_many x5_j169.toNatClampNeg)) → wp_X5_layAll_217 v_made v_of v_many v_colour v_width v_where v_isTried v_sheets v_covered p1 post K47 x2_j169 x3_j169 (x4_j169 + x7_j169) v_where_t193 v_isTried_j169 v_sheets_j169 v_covered_t214))
def wp_X5_layAll_147 (v_made : Int32) (v_of : Nat → Int32) (v_many : Nat → Int32) (v_colour : Nat → Int32) (v_width : Int32) (v_where : Nat → Int32) (v_isTried : Nat → Int32) (v_sheets : Int32) (v_covered : Int32) (p1 : Int32) (post : (Nat → Int32) → (Nat → Int32) → Int32 → Int32 → Prop) (K47 : Int32 → Int32 → Int32 → Int32 → (Nat → Int32) → (Nat → Int32) → Int32 → Int32 → Prop) (x2_j147 : Int32) (x3_j147 : Int32) (x4_j147 : Int32) (x5_j147 : Int32) (x6_j147 : Int32) (x7_j147 : Int32) (v_where_j147 : Nat → Int32) (v_isTried_j147 : Nat → Int32) (v_sheets_j147 : Int32) (v_covered_j147 : Int32) : Prop := ((x4_j147 + x7_j147) ≤ v_width → wp_X5_layAll_169 v_made v_of v_many v_colour v_width v_where v_isTried v_sheets v_covered p1 post K47 x2_j147 x3_j147 x4_j147 x5_j147 x7_j147 v_where_j147 v_isTried_j147 v_sheets_j147 v_covered_j147) ∧ (¬ (x4_j147 + x7_j147) ≤ v_width → wp_X5_layAll_169 v_made v_of v_many v_colour v_width v_where v_isTried v_sheets v_covered p1 post K47 (x2_j147 + x3_j147) x6_j147 0 x5_j147 x7_j147 v_where_j147 v_isTried_j147 v_sheets_j147 v_covered_j147)
def wp_X5_layAll_126 (v_made : Int32) (v_of : Nat → Int32) (v_many : Nat → Int32) (v_colour : Nat → Int32) (v_width : Int32) (v_where : Nat → Int32) (v_isTried : Nat → Int32) (v_sheets : Int32) (v_covered : Int32) (p1 : Int32) (post : (Nat → Int32) → (Nat → Int32) → Int32 → Int32 → Prop) (K47 : Int32 → Int32 → Int32 → Int32 → (Nat → Int32) → (Nat → Int32) → Int32 → Int32 → Prop) (x5_j126 : Int32) (x6_j126 : Int32) (x7_j126 : Int32) (v_where_j126 : Nat → Int32) (v_isTried_j126 : Nat → Int32) (v_sheets_j126 : Int32) (v_covered_j126 : Int32) : Prop := ∀ v_sheets_t133 : Int32, v_sheets_t133 = (v_sheets_j126 + 1) → wp_X5_layAll_169 v_made v_of v_many v_colour v_width v_where v_isTried v_sheets v_covered p1 post K47 0 x6_j126 0 x5_j126 x7_j126 v_where_j126 v_isTried_j126 v_sheets_t133 v_covered_j126
def wp_X5_layAll_47 (v_made : Int32) (v_of : Nat → Int32) (v_many : Nat → Int32) (v_colour : Nat → Int32) (v_width : Int32) (v_where : Nat → Int32) (v_isTried : Nat → Int32) (v_sheets : Int32) (v_covered : Int32) (p1 : Int32) (post : (Nat → Int32) → (Nat → Int32) → Int32 → Int32 → Prop) (K47 : Int32 → Int32 → Int32 → Int32 → (Nat → Int32) → (Nat → Int32) → Int32 → Int32 → Prop) (x2_j47 : Int32) (x3_j47 : Int32) (x4_j47 : Int32) (x5_j47 : Int32) (v_where_j47 : Nat → Int32) (v_isTried_j47 : Nat → Int32) (v_sheets_j47 : Int32) (v_covered_j47 : Int32) : Prop := (x5_j47 = (-1) → post v_where_j47 v_isTried_j47 v_sheets_j47 v_covered_j47) ∧ (¬ x5_j47 = (-1) → vp_in x5_j47 60 ∧ (∀ v_isTried_t60 : Nat → Int32, v_isTried_t60 = upd v_isTried_j47 x5_j47.toNatClampNeg (vp_nar .boolean 1) → wp_X5_box v_of x5_j47 1 (fun r_65 => wp_X5_box v_of x5_j47 0 (fun r_74 => vp_in x5_j47 60 ∧ (∀ v_where_t86 : Nat → Int32, v_where_t86 = upd v_where_j47 x5_j47.toNatClampNeg (-1) → (v_width < r_74 → wp_X5_layAll_217 v_made v_of v_many v_colour v_width v_where v_isTried v_sheets v_covered p1 post K47 x2_j47 x3_j47 x4_j47 v_where_t86 v_isTried_t60 v_sheets_j47 v_covered_j47) ∧ (¬ v_width < r_74 → (v_sheets_j47 = 0 → wp_X5_layAll_126 v_made v_of v_many v_colour v_width v_where v_isTried v_sheets v_covered p1 post K47 x5_j47 r_65 r_74 v_where_t86 v_isTried_t60 v_sheets_j47 v_covered_j47) ∧ (¬ v_sheets_j47 = 0 → ((x4_j47 + r_74) ≤ v_width → wp_X5_layAll_147 v_made v_of v_many v_colour v_width v_where v_isTried v_sheets v_covered p1 post K47 x2_j47 x3_j47 x4_j47 x5_j47 r_65 r_74 v_where_t86 v_isTried_t60 v_sheets_j47 v_covered_j47) ∧ (¬ (x4_j47 + r_74) ≤ v_width → (((x2_j47 + x3_j47) + r_65) ≤ 20 → wp_X5_layAll_147 v_made v_of v_many v_colour v_width v_where v_isTried v_sheets v_covered p1 post K47 x2_j47 x3_j47 x4_j47 x5_j47 r_65 r_74 v_where_t86 v_isTried_t60 v_sheets_j47 v_covered_j47) ∧ (¬ ((x2_j47 + x3_j47) + r_65) ≤ 20 → wp_X5_layAll_126 v_made v_of v_many v_colour v_width v_where v_isTried v_sheets v_covered p1 post K47 x5_j47 r_65 r_74 v_where_t86 v_isTried_t60 v_sheets_j47 v_covered_j47)))))))))
def lF_X5_layAll_47 (v_made : Int32) (v_of : Nat → Int32) (v_many : Nat → Int32) (v_colour : Nat → Int32) (v_width : Int32) (v_where : Nat → Int32) (v_isTried : Nat → Int32) (v_sheets : Int32) (v_covered : Int32) (p1 : Int32) (post : (Nat → Int32) → (Nat → Int32) → Int32 → Int32 → Prop) : ((Int32 × Int32 × Int32 × Int32 × (Nat → Int32) × (Nat → Int32) × Int32 × Int32) → Prop) → (Int32 × Int32 × Int32 × Int32 × (Nat → Int32) × (Nat → Int32) × Int32 × Int32) → Prop := fun K s => wp_X5_layAll_47 v_made v_of v_many v_colour v_width v_where v_isTried v_sheets v_covered p1 post (fun b0 b1 b2 b3 b4 b5 b6 b7 => K (b0, b1, b2, b3, b4, b5, b6, b7)) s.1 s.2.1 s.2.2.1 s.2.2.2.1 s.2.2.2.2.1 s.2.2.2.2.2.1 s.2.2.2.2.2.2.1 s.2.2.2.2.2.2.2
def wp_X5_layAll_12 (v_made : Int32) (v_of : Nat → Int32) (v_many : Nat → Int32) (v_colour : Nat → Int32) (v_width : Int32) (v_where : Nat → Int32) (v_isTried : Nat → Int32) (v_sheets : Int32) (v_covered : Int32) (p1 : Int32) (post : (Nat → Int32) → (Nat → Int32) → Int32 → Int32 → Prop) (K12 : Int32 → (Nat → Int32) → Int32 → Int32 → Prop) (x2_j12 : Int32) (v_isTried_j12 : Nat → Int32) (v_sheets_j12 : Int32) (v_covered_j12 : Int32) : Prop := (v_made ≤ x2_j12 → wp_X5_firstOf v_made v_of v_many v_colour v_isTried_j12 p1 (fun r_42 => lp (lF_X5_layAll_47 v_made v_of v_many v_colour v_width v_where v_isTried v_sheets v_covered p1 post) (0, 0, 0, r_42, v_where, v_isTried_j12, v_sheets_j12, v_covered_j12))) ∧ (¬ v_made ≤ x2_j12 → vp_in x2_j12 60 ∧ (∀ v_isTried_t26 : Nat → Int32, v_isTried_t26 = upd v_isTried_j12 x2_j12.toNatClampNeg (vp_nar .boolean 0) → K12 (x2_j12 + 1) v_isTried_t26 v_sheets_j12 v_covered_j12))
def lF_X5_layAll_12 (v_made : Int32) (v_of : Nat → Int32) (v_many : Nat → Int32) (v_colour : Nat → Int32) (v_width : Int32) (v_where : Nat → Int32) (v_isTried : Nat → Int32) (v_sheets : Int32) (v_covered : Int32) (p1 : Int32) (post : (Nat → Int32) → (Nat → Int32) → Int32 → Int32 → Prop) : ((Int32 × (Nat → Int32) × Int32 × Int32) → Prop) → (Int32 × (Nat → Int32) × Int32 × Int32) → Prop := fun K s => wp_X5_layAll_12 v_made v_of v_many v_colour v_width v_where v_isTried v_sheets v_covered p1 post (fun b0 b1 b2 b3 => K (b0, b1, b2, b3)) s.1 s.2.1 s.2.2.1 s.2.2.2
def wp_X5_layAll (v_made : Int32) (v_of : Nat → Int32) (v_many : Nat → Int32) (v_colour : Nat → Int32) (v_width : Int32) (v_where : Nat → Int32) (v_isTried : Nat → Int32) (v_sheets : Int32) (v_covered : Int32) (p1 : Int32) (post : (Nat → Int32) → (Nat → Int32) → Int32 → Int32 → Prop) : Prop := ∀ v_sheets_t2 : Int32, v_sheets_t2 = 0 → ∀ v_covered_t7 : Int32, v_covered_t7 = 0 → lp (lF_X5_layAll_12 v_made v_of v_many v_colour v_width v_where v_isTried v_sheets v_covered p1 post) (0, v_isTried, v_sheets_t2, v_covered_t7)
set_option maxHeartbeats 4000000 in
set_option maxRecDepth 100000 in
theorem c_X5_layAll (l : Launch) (D : va_G) (cI cJ cZ cO : ClassId) (h : Nat) (a : Nat → Nat) (sz : Nat) (v_thrown : Int32) (v_made : Int32) (v_of : Nat → Int32) (v_many : Nat → Int32) (v_colour : Nat → Int32) (v_heart : Int32) (v_width : Int32) (v_where : Nat → Int32) (v_isTried : Nat → Int32) (v_sheets : Int32) (v_covered : Int32) (p1 : Int32) (post : (Nat → Int32) → (Nat → Int32) → Int32 → Int32 → Prop) (hw : wp_X5_layAll v_made v_of v_many v_colour v_width v_where v_isTried v_sheets v_covered p1 post) : Met l yX5_layAll wsX5_layAll rm_X5_layAll (va_Pc [.ref h, .int p1] (PRE D cI cJ cZ cO (W_X5_layAll h a cI cJ cZ v_thrown v_made v_of v_many v_colour v_heart v_width v_where v_isTried v_sheets v_covered) sz)) (va_Qv (fun (u : (Nat → Int32) × (Nat → Int32) × Int32 × Int32) => post u.1 u.2.1 u.2.2.1 u.2.2.2) (fun u t => POST D (va_A (W_X5_layAll h a cI cJ cZ v_thrown v_made v_of v_many v_colour v_heart v_width v_where v_isTried v_sheets v_covered) sz) (W_X5_layAll h a cI cJ cZ v_thrown v_made v_of v_many v_colour v_heart v_width u.1 u.2.1 u.2.2.1 u.2.2.2) t) (va_A (W_X5_layAll h a cI cJ cZ v_thrown v_made v_of v_many v_colour v_heart v_width v_where v_isTried v_sheets v_covered) sz)) 0 0 (va_A (W_X5_layAll h a cI cJ cZ v_thrown v_made v_of v_many v_colour v_heart v_width v_where v_isTried v_sheets v_covered) sz) := by
  refine met_go (cc := cX5_layAll) (maxL := 8) (ret := none) RX5 rfl (by decide) rfl (Nat.le_of_ble_eq_true rfl) ?_
  intro p e s m args below meth c ls hx hb hr hts hown hlocks hin hml hsz hP hK hE hD hA hS hl
  have iRX5 : ∀ w ∈ u_ws RX5 TX5 24, w ∈ wsX5_layAll := mem_seg 19 24 rfl
  generalize va_A (W_X5_layAll h a cI cJ cZ v_thrown v_made v_of v_many v_colour v_heart v_width v_where v_isTried v_sheets v_covered) sz = A at hD hA hS ⊢
  have RT : ∀ (u : (Nat → Int32) × (Nat → Int32) × Int32 × Int32) (H : Heap) (locs : List Loc) (pc : Nat) (ls : Array Slot), decode cX5_layAll pc = .ok (.return_, 1) → post u.1 u.2.1 u.2.2.1 u.2.2.2 → va_P D vwCl (W_X5_layAll h a cI cJ cZ v_thrown v_made v_of v_many v_colour v_heart v_width u.1 u.2.1 u.2.2.1 u.2.2.2) H → va_D A (W_X5_layAll h a cI cJ cZ v_thrown v_made v_of v_many v_colour v_heart v_width u.1 u.2.1 u.2.2.1 u.2.2.2) → va_S A s.heap H locs → W p l e rm_X5_layAll s m args below meth c H locs 0 0 (MQ below (va_Qv (fun (u : (Nat → Int32) × (Nat → Int32) × Int32 × Int32) => post u.1 u.2.1 u.2.2.1 u.2.2.2) (fun u t => POST D A (W_X5_layAll h a cI cJ cZ v_thrown v_made v_of v_many v_colour v_heart v_width u.1 u.2.1 u.2.2.1 u.2.2.2) t) A) args s 0 0 A) (F0 m pc ls []) := fun u H locs pc ls d g1 g2 g3 g4 => rt_v (Wf := fun u => (W_X5_layAll h a cI cJ cZ v_thrown v_made v_of v_many v_colour v_heart v_width u.1 u.2.1 u.2.2.1 u.2.2.2)) u hx hb hr hlocks g1 g2 g3 g4 d
  generalize (MQ below (va_Qv (fun (u : (Nat → Int32) × (Nat → Int32) × Int32 × Int32) => post u.1 u.2.1 u.2.2.1 u.2.2.2) (fun u t => POST D A (W_X5_layAll h a cI cJ cZ v_thrown v_made v_of v_many v_colour v_heart v_width u.1 u.2.1 u.2.2.1 u.2.2.2) t) A) args s 0 0 A) = QQ at RT ⊢
  have hl : lv_has ls 8 [(0, .ref h), (1, .int p1)] := hl
  have hP : va_P D vwCl (W_X5_layAll h a cI cJ cZ v_thrown v_made v_of v_many v_colour v_heart v_width v_where v_isTried v_sheets v_covered) s.heap := hP
  unfold wp_X5_layAll at hw
  suffices GO : ∀ (H : Heap) (locs : List Loc), va_P D vwCl (W_X5_layAll h a cI cJ cZ v_thrown v_made v_of v_many v_colour v_heart v_width v_where v_isTried v_sheets v_covered) H → va_S A s.heap H locs → W p l e rm_X5_layAll s m args below meth c H locs 0 0 QQ (F0 m 0 ls []) from GO _ _ hP hS
  clear hsz hP hS
  intro H locs hP hS
  have L47 : ∀ s0 : (Int32 × Int32 × Int32 × Int32 × (Nat → Int32) × (Nat → Int32) × Int32 × Int32), lp (lF_X5_layAll_47 v_made v_of v_many v_colour v_width v_where v_isTried v_sheets v_covered p1 post) s0 → ∀ (H : Heap) (locs : List Loc) (ls : Array Slot), va_P D vwCl (W_X5_layAll h a cI cJ cZ v_thrown v_made v_of v_many v_colour v_heart v_width s0.2.2.2.2.1 s0.2.2.2.2.2.1 s0.2.2.2.2.2.2.1 s0.2.2.2.2.2.2.2) H → va_D A (W_X5_layAll h a cI cJ cZ v_thrown v_made v_of v_many v_colour v_heart v_width s0.2.2.2.2.1 s0.2.2.2.2.2.1 s0.2.2.2.2.2.2.1 s0.2.2.2.2.2.2.2) → va_S A s.heap H locs → lv_has ls 8 [(0, .ref h), (1, .int p1), (2, .int s0.1), (3, .int s0.2.1), (4, .int s0.2.2.1), (5, .int s0.2.2.2.1)] → W p l e rm_X5_layAll s m args below meth c H locs 0 0 QQ (F0 m 47 ls []) := by
    refine lp_elim (fun K47 ih47 s0 hw => ?_)
    obtain ⟨x2_j47, x3_j47, x4_j47, x5_j47, v_where_j47, v_isTried_j47, v_sheets_j47, v_covered_j47⟩ := s0
    intro H locs ls hP hD hS hl
    have hw : wp_X5_layAll_47 v_made v_of v_many v_colour v_width v_where v_isTried v_sheets v_covered p1 post (fun b0 b1 b2 b3 b4 b5 b6 b7 => K47 (b0, b1, b2, b3, b4, b5, b6, b7)) x2_j47 x3_j47 x4_j47 x5_j47 v_where_j47 v_isTried_j47 v_sheets_j47 v_covered_j47 := hw
    have hP : va_P D vwCl (W_X5_layAll h a cI cJ cZ v_thrown v_made v_of v_many v_colour v_heart v_width v_where_j47 v_isTried_j47 v_sheets_j47 v_covered_j47) H := hP
    have hD : va_D A (W_X5_layAll h a cI cJ cZ v_thrown v_made v_of v_many v_colour v_heart v_width v_where_j47 v_isTried_j47 v_sheets_j47 v_covered_j47) := hD
    have hl : lv_has ls 8 [(0, .ref h), (1, .int p1), (2, .int x2_j47), (3, .int x3_j47), (4, .int x4_j47), (5, .int x5_j47)] := hl
    have J217 : ∀ (x2_j217 : Int32) (x3_j217 : Int32) (x4_j217 : Int32) (v_where_j217 : Nat → Int32) (v_isTried_j217 : Nat → Int32) (v_sheets_j217 : Int32) (v_covered_j217 : Int32) , wp_X5_layAll_217 v_made v_of v_many v_colour v_width v_where v_isTried v_sheets v_covered p1 post (fun b0 b1 b2 b3 b4 b5 b6 b7 => K47 (b0, b1, b2, b3, b4, b5, b6, b7)) x2_j217 x3_j217 x4_j217 v_where_j217 v_isTried_j217 v_sheets_j217 v_covered_j217 → ∀ (H : Heap) (locs : List Loc) (ls : Array Slot), va_P D vwCl (W_X5_layAll h a cI cJ cZ v_thrown v_made v_of v_many v_colour v_heart v_width v_where_j217 v_isTried_j217 v_sheets_j217 v_covered_j217) H → va_D A (W_X5_layAll h a cI cJ cZ v_thrown v_made v_of v_many v_colour v_heart v_width v_where_j217 v_isTried_j217 v_sheets_j217 v_covered_j217) → va_S A s.heap H locs → lv_has ls 8 [(0, .ref h), (1, .int p1), (2, .int x2_j217), (3, .int x3_j217), (4, .int x4_j217)] → W p l e rm_X5_layAll s m args below meth c H locs 0 0 QQ (F0 m 217 ls []) := by
      intro x2_j217 x3_j217 x4_j217 v_where_j217 v_isTried_j217 v_sheets_j217 v_covered_j217 hw H locs ls hP hD hS hl
      unfold wp_X5_layAll_217 at hw
      refine lv_aload_n hx hb dX5_layAll_217 rfl (lv_at hl 0 rfl) ?_
      refine lv_iload_n hx hb dX5_layAll_218 rfl (lv_at hl 1 rfl) ?_
      refine af_i (X := (W_X5_layAll h a cI cJ cZ v_thrown v_made v_of v_many v_colour v_heart v_width v_where_j217 v_isTried_j217 v_sheets_j217 v_covered_j217)) (pl := []) (cx := (W_X5_firstOf h a cI cJ cZ v_thrown v_made v_of v_many v_colour v_heart v_width v_isTried_j217 v_sheets_j217 v_covered_j217)) (w1 := fun (u : Unit) => (W_X5_firstOf h a cI cJ cZ v_thrown v_made v_of v_many v_colour v_heart v_width v_isTried_j217 v_sheets_j217 v_covered_j217)) (X' := fun (u : Unit) => (W_X5_layAll h a cI cJ cZ v_thrown v_made v_of v_many v_colour v_heart v_width v_where_j217 v_isTried_j217 v_sheets_j217 v_covered_j217)) hP hD hS hA [0, 1, 2, 3, 5] [4] [1, 2, 3, 4, 0, 5] rfl rfl (by decide) (by decide) (fun u => rfl) (by decide) (va_runV (As := [.int p1]) (rest := []) ⟨hx, hb, hml, hown, hts⟩ (c_X5_firstOf l D cI cJ cZ cO h a H.size v_thrown v_made v_of v_many v_colour v_heart v_width v_isTried_j217 v_sheets_j217 v_covered_j217 p1 _ hw) (cwV 1 hts gX5_layAll_X5_firstOf rfl rfl rfl (by decide +kernel) ⟨Nat.le_of_ble_eq_true rfl, Nat.le_of_ble_eq_true rfl⟩) (preV (X := (W_X5_layAll h a cI cJ cZ v_thrown v_made v_of v_many v_colour v_heart v_width v_where_j217 v_isTried_j217 v_sheets_j217 v_covered_j217)) (pl := []) (cx := (W_X5_firstOf h a cI cJ cZ v_thrown v_made v_of v_many v_colour v_heart v_width v_isTried_j217 v_sheets_j217 v_covered_j217)) (qb := 0) (ci := 6) hK hE hP hD [0, 1, 2, 3, 5] (by decide) rfl rfl rfl) rfl rfl hl.1 rfl (lv_room (Nat.le_of_ble_eq_true rfl)) dX5_layAll_219 ⟨Nat.zero_le _, Nat.zero_le _⟩) (fun r_219 _ H locs hw hP hD hS => ?_)
      try dsimp only at hw
      have hP : va_P D vwCl (W_X5_layAll h a cI cJ cZ v_thrown v_made v_of v_many v_colour v_heart v_width v_where_j217 v_isTried_j217 v_sheets_j217 v_covered_j217) H := hP
      have hD : va_D A (W_X5_layAll h a cI cJ cZ v_thrown v_made v_of v_many v_colour v_heart v_width v_where_j217 v_isTried_j217 v_sheets_j217 v_covered_j217) := hD
      refine lv_istore (lv' := [(5, .int r_219), (0, .ref h), (1, .int p1), (2, .int x2_j217), (3, .int x3_j217), (4, .int x4_j217)]) hx hb dX5_layAll_222 hl (by decide) rfl (fun ls hl => ?_)
      refine lv_goto (tgt := 47) hx hb dX5_layAll_224 (by decide) ?_
      exact ih47 (x2_j217, x3_j217, x4_j217, r_219, v_where_j217, v_isTried_j217, v_sheets_j217, v_covered_j217) hw _ _ ls hP hD hS (lv_sub hl [1, 2, 3, 4, 5, 0] rfl)
    have J169 : ∀ (x2_j169 : Int32) (x3_j169 : Int32) (x4_j169 : Int32) (x5_j169 : Int32) (x7_j169 : Int32) (v_where_j169 : Nat → Int32) (v_isTried_j169 : Nat → Int32) (v_sheets_j169 : Int32) (v_covered_j169 : Int32) , wp_X5_layAll_169 v_made v_of v_many v_colour v_width v_where v_isTried v_sheets v_covered p1 post (fun b0 b1 b2 b3 b4 b5 b6 b7 => K47 (b0, b1, b2, b3, b4, b5, b6, b7)) x2_j169 x3_j169 x4_j169 x5_j169 x7_j169 v_where_j169 v_isTried_j169 v_sheets_j169 v_covered_j169 → ∀ (H : Heap) (locs : List Loc) (ls : Array Slot), va_P D vwCl (W_X5_layAll h a cI cJ cZ v_thrown v_made v_of v_many v_colour v_heart v_width v_where_j169 v_isTried_j169 v_sheets_j169 v_covered_j169) H → va_D A (W_X5_layAll h a cI cJ cZ v_thrown v_made v_of v_many v_colour v_heart v_width v_where_j169 v_isTried_j169 v_sheets_j169 v_covered_j169) → va_S A s.heap H locs → lv_has ls 8 [(0, .ref h), (1, .int p1), (2, .int x2_j169), (3, .int x3_j169), (4, .int x4_j169), (5, .int x5_j169), (7, .int x7_j169)] → W p l e rm_X5_layAll s m args below meth c H locs 0 0 QQ (F0 m 169 ls []) := by
      intro x2_j169 x3_j169 x4_j169 x5_j169 x7_j169 v_where_j169 v_isTried_j169 v_sheets_j169 v_covered_j169 hw H locs ls hP hD hS hl
      unfold wp_X5_layAll_169 at hw
      refine lv_aload_n hx hb dX5_layAll_169 rfl (lv_at hl 0 rfl) ?_
      refine va_get (D := D) (ci := 6) (v := .ref (a 20)) (C := RX5) (T := TX5) (N := 24) hx hb hts iRX5 hown hK hP 0 rfl rfl 20 (by decide) (hts (.fieldLink RX5 69 "LeadlightModel" "where" "[I") (List.mem_of_getElem? (i := 5) rfl)) (fun _ h9 => h9) rfl dX5_layAll_170 ?_
      refine lv_iload hx hb dX5_layAll_173 (lv_at hl 5 rfl) ?_
      refine lv_sipush (v := 10000) hx hb dX5_layAll_175 (by decide) ?_
      refine lv_aload_n hx hb dX5_layAll_178 rfl (lv_at hl 0 rfl) ?_
      refine va_get (D := D) (ci := 6) (v := .int v_sheets_j169) (C := RX5) (T := TX5) (N := 24) hx hb hts iRX5 hown hK hP 0 rfl rfl 22 (by decide) (hts (.fieldLink RX5 160 "LeadlightModel" "sheets" "I") (List.mem_of_getElem? (i := 1) rfl)) (fun _ h9 => h9) rfl dX5_layAll_179 ?_
      refine lv_iconst (v := 1) hx hb dX5_layAll_182 (by decide) ?_
      refine lv_isub hx hb dX5_layAll_183 ?_
      refine lv_imul hx hb dX5_layAll_184 ?_
      refine lv_bipush (v := 100) hx hb dX5_layAll_185 (by decide) ?_
      refine lv_iload_n hx hb dX5_layAll_187 rfl (lv_at hl 2 rfl) ?_
      refine lv_imul hx hb dX5_layAll_188 ?_
      refine lv_iadd hx hb dX5_layAll_189 ?_
      refine lv_iload hx hb dX5_layAll_190 (lv_at hl 4 rfl) ?_
      refine lv_iadd hx hb dX5_layAll_192 ?_
      obtain ⟨hi_193, hw⟩ := hw
      refine st_i hx hb hK hP hD hS 4 0 rfl rfl hi_193 dX5_layAll_193 (fun v_where_t193 ev_where_t193 H locs hP hD hS => ?_)
      have hw := hw v_where_t193 ev_where_t193
      have hP : va_P D vwCl (W_X5_layAll h a cI cJ cZ v_thrown v_made v_of v_many v_colour v_heart v_width v_where_t193 v_isTried_j169 v_sheets_j169 v_covered_j169) H := hP
      have hD : va_D A (W_X5_layAll h a cI cJ cZ v_thrown v_made v_of v_many v_colour v_heart v_width v_where_t193 v_isTried_j169 v_sheets_j169 v_covered_j169) := hD
      refine lv_iload hx hb dX5_layAll_194 (lv_at hl 4 rfl) ?_
      refine lv_iload hx hb dX5_layAll_196 (lv_at hl 6 rfl) ?_
      refine lv_iadd hx hb dX5_layAll_198 ?_
      refine lv_istore (lv' := [(4, .int (x4_j169 + x7_j169)), (0, .ref h), (1, .int p1), (2, .int x2_j169), (3, .int x3_j169), (5, .int x5_j169), (7, .int x7_j169)]) hx hb dX5_layAll_199 hl (by decide) rfl (fun ls hl => ?_)
      refine lv_aload_n hx hb dX5_layAll_201 rfl (lv_at hl 1 rfl) ?_
      refine lv_dup hx hb dX5_layAll_202 rfl ?_
      refine va_get (D := D) (ci := 6) (v := .int v_covered_j169) (C := RX5) (T := TX5) (N := 24) hx hb hts iRX5 hown hK hP 0 rfl rfl 23 (by decide) (hts (.fieldLink RX5 163 "LeadlightModel" "covered" "I") (List.mem_of_getElem? (i := 2) rfl)) (fun _ h9 => h9) rfl dX5_layAll_203 ?_
      refine lv_aload_n hx hb dX5_layAll_206 rfl (lv_at hl 1 rfl) ?_
      refine va_get (D := D) (ci := 6) (v := .ref (a 3)) (C := RX5) (T := TX5) (N := 24) hx hb hts iRX5 hown hK hP 0 rfl rfl 3 (by decide) (hts (.fieldLink RX5 17 "LeadlightModel" "many" "[I") (List.mem_of_getElem? (i := 7) rfl)) (fun _ h9 => h9) rfl dX5_layAll_207 ?_
      refine lv_iload hx hb dX5_layAll_210 (lv_at hl 5 rfl) ?_
      obtain ⟨hi_212, hw⟩ := hw
      refine va_iald hx hb hK hP 2 0 rfl rfl hi_212 dX5_layAll_212 ?_
      refine lv_iadd hx hb dX5_layAll_213 ?_
      refine lv_topi (fun v_covered_t214 ev_covered_t214 => ?_)
      have hw := hw v_covered_t214 ev_covered_t214
      refine va_put (D := D) (ci := 6) (v := .int v_covered_t214) (ty := .int) (C := RX5) (T := TX5) (N := 24) hx hb hts iRX5 tyX5 tyX5_ok nmX5 hown hK hP hD hS 0 rfl rfl 23 (by decide) (hts (.fieldLink RX5 163 "LeadlightModel" "covered" "I") (List.mem_of_getElem? (i := 2) rfl)) (fun _ h9 => h9) rfl (by decide +kernel) rfl rfl (Nat.le_of_ble_eq_true rfl) dX5_layAll_214 (fun H locs hP hD hS => ?_)
      have hP : va_P D vwCl (W_X5_layAll h a cI cJ cZ v_thrown v_made v_of v_many v_colour v_heart v_width v_where_t193 v_isTried_j169 v_sheets_j169 v_covered_t214) H := hP
      have hD : va_D A (W_X5_layAll h a cI cJ cZ v_thrown v_made v_of v_many v_colour v_heart v_width v_where_t193 v_isTried_j169 v_sheets_j169 v_covered_t214) := hD
      exact J217 x2_j169 x3_j169 (x4_j169 + x7_j169) v_where_t193 v_isTried_j169 v_sheets_j169 v_covered_t214 hw _ _ ls hP hD hS (lv_sub hl [1, 2, 3, 4, 0] rfl)
    have J147 : ∀ (x2_j147 : Int32) (x3_j147 : Int32) (x4_j147 : Int32) (x5_j147 : Int32) (x6_j147 : Int32) (x7_j147 : Int32) (v_where_j147 : Nat → Int32) (v_isTried_j147 : Nat → Int32) (v_sheets_j147 : Int32) (v_covered_j147 : Int32) , wp_X5_layAll_147 v_made v_of v_many v_colour v_width v_where v_isTried v_sheets v_covered p1 post (fun b0 b1 b2 b3 b4 b5 b6 b7 => K47 (b0, b1, b2, b3, b4, b5, b6, b7)) x2_j147 x3_j147 x4_j147 x5_j147 x6_j147 x7_j147 v_where_j147 v_isTried_j147 v_sheets_j147 v_covered_j147 → ∀ (H : Heap) (locs : List Loc) (ls : Array Slot), va_P D vwCl (W_X5_layAll h a cI cJ cZ v_thrown v_made v_of v_many v_colour v_heart v_width v_where_j147 v_isTried_j147 v_sheets_j147 v_covered_j147) H → va_D A (W_X5_layAll h a cI cJ cZ v_thrown v_made v_of v_many v_colour v_heart v_width v_where_j147 v_isTried_j147 v_sheets_j147 v_covered_j147) → va_S A s.heap H locs → lv_has ls 8 [(0, .ref h), (1, .int p1), (2, .int x2_j147), (3, .int x3_j147), (4, .int x4_j147), (5, .int x5_j147), (6, .int x6_j147), (7, .int x7_j147)] → W p l e rm_X5_layAll s m args below meth c H locs 0 0 QQ (F0 m 147 ls []) := by
      intro x2_j147 x3_j147 x4_j147 x5_j147 x6_j147 x7_j147 v_where_j147 v_isTried_j147 v_sheets_j147 v_covered_j147 hw H locs ls hP hD hS hl
      unfold wp_X5_layAll_147 at hw
      refine lv_iload hx hb dX5_layAll_147 (lv_at hl 4 rfl) ?_
      refine lv_iload hx hb dX5_layAll_149 (lv_at hl 7 rfl) ?_
      refine lv_iadd hx hb dX5_layAll_151 ?_
      refine lv_aload_n hx hb dX5_layAll_152 rfl (lv_at hl 0 rfl) ?_
      refine va_get (D := D) (ci := 6) (v := .int v_width) (C := RX5) (T := TX5) (N := 24) hx hb hts iRX5 hown hK hP 0 rfl rfl 13 (by decide) (hts (.fieldLink RX5 48 "LeadlightModel" "width" "I") (List.mem_of_getElem? (i := 6) rfl)) (fun _ h9 => h9) rfl dX5_layAll_153 ?_
      refine lv_icmp_le (tgt := 169) hx hb dX5_layAll_156 (by decide) (fun c156 => ?_) (fun c156 => ?_)
      · have hw := hw.1 c156
        exact J169 x2_j147 x3_j147 x4_j147 x5_j147 x7_j147 v_where_j147 v_isTried_j147 v_sheets_j147 v_covered_j147 hw _ _ ls hP hD hS (lv_sub hl [0, 1, 2, 3, 4, 5, 7] rfl)
      · have hw := hw.2 c156
        refine lv_iload_n hx hb dX5_layAll_159 rfl (lv_at hl 2 rfl) ?_
        refine lv_iload_n hx hb dX5_layAll_160 rfl (lv_at hl 3 rfl) ?_
        refine lv_iadd hx hb dX5_layAll_161 ?_
        refine lv_istore_n (lv' := [(2, .int (x2_j147 + x3_j147)), (0, .ref h), (1, .int p1), (3, .int x3_j147), (4, .int x4_j147), (5, .int x5_j147), (6, .int x6_j147), (7, .int x7_j147)]) hx hb dX5_layAll_162 rfl hl (by decide) rfl (fun ls hl => ?_)
        refine lv_iload hx hb dX5_layAll_163 (lv_at hl 6 rfl) ?_
        refine lv_istore_n (lv' := [(3, .int x6_j147), (2, .int (x2_j147 + x3_j147)), (0, .ref h), (1, .int p1), (4, .int x4_j147), (5, .int x5_j147), (6, .int x6_j147), (7, .int x7_j147)]) hx hb dX5_layAll_165 rfl hl (by decide) rfl (fun ls hl => ?_)
        refine lv_iconst (v := 0) hx hb dX5_layAll_166 (by decide) ?_
        refine lv_istore (lv' := [(4, .int 0), (3, .int x6_j147), (2, .int (x2_j147 + x3_j147)), (0, .ref h), (1, .int p1), (5, .int x5_j147), (6, .int x6_j147), (7, .int x7_j147)]) hx hb dX5_layAll_167 hl (by decide) rfl (fun ls hl => ?_)
        exact J169 (x2_j147 + x3_j147) x6_j147 0 x5_j147 x7_j147 v_where_j147 v_isTried_j147 v_sheets_j147 v_covered_j147 hw _ _ ls hP hD hS (lv_sub hl [3, 4, 2, 1, 0, 5, 7] rfl)
    have J126 : ∀ (x5_j126 : Int32) (x6_j126 : Int32) (x7_j126 : Int32) (v_where_j126 : Nat → Int32) (v_isTried_j126 : Nat → Int32) (v_sheets_j126 : Int32) (v_covered_j126 : Int32) , wp_X5_layAll_126 v_made v_of v_many v_colour v_width v_where v_isTried v_sheets v_covered p1 post (fun b0 b1 b2 b3 b4 b5 b6 b7 => K47 (b0, b1, b2, b3, b4, b5, b6, b7)) x5_j126 x6_j126 x7_j126 v_where_j126 v_isTried_j126 v_sheets_j126 v_covered_j126 → ∀ (H : Heap) (locs : List Loc) (ls : Array Slot), va_P D vwCl (W_X5_layAll h a cI cJ cZ v_thrown v_made v_of v_many v_colour v_heart v_width v_where_j126 v_isTried_j126 v_sheets_j126 v_covered_j126) H → va_D A (W_X5_layAll h a cI cJ cZ v_thrown v_made v_of v_many v_colour v_heart v_width v_where_j126 v_isTried_j126 v_sheets_j126 v_covered_j126) → va_S A s.heap H locs → lv_has ls 8 [(0, .ref h), (1, .int p1), (5, .int x5_j126), (6, .int x6_j126), (7, .int x7_j126)] → W p l e rm_X5_layAll s m args below meth c H locs 0 0 QQ (F0 m 126 ls []) := by
      intro x5_j126 x6_j126 x7_j126 v_where_j126 v_isTried_j126 v_sheets_j126 v_covered_j126 hw H locs ls hP hD hS hl
      unfold wp_X5_layAll_126 at hw
      refine lv_aload_n hx hb dX5_layAll_126 rfl (lv_at hl 0 rfl) ?_
      refine lv_dup hx hb dX5_layAll_127 rfl ?_
      refine va_get (D := D) (ci := 6) (v := .int v_sheets_j126) (C := RX5) (T := TX5) (N := 24) hx hb hts iRX5 hown hK hP 0 rfl rfl 22 (by decide) (hts (.fieldLink RX5 160 "LeadlightModel" "sheets" "I") (List.mem_of_getElem? (i := 1) rfl)) (fun _ h9 => h9) rfl dX5_layAll_128 ?_
      refine lv_iconst (v := 1) hx hb dX5_layAll_131 (by decide) ?_
      refine lv_iadd hx hb dX5_layAll_132 ?_
      refine lv_topi (fun v_sheets_t133 ev_sheets_t133 => ?_)
      have hw := hw v_sheets_t133 ev_sheets_t133
      refine va_put (D := D) (ci := 6) (v := .int v_sheets_t133) (ty := .int) (C := RX5) (T := TX5) (N := 24) hx hb hts iRX5 tyX5 tyX5_ok nmX5 hown hK hP hD hS 0 rfl rfl 22 (by decide) (hts (.fieldLink RX5 160 "LeadlightModel" "sheets" "I") (List.mem_of_getElem? (i := 1) rfl)) (fun _ h9 => h9) rfl (by decide +kernel) rfl rfl (Nat.le_of_ble_eq_true rfl) dX5_layAll_133 (fun H locs hP hD hS => ?_)
      have hP : va_P D vwCl (W_X5_layAll h a cI cJ cZ v_thrown v_made v_of v_many v_colour v_heart v_width v_where_j126 v_isTried_j126 v_sheets_t133 v_covered_j126) H := hP
      have hD : va_D A (W_X5_layAll h a cI cJ cZ v_thrown v_made v_of v_many v_colour v_heart v_width v_where_j126 v_isTried_j126 v_sheets_t133 v_covered_j126) := hD
      refine lv_iconst (v := 0) hx hb dX5_layAll_136 (by decide) ?_
      refine lv_istore_n (lv' := [(2, .int 0), (0, .ref h), (1, .int p1), (5, .int x5_j126), (6, .int x6_j126), (7, .int x7_j126)]) hx hb dX5_layAll_137 rfl hl (by decide) rfl (fun ls hl => ?_)
      refine lv_iload hx hb dX5_layAll_138 (lv_at hl 4 rfl) ?_
      refine lv_istore_n (lv' := [(3, .int x6_j126), (2, .int 0), (0, .ref h), (1, .int p1), (5, .int x5_j126), (6, .int x6_j126), (7, .int x7_j126)]) hx hb dX5_layAll_140 rfl hl (by decide) rfl (fun ls hl => ?_)
      refine lv_iconst (v := 0) hx hb dX5_layAll_141 (by decide) ?_
      refine lv_istore (lv' := [(4, .int 0), (3, .int x6_j126), (2, .int 0), (0, .ref h), (1, .int p1), (5, .int x5_j126), (6, .int x6_j126), (7, .int x7_j126)]) hx hb dX5_layAll_142 hl (by decide) rfl (fun ls hl => ?_)
      refine lv_goto (tgt := 169) hx hb dX5_layAll_144 (by decide) ?_
      exact J169 0 x6_j126 0 x5_j126 x7_j126 v_where_j126 v_isTried_j126 v_sheets_t133 v_covered_j126 hw _ _ ls hP hD hS (lv_sub hl [3, 4, 2, 1, 0, 5, 7] rfl)
    unfold wp_X5_layAll_47 at hw
    refine lv_iload hx hb dX5_layAll_47 (lv_at hl 5 rfl) ?_
    refine lv_iconst (v := (-1)) hx hb dX5_layAll_49 (by decide) ?_
    refine lv_icmp_eq (tgt := 227) hx hb dX5_layAll_50 (by decide) (fun c50 => ?_) (fun c50 => ?_)
    · have hw := hw.1 c50
      exact RT (v_where_j47, v_isTried_j47, v_sheets_j47, v_covered_j47) _ _ _ _ dX5_layAll_227 hw hP hD hS
    · have hw := hw.2 c50
      refine lv_aload_n hx hb dX5_layAll_53 rfl (lv_at hl 0 rfl) ?_
      refine va_get (D := D) (ci := 6) (v := .ref (a 21)) (C := RX5) (T := TX5) (N := 24) hx hb hts iRX5 hown hK hP 0 rfl rfl 21 (by decide) (hts (.fieldLink RX5 72 "LeadlightModel" "isTried" "[Z") (List.mem_of_getElem? (i := 4) rfl)) (fun _ h9 => h9) rfl dX5_layAll_54 ?_
      refine lv_iload hx hb dX5_layAll_57 (lv_at hl 5 rfl) ?_
      refine lv_iconst (v := 1) hx hb dX5_layAll_59 (by decide) ?_
      obtain ⟨hi_60, hw⟩ := hw
      refine st_z hx hb hK hP hD hS 5 2 rfl rfl hi_60 dX5_layAll_60 (fun v_isTried_t60 ev_isTried_t60 H locs hP hD hS => ?_)
      have hw := hw v_isTried_t60 ev_isTried_t60
      have hP : va_P D vwCl (W_X5_layAll h a cI cJ cZ v_thrown v_made v_of v_many v_colour v_heart v_width v_where_j47 v_isTried_t60 v_sheets_j47 v_covered_j47) H := hP
      have hD : va_D A (W_X5_layAll h a cI cJ cZ v_thrown v_made v_of v_many v_colour v_heart v_width v_where_j47 v_isTried_t60 v_sheets_j47 v_covered_j47) := hD
      refine lv_aload_n hx hb dX5_layAll_61 rfl (lv_at hl 0 rfl) ?_
      refine lv_iload hx hb dX5_layAll_62 (lv_at hl 5 rfl) ?_
      refine lv_iconst (v := 1) hx hb dX5_layAll_64 (by decide) ?_
      refine af_i (X := (W_X5_layAll h a cI cJ cZ v_thrown v_made v_of v_many v_colour v_heart v_width v_where_j47 v_isTried_t60 v_sheets_j47 v_covered_j47)) (pl := []) (cx := (W_X5_box h a cI cJ cZ v_thrown v_made v_of v_heart v_width v_sheets_j47 v_covered_j47)) (w1 := fun (u : Unit) => (W_X5_box h a cI cJ cZ v_thrown v_made v_of v_heart v_width v_sheets_j47 v_covered_j47)) (X' := fun (u : Unit) => (W_X5_layAll h a cI cJ cZ v_thrown v_made v_of v_many v_colour v_heart v_width v_where_j47 v_isTried_t60 v_sheets_j47 v_covered_j47)) hP hD hS hA [0, 1] [2, 3, 4, 5] [4, 5, 0, 1, 2, 3] rfl rfl (by decide) (by decide) (fun u => rfl) (by decide) (va_runV (As := [.int x5_j47, .int 1]) (rest := []) ⟨hx, hb, hml, hown, hts⟩ (c_X5_box l D cI cJ cZ cO h a H.size v_thrown v_made v_of v_heart v_width v_sheets_j47 v_covered_j47 x5_j47 1 _ hw) (cwV 2 hts gX5_layAll_X5_box rfl rfl rfl (by decide +kernel) ⟨Nat.le_of_ble_eq_true rfl, Nat.le_of_ble_eq_true rfl⟩) (preV (X := (W_X5_layAll h a cI cJ cZ v_thrown v_made v_of v_many v_colour v_heart v_width v_where_j47 v_isTried_t60 v_sheets_j47 v_covered_j47)) (pl := []) (cx := (W_X5_box h a cI cJ cZ v_thrown v_made v_of v_heart v_width v_sheets_j47 v_covered_j47)) (qb := 0) (ci := 6) hK hE hP hD [0, 1] (by decide) rfl rfl rfl) rfl rfl hl.1 rfl (lv_room (Nat.le_of_ble_eq_true rfl)) dX5_layAll_65 ⟨Nat.zero_le _, Nat.zero_le _⟩) (fun r_65 _ H locs hw hP hD hS => ?_)
      try dsimp only at hw
      have hP : va_P D vwCl (W_X5_layAll h a cI cJ cZ v_thrown v_made v_of v_many v_colour v_heart v_width v_where_j47 v_isTried_t60 v_sheets_j47 v_covered_j47) H := hP
      have hD : va_D A (W_X5_layAll h a cI cJ cZ v_thrown v_made v_of v_many v_colour v_heart v_width v_where_j47 v_isTried_t60 v_sheets_j47 v_covered_j47) := hD
      refine lv_istore (lv' := [(6, .int r_65), (0, .ref h), (1, .int p1), (2, .int x2_j47), (3, .int x3_j47), (4, .int x4_j47), (5, .int x5_j47)]) hx hb dX5_layAll_68 hl (by decide) rfl (fun ls hl => ?_)
      refine lv_aload_n hx hb dX5_layAll_70 rfl (lv_at hl 1 rfl) ?_
      refine lv_iload hx hb dX5_layAll_71 (lv_at hl 6 rfl) ?_
      refine lv_iconst (v := 0) hx hb dX5_layAll_73 (by decide) ?_
      refine af_i (X := (W_X5_layAll h a cI cJ cZ v_thrown v_made v_of v_many v_colour v_heart v_width v_where_j47 v_isTried_t60 v_sheets_j47 v_covered_j47)) (pl := []) (cx := (W_X5_box h a cI cJ cZ v_thrown v_made v_of v_heart v_width v_sheets_j47 v_covered_j47)) (w1 := fun (u : Unit) => (W_X5_box h a cI cJ cZ v_thrown v_made v_of v_heart v_width v_sheets_j47 v_covered_j47)) (X' := fun (u : Unit) => (W_X5_layAll h a cI cJ cZ v_thrown v_made v_of v_many v_colour v_heart v_width v_where_j47 v_isTried_t60 v_sheets_j47 v_covered_j47)) hP hD hS hA [0, 1] [2, 3, 4, 5] [4, 5, 0, 1, 2, 3] rfl rfl (by decide) (by decide) (fun u => rfl) (by decide) (va_runV (As := [.int x5_j47, .int 0]) (rest := []) ⟨hx, hb, hml, hown, hts⟩ (c_X5_box l D cI cJ cZ cO h a H.size v_thrown v_made v_of v_heart v_width v_sheets_j47 v_covered_j47 x5_j47 0 _ hw) (cwV 2 hts gX5_layAll_X5_box rfl rfl rfl (by decide +kernel) ⟨Nat.le_of_ble_eq_true rfl, Nat.le_of_ble_eq_true rfl⟩) (preV (X := (W_X5_layAll h a cI cJ cZ v_thrown v_made v_of v_many v_colour v_heart v_width v_where_j47 v_isTried_t60 v_sheets_j47 v_covered_j47)) (pl := []) (cx := (W_X5_box h a cI cJ cZ v_thrown v_made v_of v_heart v_width v_sheets_j47 v_covered_j47)) (qb := 0) (ci := 6) hK hE hP hD [0, 1] (by decide) rfl rfl rfl) rfl rfl hl.1 rfl (lv_room (Nat.le_of_ble_eq_true rfl)) dX5_layAll_74 ⟨Nat.zero_le _, Nat.zero_le _⟩) (fun r_74 _ H locs hw hP hD hS => ?_)
      try dsimp only at hw
      have hP : va_P D vwCl (W_X5_layAll h a cI cJ cZ v_thrown v_made v_of v_many v_colour v_heart v_width v_where_j47 v_isTried_t60 v_sheets_j47 v_covered_j47) H := hP
      have hD : va_D A (W_X5_layAll h a cI cJ cZ v_thrown v_made v_of v_many v_colour v_heart v_width v_where_j47 v_isTried_t60 v_sheets_j47 v_covered_j47) := hD
      refine lv_istore (lv' := [(7, .int r_74), (6, .int r_65), (0, .ref h), (1, .int p1), (2, .int x2_j47), (3, .int x3_j47), (4, .int x4_j47), (5, .int x5_j47)]) hx hb dX5_layAll_77 hl (by decide) rfl (fun ls hl => ?_)
      refine lv_aload_n hx hb dX5_layAll_79 rfl (lv_at hl 2 rfl) ?_
      refine va_get (D := D) (ci := 6) (v := .ref (a 20)) (C := RX5) (T := TX5) (N := 24) hx hb hts iRX5 hown hK hP 0 rfl rfl 20 (by decide) (hts (.fieldLink RX5 69 "LeadlightModel" "where" "[I") (List.mem_of_getElem? (i := 5) rfl)) (fun _ h9 => h9) rfl dX5_layAll_80 ?_
      refine lv_iload hx hb dX5_layAll_83 (lv_at hl 7 rfl) ?_
      refine lv_iconst (v := (-1)) hx hb dX5_layAll_85 (by decide) ?_
      obtain ⟨hi_86, hw⟩ := hw
      refine st_i hx hb hK hP hD hS 4 0 rfl rfl hi_86 dX5_layAll_86 (fun v_where_t86 ev_where_t86 H locs hP hD hS => ?_)
      have hw := hw v_where_t86 ev_where_t86
      have hP : va_P D vwCl (W_X5_layAll h a cI cJ cZ v_thrown v_made v_of v_many v_colour v_heart v_width v_where_t86 v_isTried_t60 v_sheets_j47 v_covered_j47) H := hP
      have hD : va_D A (W_X5_layAll h a cI cJ cZ v_thrown v_made v_of v_many v_colour v_heart v_width v_where_t86 v_isTried_t60 v_sheets_j47 v_covered_j47) := hD
      refine lv_iload hx hb dX5_layAll_87 (lv_at hl 0 rfl) ?_
      refine lv_aload_n hx hb dX5_layAll_89 rfl (lv_at hl 2 rfl) ?_
      refine va_get (D := D) (ci := 6) (v := .int v_width) (C := RX5) (T := TX5) (N := 24) hx hb hts iRX5 hown hK hP 0 rfl rfl 13 (by decide) (hts (.fieldLink RX5 48 "LeadlightModel" "width" "I") (List.mem_of_getElem? (i := 6) rfl)) (fun _ h9 => h9) rfl dX5_layAll_90 ?_
      refine lv_icmp_gt (tgt := 217) hx hb dX5_layAll_93 (by decide) (fun c93 => ?_) (fun c93 => ?_)
      · have hw := hw.1 c93
        exact J217 x2_j47 x3_j47 x4_j47 v_where_t86 v_isTried_t60 v_sheets_j47 v_covered_j47 hw _ _ ls hP hD hS (lv_sub hl [2, 3, 4, 5, 6] rfl)
      · have hw := hw.2 c93
        refine lv_aload_n hx hb dX5_layAll_96 rfl (lv_at hl 2 rfl) ?_
        refine va_get (D := D) (ci := 6) (v := .int v_sheets_j47) (C := RX5) (T := TX5) (N := 24) hx hb hts iRX5 hown hK hP 0 rfl rfl 22 (by decide) (hts (.fieldLink RX5 160 "LeadlightModel" "sheets" "I") (List.mem_of_getElem? (i := 1) rfl)) (fun _ h9 => h9) rfl dX5_layAll_97 ?_
        refine lv_if_eq (tgt := 126) hx hb dX5_layAll_100 (by decide) (fun c100 => ?_) (fun c100 => ?_)
        · have hw := hw.1 c100
          exact J126 x5_j47 r_65 r_74 v_where_t86 v_isTried_t60 v_sheets_j47 v_covered_j47 hw _ _ ls hP hD hS (lv_sub hl [2, 3, 7, 1, 0] rfl)
        · have hw := hw.2 c100
          refine lv_iload hx hb dX5_layAll_103 (lv_at hl 6 rfl) ?_
          refine lv_iload hx hb dX5_layAll_105 (lv_at hl 0 rfl) ?_
          refine lv_iadd hx hb dX5_layAll_107 ?_
          refine lv_aload_n hx hb dX5_layAll_108 rfl (lv_at hl 2 rfl) ?_
          refine va_get (D := D) (ci := 6) (v := .int v_width) (C := RX5) (T := TX5) (N := 24) hx hb hts iRX5 hown hK hP 0 rfl rfl 13 (by decide) (hts (.fieldLink RX5 48 "LeadlightModel" "width" "I") (List.mem_of_getElem? (i := 6) rfl)) (fun _ h9 => h9) rfl dX5_layAll_109 ?_
          refine lv_icmp_le (tgt := 147) hx hb dX5_layAll_112 (by decide) (fun c112 => ?_) (fun c112 => ?_)
          · have hw := hw.1 c112
            exact J147 x2_j47 x3_j47 x4_j47 x5_j47 r_65 r_74 v_where_t86 v_isTried_t60 v_sheets_j47 v_covered_j47 hw _ _ ls hP hD hS (lv_sub hl [2, 3, 4, 5, 6, 7, 1, 0] rfl)
          · have hw := hw.2 c112
            refine lv_iload_n hx hb dX5_layAll_115 rfl (lv_at hl 4 rfl) ?_
            refine lv_iload_n hx hb dX5_layAll_116 rfl (lv_at hl 5 rfl) ?_
            refine lv_iadd hx hb dX5_layAll_117 ?_
            refine lv_iload hx hb dX5_layAll_118 (lv_at hl 1 rfl) ?_
            refine lv_iadd hx hb dX5_layAll_120 ?_
            refine lv_bipush (v := 20) hx hb dX5_layAll_121 (by decide) ?_
            refine lv_icmp_le (tgt := 147) hx hb dX5_layAll_123 (by decide) (fun c123 => ?_) (fun c123 => ?_)
            · have hw := hw.1 c123
              exact J147 x2_j47 x3_j47 x4_j47 x5_j47 r_65 r_74 v_where_t86 v_isTried_t60 v_sheets_j47 v_covered_j47 hw _ _ ls hP hD hS (lv_sub hl [2, 3, 4, 5, 6, 7, 1, 0] rfl)
            · have hw := hw.2 c123
              exact J126 x5_j47 r_65 r_74 v_where_t86 v_isTried_t60 v_sheets_j47 v_covered_j47 hw _ _ ls hP hD hS (lv_sub hl [2, 3, 7, 1, 0] rfl)
  have L12 : ∀ s0 : (Int32 × (Nat → Int32) × Int32 × Int32), lp (lF_X5_layAll_12 v_made v_of v_many v_colour v_width v_where v_isTried v_sheets v_covered p1 post) s0 → ∀ (H : Heap) (locs : List Loc) (ls : Array Slot), va_P D vwCl (W_X5_layAll h a cI cJ cZ v_thrown v_made v_of v_many v_colour v_heart v_width v_where s0.2.1 s0.2.2.1 s0.2.2.2) H → va_D A (W_X5_layAll h a cI cJ cZ v_thrown v_made v_of v_many v_colour v_heart v_width v_where s0.2.1 s0.2.2.1 s0.2.2.2) → va_S A s.heap H locs → lv_has ls 8 [(0, .ref h), (1, .int p1), (2, .int s0.1)] → W p l e rm_X5_layAll s m args below meth c H locs 0 0 QQ (F0 m 12 ls []) := by
    refine lp_elim (fun K12 ih12 s0 hw => ?_)
    obtain ⟨x2_j12, v_isTried_j12, v_sheets_j12, v_covered_j12⟩ := s0
    intro H locs ls hP hD hS hl
    have hw : wp_X5_layAll_12 v_made v_of v_many v_colour v_width v_where v_isTried v_sheets v_covered p1 post (fun b0 b1 b2 b3 => K12 (b0, b1, b2, b3)) x2_j12 v_isTried_j12 v_sheets_j12 v_covered_j12 := hw
    have hP : va_P D vwCl (W_X5_layAll h a cI cJ cZ v_thrown v_made v_of v_many v_colour v_heart v_width v_where v_isTried_j12 v_sheets_j12 v_covered_j12) H := hP
    have hD : va_D A (W_X5_layAll h a cI cJ cZ v_thrown v_made v_of v_many v_colour v_heart v_width v_where v_isTried_j12 v_sheets_j12 v_covered_j12) := hD
    have hl : lv_has ls 8 [(0, .ref h), (1, .int p1), (2, .int x2_j12)] := hl
    unfold wp_X5_layAll_12 at hw
    refine lv_iload_n hx hb dX5_layAll_12 rfl (lv_at hl 2 rfl) ?_
    refine lv_aload_n hx hb dX5_layAll_13 rfl (lv_at hl 0 rfl) ?_
    refine va_get (D := D) (ci := 6) (v := .int v_made) (C := RX5) (T := TX5) (N := 24) hx hb hts iRX5 hown hK hP 0 rfl rfl 1 (by decide) (hts (.fieldLink RX5 7 "LeadlightModel" "made" "I") (List.mem_of_getElem? (i := 3) rfl)) (fun _ h9 => h9) rfl dX5_layAll_14 ?_
    refine lv_icmp_ge (tgt := 33) hx hb dX5_layAll_17 (by decide) (fun c17 => ?_) (fun c17 => ?_)
    · have hw := hw.1 c17
      refine lv_iconst (v := 0) hx hb dX5_layAll_33 (by decide) ?_
      refine lv_istore_n (lv' := [(2, .int 0), (0, .ref h), (1, .int p1)]) hx hb dX5_layAll_34 rfl hl (by decide) rfl (fun ls hl => ?_)
      refine lv_iconst (v := 0) hx hb dX5_layAll_35 (by decide) ?_
      refine lv_istore_n (lv' := [(3, .int 0), (2, .int 0), (0, .ref h), (1, .int p1)]) hx hb dX5_layAll_36 rfl hl (by decide) rfl (fun ls hl => ?_)
      refine lv_iconst (v := 0) hx hb dX5_layAll_37 (by decide) ?_
      refine lv_istore (lv' := [(4, .int 0), (3, .int 0), (2, .int 0), (0, .ref h), (1, .int p1)]) hx hb dX5_layAll_38 hl (by decide) rfl (fun ls hl => ?_)
      refine lv_aload_n hx hb dX5_layAll_40 rfl (lv_at hl 3 rfl) ?_
      refine lv_iload_n hx hb dX5_layAll_41 rfl (lv_at hl 4 rfl) ?_
      refine af_i (X := (W_X5_layAll h a cI cJ cZ v_thrown v_made v_of v_many v_colour v_heart v_width v_where v_isTried_j12 v_sheets_j12 v_covered_j12)) (pl := []) (cx := (W_X5_firstOf h a cI cJ cZ v_thrown v_made v_of v_many v_colour v_heart v_width v_isTried_j12 v_sheets_j12 v_covered_j12)) (w1 := fun (u : Unit) => (W_X5_firstOf h a cI cJ cZ v_thrown v_made v_of v_many v_colour v_heart v_width v_isTried_j12 v_sheets_j12 v_covered_j12)) (X' := fun (u : Unit) => (W_X5_layAll h a cI cJ cZ v_thrown v_made v_of v_many v_colour v_heart v_width v_where v_isTried_j12 v_sheets_j12 v_covered_j12)) hP hD hS hA [0, 1, 2, 3, 5] [4] [1, 2, 3, 4, 0, 5] rfl rfl (by decide) (by decide) (fun u => rfl) (by decide) (va_runV (As := [.int p1]) (rest := []) ⟨hx, hb, hml, hown, hts⟩ (c_X5_firstOf l D cI cJ cZ cO h a H.size v_thrown v_made v_of v_many v_colour v_heart v_width v_isTried_j12 v_sheets_j12 v_covered_j12 p1 _ hw) (cwV 1 hts gX5_layAll_X5_firstOf rfl rfl rfl (by decide +kernel) ⟨Nat.le_of_ble_eq_true rfl, Nat.le_of_ble_eq_true rfl⟩) (preV (X := (W_X5_layAll h a cI cJ cZ v_thrown v_made v_of v_many v_colour v_heart v_width v_where v_isTried_j12 v_sheets_j12 v_covered_j12)) (pl := []) (cx := (W_X5_firstOf h a cI cJ cZ v_thrown v_made v_of v_many v_colour v_heart v_width v_isTried_j12 v_sheets_j12 v_covered_j12)) (qb := 0) (ci := 6) hK hE hP hD [0, 1, 2, 3, 5] (by decide) rfl rfl rfl) rfl rfl hl.1 rfl (lv_room (Nat.le_of_ble_eq_true rfl)) dX5_layAll_42 ⟨Nat.zero_le _, Nat.zero_le _⟩) (fun r_42 _ H locs hw hP hD hS => ?_)
      try dsimp only at hw
      have hP : va_P D vwCl (W_X5_layAll h a cI cJ cZ v_thrown v_made v_of v_many v_colour v_heart v_width v_where v_isTried_j12 v_sheets_j12 v_covered_j12) H := hP
      have hD : va_D A (W_X5_layAll h a cI cJ cZ v_thrown v_made v_of v_many v_colour v_heart v_width v_where v_isTried_j12 v_sheets_j12 v_covered_j12) := hD
      refine lv_istore (lv' := [(5, .int r_42), (4, .int 0), (3, .int 0), (2, .int 0), (0, .ref h), (1, .int p1)]) hx hb dX5_layAll_45 hl (by decide) rfl (fun ls hl => ?_)
      exact L47 (0, 0, 0, r_42, v_where, v_isTried_j12, v_sheets_j12, v_covered_j12) hw _ _ ls hP hD hS (lv_sub hl [4, 5, 3, 2, 1, 0] rfl)
    · have hw := hw.2 c17
      refine lv_aload_n hx hb dX5_layAll_20 rfl (lv_at hl 0 rfl) ?_
      refine va_get (D := D) (ci := 6) (v := .ref (a 21)) (C := RX5) (T := TX5) (N := 24) hx hb hts iRX5 hown hK hP 0 rfl rfl 21 (by decide) (hts (.fieldLink RX5 72 "LeadlightModel" "isTried" "[Z") (List.mem_of_getElem? (i := 4) rfl)) (fun _ h9 => h9) rfl dX5_layAll_21 ?_
      refine lv_iload_n hx hb dX5_layAll_24 rfl (lv_at hl 2 rfl) ?_
      refine lv_iconst (v := 0) hx hb dX5_layAll_25 (by decide) ?_
      obtain ⟨hi_26, hw⟩ := hw
      refine st_z hx hb hK hP hD hS 5 2 rfl rfl hi_26 dX5_layAll_26 (fun v_isTried_t26 ev_isTried_t26 H locs hP hD hS => ?_)
      have hw := hw v_isTried_t26 ev_isTried_t26
      have hP : va_P D vwCl (W_X5_layAll h a cI cJ cZ v_thrown v_made v_of v_many v_colour v_heart v_width v_where v_isTried_t26 v_sheets_j12 v_covered_j12) H := hP
      have hD : va_D A (W_X5_layAll h a cI cJ cZ v_thrown v_made v_of v_many v_colour v_heart v_width v_where v_isTried_t26 v_sheets_j12 v_covered_j12) := hD
      refine lv_iinc (v := (x2_j12 + 1)) (lv' := [(2, .int (x2_j12 + 1)), (0, .ref h), (1, .int p1)]) hx hb dX5_layAll_27 hl (k := 2) rfl rfl (by decide) rfl (fun ls hl => ?_)
      refine lv_goto (tgt := 12) hx hb dX5_layAll_30 (by decide) ?_
      exact ih12 ((x2_j12 + 1), v_isTried_t26, v_sheets_j12, v_covered_j12) hw _ _ ls hP hD hS (lv_sub hl [1, 2, 0] rfl)
  refine lv_aload_n hx hb dX5_layAll_0 rfl (lv_at hl 0 rfl) ?_
  refine lv_iconst (v := 0) hx hb dX5_layAll_1 (by decide) ?_
  refine lv_topi (fun v_sheets_t2 ev_sheets_t2 => ?_)
  have hw := hw v_sheets_t2 ev_sheets_t2
  refine va_put (D := D) (ci := 6) (v := .int v_sheets_t2) (ty := .int) (C := RX5) (T := TX5) (N := 24) hx hb hts iRX5 tyX5 tyX5_ok nmX5 hown hK hP hD hS 0 rfl rfl 22 (by decide) (hts (.fieldLink RX5 160 "LeadlightModel" "sheets" "I") (List.mem_of_getElem? (i := 1) rfl)) (fun _ h9 => h9) rfl (by decide +kernel) rfl rfl (Nat.le_of_ble_eq_true rfl) dX5_layAll_2 (fun H locs hP hD hS => ?_)
  have hP : va_P D vwCl (W_X5_layAll h a cI cJ cZ v_thrown v_made v_of v_many v_colour v_heart v_width v_where v_isTried v_sheets_t2 v_covered) H := hP
  have hD : va_D A (W_X5_layAll h a cI cJ cZ v_thrown v_made v_of v_many v_colour v_heart v_width v_where v_isTried v_sheets_t2 v_covered) := hD
  refine lv_aload_n hx hb dX5_layAll_5 rfl (lv_at hl 0 rfl) ?_
  refine lv_iconst (v := 0) hx hb dX5_layAll_6 (by decide) ?_
  refine lv_topi (fun v_covered_t7 ev_covered_t7 => ?_)
  have hw := hw v_covered_t7 ev_covered_t7
  refine va_put (D := D) (ci := 6) (v := .int v_covered_t7) (ty := .int) (C := RX5) (T := TX5) (N := 24) hx hb hts iRX5 tyX5 tyX5_ok nmX5 hown hK hP hD hS 0 rfl rfl 23 (by decide) (hts (.fieldLink RX5 163 "LeadlightModel" "covered" "I") (List.mem_of_getElem? (i := 2) rfl)) (fun _ h9 => h9) rfl (by decide +kernel) rfl rfl (Nat.le_of_ble_eq_true rfl) dX5_layAll_7 (fun H locs hP hD hS => ?_)
  have hP : va_P D vwCl (W_X5_layAll h a cI cJ cZ v_thrown v_made v_of v_many v_colour v_heart v_width v_where v_isTried v_sheets_t2 v_covered_t7) H := hP
  have hD : va_D A (W_X5_layAll h a cI cJ cZ v_thrown v_made v_of v_many v_colour v_heart v_width v_where v_isTried v_sheets_t2 v_covered_t7) := hD
  refine lv_iconst (v := 0) hx hb dX5_layAll_10 (by decide) ?_
  refine lv_istore_n (lv' := [(2, .int 0), (0, .ref h), (1, .int p1)]) hx hb dX5_layAll_11 rfl hl (by decide) rfl (fun ls hl => ?_)
  exact L12 (0, v_isTried, v_sheets_t2, v_covered_t7) hw _ _ ls hP hD hS (lv_sub hl [1, 2, 0] rfl)
abbrev rm_X5_sheets : Room := { frames := 3, cells := 0, slots := 0, locals := 77 }
abbrev W_X5_sheets (h : Nat) (a : Nat → Nat) (cI cJ cZ : ClassId) (v_thrown : Int32) (v_made : Int32) (v_of : Nat → Int32) (v_many : Nat → Int32) (v_colour : Nat → Int32) (v_heart : Int32) (v_width : Int32) (v_where : Nat → Int32) (v_isTried : Nat → Int32) (v_sheets : Int32) (v_covered : Int32) : va_W := [(h, .inr (6, [.int v_thrown, .int v_made, .ref (a 2), .ref (a 3), .ref (a 4), .ref (a 5), .ref (a 6), .ref (a 7), .ref (a 8), .ref (a 9), .ref (a 10), .ref (a 11), .int v_heart, .int v_width, .ref (a 14), .ref (a 15), .ref (a 16), .ref (a 17), .ref (a 18), .ref (a 19), .ref (a 20), .ref (a 21), .int v_sheets, .int v_covered])), ((a 2), .inl (cI, 256, .inl v_of)), ((a 3), .inl (cI, 60, .inl v_many)), ((a 4), .inl (cI, 60, .inl v_colour)), ((a 20), .inl (cI, 60, .inl v_where)), ((a 21), .inl (cZ, 60, .inl v_isTried))]
def wp_X5_sheets_16 (v_thrown : Int32) (v_made : Int32) (v_of : Nat → Int32) (v_many : Nat → Int32) (v_colour : Nat → Int32) (v_width : Int32) (v_where : Nat → Int32) (v_isTried : Nat → Int32) (v_sheets : Int32) (v_covered : Int32) (p1 : Int32) (post : Int32 → Int32 → (Nat → Int32) → (Nat → Int32) → Int32 → Int32 → Prop) (s1_j16 : Int32) : Prop := wp_X5_goesWell v_thrown s1_j16 (fun r_16 v_thrown_c16 => (r_16 = 0 → post 0 v_thrown_c16 v_where v_isTried v_sheets v_covered) ∧ (¬ r_16 = 0 → wp_X5_layAll v_made v_of v_many v_colour v_width v_where v_isTried v_sheets v_covered p1 (fun v_where_c26 v_isTried_c26 v_sheets_c26 v_covered_c26 => post v_sheets_c26 v_thrown_c16 v_where_c26 v_isTried_c26 v_sheets_c26 v_covered_c26)))
def wp_X5_sheets (v_thrown : Int32) (v_made : Int32) (v_of : Nat → Int32) (v_many : Nat → Int32) (v_colour : Nat → Int32) (v_width : Int32) (v_where : Nat → Int32) (v_isTried : Nat → Int32) (v_sheets : Int32) (v_covered : Int32) (p1 : Int32) (post : Int32 → Int32 → (Nat → Int32) → (Nat → Int32) → Int32 → Int32 → Prop) : Prop := wp_X5_in p1 0 7 (fun r_5 => (r_5 = 0 → wp_X5_sheets_16 v_thrown v_made v_of v_many v_colour v_width v_where v_isTried v_sheets v_covered p1 post 1) ∧ (¬ r_5 = 0 → wp_X5_sheets_16 v_thrown v_made v_of v_many v_colour v_width v_where v_isTried v_sheets v_covered p1 post 0))
set_option maxHeartbeats 4000000 in
set_option maxRecDepth 100000 in
theorem c_X5_sheets (l : Launch) (D : va_G) (cI cJ cZ cO : ClassId) (h : Nat) (a : Nat → Nat) (sz : Nat) (v_thrown : Int32) (v_made : Int32) (v_of : Nat → Int32) (v_many : Nat → Int32) (v_colour : Nat → Int32) (v_heart : Int32) (v_width : Int32) (v_where : Nat → Int32) (v_isTried : Nat → Int32) (v_sheets : Int32) (v_covered : Int32) (p1 : Int32) (post : Int32 → Int32 → (Nat → Int32) → (Nat → Int32) → Int32 → Int32 → Prop) (hw : wp_X5_sheets v_thrown v_made v_of v_many v_colour v_width v_where v_isTried v_sheets v_covered p1 post) : Met l yX5_sheets wsX5_sheets rm_X5_sheets (va_Pc [.ref h, .int p1] (PRE D cI cJ cZ cO (W_X5_sheets h a cI cJ cZ v_thrown v_made v_of v_many v_colour v_heart v_width v_where v_isTried v_sheets v_covered) sz)) (va_Qi (fun r (u : Int32 × (Nat → Int32) × (Nat → Int32) × Int32 × Int32) => post r u.1 u.2.1 u.2.2.1 u.2.2.2.1 u.2.2.2.2) (fun u t => POST D (va_A (W_X5_sheets h a cI cJ cZ v_thrown v_made v_of v_many v_colour v_heart v_width v_where v_isTried v_sheets v_covered) sz) (W_X5_sheets h a cI cJ cZ u.1 v_made v_of v_many v_colour v_heart v_width u.2.1 u.2.2.1 u.2.2.2.1 u.2.2.2.2) t) (va_A (W_X5_sheets h a cI cJ cZ v_thrown v_made v_of v_many v_colour v_heart v_width v_where v_isTried v_sheets v_covered) sz)) 0 0 (va_A (W_X5_sheets h a cI cJ cZ v_thrown v_made v_of v_many v_colour v_heart v_width v_where v_isTried v_sheets v_covered) sz) := by
  refine met_go (cc := cX5_sheets) (maxL := 2) (ret := some .int) RX5 rfl (by decide) rfl (Nat.le_of_ble_eq_true rfl) ?_
  intro p e s m args below meth c ls hx hb hr hts hown hlocks hin hml hsz hP hK hE hD hA hS hl
  have iRX5 : ∀ w ∈ u_ws RX5 TX5 24, w ∈ wsX5_sheets := mem_seg 31 24 rfl
  generalize va_A (W_X5_sheets h a cI cJ cZ v_thrown v_made v_of v_many v_colour v_heart v_width v_where v_isTried v_sheets v_covered) sz = A at hD hA hS ⊢
  have RT : ∀ (v : Int32) (u : Int32 × (Nat → Int32) × (Nat → Int32) × Int32 × Int32) (H : Heap) (locs : List Loc) (pc : Nat) (ls : Array Slot), decode cX5_sheets pc = .ok (.ireturn, 1) → post v u.1 u.2.1 u.2.2.1 u.2.2.2.1 u.2.2.2.2 → va_P D vwCl (W_X5_sheets h a cI cJ cZ u.1 v_made v_of v_many v_colour v_heart v_width u.2.1 u.2.2.1 u.2.2.2.1 u.2.2.2.2) H → va_D A (W_X5_sheets h a cI cJ cZ u.1 v_made v_of v_many v_colour v_heart v_width u.2.1 u.2.2.1 u.2.2.2.1 u.2.2.2.2) → va_S A s.heap H locs → W p l e rm_X5_sheets s m args below meth c H locs 0 0 (MQ below (va_Qi (fun r (u : Int32 × (Nat → Int32) × (Nat → Int32) × Int32 × Int32) => post r u.1 u.2.1 u.2.2.1 u.2.2.2.1 u.2.2.2.2) (fun u t => POST D A (W_X5_sheets h a cI cJ cZ u.1 v_made v_of v_many v_colour v_heart v_width u.2.1 u.2.2.1 u.2.2.2.1 u.2.2.2.2) t) A) args s 0 0 A) (F0 m pc ls [.int v]) := fun v u H locs pc ls d g1 g2 g3 g4 => rt_i (Wf := fun u => (W_X5_sheets h a cI cJ cZ u.1 v_made v_of v_many v_colour v_heart v_width u.2.1 u.2.2.1 u.2.2.2.1 u.2.2.2.2)) u hx hb hr hlocks g1 g2 g3 g4 d
  generalize (MQ below (va_Qi (fun r (u : Int32 × (Nat → Int32) × (Nat → Int32) × Int32 × Int32) => post r u.1 u.2.1 u.2.2.1 u.2.2.2.1 u.2.2.2.2) (fun u t => POST D A (W_X5_sheets h a cI cJ cZ u.1 v_made v_of v_many v_colour v_heart v_width u.2.1 u.2.2.1 u.2.2.2.1 u.2.2.2.2) t) A) args s 0 0 A) = QQ at RT ⊢
  have hl : lv_has ls 2 [(0, .ref h), (1, .int p1)] := hl
  have hP : va_P D vwCl (W_X5_sheets h a cI cJ cZ v_thrown v_made v_of v_many v_colour v_heart v_width v_where v_isTried v_sheets v_covered) s.heap := hP
  unfold wp_X5_sheets at hw
  suffices GO : ∀ (H : Heap) (locs : List Loc), va_P D vwCl (W_X5_sheets h a cI cJ cZ v_thrown v_made v_of v_many v_colour v_heart v_width v_where v_isTried v_sheets v_covered) H → va_S A s.heap H locs → W p l e rm_X5_sheets s m args below meth c H locs 0 0 QQ (F0 m 0 ls []) from GO _ _ hP hS
  clear hsz hP hS
  intro H locs hP hS
  have J16 : ∀ (s1_j16 : Int32) , wp_X5_sheets_16 v_thrown v_made v_of v_many v_colour v_width v_where v_isTried v_sheets v_covered p1 post s1_j16 → ∀ (H : Heap) (locs : List Loc) (ls : Array Slot), va_P D vwCl (W_X5_sheets h a cI cJ cZ v_thrown v_made v_of v_many v_colour v_heart v_width v_where v_isTried v_sheets v_covered) H → va_D A (W_X5_sheets h a cI cJ cZ v_thrown v_made v_of v_many v_colour v_heart v_width v_where v_isTried v_sheets v_covered) → va_S A s.heap H locs → lv_has ls 2 [(0, .ref h), (1, .int p1)] → W p l e rm_X5_sheets s m args below meth c H locs 0 0 QQ (F0 m 16 ls [.int s1_j16, .ref h]) := by
    intro s1_j16 hw H locs ls hP hD hS hl
    unfold wp_X5_sheets_16 at hw
    refine af_i (X := (W_X5_sheets h a cI cJ cZ v_thrown v_made v_of v_many v_colour v_heart v_width v_where v_isTried v_sheets v_covered)) (pl := []) (cx := (W_X5_goesWell h a cI cJ cZ v_thrown v_made v_heart v_width v_sheets v_covered)) (w1 := fun (u : Int32) => (W_X5_goesWell h a cI cJ cZ u v_made v_heart v_width v_sheets v_covered)) (X' := fun (u : Int32) => (W_X5_sheets h a cI cJ cZ u v_made v_of v_many v_colour v_heart v_width v_where v_isTried v_sheets v_covered)) hP hD hS hA [0] [1, 2, 3, 4, 5] [5, 0, 1, 2, 3, 4] rfl rfl (by decide) (by decide) (fun u => rfl) (by decide) (va_runV (As := [.int s1_j16]) (rest := []) ⟨hx, hb, hml, hown, hts⟩ (c_X5_goesWell l D cI cJ cZ cO h a H.size v_thrown v_made v_heart v_width v_sheets v_covered s1_j16 _ hw) (cwV 1 hts gX5_sheets_X5_goesWell rfl rfl rfl (by decide +kernel) ⟨Nat.le_of_ble_eq_true rfl, Nat.le_of_ble_eq_true rfl⟩) (preV (X := (W_X5_sheets h a cI cJ cZ v_thrown v_made v_of v_many v_colour v_heart v_width v_where v_isTried v_sheets v_covered)) (pl := []) (cx := (W_X5_goesWell h a cI cJ cZ v_thrown v_made v_heart v_width v_sheets v_covered)) (qb := 0) (ci := 6) hK hE hP hD [0] (by decide) rfl rfl rfl) rfl rfl hl.1 rfl (lv_room (Nat.le_of_ble_eq_true rfl)) dX5_sheets_16 ⟨Nat.zero_le _, Nat.zero_le _⟩) (fun r_16 v_thrown_c16 H locs hw hP hD hS => ?_)
    try dsimp only at hw
    have hP : va_P D vwCl (W_X5_sheets h a cI cJ cZ v_thrown_c16 v_made v_of v_many v_colour v_heart v_width v_where v_isTried v_sheets v_covered) H := hP
    have hD : va_D A (W_X5_sheets h a cI cJ cZ v_thrown_c16 v_made v_of v_many v_colour v_heart v_width v_where v_isTried v_sheets v_covered) := hD
    refine lv_if_ne (tgt := 24) hx hb dX5_sheets_19 (by decide) (fun c19 => ?_) (fun c19 => ?_)
    · have hw := hw.2 c19
      refine lv_aload_n hx hb dX5_sheets_24 rfl (lv_at hl 0 rfl) ?_
      refine lv_iload_n hx hb dX5_sheets_25 rfl (lv_at hl 1 rfl) ?_
      refine af_v (X := (W_X5_sheets h a cI cJ cZ v_thrown_c16 v_made v_of v_many v_colour v_heart v_width v_where v_isTried v_sheets v_covered)) (pl := []) (cx := (W_X5_layAll h a cI cJ cZ v_thrown_c16 v_made v_of v_many v_colour v_heart v_width v_where v_isTried v_sheets v_covered)) (w1 := fun (u : (Nat → Int32) × (Nat → Int32) × Int32 × Int32) => (W_X5_layAll h a cI cJ cZ v_thrown_c16 v_made v_of v_many v_colour v_heart v_width u.1 u.2.1 u.2.2.1 u.2.2.2)) (X' := fun (u : (Nat → Int32) × (Nat → Int32) × Int32 × Int32) => (W_X5_sheets h a cI cJ cZ v_thrown_c16 v_made v_of v_many v_colour v_heart v_width u.1 u.2.1 u.2.2.1 u.2.2.2)) hP hD hS hA [0, 1, 2, 3, 4, 5] [] [0, 1, 2, 3, 4, 5] rfl rfl (by decide) (by decide) (fun u => rfl) (by decide) (va_runV (As := [.int p1]) (rest := []) ⟨hx, hb, hml, hown, hts⟩ (c_X5_layAll l D cI cJ cZ cO h a H.size v_thrown_c16 v_made v_of v_many v_colour v_heart v_width v_where v_isTried v_sheets v_covered p1 _ hw) (cwV 1 hts gX5_sheets_X5_layAll rfl rfl rfl (by decide +kernel) ⟨Nat.le_of_ble_eq_true rfl, Nat.le_of_ble_eq_true rfl⟩) (preV (X := (W_X5_sheets h a cI cJ cZ v_thrown_c16 v_made v_of v_many v_colour v_heart v_width v_where v_isTried v_sheets v_covered)) (pl := []) (cx := (W_X5_layAll h a cI cJ cZ v_thrown_c16 v_made v_of v_many v_colour v_heart v_width v_where v_isTried v_sheets v_covered)) (qb := 0) (ci := 6) hK hE hP hD [0, 1, 2, 3, 4, 5] (by decide) rfl rfl rfl) rfl rfl hl.1 rfl (lv_room (Nat.le_of_ble_eq_true rfl)) dX5_sheets_26 ⟨Nat.zero_le _, Nat.zero_le _⟩) (fun u H locs hw hP hD hS => ?_)
      obtain ⟨v_where_c26, v_isTried_c26, v_sheets_c26, v_covered_c26⟩ := u
      try dsimp only at hw
      have hP : va_P D vwCl (W_X5_sheets h a cI cJ cZ v_thrown_c16 v_made v_of v_many v_colour v_heart v_width v_where_c26 v_isTried_c26 v_sheets_c26 v_covered_c26) H := hP
      have hD : va_D A (W_X5_sheets h a cI cJ cZ v_thrown_c16 v_made v_of v_many v_colour v_heart v_width v_where_c26 v_isTried_c26 v_sheets_c26 v_covered_c26) := hD
      refine lv_aload_n hx hb dX5_sheets_29 rfl (lv_at hl 0 rfl) ?_
      refine va_get (D := D) (ci := 6) (v := .int v_sheets_c26) (C := RX5) (T := TX5) (N := 24) hx hb hts iRX5 hown hK hP 0 rfl rfl 22 (by decide) (hts (.fieldLink RX5 160 "LeadlightModel" "sheets" "I") (List.mem_of_getElem? (i := 1) rfl)) (fun _ h9 => h9) rfl dX5_sheets_30 ?_
      exact RT v_sheets_c26 (v_thrown_c16, v_where_c26, v_isTried_c26, v_sheets_c26, v_covered_c26) _ _ _ _ dX5_sheets_33 hw hP hD hS
    · have hw := hw.1 c19
      refine lv_iconst (v := 0) hx hb dX5_sheets_22 (by decide) ?_
      exact RT 0 (v_thrown_c16, v_where, v_isTried, v_sheets, v_covered) _ _ _ _ dX5_sheets_23 hw hP hD hS
  refine lv_aload_n hx hb dX5_sheets_0 rfl (lv_at hl 0 rfl) ?_
  refine lv_iload_n hx hb dX5_sheets_1 rfl (lv_at hl 1 rfl) ?_
  refine lv_iconst (v := 0) hx hb dX5_sheets_2 (by decide) ?_
  refine lv_bipush (v := 7) hx hb dX5_sheets_3 (by decide) ?_
  refine af_i (X := (W_X5_sheets h a cI cJ cZ v_thrown v_made v_of v_many v_colour v_heart v_width v_where v_isTried v_sheets v_covered)) (pl := []) (cx := ([] : va_W)) (w1 := fun (u : Unit) => ([] : va_W)) (X' := fun (u : Unit) => (W_X5_sheets h a cI cJ cZ v_thrown v_made v_of v_many v_colour v_heart v_width v_where v_isTried v_sheets v_covered)) hP hD hS hA [] [0, 1, 2, 3, 4, 5] [0, 1, 2, 3, 4, 5] rfl rfl (by decide) (by decide) (fun u => rfl) (by decide) (va_runS (As := [.int p1, .int 0, .int 7]) (rest := [.ref h]) ⟨hx, hb, hml, hown, hts⟩ (c_X5_in l D cI cJ cZ cO H.size p1 0 7 _ hw) (va_cwS 3 hts gX5_sheets_X5_in rfl rfl rfl (by decide +kernel) ⟨Nat.le_of_ble_eq_true rfl, Nat.le_of_ble_eq_true rfl⟩) (preS (X := (W_X5_sheets h a cI cJ cZ v_thrown v_made v_of v_many v_colour v_heart v_width v_where v_isTried v_sheets v_covered)) (pl := []) (cx := ([] : va_W)) hK hE hP hD [] (by decide) rfl) rfl rfl hl.1 rfl (lv_room (Nat.le_of_ble_eq_true rfl)) dX5_sheets_5 ⟨Nat.zero_le _, Nat.zero_le _⟩) (fun r_5 _ H locs hw hP hD hS => ?_)
  try dsimp only at hw
  have hP : va_P D vwCl (W_X5_sheets h a cI cJ cZ v_thrown v_made v_of v_many v_colour v_heart v_width v_where v_isTried v_sheets v_covered) H := hP
  have hD : va_D A (W_X5_sheets h a cI cJ cZ v_thrown v_made v_of v_many v_colour v_heart v_width v_where v_isTried v_sheets v_covered) := hD
  refine lv_if_eq (tgt := 15) hx hb dX5_sheets_8 (by decide) (fun c8 => ?_) (fun c8 => ?_)
  · have hw := hw.1 c8
    refine lv_iconst (v := 1) hx hb dX5_sheets_15 (by decide) ?_
    exact J16 1 hw _ _ ls hP hD hS (lv_sub hl [0, 1] rfl)
  · have hw := hw.2 c8
    refine lv_iconst (v := 0) hx hb dX5_sheets_11 (by decide) ?_
    refine lv_goto (tgt := 16) hx hb dX5_sheets_12 (by decide) ?_
    exact J16 0 hw _ _ ls hP hD hS (lv_sub hl [0, 1] rfl)
abbrev rm_X5_laid : Room := { frames := 3, cells := 0, slots := 0, locals := 77 }
abbrev W_X5_laid (h : Nat) (a : Nat → Nat) (cI cJ cZ : ClassId) (v_thrown : Int32) (v_made : Int32) (v_of : Nat → Int32) (v_many : Nat → Int32) (v_colour : Nat → Int32) (v_heart : Int32) (v_width : Int32) (v_where : Nat → Int32) (v_isTried : Nat → Int32) (v_sheets : Int32) (v_covered : Int32) : va_W := [(h, .inr (6, [.int v_thrown, .int v_made, .ref (a 2), .ref (a 3), .ref (a 4), .ref (a 5), .ref (a 6), .ref (a 7), .ref (a 8), .ref (a 9), .ref (a 10), .ref (a 11), .int v_heart, .int v_width, .ref (a 14), .ref (a 15), .ref (a 16), .ref (a 17), .ref (a 18), .ref (a 19), .ref (a 20), .ref (a 21), .int v_sheets, .int v_covered])), ((a 2), .inl (cI, 256, .inl v_of)), ((a 3), .inl (cI, 60, .inl v_many)), ((a 4), .inl (cI, 60, .inl v_colour)), ((a 20), .inl (cI, 60, .inl v_where)), ((a 21), .inl (cZ, 60, .inl v_isTried))]
def wp_X5_laid_14 (v_thrown : Int32) (v_made : Int32) (v_of : Nat → Int32) (v_many : Nat → Int32) (v_colour : Nat → Int32) (v_width : Int32) (v_where : Nat → Int32) (v_isTried : Nat → Int32) (v_sheets : Int32) (v_covered : Int32) (p1 : Int32) (post : Int32 → Int32 → (Nat → Int32) → (Nat → Int32) → Int32 → Int32 → Prop) (s1_j14 : Int32) : Prop := wp_X5_goesWell v_thrown s1_j14 (fun r_14 v_thrown_c14 => (r_14 = 0 → post 0 v_thrown_c14 v_where v_isTried v_sheets v_covered) ∧ (¬ r_14 = 0 → vp_in p1 60 ∧ (wp_X5_layAll v_made v_of v_many v_colour v_width v_where v_isTried v_sheets v_covered (v_colour p1.toNatClampNeg) (fun v_where_c29 v_isTried_c29 v_sheets_c29 v_covered_c29 => vp_in p1 60 ∧ (post (v_where_c29 p1.toNatClampNeg) v_thrown_c14 v_where_c29 v_isTried_c29 v_sheets_c29 v_covered_c29)))))
def wp_X5_laid (v_thrown : Int32) (v_made : Int32) (v_of : Nat → Int32) (v_many : Nat → Int32) (v_colour : Nat → Int32) (v_width : Int32) (v_where : Nat → Int32) (v_isTried : Nat → Int32) (v_sheets : Int32) (v_covered : Int32) (p1 : Int32) (post : Int32 → Int32 → (Nat → Int32) → (Nat → Int32) → Int32 → Int32 → Prop) : Prop := wp_X5_isPiece v_made v_many p1 (fun r_3 => (r_3 = 0 → wp_X5_laid_14 v_thrown v_made v_of v_many v_colour v_width v_where v_isTried v_sheets v_covered p1 post 1) ∧ (¬ r_3 = 0 → wp_X5_laid_14 v_thrown v_made v_of v_many v_colour v_width v_where v_isTried v_sheets v_covered p1 post 0))
set_option maxHeartbeats 4000000 in
set_option maxRecDepth 100000 in
theorem c_X5_laid (l : Launch) (D : va_G) (cI cJ cZ cO : ClassId) (h : Nat) (a : Nat → Nat) (sz : Nat) (v_thrown : Int32) (v_made : Int32) (v_of : Nat → Int32) (v_many : Nat → Int32) (v_colour : Nat → Int32) (v_heart : Int32) (v_width : Int32) (v_where : Nat → Int32) (v_isTried : Nat → Int32) (v_sheets : Int32) (v_covered : Int32) (p1 : Int32) (post : Int32 → Int32 → (Nat → Int32) → (Nat → Int32) → Int32 → Int32 → Prop) (hw : wp_X5_laid v_thrown v_made v_of v_many v_colour v_width v_where v_isTried v_sheets v_covered p1 post) : Met l yX5_laid wsX5_laid rm_X5_laid (va_Pc [.ref h, .int p1] (PRE D cI cJ cZ cO (W_X5_laid h a cI cJ cZ v_thrown v_made v_of v_many v_colour v_heart v_width v_where v_isTried v_sheets v_covered) sz)) (va_Qi (fun r (u : Int32 × (Nat → Int32) × (Nat → Int32) × Int32 × Int32) => post r u.1 u.2.1 u.2.2.1 u.2.2.2.1 u.2.2.2.2) (fun u t => POST D (va_A (W_X5_laid h a cI cJ cZ v_thrown v_made v_of v_many v_colour v_heart v_width v_where v_isTried v_sheets v_covered) sz) (W_X5_laid h a cI cJ cZ u.1 v_made v_of v_many v_colour v_heart v_width u.2.1 u.2.2.1 u.2.2.2.1 u.2.2.2.2) t) (va_A (W_X5_laid h a cI cJ cZ v_thrown v_made v_of v_many v_colour v_heart v_width v_where v_isTried v_sheets v_covered) sz)) 0 0 (va_A (W_X5_laid h a cI cJ cZ v_thrown v_made v_of v_many v_colour v_heart v_width v_where v_isTried v_sheets v_covered) sz) := by
  refine met_go (cc := cX5_laid) (maxL := 2) (ret := some .int) RX5 rfl (by decide) rfl (Nat.le_of_ble_eq_true rfl) ?_
  intro p e s m args below meth c ls hx hb hr hts hown hlocks hin hml hsz hP hK hE hD hA hS hl
  have iRX5 : ∀ w ∈ u_ws RX5 TX5 24, w ∈ wsX5_laid := mem_seg 35 24 rfl
  generalize va_A (W_X5_laid h a cI cJ cZ v_thrown v_made v_of v_many v_colour v_heart v_width v_where v_isTried v_sheets v_covered) sz = A at hD hA hS ⊢
  have RT : ∀ (v : Int32) (u : Int32 × (Nat → Int32) × (Nat → Int32) × Int32 × Int32) (H : Heap) (locs : List Loc) (pc : Nat) (ls : Array Slot), decode cX5_laid pc = .ok (.ireturn, 1) → post v u.1 u.2.1 u.2.2.1 u.2.2.2.1 u.2.2.2.2 → va_P D vwCl (W_X5_laid h a cI cJ cZ u.1 v_made v_of v_many v_colour v_heart v_width u.2.1 u.2.2.1 u.2.2.2.1 u.2.2.2.2) H → va_D A (W_X5_laid h a cI cJ cZ u.1 v_made v_of v_many v_colour v_heart v_width u.2.1 u.2.2.1 u.2.2.2.1 u.2.2.2.2) → va_S A s.heap H locs → W p l e rm_X5_laid s m args below meth c H locs 0 0 (MQ below (va_Qi (fun r (u : Int32 × (Nat → Int32) × (Nat → Int32) × Int32 × Int32) => post r u.1 u.2.1 u.2.2.1 u.2.2.2.1 u.2.2.2.2) (fun u t => POST D A (W_X5_laid h a cI cJ cZ u.1 v_made v_of v_many v_colour v_heart v_width u.2.1 u.2.2.1 u.2.2.2.1 u.2.2.2.2) t) A) args s 0 0 A) (F0 m pc ls [.int v]) := fun v u H locs pc ls d g1 g2 g3 g4 => rt_i (Wf := fun u => (W_X5_laid h a cI cJ cZ u.1 v_made v_of v_many v_colour v_heart v_width u.2.1 u.2.2.1 u.2.2.2.1 u.2.2.2.2)) u hx hb hr hlocks g1 g2 g3 g4 d
  generalize (MQ below (va_Qi (fun r (u : Int32 × (Nat → Int32) × (Nat → Int32) × Int32 × Int32) => post r u.1 u.2.1 u.2.2.1 u.2.2.2.1 u.2.2.2.2) (fun u t => POST D A (W_X5_laid h a cI cJ cZ u.1 v_made v_of v_many v_colour v_heart v_width u.2.1 u.2.2.1 u.2.2.2.1 u.2.2.2.2) t) A) args s 0 0 A) = QQ at RT ⊢
  have hl : lv_has ls 2 [(0, .ref h), (1, .int p1)] := hl
  have hP : va_P D vwCl (W_X5_laid h a cI cJ cZ v_thrown v_made v_of v_many v_colour v_heart v_width v_where v_isTried v_sheets v_covered) s.heap := hP
  unfold wp_X5_laid at hw
  suffices GO : ∀ (H : Heap) (locs : List Loc), va_P D vwCl (W_X5_laid h a cI cJ cZ v_thrown v_made v_of v_many v_colour v_heart v_width v_where v_isTried v_sheets v_covered) H → va_S A s.heap H locs → W p l e rm_X5_laid s m args below meth c H locs 0 0 QQ (F0 m 0 ls []) from GO _ _ hP hS
  clear hsz hP hS
  intro H locs hP hS
  have J14 : ∀ (s1_j14 : Int32) , wp_X5_laid_14 v_thrown v_made v_of v_many v_colour v_width v_where v_isTried v_sheets v_covered p1 post s1_j14 → ∀ (H : Heap) (locs : List Loc) (ls : Array Slot), va_P D vwCl (W_X5_laid h a cI cJ cZ v_thrown v_made v_of v_many v_colour v_heart v_width v_where v_isTried v_sheets v_covered) H → va_D A (W_X5_laid h a cI cJ cZ v_thrown v_made v_of v_many v_colour v_heart v_width v_where v_isTried v_sheets v_covered) → va_S A s.heap H locs → lv_has ls 2 [(0, .ref h), (1, .int p1)] → W p l e rm_X5_laid s m args below meth c H locs 0 0 QQ (F0 m 14 ls [.int s1_j14, .ref h]) := by
    intro s1_j14 hw H locs ls hP hD hS hl
    unfold wp_X5_laid_14 at hw
    refine af_i (X := (W_X5_laid h a cI cJ cZ v_thrown v_made v_of v_many v_colour v_heart v_width v_where v_isTried v_sheets v_covered)) (pl := []) (cx := (W_X5_goesWell h a cI cJ cZ v_thrown v_made v_heart v_width v_sheets v_covered)) (w1 := fun (u : Int32) => (W_X5_goesWell h a cI cJ cZ u v_made v_heart v_width v_sheets v_covered)) (X' := fun (u : Int32) => (W_X5_laid h a cI cJ cZ u v_made v_of v_many v_colour v_heart v_width v_where v_isTried v_sheets v_covered)) hP hD hS hA [0] [1, 2, 3, 4, 5] [5, 0, 1, 2, 3, 4] rfl rfl (by decide) (by decide) (fun u => rfl) (by decide) (va_runV (As := [.int s1_j14]) (rest := []) ⟨hx, hb, hml, hown, hts⟩ (c_X5_goesWell l D cI cJ cZ cO h a H.size v_thrown v_made v_heart v_width v_sheets v_covered s1_j14 _ hw) (cwV 1 hts gX5_laid_X5_goesWell rfl rfl rfl (by decide +kernel) ⟨Nat.le_of_ble_eq_true rfl, Nat.le_of_ble_eq_true rfl⟩) (preV (X := (W_X5_laid h a cI cJ cZ v_thrown v_made v_of v_many v_colour v_heart v_width v_where v_isTried v_sheets v_covered)) (pl := []) (cx := (W_X5_goesWell h a cI cJ cZ v_thrown v_made v_heart v_width v_sheets v_covered)) (qb := 0) (ci := 6) hK hE hP hD [0] (by decide) rfl rfl rfl) rfl rfl hl.1 rfl (lv_room (Nat.le_of_ble_eq_true rfl)) dX5_laid_14 ⟨Nat.zero_le _, Nat.zero_le _⟩) (fun r_14 v_thrown_c14 H locs hw hP hD hS => ?_)
    try dsimp only at hw
    have hP : va_P D vwCl (W_X5_laid h a cI cJ cZ v_thrown_c14 v_made v_of v_many v_colour v_heart v_width v_where v_isTried v_sheets v_covered) H := hP
    have hD : va_D A (W_X5_laid h a cI cJ cZ v_thrown_c14 v_made v_of v_many v_colour v_heart v_width v_where v_isTried v_sheets v_covered) := hD
    refine lv_if_ne (tgt := 22) hx hb dX5_laid_17 (by decide) (fun c17 => ?_) (fun c17 => ?_)
    · have hw := hw.2 c17
      refine lv_aload_n hx hb dX5_laid_22 rfl (lv_at hl 0 rfl) ?_
      refine lv_aload_n hx hb dX5_laid_23 rfl (lv_at hl 0 rfl) ?_
      refine va_get (D := D) (ci := 6) (v := .ref (a 4)) (C := RX5) (T := TX5) (N := 24) hx hb hts iRX5 hown hK hP 0 rfl rfl 4 (by decide) (hts (.fieldLink RX5 20 "LeadlightModel" "colour" "[I") (List.mem_of_getElem? (i := 1) rfl)) (fun _ h9 => h9) rfl dX5_laid_24 ?_
      refine lv_iload_n hx hb dX5_laid_27 rfl (lv_at hl 1 rfl) ?_
      obtain ⟨hi_28, hw⟩ := hw
      refine va_iald hx hb hK hP 3 0 rfl rfl hi_28 dX5_laid_28 ?_
      refine af_v (X := (W_X5_laid h a cI cJ cZ v_thrown_c14 v_made v_of v_many v_colour v_heart v_width v_where v_isTried v_sheets v_covered)) (pl := []) (cx := (W_X5_layAll h a cI cJ cZ v_thrown_c14 v_made v_of v_many v_colour v_heart v_width v_where v_isTried v_sheets v_covered)) (w1 := fun (u : (Nat → Int32) × (Nat → Int32) × Int32 × Int32) => (W_X5_layAll h a cI cJ cZ v_thrown_c14 v_made v_of v_many v_colour v_heart v_width u.1 u.2.1 u.2.2.1 u.2.2.2)) (X' := fun (u : (Nat → Int32) × (Nat → Int32) × Int32 × Int32) => (W_X5_laid h a cI cJ cZ v_thrown_c14 v_made v_of v_many v_colour v_heart v_width u.1 u.2.1 u.2.2.1 u.2.2.2)) hP hD hS hA [0, 1, 2, 3, 4, 5] [] [0, 1, 2, 3, 4, 5] rfl rfl (by decide) (by decide) (fun u => rfl) (by decide) (va_runV (As := [.int (v_colour p1.toNatClampNeg)]) (rest := []) ⟨hx, hb, hml, hown, hts⟩ (c_X5_layAll l D cI cJ cZ cO h a H.size v_thrown_c14 v_made v_of v_many v_colour v_heart v_width v_where v_isTried v_sheets v_covered (v_colour p1.toNatClampNeg) _ hw) (cwV 1 hts gX5_laid_X5_layAll rfl rfl rfl (by decide +kernel) ⟨Nat.le_of_ble_eq_true rfl, Nat.le_of_ble_eq_true rfl⟩) (preV (X := (W_X5_laid h a cI cJ cZ v_thrown_c14 v_made v_of v_many v_colour v_heart v_width v_where v_isTried v_sheets v_covered)) (pl := []) (cx := (W_X5_layAll h a cI cJ cZ v_thrown_c14 v_made v_of v_many v_colour v_heart v_width v_where v_isTried v_sheets v_covered)) (qb := 0) (ci := 6) hK hE hP hD [0, 1, 2, 3, 4, 5] (by decide) rfl rfl rfl) rfl rfl hl.1 rfl (lv_room (Nat.le_of_ble_eq_true rfl)) dX5_laid_29 ⟨Nat.zero_le _, Nat.zero_le _⟩) (fun u H locs hw hP hD hS => ?_)
      obtain ⟨v_where_c29, v_isTried_c29, v_sheets_c29, v_covered_c29⟩ := u
      try dsimp only at hw
      have hP : va_P D vwCl (W_X5_laid h a cI cJ cZ v_thrown_c14 v_made v_of v_many v_colour v_heart v_width v_where_c29 v_isTried_c29 v_sheets_c29 v_covered_c29) H := hP
      have hD : va_D A (W_X5_laid h a cI cJ cZ v_thrown_c14 v_made v_of v_many v_colour v_heart v_width v_where_c29 v_isTried_c29 v_sheets_c29 v_covered_c29) := hD
      refine lv_aload_n hx hb dX5_laid_32 rfl (lv_at hl 0 rfl) ?_
      refine va_get (D := D) (ci := 6) (v := .ref (a 20)) (C := RX5) (T := TX5) (N := 24) hx hb hts iRX5 hown hK hP 0 rfl rfl 20 (by decide) (hts (.fieldLink RX5 69 "LeadlightModel" "where" "[I") (List.mem_of_getElem? (i := 2) rfl)) (fun _ h9 => h9) rfl dX5_laid_33 ?_
      refine lv_iload_n hx hb dX5_laid_36 rfl (lv_at hl 1 rfl) ?_
      obtain ⟨hi_37, hw⟩ := hw
      refine va_iald hx hb hK hP 4 0 rfl rfl hi_37 dX5_laid_37 ?_
      exact RT (v_where_c29 p1.toNatClampNeg) (v_thrown_c14, v_where_c29, v_isTried_c29, v_sheets_c29, v_covered_c29) _ _ _ _ dX5_laid_38 hw hP hD hS
    · have hw := hw.1 c17
      refine lv_iconst (v := 0) hx hb dX5_laid_20 (by decide) ?_
      exact RT 0 (v_thrown_c14, v_where, v_isTried, v_sheets, v_covered) _ _ _ _ dX5_laid_21 hw hP hD hS
  refine lv_aload_n hx hb dX5_laid_0 rfl (lv_at hl 0 rfl) ?_
  refine lv_aload_n hx hb dX5_laid_1 rfl (lv_at hl 0 rfl) ?_
  refine lv_iload_n hx hb dX5_laid_2 rfl (lv_at hl 1 rfl) ?_
  refine af_i (X := (W_X5_laid h a cI cJ cZ v_thrown v_made v_of v_many v_colour v_heart v_width v_where v_isTried v_sheets v_covered)) (pl := []) (cx := (W_X5_isPiece h a cI cJ cZ v_thrown v_made v_many v_heart v_width v_sheets v_covered)) (w1 := fun (u : Unit) => (W_X5_isPiece h a cI cJ cZ v_thrown v_made v_many v_heart v_width v_sheets v_covered)) (X' := fun (u : Unit) => (W_X5_laid h a cI cJ cZ v_thrown v_made v_of v_many v_colour v_heart v_width v_where v_isTried v_sheets v_covered)) hP hD hS hA [0, 2] [1, 3, 4, 5] [4, 0, 5, 1, 2, 3] rfl rfl (by decide) (by decide) (fun u => rfl) (by decide) (va_runV (As := [.int p1]) (rest := [.ref h]) ⟨hx, hb, hml, hown, hts⟩ (c_X5_isPiece l D cI cJ cZ cO h a H.size v_thrown v_made v_many v_heart v_width v_sheets v_covered p1 _ hw) (cwV 1 hts gX5_laid_X5_isPiece rfl rfl rfl (by decide +kernel) ⟨Nat.le_of_ble_eq_true rfl, Nat.le_of_ble_eq_true rfl⟩) (preV (X := (W_X5_laid h a cI cJ cZ v_thrown v_made v_of v_many v_colour v_heart v_width v_where v_isTried v_sheets v_covered)) (pl := []) (cx := (W_X5_isPiece h a cI cJ cZ v_thrown v_made v_many v_heart v_width v_sheets v_covered)) (qb := 0) (ci := 6) hK hE hP hD [0, 2] (by decide) rfl rfl rfl) rfl rfl hl.1 rfl (lv_room (Nat.le_of_ble_eq_true rfl)) dX5_laid_3 ⟨Nat.zero_le _, Nat.zero_le _⟩) (fun r_3 _ H locs hw hP hD hS => ?_)
  try dsimp only at hw
  have hP : va_P D vwCl (W_X5_laid h a cI cJ cZ v_thrown v_made v_of v_many v_colour v_heart v_width v_where v_isTried v_sheets v_covered) H := hP
  have hD : va_D A (W_X5_laid h a cI cJ cZ v_thrown v_made v_of v_many v_colour v_heart v_width v_where v_isTried v_sheets v_covered) := hD
  refine lv_if_eq (tgt := 13) hx hb dX5_laid_6 (by decide) (fun c6 => ?_) (fun c6 => ?_)
  · have hw := hw.1 c6
    refine lv_iconst (v := 1) hx hb dX5_laid_13 (by decide) ?_
    exact J14 1 hw _ _ ls hP hD hS (lv_sub hl [0, 1] rfl)
  · have hw := hw.2 c6
    refine lv_iconst (v := 0) hx hb dX5_laid_9 (by decide) ?_
    refine lv_goto (tgt := 14) hx hb dX5_laid_10 (by decide) ?_
    exact J14 0 hw _ _ ls hP hD hS (lv_sub hl [0, 1] rfl)
abbrev rm_X5_waste : Room := { frames := 3, cells := 0, slots := 0, locals := 77 }
abbrev W_X5_waste (h : Nat) (a : Nat → Nat) (cI cJ cZ : ClassId) (v_thrown : Int32) (v_made : Int32) (v_of : Nat → Int32) (v_many : Nat → Int32) (v_colour : Nat → Int32) (v_heart : Int32) (v_width : Int32) (v_where : Nat → Int32) (v_isTried : Nat → Int32) (v_sheets : Int32) (v_covered : Int32) : va_W := [(h, .inr (6, [.int v_thrown, .int v_made, .ref (a 2), .ref (a 3), .ref (a 4), .ref (a 5), .ref (a 6), .ref (a 7), .ref (a 8), .ref (a 9), .ref (a 10), .ref (a 11), .int v_heart, .int v_width, .ref (a 14), .ref (a 15), .ref (a 16), .ref (a 17), .ref (a 18), .ref (a 19), .ref (a 20), .ref (a 21), .int v_sheets, .int v_covered])), ((a 2), .inl (cI, 256, .inl v_of)), ((a 3), .inl (cI, 60, .inl v_many)), ((a 4), .inl (cI, 60, .inl v_colour)), ((a 20), .inl (cI, 60, .inl v_where)), ((a 21), .inl (cZ, 60, .inl v_isTried))]
def wp_X5_waste_16 (v_thrown : Int32) (v_made : Int32) (v_of : Nat → Int32) (v_many : Nat → Int32) (v_colour : Nat → Int32) (v_width : Int32) (v_where : Nat → Int32) (v_isTried : Nat → Int32) (v_sheets : Int32) (v_covered : Int32) (p1 : Int32) (post : Int32 → Int32 → (Nat → Int32) → (Nat → Int32) → Int32 → Int32 → Prop) (s1_j16 : Int32) : Prop := wp_X5_goesWell v_thrown s1_j16 (fun r_16 v_thrown_c16 => (r_16 = 0 → post 0 v_thrown_c16 v_where v_isTried v_sheets v_covered) ∧ (¬ r_16 = 0 → wp_X5_layAll v_made v_of v_many v_colour v_width v_where v_isTried v_sheets v_covered p1 (fun v_where_c26 v_isTried_c26 v_sheets_c26 v_covered_c26 => post (((v_sheets_c26 * 20) * v_width) - v_covered_c26) v_thrown_c16 v_where_c26 v_isTried_c26 v_sheets_c26 v_covered_c26)))
def wp_X5_waste (v_thrown : Int32) (v_made : Int32) (v_of : Nat → Int32) (v_many : Nat → Int32) (v_colour : Nat → Int32) (v_width : Int32) (v_where : Nat → Int32) (v_isTried : Nat → Int32) (v_sheets : Int32) (v_covered : Int32) (p1 : Int32) (post : Int32 → Int32 → (Nat → Int32) → (Nat → Int32) → Int32 → Int32 → Prop) : Prop := wp_X5_in p1 0 7 (fun r_5 => (r_5 = 0 → wp_X5_waste_16 v_thrown v_made v_of v_many v_colour v_width v_where v_isTried v_sheets v_covered p1 post 1) ∧ (¬ r_5 = 0 → wp_X5_waste_16 v_thrown v_made v_of v_many v_colour v_width v_where v_isTried v_sheets v_covered p1 post 0))
set_option maxHeartbeats 4000000 in
set_option maxRecDepth 100000 in
theorem c_X5_waste (l : Launch) (D : va_G) (cI cJ cZ cO : ClassId) (h : Nat) (a : Nat → Nat) (sz : Nat) (v_thrown : Int32) (v_made : Int32) (v_of : Nat → Int32) (v_many : Nat → Int32) (v_colour : Nat → Int32) (v_heart : Int32) (v_width : Int32) (v_where : Nat → Int32) (v_isTried : Nat → Int32) (v_sheets : Int32) (v_covered : Int32) (p1 : Int32) (post : Int32 → Int32 → (Nat → Int32) → (Nat → Int32) → Int32 → Int32 → Prop) (hw : wp_X5_waste v_thrown v_made v_of v_many v_colour v_width v_where v_isTried v_sheets v_covered p1 post) : Met l yX5_waste wsX5_waste rm_X5_waste (va_Pc [.ref h, .int p1] (PRE D cI cJ cZ cO (W_X5_waste h a cI cJ cZ v_thrown v_made v_of v_many v_colour v_heart v_width v_where v_isTried v_sheets v_covered) sz)) (va_Qi (fun r (u : Int32 × (Nat → Int32) × (Nat → Int32) × Int32 × Int32) => post r u.1 u.2.1 u.2.2.1 u.2.2.2.1 u.2.2.2.2) (fun u t => POST D (va_A (W_X5_waste h a cI cJ cZ v_thrown v_made v_of v_many v_colour v_heart v_width v_where v_isTried v_sheets v_covered) sz) (W_X5_waste h a cI cJ cZ u.1 v_made v_of v_many v_colour v_heart v_width u.2.1 u.2.2.1 u.2.2.2.1 u.2.2.2.2) t) (va_A (W_X5_waste h a cI cJ cZ v_thrown v_made v_of v_many v_colour v_heart v_width v_where v_isTried v_sheets v_covered) sz)) 0 0 (va_A (W_X5_waste h a cI cJ cZ v_thrown v_made v_of v_many v_colour v_heart v_width v_where v_isTried v_sheets v_covered) sz) := by
  refine met_go (cc := cX5_waste) (maxL := 2) (ret := some .int) RX5 rfl (by decide) rfl (Nat.le_of_ble_eq_true rfl) ?_
  intro p e s m args below meth c ls hx hb hr hts hown hlocks hin hml hsz hP hK hE hD hA hS hl
  have iRX5 : ∀ w ∈ u_ws RX5 TX5 24, w ∈ wsX5_waste := mem_seg 31 24 rfl
  generalize va_A (W_X5_waste h a cI cJ cZ v_thrown v_made v_of v_many v_colour v_heart v_width v_where v_isTried v_sheets v_covered) sz = A at hD hA hS ⊢
  have RT : ∀ (v : Int32) (u : Int32 × (Nat → Int32) × (Nat → Int32) × Int32 × Int32) (H : Heap) (locs : List Loc) (pc : Nat) (ls : Array Slot), decode cX5_waste pc = .ok (.ireturn, 1) → post v u.1 u.2.1 u.2.2.1 u.2.2.2.1 u.2.2.2.2 → va_P D vwCl (W_X5_waste h a cI cJ cZ u.1 v_made v_of v_many v_colour v_heart v_width u.2.1 u.2.2.1 u.2.2.2.1 u.2.2.2.2) H → va_D A (W_X5_waste h a cI cJ cZ u.1 v_made v_of v_many v_colour v_heart v_width u.2.1 u.2.2.1 u.2.2.2.1 u.2.2.2.2) → va_S A s.heap H locs → W p l e rm_X5_waste s m args below meth c H locs 0 0 (MQ below (va_Qi (fun r (u : Int32 × (Nat → Int32) × (Nat → Int32) × Int32 × Int32) => post r u.1 u.2.1 u.2.2.1 u.2.2.2.1 u.2.2.2.2) (fun u t => POST D A (W_X5_waste h a cI cJ cZ u.1 v_made v_of v_many v_colour v_heart v_width u.2.1 u.2.2.1 u.2.2.2.1 u.2.2.2.2) t) A) args s 0 0 A) (F0 m pc ls [.int v]) := fun v u H locs pc ls d g1 g2 g3 g4 => rt_i (Wf := fun u => (W_X5_waste h a cI cJ cZ u.1 v_made v_of v_many v_colour v_heart v_width u.2.1 u.2.2.1 u.2.2.2.1 u.2.2.2.2)) u hx hb hr hlocks g1 g2 g3 g4 d
  generalize (MQ below (va_Qi (fun r (u : Int32 × (Nat → Int32) × (Nat → Int32) × Int32 × Int32) => post r u.1 u.2.1 u.2.2.1 u.2.2.2.1 u.2.2.2.2) (fun u t => POST D A (W_X5_waste h a cI cJ cZ u.1 v_made v_of v_many v_colour v_heart v_width u.2.1 u.2.2.1 u.2.2.2.1 u.2.2.2.2) t) A) args s 0 0 A) = QQ at RT ⊢
  have hl : lv_has ls 2 [(0, .ref h), (1, .int p1)] := hl
  have hP : va_P D vwCl (W_X5_waste h a cI cJ cZ v_thrown v_made v_of v_many v_colour v_heart v_width v_where v_isTried v_sheets v_covered) s.heap := hP
  unfold wp_X5_waste at hw
  suffices GO : ∀ (H : Heap) (locs : List Loc), va_P D vwCl (W_X5_waste h a cI cJ cZ v_thrown v_made v_of v_many v_colour v_heart v_width v_where v_isTried v_sheets v_covered) H → va_S A s.heap H locs → W p l e rm_X5_waste s m args below meth c H locs 0 0 QQ (F0 m 0 ls []) from GO _ _ hP hS
  clear hsz hP hS
  intro H locs hP hS
  have J16 : ∀ (s1_j16 : Int32) , wp_X5_waste_16 v_thrown v_made v_of v_many v_colour v_width v_where v_isTried v_sheets v_covered p1 post s1_j16 → ∀ (H : Heap) (locs : List Loc) (ls : Array Slot), va_P D vwCl (W_X5_waste h a cI cJ cZ v_thrown v_made v_of v_many v_colour v_heart v_width v_where v_isTried v_sheets v_covered) H → va_D A (W_X5_waste h a cI cJ cZ v_thrown v_made v_of v_many v_colour v_heart v_width v_where v_isTried v_sheets v_covered) → va_S A s.heap H locs → lv_has ls 2 [(0, .ref h), (1, .int p1)] → W p l e rm_X5_waste s m args below meth c H locs 0 0 QQ (F0 m 16 ls [.int s1_j16, .ref h]) := by
    intro s1_j16 hw H locs ls hP hD hS hl
    unfold wp_X5_waste_16 at hw
    refine af_i (X := (W_X5_waste h a cI cJ cZ v_thrown v_made v_of v_many v_colour v_heart v_width v_where v_isTried v_sheets v_covered)) (pl := []) (cx := (W_X5_goesWell h a cI cJ cZ v_thrown v_made v_heart v_width v_sheets v_covered)) (w1 := fun (u : Int32) => (W_X5_goesWell h a cI cJ cZ u v_made v_heart v_width v_sheets v_covered)) (X' := fun (u : Int32) => (W_X5_waste h a cI cJ cZ u v_made v_of v_many v_colour v_heart v_width v_where v_isTried v_sheets v_covered)) hP hD hS hA [0] [1, 2, 3, 4, 5] [5, 0, 1, 2, 3, 4] rfl rfl (by decide) (by decide) (fun u => rfl) (by decide) (va_runV (As := [.int s1_j16]) (rest := []) ⟨hx, hb, hml, hown, hts⟩ (c_X5_goesWell l D cI cJ cZ cO h a H.size v_thrown v_made v_heart v_width v_sheets v_covered s1_j16 _ hw) (cwV 1 hts gX5_waste_X5_goesWell rfl rfl rfl (by decide +kernel) ⟨Nat.le_of_ble_eq_true rfl, Nat.le_of_ble_eq_true rfl⟩) (preV (X := (W_X5_waste h a cI cJ cZ v_thrown v_made v_of v_many v_colour v_heart v_width v_where v_isTried v_sheets v_covered)) (pl := []) (cx := (W_X5_goesWell h a cI cJ cZ v_thrown v_made v_heart v_width v_sheets v_covered)) (qb := 0) (ci := 6) hK hE hP hD [0] (by decide) rfl rfl rfl) rfl rfl hl.1 rfl (lv_room (Nat.le_of_ble_eq_true rfl)) dX5_waste_16 ⟨Nat.zero_le _, Nat.zero_le _⟩) (fun r_16 v_thrown_c16 H locs hw hP hD hS => ?_)
    try dsimp only at hw
    have hP : va_P D vwCl (W_X5_waste h a cI cJ cZ v_thrown_c16 v_made v_of v_many v_colour v_heart v_width v_where v_isTried v_sheets v_covered) H := hP
    have hD : va_D A (W_X5_waste h a cI cJ cZ v_thrown_c16 v_made v_of v_many v_colour v_heart v_width v_where v_isTried v_sheets v_covered) := hD
    refine lv_if_ne (tgt := 24) hx hb dX5_waste_19 (by decide) (fun c19 => ?_) (fun c19 => ?_)
    · have hw := hw.2 c19
      refine lv_aload_n hx hb dX5_waste_24 rfl (lv_at hl 0 rfl) ?_
      refine lv_iload_n hx hb dX5_waste_25 rfl (lv_at hl 1 rfl) ?_
      refine af_v (X := (W_X5_waste h a cI cJ cZ v_thrown_c16 v_made v_of v_many v_colour v_heart v_width v_where v_isTried v_sheets v_covered)) (pl := []) (cx := (W_X5_layAll h a cI cJ cZ v_thrown_c16 v_made v_of v_many v_colour v_heart v_width v_where v_isTried v_sheets v_covered)) (w1 := fun (u : (Nat → Int32) × (Nat → Int32) × Int32 × Int32) => (W_X5_layAll h a cI cJ cZ v_thrown_c16 v_made v_of v_many v_colour v_heart v_width u.1 u.2.1 u.2.2.1 u.2.2.2)) (X' := fun (u : (Nat → Int32) × (Nat → Int32) × Int32 × Int32) => (W_X5_waste h a cI cJ cZ v_thrown_c16 v_made v_of v_many v_colour v_heart v_width u.1 u.2.1 u.2.2.1 u.2.2.2)) hP hD hS hA [0, 1, 2, 3, 4, 5] [] [0, 1, 2, 3, 4, 5] rfl rfl (by decide) (by decide) (fun u => rfl) (by decide) (va_runV (As := [.int p1]) (rest := []) ⟨hx, hb, hml, hown, hts⟩ (c_X5_layAll l D cI cJ cZ cO h a H.size v_thrown_c16 v_made v_of v_many v_colour v_heart v_width v_where v_isTried v_sheets v_covered p1 _ hw) (cwV 1 hts gX5_waste_X5_layAll rfl rfl rfl (by decide +kernel) ⟨Nat.le_of_ble_eq_true rfl, Nat.le_of_ble_eq_true rfl⟩) (preV (X := (W_X5_waste h a cI cJ cZ v_thrown_c16 v_made v_of v_many v_colour v_heart v_width v_where v_isTried v_sheets v_covered)) (pl := []) (cx := (W_X5_layAll h a cI cJ cZ v_thrown_c16 v_made v_of v_many v_colour v_heart v_width v_where v_isTried v_sheets v_covered)) (qb := 0) (ci := 6) hK hE hP hD [0, 1, 2, 3, 4, 5] (by decide) rfl rfl rfl) rfl rfl hl.1 rfl (lv_room (Nat.le_of_ble_eq_true rfl)) dX5_waste_26 ⟨Nat.zero_le _, Nat.zero_le _⟩) (fun u H locs hw hP hD hS => ?_)
      obtain ⟨v_where_c26, v_isTried_c26, v_sheets_c26, v_covered_c26⟩ := u
      try dsimp only at hw
      have hP : va_P D vwCl (W_X5_waste h a cI cJ cZ v_thrown_c16 v_made v_of v_many v_colour v_heart v_width v_where_c26 v_isTried_c26 v_sheets_c26 v_covered_c26) H := hP
      have hD : va_D A (W_X5_waste h a cI cJ cZ v_thrown_c16 v_made v_of v_many v_colour v_heart v_width v_where_c26 v_isTried_c26 v_sheets_c26 v_covered_c26) := hD
      refine lv_aload_n hx hb dX5_waste_29 rfl (lv_at hl 0 rfl) ?_
      refine va_get (D := D) (ci := 6) (v := .int v_sheets_c26) (C := RX5) (T := TX5) (N := 24) hx hb hts iRX5 hown hK hP 0 rfl rfl 22 (by decide) (hts (.fieldLink RX5 160 "LeadlightModel" "sheets" "I") (List.mem_of_getElem? (i := 1) rfl)) (fun _ h9 => h9) rfl dX5_waste_30 ?_
      refine lv_bipush (v := 20) hx hb dX5_waste_33 (by decide) ?_
      refine lv_imul hx hb dX5_waste_35 ?_
      refine lv_aload_n hx hb dX5_waste_36 rfl (lv_at hl 0 rfl) ?_
      refine va_get (D := D) (ci := 6) (v := .int v_width) (C := RX5) (T := TX5) (N := 24) hx hb hts iRX5 hown hK hP 0 rfl rfl 13 (by decide) (hts (.fieldLink RX5 48 "LeadlightModel" "width" "I") (List.mem_of_getElem? (i := 2) rfl)) (fun _ h9 => h9) rfl dX5_waste_37 ?_
      refine lv_imul hx hb dX5_waste_40 ?_
      refine lv_aload_n hx hb dX5_waste_41 rfl (lv_at hl 0 rfl) ?_
      refine va_get (D := D) (ci := 6) (v := .int v_covered_c26) (C := RX5) (T := TX5) (N := 24) hx hb hts iRX5 hown hK hP 0 rfl rfl 23 (by decide) (hts (.fieldLink RX5 163 "LeadlightModel" "covered" "I") (List.mem_of_getElem? (i := 3) rfl)) (fun _ h9 => h9) rfl dX5_waste_42 ?_
      refine lv_isub hx hb dX5_waste_45 ?_
      exact RT (((v_sheets_c26 * 20) * v_width) - v_covered_c26) (v_thrown_c16, v_where_c26, v_isTried_c26, v_sheets_c26, v_covered_c26) _ _ _ _ dX5_waste_46 hw hP hD hS
    · have hw := hw.1 c19
      refine lv_iconst (v := 0) hx hb dX5_waste_22 (by decide) ?_
      exact RT 0 (v_thrown_c16, v_where, v_isTried, v_sheets, v_covered) _ _ _ _ dX5_waste_23 hw hP hD hS
  refine lv_aload_n hx hb dX5_waste_0 rfl (lv_at hl 0 rfl) ?_
  refine lv_iload_n hx hb dX5_waste_1 rfl (lv_at hl 1 rfl) ?_
  refine lv_iconst (v := 0) hx hb dX5_waste_2 (by decide) ?_
  refine lv_bipush (v := 7) hx hb dX5_waste_3 (by decide) ?_
  refine af_i (X := (W_X5_waste h a cI cJ cZ v_thrown v_made v_of v_many v_colour v_heart v_width v_where v_isTried v_sheets v_covered)) (pl := []) (cx := ([] : va_W)) (w1 := fun (u : Unit) => ([] : va_W)) (X' := fun (u : Unit) => (W_X5_waste h a cI cJ cZ v_thrown v_made v_of v_many v_colour v_heart v_width v_where v_isTried v_sheets v_covered)) hP hD hS hA [] [0, 1, 2, 3, 4, 5] [0, 1, 2, 3, 4, 5] rfl rfl (by decide) (by decide) (fun u => rfl) (by decide) (va_runS (As := [.int p1, .int 0, .int 7]) (rest := [.ref h]) ⟨hx, hb, hml, hown, hts⟩ (c_X5_in l D cI cJ cZ cO H.size p1 0 7 _ hw) (va_cwS 3 hts gX5_waste_X5_in rfl rfl rfl (by decide +kernel) ⟨Nat.le_of_ble_eq_true rfl, Nat.le_of_ble_eq_true rfl⟩) (preS (X := (W_X5_waste h a cI cJ cZ v_thrown v_made v_of v_many v_colour v_heart v_width v_where v_isTried v_sheets v_covered)) (pl := []) (cx := ([] : va_W)) hK hE hP hD [] (by decide) rfl) rfl rfl hl.1 rfl (lv_room (Nat.le_of_ble_eq_true rfl)) dX5_waste_5 ⟨Nat.zero_le _, Nat.zero_le _⟩) (fun r_5 _ H locs hw hP hD hS => ?_)
  try dsimp only at hw
  have hP : va_P D vwCl (W_X5_waste h a cI cJ cZ v_thrown v_made v_of v_many v_colour v_heart v_width v_where v_isTried v_sheets v_covered) H := hP
  have hD : va_D A (W_X5_waste h a cI cJ cZ v_thrown v_made v_of v_many v_colour v_heart v_width v_where v_isTried v_sheets v_covered) := hD
  refine lv_if_eq (tgt := 15) hx hb dX5_waste_8 (by decide) (fun c8 => ?_) (fun c8 => ?_)
  · have hw := hw.1 c8
    refine lv_iconst (v := 1) hx hb dX5_waste_15 (by decide) ?_
    exact J16 1 hw _ _ ls hP hD hS (lv_sub hl [0, 1] rfl)
  · have hw := hw.2 c8
    refine lv_iconst (v := 0) hx hb dX5_waste_11 (by decide) ?_
    refine lv_goto (tgt := 16) hx hb dX5_waste_12 (by decide) ?_
    exact J16 0 hw _ _ ls hP hD hS (lv_sub hl [0, 1] rfl)
abbrev rm_X5_floorDiv : Room := { frames := 0, cells := 0, slots := 0, locals := 0 }
def wp_X5_floorDiv (p1 : Int32) (p2 : Int32) (post : Int32 → Prop) : Prop := (p1 < 0 → ¬ p2 = 0 ∧ (post (-((((-p1) + p2) - 1) / p2)))) ∧ (¬ p1 < 0 → ¬ p2 = 0 ∧ (post (p1 / p2)))
set_option maxHeartbeats 4000000 in
set_option maxRecDepth 100000 in
theorem c_X5_floorDiv (l : Launch) (D : va_G) (cI cJ cZ cO : ClassId) (sz : Nat) (p1 : Int32) (p2 : Int32) (post : Int32 → Prop) (hw : wp_X5_floorDiv p1 p2 post) : Met l yX5_floorDiv wsX5_floorDiv rm_X5_floorDiv (va_Pc [.int p1, .int p2] (PRE D cI cJ cZ cO ([] : va_W) sz)) (va_Qi (fun r (_ : Unit) => post r) (fun u t => POST D (va_A ([] : va_W) sz) ([] : va_W) t) (va_A ([] : va_W) sz)) 0 0 (va_A ([] : va_W) sz) := by
  refine met_go (cc := cX5_floorDiv) (maxL := 2) (ret := some .int) RX5 rfl (by decide) rfl (Nat.le_of_ble_eq_true rfl) ?_
  intro p e s m args below meth c ls hx hb hr hts hown hlocks hin hml hsz hP hK hE hD hA hS hl
  generalize va_A ([] : va_W) sz = A at hD hA hS ⊢
  have RT : ∀ (v : Int32) (u : Unit) (H : Heap) (locs : List Loc) (pc : Nat) (ls : Array Slot), decode cX5_floorDiv pc = .ok (.ireturn, 1) → post v → va_P D vwCl ([] : va_W) H → va_D A ([] : va_W) → va_S A s.heap H locs → W p l e rm_X5_floorDiv s m args below meth c H locs 0 0 (MQ below (va_Qi (fun r (_ : Unit) => post r) (fun u t => POST D A ([] : va_W) t) A) args s 0 0 A) (F0 m pc ls [.int v]) := fun v u H locs pc ls d g1 g2 g3 g4 => rt_i (Wf := fun u => ([] : va_W)) u hx hb hr hlocks g1 g2 g3 g4 d
  generalize (MQ below (va_Qi (fun r (_ : Unit) => post r) (fun u t => POST D A ([] : va_W) t) A) args s 0 0 A) = QQ at RT ⊢
  have hl : lv_has ls 2 [(0, .int p1), (1, .int p2)] := hl
  have hP : va_P D vwCl ([] : va_W) s.heap := hP
  unfold wp_X5_floorDiv at hw
  suffices GO : ∀ (H : Heap) (locs : List Loc), va_P D vwCl ([] : va_W) H → va_S A s.heap H locs → W p l e rm_X5_floorDiv s m args below meth c H locs 0 0 QQ (F0 m 0 ls []) from GO _ _ hP hS
  clear hsz hP hS
  intro H locs hP hS
  refine lv_iload_n hx hb dX5_floorDiv_0 rfl (lv_at hl 0 rfl) ?_
  refine lv_if_lt (tgt := 10) hx hb dX5_floorDiv_1 (by decide) (fun c1 => ?_) (fun c1 => ?_)
  · have hw := hw.1 c1
    refine lv_iload_n hx hb dX5_floorDiv_10 rfl (lv_at hl 0 rfl) ?_
    refine lv_ineg hx hb dX5_floorDiv_11 ?_
    refine lv_iload_n hx hb dX5_floorDiv_12 rfl (lv_at hl 1 rfl) ?_
    refine lv_iadd hx hb dX5_floorDiv_13 ?_
    refine lv_iconst (v := 1) hx hb dX5_floorDiv_14 (by decide) ?_
    refine lv_isub hx hb dX5_floorDiv_15 ?_
    refine lv_iload_n hx hb dX5_floorDiv_16 rfl (lv_at hl 1 rfl) ?_
    obtain ⟨hne_17, hw⟩ := hw
    refine lv_idiv hx hb dX5_floorDiv_17 hne_17 ?_
    refine lv_ineg hx hb dX5_floorDiv_18 ?_
    exact RT (-((((-p1) + p2) - 1) / p2)) () _ _ _ _ dX5_floorDiv_19 hw hP hD hS
  · have hw := hw.2 c1
    refine lv_iload_n hx hb dX5_floorDiv_4 rfl (lv_at hl 0 rfl) ?_
    refine lv_iload_n hx hb dX5_floorDiv_5 rfl (lv_at hl 1 rfl) ?_
    obtain ⟨hne_6, hw⟩ := hw
    refine lv_idiv hx hb dX5_floorDiv_6 hne_6 ?_
    refine lv_goto (tgt := 19) hx hb dX5_floorDiv_7 (by decide) ?_
    exact RT (p1 / p2) () _ _ _ _ dX5_floorDiv_19 hw hP hD hS
abbrev rm_X5_shown : Room := { frames := 1, cells := 0, slots := 0, locals := 21 }
abbrev W_X5_shown (h : Nat) (a : Nat → Nat) (cI cJ cZ : ClassId) (v_thrown : Int32) (v_made : Int32) (v_of : Nat → Int32) (v_colour : Nat → Int32) (v_heart : Int32) (v_width : Int32) (v_sheets : Int32) (v_covered : Int32) : va_W := [(h, .inr (6, [.int v_thrown, .int v_made, .ref (a 2), .ref (a 3), .ref (a 4), .ref (a 5), .ref (a 6), .ref (a 7), .ref (a 8), .ref (a 9), .ref (a 10), .ref (a 11), .int v_heart, .int v_width, .ref (a 14), .ref (a 15), .ref (a 16), .ref (a 17), .ref (a 18), .ref (a 19), .ref (a 20), .ref (a 21), .int v_sheets, .int v_covered])), ((a 2), .inl (cI, 256, .inl v_of)), ((a 4), .inl (cI, 60, .inl v_colour))]
def wp_X5_shown_111 (v_of : Nat → Int32) (v_colour : Nat → Int32) (p1 : Int32) (p2 : Int32) (p3 : Int32) (post : Int32 → Prop) (K25 : Int32 → Int32 → Int32 → Prop) (s0_j111 : Int32) (s1_j111 : Int32) (x4_j111 : Int32) (x6_j111 : Int32) : Prop := K25 x4_j111 (s0_j111 ||| s1_j111) (x6_j111 + 1)
def wp_X5_shown_84 (v_of : Nat → Int32) (v_colour : Nat → Int32) (p1 : Int32) (p2 : Int32) (p3 : Int32) (post : Int32 → Prop) (K25 : Int32 → Int32 → Int32 → Prop) (s0_j84 : Int32) (x4_j84 : Int32) (x5_j84 : Int32) (x6_j84 : Int32) : Prop := (s0_j84 = 0 → wp_X5_shown_111 v_of v_colour p1 p2 p3 post K25 x5_j84 0 x4_j84 x6_j84) ∧ (¬ s0_j84 = 0 → vp_in x6_j84 256 ∧ (vp_in (v_of x6_j84.toNatClampNeg) 60 ∧ (wp_X5_shown_111 v_of v_colour p1 p2 p3 post K25 x5_j84 (1 <<< ((v_colour (v_of x6_j84.toNatClampNeg).toNatClampNeg) &&& 31)) x4_j84 x6_j84)))
def wp_X5_shown_25 (v_of : Nat → Int32) (v_colour : Nat → Int32) (p1 : Int32) (p2 : Int32) (p3 : Int32) (post : Int32 → Prop) (K25 : Int32 → Int32 → Int32 → Prop) (x4_j25 : Int32) (x5_j25 : Int32) (x6_j25 : Int32) : Prop := (256 ≤ x6_j25 → post x5_j25) ∧ (¬ 256 ≤ x6_j25 → ¬ (6 - x4_j25) = 0 ∧ (∀ y7_49 : Int32, y7_49 = ((4 * (16 - (x6_j25 / 16))) / (6 - x4_j25)) → (y7_49 = p1 → wp_X5_floorDiv ((p3 - 12) * y7_49) 8 (fun r_71 => (((x6_j25 - x6_j25 / 16 * 16) + r_71) = p2 → wp_X5_shown_84 v_of v_colour p1 p2 p3 post K25 1 x4_j25 x5_j25 x6_j25) ∧ (¬ ((x6_j25 - x6_j25 / 16 * 16) + r_71) = p2 → wp_X5_shown_84 v_of v_colour p1 p2 p3 post K25 0 x4_j25 x5_j25 x6_j25))) ∧ (¬ y7_49 = p1 → wp_X5_shown_84 v_of v_colour p1 p2 p3 post K25 0 x4_j25 x5_j25 x6_j25)))
def lF_X5_shown_25 (v_of : Nat → Int32) (v_colour : Nat → Int32) (p1 : Int32) (p2 : Int32) (p3 : Int32) (post : Int32 → Prop) : ((Int32 × Int32 × Int32) → Prop) → (Int32 × Int32 × Int32) → Prop := fun K s => wp_X5_shown_25 v_of v_colour p1 p2 p3 post (fun b0 b1 b2 => K (b0, b1, b2)) s.1 s.2.1 s.2.2
def wp_X5_shown_17 (v_of : Nat → Int32) (v_colour : Nat → Int32) (p1 : Int32) (p2 : Int32) (p3 : Int32) (post : Int32 → Prop) (s0_j17 : Int32) : Prop := lp (lF_X5_shown_25 v_of v_colour p1 p2 p3 post) (s0_j17, 0, 0)
def wp_X5_shown (v_of : Nat → Int32) (v_colour : Nat → Int32) (p1 : Int32) (p2 : Int32) (p3 : Int32) (post : Int32 → Prop) : Prop := (12 ≤ p3 → wp_X5_shown_17 v_of v_colour p1 p2 p3 post (p3 - 12)) ∧ (¬ 12 ≤ p3 → wp_X5_shown_17 v_of v_colour p1 p2 p3 post (12 - p3))
set_option maxHeartbeats 4000000 in
set_option maxRecDepth 100000 in
theorem c_X5_shown (l : Launch) (D : va_G) (cI cJ cZ cO : ClassId) (h : Nat) (a : Nat → Nat) (sz : Nat) (v_thrown : Int32) (v_made : Int32) (v_of : Nat → Int32) (v_colour : Nat → Int32) (v_heart : Int32) (v_width : Int32) (v_sheets : Int32) (v_covered : Int32) (p1 : Int32) (p2 : Int32) (p3 : Int32) (post : Int32 → Prop) (hw : wp_X5_shown v_of v_colour p1 p2 p3 post) : Met l yX5_shown wsX5_shown rm_X5_shown (va_Pc [.ref h, .int p1, .int p2, .int p3] (PRE D cI cJ cZ cO (W_X5_shown h a cI cJ cZ v_thrown v_made v_of v_colour v_heart v_width v_sheets v_covered) sz)) (va_Qi (fun r (_ : Unit) => post r) (fun u t => POST D (va_A (W_X5_shown h a cI cJ cZ v_thrown v_made v_of v_colour v_heart v_width v_sheets v_covered) sz) (W_X5_shown h a cI cJ cZ v_thrown v_made v_of v_colour v_heart v_width v_sheets v_covered) t) (va_A (W_X5_shown h a cI cJ cZ v_thrown v_made v_of v_colour v_heart v_width v_sheets v_covered) sz)) 0 0 (va_A (W_X5_shown h a cI cJ cZ v_thrown v_made v_of v_colour v_heart v_width v_sheets v_covered) sz) := by
  refine met_go (cc := cX5_shown) (maxL := 9) (ret := some .int) RX5 rfl (by decide) rfl (Nat.le_of_ble_eq_true rfl) ?_
  intro p e s m args below meth c ls hx hb hr hts hown hlocks hin hml hsz hP hK hE hD hA hS hl
  have iRX5 : ∀ w ∈ u_ws RX5 TX5 24, w ∈ wsX5_shown := mem_seg 7 24 rfl
  generalize va_A (W_X5_shown h a cI cJ cZ v_thrown v_made v_of v_colour v_heart v_width v_sheets v_covered) sz = A at hD hA hS ⊢
  have RT : ∀ (v : Int32) (u : Unit) (H : Heap) (locs : List Loc) (pc : Nat) (ls : Array Slot), decode cX5_shown pc = .ok (.ireturn, 1) → post v → va_P D vwCl (W_X5_shown h a cI cJ cZ v_thrown v_made v_of v_colour v_heart v_width v_sheets v_covered) H → va_D A (W_X5_shown h a cI cJ cZ v_thrown v_made v_of v_colour v_heart v_width v_sheets v_covered) → va_S A s.heap H locs → W p l e rm_X5_shown s m args below meth c H locs 0 0 (MQ below (va_Qi (fun r (_ : Unit) => post r) (fun u t => POST D A (W_X5_shown h a cI cJ cZ v_thrown v_made v_of v_colour v_heart v_width v_sheets v_covered) t) A) args s 0 0 A) (F0 m pc ls [.int v]) := fun v u H locs pc ls d g1 g2 g3 g4 => rt_i (Wf := fun u => (W_X5_shown h a cI cJ cZ v_thrown v_made v_of v_colour v_heart v_width v_sheets v_covered)) u hx hb hr hlocks g1 g2 g3 g4 d
  generalize (MQ below (va_Qi (fun r (_ : Unit) => post r) (fun u t => POST D A (W_X5_shown h a cI cJ cZ v_thrown v_made v_of v_colour v_heart v_width v_sheets v_covered) t) A) args s 0 0 A) = QQ at RT ⊢
  have hl : lv_has ls 9 [(0, .ref h), (1, .int p1), (2, .int p2), (3, .int p3)] := hl
  have hP : va_P D vwCl (W_X5_shown h a cI cJ cZ v_thrown v_made v_of v_colour v_heart v_width v_sheets v_covered) s.heap := hP
  unfold wp_X5_shown at hw
  suffices GO : ∀ (H : Heap) (locs : List Loc), va_P D vwCl (W_X5_shown h a cI cJ cZ v_thrown v_made v_of v_colour v_heart v_width v_sheets v_covered) H → va_S A s.heap H locs → W p l e rm_X5_shown s m args below meth c H locs 0 0 QQ (F0 m 0 ls []) from GO _ _ hP hS
  clear hsz hP hS
  intro H locs hP hS
  have L25 : ∀ s0 : (Int32 × Int32 × Int32), lp (lF_X5_shown_25 v_of v_colour p1 p2 p3 post) s0 → ∀ (H : Heap) (locs : List Loc) (ls : Array Slot), va_P D vwCl (W_X5_shown h a cI cJ cZ v_thrown v_made v_of v_colour v_heart v_width v_sheets v_covered) H → va_D A (W_X5_shown h a cI cJ cZ v_thrown v_made v_of v_colour v_heart v_width v_sheets v_covered) → va_S A s.heap H locs → lv_has ls 9 [(0, .ref h), (1, .int p1), (2, .int p2), (3, .int p3), (4, .int s0.1), (5, .int s0.2.1), (6, .int s0.2.2)] → W p l e rm_X5_shown s m args below meth c H locs 0 0 QQ (F0 m 25 ls []) := by
    refine lp_elim (fun K25 ih25 s0 hw => ?_)
    obtain ⟨x4_j25, x5_j25, x6_j25⟩ := s0
    intro H locs ls hP hD hS hl
    have hw : wp_X5_shown_25 v_of v_colour p1 p2 p3 post (fun b0 b1 b2 => K25 (b0, b1, b2)) x4_j25 x5_j25 x6_j25 := hw
    have hP : va_P D vwCl (W_X5_shown h a cI cJ cZ v_thrown v_made v_of v_colour v_heart v_width v_sheets v_covered) H := hP
    have hD : va_D A (W_X5_shown h a cI cJ cZ v_thrown v_made v_of v_colour v_heart v_width v_sheets v_covered) := hD
    have hl : lv_has ls 9 [(0, .ref h), (1, .int p1), (2, .int p2), (3, .int p3), (4, .int x4_j25), (5, .int x5_j25), (6, .int x6_j25)] := hl
    have J111 : ∀ (s0_j111 : Int32) (s1_j111 : Int32) (x4_j111 : Int32) (x6_j111 : Int32) , wp_X5_shown_111 v_of v_colour p1 p2 p3 post (fun b0 b1 b2 => K25 (b0, b1, b2)) s0_j111 s1_j111 x4_j111 x6_j111 → ∀ (H : Heap) (locs : List Loc) (ls : Array Slot), va_P D vwCl (W_X5_shown h a cI cJ cZ v_thrown v_made v_of v_colour v_heart v_width v_sheets v_covered) H → va_D A (W_X5_shown h a cI cJ cZ v_thrown v_made v_of v_colour v_heart v_width v_sheets v_covered) → va_S A s.heap H locs → lv_has ls 9 [(0, .ref h), (1, .int p1), (2, .int p2), (3, .int p3), (4, .int x4_j111), (6, .int x6_j111)] → W p l e rm_X5_shown s m args below meth c H locs 0 0 QQ (F0 m 111 ls [.int s1_j111, .int s0_j111]) := by
      intro s0_j111 s1_j111 x4_j111 x6_j111 hw H locs ls hP hD hS hl
      unfold wp_X5_shown_111 at hw
      refine lv_ior hx hb dX5_shown_111 ?_
      refine lv_istore (lv' := [(5, .int (s0_j111 ||| s1_j111)), (0, .ref h), (1, .int p1), (2, .int p2), (3, .int p3), (4, .int x4_j111), (6, .int x6_j111)]) hx hb dX5_shown_112 hl (by decide) rfl (fun ls hl => ?_)
      refine lv_iinc (v := (x6_j111 + 1)) (lv' := [(6, .int (x6_j111 + 1)), (5, .int (s0_j111 ||| s1_j111)), (0, .ref h), (1, .int p1), (2, .int p2), (3, .int p3), (4, .int x4_j111)]) hx hb dX5_shown_114 hl (k := 6) rfl rfl (by decide) rfl (fun ls hl => ?_)
      refine lv_goto (tgt := 25) hx hb dX5_shown_117 (by decide) ?_
      exact ih25 (x4_j111, (s0_j111 ||| s1_j111), (x6_j111 + 1)) hw _ _ ls hP hD hS (lv_sub hl [2, 3, 4, 5, 6, 1, 0] rfl)
    have J84 : ∀ (s0_j84 : Int32) (x4_j84 : Int32) (x5_j84 : Int32) (x6_j84 : Int32) , wp_X5_shown_84 v_of v_colour p1 p2 p3 post (fun b0 b1 b2 => K25 (b0, b1, b2)) s0_j84 x4_j84 x5_j84 x6_j84 → ∀ (H : Heap) (locs : List Loc) (ls : Array Slot), va_P D vwCl (W_X5_shown h a cI cJ cZ v_thrown v_made v_of v_colour v_heart v_width v_sheets v_covered) H → va_D A (W_X5_shown h a cI cJ cZ v_thrown v_made v_of v_colour v_heart v_width v_sheets v_covered) → va_S A s.heap H locs → lv_has ls 9 [(0, .ref h), (1, .int p1), (2, .int p2), (3, .int p3), (4, .int x4_j84), (5, .int x5_j84), (6, .int x6_j84)] → W p l e rm_X5_shown s m args below meth c H locs 0 0 QQ (F0 m 84 ls [.int s0_j84]) := by
      intro s0_j84 x4_j84 x5_j84 x6_j84 hw H locs ls hP hD hS hl
      unfold wp_X5_shown_84 at hw
      refine lv_istore (lv' := [(8, .int s0_j84), (0, .ref h), (1, .int p1), (2, .int p2), (3, .int p3), (4, .int x4_j84), (5, .int x5_j84), (6, .int x6_j84)]) hx hb dX5_shown_84 hl (by decide) rfl (fun ls hl => ?_)
      refine lv_iload hx hb dX5_shown_86 (lv_at hl 6 rfl) ?_
      refine lv_iload hx hb dX5_shown_88 (lv_at hl 0 rfl) ?_
      refine lv_if_eq (tgt := 110) hx hb dX5_shown_90 (by decide) (fun c90 => ?_) (fun c90 => ?_)
      · have hw := hw.1 c90
        refine lv_iconst (v := 0) hx hb dX5_shown_110 (by decide) ?_
        exact J111 x5_j84 0 x4_j84 x6_j84 hw _ _ ls hP hD hS (lv_sub hl [1, 2, 3, 4, 5, 7] rfl)
      · have hw := hw.2 c90
        refine lv_iconst (v := 1) hx hb dX5_shown_93 (by decide) ?_
        refine lv_aload_n hx hb dX5_shown_94 rfl (lv_at hl 1 rfl) ?_
        refine va_get (D := D) (ci := 6) (v := .ref (a 4)) (C := RX5) (T := TX5) (N := 24) hx hb hts iRX5 hown hK hP 0 rfl rfl 4 (by decide) (hts (.fieldLink RX5 20 "LeadlightModel" "colour" "[I") (List.mem_of_getElem? (i := 1) rfl)) (fun _ h9 => h9) rfl dX5_shown_95 ?_
        refine lv_aload_n hx hb dX5_shown_98 rfl (lv_at hl 1 rfl) ?_
        refine va_get (D := D) (ci := 6) (v := .ref (a 2)) (C := RX5) (T := TX5) (N := 24) hx hb hts iRX5 hown hK hP 0 rfl rfl 2 (by decide) (hts (.fieldLink RX5 13 "LeadlightModel" "of" "[I") (List.mem_of_getElem? (i := 2) rfl)) (fun _ h9 => h9) rfl dX5_shown_99 ?_
        refine lv_iload hx hb dX5_shown_102 (lv_at hl 7 rfl) ?_
        obtain ⟨hi_104, hw⟩ := hw
        refine va_iald hx hb hK hP 1 0 rfl rfl hi_104 dX5_shown_104 ?_
        obtain ⟨hi_105, hw⟩ := hw
        refine va_iald hx hb hK hP 2 0 rfl rfl hi_105 dX5_shown_105 ?_
        refine lv_ishl hx hb dX5_shown_106 ?_
        refine lv_goto (tgt := 111) hx hb dX5_shown_107 (by decide) ?_
        exact J111 x5_j84 (1 <<< ((v_colour (v_of x6_j84.toNatClampNeg).toNatClampNeg) &&& 31)) x4_j84 x6_j84 hw _ _ ls hP hD hS (lv_sub hl [1, 2, 3, 4, 5, 7] rfl)
    unfold wp_X5_shown_25 at hw
    refine lv_iload hx hb dX5_shown_25 (lv_at hl 6 rfl) ?_
    refine lv_sipush (v := 256) hx hb dX5_shown_27 (by decide) ?_
    refine lv_icmp_ge (tgt := 120) hx hb dX5_shown_30 (by decide) (fun c30 => ?_) (fun c30 => ?_)
    · have hw := hw.1 c30
      refine lv_iload hx hb dX5_shown_120 (lv_at hl 5 rfl) ?_
      exact RT x5_j25 () _ _ _ _ dX5_shown_122 hw hP hD hS
    · have hw := hw.2 c30
      refine lv_iconst (v := 4) hx hb dX5_shown_33 (by decide) ?_
      refine lv_bipush (v := 16) hx hb dX5_shown_34 (by decide) ?_
      refine lv_iload hx hb dX5_shown_36 (lv_at hl 6 rfl) ?_
      refine lv_bipush (v := 16) hx hb dX5_shown_38 (by decide) ?_
      refine lv_idiv hx hb dX5_shown_40 (by decide) ?_
      refine lv_isub hx hb dX5_shown_41 ?_
      refine lv_imul hx hb dX5_shown_42 ?_
      refine lv_bipush (v := 6) hx hb dX5_shown_43 (by decide) ?_
      refine lv_iload hx hb dX5_shown_45 (lv_at hl 4 rfl) ?_
      refine lv_isub hx hb dX5_shown_47 ?_
      obtain ⟨hne_48, hw⟩ := hw
      refine lv_idiv hx hb dX5_shown_48 hne_48 ?_
      refine lv_topi (fun y7_49 ey7_49 => ?_)
      have hw := hw y7_49 ey7_49
      refine lv_istore (lv' := [(7, .int y7_49), (0, .ref h), (1, .int p1), (2, .int p2), (3, .int p3), (4, .int x4_j25), (5, .int x5_j25), (6, .int x6_j25)]) hx hb dX5_shown_49 hl (by decide) rfl (fun ls hl => ?_)
      refine lv_iload hx hb dX5_shown_51 (lv_at hl 0 rfl) ?_
      refine lv_iload_n hx hb dX5_shown_53 rfl (lv_at hl 2 rfl) ?_
      refine lv_icmp_ne (tgt := 83) hx hb dX5_shown_54 (by decide) (fun c54 => ?_) (fun c54 => ?_)
      · have hw := hw.2 c54
        refine lv_iconst (v := 0) hx hb dX5_shown_83 (by decide) ?_
        exact J84 0 x4_j25 x5_j25 x6_j25 hw _ _ ls hP hD hS (lv_sub hl [1, 2, 3, 4, 5, 6, 7] rfl)
      · have hw := hw.1 c54
        refine lv_iload hx hb dX5_shown_57 (lv_at hl 7 rfl) ?_
        refine lv_bipush (v := 16) hx hb dX5_shown_59 (by decide) ?_
        refine lv_irem hx hb dX5_shown_61 (by decide) ?_
        refine lv_iload_n hx hb dX5_shown_62 rfl (lv_at hl 4 rfl) ?_
        refine lv_bipush (v := 12) hx hb dX5_shown_63 (by decide) ?_
        refine lv_isub hx hb dX5_shown_65 ?_
        refine lv_iload hx hb dX5_shown_66 (lv_at hl 0 rfl) ?_
        refine lv_imul hx hb dX5_shown_68 ?_
        refine lv_bipush (v := 8) hx hb dX5_shown_69 (by decide) ?_
        refine af_i (X := (W_X5_shown h a cI cJ cZ v_thrown v_made v_of v_colour v_heart v_width v_sheets v_covered)) (pl := []) (cx := ([] : va_W)) (w1 := fun (u : Unit) => ([] : va_W)) (X' := fun (u : Unit) => (W_X5_shown h a cI cJ cZ v_thrown v_made v_of v_colour v_heart v_width v_sheets v_covered)) hP hD hS hA [] [0, 1, 2] [0, 1, 2] rfl rfl (by decide) (by decide) (fun u => rfl) (by decide) (va_runS (As := [.int ((p3 - 12) * y7_49), .int 8]) (rest := [.int (x6_j25 - x6_j25 / 16 * 16)]) ⟨hx, hb, hml, hown, hts⟩ (c_X5_floorDiv l D cI cJ cZ cO H.size ((p3 - 12) * y7_49) 8 _ hw) (va_cwS 2 hts gX5_shown_X5_floorDiv rfl rfl rfl (by decide +kernel) ⟨Nat.le_of_ble_eq_true rfl, Nat.le_of_ble_eq_true rfl⟩) (preS (X := (W_X5_shown h a cI cJ cZ v_thrown v_made v_of v_colour v_heart v_width v_sheets v_covered)) (pl := []) (cx := ([] : va_W)) hK hE hP hD [] (by decide) rfl) rfl rfl hl.1 rfl (lv_room (Nat.le_of_ble_eq_true rfl)) dX5_shown_71 ⟨Nat.zero_le _, Nat.zero_le _⟩) (fun r_71 _ H locs hw hP hD hS => ?_)
        try dsimp only at hw
        have hP : va_P D vwCl (W_X5_shown h a cI cJ cZ v_thrown v_made v_of v_colour v_heart v_width v_sheets v_covered) H := hP
        have hD : va_D A (W_X5_shown h a cI cJ cZ v_thrown v_made v_of v_colour v_heart v_width v_sheets v_covered) := hD
        refine lv_iadd hx hb dX5_shown_74 ?_
        refine lv_iload_n hx hb dX5_shown_75 rfl (lv_at hl 3 rfl) ?_
        refine lv_icmp_ne (tgt := 83) hx hb dX5_shown_76 (by decide) (fun c76 => ?_) (fun c76 => ?_)
        · have hw := hw.2 c76
          refine lv_iconst (v := 0) hx hb dX5_shown_83 (by decide) ?_
          exact J84 0 x4_j25 x5_j25 x6_j25 hw _ _ ls hP hD hS (lv_sub hl [1, 2, 3, 4, 5, 6, 7] rfl)
        · have hw := hw.1 c76
          refine lv_iconst (v := 1) hx hb dX5_shown_79 (by decide) ?_
          refine lv_goto (tgt := 84) hx hb dX5_shown_80 (by decide) ?_
          exact J84 1 x4_j25 x5_j25 x6_j25 hw _ _ ls hP hD hS (lv_sub hl [1, 2, 3, 4, 5, 6, 7] rfl)
  have J17 : ∀ (s0_j17 : Int32) , wp_X5_shown_17 v_of v_colour p1 p2 p3 post s0_j17 → ∀ (H : Heap) (locs : List Loc) (ls : Array Slot), va_P D vwCl (W_X5_shown h a cI cJ cZ v_thrown v_made v_of v_colour v_heart v_width v_sheets v_covered) H → va_D A (W_X5_shown h a cI cJ cZ v_thrown v_made v_of v_colour v_heart v_width v_sheets v_covered) → va_S A s.heap H locs → lv_has ls 9 [(0, .ref h), (1, .int p1), (2, .int p2), (3, .int p3)] → W p l e rm_X5_shown s m args below meth c H locs 0 0 QQ (F0 m 17 ls [.int s0_j17]) := by
    intro s0_j17 hw H locs ls hP hD hS hl
    unfold wp_X5_shown_17 at hw
    refine lv_istore (lv' := [(4, .int s0_j17), (0, .ref h), (1, .int p1), (2, .int p2), (3, .int p3)]) hx hb dX5_shown_17 hl (by decide) rfl (fun ls hl => ?_)
    refine lv_iconst (v := 0) hx hb dX5_shown_19 (by decide) ?_
    refine lv_istore (lv' := [(5, .int 0), (4, .int s0_j17), (0, .ref h), (1, .int p1), (2, .int p2), (3, .int p3)]) hx hb dX5_shown_20 hl (by decide) rfl (fun ls hl => ?_)
    refine lv_iconst (v := 0) hx hb dX5_shown_22 (by decide) ?_
    refine lv_istore (lv' := [(6, .int 0), (5, .int 0), (4, .int s0_j17), (0, .ref h), (1, .int p1), (2, .int p2), (3, .int p3)]) hx hb dX5_shown_23 hl (by decide) rfl (fun ls hl => ?_)
    exact L25 (s0_j17, 0, 0) hw _ _ ls hP hD hS (lv_sub hl [3, 4, 5, 6, 2, 1, 0] rfl)
  refine lv_iload_n hx hb dX5_shown_0 rfl (lv_at hl 3 rfl) ?_
  refine lv_bipush (v := 12) hx hb dX5_shown_1 (by decide) ?_
  refine lv_icmp_ge (tgt := 13) hx hb dX5_shown_3 (by decide) (fun c3 => ?_) (fun c3 => ?_)
  · have hw := hw.1 c3
    refine lv_iload_n hx hb dX5_shown_13 rfl (lv_at hl 3 rfl) ?_
    refine lv_bipush (v := 12) hx hb dX5_shown_14 (by decide) ?_
    refine lv_isub hx hb dX5_shown_16 ?_
    exact J17 (p3 - 12) hw _ _ ls hP hD hS (lv_sub hl [0, 1, 2, 3] rfl)
  · have hw := hw.2 c3
    refine lv_bipush (v := 12) hx hb dX5_shown_6 (by decide) ?_
    refine lv_iload_n hx hb dX5_shown_8 rfl (lv_at hl 3 rfl) ?_
    refine lv_isub hx hb dX5_shown_9 ?_
    refine lv_goto (tgt := 17) hx hb dX5_shown_10 (by decide) ?_
    exact J17 (12 - p3) hw _ _ ls hP hD hS (lv_sub hl [0, 1, 2, 3] rfl)
abbrev rm_X5_floor : Room := { frames := 2, cells := 0, slots := 0, locals := 49 }
abbrev W_X5_floor (h : Nat) (a : Nat → Nat) (cI cJ cZ : ClassId) (v_thrown : Int32) (v_made : Int32) (v_of : Nat → Int32) (v_colour : Nat → Int32) (v_heart : Int32) (v_width : Int32) (v_sheets : Int32) (v_covered : Int32) : va_W := [(h, .inr (6, [.int v_thrown, .int v_made, .ref (a 2), .ref (a 3), .ref (a 4), .ref (a 5), .ref (a 6), .ref (a 7), .ref (a 8), .ref (a 9), .ref (a 10), .ref (a 11), .int v_heart, .int v_width, .ref (a 14), .ref (a 15), .ref (a 16), .ref (a 17), .ref (a 18), .ref (a 19), .ref (a 20), .ref (a 21), .int v_sheets, .int v_covered])), ((a 2), .inl (cI, 256, .inl v_of)), ((a 4), .inl (cI, 60, .inl v_colour))]
def wp_X5_floor_17 (v_thrown : Int32) (v_of : Nat → Int32) (v_colour : Nat → Int32) (p1 : Int32) (p2 : Int32) (p3 : Int32) (post : Int32 → Int32 → Prop) (s1_j17 : Int32) : Prop := wp_X5_goesWell v_thrown s1_j17 (fun r_17 v_thrown_c17 => (r_17 = 0 → post 0 v_thrown_c17) ∧ (¬ r_17 = 0 → wp_X5_shown v_of v_colour p1 p2 p3 (fun r_27 => post r_27 v_thrown_c17)))
def wp_X5_floor (v_thrown : Int32) (v_of : Nat → Int32) (v_colour : Nat → Int32) (p1 : Int32) (p2 : Int32) (p3 : Int32) (post : Int32 → Int32 → Prop) : Prop := wp_X5_in p3 7 17 (fun r_6 => (r_6 = 0 → wp_X5_floor_17 v_thrown v_of v_colour p1 p2 p3 post 1) ∧ (¬ r_6 = 0 → wp_X5_floor_17 v_thrown v_of v_colour p1 p2 p3 post 0))
set_option maxHeartbeats 4000000 in
set_option maxRecDepth 100000 in
theorem c_X5_floor (l : Launch) (D : va_G) (cI cJ cZ cO : ClassId) (h : Nat) (a : Nat → Nat) (sz : Nat) (v_thrown : Int32) (v_made : Int32) (v_of : Nat → Int32) (v_colour : Nat → Int32) (v_heart : Int32) (v_width : Int32) (v_sheets : Int32) (v_covered : Int32) (p1 : Int32) (p2 : Int32) (p3 : Int32) (post : Int32 → Int32 → Prop) (hw : wp_X5_floor v_thrown v_of v_colour p1 p2 p3 post) : Met l yX5_floor wsX5_floor rm_X5_floor (va_Pc [.ref h, .int p1, .int p2, .int p3] (PRE D cI cJ cZ cO (W_X5_floor h a cI cJ cZ v_thrown v_made v_of v_colour v_heart v_width v_sheets v_covered) sz)) (va_Qi (fun r (u : Int32) => post r u) (fun u t => POST D (va_A (W_X5_floor h a cI cJ cZ v_thrown v_made v_of v_colour v_heart v_width v_sheets v_covered) sz) (W_X5_floor h a cI cJ cZ u v_made v_of v_colour v_heart v_width v_sheets v_covered) t) (va_A (W_X5_floor h a cI cJ cZ v_thrown v_made v_of v_colour v_heart v_width v_sheets v_covered) sz)) 0 0 (va_A (W_X5_floor h a cI cJ cZ v_thrown v_made v_of v_colour v_heart v_width v_sheets v_covered) sz) := by
  refine met_go (cc := cX5_floor) (maxL := 4) (ret := some .int) RX5 rfl (by decide) rfl (Nat.le_of_ble_eq_true rfl) ?_
  intro p e s m args below meth c ls hx hb hr hts hown hlocks hin hml hsz hP hK hE hD hA hS hl
  have iRX5 : ∀ w ∈ u_ws RX5 TX5 24, w ∈ wsX5_floor := mem_seg 19 24 rfl
  generalize va_A (W_X5_floor h a cI cJ cZ v_thrown v_made v_of v_colour v_heart v_width v_sheets v_covered) sz = A at hD hA hS ⊢
  have RT : ∀ (v : Int32) (u : Int32) (H : Heap) (locs : List Loc) (pc : Nat) (ls : Array Slot), decode cX5_floor pc = .ok (.ireturn, 1) → post v u → va_P D vwCl (W_X5_floor h a cI cJ cZ u v_made v_of v_colour v_heart v_width v_sheets v_covered) H → va_D A (W_X5_floor h a cI cJ cZ u v_made v_of v_colour v_heart v_width v_sheets v_covered) → va_S A s.heap H locs → W p l e rm_X5_floor s m args below meth c H locs 0 0 (MQ below (va_Qi (fun r (u : Int32) => post r u) (fun u t => POST D A (W_X5_floor h a cI cJ cZ u v_made v_of v_colour v_heart v_width v_sheets v_covered) t) A) args s 0 0 A) (F0 m pc ls [.int v]) := fun v u H locs pc ls d g1 g2 g3 g4 => rt_i (Wf := fun u => (W_X5_floor h a cI cJ cZ u v_made v_of v_colour v_heart v_width v_sheets v_covered)) u hx hb hr hlocks g1 g2 g3 g4 d
  generalize (MQ below (va_Qi (fun r (u : Int32) => post r u) (fun u t => POST D A (W_X5_floor h a cI cJ cZ u v_made v_of v_colour v_heart v_width v_sheets v_covered) t) A) args s 0 0 A) = QQ at RT ⊢
  have hl : lv_has ls 4 [(0, .ref h), (1, .int p1), (2, .int p2), (3, .int p3)] := hl
  have hP : va_P D vwCl (W_X5_floor h a cI cJ cZ v_thrown v_made v_of v_colour v_heart v_width v_sheets v_covered) s.heap := hP
  unfold wp_X5_floor at hw
  suffices GO : ∀ (H : Heap) (locs : List Loc), va_P D vwCl (W_X5_floor h a cI cJ cZ v_thrown v_made v_of v_colour v_heart v_width v_sheets v_covered) H → va_S A s.heap H locs → W p l e rm_X5_floor s m args below meth c H locs 0 0 QQ (F0 m 0 ls []) from GO _ _ hP hS
  clear hsz hP hS
  intro H locs hP hS
  have J17 : ∀ (s1_j17 : Int32) , wp_X5_floor_17 v_thrown v_of v_colour p1 p2 p3 post s1_j17 → ∀ (H : Heap) (locs : List Loc) (ls : Array Slot), va_P D vwCl (W_X5_floor h a cI cJ cZ v_thrown v_made v_of v_colour v_heart v_width v_sheets v_covered) H → va_D A (W_X5_floor h a cI cJ cZ v_thrown v_made v_of v_colour v_heart v_width v_sheets v_covered) → va_S A s.heap H locs → lv_has ls 4 [(0, .ref h), (1, .int p1), (2, .int p2), (3, .int p3)] → W p l e rm_X5_floor s m args below meth c H locs 0 0 QQ (F0 m 17 ls [.int s1_j17, .ref h]) := by
    intro s1_j17 hw H locs ls hP hD hS hl
    unfold wp_X5_floor_17 at hw
    refine af_i (X := (W_X5_floor h a cI cJ cZ v_thrown v_made v_of v_colour v_heart v_width v_sheets v_covered)) (pl := []) (cx := (W_X5_goesWell h a cI cJ cZ v_thrown v_made v_heart v_width v_sheets v_covered)) (w1 := fun (u : Int32) => (W_X5_goesWell h a cI cJ cZ u v_made v_heart v_width v_sheets v_covered)) (X' := fun (u : Int32) => (W_X5_floor h a cI cJ cZ u v_made v_of v_colour v_heart v_width v_sheets v_covered)) hP hD hS hA [0] [1, 2] [2, 0, 1] rfl rfl (by decide) (by decide) (fun u => rfl) (by decide) (va_runV (As := [.int s1_j17]) (rest := []) ⟨hx, hb, hml, hown, hts⟩ (c_X5_goesWell l D cI cJ cZ cO h a H.size v_thrown v_made v_heart v_width v_sheets v_covered s1_j17 _ hw) (cwV 1 hts gX5_floor_X5_goesWell rfl rfl rfl (by decide +kernel) ⟨Nat.le_of_ble_eq_true rfl, Nat.le_of_ble_eq_true rfl⟩) (preV (X := (W_X5_floor h a cI cJ cZ v_thrown v_made v_of v_colour v_heart v_width v_sheets v_covered)) (pl := []) (cx := (W_X5_goesWell h a cI cJ cZ v_thrown v_made v_heart v_width v_sheets v_covered)) (qb := 0) (ci := 6) hK hE hP hD [0] (by decide) rfl rfl rfl) rfl rfl hl.1 rfl (lv_room (Nat.le_of_ble_eq_true rfl)) dX5_floor_17 ⟨Nat.zero_le _, Nat.zero_le _⟩) (fun r_17 v_thrown_c17 H locs hw hP hD hS => ?_)
    try dsimp only at hw
    have hP : va_P D vwCl (W_X5_floor h a cI cJ cZ v_thrown_c17 v_made v_of v_colour v_heart v_width v_sheets v_covered) H := hP
    have hD : va_D A (W_X5_floor h a cI cJ cZ v_thrown_c17 v_made v_of v_colour v_heart v_width v_sheets v_covered) := hD
    refine lv_if_eq (tgt := 33) hx hb dX5_floor_20 (by decide) (fun c20 => ?_) (fun c20 => ?_)
    · have hw := hw.1 c20
      refine lv_iconst (v := 0) hx hb dX5_floor_33 (by decide) ?_
      exact RT 0 v_thrown_c17 _ _ _ _ dX5_floor_34 hw hP hD hS
    · have hw := hw.2 c20
      refine lv_aload_n hx hb dX5_floor_23 rfl (lv_at hl 0 rfl) ?_
      refine lv_iload_n hx hb dX5_floor_24 rfl (lv_at hl 1 rfl) ?_
      refine lv_iload_n hx hb dX5_floor_25 rfl (lv_at hl 2 rfl) ?_
      refine lv_iload_n hx hb dX5_floor_26 rfl (lv_at hl 3 rfl) ?_
      refine af_i (X := (W_X5_floor h a cI cJ cZ v_thrown_c17 v_made v_of v_colour v_heart v_width v_sheets v_covered)) (pl := []) (cx := (W_X5_shown h a cI cJ cZ v_thrown_c17 v_made v_of v_colour v_heart v_width v_sheets v_covered)) (w1 := fun (u : Unit) => (W_X5_shown h a cI cJ cZ v_thrown_c17 v_made v_of v_colour v_heart v_width v_sheets v_covered)) (X' := fun (u : Unit) => (W_X5_floor h a cI cJ cZ v_thrown_c17 v_made v_of v_colour v_heart v_width v_sheets v_covered)) hP hD hS hA [0, 1, 2] [] [0, 1, 2] rfl rfl (by decide) (by decide) (fun u => rfl) (by decide) (va_runV (As := [.int p1, .int p2, .int p3]) (rest := []) ⟨hx, hb, hml, hown, hts⟩ (c_X5_shown l D cI cJ cZ cO h a H.size v_thrown_c17 v_made v_of v_colour v_heart v_width v_sheets v_covered p1 p2 p3 _ hw) (cwV 3 hts gX5_floor_X5_shown rfl rfl rfl (by decide +kernel) ⟨Nat.le_of_ble_eq_true rfl, Nat.le_of_ble_eq_true rfl⟩) (preV (X := (W_X5_floor h a cI cJ cZ v_thrown_c17 v_made v_of v_colour v_heart v_width v_sheets v_covered)) (pl := []) (cx := (W_X5_shown h a cI cJ cZ v_thrown_c17 v_made v_of v_colour v_heart v_width v_sheets v_covered)) (qb := 0) (ci := 6) hK hE hP hD [0, 1, 2] (by decide) rfl rfl rfl) rfl rfl hl.1 rfl (lv_room (Nat.le_of_ble_eq_true rfl)) dX5_floor_27 ⟨Nat.zero_le _, Nat.zero_le _⟩) (fun r_27 _ H locs hw hP hD hS => ?_)
      try dsimp only at hw
      have hP : va_P D vwCl (W_X5_floor h a cI cJ cZ v_thrown_c17 v_made v_of v_colour v_heart v_width v_sheets v_covered) H := hP
      have hD : va_D A (W_X5_floor h a cI cJ cZ v_thrown_c17 v_made v_of v_colour v_heart v_width v_sheets v_covered) := hD
      refine lv_goto (tgt := 34) hx hb dX5_floor_30 (by decide) ?_
      exact RT r_27 v_thrown_c17 _ _ _ _ dX5_floor_34 hw hP hD hS
  refine lv_aload_n hx hb dX5_floor_0 rfl (lv_at hl 0 rfl) ?_
  refine lv_iload_n hx hb dX5_floor_1 rfl (lv_at hl 3 rfl) ?_
  refine lv_bipush (v := 7) hx hb dX5_floor_2 (by decide) ?_
  refine lv_bipush (v := 17) hx hb dX5_floor_4 (by decide) ?_
  refine af_i (X := (W_X5_floor h a cI cJ cZ v_thrown v_made v_of v_colour v_heart v_width v_sheets v_covered)) (pl := []) (cx := ([] : va_W)) (w1 := fun (u : Unit) => ([] : va_W)) (X' := fun (u : Unit) => (W_X5_floor h a cI cJ cZ v_thrown v_made v_of v_colour v_heart v_width v_sheets v_covered)) hP hD hS hA [] [0, 1, 2] [0, 1, 2] rfl rfl (by decide) (by decide) (fun u => rfl) (by decide) (va_runS (As := [.int p3, .int 7, .int 17]) (rest := [.ref h]) ⟨hx, hb, hml, hown, hts⟩ (c_X5_in l D cI cJ cZ cO H.size p3 7 17 _ hw) (va_cwS 3 hts gX5_floor_X5_in rfl rfl rfl (by decide +kernel) ⟨Nat.le_of_ble_eq_true rfl, Nat.le_of_ble_eq_true rfl⟩) (preS (X := (W_X5_floor h a cI cJ cZ v_thrown v_made v_of v_colour v_heart v_width v_sheets v_covered)) (pl := []) (cx := ([] : va_W)) hK hE hP hD [] (by decide) rfl) rfl rfl hl.1 rfl (lv_room (Nat.le_of_ble_eq_true rfl)) dX5_floor_6 ⟨Nat.zero_le _, Nat.zero_le _⟩) (fun r_6 _ H locs hw hP hD hS => ?_)
  try dsimp only at hw
  have hP : va_P D vwCl (W_X5_floor h a cI cJ cZ v_thrown v_made v_of v_colour v_heart v_width v_sheets v_covered) H := hP
  have hD : va_D A (W_X5_floor h a cI cJ cZ v_thrown v_made v_of v_colour v_heart v_width v_sheets v_covered) := hD
  refine lv_if_eq (tgt := 16) hx hb dX5_floor_9 (by decide) (fun c9 => ?_) (fun c9 => ?_)
  · have hw := hw.1 c9
    refine lv_iconst (v := 1) hx hb dX5_floor_16 (by decide) ?_
    exact J17 1 hw _ _ ls hP hD hS (lv_sub hl [0, 1, 2, 3] rfl)
  · have hw := hw.2 c9
    refine lv_iconst (v := 0) hx hb dX5_floor_12 (by decide) ?_
    refine lv_goto (tgt := 17) hx hb dX5_floor_13 (by decide) ?_
    exact J17 0 hw _ _ ls hP hD hS (lv_sub hl [0, 1, 2, 3] rfl)
abbrev rm_X5_floorAnew : Room := { frames := 2, cells := 0, slots := 0, locals := 49 }
abbrev W_X5_floorAnew (h : Nat) (a : Nat → Nat) (cI cJ cZ : ClassId) (v_thrown : Int32) (v_made : Int32) (v_of : Nat → Int32) (v_colour : Nat → Int32) (v_heart : Int32) (v_width : Int32) (v_sheets : Int32) (v_covered : Int32) : va_W := [(h, .inr (6, [.int v_thrown, .int v_made, .ref (a 2), .ref (a 3), .ref (a 4), .ref (a 5), .ref (a 6), .ref (a 7), .ref (a 8), .ref (a 9), .ref (a 10), .ref (a 11), .int v_heart, .int v_width, .ref (a 14), .ref (a 15), .ref (a 16), .ref (a 17), .ref (a 18), .ref (a 19), .ref (a 20), .ref (a 21), .int v_sheets, .int v_covered])), ((a 2), .inl (cI, 256, .inl v_of)), ((a 4), .inl (cI, 60, .inl v_colour))]
def wp_X5_floorAnew_17 (v_thrown : Int32) (v_of : Nat → Int32) (v_colour : Nat → Int32) (p1 : Int32) (p2 : Int32) (p3 : Int32) (post : Int32 → Int32 → Prop) (s1_j17 : Int32) : Prop := wp_X5_goesWell v_thrown s1_j17 (fun r_17 v_thrown_c17 => (r_17 = 0 → post 0 v_thrown_c17) ∧ (¬ r_17 = 0 → wp_X5_shown v_of v_colour p1 p2 p3 (fun r_27 => post r_27 v_thrown_c17)))
def wp_X5_floorAnew (v_thrown : Int32) (v_of : Nat → Int32) (v_colour : Nat → Int32) (p1 : Int32) (p2 : Int32) (p3 : Int32) (post : Int32 → Int32 → Prop) : Prop := wp_X5_in p3 7 17 (fun r_6 => (r_6 = 0 → wp_X5_floorAnew_17 v_thrown v_of v_colour p1 p2 p3 post 1) ∧ (¬ r_6 = 0 → wp_X5_floorAnew_17 v_thrown v_of v_colour p1 p2 p3 post 0))
set_option maxHeartbeats 4000000 in
set_option maxRecDepth 100000 in
theorem c_X5_floorAnew (l : Launch) (D : va_G) (cI cJ cZ cO : ClassId) (h : Nat) (a : Nat → Nat) (sz : Nat) (v_thrown : Int32) (v_made : Int32) (v_of : Nat → Int32) (v_colour : Nat → Int32) (v_heart : Int32) (v_width : Int32) (v_sheets : Int32) (v_covered : Int32) (p1 : Int32) (p2 : Int32) (p3 : Int32) (post : Int32 → Int32 → Prop) (hw : wp_X5_floorAnew v_thrown v_of v_colour p1 p2 p3 post) : Met l yX5_floorAnew wsX5_floorAnew rm_X5_floorAnew (va_Pc [.ref h, .int p1, .int p2, .int p3] (PRE D cI cJ cZ cO (W_X5_floorAnew h a cI cJ cZ v_thrown v_made v_of v_colour v_heart v_width v_sheets v_covered) sz)) (va_Qi (fun r (u : Int32) => post r u) (fun u t => POST D (va_A (W_X5_floorAnew h a cI cJ cZ v_thrown v_made v_of v_colour v_heart v_width v_sheets v_covered) sz) (W_X5_floorAnew h a cI cJ cZ u v_made v_of v_colour v_heart v_width v_sheets v_covered) t) (va_A (W_X5_floorAnew h a cI cJ cZ v_thrown v_made v_of v_colour v_heart v_width v_sheets v_covered) sz)) 0 0 (va_A (W_X5_floorAnew h a cI cJ cZ v_thrown v_made v_of v_colour v_heart v_width v_sheets v_covered) sz) := by
  refine met_go (cc := cX5_floorAnew) (maxL := 4) (ret := some .int) RX5 rfl (by decide) rfl (Nat.le_of_ble_eq_true rfl) ?_
  intro p e s m args below meth c ls hx hb hr hts hown hlocks hin hml hsz hP hK hE hD hA hS hl
  have iRX5 : ∀ w ∈ u_ws RX5 TX5 24, w ∈ wsX5_floorAnew := mem_seg 19 24 rfl
  generalize va_A (W_X5_floorAnew h a cI cJ cZ v_thrown v_made v_of v_colour v_heart v_width v_sheets v_covered) sz = A at hD hA hS ⊢
  have RT : ∀ (v : Int32) (u : Int32) (H : Heap) (locs : List Loc) (pc : Nat) (ls : Array Slot), decode cX5_floorAnew pc = .ok (.ireturn, 1) → post v u → va_P D vwCl (W_X5_floorAnew h a cI cJ cZ u v_made v_of v_colour v_heart v_width v_sheets v_covered) H → va_D A (W_X5_floorAnew h a cI cJ cZ u v_made v_of v_colour v_heart v_width v_sheets v_covered) → va_S A s.heap H locs → W p l e rm_X5_floorAnew s m args below meth c H locs 0 0 (MQ below (va_Qi (fun r (u : Int32) => post r u) (fun u t => POST D A (W_X5_floorAnew h a cI cJ cZ u v_made v_of v_colour v_heart v_width v_sheets v_covered) t) A) args s 0 0 A) (F0 m pc ls [.int v]) := fun v u H locs pc ls d g1 g2 g3 g4 => rt_i (Wf := fun u => (W_X5_floorAnew h a cI cJ cZ u v_made v_of v_colour v_heart v_width v_sheets v_covered)) u hx hb hr hlocks g1 g2 g3 g4 d
  generalize (MQ below (va_Qi (fun r (u : Int32) => post r u) (fun u t => POST D A (W_X5_floorAnew h a cI cJ cZ u v_made v_of v_colour v_heart v_width v_sheets v_covered) t) A) args s 0 0 A) = QQ at RT ⊢
  have hl : lv_has ls 4 [(0, .ref h), (1, .int p1), (2, .int p2), (3, .int p3)] := hl
  have hP : va_P D vwCl (W_X5_floorAnew h a cI cJ cZ v_thrown v_made v_of v_colour v_heart v_width v_sheets v_covered) s.heap := hP
  unfold wp_X5_floorAnew at hw
  suffices GO : ∀ (H : Heap) (locs : List Loc), va_P D vwCl (W_X5_floorAnew h a cI cJ cZ v_thrown v_made v_of v_colour v_heart v_width v_sheets v_covered) H → va_S A s.heap H locs → W p l e rm_X5_floorAnew s m args below meth c H locs 0 0 QQ (F0 m 0 ls []) from GO _ _ hP hS
  clear hsz hP hS
  intro H locs hP hS
  have J17 : ∀ (s1_j17 : Int32) , wp_X5_floorAnew_17 v_thrown v_of v_colour p1 p2 p3 post s1_j17 → ∀ (H : Heap) (locs : List Loc) (ls : Array Slot), va_P D vwCl (W_X5_floorAnew h a cI cJ cZ v_thrown v_made v_of v_colour v_heart v_width v_sheets v_covered) H → va_D A (W_X5_floorAnew h a cI cJ cZ v_thrown v_made v_of v_colour v_heart v_width v_sheets v_covered) → va_S A s.heap H locs → lv_has ls 4 [(0, .ref h), (1, .int p1), (2, .int p2), (3, .int p3)] → W p l e rm_X5_floorAnew s m args below meth c H locs 0 0 QQ (F0 m 17 ls [.int s1_j17, .ref h]) := by
    intro s1_j17 hw H locs ls hP hD hS hl
    unfold wp_X5_floorAnew_17 at hw
    refine af_i (X := (W_X5_floorAnew h a cI cJ cZ v_thrown v_made v_of v_colour v_heart v_width v_sheets v_covered)) (pl := []) (cx := (W_X5_goesWell h a cI cJ cZ v_thrown v_made v_heart v_width v_sheets v_covered)) (w1 := fun (u : Int32) => (W_X5_goesWell h a cI cJ cZ u v_made v_heart v_width v_sheets v_covered)) (X' := fun (u : Int32) => (W_X5_floorAnew h a cI cJ cZ u v_made v_of v_colour v_heart v_width v_sheets v_covered)) hP hD hS hA [0] [1, 2] [2, 0, 1] rfl rfl (by decide) (by decide) (fun u => rfl) (by decide) (va_runV (As := [.int s1_j17]) (rest := []) ⟨hx, hb, hml, hown, hts⟩ (c_X5_goesWell l D cI cJ cZ cO h a H.size v_thrown v_made v_heart v_width v_sheets v_covered s1_j17 _ hw) (cwV 1 hts gX5_floorAnew_X5_goesWell rfl rfl rfl (by decide +kernel) ⟨Nat.le_of_ble_eq_true rfl, Nat.le_of_ble_eq_true rfl⟩) (preV (X := (W_X5_floorAnew h a cI cJ cZ v_thrown v_made v_of v_colour v_heart v_width v_sheets v_covered)) (pl := []) (cx := (W_X5_goesWell h a cI cJ cZ v_thrown v_made v_heart v_width v_sheets v_covered)) (qb := 0) (ci := 6) hK hE hP hD [0] (by decide) rfl rfl rfl) rfl rfl hl.1 rfl (lv_room (Nat.le_of_ble_eq_true rfl)) dX5_floorAnew_17 ⟨Nat.zero_le _, Nat.zero_le _⟩) (fun r_17 v_thrown_c17 H locs hw hP hD hS => ?_)
    try dsimp only at hw
    have hP : va_P D vwCl (W_X5_floorAnew h a cI cJ cZ v_thrown_c17 v_made v_of v_colour v_heart v_width v_sheets v_covered) H := hP
    have hD : va_D A (W_X5_floorAnew h a cI cJ cZ v_thrown_c17 v_made v_of v_colour v_heart v_width v_sheets v_covered) := hD
    refine lv_if_eq (tgt := 33) hx hb dX5_floorAnew_20 (by decide) (fun c20 => ?_) (fun c20 => ?_)
    · have hw := hw.1 c20
      refine lv_iconst (v := 0) hx hb dX5_floorAnew_33 (by decide) ?_
      exact RT 0 v_thrown_c17 _ _ _ _ dX5_floorAnew_34 hw hP hD hS
    · have hw := hw.2 c20
      refine lv_aload_n hx hb dX5_floorAnew_23 rfl (lv_at hl 0 rfl) ?_
      refine lv_iload_n hx hb dX5_floorAnew_24 rfl (lv_at hl 1 rfl) ?_
      refine lv_iload_n hx hb dX5_floorAnew_25 rfl (lv_at hl 2 rfl) ?_
      refine lv_iload_n hx hb dX5_floorAnew_26 rfl (lv_at hl 3 rfl) ?_
      refine af_i (X := (W_X5_floorAnew h a cI cJ cZ v_thrown_c17 v_made v_of v_colour v_heart v_width v_sheets v_covered)) (pl := []) (cx := (W_X5_shown h a cI cJ cZ v_thrown_c17 v_made v_of v_colour v_heart v_width v_sheets v_covered)) (w1 := fun (u : Unit) => (W_X5_shown h a cI cJ cZ v_thrown_c17 v_made v_of v_colour v_heart v_width v_sheets v_covered)) (X' := fun (u : Unit) => (W_X5_floorAnew h a cI cJ cZ v_thrown_c17 v_made v_of v_colour v_heart v_width v_sheets v_covered)) hP hD hS hA [0, 1, 2] [] [0, 1, 2] rfl rfl (by decide) (by decide) (fun u => rfl) (by decide) (va_runV (As := [.int p1, .int p2, .int p3]) (rest := []) ⟨hx, hb, hml, hown, hts⟩ (c_X5_shown l D cI cJ cZ cO h a H.size v_thrown_c17 v_made v_of v_colour v_heart v_width v_sheets v_covered p1 p2 p3 _ hw) (cwV 3 hts gX5_floorAnew_X5_shown rfl rfl rfl (by decide +kernel) ⟨Nat.le_of_ble_eq_true rfl, Nat.le_of_ble_eq_true rfl⟩) (preV (X := (W_X5_floorAnew h a cI cJ cZ v_thrown_c17 v_made v_of v_colour v_heart v_width v_sheets v_covered)) (pl := []) (cx := (W_X5_shown h a cI cJ cZ v_thrown_c17 v_made v_of v_colour v_heart v_width v_sheets v_covered)) (qb := 0) (ci := 6) hK hE hP hD [0, 1, 2] (by decide) rfl rfl rfl) rfl rfl hl.1 rfl (lv_room (Nat.le_of_ble_eq_true rfl)) dX5_floorAnew_27 ⟨Nat.zero_le _, Nat.zero_le _⟩) (fun r_27 _ H locs hw hP hD hS => ?_)
      try dsimp only at hw
      have hP : va_P D vwCl (W_X5_floorAnew h a cI cJ cZ v_thrown_c17 v_made v_of v_colour v_heart v_width v_sheets v_covered) H := hP
      have hD : va_D A (W_X5_floorAnew h a cI cJ cZ v_thrown_c17 v_made v_of v_colour v_heart v_width v_sheets v_covered) := hD
      refine lv_goto (tgt := 34) hx hb dX5_floorAnew_30 (by decide) ?_
      exact RT r_27 v_thrown_c17 _ _ _ _ dX5_floorAnew_34 hw hP hD hS
  refine lv_aload_n hx hb dX5_floorAnew_0 rfl (lv_at hl 0 rfl) ?_
  refine lv_iload_n hx hb dX5_floorAnew_1 rfl (lv_at hl 3 rfl) ?_
  refine lv_bipush (v := 7) hx hb dX5_floorAnew_2 (by decide) ?_
  refine lv_bipush (v := 17) hx hb dX5_floorAnew_4 (by decide) ?_
  refine af_i (X := (W_X5_floorAnew h a cI cJ cZ v_thrown v_made v_of v_colour v_heart v_width v_sheets v_covered)) (pl := []) (cx := ([] : va_W)) (w1 := fun (u : Unit) => ([] : va_W)) (X' := fun (u : Unit) => (W_X5_floorAnew h a cI cJ cZ v_thrown v_made v_of v_colour v_heart v_width v_sheets v_covered)) hP hD hS hA [] [0, 1, 2] [0, 1, 2] rfl rfl (by decide) (by decide) (fun u => rfl) (by decide) (va_runS (As := [.int p3, .int 7, .int 17]) (rest := [.ref h]) ⟨hx, hb, hml, hown, hts⟩ (c_X5_in l D cI cJ cZ cO H.size p3 7 17 _ hw) (va_cwS 3 hts gX5_floorAnew_X5_in rfl rfl rfl (by decide +kernel) ⟨Nat.le_of_ble_eq_true rfl, Nat.le_of_ble_eq_true rfl⟩) (preS (X := (W_X5_floorAnew h a cI cJ cZ v_thrown v_made v_of v_colour v_heart v_width v_sheets v_covered)) (pl := []) (cx := ([] : va_W)) hK hE hP hD [] (by decide) rfl) rfl rfl hl.1 rfl (lv_room (Nat.le_of_ble_eq_true rfl)) dX5_floorAnew_6 ⟨Nat.zero_le _, Nat.zero_le _⟩) (fun r_6 _ H locs hw hP hD hS => ?_)
  try dsimp only at hw
  have hP : va_P D vwCl (W_X5_floorAnew h a cI cJ cZ v_thrown v_made v_of v_colour v_heart v_width v_sheets v_covered) H := hP
  have hD : va_D A (W_X5_floorAnew h a cI cJ cZ v_thrown v_made v_of v_colour v_heart v_width v_sheets v_covered) := hD
  refine lv_if_eq (tgt := 16) hx hb dX5_floorAnew_9 (by decide) (fun c9 => ?_) (fun c9 => ?_)
  · have hw := hw.1 c9
    refine lv_iconst (v := 1) hx hb dX5_floorAnew_16 (by decide) ?_
    exact J17 1 hw _ _ ls hP hD hS (lv_sub hl [0, 1, 2, 3] rfl)
  · have hw := hw.2 c9
    refine lv_iconst (v := 0) hx hb dX5_floorAnew_12 (by decide) ?_
    refine lv_goto (tgt := 17) hx hb dX5_floorAnew_13 (by decide) ?_
    exact J17 0 hw _ _ ls hP hD hS (lv_sub hl [0, 1, 2, 3] rfl)
abbrev rm_X5_crosses : Room := { frames := 2, cells := 0, slots := 0, locals := 44 }
abbrev W_X5_crosses (h : Nat) (a : Nat → Nat) (cI cJ cZ : ClassId) (v_thrown : Int32) (v_made : Int32) (v_of : Nat → Int32) (v_heart : Int32) (v_width : Int32) (v_isIn : Nat → Int32) (v_sheets : Int32) (v_covered : Int32) : va_W := [(h, .inr (6, [.int v_thrown, .int v_made, .ref (a 2), .ref (a 3), .ref (a 4), .ref (a 5), .ref (a 6), .ref (a 7), .ref (a 8), .ref (a 9), .ref (a 10), .ref (a 11), .int v_heart, .int v_width, .ref (a 14), .ref (a 15), .ref (a 16), .ref (a 17), .ref (a 18), .ref (a 19), .ref (a 20), .ref (a 21), .int v_sheets, .int v_covered])), ((a 2), .inl (cI, 256, .inl v_of)), ((a 18), .inl (cZ, 60, .inl v_isIn))]
def wp_X5_crosses_51 (v_thrown : Int32) (v_made : Int32) (v_of : Nat → Int32) (v_isIn : Nat → Int32) (p1 : Int32) (post : Int32 → Int32 → (Nat → Int32) → Prop) (K51 : Int32 → Int32 → Int32 → (Nat → Int32) → Prop) (x2_j51 : Int32) (x3_j51 : Int32) (v_thrown_j51 : Int32) (v_isIn_j51 : Nat → Int32) : Prop := (16 ≤ x3_j51 → post x2_j51 v_thrown_j51 v_isIn_j51) ∧ (¬ 16 ≤ x3_j51 → wp_X5_at v_of p1 x3_j51 (fun r_60 => wp_X5_at v_of (p1 + 1) x3_j51 (fun r_72 => (r_60 = r_72 → vp_in r_60 60 ∧ (((v_isIn_j51 r_60.toNatClampNeg) = 0 → vp_in r_60 60 ∧ (∀ v_isIn_t95 : Nat → Int32, v_isIn_t95 = upd v_isIn_j51 r_60.toNatClampNeg (vp_nar .boolean 1) → K51 (x2_j51 + 1) (x3_j51 + 1) v_thrown_j51 v_isIn_t95)) ∧ (¬ (v_isIn_j51 r_60.toNatClampNeg) = 0 → K51 x2_j51 (x3_j51 + 1) v_thrown_j51 v_isIn_j51))) ∧ (¬ r_60 = r_72 → K51 x2_j51 (x3_j51 + 1) v_thrown_j51 v_isIn_j51))))
def lF_X5_crosses_51 (v_thrown : Int32) (v_made : Int32) (v_of : Nat → Int32) (v_isIn : Nat → Int32) (p1 : Int32) (post : Int32 → Int32 → (Nat → Int32) → Prop) : ((Int32 × Int32 × Int32 × (Nat → Int32)) → Prop) → (Int32 × Int32 × Int32 × (Nat → Int32)) → Prop := fun K s => wp_X5_crosses_51 v_thrown v_made v_of v_isIn p1 post (fun b0 b1 b2 b3 => K (b0, b1, b2, b3)) s.1 s.2.1 s.2.2.1 s.2.2.2
def wp_X5_crosses_26 (v_thrown : Int32) (v_made : Int32) (v_of : Nat → Int32) (v_isIn : Nat → Int32) (p1 : Int32) (post : Int32 → Int32 → (Nat → Int32) → Prop) (K26 : Int32 → Int32 → (Nat → Int32) → Prop) (x2_j26 : Int32) (v_thrown_j26 : Int32) (v_isIn_j26 : Nat → Int32) : Prop := (v_made ≤ x2_j26 → lp (lF_X5_crosses_51 v_thrown v_made v_of v_isIn p1 post) (0, 0, v_thrown_j26, v_isIn_j26)) ∧ (¬ v_made ≤ x2_j26 → vp_in x2_j26 60 ∧ (∀ v_isIn_t40 : Nat → Int32, v_isIn_t40 = upd v_isIn_j26 x2_j26.toNatClampNeg (vp_nar .boolean 0) → K26 (x2_j26 + 1) v_thrown_j26 v_isIn_t40))
def lF_X5_crosses_26 (v_thrown : Int32) (v_made : Int32) (v_of : Nat → Int32) (v_isIn : Nat → Int32) (p1 : Int32) (post : Int32 → Int32 → (Nat → Int32) → Prop) : ((Int32 × Int32 × (Nat → Int32)) → Prop) → (Int32 × Int32 × (Nat → Int32)) → Prop := fun K s => wp_X5_crosses_26 v_thrown v_made v_of v_isIn p1 post (fun b0 b1 b2 => K (b0, b1, b2)) s.1 s.2.1 s.2.2
def wp_X5_crosses_16 (v_thrown : Int32) (v_made : Int32) (v_of : Nat → Int32) (v_isIn : Nat → Int32) (p1 : Int32) (post : Int32 → Int32 → (Nat → Int32) → Prop) (s1_j16 : Int32) : Prop := wp_X5_goesWell v_thrown s1_j16 (fun r_16 v_thrown_c16 => (r_16 = 0 → post 0 v_thrown_c16 v_isIn) ∧ (¬ r_16 = 0 → lp (lF_X5_crosses_26 v_thrown v_made v_of v_isIn p1 post) (0, v_thrown_c16, v_isIn)))
def wp_X5_crosses (v_thrown : Int32) (v_made : Int32) (v_of : Nat → Int32) (v_isIn : Nat → Int32) (p1 : Int32) (post : Int32 → Int32 → (Nat → Int32) → Prop) : Prop := wp_X5_in p1 0 14 (fun r_5 => (r_5 = 0 → wp_X5_crosses_16 v_thrown v_made v_of v_isIn p1 post 1) ∧ (¬ r_5 = 0 → wp_X5_crosses_16 v_thrown v_made v_of v_isIn p1 post 0))
set_option maxHeartbeats 4000000 in
set_option maxRecDepth 100000 in
theorem c_X5_crosses (l : Launch) (D : va_G) (cI cJ cZ cO : ClassId) (h : Nat) (a : Nat → Nat) (sz : Nat) (v_thrown : Int32) (v_made : Int32) (v_of : Nat → Int32) (v_heart : Int32) (v_width : Int32) (v_isIn : Nat → Int32) (v_sheets : Int32) (v_covered : Int32) (p1 : Int32) (post : Int32 → Int32 → (Nat → Int32) → Prop) (hw : wp_X5_crosses v_thrown v_made v_of v_isIn p1 post) : Met l yX5_crosses wsX5_crosses rm_X5_crosses (va_Pc [.ref h, .int p1] (PRE D cI cJ cZ cO (W_X5_crosses h a cI cJ cZ v_thrown v_made v_of v_heart v_width v_isIn v_sheets v_covered) sz)) (va_Qi (fun r (u : Int32 × (Nat → Int32)) => post r u.1 u.2) (fun u t => POST D (va_A (W_X5_crosses h a cI cJ cZ v_thrown v_made v_of v_heart v_width v_isIn v_sheets v_covered) sz) (W_X5_crosses h a cI cJ cZ u.1 v_made v_of v_heart v_width u.2 v_sheets v_covered) t) (va_A (W_X5_crosses h a cI cJ cZ v_thrown v_made v_of v_heart v_width v_isIn v_sheets v_covered) sz)) 0 0 (va_A (W_X5_crosses h a cI cJ cZ v_thrown v_made v_of v_heart v_width v_isIn v_sheets v_covered) sz) := by
  refine met_go (cc := cX5_crosses) (maxL := 5) (ret := some .int) RX5 rfl (by decide) rfl (Nat.le_of_ble_eq_true rfl) ?_
  intro p e s m args below meth c ls hx hb hr hts hown hlocks hin hml hsz hP hK hE hD hA hS hl
  have iRX5 : ∀ w ∈ u_ws RX5 TX5 24, w ∈ wsX5_crosses := mem_seg 17 24 rfl
  generalize va_A (W_X5_crosses h a cI cJ cZ v_thrown v_made v_of v_heart v_width v_isIn v_sheets v_covered) sz = A at hD hA hS ⊢
  have RT : ∀ (v : Int32) (u : Int32 × (Nat → Int32)) (H : Heap) (locs : List Loc) (pc : Nat) (ls : Array Slot), decode cX5_crosses pc = .ok (.ireturn, 1) → post v u.1 u.2 → va_P D vwCl (W_X5_crosses h a cI cJ cZ u.1 v_made v_of v_heart v_width u.2 v_sheets v_covered) H → va_D A (W_X5_crosses h a cI cJ cZ u.1 v_made v_of v_heart v_width u.2 v_sheets v_covered) → va_S A s.heap H locs → W p l e rm_X5_crosses s m args below meth c H locs 0 0 (MQ below (va_Qi (fun r (u : Int32 × (Nat → Int32)) => post r u.1 u.2) (fun u t => POST D A (W_X5_crosses h a cI cJ cZ u.1 v_made v_of v_heart v_width u.2 v_sheets v_covered) t) A) args s 0 0 A) (F0 m pc ls [.int v]) := fun v u H locs pc ls d g1 g2 g3 g4 => rt_i (Wf := fun u => (W_X5_crosses h a cI cJ cZ u.1 v_made v_of v_heart v_width u.2 v_sheets v_covered)) u hx hb hr hlocks g1 g2 g3 g4 d
  generalize (MQ below (va_Qi (fun r (u : Int32 × (Nat → Int32)) => post r u.1 u.2) (fun u t => POST D A (W_X5_crosses h a cI cJ cZ u.1 v_made v_of v_heart v_width u.2 v_sheets v_covered) t) A) args s 0 0 A) = QQ at RT ⊢
  have hl : lv_has ls 5 [(0, .ref h), (1, .int p1)] := hl
  have hP : va_P D vwCl (W_X5_crosses h a cI cJ cZ v_thrown v_made v_of v_heart v_width v_isIn v_sheets v_covered) s.heap := hP
  unfold wp_X5_crosses at hw
  suffices GO : ∀ (H : Heap) (locs : List Loc), va_P D vwCl (W_X5_crosses h a cI cJ cZ v_thrown v_made v_of v_heart v_width v_isIn v_sheets v_covered) H → va_S A s.heap H locs → W p l e rm_X5_crosses s m args below meth c H locs 0 0 QQ (F0 m 0 ls []) from GO _ _ hP hS
  clear hsz hP hS
  intro H locs hP hS
  have L51 : ∀ s0 : (Int32 × Int32 × Int32 × (Nat → Int32)), lp (lF_X5_crosses_51 v_thrown v_made v_of v_isIn p1 post) s0 → ∀ (H : Heap) (locs : List Loc) (ls : Array Slot), va_P D vwCl (W_X5_crosses h a cI cJ cZ s0.2.2.1 v_made v_of v_heart v_width s0.2.2.2 v_sheets v_covered) H → va_D A (W_X5_crosses h a cI cJ cZ s0.2.2.1 v_made v_of v_heart v_width s0.2.2.2 v_sheets v_covered) → va_S A s.heap H locs → lv_has ls 5 [(0, .ref h), (1, .int p1), (2, .int s0.1), (3, .int s0.2.1)] → W p l e rm_X5_crosses s m args below meth c H locs 0 0 QQ (F0 m 51 ls []) := by
    refine lp_elim (fun K51 ih51 s0 hw => ?_)
    obtain ⟨x2_j51, x3_j51, v_thrown_j51, v_isIn_j51⟩ := s0
    intro H locs ls hP hD hS hl
    have hw : wp_X5_crosses_51 v_thrown v_made v_of v_isIn p1 post (fun b0 b1 b2 b3 => K51 (b0, b1, b2, b3)) x2_j51 x3_j51 v_thrown_j51 v_isIn_j51 := hw
    have hP : va_P D vwCl (W_X5_crosses h a cI cJ cZ v_thrown_j51 v_made v_of v_heart v_width v_isIn_j51 v_sheets v_covered) H := hP
    have hD : va_D A (W_X5_crosses h a cI cJ cZ v_thrown_j51 v_made v_of v_heart v_width v_isIn_j51 v_sheets v_covered) := hD
    have hl : lv_has ls 5 [(0, .ref h), (1, .int p1), (2, .int x2_j51), (3, .int x3_j51)] := hl
    unfold wp_X5_crosses_51 at hw
    refine lv_iload_n hx hb dX5_crosses_51 rfl (lv_at hl 3 rfl) ?_
    refine lv_bipush (v := 16) hx hb dX5_crosses_52 (by decide) ?_
    refine lv_icmp_ge (tgt := 105) hx hb dX5_crosses_54 (by decide) (fun c54 => ?_) (fun c54 => ?_)
    · have hw := hw.1 c54
      refine lv_iload_n hx hb dX5_crosses_105 rfl (lv_at hl 2 rfl) ?_
      exact RT x2_j51 (v_thrown_j51, v_isIn_j51) _ _ _ _ dX5_crosses_106 hw hP hD hS
    · have hw := hw.2 c54
      refine lv_aload_n hx hb dX5_crosses_57 rfl (lv_at hl 0 rfl) ?_
      refine lv_iload_n hx hb dX5_crosses_58 rfl (lv_at hl 1 rfl) ?_
      refine lv_iload_n hx hb dX5_crosses_59 rfl (lv_at hl 3 rfl) ?_
      refine af_i (X := (W_X5_crosses h a cI cJ cZ v_thrown_j51 v_made v_of v_heart v_width v_isIn_j51 v_sheets v_covered)) (pl := []) (cx := (W_X5_at h a cI cJ cZ v_thrown_j51 v_made v_of v_heart v_width v_sheets v_covered)) (w1 := fun (u : Unit) => (W_X5_at h a cI cJ cZ v_thrown_j51 v_made v_of v_heart v_width v_sheets v_covered)) (X' := fun (u : Unit) => (W_X5_crosses h a cI cJ cZ v_thrown_j51 v_made v_of v_heart v_width v_isIn_j51 v_sheets v_covered)) hP hD hS hA [0, 1] [2] [1, 2, 0] rfl rfl (by decide) (by decide) (fun u => rfl) (by decide) (va_runV (As := [.int p1, .int x3_j51]) (rest := []) ⟨hx, hb, hml, hown, hts⟩ (c_X5_at l D cI cJ cZ cO h a H.size v_thrown_j51 v_made v_of v_heart v_width v_sheets v_covered p1 x3_j51 _ hw) (cwV 2 hts gX5_crosses_X5_at rfl rfl rfl (by decide +kernel) ⟨Nat.le_of_ble_eq_true rfl, Nat.le_of_ble_eq_true rfl⟩) (preV (X := (W_X5_crosses h a cI cJ cZ v_thrown_j51 v_made v_of v_heart v_width v_isIn_j51 v_sheets v_covered)) (pl := []) (cx := (W_X5_at h a cI cJ cZ v_thrown_j51 v_made v_of v_heart v_width v_sheets v_covered)) (qb := 0) (ci := 6) hK hE hP hD [0, 1] (by decide) rfl rfl rfl) rfl rfl hl.1 rfl (lv_room (Nat.le_of_ble_eq_true rfl)) dX5_crosses_60 ⟨Nat.zero_le _, Nat.zero_le _⟩) (fun r_60 _ H locs hw hP hD hS => ?_)
      try dsimp only at hw
      have hP : va_P D vwCl (W_X5_crosses h a cI cJ cZ v_thrown_j51 v_made v_of v_heart v_width v_isIn_j51 v_sheets v_covered) H := hP
      have hD : va_D A (W_X5_crosses h a cI cJ cZ v_thrown_j51 v_made v_of v_heart v_width v_isIn_j51 v_sheets v_covered) := hD
      refine lv_istore (lv' := [(4, .int r_60), (0, .ref h), (1, .int p1), (2, .int x2_j51), (3, .int x3_j51)]) hx hb dX5_crosses_63 hl (by decide) rfl (fun ls hl => ?_)
      refine lv_iload hx hb dX5_crosses_65 (lv_at hl 0 rfl) ?_
      refine lv_aload_n hx hb dX5_crosses_67 rfl (lv_at hl 1 rfl) ?_
      refine lv_iload_n hx hb dX5_crosses_68 rfl (lv_at hl 2 rfl) ?_
      refine lv_iconst (v := 1) hx hb dX5_crosses_69 (by decide) ?_
      refine lv_iadd hx hb dX5_crosses_70 ?_
      refine lv_iload_n hx hb dX5_crosses_71 rfl (lv_at hl 4 rfl) ?_
      refine af_i (X := (W_X5_crosses h a cI cJ cZ v_thrown_j51 v_made v_of v_heart v_width v_isIn_j51 v_sheets v_covered)) (pl := []) (cx := (W_X5_at h a cI cJ cZ v_thrown_j51 v_made v_of v_heart v_width v_sheets v_covered)) (w1 := fun (u : Unit) => (W_X5_at h a cI cJ cZ v_thrown_j51 v_made v_of v_heart v_width v_sheets v_covered)) (X' := fun (u : Unit) => (W_X5_crosses h a cI cJ cZ v_thrown_j51 v_made v_of v_heart v_width v_isIn_j51 v_sheets v_covered)) hP hD hS hA [0, 1] [2] [1, 2, 0] rfl rfl (by decide) (by decide) (fun u => rfl) (by decide) (va_runV (As := [.int (p1 + 1), .int x3_j51]) (rest := [.int r_60]) ⟨hx, hb, hml, hown, hts⟩ (c_X5_at l D cI cJ cZ cO h a H.size v_thrown_j51 v_made v_of v_heart v_width v_sheets v_covered (p1 + 1) x3_j51 _ hw) (cwV 2 hts gX5_crosses_X5_at rfl rfl rfl (by decide +kernel) ⟨Nat.le_of_ble_eq_true rfl, Nat.le_of_ble_eq_true rfl⟩) (preV (X := (W_X5_crosses h a cI cJ cZ v_thrown_j51 v_made v_of v_heart v_width v_isIn_j51 v_sheets v_covered)) (pl := []) (cx := (W_X5_at h a cI cJ cZ v_thrown_j51 v_made v_of v_heart v_width v_sheets v_covered)) (qb := 0) (ci := 6) hK hE hP hD [0, 1] (by decide) rfl rfl rfl) rfl rfl hl.1 rfl (lv_room (Nat.le_of_ble_eq_true rfl)) dX5_crosses_72 ⟨Nat.zero_le _, Nat.zero_le _⟩) (fun r_72 _ H locs hw hP hD hS => ?_)
      try dsimp only at hw
      have hP : va_P D vwCl (W_X5_crosses h a cI cJ cZ v_thrown_j51 v_made v_of v_heart v_width v_isIn_j51 v_sheets v_covered) H := hP
      have hD : va_D A (W_X5_crosses h a cI cJ cZ v_thrown_j51 v_made v_of v_heart v_width v_isIn_j51 v_sheets v_covered) := hD
      refine lv_icmp_ne (tgt := 99) hx hb dX5_crosses_75 (by decide) (fun c75 => ?_) (fun c75 => ?_)
      · have hw := hw.2 c75
        refine lv_iinc (v := (x3_j51 + 1)) (lv' := [(3, .int (x3_j51 + 1)), (4, .int r_60), (0, .ref h), (1, .int p1), (2, .int x2_j51)]) hx hb dX5_crosses_99 hl (k := 4) rfl rfl (by decide) rfl (fun ls hl => ?_)
        refine lv_goto (tgt := 51) hx hb dX5_crosses_102 (by decide) ?_
        exact ih51 (x2_j51, (x3_j51 + 1), v_thrown_j51, v_isIn_j51) hw _ _ ls hP hD hS (lv_sub hl [2, 3, 4, 0] rfl)
      · have hw := hw.1 c75
        refine lv_aload_n hx hb dX5_crosses_78 rfl (lv_at hl 1 rfl) ?_
        refine va_get (D := D) (ci := 6) (v := .ref (a 18)) (C := RX5) (T := TX5) (N := 24) hx hb hts iRX5 hown hK hP 0 rfl rfl 18 (by decide) (hts (.fieldLink RX5 63 "LeadlightModel" "isIn" "[Z") (List.mem_of_getElem? (i := 2) rfl)) (fun _ h9 => h9) rfl dX5_crosses_79 ?_
        refine lv_iload hx hb dX5_crosses_82 (lv_at hl 0 rfl) ?_
        obtain ⟨hi_84, hw⟩ := hw
        refine va_zald hx hb hK hP 2 2 rfl rfl hi_84 dX5_crosses_84 ?_
        refine lv_if_ne (tgt := 99) hx hb dX5_crosses_85 (by decide) (fun c85 => ?_) (fun c85 => ?_)
        · have hw := hw.2 c85
          refine lv_iinc (v := (x3_j51 + 1)) (lv' := [(3, .int (x3_j51 + 1)), (4, .int r_60), (0, .ref h), (1, .int p1), (2, .int x2_j51)]) hx hb dX5_crosses_99 hl (k := 4) rfl rfl (by decide) rfl (fun ls hl => ?_)
          refine lv_goto (tgt := 51) hx hb dX5_crosses_102 (by decide) ?_
          exact ih51 (x2_j51, (x3_j51 + 1), v_thrown_j51, v_isIn_j51) hw _ _ ls hP hD hS (lv_sub hl [2, 3, 4, 0] rfl)
        · have hw := hw.1 c85
          refine lv_aload_n hx hb dX5_crosses_88 rfl (lv_at hl 1 rfl) ?_
          refine va_get (D := D) (ci := 6) (v := .ref (a 18)) (C := RX5) (T := TX5) (N := 24) hx hb hts iRX5 hown hK hP 0 rfl rfl 18 (by decide) (hts (.fieldLink RX5 63 "LeadlightModel" "isIn" "[Z") (List.mem_of_getElem? (i := 2) rfl)) (fun _ h9 => h9) rfl dX5_crosses_89 ?_
          refine lv_iload hx hb dX5_crosses_92 (lv_at hl 0 rfl) ?_
          refine lv_iconst (v := 1) hx hb dX5_crosses_94 (by decide) ?_
          obtain ⟨hi_95, hw⟩ := hw
          refine st_z hx hb hK hP hD hS 2 2 rfl rfl hi_95 dX5_crosses_95 (fun v_isIn_t95 ev_isIn_t95 H locs hP hD hS => ?_)
          have hw := hw v_isIn_t95 ev_isIn_t95
          have hP : va_P D vwCl (W_X5_crosses h a cI cJ cZ v_thrown_j51 v_made v_of v_heart v_width v_isIn_t95 v_sheets v_covered) H := hP
          have hD : va_D A (W_X5_crosses h a cI cJ cZ v_thrown_j51 v_made v_of v_heart v_width v_isIn_t95 v_sheets v_covered) := hD
          refine lv_iinc (v := (x2_j51 + 1)) (lv' := [(2, .int (x2_j51 + 1)), (4, .int r_60), (0, .ref h), (1, .int p1), (3, .int x3_j51)]) hx hb dX5_crosses_96 hl (k := 3) rfl rfl (by decide) rfl (fun ls hl => ?_)
          refine lv_iinc (v := (x3_j51 + 1)) (lv' := [(3, .int (x3_j51 + 1)), (2, .int (x2_j51 + 1)), (4, .int r_60), (0, .ref h), (1, .int p1)]) hx hb dX5_crosses_99 hl (k := 4) rfl rfl (by decide) rfl (fun ls hl => ?_)
          refine lv_goto (tgt := 51) hx hb dX5_crosses_102 (by decide) ?_
          exact ih51 ((x2_j51 + 1), (x3_j51 + 1), v_thrown_j51, v_isIn_t95) hw _ _ ls hP hD hS (lv_sub hl [3, 4, 1, 0] rfl)
  have L26 : ∀ s0 : (Int32 × Int32 × (Nat → Int32)), lp (lF_X5_crosses_26 v_thrown v_made v_of v_isIn p1 post) s0 → ∀ (H : Heap) (locs : List Loc) (ls : Array Slot), va_P D vwCl (W_X5_crosses h a cI cJ cZ s0.2.1 v_made v_of v_heart v_width s0.2.2 v_sheets v_covered) H → va_D A (W_X5_crosses h a cI cJ cZ s0.2.1 v_made v_of v_heart v_width s0.2.2 v_sheets v_covered) → va_S A s.heap H locs → lv_has ls 5 [(0, .ref h), (1, .int p1), (2, .int s0.1)] → W p l e rm_X5_crosses s m args below meth c H locs 0 0 QQ (F0 m 26 ls []) := by
    refine lp_elim (fun K26 ih26 s0 hw => ?_)
    obtain ⟨x2_j26, v_thrown_j26, v_isIn_j26⟩ := s0
    intro H locs ls hP hD hS hl
    have hw : wp_X5_crosses_26 v_thrown v_made v_of v_isIn p1 post (fun b0 b1 b2 => K26 (b0, b1, b2)) x2_j26 v_thrown_j26 v_isIn_j26 := hw
    have hP : va_P D vwCl (W_X5_crosses h a cI cJ cZ v_thrown_j26 v_made v_of v_heart v_width v_isIn_j26 v_sheets v_covered) H := hP
    have hD : va_D A (W_X5_crosses h a cI cJ cZ v_thrown_j26 v_made v_of v_heart v_width v_isIn_j26 v_sheets v_covered) := hD
    have hl : lv_has ls 5 [(0, .ref h), (1, .int p1), (2, .int x2_j26)] := hl
    unfold wp_X5_crosses_26 at hw
    refine lv_iload_n hx hb dX5_crosses_26 rfl (lv_at hl 2 rfl) ?_
    refine lv_aload_n hx hb dX5_crosses_27 rfl (lv_at hl 0 rfl) ?_
    refine va_get (D := D) (ci := 6) (v := .int v_made) (C := RX5) (T := TX5) (N := 24) hx hb hts iRX5 hown hK hP 0 rfl rfl 1 (by decide) (hts (.fieldLink RX5 7 "LeadlightModel" "made" "I") (List.mem_of_getElem? (i := 1) rfl)) (fun _ h9 => h9) rfl dX5_crosses_28 ?_
    refine lv_icmp_ge (tgt := 47) hx hb dX5_crosses_31 (by decide) (fun c31 => ?_) (fun c31 => ?_)
    · have hw := hw.1 c31
      refine lv_iconst (v := 0) hx hb dX5_crosses_47 (by decide) ?_
      refine lv_istore_n (lv' := [(2, .int 0), (0, .ref h), (1, .int p1)]) hx hb dX5_crosses_48 rfl hl (by decide) rfl (fun ls hl => ?_)
      refine lv_iconst (v := 0) hx hb dX5_crosses_49 (by decide) ?_
      refine lv_istore_n (lv' := [(3, .int 0), (2, .int 0), (0, .ref h), (1, .int p1)]) hx hb dX5_crosses_50 rfl hl (by decide) rfl (fun ls hl => ?_)
      exact L51 (0, 0, v_thrown_j26, v_isIn_j26) hw _ _ ls hP hD hS (lv_sub hl [2, 3, 1, 0] rfl)
    · have hw := hw.2 c31
      refine lv_aload_n hx hb dX5_crosses_34 rfl (lv_at hl 0 rfl) ?_
      refine va_get (D := D) (ci := 6) (v := .ref (a 18)) (C := RX5) (T := TX5) (N := 24) hx hb hts iRX5 hown hK hP 0 rfl rfl 18 (by decide) (hts (.fieldLink RX5 63 "LeadlightModel" "isIn" "[Z") (List.mem_of_getElem? (i := 2) rfl)) (fun _ h9 => h9) rfl dX5_crosses_35 ?_
      refine lv_iload_n hx hb dX5_crosses_38 rfl (lv_at hl 2 rfl) ?_
      refine lv_iconst (v := 0) hx hb dX5_crosses_39 (by decide) ?_
      obtain ⟨hi_40, hw⟩ := hw
      refine st_z hx hb hK hP hD hS 2 2 rfl rfl hi_40 dX5_crosses_40 (fun v_isIn_t40 ev_isIn_t40 H locs hP hD hS => ?_)
      have hw := hw v_isIn_t40 ev_isIn_t40
      have hP : va_P D vwCl (W_X5_crosses h a cI cJ cZ v_thrown_j26 v_made v_of v_heart v_width v_isIn_t40 v_sheets v_covered) H := hP
      have hD : va_D A (W_X5_crosses h a cI cJ cZ v_thrown_j26 v_made v_of v_heart v_width v_isIn_t40 v_sheets v_covered) := hD
      refine lv_iinc (v := (x2_j26 + 1)) (lv' := [(2, .int (x2_j26 + 1)), (0, .ref h), (1, .int p1)]) hx hb dX5_crosses_41 hl (k := 2) rfl rfl (by decide) rfl (fun ls hl => ?_)
      refine lv_goto (tgt := 26) hx hb dX5_crosses_44 (by decide) ?_
      exact ih26 ((x2_j26 + 1), v_thrown_j26, v_isIn_t40) hw _ _ ls hP hD hS (lv_sub hl [1, 2, 0] rfl)
  have J16 : ∀ (s1_j16 : Int32) , wp_X5_crosses_16 v_thrown v_made v_of v_isIn p1 post s1_j16 → ∀ (H : Heap) (locs : List Loc) (ls : Array Slot), va_P D vwCl (W_X5_crosses h a cI cJ cZ v_thrown v_made v_of v_heart v_width v_isIn v_sheets v_covered) H → va_D A (W_X5_crosses h a cI cJ cZ v_thrown v_made v_of v_heart v_width v_isIn v_sheets v_covered) → va_S A s.heap H locs → lv_has ls 5 [(0, .ref h), (1, .int p1)] → W p l e rm_X5_crosses s m args below meth c H locs 0 0 QQ (F0 m 16 ls [.int s1_j16, .ref h]) := by
    intro s1_j16 hw H locs ls hP hD hS hl
    unfold wp_X5_crosses_16 at hw
    refine af_i (X := (W_X5_crosses h a cI cJ cZ v_thrown v_made v_of v_heart v_width v_isIn v_sheets v_covered)) (pl := []) (cx := (W_X5_goesWell h a cI cJ cZ v_thrown v_made v_heart v_width v_sheets v_covered)) (w1 := fun (u : Int32) => (W_X5_goesWell h a cI cJ cZ u v_made v_heart v_width v_sheets v_covered)) (X' := fun (u : Int32) => (W_X5_crosses h a cI cJ cZ u v_made v_of v_heart v_width v_isIn v_sheets v_covered)) hP hD hS hA [0] [1, 2] [2, 0, 1] rfl rfl (by decide) (by decide) (fun u => rfl) (by decide) (va_runV (As := [.int s1_j16]) (rest := []) ⟨hx, hb, hml, hown, hts⟩ (c_X5_goesWell l D cI cJ cZ cO h a H.size v_thrown v_made v_heart v_width v_sheets v_covered s1_j16 _ hw) (cwV 1 hts gX5_crosses_X5_goesWell rfl rfl rfl (by decide +kernel) ⟨Nat.le_of_ble_eq_true rfl, Nat.le_of_ble_eq_true rfl⟩) (preV (X := (W_X5_crosses h a cI cJ cZ v_thrown v_made v_of v_heart v_width v_isIn v_sheets v_covered)) (pl := []) (cx := (W_X5_goesWell h a cI cJ cZ v_thrown v_made v_heart v_width v_sheets v_covered)) (qb := 0) (ci := 6) hK hE hP hD [0] (by decide) rfl rfl rfl) rfl rfl hl.1 rfl (lv_room (Nat.le_of_ble_eq_true rfl)) dX5_crosses_16 ⟨Nat.zero_le _, Nat.zero_le _⟩) (fun r_16 v_thrown_c16 H locs hw hP hD hS => ?_)
    try dsimp only at hw
    have hP : va_P D vwCl (W_X5_crosses h a cI cJ cZ v_thrown_c16 v_made v_of v_heart v_width v_isIn v_sheets v_covered) H := hP
    have hD : va_D A (W_X5_crosses h a cI cJ cZ v_thrown_c16 v_made v_of v_heart v_width v_isIn v_sheets v_covered) := hD
    refine lv_if_ne (tgt := 24) hx hb dX5_crosses_19 (by decide) (fun c19 => ?_) (fun c19 => ?_)
    · have hw := hw.2 c19
      refine lv_iconst (v := 0) hx hb dX5_crosses_24 (by decide) ?_
      refine lv_istore_n (lv' := [(2, .int 0), (0, .ref h), (1, .int p1)]) hx hb dX5_crosses_25 rfl hl (by decide) rfl (fun ls hl => ?_)
      exact L26 (0, v_thrown_c16, v_isIn) hw _ _ ls hP hD hS (lv_sub hl [1, 2, 0] rfl)
    · have hw := hw.1 c19
      refine lv_iconst (v := 0) hx hb dX5_crosses_22 (by decide) ?_
      exact RT 0 (v_thrown_c16, v_isIn) _ _ _ _ dX5_crosses_23 hw hP hD hS
  refine lv_aload_n hx hb dX5_crosses_0 rfl (lv_at hl 0 rfl) ?_
  refine lv_iload_n hx hb dX5_crosses_1 rfl (lv_at hl 1 rfl) ?_
  refine lv_iconst (v := 0) hx hb dX5_crosses_2 (by decide) ?_
  refine lv_bipush (v := 14) hx hb dX5_crosses_3 (by decide) ?_
  refine af_i (X := (W_X5_crosses h a cI cJ cZ v_thrown v_made v_of v_heart v_width v_isIn v_sheets v_covered)) (pl := []) (cx := ([] : va_W)) (w1 := fun (u : Unit) => ([] : va_W)) (X' := fun (u : Unit) => (W_X5_crosses h a cI cJ cZ v_thrown v_made v_of v_heart v_width v_isIn v_sheets v_covered)) hP hD hS hA [] [0, 1, 2] [0, 1, 2] rfl rfl (by decide) (by decide) (fun u => rfl) (by decide) (va_runS (As := [.int p1, .int 0, .int 14]) (rest := [.ref h]) ⟨hx, hb, hml, hown, hts⟩ (c_X5_in l D cI cJ cZ cO H.size p1 0 14 _ hw) (va_cwS 3 hts gX5_crosses_X5_in rfl rfl rfl (by decide +kernel) ⟨Nat.le_of_ble_eq_true rfl, Nat.le_of_ble_eq_true rfl⟩) (preS (X := (W_X5_crosses h a cI cJ cZ v_thrown v_made v_of v_heart v_width v_isIn v_sheets v_covered)) (pl := []) (cx := ([] : va_W)) hK hE hP hD [] (by decide) rfl) rfl rfl hl.1 rfl (lv_room (Nat.le_of_ble_eq_true rfl)) dX5_crosses_5 ⟨Nat.zero_le _, Nat.zero_le _⟩) (fun r_5 _ H locs hw hP hD hS => ?_)
  try dsimp only at hw
  have hP : va_P D vwCl (W_X5_crosses h a cI cJ cZ v_thrown v_made v_of v_heart v_width v_isIn v_sheets v_covered) H := hP
  have hD : va_D A (W_X5_crosses h a cI cJ cZ v_thrown v_made v_of v_heart v_width v_isIn v_sheets v_covered) := hD
  refine lv_if_eq (tgt := 15) hx hb dX5_crosses_8 (by decide) (fun c8 => ?_) (fun c8 => ?_)
  · have hw := hw.1 c8
    refine lv_iconst (v := 1) hx hb dX5_crosses_15 (by decide) ?_
    exact J16 1 hw _ _ ls hP hD hS (lv_sub hl [0, 1] rfl)
  · have hw := hw.2 c8
    refine lv_iconst (v := 0) hx hb dX5_crosses_11 (by decide) ?_
    refine lv_goto (tgt := 16) hx hb dX5_crosses_12 (by decide) ?_
    exact J16 0 hw _ _ ls hP hD hS (lv_sub hl [0, 1] rfl)
abbrev rm_X5_bends : Room := { frames := 1, cells := 0, slots := 0, locals := 22 }
abbrev W_X5_bends (h : Nat) (a : Nat → Nat) (cI cJ cZ : ClassId) (v_thrown : Int32) (v_made : Int32) (v_heart : Int32) (v_width : Int32) (v_hasBar : Nat → Int32) (v_sheets : Int32) (v_covered : Int32) : va_W := [(h, .inr (6, [.int v_thrown, .int v_made, .ref (a 2), .ref (a 3), .ref (a 4), .ref (a 5), .ref (a 6), .ref (a 7), .ref (a 8), .ref (a 9), .ref (a 10), .ref (a 11), .int v_heart, .int v_width, .ref (a 14), .ref (a 15), .ref (a 16), .ref (a 17), .ref (a 18), .ref (a 19), .ref (a 20), .ref (a 21), .int v_sheets, .int v_covered])), ((a 14), .inl (cZ, 15, .inl v_hasBar))]
def wp_X5_bends_98 (v_thrown : Int32) (v_hasBar : Nat → Int32) (p1 : Int32) (p2 : Int32) (post : Int32 → Int32 → Prop) (K51 : Int32 → Int32 → Int32 → Int32 → Prop) (s0_j98 : Int32) (s1_j98 : Int32) (x5_j98 : Int32) (x6_j98 : Int32) (v_thrown_j98 : Int32) : Prop := K51 (s0_j98 + s1_j98) x5_j98 (x6_j98 + 1) v_thrown_j98
def wp_X5_bends_71 (v_thrown : Int32) (v_hasBar : Nat → Int32) (p1 : Int32) (p2 : Int32) (post : Int32 → Int32 → Prop) (K51 : Int32 → Int32 → Int32 → Int32 → Prop) (s0_j71 : Int32) (s1_j71 : Int32) (x4_j71 : Int32) (x6_j71 : Int32) (v_thrown_j71 : Int32) : Prop := (15 ≤ x6_j71 → wp_X5_bends_98 v_thrown v_hasBar p1 p2 post K51 x4_j71 0 (s0_j71 + s1_j71) x6_j71 v_thrown_j71) ∧ (¬ 15 ≤ x6_j71 → vp_in x6_j71 15 ∧ (((v_hasBar x6_j71.toNatClampNeg) = 0 → wp_X5_bends_98 v_thrown v_hasBar p1 p2 post K51 x4_j71 0 (s0_j71 + s1_j71) x6_j71 v_thrown_j71) ∧ (¬ (v_hasBar x6_j71.toNatClampNeg) = 0 → wp_X5_bends_98 v_thrown v_hasBar p1 p2 post K51 x4_j71 1 (s0_j71 + s1_j71) x6_j71 v_thrown_j71)))
def wp_X5_bends_51 (v_thrown : Int32) (v_hasBar : Nat → Int32) (p1 : Int32) (p2 : Int32) (post : Int32 → Int32 → Prop) (K51 : Int32 → Int32 → Int32 → Int32 → Prop) (x4_j51 : Int32) (x5_j51 : Int32) (x6_j51 : Int32) (v_thrown_j51 : Int32) : Prop := (16 ≤ x6_j51 → post ((((p2 * x5_j51) * x5_j51) * x5_j51) / 64) v_thrown_j51) ∧ (¬ 16 ≤ x6_j51 → (x4_j51 = p1 → wp_X5_bends_71 v_thrown v_hasBar p1 p2 post K51 x5_j51 1 x4_j51 x6_j51 v_thrown_j51) ∧ (¬ x4_j51 = p1 → wp_X5_bends_71 v_thrown v_hasBar p1 p2 post K51 x5_j51 0 x4_j51 x6_j51 v_thrown_j51))
def lF_X5_bends_51 (v_thrown : Int32) (v_hasBar : Nat → Int32) (p1 : Int32) (p2 : Int32) (post : Int32 → Int32 → Prop) : ((Int32 × Int32 × Int32 × Int32) → Prop) → (Int32 × Int32 × Int32 × Int32) → Prop := fun K s => wp_X5_bends_51 v_thrown v_hasBar p1 p2 post (fun b0 b1 b2 b3 => K (b0, b1, b2, b3)) s.1 s.2.1 s.2.2.1 s.2.2.2
def wp_X5_bends_34 (v_thrown : Int32) (v_hasBar : Nat → Int32) (p1 : Int32) (p2 : Int32) (post : Int32 → Int32 → Prop) (s1_j34 : Int32) : Prop := wp_X5_goesWell v_thrown s1_j34 (fun r_34 v_thrown_c34 => (r_34 = 0 → post 0 v_thrown_c34) ∧ (¬ r_34 = 0 → lp (lF_X5_bends_51 v_thrown v_hasBar p1 p2 post) (0, 0, 0, v_thrown_c34)))
def wp_X5_bends (v_thrown : Int32) (v_hasBar : Nat → Int32) (p1 : Int32) (p2 : Int32) (post : Int32 → Int32 → Prop) : Prop := wp_X5_bars v_hasBar (fun r_3 => wp_X5_in p1 0 r_3 (fun r_6 => (r_6 = 0 → wp_X5_bends_34 v_thrown v_hasBar p1 p2 post 1) ∧ (¬ r_6 = 0 → wp_X5_in p2 0 9 (fun r_23 => (r_23 = 0 → wp_X5_bends_34 v_thrown v_hasBar p1 p2 post 2) ∧ (¬ r_23 = 0 → wp_X5_bends_34 v_thrown v_hasBar p1 p2 post 0)))))
set_option maxHeartbeats 4000000 in
set_option maxRecDepth 100000 in
theorem c_X5_bends (l : Launch) (D : va_G) (cI cJ cZ cO : ClassId) (h : Nat) (a : Nat → Nat) (sz : Nat) (v_thrown : Int32) (v_made : Int32) (v_heart : Int32) (v_width : Int32) (v_hasBar : Nat → Int32) (v_sheets : Int32) (v_covered : Int32) (p1 : Int32) (p2 : Int32) (post : Int32 → Int32 → Prop) (hw : wp_X5_bends v_thrown v_hasBar p1 p2 post) : Met l yX5_bends wsX5_bends rm_X5_bends (va_Pc [.ref h, .int p1, .int p2] (PRE D cI cJ cZ cO (W_X5_bends h a cI cJ cZ v_thrown v_made v_heart v_width v_hasBar v_sheets v_covered) sz)) (va_Qi (fun r (u : Int32) => post r u) (fun u t => POST D (va_A (W_X5_bends h a cI cJ cZ v_thrown v_made v_heart v_width v_hasBar v_sheets v_covered) sz) (W_X5_bends h a cI cJ cZ u v_made v_heart v_width v_hasBar v_sheets v_covered) t) (va_A (W_X5_bends h a cI cJ cZ v_thrown v_made v_heart v_width v_hasBar v_sheets v_covered) sz)) 0 0 (va_A (W_X5_bends h a cI cJ cZ v_thrown v_made v_heart v_width v_hasBar v_sheets v_covered) sz) := by
  refine met_go (cc := cX5_bends) (maxL := 7) (ret := some .int) RX5 rfl (by decide) rfl (Nat.le_of_ble_eq_true rfl) ?_
  intro p e s m args below meth c ls hx hb hr hts hown hlocks hin hml hsz hP hK hE hD hA hS hl
  have iRX5 : ∀ w ∈ u_ws RX5 TX5 24, w ∈ wsX5_bends := mem_seg 15 24 rfl
  generalize va_A (W_X5_bends h a cI cJ cZ v_thrown v_made v_heart v_width v_hasBar v_sheets v_covered) sz = A at hD hA hS ⊢
  have RT : ∀ (v : Int32) (u : Int32) (H : Heap) (locs : List Loc) (pc : Nat) (ls : Array Slot), decode cX5_bends pc = .ok (.ireturn, 1) → post v u → va_P D vwCl (W_X5_bends h a cI cJ cZ u v_made v_heart v_width v_hasBar v_sheets v_covered) H → va_D A (W_X5_bends h a cI cJ cZ u v_made v_heart v_width v_hasBar v_sheets v_covered) → va_S A s.heap H locs → W p l e rm_X5_bends s m args below meth c H locs 0 0 (MQ below (va_Qi (fun r (u : Int32) => post r u) (fun u t => POST D A (W_X5_bends h a cI cJ cZ u v_made v_heart v_width v_hasBar v_sheets v_covered) t) A) args s 0 0 A) (F0 m pc ls [.int v]) := fun v u H locs pc ls d g1 g2 g3 g4 => rt_i (Wf := fun u => (W_X5_bends h a cI cJ cZ u v_made v_heart v_width v_hasBar v_sheets v_covered)) u hx hb hr hlocks g1 g2 g3 g4 d
  generalize (MQ below (va_Qi (fun r (u : Int32) => post r u) (fun u t => POST D A (W_X5_bends h a cI cJ cZ u v_made v_heart v_width v_hasBar v_sheets v_covered) t) A) args s 0 0 A) = QQ at RT ⊢
  have hl : lv_has ls 7 [(0, .ref h), (1, .int p1), (2, .int p2)] := hl
  have hP : va_P D vwCl (W_X5_bends h a cI cJ cZ v_thrown v_made v_heart v_width v_hasBar v_sheets v_covered) s.heap := hP
  unfold wp_X5_bends at hw
  suffices GO : ∀ (H : Heap) (locs : List Loc), va_P D vwCl (W_X5_bends h a cI cJ cZ v_thrown v_made v_heart v_width v_hasBar v_sheets v_covered) H → va_S A s.heap H locs → W p l e rm_X5_bends s m args below meth c H locs 0 0 QQ (F0 m 0 ls []) from GO _ _ hP hS
  clear hsz hP hS
  intro H locs hP hS
  have L51 : ∀ s0 : (Int32 × Int32 × Int32 × Int32), lp (lF_X5_bends_51 v_thrown v_hasBar p1 p2 post) s0 → ∀ (H : Heap) (locs : List Loc) (ls : Array Slot), va_P D vwCl (W_X5_bends h a cI cJ cZ s0.2.2.2 v_made v_heart v_width v_hasBar v_sheets v_covered) H → va_D A (W_X5_bends h a cI cJ cZ s0.2.2.2 v_made v_heart v_width v_hasBar v_sheets v_covered) → va_S A s.heap H locs → lv_has ls 7 [(0, .ref h), (1, .int p1), (2, .int p2), (4, .int s0.1), (5, .int s0.2.1), (6, .int s0.2.2.1)] → W p l e rm_X5_bends s m args below meth c H locs 0 0 QQ (F0 m 51 ls []) := by
    refine lp_elim (fun K51 ih51 s0 hw => ?_)
    obtain ⟨x4_j51, x5_j51, x6_j51, v_thrown_j51⟩ := s0
    intro H locs ls hP hD hS hl
    have hw : wp_X5_bends_51 v_thrown v_hasBar p1 p2 post (fun b0 b1 b2 b3 => K51 (b0, b1, b2, b3)) x4_j51 x5_j51 x6_j51 v_thrown_j51 := hw
    have hP : va_P D vwCl (W_X5_bends h a cI cJ cZ v_thrown_j51 v_made v_heart v_width v_hasBar v_sheets v_covered) H := hP
    have hD : va_D A (W_X5_bends h a cI cJ cZ v_thrown_j51 v_made v_heart v_width v_hasBar v_sheets v_covered) := hD
    have hl : lv_has ls 7 [(0, .ref h), (1, .int p1), (2, .int p2), (4, .int x4_j51), (5, .int x5_j51), (6, .int x6_j51)] := hl
    have J98 : ∀ (s0_j98 : Int32) (s1_j98 : Int32) (x5_j98 : Int32) (x6_j98 : Int32) (v_thrown_j98 : Int32) , wp_X5_bends_98 v_thrown v_hasBar p1 p2 post (fun b0 b1 b2 b3 => K51 (b0, b1, b2, b3)) s0_j98 s1_j98 x5_j98 x6_j98 v_thrown_j98 → ∀ (H : Heap) (locs : List Loc) (ls : Array Slot), va_P D vwCl (W_X5_bends h a cI cJ cZ v_thrown_j98 v_made v_heart v_width v_hasBar v_sheets v_covered) H → va_D A (W_X5_bends h a cI cJ cZ v_thrown_j98 v_made v_heart v_width v_hasBar v_sheets v_covered) → va_S A s.heap H locs → lv_has ls 7 [(0, .ref h), (1, .int p1), (2, .int p2), (5, .int x5_j98), (6, .int x6_j98)] → W p l e rm_X5_bends s m args below meth c H locs 0 0 QQ (F0 m 98 ls [.int s1_j98, .int s0_j98]) := by
      intro s0_j98 s1_j98 x5_j98 x6_j98 v_thrown_j98 hw H locs ls hP hD hS hl
      unfold wp_X5_bends_98 at hw
      refine lv_iadd hx hb dX5_bends_98 ?_
      refine lv_istore (lv' := [(4, .int (s0_j98 + s1_j98)), (0, .ref h), (1, .int p1), (2, .int p2), (5, .int x5_j98), (6, .int x6_j98)]) hx hb dX5_bends_99 hl (by decide) rfl (fun ls hl => ?_)
      refine lv_iinc (v := (x6_j98 + 1)) (lv' := [(6, .int (x6_j98 + 1)), (4, .int (s0_j98 + s1_j98)), (0, .ref h), (1, .int p1), (2, .int p2), (5, .int x5_j98)]) hx hb dX5_bends_101 hl (k := 5) rfl rfl (by decide) rfl (fun ls hl => ?_)
      refine lv_goto (tgt := 51) hx hb dX5_bends_104 (by decide) ?_
      exact ih51 ((s0_j98 + s1_j98), x5_j98, (x6_j98 + 1), v_thrown_j98) hw _ _ ls hP hD hS (lv_sub hl [2, 3, 4, 1, 5, 0] rfl)
    have J71 : ∀ (s0_j71 : Int32) (s1_j71 : Int32) (x4_j71 : Int32) (x6_j71 : Int32) (v_thrown_j71 : Int32) , wp_X5_bends_71 v_thrown v_hasBar p1 p2 post (fun b0 b1 b2 b3 => K51 (b0, b1, b2, b3)) s0_j71 s1_j71 x4_j71 x6_j71 v_thrown_j71 → ∀ (H : Heap) (locs : List Loc) (ls : Array Slot), va_P D vwCl (W_X5_bends h a cI cJ cZ v_thrown_j71 v_made v_heart v_width v_hasBar v_sheets v_covered) H → va_D A (W_X5_bends h a cI cJ cZ v_thrown_j71 v_made v_heart v_width v_hasBar v_sheets v_covered) → va_S A s.heap H locs → lv_has ls 7 [(0, .ref h), (1, .int p1), (2, .int p2), (4, .int x4_j71), (6, .int x6_j71)] → W p l e rm_X5_bends s m args below meth c H locs 0 0 QQ (F0 m 71 ls [.int s1_j71, .int s0_j71]) := by
      intro s0_j71 s1_j71 x4_j71 x6_j71 v_thrown_j71 hw H locs ls hP hD hS hl
      unfold wp_X5_bends_71 at hw
      refine lv_iadd hx hb dX5_bends_71 ?_
      refine lv_istore (lv' := [(5, .int (s0_j71 + s1_j71)), (0, .ref h), (1, .int p1), (2, .int p2), (4, .int x4_j71), (6, .int x6_j71)]) hx hb dX5_bends_72 hl (by decide) rfl (fun ls hl => ?_)
      refine lv_iload hx hb dX5_bends_74 (lv_at hl 4 rfl) ?_
      refine lv_iload hx hb dX5_bends_76 (lv_at hl 5 rfl) ?_
      refine lv_bipush (v := 15) hx hb dX5_bends_78 (by decide) ?_
      refine lv_icmp_ge (tgt := 97) hx hb dX5_bends_80 (by decide) (fun c80 => ?_) (fun c80 => ?_)
      · have hw := hw.1 c80
        refine lv_iconst (v := 0) hx hb dX5_bends_97 (by decide) ?_
        exact J98 x4_j71 0 (s0_j71 + s1_j71) x6_j71 v_thrown_j71 hw _ _ ls hP hD hS (lv_sub hl [1, 2, 3, 0, 5] rfl)
      · have hw := hw.2 c80
        refine lv_aload_n hx hb dX5_bends_83 rfl (lv_at hl 1 rfl) ?_
        refine va_get (D := D) (ci := 6) (v := .ref (a 14)) (C := RX5) (T := TX5) (N := 24) hx hb hts iRX5 hown hK hP 0 rfl rfl 14 (by decide) (hts (.fieldLink RX5 51 "LeadlightModel" "hasBar" "[Z") (List.mem_of_getElem? (i := 1) rfl)) (fun _ h9 => h9) rfl dX5_bends_84 ?_
        refine lv_iload hx hb dX5_bends_87 (lv_at hl 5 rfl) ?_
        obtain ⟨hi_89, hw⟩ := hw
        refine va_zald hx hb hK hP 1 2 rfl rfl hi_89 dX5_bends_89 ?_
        refine lv_if_eq (tgt := 97) hx hb dX5_bends_90 (by decide) (fun c90 => ?_) (fun c90 => ?_)
        · have hw := hw.1 c90
          refine lv_iconst (v := 0) hx hb dX5_bends_97 (by decide) ?_
          exact J98 x4_j71 0 (s0_j71 + s1_j71) x6_j71 v_thrown_j71 hw _ _ ls hP hD hS (lv_sub hl [1, 2, 3, 0, 5] rfl)
        · have hw := hw.2 c90
          refine lv_iconst (v := 1) hx hb dX5_bends_93 (by decide) ?_
          refine lv_goto (tgt := 98) hx hb dX5_bends_94 (by decide) ?_
          exact J98 x4_j71 1 (s0_j71 + s1_j71) x6_j71 v_thrown_j71 hw _ _ ls hP hD hS (lv_sub hl [1, 2, 3, 0, 5] rfl)
    unfold wp_X5_bends_51 at hw
    refine lv_iload hx hb dX5_bends_51 (lv_at hl 5 rfl) ?_
    refine lv_bipush (v := 16) hx hb dX5_bends_53 (by decide) ?_
    refine lv_icmp_ge (tgt := 107) hx hb dX5_bends_55 (by decide) (fun c55 => ?_) (fun c55 => ?_)
    · have hw := hw.1 c55
      refine lv_iload_n hx hb dX5_bends_107 rfl (lv_at hl 2 rfl) ?_
      refine lv_iload hx hb dX5_bends_108 (lv_at hl 4 rfl) ?_
      refine lv_imul hx hb dX5_bends_110 ?_
      refine lv_iload hx hb dX5_bends_111 (lv_at hl 4 rfl) ?_
      refine lv_imul hx hb dX5_bends_113 ?_
      refine lv_iload hx hb dX5_bends_114 (lv_at hl 4 rfl) ?_
      refine lv_imul hx hb dX5_bends_116 ?_
      refine lv_bipush (v := 64) hx hb dX5_bends_117 (by decide) ?_
      refine lv_idiv hx hb dX5_bends_119 (by decide) ?_
      exact RT ((((p2 * x5_j51) * x5_j51) * x5_j51) / 64) v_thrown_j51 _ _ _ _ dX5_bends_120 hw hP hD hS
    · have hw := hw.2 c55
      refine lv_iload hx hb dX5_bends_58 (lv_at hl 4 rfl) ?_
      refine lv_iload hx hb dX5_bends_60 (lv_at hl 3 rfl) ?_
      refine lv_iload_n hx hb dX5_bends_62 rfl (lv_at hl 1 rfl) ?_
      refine lv_icmp_ne (tgt := 70) hx hb dX5_bends_63 (by decide) (fun c63 => ?_) (fun c63 => ?_)
      · have hw := hw.2 c63
        refine lv_iconst (v := 0) hx hb dX5_bends_70 (by decide) ?_
        exact J71 x5_j51 0 x4_j51 x6_j51 v_thrown_j51 hw _ _ ls hP hD hS (lv_sub hl [0, 1, 2, 3, 5] rfl)
      · have hw := hw.1 c63
        refine lv_iconst (v := 1) hx hb dX5_bends_66 (by decide) ?_
        refine lv_goto (tgt := 71) hx hb dX5_bends_67 (by decide) ?_
        exact J71 x5_j51 1 x4_j51 x6_j51 v_thrown_j51 hw _ _ ls hP hD hS (lv_sub hl [0, 1, 2, 3, 5] rfl)
  have J34 : ∀ (s1_j34 : Int32) , wp_X5_bends_34 v_thrown v_hasBar p1 p2 post s1_j34 → ∀ (H : Heap) (locs : List Loc) (ls : Array Slot), va_P D vwCl (W_X5_bends h a cI cJ cZ v_thrown v_made v_heart v_width v_hasBar v_sheets v_covered) H → va_D A (W_X5_bends h a cI cJ cZ v_thrown v_made v_heart v_width v_hasBar v_sheets v_covered) → va_S A s.heap H locs → lv_has ls 7 [(0, .ref h), (1, .int p1), (2, .int p2)] → W p l e rm_X5_bends s m args below meth c H locs 0 0 QQ (F0 m 34 ls [.int s1_j34, .ref h]) := by
    intro s1_j34 hw H locs ls hP hD hS hl
    unfold wp_X5_bends_34 at hw
    refine af_i (X := (W_X5_bends h a cI cJ cZ v_thrown v_made v_heart v_width v_hasBar v_sheets v_covered)) (pl := []) (cx := (W_X5_goesWell h a cI cJ cZ v_thrown v_made v_heart v_width v_sheets v_covered)) (w1 := fun (u : Int32) => (W_X5_goesWell h a cI cJ cZ u v_made v_heart v_width v_sheets v_covered)) (X' := fun (u : Int32) => (W_X5_bends h a cI cJ cZ u v_made v_heart v_width v_hasBar v_sheets v_covered)) hP hD hS hA [0] [1] [1, 0] rfl rfl (by decide) (by decide) (fun u => rfl) (by decide) (va_runV (As := [.int s1_j34]) (rest := []) ⟨hx, hb, hml, hown, hts⟩ (c_X5_goesWell l D cI cJ cZ cO h a H.size v_thrown v_made v_heart v_width v_sheets v_covered s1_j34 _ hw) (cwV 1 hts gX5_bends_X5_goesWell rfl rfl rfl (by decide +kernel) ⟨Nat.le_of_ble_eq_true rfl, Nat.le_of_ble_eq_true rfl⟩) (preV (X := (W_X5_bends h a cI cJ cZ v_thrown v_made v_heart v_width v_hasBar v_sheets v_covered)) (pl := []) (cx := (W_X5_goesWell h a cI cJ cZ v_thrown v_made v_heart v_width v_sheets v_covered)) (qb := 0) (ci := 6) hK hE hP hD [0] (by decide) rfl rfl rfl) rfl rfl hl.1 rfl (lv_room (Nat.le_of_ble_eq_true rfl)) dX5_bends_34 ⟨Nat.zero_le _, Nat.zero_le _⟩) (fun r_34 v_thrown_c34 H locs hw hP hD hS => ?_)
    try dsimp only at hw
    have hP : va_P D vwCl (W_X5_bends h a cI cJ cZ v_thrown_c34 v_made v_heart v_width v_hasBar v_sheets v_covered) H := hP
    have hD : va_D A (W_X5_bends h a cI cJ cZ v_thrown_c34 v_made v_heart v_width v_hasBar v_sheets v_covered) := hD
    refine lv_if_ne (tgt := 42) hx hb dX5_bends_37 (by decide) (fun c37 => ?_) (fun c37 => ?_)
    · have hw := hw.2 c37
      refine lv_iconst (v := 0) hx hb dX5_bends_42 (by decide) ?_
      refine lv_istore (lv' := [(4, .int 0), (0, .ref h), (1, .int p1), (2, .int p2)]) hx hb dX5_bends_43 hl (by decide) rfl (fun ls hl => ?_)
      refine lv_iconst (v := 0) hx hb dX5_bends_45 (by decide) ?_
      refine lv_istore (lv' := [(5, .int 0), (4, .int 0), (0, .ref h), (1, .int p1), (2, .int p2)]) hx hb dX5_bends_46 hl (by decide) rfl (fun ls hl => ?_)
      refine lv_iconst (v := 0) hx hb dX5_bends_48 (by decide) ?_
      refine lv_istore (lv' := [(6, .int 0), (5, .int 0), (4, .int 0), (0, .ref h), (1, .int p1), (2, .int p2)]) hx hb dX5_bends_49 hl (by decide) rfl (fun ls hl => ?_)
      exact L51 (0, 0, 0, v_thrown_c34) hw _ _ ls hP hD hS (lv_sub hl [3, 4, 5, 2, 1, 0] rfl)
    · have hw := hw.1 c37
      refine lv_iconst (v := 0) hx hb dX5_bends_40 (by decide) ?_
      exact RT 0 v_thrown_c34 _ _ _ _ dX5_bends_41 hw hP hD hS
  refine lv_iload_n hx hb dX5_bends_0 rfl (lv_at hl 1 rfl) ?_
  refine lv_iconst (v := 0) hx hb dX5_bends_1 (by decide) ?_
  refine lv_aload_n hx hb dX5_bends_2 rfl (lv_at hl 0 rfl) ?_
  refine af_i (X := (W_X5_bends h a cI cJ cZ v_thrown v_made v_heart v_width v_hasBar v_sheets v_covered)) (pl := []) (cx := (W_X5_bars h a cI cJ cZ v_thrown v_made v_heart v_width v_hasBar v_sheets v_covered)) (w1 := fun (u : Unit) => (W_X5_bars h a cI cJ cZ v_thrown v_made v_heart v_width v_hasBar v_sheets v_covered)) (X' := fun (u : Unit) => (W_X5_bends h a cI cJ cZ v_thrown v_made v_heart v_width v_hasBar v_sheets v_covered)) hP hD hS hA [0, 1] [] [0, 1] rfl rfl (by decide) (by decide) (fun u => rfl) (by decide) (va_runV (As := []) (rest := [.int 0, .int p1]) ⟨hx, hb, hml, hown, hts⟩ (c_X5_bars l D cI cJ cZ cO h a H.size v_thrown v_made v_heart v_width v_hasBar v_sheets v_covered _ hw) (cwV 0 hts gX5_bends_X5_bars rfl rfl rfl (by decide +kernel) ⟨Nat.le_of_ble_eq_true rfl, Nat.le_of_ble_eq_true rfl⟩) (preV (X := (W_X5_bends h a cI cJ cZ v_thrown v_made v_heart v_width v_hasBar v_sheets v_covered)) (pl := []) (cx := (W_X5_bars h a cI cJ cZ v_thrown v_made v_heart v_width v_hasBar v_sheets v_covered)) (qb := 0) (ci := 6) hK hE hP hD [0, 1] (by decide) rfl rfl rfl) rfl rfl hl.1 rfl (lv_room (Nat.le_of_ble_eq_true rfl)) dX5_bends_3 ⟨Nat.zero_le _, Nat.zero_le _⟩) (fun r_3 _ H locs hw hP hD hS => ?_)
  try dsimp only at hw
  have hP : va_P D vwCl (W_X5_bends h a cI cJ cZ v_thrown v_made v_heart v_width v_hasBar v_sheets v_covered) H := hP
  have hD : va_D A (W_X5_bends h a cI cJ cZ v_thrown v_made v_heart v_width v_hasBar v_sheets v_covered) := hD
  refine af_i (X := (W_X5_bends h a cI cJ cZ v_thrown v_made v_heart v_width v_hasBar v_sheets v_covered)) (pl := []) (cx := ([] : va_W)) (w1 := fun (u : Unit) => ([] : va_W)) (X' := fun (u : Unit) => (W_X5_bends h a cI cJ cZ v_thrown v_made v_heart v_width v_hasBar v_sheets v_covered)) hP hD hS hA [] [0, 1] [0, 1] rfl rfl (by decide) (by decide) (fun u => rfl) (by decide) (va_runS (As := [.int p1, .int 0, .int r_3]) (rest := []) ⟨hx, hb, hml, hown, hts⟩ (c_X5_in l D cI cJ cZ cO H.size p1 0 r_3 _ hw) (va_cwS 3 hts gX5_bends_X5_in rfl rfl rfl (by decide +kernel) ⟨Nat.le_of_ble_eq_true rfl, Nat.le_of_ble_eq_true rfl⟩) (preS (X := (W_X5_bends h a cI cJ cZ v_thrown v_made v_heart v_width v_hasBar v_sheets v_covered)) (pl := []) (cx := ([] : va_W)) hK hE hP hD [] (by decide) rfl) rfl rfl hl.1 rfl (lv_room (Nat.le_of_ble_eq_true rfl)) dX5_bends_6 ⟨Nat.zero_le _, Nat.zero_le _⟩) (fun r_6 _ H locs hw hP hD hS => ?_)
  try dsimp only at hw
  have hP : va_P D vwCl (W_X5_bends h a cI cJ cZ v_thrown v_made v_heart v_width v_hasBar v_sheets v_covered) H := hP
  have hD : va_D A (W_X5_bends h a cI cJ cZ v_thrown v_made v_heart v_width v_hasBar v_sheets v_covered) := hD
  refine lv_istore_n (lv' := [(3, .int r_6), (0, .ref h), (1, .int p1), (2, .int p2)]) hx hb dX5_bends_9 rfl hl (by decide) rfl (fun ls hl => ?_)
  refine lv_aload_n hx hb dX5_bends_10 rfl (lv_at hl 1 rfl) ?_
  refine lv_iload_n hx hb dX5_bends_11 rfl (lv_at hl 0 rfl) ?_
  refine lv_if_ne (tgt := 19) hx hb dX5_bends_12 (by decide) (fun c12 => ?_) (fun c12 => ?_)
  · have hw := hw.2 c12
    refine lv_iload_n hx hb dX5_bends_19 rfl (lv_at hl 3 rfl) ?_
    refine lv_iconst (v := 0) hx hb dX5_bends_20 (by decide) ?_
    refine lv_bipush (v := 9) hx hb dX5_bends_21 (by decide) ?_
    refine af_i (X := (W_X5_bends h a cI cJ cZ v_thrown v_made v_heart v_width v_hasBar v_sheets v_covered)) (pl := []) (cx := ([] : va_W)) (w1 := fun (u : Unit) => ([] : va_W)) (X' := fun (u : Unit) => (W_X5_bends h a cI cJ cZ v_thrown v_made v_heart v_width v_hasBar v_sheets v_covered)) hP hD hS hA [] [0, 1] [0, 1] rfl rfl (by decide) (by decide) (fun u => rfl) (by decide) (va_runS (As := [.int p2, .int 0, .int 9]) (rest := [.ref h]) ⟨hx, hb, hml, hown, hts⟩ (c_X5_in l D cI cJ cZ cO H.size p2 0 9 _ hw) (va_cwS 3 hts gX5_bends_X5_in rfl rfl rfl (by decide +kernel) ⟨Nat.le_of_ble_eq_true rfl, Nat.le_of_ble_eq_true rfl⟩) (preS (X := (W_X5_bends h a cI cJ cZ v_thrown v_made v_heart v_width v_hasBar v_sheets v_covered)) (pl := []) (cx := ([] : va_W)) hK hE hP hD [] (by decide) rfl) rfl rfl hl.1 rfl (lv_room (Nat.le_of_ble_eq_true rfl)) dX5_bends_23 ⟨Nat.zero_le _, Nat.zero_le _⟩) (fun r_23 _ H locs hw hP hD hS => ?_)
    try dsimp only at hw
    have hP : va_P D vwCl (W_X5_bends h a cI cJ cZ v_thrown v_made v_heart v_width v_hasBar v_sheets v_covered) H := hP
    have hD : va_D A (W_X5_bends h a cI cJ cZ v_thrown v_made v_heart v_width v_hasBar v_sheets v_covered) := hD
    refine lv_if_eq (tgt := 33) hx hb dX5_bends_26 (by decide) (fun c26 => ?_) (fun c26 => ?_)
    · have hw := hw.1 c26
      refine lv_iconst (v := 2) hx hb dX5_bends_33 (by decide) ?_
      exact J34 2 hw _ _ ls hP hD hS (lv_sub hl [1, 2, 3] rfl)
    · have hw := hw.2 c26
      refine lv_iconst (v := 0) hx hb dX5_bends_29 (by decide) ?_
      refine lv_goto (tgt := 34) hx hb dX5_bends_30 (by decide) ?_
      exact J34 0 hw _ _ ls hP hD hS (lv_sub hl [1, 2, 3] rfl)
  · have hw := hw.1 c12
    refine lv_iconst (v := 1) hx hb dX5_bends_15 (by decide) ?_
    refine lv_goto (tgt := 34) hx hb dX5_bends_16 (by decide) ?_
    exact J34 1 hw _ _ ls hP hD hS (lv_sub hl [1, 2, 3] rfl)
abbrev rm_X5_isShut : Room := { frames := 1, cells := 0, slots := 0, locals := 22 }
abbrev W_X5_isShut (h : Nat) (a : Nat → Nat) (cI cJ cZ : ClassId) (v_thrown : Int32) (v_made : Int32) (v_many : Nat → Int32) (v_state : Nat → Int32) (v_heart : Int32) (v_width : Int32) (v_sheets : Int32) (v_covered : Int32) : va_W := [(h, .inr (6, [.int v_thrown, .int v_made, .ref (a 2), .ref (a 3), .ref (a 4), .ref (a 5), .ref (a 6), .ref (a 7), .ref (a 8), .ref (a 9), .ref (a 10), .ref (a 11), .int v_heart, .int v_width, .ref (a 14), .ref (a 15), .ref (a 16), .ref (a 17), .ref (a 18), .ref (a 19), .ref (a 20), .ref (a 21), .int v_sheets, .int v_covered])), ((a 3), .inl (cI, 60, .inl v_many)), ((a 6), .inl (cI, 60, .inl v_state))]
def wp_X5_isShut (v_thrown : Int32) (v_made : Int32) (v_many : Nat → Int32) (v_state : Nat → Int32) (post : Int32 → Int32 → Prop) : Prop := ∀ v_thrown_t2 : Int32, v_thrown_t2 = 0 → wp_X5_broken v_made v_many v_state (fun r_6 => (r_6 = 0 → post 1 v_thrown_t2) ∧ (¬ r_6 = 0 → post 0 v_thrown_t2))
set_option maxHeartbeats 4000000 in
set_option maxRecDepth 100000 in
theorem c_X5_isShut (l : Launch) (D : va_G) (cI cJ cZ cO : ClassId) (h : Nat) (a : Nat → Nat) (sz : Nat) (v_thrown : Int32) (v_made : Int32) (v_many : Nat → Int32) (v_state : Nat → Int32) (v_heart : Int32) (v_width : Int32) (v_sheets : Int32) (v_covered : Int32) (post : Int32 → Int32 → Prop) (hw : wp_X5_isShut v_thrown v_made v_many v_state post) : Met l yX5_isShut wsX5_isShut rm_X5_isShut (va_Pc [.ref h] (PRE D cI cJ cZ cO (W_X5_isShut h a cI cJ cZ v_thrown v_made v_many v_state v_heart v_width v_sheets v_covered) sz)) (va_Qi (fun r (u : Int32) => post r u) (fun u t => POST D (va_A (W_X5_isShut h a cI cJ cZ v_thrown v_made v_many v_state v_heart v_width v_sheets v_covered) sz) (W_X5_isShut h a cI cJ cZ u v_made v_many v_state v_heart v_width v_sheets v_covered) t) (va_A (W_X5_isShut h a cI cJ cZ v_thrown v_made v_many v_state v_heart v_width v_sheets v_covered) sz)) 0 0 (va_A (W_X5_isShut h a cI cJ cZ v_thrown v_made v_many v_state v_heart v_width v_sheets v_covered) sz) := by
  refine met_go (cc := cX5_isShut) (maxL := 1) (ret := some .boolean) RX5 rfl (by decide) rfl (Nat.le_of_ble_eq_true rfl) ?_
  intro p e s m args below meth c ls hx hb hr hts hown hlocks hin hml hsz hP hK hE hD hA hS hl
  have iRX5 : ∀ w ∈ u_ws RX5 TX5 24, w ∈ wsX5_isShut := mem_seg 10 24 rfl
  generalize va_A (W_X5_isShut h a cI cJ cZ v_thrown v_made v_many v_state v_heart v_width v_sheets v_covered) sz = A at hD hA hS ⊢
  have RT : ∀ (v : Int32) (u : Int32) (H : Heap) (locs : List Loc) (pc : Nat) (ls : Array Slot), decode cX5_isShut pc = .ok (.ireturn, 1) → (v = 0 ∨ v = 1) → post v u → va_P D vwCl (W_X5_isShut h a cI cJ cZ u v_made v_many v_state v_heart v_width v_sheets v_covered) H → va_D A (W_X5_isShut h a cI cJ cZ u v_made v_many v_state v_heart v_width v_sheets v_covered) → va_S A s.heap H locs → W p l e rm_X5_isShut s m args below meth c H locs 0 0 (MQ below (va_Qi (fun r (u : Int32) => post r u) (fun u t => POST D A (W_X5_isShut h a cI cJ cZ u v_made v_many v_state v_heart v_width v_sheets v_covered) t) A) args s 0 0 A) (F0 m pc ls [.int v]) := fun v u H locs pc ls d g0 g1 g2 g3 g4 => rt_z (Wf := fun u => (W_X5_isShut h a cI cJ cZ u v_made v_many v_state v_heart v_width v_sheets v_covered)) u hx hb hr hlocks g0 g1 g2 g3 g4 d
  generalize (MQ below (va_Qi (fun r (u : Int32) => post r u) (fun u t => POST D A (W_X5_isShut h a cI cJ cZ u v_made v_many v_state v_heart v_width v_sheets v_covered) t) A) args s 0 0 A) = QQ at RT ⊢
  have hl : lv_has ls 1 [(0, .ref h)] := hl
  have hP : va_P D vwCl (W_X5_isShut h a cI cJ cZ v_thrown v_made v_many v_state v_heart v_width v_sheets v_covered) s.heap := hP
  unfold wp_X5_isShut at hw
  suffices GO : ∀ (H : Heap) (locs : List Loc), va_P D vwCl (W_X5_isShut h a cI cJ cZ v_thrown v_made v_many v_state v_heart v_width v_sheets v_covered) H → va_S A s.heap H locs → W p l e rm_X5_isShut s m args below meth c H locs 0 0 QQ (F0 m 0 ls []) from GO _ _ hP hS
  clear hsz hP hS
  intro H locs hP hS
  refine lv_aload_n hx hb dX5_isShut_0 rfl (lv_at hl 0 rfl) ?_
  refine lv_iconst (v := 0) hx hb dX5_isShut_1 (by decide) ?_
  refine lv_topi (fun v_thrown_t2 ev_thrown_t2 => ?_)
  have hw := hw v_thrown_t2 ev_thrown_t2
  refine va_put (D := D) (ci := 6) (v := .int v_thrown_t2) (ty := .int) (C := RX5) (T := TX5) (N := 24) hx hb hts iRX5 tyX5 tyX5_ok nmX5 hown hK hP hD hS 0 rfl rfl 0 (by decide) (hts (.fieldLink RX5 79 "LeadlightModel" "thrown" "I") (List.mem_of_getElem? (i := 1) rfl)) (fun _ h9 => h9) rfl (by decide +kernel) rfl rfl (Nat.le_of_ble_eq_true rfl) dX5_isShut_2 (fun H locs hP hD hS => ?_)
  have hP : va_P D vwCl (W_X5_isShut h a cI cJ cZ v_thrown_t2 v_made v_many v_state v_heart v_width v_sheets v_covered) H := hP
  have hD : va_D A (W_X5_isShut h a cI cJ cZ v_thrown_t2 v_made v_many v_state v_heart v_width v_sheets v_covered) := hD
  refine lv_aload_n hx hb dX5_isShut_5 rfl (lv_at hl 0 rfl) ?_
  refine af_i (X := (W_X5_isShut h a cI cJ cZ v_thrown_t2 v_made v_many v_state v_heart v_width v_sheets v_covered)) (pl := []) (cx := (W_X5_broken h a cI cJ cZ v_thrown_t2 v_made v_many v_state v_heart v_width v_sheets v_covered)) (w1 := fun (u : Unit) => (W_X5_broken h a cI cJ cZ v_thrown_t2 v_made v_many v_state v_heart v_width v_sheets v_covered)) (X' := fun (u : Unit) => (W_X5_isShut h a cI cJ cZ v_thrown_t2 v_made v_many v_state v_heart v_width v_sheets v_covered)) hP hD hS hA [0, 1, 2] [] [0, 1, 2] rfl rfl (by decide) (by decide) (fun u => rfl) (by decide) (va_runV (As := []) (rest := []) ⟨hx, hb, hml, hown, hts⟩ (c_X5_broken l D cI cJ cZ cO h a H.size v_thrown_t2 v_made v_many v_state v_heart v_width v_sheets v_covered _ hw) (cwV 0 hts gX5_isShut_X5_broken rfl rfl rfl (by decide +kernel) ⟨Nat.le_of_ble_eq_true rfl, Nat.le_of_ble_eq_true rfl⟩) (preV (X := (W_X5_isShut h a cI cJ cZ v_thrown_t2 v_made v_many v_state v_heart v_width v_sheets v_covered)) (pl := []) (cx := (W_X5_broken h a cI cJ cZ v_thrown_t2 v_made v_many v_state v_heart v_width v_sheets v_covered)) (qb := 0) (ci := 6) hK hE hP hD [0, 1, 2] (by decide) rfl rfl rfl) rfl rfl hl.1 rfl (lv_room (Nat.le_of_ble_eq_true rfl)) dX5_isShut_6 ⟨Nat.zero_le _, Nat.zero_le _⟩) (fun r_6 _ H locs hw hP hD hS => ?_)
  try dsimp only at hw
  have hP : va_P D vwCl (W_X5_isShut h a cI cJ cZ v_thrown_t2 v_made v_many v_state v_heart v_width v_sheets v_covered) H := hP
  have hD : va_D A (W_X5_isShut h a cI cJ cZ v_thrown_t2 v_made v_many v_state v_heart v_width v_sheets v_covered) := hD
  refine lv_if_ne (tgt := 16) hx hb dX5_isShut_9 (by decide) (fun c9 => ?_) (fun c9 => ?_)
  · have hw := hw.2 c9
    refine lv_iconst (v := 0) hx hb dX5_isShut_16 (by decide) ?_
    exact RT 0 v_thrown_t2 _ _ _ _ dX5_isShut_17 (Or.inl rfl) hw hP hD hS
  · have hw := hw.1 c9
    refine lv_iconst (v := 1) hx hb dX5_isShut_12 (by decide) ?_
    refine lv_goto (tgt := 17) hx hb dX5_isShut_13 (by decide) ?_
    exact RT 1 v_thrown_t2 _ _ _ _ dX5_isShut_17 (Or.inr rfl) hw hP hD hS
abbrev rm_X5_history : Room := { frames := 1, cells := 0, slots := 0, locals := 22 }
abbrev W_X5_history (h : Nat) (a : Nat → Nat) (cI cJ cZ : ClassId) (v_thrown : Int32) (v_made : Int32) (v_things : Nat → Int32) (v_history : Nat → Int32) (v_heart : Int32) (v_width : Int32) (v_sheets : Int32) (v_covered : Int32) : va_W := [(h, .inr (6, [.int v_thrown, .int v_made, .ref (a 2), .ref (a 3), .ref (a 4), .ref (a 5), .ref (a 6), .ref (a 7), .ref (a 8), .ref (a 9), .ref (a 10), .ref (a 11), .int v_heart, .int v_width, .ref (a 14), .ref (a 15), .ref (a 16), .ref (a 17), .ref (a 18), .ref (a 19), .ref (a 20), .ref (a 21), .int v_sheets, .int v_covered])), ((a 10), .inl (cI, 60, .inl v_things)), ((a 11), .inl (cI, 1200, .inl v_history))]
def wp_X5_history_34 (v_thrown : Int32) (v_made : Int32) (v_things : Nat → Int32) (v_history : Nat → Int32) (p1 : Int32) (p2 : Int32) (post : Int32 → Int32 → Prop) (s1_j34 : Int32) : Prop := wp_X5_goesWell v_thrown s1_j34 (fun r_34 v_thrown_c34 => (r_34 = 0 → post 0 v_thrown_c34) ∧ (¬ r_34 = 0 → vp_in p1 60 ∧ (((v_things p1.toNatClampNeg) ≤ p2 → post (-1) v_thrown_c34) ∧ (¬ (v_things p1.toNatClampNeg) ≤ p2 → vp_in ((20 * p1) + p2) 1200 ∧ (post (v_history ((20 * p1) + p2).toNatClampNeg) v_thrown_c34)))))
def wp_X5_history_23 (v_thrown : Int32) (v_made : Int32) (v_things : Nat → Int32) (v_history : Nat → Int32) (p1 : Int32) (p2 : Int32) (post : Int32 → Int32 → Prop) (s0_j23 : Int32) : Prop := (s0_j23 = 0 → wp_X5_history_34 v_thrown v_made v_things v_history p1 p2 post 1) ∧ (¬ s0_j23 = 0 → wp_X5_history_34 v_thrown v_made v_things v_history p1 p2 post 0)
def wp_X5_history (v_thrown : Int32) (v_made : Int32) (v_things : Nat → Int32) (v_history : Nat → Int32) (p1 : Int32) (p2 : Int32) (post : Int32 → Int32 → Prop) : Prop := wp_X5_in p1 0 (v_made - 1) (fun r_8 => (r_8 = 0 → wp_X5_history_23 v_thrown v_made v_things v_history p1 p2 post 0) ∧ (¬ r_8 = 0 → (p2 < 0 → wp_X5_history_23 v_thrown v_made v_things v_history p1 p2 post 0) ∧ (¬ p2 < 0 → wp_X5_history_23 v_thrown v_made v_things v_history p1 p2 post 1)))
set_option maxHeartbeats 4000000 in
set_option maxRecDepth 100000 in
theorem c_X5_history (l : Launch) (D : va_G) (cI cJ cZ cO : ClassId) (h : Nat) (a : Nat → Nat) (sz : Nat) (v_thrown : Int32) (v_made : Int32) (v_things : Nat → Int32) (v_history : Nat → Int32) (v_heart : Int32) (v_width : Int32) (v_sheets : Int32) (v_covered : Int32) (p1 : Int32) (p2 : Int32) (post : Int32 → Int32 → Prop) (hw : wp_X5_history v_thrown v_made v_things v_history p1 p2 post) : Met l yX5_history wsX5_history rm_X5_history (va_Pc [.ref h, .int p1, .int p2] (PRE D cI cJ cZ cO (W_X5_history h a cI cJ cZ v_thrown v_made v_things v_history v_heart v_width v_sheets v_covered) sz)) (va_Qi (fun r (u : Int32) => post r u) (fun u t => POST D (va_A (W_X5_history h a cI cJ cZ v_thrown v_made v_things v_history v_heart v_width v_sheets v_covered) sz) (W_X5_history h a cI cJ cZ u v_made v_things v_history v_heart v_width v_sheets v_covered) t) (va_A (W_X5_history h a cI cJ cZ v_thrown v_made v_things v_history v_heart v_width v_sheets v_covered) sz)) 0 0 (va_A (W_X5_history h a cI cJ cZ v_thrown v_made v_things v_history v_heart v_width v_sheets v_covered) sz) := by
  refine met_go (cc := cX5_history) (maxL := 4) (ret := some .int) RX5 rfl (by decide) rfl (Nat.le_of_ble_eq_true rfl) ?_
  intro p e s m args below meth c ls hx hb hr hts hown hlocks hin hml hsz hP hK hE hD hA hS hl
  have iRX5 : ∀ w ∈ u_ws RX5 TX5 24, w ∈ wsX5_history := mem_seg 13 24 rfl
  generalize va_A (W_X5_history h a cI cJ cZ v_thrown v_made v_things v_history v_heart v_width v_sheets v_covered) sz = A at hD hA hS ⊢
  have RT : ∀ (v : Int32) (u : Int32) (H : Heap) (locs : List Loc) (pc : Nat) (ls : Array Slot), decode cX5_history pc = .ok (.ireturn, 1) → post v u → va_P D vwCl (W_X5_history h a cI cJ cZ u v_made v_things v_history v_heart v_width v_sheets v_covered) H → va_D A (W_X5_history h a cI cJ cZ u v_made v_things v_history v_heart v_width v_sheets v_covered) → va_S A s.heap H locs → W p l e rm_X5_history s m args below meth c H locs 0 0 (MQ below (va_Qi (fun r (u : Int32) => post r u) (fun u t => POST D A (W_X5_history h a cI cJ cZ u v_made v_things v_history v_heart v_width v_sheets v_covered) t) A) args s 0 0 A) (F0 m pc ls [.int v]) := fun v u H locs pc ls d g1 g2 g3 g4 => rt_i (Wf := fun u => (W_X5_history h a cI cJ cZ u v_made v_things v_history v_heart v_width v_sheets v_covered)) u hx hb hr hlocks g1 g2 g3 g4 d
  generalize (MQ below (va_Qi (fun r (u : Int32) => post r u) (fun u t => POST D A (W_X5_history h a cI cJ cZ u v_made v_things v_history v_heart v_width v_sheets v_covered) t) A) args s 0 0 A) = QQ at RT ⊢
  have hl : lv_has ls 4 [(0, .ref h), (1, .int p1), (2, .int p2)] := hl
  have hP : va_P D vwCl (W_X5_history h a cI cJ cZ v_thrown v_made v_things v_history v_heart v_width v_sheets v_covered) s.heap := hP
  unfold wp_X5_history at hw
  suffices GO : ∀ (H : Heap) (locs : List Loc), va_P D vwCl (W_X5_history h a cI cJ cZ v_thrown v_made v_things v_history v_heart v_width v_sheets v_covered) H → va_S A s.heap H locs → W p l e rm_X5_history s m args below meth c H locs 0 0 QQ (F0 m 0 ls []) from GO _ _ hP hS
  clear hsz hP hS
  intro H locs hP hS
  have J34 : ∀ (s1_j34 : Int32) , wp_X5_history_34 v_thrown v_made v_things v_history p1 p2 post s1_j34 → ∀ (H : Heap) (locs : List Loc) (ls : Array Slot), va_P D vwCl (W_X5_history h a cI cJ cZ v_thrown v_made v_things v_history v_heart v_width v_sheets v_covered) H → va_D A (W_X5_history h a cI cJ cZ v_thrown v_made v_things v_history v_heart v_width v_sheets v_covered) → va_S A s.heap H locs → lv_has ls 4 [(0, .ref h), (1, .int p1), (2, .int p2)] → W p l e rm_X5_history s m args below meth c H locs 0 0 QQ (F0 m 34 ls [.int s1_j34, .ref h]) := by
    intro s1_j34 hw H locs ls hP hD hS hl
    unfold wp_X5_history_34 at hw
    refine af_i (X := (W_X5_history h a cI cJ cZ v_thrown v_made v_things v_history v_heart v_width v_sheets v_covered)) (pl := []) (cx := (W_X5_goesWell h a cI cJ cZ v_thrown v_made v_heart v_width v_sheets v_covered)) (w1 := fun (u : Int32) => (W_X5_goesWell h a cI cJ cZ u v_made v_heart v_width v_sheets v_covered)) (X' := fun (u : Int32) => (W_X5_history h a cI cJ cZ u v_made v_things v_history v_heart v_width v_sheets v_covered)) hP hD hS hA [0] [1, 2] [2, 0, 1] rfl rfl (by decide) (by decide) (fun u => rfl) (by decide) (va_runV (As := [.int s1_j34]) (rest := []) ⟨hx, hb, hml, hown, hts⟩ (c_X5_goesWell l D cI cJ cZ cO h a H.size v_thrown v_made v_heart v_width v_sheets v_covered s1_j34 _ hw) (cwV 1 hts gX5_history_X5_goesWell rfl rfl rfl (by decide +kernel) ⟨Nat.le_of_ble_eq_true rfl, Nat.le_of_ble_eq_true rfl⟩) (preV (X := (W_X5_history h a cI cJ cZ v_thrown v_made v_things v_history v_heart v_width v_sheets v_covered)) (pl := []) (cx := (W_X5_goesWell h a cI cJ cZ v_thrown v_made v_heart v_width v_sheets v_covered)) (qb := 0) (ci := 6) hK hE hP hD [0] (by decide) rfl rfl rfl) rfl rfl hl.1 rfl (lv_room (Nat.le_of_ble_eq_true rfl)) dX5_history_34 ⟨Nat.zero_le _, Nat.zero_le _⟩) (fun r_34 v_thrown_c34 H locs hw hP hD hS => ?_)
    try dsimp only at hw
    have hP : va_P D vwCl (W_X5_history h a cI cJ cZ v_thrown_c34 v_made v_things v_history v_heart v_width v_sheets v_covered) H := hP
    have hD : va_D A (W_X5_history h a cI cJ cZ v_thrown_c34 v_made v_things v_history v_heart v_width v_sheets v_covered) := hD
    refine lv_if_ne (tgt := 42) hx hb dX5_history_37 (by decide) (fun c37 => ?_) (fun c37 => ?_)
    · have hw := hw.2 c37
      refine lv_iload_n hx hb dX5_history_42 rfl (lv_at hl 2 rfl) ?_
      refine lv_aload_n hx hb dX5_history_43 rfl (lv_at hl 0 rfl) ?_
      refine va_get (D := D) (ci := 6) (v := .ref (a 10)) (C := RX5) (T := TX5) (N := 24) hx hb hts iRX5 hown hK hP 0 rfl rfl 10 (by decide) (hts (.fieldLink RX5 39 "LeadlightModel" "things" "[I") (List.mem_of_getElem? (i := 2) rfl)) (fun _ h9 => h9) rfl dX5_history_44 ?_
      refine lv_iload_n hx hb dX5_history_47 rfl (lv_at hl 1 rfl) ?_
      obtain ⟨hi_48, hw⟩ := hw
      refine va_iald hx hb hK hP 1 0 rfl rfl hi_48 dX5_history_48 ?_
      refine lv_icmp_ge (tgt := 66) hx hb dX5_history_49 (by decide) (fun c49 => ?_) (fun c49 => ?_)
      · have hw := hw.1 c49
        refine lv_iconst (v := (-1)) hx hb dX5_history_66 (by decide) ?_
        exact RT (-1) v_thrown_c34 _ _ _ _ dX5_history_67 hw hP hD hS
      · have hw := hw.2 c49
        refine lv_aload_n hx hb dX5_history_52 rfl (lv_at hl 0 rfl) ?_
        refine va_get (D := D) (ci := 6) (v := .ref (a 11)) (C := RX5) (T := TX5) (N := 24) hx hb hts iRX5 hown hK hP 0 rfl rfl 11 (by decide) (hts (.fieldLink RX5 42 "LeadlightModel" "history" "[I") (List.mem_of_getElem? (i := 3) rfl)) (fun _ h9 => h9) rfl dX5_history_53 ?_
        refine lv_bipush (v := 20) hx hb dX5_history_56 (by decide) ?_
        refine lv_iload_n hx hb dX5_history_58 rfl (lv_at hl 1 rfl) ?_
        refine lv_imul hx hb dX5_history_59 ?_
        refine lv_iload_n hx hb dX5_history_60 rfl (lv_at hl 2 rfl) ?_
        refine lv_iadd hx hb dX5_history_61 ?_
        obtain ⟨hi_62, hw⟩ := hw
        refine va_iald hx hb hK hP 2 0 rfl rfl hi_62 dX5_history_62 ?_
        refine lv_goto (tgt := 67) hx hb dX5_history_63 (by decide) ?_
        exact RT (v_history ((20 * p1) + p2).toNatClampNeg) v_thrown_c34 _ _ _ _ dX5_history_67 hw hP hD hS
    · have hw := hw.1 c37
      refine lv_iconst (v := 0) hx hb dX5_history_40 (by decide) ?_
      exact RT 0 v_thrown_c34 _ _ _ _ dX5_history_41 hw hP hD hS
  have J23 : ∀ (s0_j23 : Int32) , wp_X5_history_23 v_thrown v_made v_things v_history p1 p2 post s0_j23 → ∀ (H : Heap) (locs : List Loc) (ls : Array Slot), va_P D vwCl (W_X5_history h a cI cJ cZ v_thrown v_made v_things v_history v_heart v_width v_sheets v_covered) H → va_D A (W_X5_history h a cI cJ cZ v_thrown v_made v_things v_history v_heart v_width v_sheets v_covered) → va_S A s.heap H locs → lv_has ls 4 [(0, .ref h), (1, .int p1), (2, .int p2)] → W p l e rm_X5_history s m args below meth c H locs 0 0 QQ (F0 m 23 ls [.int s0_j23]) := by
    intro s0_j23 hw H locs ls hP hD hS hl
    unfold wp_X5_history_23 at hw
    refine lv_istore_n (lv' := [(3, .int s0_j23), (0, .ref h), (1, .int p1), (2, .int p2)]) hx hb dX5_history_23 rfl hl (by decide) rfl (fun ls hl => ?_)
    refine lv_aload_n hx hb dX5_history_24 rfl (lv_at hl 1 rfl) ?_
    refine lv_iload_n hx hb dX5_history_25 rfl (lv_at hl 0 rfl) ?_
    refine lv_if_eq (tgt := 33) hx hb dX5_history_26 (by decide) (fun c26 => ?_) (fun c26 => ?_)
    · have hw := hw.1 c26
      refine lv_iconst (v := 1) hx hb dX5_history_33 (by decide) ?_
      exact J34 1 hw _ _ ls hP hD hS (lv_sub hl [1, 2, 3] rfl)
    · have hw := hw.2 c26
      refine lv_iconst (v := 0) hx hb dX5_history_29 (by decide) ?_
      refine lv_goto (tgt := 34) hx hb dX5_history_30 (by decide) ?_
      exact J34 0 hw _ _ ls hP hD hS (lv_sub hl [1, 2, 3] rfl)
  refine lv_iload_n hx hb dX5_history_0 rfl (lv_at hl 1 rfl) ?_
  refine lv_iconst (v := 0) hx hb dX5_history_1 (by decide) ?_
  refine lv_aload_n hx hb dX5_history_2 rfl (lv_at hl 0 rfl) ?_
  refine va_get (D := D) (ci := 6) (v := .int v_made) (C := RX5) (T := TX5) (N := 24) hx hb hts iRX5 hown hK hP 0 rfl rfl 1 (by decide) (hts (.fieldLink RX5 7 "LeadlightModel" "made" "I") (List.mem_of_getElem? (i := 1) rfl)) (fun _ h9 => h9) rfl dX5_history_3 ?_
  refine lv_iconst (v := 1) hx hb dX5_history_6 (by decide) ?_
  refine lv_isub hx hb dX5_history_7 ?_
  refine af_i (X := (W_X5_history h a cI cJ cZ v_thrown v_made v_things v_history v_heart v_width v_sheets v_covered)) (pl := []) (cx := ([] : va_W)) (w1 := fun (u : Unit) => ([] : va_W)) (X' := fun (u : Unit) => (W_X5_history h a cI cJ cZ v_thrown v_made v_things v_history v_heart v_width v_sheets v_covered)) hP hD hS hA [] [0, 1, 2] [0, 1, 2] rfl rfl (by decide) (by decide) (fun u => rfl) (by decide) (va_runS (As := [.int p1, .int 0, .int (v_made - 1)]) (rest := []) ⟨hx, hb, hml, hown, hts⟩ (c_X5_in l D cI cJ cZ cO H.size p1 0 (v_made - 1) _ hw) (va_cwS 3 hts gX5_history_X5_in rfl rfl rfl (by decide +kernel) ⟨Nat.le_of_ble_eq_true rfl, Nat.le_of_ble_eq_true rfl⟩) (preS (X := (W_X5_history h a cI cJ cZ v_thrown v_made v_things v_history v_heart v_width v_sheets v_covered)) (pl := []) (cx := ([] : va_W)) hK hE hP hD [] (by decide) rfl) rfl rfl hl.1 rfl (lv_room (Nat.le_of_ble_eq_true rfl)) dX5_history_8 ⟨Nat.zero_le _, Nat.zero_le _⟩) (fun r_8 _ H locs hw hP hD hS => ?_)
  try dsimp only at hw
  have hP : va_P D vwCl (W_X5_history h a cI cJ cZ v_thrown v_made v_things v_history v_heart v_width v_sheets v_covered) H := hP
  have hD : va_D A (W_X5_history h a cI cJ cZ v_thrown v_made v_things v_history v_heart v_width v_sheets v_covered) := hD
  refine lv_if_eq (tgt := 22) hx hb dX5_history_11 (by decide) (fun c11 => ?_) (fun c11 => ?_)
  · have hw := hw.1 c11
    refine lv_iconst (v := 0) hx hb dX5_history_22 (by decide) ?_
    exact J23 0 hw _ _ ls hP hD hS (lv_sub hl [0, 1, 2] rfl)
  · have hw := hw.2 c11
    refine lv_iload_n hx hb dX5_history_14 rfl (lv_at hl 2 rfl) ?_
    refine lv_if_lt (tgt := 22) hx hb dX5_history_15 (by decide) (fun c15 => ?_) (fun c15 => ?_)
    · have hw := hw.1 c15
      refine lv_iconst (v := 0) hx hb dX5_history_22 (by decide) ?_
      exact J23 0 hw _ _ ls hP hD hS (lv_sub hl [0, 1, 2] rfl)
    · have hw := hw.2 c15
      refine lv_iconst (v := 1) hx hb dX5_history_18 (by decide) ?_
      refine lv_goto (tgt := 23) hx hb dX5_history_19 (by decide) ?_
      exact J23 1 hw _ _ ls hP hD hS (lv_sub hl [0, 1, 2] rfl)
