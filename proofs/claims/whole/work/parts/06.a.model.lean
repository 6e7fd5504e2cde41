/-! printed by wip/whole/gen: X5_thrown X5_goesWell X5_in X5_isPiece X5_isCell X5_isLine X5_note X5_isBeyond X5_setSide X5_setPiece X5_beside X5_isOne X5_isTight X5_isSquare X5_cut X5_isTwo -/
abbrev rm_X5_thrown : Room := { frames := 0, cells := 0, slots := 0, locals := 0 }
abbrev W_X5_thrown (h : Nat) (a : Nat → Nat) (cI cJ cZ : ClassId) (v_thrown : Int32) (v_made : Int32) (v_heart : Int32) (v_width : Int32) (v_sheets : Int32) (v_covered : Int32) : va_W := [(h, .inr (6, [.int v_thrown, .int v_made, .ref (a 2), .ref (a 3), .ref (a 4), .ref (a 5), .ref (a 6), .ref (a 7), .ref (a 8), .ref (a 9), .ref (a 10), .ref (a 11), .int v_heart, .int v_width, .ref (a 14), .ref (a 15), .ref (a 16), .ref (a 17), .ref (a 18), .ref (a 19), .ref (a 20), .ref (a 21), .int v_sheets, .int v_covered]))]
def wp_X5_thrown (v_thrown : Int32) (post : Int32 → Prop) : Prop := post v_thrown
set_option maxHeartbeats 4000000 in
set_option maxRecDepth 100000 in
theorem c_X5_thrown (l : Launch) (D : va_G) (cI cJ cZ cO : ClassId) (h : Nat) (a : Nat → Nat) (sz : Nat) (v_thrown : Int32) (v_made : Int32) (v_heart : Int32) (v_width : Int32) (v_sheets : Int32) (v_covered : Int32) (post : Int32 → Prop) (hw : wp_X5_thrown v_thrown post) : Met l yX5_thrown wsX5_thrown rm_X5_thrown (va_Pc [.ref h] (PRE D cI cJ cZ cO (W_X5_thrown h a cI cJ cZ v_thrown v_made v_heart v_width v_sheets v_covered) sz)) (va_Qi (fun r (_ : Unit) => post r) (fun u t => POST D (va_A (W_X5_thrown h a cI cJ cZ v_thrown v_made v_heart v_width v_sheets v_covered) sz) (W_X5_thrown h a cI cJ cZ v_thrown v_made v_heart v_width v_sheets v_covered) t) (va_A (W_X5_thrown h a cI cJ cZ v_thrown v_made v_heart v_width v_sheets v_covered) sz)) 0 0 (va_A (W_X5_thrown h a cI cJ cZ v_thrown v_made v_heart v_width v_sheets v_covered) sz) := by
  refine met_go (cc := cX5_thrown) (maxL := 1) (ret := some .int) RX5 rfl (by decide) rfl (Nat.le_of_ble_eq_true rfl) ?_
  intro p e s m args below meth c ls hx hb hr hts hown hlocks hin hml hsz hP hK hE hD hA hS hl
  have iRX5 : ∀ w ∈ u_ws RX5 TX5 24, w ∈ wsX5_thrown := mem_seg 2 24 rfl
  generalize va_A (W_X5_thrown h a cI cJ cZ v_thrown v_made v_heart v_width v_sheets v_covered) sz = A at hD hA hS ⊢
  have RT : ∀ (v : Int32) (u : Unit) (H : Heap) (locs : List Loc) (pc : Nat) (ls : Array Slot), decode cX5_thrown pc = .ok (.ireturn, 1) → post v → va_P D vwCl (W_X5_thrown h a cI cJ cZ v_thrown v_made v_heart v_width v_sheets v_covered) H → va_D A (W_X5_thrown h a cI cJ cZ v_thrown v_made v_heart v_width v_sheets v_covered) → va_S A s.heap H locs → W p l e rm_X5_thrown s m args below meth c H locs 0 0 (MQ below (va_Qi (fun r (_ : Unit) => post r) (fun u t => POST D A (W_X5_thrown h a cI cJ cZ v_thrown v_made v_heart v_width v_sheets v_covered) t) A) args s 0 0 A) (F0 m pc ls [.int v]) := fun v u H locs pc ls d g1 g2 g3 g4 => rt_i (Wf := fun u => (W_X5_thrown h a cI cJ cZ v_thrown v_made v_heart v_width v_sheets v_covered)) u hx hb hr hlocks g1 g2 g3 g4 d
  generalize (MQ below (va_Qi (fun r (_ : Unit) => post r) (fun u t => POST D A (W_X5_thrown h a cI cJ cZ v_thrown v_made v_heart v_width v_sheets v_covered) t) A) args s 0 0 A) = QQ at RT ⊢
  have hl : lv_has ls 1 [(0, .ref h)] := hl
  have hP : va_P D vwCl (W_X5_thrown h a cI cJ cZ v_thrown v_made v_heart v_width v_sheets v_covered) s.heap := hP
  unfold wp_X5_thrown at hw
  suffices GO : ∀ (H : Heap) (locs : List Loc), va_P D vwCl (W_X5_thrown h a cI cJ cZ v_thrown v_made v_heart v_width v_sheets v_covered) H → va_S A s.heap H locs → W p l e rm_X5_thrown s m args below meth c H locs 0 0 QQ (F0 m 0 ls []) from GO _ _ hP hS
  clear hsz hP hS
  intro H locs hP hS
  refine lv_aload_n hx hb dX5_thrown_0 rfl (lv_at hl 0 rfl) ?_
  refine va_get (D := D) (ci := 6) (v := .int v_thrown) (C := RX5) (T := TX5) (N := 24) hx hb hts iRX5 hown hK hP 0 rfl rfl 0 (by decide) (hts (.fieldLink RX5 79 "LeadlightModel" "thrown" "I") (List.mem_of_getElem? (i := 1) rfl)) (fun _ h9 => h9) rfl dX5_thrown_1 ?_
  exact RT v_thrown () _ _ _ _ dX5_thrown_4 hw hP hD hS
abbrev rm_X5_goesWell : Room := { frames := 0, cells := 0, slots := 0, locals := 0 }
abbrev W_X5_goesWell (h : Nat) (a : Nat → Nat) (cI cJ cZ : ClassId) (v_thrown : Int32) (v_made : Int32) (v_heart : Int32) (v_width : Int32) (v_sheets : Int32) (v_covered : Int32) : va_W := [(h, .inr (6, [.int v_thrown, .int v_made, .ref (a 2), .ref (a 3), .ref (a 4), .ref (a 5), .ref (a 6), .ref (a 7), .ref (a 8), .ref (a 9), .ref (a 10), .ref (a 11), .int v_heart, .int v_width, .ref (a 14), .ref (a 15), .ref (a 16), .ref (a 17), .ref (a 18), .ref (a 19), .ref (a 20), .ref (a 21), .int v_sheets, .int v_covered]))]
def wp_X5_goesWell (v_thrown : Int32) (p1 : Int32) (post : Int32 → Int32 → Prop) : Prop := ∀ v_thrown_t2 : Int32, v_thrown_t2 = p1 → (p1 = 0 → post 1 v_thrown_t2) ∧ (¬ p1 = 0 → post 0 v_thrown_t2)
set_option maxHeartbeats 4000000 in
set_option maxRecDepth 100000 in
theorem c_X5_goesWell (l : Launch) (D : va_G) (cI cJ cZ cO : ClassId) (h : Nat) (a : Nat → Nat) (sz : Nat) (v_thrown : Int32) (v_made : Int32) (v_heart : Int32) (v_width : Int32) (v_sheets : Int32) (v_covered : Int32) (p1 : Int32) (post : Int32 → Int32 → Prop) (hw : wp_X5_goesWell v_thrown p1 post) : Met l yX5_goesWell wsX5_goesWell rm_X5_goesWell (va_Pc [.ref h, .int p1] (PRE D cI cJ cZ cO (W_X5_goesWell h a cI cJ cZ v_thrown v_made v_heart v_width v_sheets v_covered) sz)) (va_Qi (fun r (u : Int32) => post r u) (fun u t => POST D (va_A (W_X5_goesWell h a cI cJ cZ v_thrown v_made v_heart v_width v_sheets v_covered) sz) (W_X5_goesWell h a cI cJ cZ u v_made v_heart v_width v_sheets v_covered) t) (va_A (W_X5_goesWell h a cI cJ cZ v_thrown v_made v_heart v_width v_sheets v_covered) sz)) 0 0 (va_A (W_X5_goesWell h a cI cJ cZ v_thrown v_made v_heart v_width v_sheets v_covered) sz) := by
  refine met_go (cc := cX5_goesWell) (maxL := 2) (ret := some .boolean) RX5 rfl (by decide) rfl (Nat.le_of_ble_eq_true rfl) ?_
  intro p e s m args below meth c ls hx hb hr hts hown hlocks hin hml hsz hP hK hE hD hA hS hl
  have iRX5 : ∀ w ∈ u_ws RX5 TX5 24, w ∈ wsX5_goesWell := mem_seg 2 24 rfl
  generalize va_A (W_X5_goesWell h a cI cJ cZ v_thrown v_made v_heart v_width v_sheets v_covered) sz = A at hD hA hS ⊢
  have RT : ∀ (v : Int32) (u : Int32) (H : Heap) (locs : List Loc) (pc : Nat) (ls : Array Slot), decode cX5_goesWell pc = .ok (.ireturn, 1) → (v = 0 ∨ v = 1) → post v u → va_P D vwCl (W_X5_goesWell h a cI cJ cZ u v_made v_heart v_width v_sheets v_covered) H → va_D A (W_X5_goesWell h a cI cJ cZ u v_made v_heart v_width v_sheets v_covered) → va_S A s.heap H locs → W p l e rm_X5_goesWell s m args below meth c H locs 0 0 (MQ below (va_Qi (fun r (u : Int32) => post r u) (fun u t => POST D A (W_X5_goesWell h a cI cJ cZ u v_made v_heart v_width v_sheets v_covered) t) A) args s 0 0 A) (F0 m pc ls [.int v]) := fun v u H locs pc ls d g0 g1 g2 g3 g4 => rt_z (Wf := fun u => (W_X5_goesWell h a cI cJ cZ u v_made v_heart v_width v_sheets v_covered)) u hx hb hr hlocks g0 g1 g2 g3 g4 d
  generalize (MQ below (va_Qi (fun r (u : Int32) => post r u) (fun u t => POST D A (W_X5_goesWell h a cI cJ cZ u v_made v_heart v_width v_sheets v_covered) t) A) args s 0 0 A) = QQ at RT ⊢
  have hl : lv_has ls 2 [(0, .ref h), (1, .int p1)] := hl
  have hP : va_P D vwCl (W_X5_goesWell h a cI cJ cZ v_thrown v_made v_heart v_width v_sheets v_covered) s.heap := hP
  unfold wp_X5_goesWell at hw
  suffices GO : ∀ (H : Heap) (locs : List Loc), va_P D vwCl (W_X5_goesWell h a cI cJ cZ v_thrown v_made v_heart v_width v_sheets v_covered) H → va_S A s.heap H locs → W p l e rm_X5_goesWell s m args below meth c H locs 0 0 QQ (F0 m 0 ls []) from GO _ _ hP hS
  clear hsz hP hS
  intro H locs hP hS
  refine lv_aload_n hx hb dX5_goesWell_0 rfl (lv_at hl 0 rfl) ?_
  refine lv_iload_n hx hb dX5_goesWell_1 rfl (lv_at hl 1 rfl) ?_
  refine lv_topi (fun v_thrown_t2 ev_thrown_t2 => ?_)
  have hw := hw v_thrown_t2 ev_thrown_t2
  refine va_put (D := D) (ci := 6) (v := .int v_thrown_t2) (ty := .int) (C := RX5) (T := TX5) (N := 24) hx hb hts iRX5 tyX5 tyX5_ok nmX5 hown hK hP hD hS 0 rfl rfl 0 (by decide) (hts (.fieldLink RX5 79 "LeadlightModel" "thrown" "I") (List.mem_of_getElem? (i := 1) rfl)) (fun _ h9 => h9) rfl (by decide +kernel) rfl rfl (Nat.le_of_ble_eq_true rfl) dX5_goesWell_2 (fun H locs hP hD hS => ?_)
  have hP : va_P D vwCl (W_X5_goesWell h a cI cJ cZ v_thrown_t2 v_made v_heart v_width v_sheets v_covered) H := hP
  have hD : va_D A (W_X5_goesWell h a cI cJ cZ v_thrown_t2 v_made v_heart v_width v_sheets v_covered) := hD
  refine lv_iload_n hx hb dX5_goesWell_5 rfl (lv_at hl 1 rfl) ?_
  refine lv_if_ne (tgt := 13) hx hb dX5_goesWell_6 (by decide) (fun c6 => ?_) (fun c6 => ?_)
  · have hw := hw.2 c6
    refine lv_iconst (v := 0) hx hb dX5_goesWell_13 (by decide) ?_
    exact RT 0 v_thrown_t2 _ _ _ _ dX5_goesWell_14 (Or.inl rfl) hw hP hD hS
  · have hw := hw.1 c6
    refine lv_iconst (v := 1) hx hb dX5_goesWell_9 (by decide) ?_
    refine lv_goto (tgt := 14) hx hb dX5_goesWell_10 (by decide) ?_
    exact RT 1 v_thrown_t2 _ _ _ _ dX5_goesWell_14 (Or.inr rfl) hw hP hD hS
abbrev rm_X5_in : Room := { frames := 0, cells := 0, slots := 0, locals := 0 }
def wp_X5_in (p1 : Int32) (p2 : Int32) (p3 : Int32) (post : Int32 → Prop) : Prop := (p1 < p2 → post 0) ∧ (¬ p1 < p2 → (p3 < p1 → post 0) ∧ (¬ p3 < p1 → post 1))
set_option maxHeartbeats 4000000 in
set_option maxRecDepth 100000 in
theorem c_X5_in (l : Launch) (D : va_G) (cI cJ cZ cO : ClassId) (sz : Nat) (p1 : Int32) (p2 : Int32) (p3 : Int32) (post : Int32 → Prop) (hw : wp_X5_in p1 p2 p3 post) : Met l yX5_in wsX5_in rm_X5_in (va_Pc [.int p1, .int p2, .int p3] (PRE D cI cJ cZ cO ([] : va_W) sz)) (va_Qi (fun r (_ : Unit) => post r) (fun u t => POST D (va_A ([] : va_W) sz) ([] : va_W) t) (va_A ([] : va_W) sz)) 0 0 (va_A ([] : va_W) sz) := by
  refine met_go (cc := cX5_in) (maxL := 3) (ret := some .boolean) RX5 rfl (by decide) rfl (Nat.le_of_ble_eq_true rfl) ?_
  intro p e s m args below meth c ls hx hb hr hts hown hlocks hin hml hsz hP hK hE hD hA hS hl
  generalize va_A ([] : va_W) sz = A at hD hA hS ⊢
  have RT : ∀ (v : Int32) (u : Unit) (H : Heap) (locs : List Loc) (pc : Nat) (ls : Array Slot), decode cX5_in pc = .ok (.ireturn, 1) → (v = 0 ∨ v = 1) → post v → va_P D vwCl ([] : va_W) H → va_D A ([] : va_W) → va_S A s.heap H locs → W p l e rm_X5_in s m args below meth c H locs 0 0 (MQ below (va_Qi (fun r (_ : Unit) => post r) (fun u t => POST D A ([] : va_W) t) A) args s 0 0 A) (F0 m pc ls [.int v]) := fun v u H locs pc ls d g0 g1 g2 g3 g4 => rt_z (Wf := fun u => ([] : va_W)) u hx hb hr hlocks g0 g1 g2 g3 g4 d
  generalize (MQ below (va_Qi (fun r (_ : Unit) => post r) (fun u t => POST D A ([] : va_W) t) A) args s 0 0 A) = QQ at RT ⊢
  have hl : lv_has ls 3 [(0, .int p1), (1, .int p2), (2, .int p3)] := hl
  have hP : va_P D vwCl ([] : va_W) s.heap := hP
  unfold wp_X5_in at hw
  suffices GO : ∀ (H : Heap) (locs : List Loc), va_P D vwCl ([] : va_W) H → va_S A s.heap H locs → W p l e rm_X5_in s m args below meth c H locs 0 0 QQ (F0 m 0 ls []) from GO _ _ hP hS
  clear hsz hP hS
  intro H locs hP hS
  refine lv_iload_n hx hb dX5_in_0 rfl (lv_at hl 0 rfl) ?_
  refine lv_iload_n hx hb dX5_in_1 rfl (lv_at hl 1 rfl) ?_
  refine lv_icmp_lt (tgt := 14) hx hb dX5_in_2 (by decide) (fun c2 => ?_) (fun c2 => ?_)
  · have hw := hw.1 c2
    refine lv_iconst (v := 0) hx hb dX5_in_14 (by decide) ?_
    exact RT 0 () _ _ _ _ dX5_in_15 (Or.inl rfl) hw hP hD hS
  · have hw := hw.2 c2
    refine lv_iload_n hx hb dX5_in_5 rfl (lv_at hl 0 rfl) ?_
    refine lv_iload_n hx hb dX5_in_6 rfl (lv_at hl 2 rfl) ?_
    refine lv_icmp_gt (tgt := 14) hx hb dX5_in_7 (by decide) (fun c7 => ?_) (fun c7 => ?_)
    · have hw := hw.1 c7
      refine lv_iconst (v := 0) hx hb dX5_in_14 (by decide) ?_
      exact RT 0 () _ _ _ _ dX5_in_15 (Or.inl rfl) hw hP hD hS
    · have hw := hw.2 c7
      refine lv_iconst (v := 1) hx hb dX5_in_10 (by decide) ?_
      refine lv_goto (tgt := 15) hx hb dX5_in_11 (by decide) ?_
      exact RT 1 () _ _ _ _ dX5_in_15 (Or.inr rfl) hw hP hD hS
abbrev rm_X5_isPiece : Room := { frames := 1, cells := 0, slots := 0, locals := 22 }
abbrev W_X5_isPiece (h : Nat) (a : Nat → Nat) (cI cJ cZ : ClassId) (v_thrown : Int32) (v_made : Int32) (v_many : Nat → Int32) (v_heart : Int32) (v_width : Int32) (v_sheets : Int32) (v_covered : Int32) : va_W := [(h, .inr (6, [.int v_thrown, .int v_made, .ref (a 2), .ref (a 3), .ref (a 4), .ref (a 5), .ref (a 6), .ref (a 7), .ref (a 8), .ref (a 9), .ref (a 10), .ref (a 11), .int v_heart, .int v_width, .ref (a 14), .ref (a 15), .ref (a 16), .ref (a 17), .ref (a 18), .ref (a 19), .ref (a 20), .ref (a 21), .int v_sheets, .int v_covered])), ((a 3), .inl (cI, 60, .inl v_many))]
def wp_X5_isPiece (v_made : Int32) (v_many : Nat → Int32) (p1 : Int32) (post : Int32 → Prop) : Prop := wp_X5_in p1 0 (v_made - 1) (fun r_8 => (r_8 = 0 → post 0) ∧ (¬ r_8 = 0 → vp_in p1 60 ∧ (((v_many p1.toNatClampNeg) ≤ 0 → post 0) ∧ (¬ (v_many p1.toNatClampNeg) ≤ 0 → post 1))))
set_option maxHeartbeats 4000000 in
set_option maxRecDepth 100000 in
theorem c_X5_isPiece (l : Launch) (D : va_G) (cI cJ cZ cO : ClassId) (h : Nat) (a : Nat → Nat) (sz : Nat) (v_thrown : Int32) (v_made : Int32) (v_many : Nat → Int32) (v_heart : Int32) (v_width : Int32) (v_sheets : Int32) (v_covered : Int32) (p1 : Int32) (post : Int32 → Prop) (hw : wp_X5_isPiece v_made v_many p1 post) : Met l yX5_isPiece wsX5_isPiece rm_X5_isPiece (va_Pc [.ref h, .int p1] (PRE D cI cJ cZ cO (W_X5_isPiece h a cI cJ cZ v_thrown v_made v_many v_heart v_width v_sheets v_covered) sz)) (va_Qi (fun r (_ : Unit) => post r) (fun u t => POST D (va_A (W_X5_isPiece h a cI cJ cZ v_thrown v_made v_many v_heart v_width v_sheets v_covered) sz) (W_X5_isPiece h a cI cJ cZ v_thrown v_made v_many v_heart v_width v_sheets v_covered) t) (va_A (W_X5_isPiece h a cI cJ cZ v_thrown v_made v_many v_heart v_width v_sheets v_covered) sz)) 0 0 (va_A (W_X5_isPiece h a cI cJ cZ v_thrown v_made v_many v_heart v_width v_sheets v_covered) sz) := by
  refine met_go (cc := cX5_isPiece) (maxL := 2) (ret := some .boolean) RX5 rfl (by decide) rfl (Nat.le_of_ble_eq_true rfl) ?_
  intro p e s m args below meth c ls hx hb hr hts hown hlocks hin hml hsz hP hK hE hD hA hS hl
  have iRX5 : ∀ w ∈ u_ws RX5 TX5 24, w ∈ wsX5_isPiece := mem_seg 7 24 rfl
  generalize va_A (W_X5_isPiece h a cI cJ cZ v_thrown v_made v_many v_heart v_width v_sheets v_covered) sz = A at hD hA hS ⊢
  have RT : ∀ (v : Int32) (u : Unit) (H : Heap) (locs : List Loc) (pc : Nat) (ls : Array Slot), decode cX5_isPiece pc = .ok (.ireturn, 1) → (v = 0 ∨ v = 1) → post v → va_P D vwCl (W_X5_isPiece h a cI cJ cZ v_thrown v_made v_many v_heart v_width v_sheets v_covered) H → va_D A (W_X5_isPiece h a cI cJ cZ v_thrown v_made v_many v_heart v_width v_sheets v_covered) → va_S A s.heap H locs → W p l e rm_X5_isPiece s m args below meth c H locs 0 0 (MQ below (va_Qi (fun r (_ : Unit) => post r) (fun u t => POST D A (W_X5_isPiece h a cI cJ cZ v_thrown v_made v_many v_heart v_width v_sheets v_covered) t) A) args s 0 0 A) (F0 m pc ls [.int v]) := fun v u H locs pc ls d g0 g1 g2 g3 g4 => rt_z (Wf := fun u => (W_X5_isPiece h a cI cJ cZ v_thrown v_made v_many v_heart v_width v_sheets v_covered)) u hx hb hr hlocks g0 g1 g2 g3 g4 d
  generalize (MQ below (va_Qi (fun r (_ : Unit) => post r) (fun u t => POST D A (W_X5_isPiece h a cI cJ cZ v_thrown v_made v_many v_heart v_width v_sheets v_covered) t) A) args s 0 0 A) = QQ at RT ⊢
  have hl : lv_has ls 2 [(0, .ref h), (1, .int p1)] := hl
  have hP : va_P D vwCl (W_X5_isPiece h a cI cJ cZ v_thrown v_made v_many v_heart v_width v_sheets v_covered) s.heap := hP
  unfold wp_X5_isPiece at hw
  suffices GO : ∀ (H : Heap) (locs : List Loc), va_P D vwCl (W_X5_isPiece h a cI cJ cZ v_thrown v_made v_many v_heart v_width v_sheets v_covered) H → va_S A s.heap H locs → W p l e rm_X5_isPiece s m args below meth c H locs 0 0 QQ (F0 m 0 ls []) from GO _ _ hP hS
  clear hsz hP hS
  intro H locs hP hS
  refine lv_iload_n hx hb dX5_isPiece_0 rfl (lv_at hl 1 rfl) ?_
  refine lv_iconst (v := 0) hx hb dX5_isPiece_1 (by decide) ?_
  refine lv_aload_n hx hb dX5_isPiece_2 rfl (lv_at hl 0 rfl) ?_
  refine va_get (D := D) (ci := 6) (v := .int v_made) (C := RX5) (T := TX5) (N := 24) hx hb hts iRX5 hown hK hP 0 rfl rfl 1 (by decide) (hts (.fieldLink RX5 7 "LeadlightModel" "made" "I") (List.mem_of_getElem? (i := 1) rfl)) (fun _ h9 => h9) rfl dX5_isPiece_3 ?_
  refine lv_iconst (v := 1) hx hb dX5_isPiece_6 (by decide) ?_
  refine lv_isub hx hb dX5_isPiece_7 ?_
  refine af_i (X := (W_X5_isPiece h a cI cJ cZ v_thrown v_made v_many v_heart v_width v_sheets v_covered)) (pl := []) (cx := ([] : va_W)) (w1 := fun (u : Unit) => ([] : va_W)) (X' := fun (u : Unit) => (W_X5_isPiece h a cI cJ cZ v_thrown v_made v_many v_heart v_width v_sheets v_covered)) hP hD hS hA [] [0, 1] [0, 1] rfl rfl (by decide) (by decide) (fun u => rfl) (by decide) (va_runS (As := [.int p1, .int 0, .int (v_made - 1)]) (rest := []) ⟨hx, hb, hml, hown, hts⟩ (c_X5_in l D cI cJ cZ cO H.size p1 0 (v_made - 1) _ hw) (va_cwS 3 hts gX5_isPiece_X5_in rfl rfl rfl (by decide +kernel) ⟨Nat.le_of_ble_eq_true rfl, Nat.le_of_ble_eq_true rfl⟩) (preS (X := (W_X5_isPiece h a cI cJ cZ v_thrown v_made v_many v_heart v_width v_sheets v_covered)) (pl := []) (cx := ([] : va_W)) hK hE hP hD [] (by decide) rfl) rfl rfl hl.1 rfl (lv_room (Nat.le_of_ble_eq_true rfl)) dX5_isPiece_8 ⟨Nat.zero_le _, Nat.zero_le _⟩) (fun r_8 _ H locs hw hP hD hS => ?_)
  try dsimp only at hw
  have hP : va_P D vwCl (W_X5_isPiece h a cI cJ cZ v_thrown v_made v_many v_heart v_width v_sheets v_covered) H := hP
  have hD : va_D A (W_X5_isPiece h a cI cJ cZ v_thrown v_made v_many v_heart v_width v_sheets v_covered) := hD
  refine lv_if_eq (tgt := 27) hx hb dX5_isPiece_11 (by decide) (fun c11 => ?_) (fun c11 => ?_)
  · have hw := hw.1 c11
    refine lv_iconst (v := 0) hx hb dX5_isPiece_27 (by decide) ?_
    exact RT 0 () _ _ _ _ dX5_isPiece_28 (Or.inl rfl) hw hP hD hS
  · have hw := hw.2 c11
    refine lv_aload_n hx hb dX5_isPiece_14 rfl (lv_at hl 0 rfl) ?_
    refine va_get (D := D) (ci := 6) (v := .ref (a 3)) (C := RX5) (T := TX5) (N := 24) hx hb hts iRX5 hown hK hP 0 rfl rfl 3 (by decide) (hts (.fieldLink RX5 17 "LeadlightModel" "many" "[I") (List.mem_of_getElem? (i := 2) rfl)) (fun _ h9 => h9) rfl dX5_isPiece_15 ?_
    refine lv_iload_n hx hb dX5_isPiece_18 rfl (lv_at hl 1 rfl) ?_
    obtain ⟨hi_19, hw⟩ := hw
    refine va_iald hx hb hK hP 1 0 rfl rfl hi_19 dX5_isPiece_19 ?_
    refine lv_if_le (tgt := 27) hx hb dX5_isPiece_20 (by decide) (fun c20 => ?_) (fun c20 => ?_)
    · have hw := hw.1 c20
      refine lv_iconst (v := 0) hx hb dX5_isPiece_27 (by decide) ?_
      exact RT 0 () _ _ _ _ dX5_isPiece_28 (Or.inl rfl) hw hP hD hS
    · have hw := hw.2 c20
      refine lv_iconst (v := 1) hx hb dX5_isPiece_23 (by decide) ?_
      refine lv_goto (tgt := 28) hx hb dX5_isPiece_24 (by decide) ?_
      exact RT 1 () _ _ _ _ dX5_isPiece_28 (Or.inr rfl) hw hP hD hS
abbrev rm_X5_isCell : Room := { frames := 1, cells := 0, slots := 0, locals := 22 }
def wp_X5_isCell (p1 : Int32) (post : Int32 → Prop) : Prop := wp_X5_in p1 0 255 (fun r_5 => (r_5 = 0 ∨ r_5 = 1) ∧ post r_5)
set_option maxHeartbeats 4000000 in
set_option maxRecDepth 100000 in
theorem c_X5_isCell (l : Launch) (D : va_G) (cI cJ cZ cO : ClassId) (sz : Nat) (p1 : Int32) (post : Int32 → Prop) (hw : wp_X5_isCell p1 post) : Met l yX5_isCell wsX5_isCell rm_X5_isCell (va_Pc [.int p1] (PRE D cI cJ cZ cO ([] : va_W) sz)) (va_Qi (fun r (_ : Unit) => post r) (fun u t => POST D (va_A ([] : va_W) sz) ([] : va_W) t) (va_A ([] : va_W) sz)) 0 0 (va_A ([] : va_W) sz) := by
  refine met_go (cc := cX5_isCell) (maxL := 1) (ret := some .boolean) RX5 rfl (by decide) rfl (Nat.le_of_ble_eq_true rfl) ?_
  intro p e s m args below meth c ls hx hb hr hts hown hlocks hin hml hsz hP hK hE hD hA hS hl
  generalize va_A ([] : va_W) sz = A at hD hA hS ⊢
  have RT : ∀ (v : Int32) (u : Unit) (H : Heap) (locs : List Loc) (pc : Nat) (ls : Array Slot), decode cX5_isCell pc = .ok (.ireturn, 1) → (v = 0 ∨ v = 1) → post v → va_P D vwCl ([] : va_W) H → va_D A ([] : va_W) → va_S A s.heap H locs → W p l e rm_X5_isCell s m args below meth c H locs 0 0 (MQ below (va_Qi (fun r (_ : Unit) => post r) (fun u t => POST D A ([] : va_W) t) A) args s 0 0 A) (F0 m pc ls [.int v]) := fun v u H locs pc ls d g0 g1 g2 g3 g4 => rt_z (Wf := fun u => ([] : va_W)) u hx hb hr hlocks g0 g1 g2 g3 g4 d
  generalize (MQ below (va_Qi (fun r (_ : Unit) => post r) (fun u t => POST D A ([] : va_W) t) A) args s 0 0 A) = QQ at RT ⊢
  have hl : lv_has ls 1 [(0, .int p1)] := hl
  have hP : va_P D vwCl ([] : va_W) s.heap := hP
  unfold wp_X5_isCell at hw
  suffices GO : ∀ (H : Heap) (locs : List Loc), va_P D vwCl ([] : va_W) H → va_S A s.heap H locs → W p l e rm_X5_isCell s m args below meth c H locs 0 0 QQ (F0 m 0 ls []) from GO _ _ hP hS
  clear hsz hP hS
  intro H locs hP hS
  refine lv_iload_n hx hb dX5_isCell_0 rfl (lv_at hl 0 rfl) ?_
  refine lv_iconst (v := 0) hx hb dX5_isCell_1 (by decide) ?_
  refine lv_sipush (v := 255) hx hb dX5_isCell_2 (by decide) ?_
  refine af_i (X := ([] : va_W)) (pl := []) (cx := ([] : va_W)) (w1 := fun (u : Unit) => ([] : va_W)) (X' := fun (u : Unit) => ([] : va_W)) hP hD hS hA [] [] [] rfl rfl (by decide) (by decide) (fun u => rfl) (by decide) (va_runS (As := [.int p1, .int 0, .int 255]) (rest := []) ⟨hx, hb, hml, hown, hts⟩ (c_X5_in l D cI cJ cZ cO H.size p1 0 255 _ hw) (va_cwS 3 hts gX5_isCell_X5_in rfl rfl rfl (by decide +kernel) ⟨Nat.le_of_ble_eq_true rfl, Nat.le_of_ble_eq_true rfl⟩) (preS (X := ([] : va_W)) (pl := []) (cx := ([] : va_W)) hK hE hP hD [] (by decide) rfl) rfl rfl hl.1 rfl (lv_room (Nat.le_of_ble_eq_true rfl)) dX5_isCell_5 ⟨Nat.zero_le _, Nat.zero_le _⟩) (fun r_5 _ H locs hw hP hD hS => ?_)
  try dsimp only at hw
  have hP : va_P D vwCl ([] : va_W) H := hP
  have hD : va_D A ([] : va_W) := hD
  exact RT r_5 () _ _ _ _ dX5_isCell_8 hw.1 hw.2 hP hD hS
abbrev rm_X5_isLine : Room := { frames := 1, cells := 0, slots := 0, locals := 22 }
def wp_X5_isLine (p1 : Int32) (post : Int32 → Prop) : Prop := wp_X5_in p1 0 14 (fun r_4 => (r_4 = 0 → wp_X5_in p1 16 30 (fun r_15 => (r_15 = 0 → post 0) ∧ (¬ r_15 = 0 → post 1))) ∧ (¬ r_4 = 0 → post 1))
set_option maxHeartbeats 4000000 in
set_option maxRecDepth 100000 in
theorem c_X5_isLine (l : Launch) (D : va_G) (cI cJ cZ cO : ClassId) (sz : Nat) (p1 : Int32) (post : Int32 → Prop) (hw : wp_X5_isLine p1 post) : Met l yX5_isLine wsX5_isLine rm_X5_isLine (va_Pc [.int p1] (PRE D cI cJ cZ cO ([] : va_W) sz)) (va_Qi (fun r (_ : Unit) => post r) (fun u t => POST D (va_A ([] : va_W) sz) ([] : va_W) t) (va_A ([] : va_W) sz)) 0 0 (va_A ([] : va_W) sz) := by
  refine met_go (cc := cX5_isLine) (maxL := 1) (ret := some .boolean) RX5 rfl (by decide) rfl (Nat.le_of_ble_eq_true rfl) ?_
  intro p e s m args below meth c ls hx hb hr hts hown hlocks hin hml hsz hP hK hE hD hA hS hl
  generalize va_A ([] : va_W) sz = A at hD hA hS ⊢
  have RT : ∀ (v : Int32) (u : Unit) (H : Heap) (locs : List Loc) (pc : Nat) (ls : Array Slot), decode cX5_isLine pc = .ok (.ireturn, 1) → (v = 0 ∨ v = 1) → post v → va_P D vwCl ([] : va_W) H → va_D A ([] : va_W) → va_S A s.heap H locs → W p l e rm_X5_isLine s m args below meth c H locs 0 0 (MQ below (va_Qi (fun r (_ : Unit) => post r) (fun u t => POST D A ([] : va_W) t) A) args s 0 0 A) (F0 m pc ls [.int v]) := fun v u H locs pc ls d g0 g1 g2 g3 g4 => rt_z (Wf := fun u => ([] : va_W)) u hx hb hr hlocks g0 g1 g2 g3 g4 d
  generalize (MQ below (va_Qi (fun r (_ : Unit) => post r) (fun u t => POST D A ([] : va_W) t) A) args s 0 0 A) = QQ at RT ⊢
  have hl : lv_has ls 1 [(0, .int p1)] := hl
  have hP : va_P D vwCl ([] : va_W) s.heap := hP
  unfold wp_X5_isLine at hw
  suffices GO : ∀ (H : Heap) (locs : List Loc), va_P D vwCl ([] : va_W) H → va_S A s.heap H locs → W p l e rm_X5_isLine s m args below meth c H locs 0 0 QQ (F0 m 0 ls []) from GO _ _ hP hS
  clear hsz hP hS
  intro H locs hP hS
  refine lv_iload_n hx hb dX5_isLine_0 rfl (lv_at hl 0 rfl) ?_
  refine lv_iconst (v := 0) hx hb dX5_isLine_1 (by decide) ?_
  refine lv_bipush (v := 14) hx hb dX5_isLine_2 (by decide) ?_
  refine af_i (X := ([] : va_W)) (pl := []) (cx := ([] : va_W)) (w1 := fun (u : Unit) => ([] : va_W)) (X' := fun (u : Unit) => ([] : va_W)) hP hD hS hA [] [] [] rfl rfl (by decide) (by decide) (fun u => rfl) (by decide) (va_runS (As := [.int p1, .int 0, .int 14]) (rest := []) ⟨hx, hb, hml, hown, hts⟩ (c_X5_in l D cI cJ cZ cO H.size p1 0 14 _ hw) (va_cwS 3 hts gX5_isLine_X5_in rfl rfl rfl (by decide +kernel) ⟨Nat.le_of_ble_eq_true rfl, Nat.le_of_ble_eq_true rfl⟩) (preS (X := ([] : va_W)) (pl := []) (cx := ([] : va_W)) hK hE hP hD [] (by decide) rfl) rfl rfl hl.1 rfl (lv_room (Nat.le_of_ble_eq_true rfl)) dX5_isLine_4 ⟨Nat.zero_le _, Nat.zero_le _⟩) (fun r_4 _ H locs hw hP hD hS => ?_)
  try dsimp only at hw
  have hP : va_P D vwCl ([] : va_W) H := hP
  have hD : va_D A ([] : va_W) := hD
  refine lv_if_ne (tgt := 21) hx hb dX5_isLine_7 (by decide) (fun c7 => ?_) (fun c7 => ?_)
  · have hw := hw.2 c7
    refine lv_iconst (v := 1) hx hb dX5_isLine_21 (by decide) ?_
    refine lv_goto (tgt := 26) hx hb dX5_isLine_22 (by decide) ?_
    exact RT 1 () _ _ _ _ dX5_isLine_26 (Or.inr rfl) hw hP hD hS
  · have hw := hw.1 c7
    refine lv_iload_n hx hb dX5_isLine_10 rfl (lv_at hl 0 rfl) ?_
    refine lv_bipush (v := 16) hx hb dX5_isLine_11 (by decide) ?_
    refine lv_bipush (v := 30) hx hb dX5_isLine_13 (by decide) ?_
    refine af_i (X := ([] : va_W)) (pl := []) (cx := ([] : va_W)) (w1 := fun (u : Unit) => ([] : va_W)) (X' := fun (u : Unit) => ([] : va_W)) hP hD hS hA [] [] [] rfl rfl (by decide) (by decide) (fun u => rfl) (by decide) (va_runS (As := [.int p1, .int 16, .int 30]) (rest := []) ⟨hx, hb, hml, hown, hts⟩ (c_X5_in l D cI cJ cZ cO H.size p1 16 30 _ hw) (va_cwS 3 hts gX5_isLine_X5_in rfl rfl rfl (by decide +kernel) ⟨Nat.le_of_ble_eq_true rfl, Nat.le_of_ble_eq_true rfl⟩) (preS (X := ([] : va_W)) (pl := []) (cx := ([] : va_W)) hK hE hP hD [] (by decide) rfl) rfl rfl hl.1 rfl (lv_room (Nat.le_of_ble_eq_true rfl)) dX5_isLine_15 ⟨Nat.zero_le _, Nat.zero_le _⟩) (fun r_15 _ H locs hw hP hD hS => ?_)
    try dsimp only at hw
    have hP : va_P D vwCl ([] : va_W) H := hP
    have hD : va_D A ([] : va_W) := hD
    refine lv_if_eq (tgt := 25) hx hb dX5_isLine_18 (by decide) (fun c18 => ?_) (fun c18 => ?_)
    · have hw := hw.1 c18
      refine lv_iconst (v := 0) hx hb dX5_isLine_25 (by decide) ?_
      exact RT 0 () _ _ _ _ dX5_isLine_26 (Or.inl rfl) hw hP hD hS
    · have hw := hw.2 c18
      refine lv_iconst (v := 1) hx hb dX5_isLine_21 (by decide) ?_
      refine lv_goto (tgt := 26) hx hb dX5_isLine_22 (by decide) ?_
      exact RT 1 () _ _ _ _ dX5_isLine_26 (Or.inr rfl) hw hP hD hS
abbrev rm_X5_note : Room := { frames := 0, cells := 0, slots := 0, locals := 0 }
abbrev W_X5_note (h : Nat) (a : Nat → Nat) (cI cJ cZ : ClassId) (v_thrown : Int32) (v_made : Int32) (v_things : Nat → Int32) (v_history : Nat → Int32) (v_heart : Int32) (v_width : Int32) (v_sheets : Int32) (v_covered : Int32) : va_W := [(h, .inr (6, [.int v_thrown, .int v_made, .ref (a 2), .ref (a 3), .ref (a 4), .ref (a 5), .ref (a 6), .ref (a 7), .ref (a 8), .ref (a 9), .ref (a 10), .ref (a 11), .int v_heart, .int v_width, .ref (a 14), .ref (a 15), .ref (a 16), .ref (a 17), .ref (a 18), .ref (a 19), .ref (a 20), .ref (a 21), .int v_sheets, .int v_covered])), ((a 10), .inl (cI, 60, .inl v_things)), ((a 11), .inl (cI, 1200, .inl v_history))]
def wp_X5_note (v_things : Nat → Int32) (v_history : Nat → Int32) (p1 : Int32) (p2 : Int32) (post : (Nat → Int32) → (Nat → Int32) → Prop) : Prop := vp_in p1 60 ∧ ((20 ≤ (v_things p1.toNatClampNeg) → post v_things v_history) ∧ (¬ 20 ≤ (v_things p1.toNatClampNeg) → vp_in p1 60 ∧ (vp_in ((20 * p1) + (v_things p1.toNatClampNeg)) 1200 ∧ (∀ v_history_t27 : Nat → Int32, v_history_t27 = upd v_history ((20 * p1) + (v_things p1.toNatClampNeg)).toNatClampNeg p2 → vp_in p1 60 ∧ (vp_in p1 60 ∧ (∀ v_things_t37 : Nat → Int32, v_things_t37 = upd v_things p1.toNatClampNeg ((v_things p1.toNatClampNeg) + 1) → post v_things_t37 v_history_t27))))))
set_option maxHeartbeats 4000000 in
set_option maxRecDepth 100000 in
theorem c_X5_note (l : Launch) (D : va_G) (cI cJ cZ cO : ClassId) (h : Nat) (a : Nat → Nat) (sz : Nat) (v_thrown : Int32) (v_made : Int32) (v_things : Nat → Int32) (v_history : Nat → Int32) (v_heart : Int32) (v_width : Int32) (v_sheets : Int32) (v_covered : Int32) (p1 : Int32) (p2 : Int32) (post : (Nat → Int32) → (Nat → Int32) → Prop) (hw : wp_X5_note v_things v_history p1 p2 post) : Met l yX5_note wsX5_note rm_X5_note (va_Pc [.ref h, .int p1, .int p2] (PRE D cI cJ cZ cO (W_X5_note h a cI cJ cZ v_thrown v_made v_things v_history v_heart v_width v_sheets v_covered) sz)) (va_Qv (fun (u : (Nat → Int32) × (Nat → Int32)) => post u.1 u.2) (fun u t => POST D (va_A (W_X5_note h a cI cJ cZ v_thrown v_made v_things v_history v_heart v_width v_sheets v_covered) sz) (W_X5_note h a cI cJ cZ v_thrown v_made u.1 u.2 v_heart v_width v_sheets v_covered) t) (va_A (W_X5_note h a cI cJ cZ v_thrown v_made v_things v_history v_heart v_width v_sheets v_covered) sz)) 0 0 (va_A (W_X5_note h a cI cJ cZ v_thrown v_made v_things v_history v_heart v_width v_sheets v_covered) sz) := by
  refine met_go (cc := cX5_note) (maxL := 3) (ret := none) RX5 rfl (by decide) rfl (Nat.le_of_ble_eq_true rfl) ?_
  intro p e s m args below meth c ls hx hb hr hts hown hlocks hin hml hsz hP hK hE hD hA hS hl
  have iRX5 : ∀ w ∈ u_ws RX5 TX5 24, w ∈ wsX5_note := mem_seg 3 24 rfl
  generalize va_A (W_X5_note h a cI cJ cZ v_thrown v_made v_things v_history v_heart v_width v_sheets v_covered) sz = A at hD hA hS ⊢
  have RT : ∀ (u : (Nat → Int32) × (Nat → Int32)) (H : Heap) (locs : List Loc) (pc : Nat) (ls : Array Slot), decode cX5_note pc = .ok (.return_, 1) → post u.1 u.2 → va_P D vwCl (W_X5_note h a cI cJ cZ v_thrown v_made u.1 u.2 v_heart v_width v_sheets v_covered) H → va_D A (W_X5_note h a cI cJ cZ v_thrown v_made u.1 u.2 v_heart v_width v_sheets v_covered) → va_S A s.heap H locs → W p l e rm_X5_note s m args below meth c H locs 0 0 (MQ below (va_Qv (fun (u : (Nat → Int32) × (Nat → Int32)) => post u.1 u.2) (fun u t => POST D A (W_X5_note h a cI cJ cZ v_thrown v_made u.1 u.2 v_heart v_width v_sheets v_covered) t) A) args s 0 0 A) (F0 m pc ls []) := fun u H locs pc ls d g1 g2 g3 g4 => rt_v (Wf := fun u => (W_X5_note h a cI cJ cZ v_thrown v_made u.1 u.2 v_heart v_width v_sheets v_covered)) u hx hb hr hlocks g1 g2 g3 g4 d
  generalize (MQ below (va_Qv (fun (u : (Nat → Int32) × (Nat → Int32)) => post u.1 u.2) (fun u t => POST D A (W_X5_note h a cI cJ cZ v_thrown v_made u.1 u.2 v_heart v_width v_sheets v_covered) t) A) args s 0 0 A) = QQ at RT ⊢
  have hl : lv_has ls 3 [(0, .ref h), (1, .int p1), (2, .int p2)] := hl
  have hP : va_P D vwCl (W_X5_note h a cI cJ cZ v_thrown v_made v_things v_history v_heart v_width v_sheets v_covered) s.heap := hP
  unfold wp_X5_note at hw
  suffices GO : ∀ (H : Heap) (locs : List Loc), va_P D vwCl (W_X5_note h a cI cJ cZ v_thrown v_made v_things v_history v_heart v_width v_sheets v_covered) H → va_S A s.heap H locs → W p l e rm_X5_note s m args below meth c H locs 0 0 QQ (F0 m 0 ls []) from GO _ _ hP hS
  clear hsz hP hS
  intro H locs hP hS
  refine lv_aload_n hx hb dX5_note_0 rfl (lv_at hl 0 rfl) ?_
  refine va_get (D := D) (ci := 6) (v := .ref (a 10)) (C := RX5) (T := TX5) (N := 24) hx hb hts iRX5 hown hK hP 0 rfl rfl 10 (by decide) (hts (.fieldLink RX5 39 "LeadlightModel" "things" "[I") (List.mem_of_getElem? (i := 1) rfl)) (fun _ h9 => h9) rfl dX5_note_1 ?_
  refine lv_iload_n hx hb dX5_note_4 rfl (lv_at hl 1 rfl) ?_
  obtain ⟨hi_5, hw⟩ := hw
  refine va_iald hx hb hK hP 1 0 rfl rfl hi_5 dX5_note_5 ?_
  refine lv_bipush (v := 20) hx hb dX5_note_6 (by decide) ?_
  refine lv_icmp_ge (tgt := 38) hx hb dX5_note_8 (by decide) (fun c8 => ?_) (fun c8 => ?_)
  · have hw := hw.1 c8
    exact RT (v_things, v_history) _ _ _ _ dX5_note_38 hw hP hD hS
  · have hw := hw.2 c8
    refine lv_aload_n hx hb dX5_note_11 rfl (lv_at hl 0 rfl) ?_
    refine va_get (D := D) (ci := 6) (v := .ref (a 11)) (C := RX5) (T := TX5) (N := 24) hx hb hts iRX5 hown hK hP 0 rfl rfl 11 (by decide) (hts (.fieldLink RX5 42 "LeadlightModel" "history" "[I") (List.mem_of_getElem? (i := 2) rfl)) (fun _ h9 => h9) rfl dX5_note_12 ?_
    refine lv_bipush (v := 20) hx hb dX5_note_15 (by decide) ?_
    refine lv_iload_n hx hb dX5_note_17 rfl (lv_at hl 1 rfl) ?_
    refine lv_imul hx hb dX5_note_18 ?_
    refine lv_aload_n hx hb dX5_note_19 rfl (lv_at hl 0 rfl) ?_
    refine va_get (D := D) (ci := 6) (v := .ref (a 10)) (C := RX5) (T := TX5) (N := 24) hx hb hts iRX5 hown hK hP 0 rfl rfl 10 (by decide) (hts (.fieldLink RX5 39 "LeadlightModel" "things" "[I") (List.mem_of_getElem? (i := 1) rfl)) (fun _ h9 => h9) rfl dX5_note_20 ?_
    refine lv_iload_n hx hb dX5_note_23 rfl (lv_at hl 1 rfl) ?_
    obtain ⟨hi_24, hw⟩ := hw
    refine va_iald hx hb hK hP 1 0 rfl rfl hi_24 dX5_note_24 ?_
    refine lv_iadd hx hb dX5_note_25 ?_
    refine lv_iload_n hx hb dX5_note_26 rfl (lv_at hl 2 rfl) ?_
    obtain ⟨hi_27, hw⟩ := hw
    refine st_i hx hb hK hP hD hS 2 0 rfl rfl hi_27 dX5_note_27 (fun v_history_t27 ev_history_t27 H locs hP hD hS => ?_)
    have hw := hw v_history_t27 ev_history_t27
    have hP : va_P D vwCl (W_X5_note h a cI cJ cZ v_thrown v_made v_things v_history_t27 v_heart v_width v_sheets v_covered) H := hP
    have hD : va_D A (W_X5_note h a cI cJ cZ v_thrown v_made v_things v_history_t27 v_heart v_width v_sheets v_covered) := hD
    refine lv_aload_n hx hb dX5_note_28 rfl (lv_at hl 0 rfl) ?_
    refine va_get (D := D) (ci := 6) (v := .ref (a 10)) (C := RX5) (T := TX5) (N := 24) hx hb hts iRX5 hown hK hP 0 rfl rfl 10 (by decide) (hts (.fieldLink RX5 39 "LeadlightModel" "things" "[I") (List.mem_of_getElem? (i := 1) rfl)) (fun _ h9 => h9) rfl dX5_note_29 ?_
    refine lv_iload_n hx hb dX5_note_32 rfl (lv_at hl 1 rfl) ?_
    refine lv_dup2_11 hx hb dX5_note_33 rfl rfl ?_
    obtain ⟨hi_34, hw⟩ := hw
    refine va_iald hx hb hK hP 1 0 rfl rfl hi_34 dX5_note_34 ?_
    refine lv_iconst (v := 1) hx hb dX5_note_35 (by decide) ?_
    refine lv_iadd hx hb dX5_note_36 ?_
    obtain ⟨hi_37, hw⟩ := hw
    refine st_i hx hb hK hP hD hS 1 0 rfl rfl hi_37 dX5_note_37 (fun v_things_t37 ev_things_t37 H locs hP hD hS => ?_)
    have hw := hw v_things_t37 ev_things_t37
    have hP : va_P D vwCl (W_X5_note h a cI cJ cZ v_thrown v_made v_things_t37 v_history_t27 v_heart v_width v_sheets v_covered) H := hP
    have hD : va_D A (W_X5_note h a cI cJ cZ v_thrown v_made v_things_t37 v_history_t27 v_heart v_width v_sheets v_covered) := hD
    exact RT (v_things_t37, v_history_t27) _ _ _ _ dX5_note_38 hw hP hD hS
abbrev rm_X5_isBeyond : Room := { frames := 0, cells := 0, slots := 0, locals := 0 }
def wp_X5_isBeyond (p1 : Int32) (p2 : Int32) (post : Int32 → Prop) : Prop := (16 ≤ p2 → ((p1 - p1 / 16 * 16) ≤ (p2 - 16) → post 0) ∧ (¬ (p1 - p1 / 16 * 16) ≤ (p2 - 16) → post 1)) ∧ (¬ 16 ≤ p2 → ((p1 / 16) ≤ p2 → post 0) ∧ (¬ (p1 / 16) ≤ p2 → post 1))
set_option maxHeartbeats 4000000 in
set_option maxRecDepth 100000 in
theorem c_X5_isBeyond (l : Launch) (D : va_G) (cI cJ cZ cO : ClassId) (sz : Nat) (p1 : Int32) (p2 : Int32) (post : Int32 → Prop) (hw : wp_X5_isBeyond p1 p2 post) : Met l yX5_isBeyond wsX5_isBeyond rm_X5_isBeyond (va_Pc [.int p1, .int p2] (PRE D cI cJ cZ cO ([] : va_W) sz)) (va_Qi (fun r (_ : Unit) => post r) (fun u t => POST D (va_A ([] : va_W) sz) ([] : va_W) t) (va_A ([] : va_W) sz)) 0 0 (va_A ([] : va_W) sz) := by
  refine met_go (cc := cX5_isBeyond) (maxL := 2) (ret := some .boolean) RX5 rfl (by decide) rfl (Nat.le_of_ble_eq_true rfl) ?_
  intro p e s m args below meth c ls hx hb hr hts hown hlocks hin hml hsz hP hK hE hD hA hS hl
  generalize va_A ([] : va_W) sz = A at hD hA hS ⊢
  have RT : ∀ (v : Int32) (u : Unit) (H : Heap) (locs : List Loc) (pc : Nat) (ls : Array Slot), decode cX5_isBeyond pc = .ok (.ireturn, 1) → (v = 0 ∨ v = 1) → post v → va_P D vwCl ([] : va_W) H → va_D A ([] : va_W) → va_S A s.heap H locs → W p l e rm_X5_isBeyond s m args below meth c H locs 0 0 (MQ below (va_Qi (fun r (_ : Unit) => post r) (fun u t => POST D A ([] : va_W) t) A) args s 0 0 A) (F0 m pc ls [.int v]) := fun v u H locs pc ls d g0 g1 g2 g3 g4 => rt_z (Wf := fun u => ([] : va_W)) u hx hb hr hlocks g0 g1 g2 g3 g4 d
  generalize (MQ below (va_Qi (fun r (_ : Unit) => post r) (fun u t => POST D A ([] : va_W) t) A) args s 0 0 A) = QQ at RT ⊢
  have hl : lv_has ls 2 [(0, .int p1), (1, .int p2)] := hl
  have hP : va_P D vwCl ([] : va_W) s.heap := hP
  unfold wp_X5_isBeyond at hw
  suffices GO : ∀ (H : Heap) (locs : List Loc), va_P D vwCl ([] : va_W) H → va_S A s.heap H locs → W p l e rm_X5_isBeyond s m args below meth c H locs 0 0 QQ (F0 m 0 ls []) from GO _ _ hP hS
  clear hsz hP hS
  intro H locs hP hS
  refine lv_iload_n hx hb dX5_isBeyond_0 rfl (lv_at hl 1 rfl) ?_
  refine lv_bipush (v := 16) hx hb dX5_isBeyond_1 (by decide) ?_
  refine lv_icmp_ge (tgt := 22) hx hb dX5_isBeyond_3 (by decide) (fun c3 => ?_) (fun c3 => ?_)
  · have hw := hw.1 c3
    refine lv_iload_n hx hb dX5_isBeyond_22 rfl (lv_at hl 0 rfl) ?_
    refine lv_bipush (v := 16) hx hb dX5_isBeyond_23 (by decide) ?_
    refine lv_irem hx hb dX5_isBeyond_25 (by decide) ?_
    refine lv_iload_n hx hb dX5_isBeyond_26 rfl (lv_at hl 1 rfl) ?_
    refine lv_bipush (v := 16) hx hb dX5_isBeyond_27 (by decide) ?_
    refine lv_isub hx hb dX5_isBeyond_29 ?_
    refine lv_icmp_le (tgt := 37) hx hb dX5_isBeyond_30 (by decide) (fun c30 => ?_) (fun c30 => ?_)
    · have hw := hw.1 c30
      refine lv_iconst (v := 0) hx hb dX5_isBeyond_37 (by decide) ?_
      exact RT 0 () _ _ _ _ dX5_isBeyond_38 (Or.inl rfl) hw hP hD hS
    · have hw := hw.2 c30
      refine lv_iconst (v := 1) hx hb dX5_isBeyond_33 (by decide) ?_
      refine lv_goto (tgt := 38) hx hb dX5_isBeyond_34 (by decide) ?_
      exact RT 1 () _ _ _ _ dX5_isBeyond_38 (Or.inr rfl) hw hP hD hS
  · have hw := hw.2 c3
    refine lv_iload_n hx hb dX5_isBeyond_6 rfl (lv_at hl 0 rfl) ?_
    refine lv_bipush (v := 16) hx hb dX5_isBeyond_7 (by decide) ?_
    refine lv_idiv hx hb dX5_isBeyond_9 (by decide) ?_
    refine lv_iload_n hx hb dX5_isBeyond_10 rfl (lv_at hl 1 rfl) ?_
    refine lv_icmp_le (tgt := 18) hx hb dX5_isBeyond_11 (by decide) (fun c11 => ?_) (fun c11 => ?_)
    · have hw := hw.1 c11
      refine lv_iconst (v := 0) hx hb dX5_isBeyond_18 (by decide) ?_
      refine lv_goto (tgt := 38) hx hb dX5_isBeyond_19 (by decide) ?_
      exact RT 0 () _ _ _ _ dX5_isBeyond_38 (Or.inl rfl) hw hP hD hS
    · have hw := hw.2 c11
      refine lv_iconst (v := 1) hx hb dX5_isBeyond_14 (by decide) ?_
      refine lv_goto (tgt := 38) hx hb dX5_isBeyond_15 (by decide) ?_
      exact RT 1 () _ _ _ _ dX5_isBeyond_38 (Or.inr rfl) hw hP hD hS
abbrev rm_X5_setSide : Room := { frames := 1, cells := 0, slots := 0, locals := 21 }
abbrev W_X5_setSide (h : Nat) (a : Nat → Nat) (cI cJ cZ : ClassId) (v_thrown : Int32) (v_made : Int32) (v_of : Nat → Int32) (v_heart : Int32) (v_width : Int32) (v_set : Nat → Int32) (v_sheets : Int32) (v_covered : Int32) : va_W := [(h, .inr (6, [.int v_thrown, .int v_made, .ref (a 2), .ref (a 3), .ref (a 4), .ref (a 5), .ref (a 6), .ref (a 7), .ref (a 8), .ref (a 9), .ref (a 10), .ref (a 11), .int v_heart, .int v_width, .ref (a 14), .ref (a 15), .ref (a 16), .ref (a 17), .ref (a 18), .ref (a 19), .ref (a 20), .ref (a 21), .int v_sheets, .int v_covered])), ((a 2), .inl (cI, 256, .inl v_of)), ((a 15), .inl (cZ, 256, .inl v_set))]
def wp_X5_setSide_64 (v_of : Nat → Int32) (v_set : Nat → Int32) (p1 : Int32) (p2 : Int32) (p3 : Int32) (post : Int32 → (Nat → Int32) → Prop) (K6 : Int32 → Int32 → (Nat → Int32) → Prop) (s0_j64 : Int32) (s1_j64 : Int32) (x5_j64 : Int32) (v_set_j64 : Nat → Int32) : Prop := K6 (s0_j64 + s1_j64) (x5_j64 + 1) v_set_j64
def wp_X5_setSide_46 (v_of : Nat → Int32) (v_set : Nat → Int32) (p1 : Int32) (p2 : Int32) (p3 : Int32) (post : Int32 → (Nat → Int32) → Prop) (K6 : Int32 → Int32 → (Nat → Int32) → Prop) (s1_j46 : Int32) (s2_j46 : Int32) (x4_j46 : Int32) (x5_j46 : Int32) (v_set_j46 : Nat → Int32) : Prop := vp_in s1_j46 256 ∧ (∀ v_set_t46 : Nat → Int32, v_set_t46 = upd v_set_j46 s1_j46.toNatClampNeg (vp_nar .boolean s2_j46) → vp_in x5_j46 256 ∧ (((v_set_t46 x5_j46.toNatClampNeg) = 0 → wp_X5_setSide_64 v_of v_set p1 p2 p3 post K6 x4_j46 0 x5_j46 v_set_t46) ∧ (¬ (v_set_t46 x5_j46.toNatClampNeg) = 0 → wp_X5_setSide_64 v_of v_set p1 p2 p3 post K6 x4_j46 1 x5_j46 v_set_t46)))
def wp_X5_setSide_6 (v_of : Nat → Int32) (v_set : Nat → Int32) (p1 : Int32) (p2 : Int32) (p3 : Int32) (post : Int32 → (Nat → Int32) → Prop) (K6 : Int32 → Int32 → (Nat → Int32) → Prop) (x4_j6 : Int32) (x5_j6 : Int32) (v_set_j6 : Nat → Int32) : Prop := (256 ≤ x5_j6 → post x4_j6 v_set_j6) ∧ (¬ 256 ≤ x5_j6 → vp_in x5_j6 256 ∧ (((v_of x5_j6.toNatClampNeg) = p1 → wp_X5_isBeyond x5_j6 p2 (fun r_34 => (r_34 = p3 → wp_X5_setSide_46 v_of v_set p1 p2 p3 post K6 x5_j6 1 x4_j6 x5_j6 v_set_j6) ∧ (¬ r_34 = p3 → wp_X5_setSide_46 v_of v_set p1 p2 p3 post K6 x5_j6 0 x4_j6 x5_j6 v_set_j6))) ∧ (¬ (v_of x5_j6.toNatClampNeg) = p1 → wp_X5_setSide_46 v_of v_set p1 p2 p3 post K6 x5_j6 0 x4_j6 x5_j6 v_set_j6)))
def lF_X5_setSide_6 (v_of : Nat → Int32) (v_set : Nat → Int32) (p1 : Int32) (p2 : Int32) (p3 : Int32) (post : Int32 → (Nat → Int32) → Prop) : ((Int32 × Int32 × (Nat → Int32)) → Prop) → (Int32 × Int32 × (Nat → Int32)) → Prop := fun K s => wp_X5_setSide_6 v_of v_set p1 p2 p3 post (fun b0 b1 b2 => K (b0, b1, b2)) s.1 s.2.1 s.2.2
def wp_X5_setSide (v_of : Nat → Int32) (v_set : Nat → Int32) (p1 : Int32) (p2 : Int32) (p3 : Int32) (post : Int32 → (Nat → Int32) → Prop) : Prop := lp (lF_X5_setSide_6 v_of v_set p1 p2 p3 post) (0, 0, v_set)
set_option maxHeartbeats 4000000 in
set_option maxRecDepth 100000 in
theorem c_X5_setSide (l : Launch) (D : va_G) (cI cJ cZ cO : ClassId) (h : Nat) (a : Nat → Nat) (sz : Nat) (v_thrown : Int32) (v_made : Int32) (v_of : Nat → Int32) (v_heart : Int32) (v_width : Int32) (v_set : Nat → Int32) (v_sheets : Int32) (v_covered : Int32) (p1 : Int32) (p2 : Int32) (p3 : Int32) (post : Int32 → (Nat → Int32) → Prop) (hw : wp_X5_setSide v_of v_set p1 p2 p3 post) : Met l yX5_setSide wsX5_setSide rm_X5_setSide (va_Pc [.ref h, .int p1, .int p2, .int p3] (PRE D cI cJ cZ cO (W_X5_setSide h a cI cJ cZ v_thrown v_made v_of v_heart v_width v_set v_sheets v_covered) sz)) (va_Qi (fun r (u : (Nat → Int32)) => post r u) (fun u t => POST D (va_A (W_X5_setSide h a cI cJ cZ v_thrown v_made v_of v_heart v_width v_set v_sheets v_covered) sz) (W_X5_setSide h a cI cJ cZ v_thrown v_made v_of v_heart v_width u v_sheets v_covered) t) (va_A (W_X5_setSide h a cI cJ cZ v_thrown v_made v_of v_heart v_width v_set v_sheets v_covered) sz)) 0 0 (va_A (W_X5_setSide h a cI cJ cZ v_thrown v_made v_of v_heart v_width v_set v_sheets v_covered) sz) := by
  refine met_go (cc := cX5_setSide) (maxL := 6) (ret := some .int) RX5 rfl (by decide) rfl (Nat.le_of_ble_eq_true rfl) ?_
  intro p e s m args below meth c ls hx hb hr hts hown hlocks hin hml hsz hP hK hE hD hA hS hl
  have iRX5 : ∀ w ∈ u_ws RX5 TX5 24, w ∈ wsX5_setSide := mem_seg 7 24 rfl
  generalize va_A (W_X5_setSide h a cI cJ cZ v_thrown v_made v_of v_heart v_width v_set v_sheets v_covered) sz = A at hD hA hS ⊢
  have RT : ∀ (v : Int32) (u : (Nat → Int32)) (H : Heap) (locs : List Loc) (pc : Nat) (ls : Array Slot), decode cX5_setSide pc = .ok (.ireturn, 1) → post v u → va_P D vwCl (W_X5_setSide h a cI cJ cZ v_thrown v_made v_of v_heart v_width u v_sheets v_covered) H → va_D A (W_X5_setSide h a cI cJ cZ v_thrown v_made v_of v_heart v_width u v_sheets v_covered) → va_S A s.heap H locs → W p l e rm_X5_setSide s m args below meth c H locs 0 0 (MQ below (va_Qi (fun r (u : (Nat → Int32)) => post r u) (fun u t => POST D A (W_X5_setSide h a cI cJ cZ v_thrown v_made v_of v_heart v_width u v_sheets v_covered) t) A) args s 0 0 A) (F0 m pc ls [.int v]) := fun v u H locs pc ls d g1 g2 g3 g4 => rt_i (Wf := fun u => (W_X5_setSide h a cI cJ cZ v_thrown v_made v_of v_heart v_width u v_sheets v_covered)) u hx hb hr hlocks g1 g2 g3 g4 d
  generalize (MQ below (va_Qi (fun r (u : (Nat → Int32)) => post r u) (fun u t => POST D A (W_X5_setSide h a cI cJ cZ v_thrown v_made v_of v_heart v_width u v_sheets v_covered) t) A) args s 0 0 A) = QQ at RT ⊢
  have hl : lv_has ls 6 [(0, .ref h), (1, .int p1), (2, .int p2), (3, .int p3)] := hl
  have hP : va_P D vwCl (W_X5_setSide h a cI cJ cZ v_thrown v_made v_of v_heart v_width v_set v_sheets v_covered) s.heap := hP
  unfold wp_X5_setSide at hw
  suffices GO : ∀ (H : Heap) (locs : List Loc), va_P D vwCl (W_X5_setSide h a cI cJ cZ v_thrown v_made v_of v_heart v_width v_set v_sheets v_covered) H → va_S A s.heap H locs → W p l e rm_X5_setSide s m args below meth c H locs 0 0 QQ (F0 m 0 ls []) from GO _ _ hP hS
  clear hsz hP hS
  intro H locs hP hS
  have L6 : ∀ s0 : (Int32 × Int32 × (Nat → Int32)), lp (lF_X5_setSide_6 v_of v_set p1 p2 p3 post) s0 → ∀ (H : Heap) (locs : List Loc) (ls : Array Slot), va_P D vwCl (W_X5_setSide h a cI cJ cZ v_thrown v_made v_of v_heart v_width s0.2.2 v_sheets v_covered) H → va_D A (W_X5_setSide h a cI cJ cZ v_thrown v_made v_of v_heart v_width s0.2.2 v_sheets v_covered) → va_S A s.heap H locs → lv_has ls 6 [(0, .ref h), (1, .int p1), (2, .int p2), (3, .int p3), (4, .int s0.1), (5, .int s0.2.1)] → W p l e rm_X5_setSide s m args below meth c H locs 0 0 QQ (F0 m 6 ls []) := by
    refine lp_elim (fun K6 ih6 s0 hw => ?_)
    obtain ⟨x4_j6, x5_j6, v_set_j6⟩ := s0
    intro H locs ls hP hD hS hl
    have hw : wp_X5_setSide_6 v_of v_set p1 p2 p3 post (fun b0 b1 b2 => K6 (b0, b1, b2)) x4_j6 x5_j6 v_set_j6 := hw
    have hP : va_P D vwCl (W_X5_setSide h a cI cJ cZ v_thrown v_made v_of v_heart v_width v_set_j6 v_sheets v_covered) H := hP
    have hD : va_D A (W_X5_setSide h a cI cJ cZ v_thrown v_made v_of v_heart v_width v_set_j6 v_sheets v_covered) := hD
    have hl : lv_has ls 6 [(0, .ref h), (1, .int p1), (2, .int p2), (3, .int p3), (4, .int x4_j6), (5, .int x5_j6)] := hl
    have J64 : ∀ (s0_j64 : Int32) (s1_j64 : Int32) (x5_j64 : Int32) (v_set_j64 : Nat → Int32) , wp_X5_setSide_64 v_of v_set p1 p2 p3 post (fun b0 b1 b2 => K6 (b0, b1, b2)) s0_j64 s1_j64 x5_j64 v_set_j64 → ∀ (H : Heap) (locs : List Loc) (ls : Array Slot), va_P D vwCl (W_X5_setSide h a cI cJ cZ v_thrown v_made v_of v_heart v_width v_set_j64 v_sheets v_covered) H → va_D A (W_X5_setSide h a cI cJ cZ v_thrown v_made v_of v_heart v_width v_set_j64 v_sheets v_covered) → va_S A s.heap H locs → lv_has ls 6 [(0, .ref h), (1, .int p1), (2, .int p2), (3, .int p3), (5, .int x5_j64)] → W p l e rm_X5_setSide s m args below meth c H locs 0 0 QQ (F0 m 64 ls [.int s1_j64, .int s0_j64]) := by
      intro s0_j64 s1_j64 x5_j64 v_set_j64 hw H locs ls hP hD hS hl
      unfold wp_X5_setSide_64 at hw
      refine lv_iadd hx hb dX5_setSide_64 ?_
      refine lv_istore (lv' := [(4, .int (s0_j64 + s1_j64)), (0, .ref h), (1, .int p1), (2, .int p2), (3, .int p3), (5, .int x5_j64)]) hx hb dX5_setSide_65 hl (by decide) rfl (fun ls hl => ?_)
      refine lv_iinc (v := (x5_j64 + 1)) (lv' := [(5, .int (x5_j64 + 1)), (4, .int (s0_j64 + s1_j64)), (0, .ref h), (1, .int p1), (2, .int p2), (3, .int p3)]) hx hb dX5_setSide_67 hl (k := 5) rfl rfl (by decide) rfl (fun ls hl => ?_)
      refine lv_goto (tgt := 6) hx hb dX5_setSide_70 (by decide) ?_
      exact ih6 ((s0_j64 + s1_j64), (x5_j64 + 1), v_set_j64) hw _ _ ls hP hD hS (lv_sub hl [2, 3, 4, 5, 1, 0] rfl)
    have J46 : ∀ (s1_j46 : Int32) (s2_j46 : Int32) (x4_j46 : Int32) (x5_j46 : Int32) (v_set_j46 : Nat → Int32) , wp_X5_setSide_46 v_of v_set p1 p2 p3 post (fun b0 b1 b2 => K6 (b0, b1, b2)) s1_j46 s2_j46 x4_j46 x5_j46 v_set_j46 → ∀ (H : Heap) (locs : List Loc) (ls : Array Slot), va_P D vwCl (W_X5_setSide h a cI cJ cZ v_thrown v_made v_of v_heart v_width v_set_j46 v_sheets v_covered) H → va_D A (W_X5_setSide h a cI cJ cZ v_thrown v_made v_of v_heart v_width v_set_j46 v_sheets v_covered) → va_S A s.heap H locs → lv_has ls 6 [(0, .ref h), (1, .int p1), (2, .int p2), (3, .int p3), (4, .int x4_j46), (5, .int x5_j46)] → W p l e rm_X5_setSide s m args below meth c H locs 0 0 QQ (F0 m 46 ls [.int s2_j46, .int s1_j46, .ref (a 15)]) := by
      intro s1_j46 s2_j46 x4_j46 x5_j46 v_set_j46 hw H locs ls hP hD hS hl
      unfold wp_X5_setSide_46 at hw
      obtain ⟨hi_46, hw⟩ := hw
      refine st_z hx hb hK hP hD hS 2 2 rfl rfl hi_46 dX5_setSide_46 (fun v_set_t46 ev_set_t46 H locs hP hD hS => ?_)
      have hw := hw v_set_t46 ev_set_t46
      have hP : va_P D vwCl (W_X5_setSide h a cI cJ cZ v_thrown v_made v_of v_heart v_width v_set_t46 v_sheets v_covered) H := hP
      have hD : va_D A (W_X5_setSide h a cI cJ cZ v_thrown v_made v_of v_heart v_width v_set_t46 v_sheets v_covered) := hD
      refine lv_iload hx hb dX5_setSide_47 (lv_at hl 4 rfl) ?_
      refine lv_aload_n hx hb dX5_setSide_49 rfl (lv_at hl 0 rfl) ?_
      refine va_get (D := D) (ci := 6) (v := .ref (a 15)) (C := RX5) (T := TX5) (N := 24) hx hb hts iRX5 hown hK hP 0 rfl rfl 15 (by decide) (hts (.fieldLink RX5 54 "LeadlightModel" "set" "[Z") (List.mem_of_getElem? (i := 1) rfl)) (fun _ h9 => h9) rfl dX5_setSide_50 ?_
      refine lv_iload hx hb dX5_setSide_53 (lv_at hl 5 rfl) ?_
      obtain ⟨hi_55, hw⟩ := hw
      refine va_zald hx hb hK hP 2 2 rfl rfl hi_55 dX5_setSide_55 ?_
      refine lv_if_eq (tgt := 63) hx hb dX5_setSide_56 (by decide) (fun c56 => ?_) (fun c56 => ?_)
      · have hw := hw.1 c56
        refine lv_iconst (v := 0) hx hb dX5_setSide_63 (by decide) ?_
        exact J64 x4_j46 0 x5_j46 v_set_t46 hw _ _ ls hP hD hS (lv_sub hl [0, 1, 2, 3, 5] rfl)
      · have hw := hw.2 c56
        refine lv_iconst (v := 1) hx hb dX5_setSide_59 (by decide) ?_
        refine lv_goto (tgt := 64) hx hb dX5_setSide_60 (by decide) ?_
        exact J64 x4_j46 1 x5_j46 v_set_t46 hw _ _ ls hP hD hS (lv_sub hl [0, 1, 2, 3, 5] rfl)
    unfold wp_X5_setSide_6 at hw
    refine lv_iload hx hb dX5_setSide_6 (lv_at hl 5 rfl) ?_
    refine lv_sipush (v := 256) hx hb dX5_setSide_8 (by decide) ?_
    refine lv_icmp_ge (tgt := 73) hx hb dX5_setSide_11 (by decide) (fun c11 => ?_) (fun c11 => ?_)
    · have hw := hw.1 c11
      refine lv_iload hx hb dX5_setSide_73 (lv_at hl 4 rfl) ?_
      exact RT x4_j6 v_set_j6 _ _ _ _ dX5_setSide_75 hw hP hD hS
    · have hw := hw.2 c11
      refine lv_aload_n hx hb dX5_setSide_14 rfl (lv_at hl 0 rfl) ?_
      refine va_get (D := D) (ci := 6) (v := .ref (a 15)) (C := RX5) (T := TX5) (N := 24) hx hb hts iRX5 hown hK hP 0 rfl rfl 15 (by decide) (hts (.fieldLink RX5 54 "LeadlightModel" "set" "[Z") (List.mem_of_getElem? (i := 1) rfl)) (fun _ h9 => h9) rfl dX5_setSide_15 ?_
      refine lv_iload hx hb dX5_setSide_18 (lv_at hl 5 rfl) ?_
      refine lv_aload_n hx hb dX5_setSide_20 rfl (lv_at hl 0 rfl) ?_
      refine va_get (D := D) (ci := 6) (v := .ref (a 2)) (C := RX5) (T := TX5) (N := 24) hx hb hts iRX5 hown hK hP 0 rfl rfl 2 (by decide) (hts (.fieldLink RX5 13 "LeadlightModel" "of" "[I") (List.mem_of_getElem? (i := 2) rfl)) (fun _ h9 => h9) rfl dX5_setSide_21 ?_
      refine lv_iload hx hb dX5_setSide_24 (lv_at hl 5 rfl) ?_
      obtain ⟨hi_26, hw⟩ := hw
      refine va_iald hx hb hK hP 1 0 rfl rfl hi_26 dX5_setSide_26 ?_
      refine lv_iload_n hx hb dX5_setSide_27 rfl (lv_at hl 1 rfl) ?_
      refine lv_icmp_ne (tgt := 45) hx hb dX5_setSide_28 (by decide) (fun c28 => ?_) (fun c28 => ?_)
      · have hw := hw.2 c28
        refine lv_iconst (v := 0) hx hb dX5_setSide_45 (by decide) ?_
        exact J46 x5_j6 0 x4_j6 x5_j6 v_set_j6 hw _ _ ls hP hD hS (lv_sub hl [0, 1, 2, 3, 4, 5] rfl)
      · have hw := hw.1 c28
        refine lv_iload hx hb dX5_setSide_31 (lv_at hl 5 rfl) ?_
        refine lv_iload_n hx hb dX5_setSide_33 rfl (lv_at hl 2 rfl) ?_
        refine af_i (X := (W_X5_setSide h a cI cJ cZ v_thrown v_made v_of v_heart v_width v_set_j6 v_sheets v_covered)) (pl := []) (cx := ([] : va_W)) (w1 := fun (u : Unit) => ([] : va_W)) (X' := fun (u : Unit) => (W_X5_setSide h a cI cJ cZ v_thrown v_made v_of v_heart v_width v_set_j6 v_sheets v_covered)) hP hD hS hA [] [0, 1, 2] [0, 1, 2] rfl rfl (by decide) (by decide) (fun u => rfl) (by decide) (va_runS (As := [.int x5_j6, .int p2]) (rest := [.int x5_j6, .ref (a 15)]) ⟨hx, hb, hml, hown, hts⟩ (c_X5_isBeyond l D cI cJ cZ cO H.size x5_j6 p2 _ hw) (va_cwS 2 hts gX5_setSide_X5_isBeyond rfl rfl rfl (by decide +kernel) ⟨Nat.le_of_ble_eq_true rfl, Nat.le_of_ble_eq_true rfl⟩) (preS (X := (W_X5_setSide h a cI cJ cZ v_thrown v_made v_of v_heart v_width v_set_j6 v_sheets v_covered)) (pl := []) (cx := ([] : va_W)) hK hE hP hD [] (by decide) rfl) rfl rfl hl.1 rfl (lv_room (Nat.le_of_ble_eq_true rfl)) dX5_setSide_34 ⟨Nat.zero_le _, Nat.zero_le _⟩) (fun r_34 _ H locs hw hP hD hS => ?_)
        try dsimp only at hw
        have hP : va_P D vwCl (W_X5_setSide h a cI cJ cZ v_thrown v_made v_of v_heart v_width v_set_j6 v_sheets v_covered) H := hP
        have hD : va_D A (W_X5_setSide h a cI cJ cZ v_thrown v_made v_of v_heart v_width v_set_j6 v_sheets v_covered) := hD
        refine lv_iload_n hx hb dX5_setSide_37 rfl (lv_at hl 3 rfl) ?_
        refine lv_icmp_ne (tgt := 45) hx hb dX5_setSide_38 (by decide) (fun c38 => ?_) (fun c38 => ?_)
        · have hw := hw.2 c38
          refine lv_iconst (v := 0) hx hb dX5_setSide_45 (by decide) ?_
          exact J46 x5_j6 0 x4_j6 x5_j6 v_set_j6 hw _ _ ls hP hD hS (lv_sub hl [0, 1, 2, 3, 4, 5] rfl)
        · have hw := hw.1 c38
          refine lv_iconst (v := 1) hx hb dX5_setSide_41 (by decide) ?_
          refine lv_goto (tgt := 46) hx hb dX5_setSide_42 (by decide) ?_
          exact J46 x5_j6 1 x4_j6 x5_j6 v_set_j6 hw _ _ ls hP hD hS (lv_sub hl [0, 1, 2, 3, 4, 5] rfl)
  refine lv_iconst (v := 0) hx hb dX5_setSide_0 (by decide) ?_
  refine lv_istore (lv' := [(4, .int 0), (0, .ref h), (1, .int p1), (2, .int p2), (3, .int p3)]) hx hb dX5_setSide_1 hl (by decide) rfl (fun ls hl => ?_)
  refine lv_iconst (v := 0) hx hb dX5_setSide_3 (by decide) ?_
  refine lv_istore (lv' := [(5, .int 0), (4, .int 0), (0, .ref h), (1, .int p1), (2, .int p2), (3, .int p3)]) hx hb dX5_setSide_4 hl (by decide) rfl (fun ls hl => ?_)
  exact L6 (0, 0, v_set) hw _ _ ls hP hD hS (lv_sub hl [2, 3, 4, 5, 1, 0] rfl)
abbrev rm_X5_setPiece : Room := { frames := 0, cells := 0, slots := 0, locals := 0 }
abbrev W_X5_setPiece (h : Nat) (a : Nat → Nat) (cI cJ cZ : ClassId) (v_thrown : Int32) (v_made : Int32) (v_of : Nat → Int32) (v_heart : Int32) (v_width : Int32) (v_set : Nat → Int32) (v_sheets : Int32) (v_covered : Int32) : va_W := [(h, .inr (6, [.int v_thrown, .int v_made, .ref (a 2), .ref (a 3), .ref (a 4), .ref (a 5), .ref (a 6), .ref (a 7), .ref (a 8), .ref (a 9), .ref (a 10), .ref (a 11), .int v_heart, .int v_width, .ref (a 14), .ref (a 15), .ref (a 16), .ref (a 17), .ref (a 18), .ref (a 19), .ref (a 20), .ref (a 21), .int v_sheets, .int v_covered])), ((a 2), .inl (cI, 256, .inl v_of)), ((a 15), .inl (cZ, 256, .inl v_set))]
def wp_X5_setPiece_58 (v_of : Nat → Int32) (v_set : Nat → Int32) (p1 : Int32) (p2 : Int32) (post : Int32 → (Nat → Int32) → Prop) (K5 : Int32 → Int32 → (Nat → Int32) → Prop) (s0_j58 : Int32) (s1_j58 : Int32) (x4_j58 : Int32) (v_set_j58 : Nat → Int32) : Prop := K5 (s0_j58 + s1_j58) (x4_j58 + 1) v_set_j58
def wp_X5_setPiece_41 (v_of : Nat → Int32) (v_set : Nat → Int32) (p1 : Int32) (p2 : Int32) (post : Int32 → (Nat → Int32) → Prop) (K5 : Int32 → Int32 → (Nat → Int32) → Prop) (s1_j41 : Int32) (s2_j41 : Int32) (x3_j41 : Int32) (x4_j41 : Int32) (v_set_j41 : Nat → Int32) : Prop := vp_in s1_j41 256 ∧ (∀ v_set_t41 : Nat → Int32, v_set_t41 = upd v_set_j41 s1_j41.toNatClampNeg (vp_nar .boolean s2_j41) → vp_in x4_j41 256 ∧ (((v_set_t41 x4_j41.toNatClampNeg) = 0 → wp_X5_setPiece_58 v_of v_set p1 p2 post K5 x3_j41 0 x4_j41 v_set_t41) ∧ (¬ (v_set_t41 x4_j41.toNatClampNeg) = 0 → wp_X5_setPiece_58 v_of v_set p1 p2 post K5 x3_j41 1 x4_j41 v_set_t41)))
def wp_X5_setPiece_5 (v_of : Nat → Int32) (v_set : Nat → Int32) (p1 : Int32) (p2 : Int32) (post : Int32 → (Nat → Int32) → Prop) (K5 : Int32 → Int32 → (Nat → Int32) → Prop) (x3_j5 : Int32) (x4_j5 : Int32) (v_set_j5 : Nat → Int32) : Prop := (256 ≤ x4_j5 → post x3_j5 v_set_j5) ∧ (¬ 256 ≤ x4_j5 → vp_in x4_j5 256 ∧ (((v_of x4_j5.toNatClampNeg) = p1 → (x4_j5 = p2 → wp_X5_setPiece_41 v_of v_set p1 p2 post K5 x4_j5 0 x3_j5 x4_j5 v_set_j5) ∧ (¬ x4_j5 = p2 → wp_X5_setPiece_41 v_of v_set p1 p2 post K5 x4_j5 1 x3_j5 x4_j5 v_set_j5)) ∧ (¬ (v_of x4_j5.toNatClampNeg) = p1 → wp_X5_setPiece_41 v_of v_set p1 p2 post K5 x4_j5 0 x3_j5 x4_j5 v_set_j5)))
def lF_X5_setPiece_5 (v_of : Nat → Int32) (v_set : Nat → Int32) (p1 : Int32) (p2 : Int32) (post : Int32 → (Nat → Int32) → Prop) : ((Int32 × Int32 × (Nat → Int32)) → Prop) → (Int32 × Int32 × (Nat → Int32)) → Prop := fun K s => wp_X5_setPiece_5 v_of v_set p1 p2 post (fun b0 b1 b2 => K (b0, b1, b2)) s.1 s.2.1 s.2.2
def wp_X5_setPiece (v_of : Nat → Int32) (v_set : Nat → Int32) (p1 : Int32) (p2 : Int32) (post : Int32 → (Nat → Int32) → Prop) : Prop := lp (lF_X5_setPiece_5 v_of v_set p1 p2 post) (0, 0, v_set)
set_option maxHeartbeats 4000000 in
set_option maxRecDepth 100000 in
theorem c_X5_setPiece (l : Launch) (D : va_G) (cI cJ cZ cO : ClassId) (h : Nat) (a : Nat → Nat) (sz : Nat) (v_thrown : Int32) (v_made : Int32) (v_of : Nat → Int32) (v_heart : Int32) (v_width : Int32) (v_set : Nat → Int32) (v_sheets : Int32) (v_covered : Int32) (p1 : Int32) (p2 : Int32) (post : Int32 → (Nat → Int32) → Prop) (hw : wp_X5_setPiece v_of v_set p1 p2 post) : Met l yX5_setPiece wsX5_setPiece rm_X5_setPiece (va_Pc [.ref h, .int p1, .int p2] (PRE D cI cJ cZ cO (W_X5_setPiece h a cI cJ cZ v_thrown v_made v_of v_heart v_width v_set v_sheets v_covered) sz)) (va_Qi (fun r (u : (Nat → Int32)) => post r u) (fun u t => POST D (va_A (W_X5_setPiece h a cI cJ cZ v_thrown v_made v_of v_heart v_width v_set v_sheets v_covered) sz) (W_X5_setPiece h a cI cJ cZ v_thrown v_made v_of v_heart v_width u v_sheets v_covered) t) (va_A (W_X5_setPiece h a cI cJ cZ v_thrown v_made v_of v_heart v_width v_set v_sheets v_covered) sz)) 0 0 (va_A (W_X5_setPiece h a cI cJ cZ v_thrown v_made v_of v_heart v_width v_set v_sheets v_covered) sz) := by
  refine met_go (cc := cX5_setPiece) (maxL := 5) (ret := some .int) RX5 rfl (by decide) rfl (Nat.le_of_ble_eq_true rfl) ?_
  intro p e s m args below meth c ls hx hb hr hts hown hlocks hin hml hsz hP hK hE hD hA hS hl
  have iRX5 : ∀ w ∈ u_ws RX5 TX5 24, w ∈ wsX5_setPiece := mem_seg 3 24 rfl
  generalize va_A (W_X5_setPiece h a cI cJ cZ v_thrown v_made v_of v_heart v_width v_set v_sheets v_covered) sz = A at hD hA hS ⊢
  have RT : ∀ (v : Int32) (u : (Nat → Int32)) (H : Heap) (locs : List Loc) (pc : Nat) (ls : Array Slot), decode cX5_setPiece pc = .ok (.ireturn, 1) → post v u → va_P D vwCl (W_X5_setPiece h a cI cJ cZ v_thrown v_made v_of v_heart v_width u v_sheets v_covered) H → va_D A (W_X5_setPiece h a cI cJ cZ v_thrown v_made v_of v_heart v_width u v_sheets v_covered) → va_S A s.heap H locs → W p l e rm_X5_setPiece s m args below meth c H locs 0 0 (MQ below (va_Qi (fun r (u : (Nat → Int32)) => post r u) (fun u t => POST D A (W_X5_setPiece h a cI cJ cZ v_thrown v_made v_of v_heart v_width u v_sheets v_covered) t) A) args s 0 0 A) (F0 m pc ls [.int v]) := fun v u H locs pc ls d g1 g2 g3 g4 => rt_i (Wf := fun u => (W_X5_setPiece h a cI cJ cZ v_thrown v_made v_of v_heart v_width u v_sheets v_covered)) u hx hb hr hlocks g1 g2 g3 g4 d
  generalize (MQ below (va_Qi (fun r (u : (Nat → Int32)) => post r u) (fun u t => POST D A (W_X5_setPiece h a cI cJ cZ v_thrown v_made v_of v_heart v_width u v_sheets v_covered) t) A) args s 0 0 A) = QQ at RT ⊢
  have hl : lv_has ls 5 [(0, .ref h), (1, .int p1), (2, .int p2)] := hl
  have hP : va_P D vwCl (W_X5_setPiece h a cI cJ cZ v_thrown v_made v_of v_heart v_width v_set v_sheets v_covered) s.heap := hP
  unfold wp_X5_setPiece at hw
  suffices GO : ∀ (H : Heap) (locs : List Loc), va_P D vwCl (W_X5_setPiece h a cI cJ cZ v_thrown v_made v_of v_heart v_width v_set v_sheets v_covered) H → va_S A s.heap H locs → W p l e rm_X5_setPiece s m args below meth c H locs 0 0 QQ (F0 m 0 ls []) from GO _ _ hP hS
  clear hsz hP hS
  intro H locs hP hS
  have L5 : ∀ s0 : (Int32 × Int32 × (Nat → Int32)), lp (lF_X5_setPiece_5 v_of v_set p1 p2 post) s0 → ∀ (H : Heap) (locs : List Loc) (ls : Array Slot), va_P D vwCl (W_X5_setPiece h a cI cJ cZ v_thrown v_made v_of v_heart v_width s0.2.2 v_sheets v_covered) H → va_D A (W_X5_setPiece h a cI cJ cZ v_thrown v_made v_of v_heart v_width s0.2.2 v_sheets v_covered) → va_S A s.heap H locs → lv_has ls 5 [(0, .ref h), (1, .int p1), (2, .int p2), (3, .int s0.1), (4, .int s0.2.1)] → W p l e rm_X5_setPiece s m args below meth c H locs 0 0 QQ (F0 m 5 ls []) := by
    refine lp_elim (fun K5 ih5 s0 hw => ?_)
    obtain ⟨x3_j5, x4_j5, v_set_j5⟩ := s0
    intro H locs ls hP hD hS hl
    have hw : wp_X5_setPiece_5 v_of v_set p1 p2 post (fun b0 b1 b2 => K5 (b0, b1, b2)) x3_j5 x4_j5 v_set_j5 := hw
    have hP : va_P D vwCl (W_X5_setPiece h a cI cJ cZ v_thrown v_made v_of v_heart v_width v_set_j5 v_sheets v_covered) H := hP
    have hD : va_D A (W_X5_setPiece h a cI cJ cZ v_thrown v_made v_of v_heart v_width v_set_j5 v_sheets v_covered) := hD
    have hl : lv_has ls 5 [(0, .ref h), (1, .int p1), (2, .int p2), (3, .int x3_j5), (4, .int x4_j5)] := hl
    have J58 : ∀ (s0_j58 : Int32) (s1_j58 : Int32) (x4_j58 : Int32) (v_set_j58 : Nat → Int32) , wp_X5_setPiece_58 v_of v_set p1 p2 post (fun b0 b1 b2 => K5 (b0, b1, b2)) s0_j58 s1_j58 x4_j58 v_set_j58 → ∀ (H : Heap) (locs : List Loc) (ls : Array Slot), va_P D vwCl (W_X5_setPiece h a cI cJ cZ v_thrown v_made v_of v_heart v_width v_set_j58 v_sheets v_covered) H → va_D A (W_X5_setPiece h a cI cJ cZ v_thrown v_made v_of v_heart v_width v_set_j58 v_sheets v_covered) → va_S A s.heap H locs → lv_has ls 5 [(0, .ref h), (1, .int p1), (2, .int p2), (4, .int x4_j58)] → W p l e rm_X5_setPiece s m args below meth c H locs 0 0 QQ (F0 m 58 ls [.int s1_j58, .int s0_j58]) := by
      intro s0_j58 s1_j58 x4_j58 v_set_j58 hw H locs ls hP hD hS hl
      unfold wp_X5_setPiece_58 at hw
      refine lv_iadd hx hb dX5_setPiece_58 ?_
      refine lv_istore_n (lv' := [(3, .int (s0_j58 + s1_j58)), (0, .ref h), (1, .int p1), (2, .int p2), (4, .int x4_j58)]) hx hb dX5_setPiece_59 rfl hl (by decide) rfl (fun ls hl => ?_)
      refine lv_iinc (v := (x4_j58 + 1)) (lv' := [(4, .int (x4_j58 + 1)), (3, .int (s0_j58 + s1_j58)), (0, .ref h), (1, .int p1), (2, .int p2)]) hx hb dX5_setPiece_60 hl (k := 4) rfl rfl (by decide) rfl (fun ls hl => ?_)
      refine lv_goto (tgt := 5) hx hb dX5_setPiece_63 (by decide) ?_
      exact ih5 ((s0_j58 + s1_j58), (x4_j58 + 1), v_set_j58) hw _ _ ls hP hD hS (lv_sub hl [2, 3, 4, 1, 0] rfl)
    have J41 : ∀ (s1_j41 : Int32) (s2_j41 : Int32) (x3_j41 : Int32) (x4_j41 : Int32) (v_set_j41 : Nat → Int32) , wp_X5_setPiece_41 v_of v_set p1 p2 post (fun b0 b1 b2 => K5 (b0, b1, b2)) s1_j41 s2_j41 x3_j41 x4_j41 v_set_j41 → ∀ (H : Heap) (locs : List Loc) (ls : Array Slot), va_P D vwCl (W_X5_setPiece h a cI cJ cZ v_thrown v_made v_of v_heart v_width v_set_j41 v_sheets v_covered) H → va_D A (W_X5_setPiece h a cI cJ cZ v_thrown v_made v_of v_heart v_width v_set_j41 v_sheets v_covered) → va_S A s.heap H locs → lv_has ls 5 [(0, .ref h), (1, .int p1), (2, .int p2), (3, .int x3_j41), (4, .int x4_j41)] → W p l e rm_X5_setPiece s m args below meth c H locs 0 0 QQ (F0 m 41 ls [.int s2_j41, .int s1_j41, .ref (a 15)]) := by
      intro s1_j41 s2_j41 x3_j41 x4_j41 v_set_j41 hw H locs ls hP hD hS hl
      unfold wp_X5_setPiece_41 at hw
      obtain ⟨hi_41, hw⟩ := hw
      refine st_z hx hb hK hP hD hS 2 2 rfl rfl hi_41 dX5_setPiece_41 (fun v_set_t41 ev_set_t41 H locs hP hD hS => ?_)
      have hw := hw v_set_t41 ev_set_t41
      have hP : va_P D vwCl (W_X5_setPiece h a cI cJ cZ v_thrown v_made v_of v_heart v_width v_set_t41 v_sheets v_covered) H := hP
      have hD : va_D A (W_X5_setPiece h a cI cJ cZ v_thrown v_made v_of v_heart v_width v_set_t41 v_sheets v_covered) := hD
      refine lv_iload_n hx hb dX5_setPiece_42 rfl (lv_at hl 3 rfl) ?_
      refine lv_aload_n hx hb dX5_setPiece_43 rfl (lv_at hl 0 rfl) ?_
      refine va_get (D := D) (ci := 6) (v := .ref (a 15)) (C := RX5) (T := TX5) (N := 24) hx hb hts iRX5 hown hK hP 0 rfl rfl 15 (by decide) (hts (.fieldLink RX5 54 "LeadlightModel" "set" "[Z") (List.mem_of_getElem? (i := 1) rfl)) (fun _ h9 => h9) rfl dX5_setPiece_44 ?_
      refine lv_iload hx hb dX5_setPiece_47 (lv_at hl 4 rfl) ?_
      obtain ⟨hi_49, hw⟩ := hw
      refine va_zald hx hb hK hP 2 2 rfl rfl hi_49 dX5_setPiece_49 ?_
      refine lv_if_eq (tgt := 57) hx hb dX5_setPiece_50 (by decide) (fun c50 => ?_) (fun c50 => ?_)
      · have hw := hw.1 c50
        refine lv_iconst (v := 0) hx hb dX5_setPiece_57 (by decide) ?_
        exact J58 x3_j41 0 x4_j41 v_set_t41 hw _ _ ls hP hD hS (lv_sub hl [0, 1, 2, 4] rfl)
      · have hw := hw.2 c50
        refine lv_iconst (v := 1) hx hb dX5_setPiece_53 (by decide) ?_
        refine lv_goto (tgt := 58) hx hb dX5_setPiece_54 (by decide) ?_
        exact J58 x3_j41 1 x4_j41 v_set_t41 hw _ _ ls hP hD hS (lv_sub hl [0, 1, 2, 4] rfl)
    unfold wp_X5_setPiece_5 at hw
    refine lv_iload hx hb dX5_setPiece_5 (lv_at hl 4 rfl) ?_
    refine lv_sipush (v := 256) hx hb dX5_setPiece_7 (by decide) ?_
    refine lv_icmp_ge (tgt := 66) hx hb dX5_setPiece_10 (by decide) (fun c10 => ?_) (fun c10 => ?_)
    · have hw := hw.1 c10
      refine lv_iload_n hx hb dX5_setPiece_66 rfl (lv_at hl 3 rfl) ?_
      exact RT x3_j5 v_set_j5 _ _ _ _ dX5_setPiece_67 hw hP hD hS
    · have hw := hw.2 c10
      refine lv_aload_n hx hb dX5_setPiece_13 rfl (lv_at hl 0 rfl) ?_
      refine va_get (D := D) (ci := 6) (v := .ref (a 15)) (C := RX5) (T := TX5) (N := 24) hx hb hts iRX5 hown hK hP 0 rfl rfl 15 (by decide) (hts (.fieldLink RX5 54 "LeadlightModel" "set" "[Z") (List.mem_of_getElem? (i := 1) rfl)) (fun _ h9 => h9) rfl dX5_setPiece_14 ?_
      refine lv_iload hx hb dX5_setPiece_17 (lv_at hl 4 rfl) ?_
      refine lv_aload_n hx hb dX5_setPiece_19 rfl (lv_at hl 0 rfl) ?_
      refine va_get (D := D) (ci := 6) (v := .ref (a 2)) (C := RX5) (T := TX5) (N := 24) hx hb hts iRX5 hown hK hP 0 rfl rfl 2 (by decide) (hts (.fieldLink RX5 13 "LeadlightModel" "of" "[I") (List.mem_of_getElem? (i := 2) rfl)) (fun _ h9 => h9) rfl dX5_setPiece_20 ?_
      refine lv_iload hx hb dX5_setPiece_23 (lv_at hl 4 rfl) ?_
      obtain ⟨hi_25, hw⟩ := hw
      refine va_iald hx hb hK hP 1 0 rfl rfl hi_25 dX5_setPiece_25 ?_
      refine lv_iload_n hx hb dX5_setPiece_26 rfl (lv_at hl 1 rfl) ?_
      refine lv_icmp_ne (tgt := 40) hx hb dX5_setPiece_27 (by decide) (fun c27 => ?_) (fun c27 => ?_)
      · have hw := hw.2 c27
        refine lv_iconst (v := 0) hx hb dX5_setPiece_40 (by decide) ?_
        exact J41 x4_j5 0 x3_j5 x4_j5 v_set_j5 hw _ _ ls hP hD hS (lv_sub hl [0, 1, 2, 3, 4] rfl)
      · have hw := hw.1 c27
        refine lv_iload hx hb dX5_setPiece_30 (lv_at hl 4 rfl) ?_
        refine lv_iload_n hx hb dX5_setPiece_32 rfl (lv_at hl 2 rfl) ?_
        refine lv_icmp_eq (tgt := 40) hx hb dX5_setPiece_33 (by decide) (fun c33 => ?_) (fun c33 => ?_)
        · have hw := hw.1 c33
          refine lv_iconst (v := 0) hx hb dX5_setPiece_40 (by decide) ?_
          exact J41 x4_j5 0 x3_j5 x4_j5 v_set_j5 hw _ _ ls hP hD hS (lv_sub hl [0, 1, 2, 3, 4] rfl)
        · have hw := hw.2 c33
          refine lv_iconst (v := 1) hx hb dX5_setPiece_36 (by decide) ?_
          refine lv_goto (tgt := 41) hx hb dX5_setPiece_37 (by decide) ?_
          exact J41 x4_j5 1 x3_j5 x4_j5 v_set_j5 hw _ _ ls hP hD hS (lv_sub hl [0, 1, 2, 3, 4] rfl)
  refine lv_iconst (v := 0) hx hb dX5_setPiece_0 (by decide) ?_
  refine lv_istore_n (lv' := [(3, .int 0), (0, .ref h), (1, .int p1), (2, .int p2)]) hx hb dX5_setPiece_1 rfl hl (by decide) rfl (fun ls hl => ?_)
  refine lv_iconst (v := 0) hx hb dX5_setPiece_2 (by decide) ?_
  refine lv_istore (lv' := [(4, .int 0), (3, .int 0), (0, .ref h), (1, .int p1), (2, .int p2)]) hx hb dX5_setPiece_3 hl (by decide) rfl (fun ls hl => ?_)
  exact L5 (0, 0, v_set) hw _ _ ls hP hD hS (lv_sub hl [2, 3, 4, 1, 0] rfl)
abbrev rm_X5_beside : Room := { frames := 1, cells := 0, slots := 0, locals := 22 }
def wp_X5_beside_47 (p1 : Int32) (p2 : Int32) (post : Int32 → Prop) (s0_j47 : Int32) (s1_j47 : Int32) (x2_j47 : Int32) : Prop := wp_X5_in x2_j47 0 15 (fun r_53 => (r_53 = 0 → post (-1)) ∧ (¬ r_53 = 0 → wp_X5_in (s0_j47 + s1_j47) 0 15 (fun r_63 => (r_63 = 0 → post (-1)) ∧ (¬ r_63 = 0 → post ((16 * x2_j47) + (s0_j47 + s1_j47))))))
def wp_X5_beside_22 (p1 : Int32) (p2 : Int32) (post : Int32 → Prop) (s0_j22 : Int32) (s1_j22 : Int32) : Prop := (p2 = 2 → wp_X5_beside_47 p1 p2 post (p1 - p1 / 16 * 16) (-1) (s0_j22 + s1_j22)) ∧ (¬ p2 = 2 → (p2 = 3 → wp_X5_beside_47 p1 p2 post (p1 - p1 / 16 * 16) 1 (s0_j22 + s1_j22)) ∧ (¬ p2 = 3 → wp_X5_beside_47 p1 p2 post (p1 - p1 / 16 * 16) 0 (s0_j22 + s1_j22)))
def wp_X5_beside (p1 : Int32) (p2 : Int32) (post : Int32 → Prop) : Prop := (p2 = 0 → wp_X5_beside_22 p1 p2 post (p1 / 16) (-1)) ∧ (¬ p2 = 0 → (p2 = 1 → wp_X5_beside_22 p1 p2 post (p1 / 16) 1) ∧ (¬ p2 = 1 → wp_X5_beside_22 p1 p2 post (p1 / 16) 0))
set_option maxHeartbeats 4000000 in
set_option maxRecDepth 100000 in
theorem c_X5_beside (l : Launch) (D : va_G) (cI cJ cZ cO : ClassId) (sz : Nat) (p1 : Int32) (p2 : Int32) (post : Int32 → Prop) (hw : wp_X5_beside p1 p2 post) : Met l yX5_beside wsX5_beside rm_X5_beside (va_Pc [.int p1, .int p2] (PRE D cI cJ cZ cO ([] : va_W) sz)) (va_Qi (fun r (_ : Unit) => post r) (fun u t => POST D (va_A ([] : va_W) sz) ([] : va_W) t) (va_A ([] : va_W) sz)) 0 0 (va_A ([] : va_W) sz) := by
  refine met_go (cc := cX5_beside) (maxL := 4) (ret := some .int) RX5 rfl (by decide) rfl (Nat.le_of_ble_eq_true rfl) ?_
  intro p e s m args below meth c ls hx hb hr hts hown hlocks hin hml hsz hP hK hE hD hA hS hl
  generalize va_A ([] : va_W) sz = A at hD hA hS ⊢
  have RT : ∀ (v : Int32) (u : Unit) (H : Heap) (locs : List Loc) (pc : Nat) (ls : Array Slot), decode cX5_beside pc = .ok (.ireturn, 1) → post v → va_P D vwCl ([] : va_W) H → va_D A ([] : va_W) → va_S A s.heap H locs → W p l e rm_X5_beside s m args below meth c H locs 0 0 (MQ below (va_Qi (fun r (_ : Unit) => post r) (fun u t => POST D A ([] : va_W) t) A) args s 0 0 A) (F0 m pc ls [.int v]) := fun v u H locs pc ls d g1 g2 g3 g4 => rt_i (Wf := fun u => ([] : va_W)) u hx hb hr hlocks g1 g2 g3 g4 d
  generalize (MQ below (va_Qi (fun r (_ : Unit) => post r) (fun u t => POST D A ([] : va_W) t) A) args s 0 0 A) = QQ at RT ⊢
  have hl : lv_has ls 4 [(0, .int p1), (1, .int p2)] := hl
  have hP : va_P D vwCl ([] : va_W) s.heap := hP
  unfold wp_X5_beside at hw
  suffices GO : ∀ (H : Heap) (locs : List Loc), va_P D vwCl ([] : va_W) H → va_S A s.heap H locs → W p l e rm_X5_beside s m args below meth c H locs 0 0 QQ (F0 m 0 ls []) from GO _ _ hP hS
  clear hsz hP hS
  intro H locs hP hS
  have J47 : ∀ (s0_j47 : Int32) (s1_j47 : Int32) (x2_j47 : Int32) , wp_X5_beside_47 p1 p2 post s0_j47 s1_j47 x2_j47 → ∀ (H : Heap) (locs : List Loc) (ls : Array Slot), va_P D vwCl ([] : va_W) H → va_D A ([] : va_W) → va_S A s.heap H locs → lv_has ls 4 [(2, .int x2_j47)] → W p l e rm_X5_beside s m args below meth c H locs 0 0 QQ (F0 m 47 ls [.int s1_j47, .int s0_j47]) := by
    intro s0_j47 s1_j47 x2_j47 hw H locs ls hP hD hS hl
    unfold wp_X5_beside_47 at hw
    refine lv_iadd hx hb dX5_beside_47 ?_
    refine lv_istore_n (lv' := [(3, .int (s0_j47 + s1_j47)), (2, .int x2_j47)]) hx hb dX5_beside_48 rfl hl (by decide) rfl (fun ls hl => ?_)
    refine lv_iload_n hx hb dX5_beside_49 rfl (lv_at hl 1 rfl) ?_
    refine lv_iconst (v := 0) hx hb dX5_beside_50 (by decide) ?_
    refine lv_bipush (v := 15) hx hb dX5_beside_51 (by decide) ?_
    refine af_i (X := ([] : va_W)) (pl := []) (cx := ([] : va_W)) (w1 := fun (u : Unit) => ([] : va_W)) (X' := fun (u : Unit) => ([] : va_W)) hP hD hS hA [] [] [] rfl rfl (by decide) (by decide) (fun u => rfl) (by decide) (va_runS (As := [.int x2_j47, .int 0, .int 15]) (rest := []) ⟨hx, hb, hml, hown, hts⟩ (c_X5_in l D cI cJ cZ cO H.size x2_j47 0 15 _ hw) (va_cwS 3 hts gX5_beside_X5_in rfl rfl rfl (by decide +kernel) ⟨Nat.le_of_ble_eq_true rfl, Nat.le_of_ble_eq_true rfl⟩) (preS (X := ([] : va_W)) (pl := []) (cx := ([] : va_W)) hK hE hP hD [] (by decide) rfl) rfl rfl hl.1 rfl (lv_room (Nat.le_of_ble_eq_true rfl)) dX5_beside_53 ⟨Nat.zero_le _, Nat.zero_le _⟩) (fun r_53 _ H locs hw hP hD hS => ?_)
    try dsimp only at hw
    have hP : va_P D vwCl ([] : va_W) H := hP
    have hD : va_D A ([] : va_W) := hD
    refine lv_if_eq (tgt := 78) hx hb dX5_beside_56 (by decide) (fun c56 => ?_) (fun c56 => ?_)
    · have hw := hw.1 c56
      refine lv_iconst (v := (-1)) hx hb dX5_beside_78 (by decide) ?_
      exact RT (-1) () _ _ _ _ dX5_beside_79 hw hP hD hS
    · have hw := hw.2 c56
      refine lv_iload_n hx hb dX5_beside_59 rfl (lv_at hl 0 rfl) ?_
      refine lv_iconst (v := 0) hx hb dX5_beside_60 (by decide) ?_
      refine lv_bipush (v := 15) hx hb dX5_beside_61 (by decide) ?_
      refine af_i (X := ([] : va_W)) (pl := []) (cx := ([] : va_W)) (w1 := fun (u : Unit) => ([] : va_W)) (X' := fun (u : Unit) => ([] : va_W)) hP hD hS hA [] [] [] rfl rfl (by decide) (by decide) (fun u => rfl) (by decide) (va_runS (As := [.int (s0_j47 + s1_j47), .int 0, .int 15]) (rest := []) ⟨hx, hb, hml, hown, hts⟩ (c_X5_in l D cI cJ cZ cO H.size (s0_j47 + s1_j47) 0 15 _ hw) (va_cwS 3 hts gX5_beside_X5_in rfl rfl rfl (by decide +kernel) ⟨Nat.le_of_ble_eq_true rfl, Nat.le_of_ble_eq_true rfl⟩) (preS (X := ([] : va_W)) (pl := []) (cx := ([] : va_W)) hK hE hP hD [] (by decide) rfl) rfl rfl hl.1 rfl (lv_room (Nat.le_of_ble_eq_true rfl)) dX5_beside_63 ⟨Nat.zero_le _, Nat.zero_le _⟩) (fun r_63 _ H locs hw hP hD hS => ?_)
      try dsimp only at hw
      have hP : va_P D vwCl ([] : va_W) H := hP
      have hD : va_D A ([] : va_W) := hD
      refine lv_if_eq (tgt := 78) hx hb dX5_beside_66 (by decide) (fun c66 => ?_) (fun c66 => ?_)
      · have hw := hw.1 c66
        refine lv_iconst (v := (-1)) hx hb dX5_beside_78 (by decide) ?_
        exact RT (-1) () _ _ _ _ dX5_beside_79 hw hP hD hS
      · have hw := hw.2 c66
        refine lv_bipush (v := 16) hx hb dX5_beside_69 (by decide) ?_
        refine lv_iload_n hx hb dX5_beside_71 rfl (lv_at hl 1 rfl) ?_
        refine lv_imul hx hb dX5_beside_72 ?_
        refine lv_iload_n hx hb dX5_beside_73 rfl (lv_at hl 0 rfl) ?_
        refine lv_iadd hx hb dX5_beside_74 ?_
        refine lv_goto (tgt := 79) hx hb dX5_beside_75 (by decide) ?_
        exact RT ((16 * x2_j47) + (s0_j47 + s1_j47)) () _ _ _ _ dX5_beside_79 hw hP hD hS
  have J22 : ∀ (s0_j22 : Int32) (s1_j22 : Int32) , wp_X5_beside_22 p1 p2 post s0_j22 s1_j22 → ∀ (H : Heap) (locs : List Loc) (ls : Array Slot), va_P D vwCl ([] : va_W) H → va_D A ([] : va_W) → va_S A s.heap H locs → lv_has ls 4 [(0, .int p1), (1, .int p2)] → W p l e rm_X5_beside s m args below meth c H locs 0 0 QQ (F0 m 22 ls [.int s1_j22, .int s0_j22]) := by
    intro s0_j22 s1_j22 hw H locs ls hP hD hS hl
    unfold wp_X5_beside_22 at hw
    refine lv_iadd hx hb dX5_beside_22 ?_
    refine lv_istore_n (lv' := [(2, .int (s0_j22 + s1_j22)), (0, .int p1), (1, .int p2)]) hx hb dX5_beside_23 rfl hl (by decide) rfl (fun ls hl => ?_)
    refine lv_iload_n hx hb dX5_beside_24 rfl (lv_at hl 1 rfl) ?_
    refine lv_bipush (v := 16) hx hb dX5_beside_25 (by decide) ?_
    refine lv_irem hx hb dX5_beside_27 (by decide) ?_
    refine lv_iload_n hx hb dX5_beside_28 rfl (lv_at hl 2 rfl) ?_
    refine lv_iconst (v := 2) hx hb dX5_beside_29 (by decide) ?_
    refine lv_icmp_ne (tgt := 37) hx hb dX5_beside_30 (by decide) (fun c30 => ?_) (fun c30 => ?_)
    · have hw := hw.2 c30
      refine lv_iload_n hx hb dX5_beside_37 rfl (lv_at hl 2 rfl) ?_
      refine lv_iconst (v := 3) hx hb dX5_beside_38 (by decide) ?_
      refine lv_icmp_ne (tgt := 46) hx hb dX5_beside_39 (by decide) (fun c39 => ?_) (fun c39 => ?_)
      · have hw := hw.2 c39
        refine lv_iconst (v := 0) hx hb dX5_beside_46 (by decide) ?_
        exact J47 (p1 - p1 / 16 * 16) 0 (s0_j22 + s1_j22) hw _ _ ls hP hD hS (lv_sub hl [0] rfl)
      · have hw := hw.1 c39
        refine lv_iconst (v := 1) hx hb dX5_beside_42 (by decide) ?_
        refine lv_goto (tgt := 47) hx hb dX5_beside_43 (by decide) ?_
        exact J47 (p1 - p1 / 16 * 16) 1 (s0_j22 + s1_j22) hw _ _ ls hP hD hS (lv_sub hl [0] rfl)
    · have hw := hw.1 c30
      refine lv_iconst (v := (-1)) hx hb dX5_beside_33 (by decide) ?_
      refine lv_goto (tgt := 47) hx hb dX5_beside_34 (by decide) ?_
      exact J47 (p1 - p1 / 16 * 16) (-1) (s0_j22 + s1_j22) hw _ _ ls hP hD hS (lv_sub hl [0] rfl)
  refine lv_iload_n hx hb dX5_beside_0 rfl (lv_at hl 0 rfl) ?_
  refine lv_bipush (v := 16) hx hb dX5_beside_1 (by decide) ?_
  refine lv_idiv hx hb dX5_beside_3 (by decide) ?_
  refine lv_iload_n hx hb dX5_beside_4 rfl (lv_at hl 1 rfl) ?_
  refine lv_if_ne (tgt := 12) hx hb dX5_beside_5 (by decide) (fun c5 => ?_) (fun c5 => ?_)
  · have hw := hw.2 c5
    refine lv_iload_n hx hb dX5_beside_12 rfl (lv_at hl 1 rfl) ?_
    refine lv_iconst (v := 1) hx hb dX5_beside_13 (by decide) ?_
    refine lv_icmp_ne (tgt := 21) hx hb dX5_beside_14 (by decide) (fun c14 => ?_) (fun c14 => ?_)
    · have hw := hw.2 c14
      refine lv_iconst (v := 0) hx hb dX5_beside_21 (by decide) ?_
      exact J22 (p1 / 16) 0 hw _ _ ls hP hD hS (lv_sub hl [0, 1] rfl)
    · have hw := hw.1 c14
      refine lv_iconst (v := 1) hx hb dX5_beside_17 (by decide) ?_
      refine lv_goto (tgt := 22) hx hb dX5_beside_18 (by decide) ?_
      exact J22 (p1 / 16) 1 hw _ _ ls hP hD hS (lv_sub hl [0, 1] rfl)
  · have hw := hw.1 c5
    refine lv_iconst (v := (-1)) hx hb dX5_beside_8 (by decide) ?_
    refine lv_goto (tgt := 22) hx hb dX5_beside_9 (by decide) ?_
    exact J22 (p1 / 16) (-1) hw _ _ ls hP hD hS (lv_sub hl [0, 1] rfl)
abbrev rm_X5_isOne : Room := { frames := 2, cells := 0, slots := 0, locals := 45 }
abbrev W_X5_isOne (h : Nat) (a : Nat → Nat) (cI cJ cZ : ClassId) (v_thrown : Int32) (v_made : Int32) (v_heart : Int32) (v_width : Int32) (v_set : Nat → Int32) (v_seen : Nat → Int32) (v_pile : Nat → Int32) (v_sheets : Int32) (v_covered : Int32) : va_W := [(h, .inr (6, [.int v_thrown, .int v_made, .ref (a 2), .ref (a 3), .ref (a 4), .ref (a 5), .ref (a 6), .ref (a 7), .ref (a 8), .ref (a 9), .ref (a 10), .ref (a 11), .int v_heart, .int v_width, .ref (a 14), .ref (a 15), .ref (a 16), .ref (a 17), .ref (a 18), .ref (a 19), .ref (a 20), .ref (a 21), .int v_sheets, .int v_covered])), ((a 15), .inl (cZ, 256, .inl v_set)), ((a 16), .inl (cZ, 256, .inl v_seen)), ((a 17), .inl (cI, 256, .inl v_pile))]
def wp_X5_isOne_104 (v_set : Nat → Int32) (v_seen : Nat → Int32) (v_pile : Nat → Int32) (post : Int32 → (Nat → Int32) → (Nat → Int32) → Prop) (K86 : Int32 → Int32 → Int32 → (Nat → Int32) → (Nat → Int32) → Prop) (K104 : Int32 → Int32 → Int32 → Int32 → Int32 → (Nat → Int32) → (Nat → Int32) → Prop) (x1_j104 : Int32) (x2_j104 : Int32) (x3_j104 : Int32) (x4_j104 : Int32) (x5_j104 : Int32) (v_seen_j104 : Nat → Int32) (v_pile_j104 : Nat → Int32) : Prop := (4 ≤ x5_j104 → K86 x1_j104 x2_j104 x3_j104 v_seen_j104 v_pile_j104) ∧ (¬ 4 ≤ x5_j104 → wp_X5_beside x4_j104 x5_j104 (fun r_114 => (r_114 = (-1) → K104 x1_j104 x2_j104 x3_j104 x4_j104 (x5_j104 + 1) v_seen_j104 v_pile_j104) ∧ (¬ r_114 = (-1) → vp_in r_114 256 ∧ (((v_set r_114.toNatClampNeg) = 0 → K104 x1_j104 x2_j104 x3_j104 x4_j104 (x5_j104 + 1) v_seen_j104 v_pile_j104) ∧ (¬ (v_set r_114.toNatClampNeg) = 0 → vp_in r_114 256 ∧ (((v_seen_j104 r_114.toNatClampNeg) = 0 → vp_in r_114 256 ∧ (∀ v_seen_t152 : Nat → Int32, v_seen_t152 = upd v_seen_j104 r_114.toNatClampNeg (vp_nar .boolean 1) → vp_in x1_j104 256 ∧ (∀ v_pile_t160 : Nat → Int32, v_pile_t160 = upd v_pile_j104 x1_j104.toNatClampNeg r_114 → K104 (x1_j104 + 1) x2_j104 (x3_j104 + 1) x4_j104 (x5_j104 + 1) v_seen_t152 v_pile_t160))) ∧ (¬ (v_seen_j104 r_114.toNatClampNeg) = 0 → K104 x1_j104 x2_j104 x3_j104 x4_j104 (x5_j104 + 1) v_seen_j104 v_pile_j104)))))))
def lF_X5_isOne_104 (v_set : Nat → Int32) (v_seen : Nat → Int32) (v_pile : Nat → Int32) (post : Int32 → (Nat → Int32) → (Nat → Int32) → Prop) (K86 : Int32 → Int32 → Int32 → (Nat → Int32) → (Nat → Int32) → Prop) : ((Int32 × Int32 × Int32 × Int32 × Int32 × (Nat → Int32) × (Nat → Int32)) → Prop) → (Int32 × Int32 × Int32 × Int32 × Int32 × (Nat → Int32) × (Nat → Int32)) → Prop := fun K s => wp_X5_isOne_104 v_set v_seen v_pile post K86 (fun b0 b1 b2 b3 b4 b5 b6 => K (b0, b1, b2, b3, b4, b5, b6)) s.1 s.2.1 s.2.2.1 s.2.2.2.1 s.2.2.2.2.1 s.2.2.2.2.2.1 s.2.2.2.2.2.2
def wp_X5_isOne_86 (v_set : Nat → Int32) (v_seen : Nat → Int32) (v_pile : Nat → Int32) (post : Int32 → (Nat → Int32) → (Nat → Int32) → Prop) (K86 : Int32 → Int32 → Int32 → (Nat → Int32) → (Nat → Int32) → Prop) (x1_j86 : Int32) (x2_j86 : Int32) (x3_j86 : Int32) (v_seen_j86 : Nat → Int32) (v_pile_j86 : Nat → Int32) : Prop := (x1_j86 ≤ 0 → (x3_j86 = x2_j86 → post 1 v_seen_j86 v_pile_j86) ∧ (¬ x3_j86 = x2_j86 → post 0 v_seen_j86 v_pile_j86)) ∧ (¬ x1_j86 ≤ 0 → vp_in (x1_j86 + (-1)) 256 ∧ (∀ y4_99 : Int32, y4_99 = (v_pile_j86 (x1_j86 + (-1)).toNatClampNeg) → lp (lF_X5_isOne_104 v_set v_seen v_pile post K86) ((x1_j86 + (-1)), x2_j86, x3_j86, y4_99, 0, v_seen_j86, v_pile_j86)))
def lF_X5_isOne_86 (v_set : Nat → Int32) (v_seen : Nat → Int32) (v_pile : Nat → Int32) (post : Int32 → (Nat → Int32) → (Nat → Int32) → Prop) : ((Int32 × Int32 × Int32 × (Nat → Int32) × (Nat → Int32)) → Prop) → (Int32 × Int32 × Int32 × (Nat → Int32) × (Nat → Int32)) → Prop := fun K s => wp_X5_isOne_86 v_set v_seen v_pile post (fun b0 b1 b2 b3 b4 => K (b0, b1, b2, b3, b4)) s.1 s.2.1 s.2.2.1 s.2.2.2.1 s.2.2.2.2
def wp_X5_isOne_35 (v_set : Nat → Int32) (v_seen : Nat → Int32) (v_pile : Nat → Int32) (post : Int32 → (Nat → Int32) → (Nat → Int32) → Prop) (K6 : Int32 → Int32 → Int32 → (Nat → Int32) → (Nat → Int32) → Prop) (s0_j35 : Int32) (s1_j35 : Int32) (x1_j35 : Int32) (x3_j35 : Int32) (v_seen_j35 : Nat → Int32) (v_pile_j35 : Nat → Int32) : Prop := vp_in x3_j35 256 ∧ (((v_set x3_j35.toNatClampNeg) = 0 → K6 x1_j35 (s0_j35 + s1_j35) (x3_j35 + 1) v_seen_j35 v_pile_j35) ∧ (¬ (v_set x3_j35.toNatClampNeg) = 0 → ((s0_j35 + s1_j35) = 1 → ∀ v_pile_t57 : Nat → Int32, v_pile_t57 = upd v_pile_j35 (0 : Int32).toNatClampNeg x3_j35 → K6 1 (s0_j35 + s1_j35) (x3_j35 + 1) v_seen_j35 v_pile_t57) ∧ (¬ (s0_j35 + s1_j35) = 1 → K6 x1_j35 (s0_j35 + s1_j35) (x3_j35 + 1) v_seen_j35 v_pile_j35)))
def wp_X5_isOne_6 (v_set : Nat → Int32) (v_seen : Nat → Int32) (v_pile : Nat → Int32) (post : Int32 → (Nat → Int32) → (Nat → Int32) → Prop) (K6 : Int32 → Int32 → Int32 → (Nat → Int32) → (Nat → Int32) → Prop) (x1_j6 : Int32) (x2_j6 : Int32) (x3_j6 : Int32) (v_seen_j6 : Nat → Int32) (v_pile_j6 : Nat → Int32) : Prop := (256 ≤ x3_j6 → (x2_j6 = 0 → post 0 v_seen_j6 v_pile_j6) ∧ (¬ x2_j6 = 0 → vp_in (v_pile_j6 (0 : Int32).toNatClampNeg) 256 ∧ (∀ v_seen_t83 : Nat → Int32, v_seen_t83 = upd v_seen_j6 (v_pile_j6 (0 : Int32).toNatClampNeg).toNatClampNeg (vp_nar .boolean 1) → lp (lF_X5_isOne_86 v_set v_seen v_pile post) (x1_j6, x2_j6, 1, v_seen_t83, v_pile_j6)))) ∧ (¬ 256 ≤ x3_j6 → vp_in x3_j6 256 ∧ (∀ v_seen_t19 : Nat → Int32, v_seen_t19 = upd v_seen_j6 x3_j6.toNatClampNeg (vp_nar .boolean 0) → vp_in x3_j6 256 ∧ (((v_set x3_j6.toNatClampNeg) = 0 → wp_X5_isOne_35 v_set v_seen v_pile post K6 x2_j6 0 x1_j6 x3_j6 v_seen_t19 v_pile_j6) ∧ (¬ (v_set x3_j6.toNatClampNeg) = 0 → wp_X5_isOne_35 v_set v_seen v_pile post K6 x2_j6 1 x1_j6 x3_j6 v_seen_t19 v_pile_j6))))
def lF_X5_isOne_6 (v_set : Nat → Int32) (v_seen : Nat → Int32) (v_pile : Nat → Int32) (post : Int32 → (Nat → Int32) → (Nat → Int32) → Prop) : ((Int32 × Int32 × Int32 × (Nat → Int32) × (Nat → Int32)) → Prop) → (Int32 × Int32 × Int32 × (Nat → Int32) × (Nat → Int32)) → Prop := fun K s => wp_X5_isOne_6 v_set v_seen v_pile post (fun b0 b1 b2 b3 b4 => K (b0, b1, b2, b3, b4)) s.1 s.2.1 s.2.2.1 s.2.2.2.1 s.2.2.2.2
def wp_X5_isOne (v_set : Nat → Int32) (v_seen : Nat → Int32) (v_pile : Nat → Int32) (post : Int32 → (Nat → Int32) → (Nat → Int32) → Prop) : Prop := lp (lF_X5_isOne_6 v_set v_seen v_pile post) (0, 0, 0, v_seen, v_pile)
set_option maxHeartbeats 4000000 in
set_option maxRecDepth 100000 in
theorem c_X5_isOne (l : Launch) (D : va_G) (cI cJ cZ cO : ClassId) (h : Nat) (a : Nat → Nat) (sz : Nat) (v_thrown : Int32) (v_made : Int32) (v_heart : Int32) (v_width : Int32) (v_set : Nat → Int32) (v_seen : Nat → Int32) (v_pile : Nat → Int32) (v_sheets : Int32) (v_covered : Int32) (post : Int32 → (Nat → Int32) → (Nat → Int32) → Prop) (hw : wp_X5_isOne v_set v_seen v_pile post) : Met l yX5_isOne wsX5_isOne rm_X5_isOne (va_Pc [.ref h] (PRE D cI cJ cZ cO (W_X5_isOne h a cI cJ cZ v_thrown v_made v_heart v_width v_set v_seen v_pile v_sheets v_covered) sz)) (va_Qi (fun r (u : (Nat → Int32) × (Nat → Int32)) => post r u.1 u.2) (fun u t => POST D (va_A (W_X5_isOne h a cI cJ cZ v_thrown v_made v_heart v_width v_set v_seen v_pile v_sheets v_covered) sz) (W_X5_isOne h a cI cJ cZ v_thrown v_made v_heart v_width v_set u.1 u.2 v_sheets v_covered) t) (va_A (W_X5_isOne h a cI cJ cZ v_thrown v_made v_heart v_width v_set v_seen v_pile v_sheets v_covered) sz)) 0 0 (va_A (W_X5_isOne h a cI cJ cZ v_thrown v_made v_heart v_width v_set v_seen v_pile v_sheets v_covered) sz) := by
  refine met_go (cc := cX5_isOne) (maxL := 7) (ret := some .boolean) RX5 rfl (by decide) rfl (Nat.le_of_ble_eq_true rfl) ?_
  intro p e s m args below meth c ls hx hb hr hts hown hlocks hin hml hsz hP hK hE hD hA hS hl
  have iRX5 : ∀ w ∈ u_ws RX5 TX5 24, w ∈ wsX5_isOne := mem_seg 11 24 rfl
  generalize va_A (W_X5_isOne h a cI cJ cZ v_thrown v_made v_heart v_width v_set v_seen v_pile v_sheets v_covered) sz = A at hD hA hS ⊢
  have RT : ∀ (v : Int32) (u : (Nat → Int32) × (Nat → Int32)) (H : Heap) (locs : List Loc) (pc : Nat) (ls : Array Slot), decode cX5_isOne pc = .ok (.ireturn, 1) → (v = 0 ∨ v = 1) → post v u.1 u.2 → va_P D vwCl (W_X5_isOne h a cI cJ cZ v_thrown v_made v_heart v_width v_set u.1 u.2 v_sheets v_covered) H → va_D A (W_X5_isOne h a cI cJ cZ v_thrown v_made v_heart v_width v_set u.1 u.2 v_sheets v_covered) → va_S A s.heap H locs → W p l e rm_X5_isOne s m args below meth c H locs 0 0 (MQ below (va_Qi (fun r (u : (Nat → Int32) × (Nat → Int32)) => post r u.1 u.2) (fun u t => POST D A (W_X5_isOne h a cI cJ cZ v_thrown v_made v_heart v_width v_set u.1 u.2 v_sheets v_covered) t) A) args s 0 0 A) (F0 m pc ls [.int v]) := fun v u H locs pc ls d g0 g1 g2 g3 g4 => rt_z (Wf := fun u => (W_X5_isOne h a cI cJ cZ v_thrown v_made v_heart v_width v_set u.1 u.2 v_sheets v_covered)) u hx hb hr hlocks g0 g1 g2 g3 g4 d
  generalize (MQ below (va_Qi (fun r (u : (Nat → Int32) × (Nat → Int32)) => post r u.1 u.2) (fun u t => POST D A (W_X5_isOne h a cI cJ cZ v_thrown v_made v_heart v_width v_set u.1 u.2 v_sheets v_covered) t) A) args s 0 0 A) = QQ at RT ⊢
  have hl : lv_has ls 7 [(0, .ref h)] := hl
  have hP : va_P D vwCl (W_X5_isOne h a cI cJ cZ v_thrown v_made v_heart v_width v_set v_seen v_pile v_sheets v_covered) s.heap := hP
  unfold wp_X5_isOne at hw
  suffices GO : ∀ (H : Heap) (locs : List Loc), va_P D vwCl (W_X5_isOne h a cI cJ cZ v_thrown v_made v_heart v_width v_set v_seen v_pile v_sheets v_covered) H → va_S A s.heap H locs → W p l e rm_X5_isOne s m args below meth c H locs 0 0 QQ (F0 m 0 ls []) from GO _ _ hP hS
  clear hsz hP hS
  intro H locs hP hS
  have L86 : ∀ s0 : (Int32 × Int32 × Int32 × (Nat → Int32) × (Nat → Int32)), lp (lF_X5_isOne_86 v_set v_seen v_pile post) s0 → ∀ (H : Heap) (locs : List Loc) (ls : Array Slot), va_P D vwCl (W_X5_isOne h a cI cJ cZ v_thrown v_made v_heart v_width v_set s0.2.2.2.1 s0.2.2.2.2 v_sheets v_covered) H → va_D A (W_X5_isOne h a cI cJ cZ v_thrown v_made v_heart v_width v_set s0.2.2.2.1 s0.2.2.2.2 v_sheets v_covered) → va_S A s.heap H locs → lv_has ls 7 [(0, .ref h), (1, .int s0.1), (2, .int s0.2.1), (3, .int s0.2.2.1)] → W p l e rm_X5_isOne s m args below meth c H locs 0 0 QQ (F0 m 86 ls []) := by
    refine lp_elim (fun K86 ih86 s0 hw => ?_)
    obtain ⟨x1_j86, x2_j86, x3_j86, v_seen_j86, v_pile_j86⟩ := s0
    intro H locs ls hP hD hS hl
    have hw : wp_X5_isOne_86 v_set v_seen v_pile post (fun b0 b1 b2 b3 b4 => K86 (b0, b1, b2, b3, b4)) x1_j86 x2_j86 x3_j86 v_seen_j86 v_pile_j86 := hw
    have hP : va_P D vwCl (W_X5_isOne h a cI cJ cZ v_thrown v_made v_heart v_width v_set v_seen_j86 v_pile_j86 v_sheets v_covered) H := hP
    have hD : va_D A (W_X5_isOne h a cI cJ cZ v_thrown v_made v_heart v_width v_set v_seen_j86 v_pile_j86 v_sheets v_covered) := hD
    have hl : lv_has ls 7 [(0, .ref h), (1, .int x1_j86), (2, .int x2_j86), (3, .int x3_j86)] := hl
    have L104 : ∀ s0 : (Int32 × Int32 × Int32 × Int32 × Int32 × (Nat → Int32) × (Nat → Int32)), lp (lF_X5_isOne_104 v_set v_seen v_pile post (fun b0 b1 b2 b3 b4 => K86 (b0, b1, b2, b3, b4))) s0 → ∀ (H : Heap) (locs : List Loc) (ls : Array Slot), va_P D vwCl (W_X5_isOne h a cI cJ cZ v_thrown v_made v_heart v_width v_set s0.2.2.2.2.2.1 s0.2.2.2.2.2.2 v_sheets v_covered) H → va_D A (W_X5_isOne h a cI cJ cZ v_thrown v_made v_heart v_width v_set s0.2.2.2.2.2.1 s0.2.2.2.2.2.2 v_sheets v_covered) → va_S A s.heap H locs → lv_has ls 7 [(0, .ref h), (1, .int s0.1), (2, .int s0.2.1), (3, .int s0.2.2.1), (4, .int s0.2.2.2.1), (5, .int s0.2.2.2.2.1)] → W p l e rm_X5_isOne s m args below meth c H locs 0 0 QQ (F0 m 104 ls []) := by
      refine lp_elim (fun K104 ih104 s0 hw => ?_)
      obtain ⟨x1_j104, x2_j104, x3_j104, x4_j104, x5_j104, v_seen_j104, v_pile_j104⟩ := s0
      intro H locs ls hP hD hS hl
      have hw : wp_X5_isOne_104 v_set v_seen v_pile post (fun b0 b1 b2 b3 b4 => K86 (b0, b1, b2, b3, b4)) (fun b0 b1 b2 b3 b4 b5 b6 => K104 (b0, b1, b2, b3, b4, b5, b6)) x1_j104 x2_j104 x3_j104 x4_j104 x5_j104 v_seen_j104 v_pile_j104 := hw
      have hP : va_P D vwCl (W_X5_isOne h a cI cJ cZ v_thrown v_made v_heart v_width v_set v_seen_j104 v_pile_j104 v_sheets v_covered) H := hP
      have hD : va_D A (W_X5_isOne h a cI cJ cZ v_thrown v_made v_heart v_width v_set v_seen_j104 v_pile_j104 v_sheets v_covered) := hD
      have hl : lv_has ls 7 [(0, .ref h), (1, .int x1_j104), (2, .int x2_j104), (3, .int x3_j104), (4, .int x4_j104), (5, .int x5_j104)] := hl
      unfold wp_X5_isOne_104 at hw
      refine lv_iload hx hb dX5_isOne_104 (lv_at hl 5 rfl) ?_
      refine lv_iconst (v := 4) hx hb dX5_isOne_106 (by decide) ?_
      refine lv_icmp_ge (tgt := 173) hx hb dX5_isOne_107 (by decide) (fun c107 => ?_) (fun c107 => ?_)
      · have hw := hw.1 c107
        refine lv_goto (tgt := 86) hx hb dX5_isOne_173 (by decide) ?_
        exact ih86 (x1_j104, x2_j104, x3_j104, v_seen_j104, v_pile_j104) hw _ _ ls hP hD hS (lv_sub hl [0, 1, 2, 3] rfl)
      · have hw := hw.2 c107
        refine lv_iload hx hb dX5_isOne_110 (lv_at hl 4 rfl) ?_
        refine lv_iload hx hb dX5_isOne_112 (lv_at hl 5 rfl) ?_
        refine af_i (X := (W_X5_isOne h a cI cJ cZ v_thrown v_made v_heart v_width v_set v_seen_j104 v_pile_j104 v_sheets v_covered)) (pl := []) (cx := ([] : va_W)) (w1 := fun (u : Unit) => ([] : va_W)) (X' := fun (u : Unit) => (W_X5_isOne h a cI cJ cZ v_thrown v_made v_heart v_width v_set v_seen_j104 v_pile_j104 v_sheets v_covered)) hP hD hS hA [] [0, 1, 2, 3] [0, 1, 2, 3] rfl rfl (by decide) (by decide) (fun u => rfl) (by decide) (va_runS (As := [.int x4_j104, .int x5_j104]) (rest := []) ⟨hx, hb, hml, hown, hts⟩ (c_X5_beside l D cI cJ cZ cO H.size x4_j104 x5_j104 _ hw) (va_cwS 2 hts gX5_isOne_X5_beside rfl rfl rfl (by decide +kernel) ⟨Nat.le_of_ble_eq_true rfl, Nat.le_of_ble_eq_true rfl⟩) (preS (X := (W_X5_isOne h a cI cJ cZ v_thrown v_made v_heart v_width v_set v_seen_j104 v_pile_j104 v_sheets v_covered)) (pl := []) (cx := ([] : va_W)) hK hE hP hD [] (by decide) rfl) rfl rfl hl.1 rfl (lv_room (Nat.le_of_ble_eq_true rfl)) dX5_isOne_114 ⟨Nat.zero_le _, Nat.zero_le _⟩) (fun r_114 _ H locs hw hP hD hS => ?_)
        try dsimp only at hw
        have hP : va_P D vwCl (W_X5_isOne h a cI cJ cZ v_thrown v_made v_heart v_width v_set v_seen_j104 v_pile_j104 v_sheets v_covered) H := hP
        have hD : va_D A (W_X5_isOne h a cI cJ cZ v_thrown v_made v_heart v_width v_set v_seen_j104 v_pile_j104 v_sheets v_covered) := hD
        refine lv_istore (lv' := [(6, .int r_114), (0, .ref h), (1, .int x1_j104), (2, .int x2_j104), (3, .int x3_j104), (4, .int x4_j104), (5, .int x5_j104)]) hx hb dX5_isOne_117 hl (by decide) rfl (fun ls hl => ?_)
        refine lv_iload hx hb dX5_isOne_119 (lv_at hl 0 rfl) ?_
        refine lv_iconst (v := (-1)) hx hb dX5_isOne_121 (by decide) ?_
        refine lv_icmp_eq (tgt := 167) hx hb dX5_isOne_122 (by decide) (fun c122 => ?_) (fun c122 => ?_)
        · have hw := hw.1 c122
          refine lv_iinc (v := (x5_j104 + 1)) (lv' := [(5, .int (x5_j104 + 1)), (6, .int r_114), (0, .ref h), (1, .int x1_j104), (2, .int x2_j104), (3, .int x3_j104), (4, .int x4_j104)]) hx hb dX5_isOne_167 hl (k := 6) rfl rfl (by decide) rfl (fun ls hl => ?_)
          refine lv_goto (tgt := 104) hx hb dX5_isOne_170 (by decide) ?_
          exact ih104 (x1_j104, x2_j104, x3_j104, x4_j104, (x5_j104 + 1), v_seen_j104, v_pile_j104) hw _ _ ls hP hD hS (lv_sub hl [2, 3, 4, 5, 6, 0] rfl)
        · have hw := hw.2 c122
          refine lv_aload_n hx hb dX5_isOne_125 rfl (lv_at hl 1 rfl) ?_
          refine va_get (D := D) (ci := 6) (v := .ref (a 15)) (C := RX5) (T := TX5) (N := 24) hx hb hts iRX5 hown hK hP 0 rfl rfl 15 (by decide) (hts (.fieldLink RX5 54 "LeadlightModel" "set" "[Z") (List.mem_of_getElem? (i := 2) rfl)) (fun _ h9 => h9) rfl dX5_isOne_126 ?_
          refine lv_iload hx hb dX5_isOne_129 (lv_at hl 0 rfl) ?_
          obtain ⟨hi_131, hw⟩ := hw
          refine va_zald hx hb hK hP 1 2 rfl rfl hi_131 dX5_isOne_131 ?_
          refine lv_if_eq (tgt := 167) hx hb dX5_isOne_132 (by decide) (fun c132 => ?_) (fun c132 => ?_)
          · have hw := hw.1 c132
            refine lv_iinc (v := (x5_j104 + 1)) (lv' := [(5, .int (x5_j104 + 1)), (6, .int r_114), (0, .ref h), (1, .int x1_j104), (2, .int x2_j104), (3, .int x3_j104), (4, .int x4_j104)]) hx hb dX5_isOne_167 hl (k := 6) rfl rfl (by decide) rfl (fun ls hl => ?_)
            refine lv_goto (tgt := 104) hx hb dX5_isOne_170 (by decide) ?_
            exact ih104 (x1_j104, x2_j104, x3_j104, x4_j104, (x5_j104 + 1), v_seen_j104, v_pile_j104) hw _ _ ls hP hD hS (lv_sub hl [2, 3, 4, 5, 6, 0] rfl)
          · have hw := hw.2 c132
            refine lv_aload_n hx hb dX5_isOne_135 rfl (lv_at hl 1 rfl) ?_
            refine va_get (D := D) (ci := 6) (v := .ref (a 16)) (C := RX5) (T := TX5) (N := 24) hx hb hts iRX5 hown hK hP 0 rfl rfl 16 (by decide) (hts (.fieldLink RX5 57 "LeadlightModel" "seen" "[Z") (List.mem_of_getElem? (i := 1) rfl)) (fun _ h9 => h9) rfl dX5_isOne_136 ?_
            refine lv_iload hx hb dX5_isOne_139 (lv_at hl 0 rfl) ?_
            obtain ⟨hi_141, hw⟩ := hw
            refine va_zald hx hb hK hP 2 2 rfl rfl hi_141 dX5_isOne_141 ?_
            refine lv_if_ne (tgt := 167) hx hb dX5_isOne_142 (by decide) (fun c142 => ?_) (fun c142 => ?_)
            · have hw := hw.2 c142
              refine lv_iinc (v := (x5_j104 + 1)) (lv' := [(5, .int (x5_j104 + 1)), (6, .int r_114), (0, .ref h), (1, .int x1_j104), (2, .int x2_j104), (3, .int x3_j104), (4, .int x4_j104)]) hx hb dX5_isOne_167 hl (k := 6) rfl rfl (by decide) rfl (fun ls hl => ?_)
              refine lv_goto (tgt := 104) hx hb dX5_isOne_170 (by decide) ?_
              exact ih104 (x1_j104, x2_j104, x3_j104, x4_j104, (x5_j104 + 1), v_seen_j104, v_pile_j104) hw _ _ ls hP hD hS (lv_sub hl [2, 3, 4, 5, 6, 0] rfl)
            · have hw := hw.1 c142
              refine lv_aload_n hx hb dX5_isOne_145 rfl (lv_at hl 1 rfl) ?_
              refine va_get (D := D) (ci := 6) (v := .ref (a 16)) (C := RX5) (T := TX5) (N := 24) hx hb hts iRX5 hown hK hP 0 rfl rfl 16 (by decide) (hts (.fieldLink RX5 57 "LeadlightModel" "seen" "[Z") (List.mem_of_getElem? (i := 1) rfl)) (fun _ h9 => h9) rfl dX5_isOne_146 ?_
              refine lv_iload hx hb dX5_isOne_149 (lv_at hl 0 rfl) ?_
              refine lv_iconst (v := 1) hx hb dX5_isOne_151 (by decide) ?_
              obtain ⟨hi_152, hw⟩ := hw
              refine st_z hx hb hK hP hD hS 2 2 rfl rfl hi_152 dX5_isOne_152 (fun v_seen_t152 ev_seen_t152 H locs hP hD hS => ?_)
              have hw := hw v_seen_t152 ev_seen_t152
              have hP : va_P D vwCl (W_X5_isOne h a cI cJ cZ v_thrown v_made v_heart v_width v_set v_seen_t152 v_pile_j104 v_sheets v_covered) H := hP
              have hD : va_D A (W_X5_isOne h a cI cJ cZ v_thrown v_made v_heart v_width v_set v_seen_t152 v_pile_j104 v_sheets v_covered) := hD
              refine lv_aload_n hx hb dX5_isOne_153 rfl (lv_at hl 1 rfl) ?_
              refine va_get (D := D) (ci := 6) (v := .ref (a 17)) (C := RX5) (T := TX5) (N := 24) hx hb hts iRX5 hown hK hP 0 rfl rfl 17 (by decide) (hts (.fieldLink RX5 60 "LeadlightModel" "pile" "[I") (List.mem_of_getElem? (i := 3) rfl)) (fun _ h9 => h9) rfl dX5_isOne_154 ?_
              refine lv_iload_n hx hb dX5_isOne_157 rfl (lv_at hl 2 rfl) ?_
              refine lv_iload hx hb dX5_isOne_158 (lv_at hl 0 rfl) ?_
              obtain ⟨hi_160, hw⟩ := hw
              refine st_i hx hb hK hP hD hS 3 0 rfl rfl hi_160 dX5_isOne_160 (fun v_pile_t160 ev_pile_t160 H locs hP hD hS => ?_)
              have hw := hw v_pile_t160 ev_pile_t160
              have hP : va_P D vwCl (W_X5_isOne h a cI cJ cZ v_thrown v_made v_heart v_width v_set v_seen_t152 v_pile_t160 v_sheets v_covered) H := hP
              have hD : va_D A (W_X5_isOne h a cI cJ cZ v_thrown v_made v_heart v_width v_set v_seen_t152 v_pile_t160 v_sheets v_covered) := hD
              refine lv_iinc (v := (x1_j104 + 1)) (lv' := [(1, .int (x1_j104 + 1)), (6, .int r_114), (0, .ref h), (2, .int x2_j104), (3, .int x3_j104), (4, .int x4_j104), (5, .int x5_j104)]) hx hb dX5_isOne_161 hl (k := 2) rfl rfl (by decide) rfl (fun ls hl => ?_)
              refine lv_iinc (v := (x3_j104 + 1)) (lv' := [(3, .int (x3_j104 + 1)), (1, .int (x1_j104 + 1)), (6, .int r_114), (0, .ref h), (2, .int x2_j104), (4, .int x4_j104), (5, .int x5_j104)]) hx hb dX5_isOne_164 hl (k := 4) rfl rfl (by decide) rfl (fun ls hl => ?_)
              refine lv_iinc (v := (x5_j104 + 1)) (lv' := [(5, .int (x5_j104 + 1)), (3, .int (x3_j104 + 1)), (1, .int (x1_j104 + 1)), (6, .int r_114), (0, .ref h), (2, .int x2_j104), (4, .int x4_j104)]) hx hb dX5_isOne_167 hl (k := 6) rfl rfl (by decide) rfl (fun ls hl => ?_)
              refine lv_goto (tgt := 104) hx hb dX5_isOne_170 (by decide) ?_
              exact ih104 ((x1_j104 + 1), x2_j104, (x3_j104 + 1), x4_j104, (x5_j104 + 1), v_seen_t152, v_pile_t160) hw _ _ ls hP hD hS (lv_sub hl [4, 2, 5, 1, 6, 0] rfl)
    unfold wp_X5_isOne_86 at hw
    refine lv_iload_n hx hb dX5_isOne_86 rfl (lv_at hl 1 rfl) ?_
    refine lv_if_le (tgt := 176) hx hb dX5_isOne_87 (by decide) (fun c87 => ?_) (fun c87 => ?_)
    · have hw := hw.1 c87
      refine lv_iload_n hx hb dX5_isOne_176 rfl (lv_at hl 3 rfl) ?_
      refine lv_iload_n hx hb dX5_isOne_177 rfl (lv_at hl 2 rfl) ?_
      refine lv_icmp_ne (tgt := 185) hx hb dX5_isOne_178 (by decide) (fun c178 => ?_) (fun c178 => ?_)
      · have hw := hw.2 c178
        refine lv_iconst (v := 0) hx hb dX5_isOne_185 (by decide) ?_
        exact RT 0 (v_seen_j86, v_pile_j86) _ _ _ _ dX5_isOne_186 (Or.inl rfl) hw hP hD hS
      · have hw := hw.1 c178
        refine lv_iconst (v := 1) hx hb dX5_isOne_181 (by decide) ?_
        refine lv_goto (tgt := 186) hx hb dX5_isOne_182 (by decide) ?_
        exact RT 1 (v_seen_j86, v_pile_j86) _ _ _ _ dX5_isOne_186 (Or.inr rfl) hw hP hD hS
    · have hw := hw.2 c87
      refine lv_iinc (v := (x1_j86 + (-1))) (lv' := [(1, .int (x1_j86 + (-1))), (0, .ref h), (2, .int x2_j86), (3, .int x3_j86)]) hx hb dX5_isOne_90 hl (k := 1) rfl rfl (by decide) rfl (fun ls hl => ?_)
      refine lv_aload_n hx hb dX5_isOne_93 rfl (lv_at hl 1 rfl) ?_
      refine va_get (D := D) (ci := 6) (v := .ref (a 17)) (C := RX5) (T := TX5) (N := 24) hx hb hts iRX5 hown hK hP 0 rfl rfl 17 (by decide) (hts (.fieldLink RX5 60 "LeadlightModel" "pile" "[I") (List.mem_of_getElem? (i := 3) rfl)) (fun _ h9 => h9) rfl dX5_isOne_94 ?_
      refine lv_iload_n hx hb dX5_isOne_97 rfl (lv_at hl 0 rfl) ?_
      obtain ⟨hi_98, hw⟩ := hw
      refine va_iald hx hb hK hP 3 0 rfl rfl hi_98 dX5_isOne_98 ?_
      refine lv_topi (fun y4_99 ey4_99 => ?_)
      have hw := hw y4_99 ey4_99
      refine lv_istore (lv' := [(4, .int y4_99), (1, .int (x1_j86 + (-1))), (0, .ref h), (2, .int x2_j86), (3, .int x3_j86)]) hx hb dX5_isOne_99 hl (by decide) rfl (fun ls hl => ?_)
      refine lv_iconst (v := 0) hx hb dX5_isOne_101 (by decide) ?_
      refine lv_istore (lv' := [(5, .int 0), (4, .int y4_99), (1, .int (x1_j86 + (-1))), (0, .ref h), (2, .int x2_j86), (3, .int x3_j86)]) hx hb dX5_isOne_102 hl (by decide) rfl (fun ls hl => ?_)
      exact L104 ((x1_j86 + (-1)), x2_j86, x3_j86, y4_99, 0, v_seen_j86, v_pile_j86) hw _ _ ls hP hD hS (lv_sub hl [3, 2, 4, 5, 1, 0] rfl)
  have L6 : ∀ s0 : (Int32 × Int32 × Int32 × (Nat → Int32) × (Nat → Int32)), lp (lF_X5_isOne_6 v_set v_seen v_pile post) s0 → ∀ (H : Heap) (locs : List Loc) (ls : Array Slot), va_P D vwCl (W_X5_isOne h a cI cJ cZ v_thrown v_made v_heart v_width v_set s0.2.2.2.1 s0.2.2.2.2 v_sheets v_covered) H → va_D A (W_X5_isOne h a cI cJ cZ v_thrown v_made v_heart v_width v_set s0.2.2.2.1 s0.2.2.2.2 v_sheets v_covered) → va_S A s.heap H locs → lv_has ls 7 [(0, .ref h), (1, .int s0.1), (2, .int s0.2.1), (3, .int s0.2.2.1)] → W p l e rm_X5_isOne s m args below meth c H locs 0 0 QQ (F0 m 6 ls []) := by
    refine lp_elim (fun K6 ih6 s0 hw => ?_)
    obtain ⟨x1_j6, x2_j6, x3_j6, v_seen_j6, v_pile_j6⟩ := s0
    intro H locs ls hP hD hS hl
    have hw : wp_X5_isOne_6 v_set v_seen v_pile post (fun b0 b1 b2 b3 b4 => K6 (b0, b1, b2, b3, b4)) x1_j6 x2_j6 x3_j6 v_seen_j6 v_pile_j6 := hw
    have hP : va_P D vwCl (W_X5_isOne h a cI cJ cZ v_thrown v_made v_heart v_width v_set v_seen_j6 v_pile_j6 v_sheets v_covered) H := hP
    have hD : va_D A (W_X5_isOne h a cI cJ cZ v_thrown v_made v_heart v_width v_set v_seen_j6 v_pile_j6 v_sheets v_covered) := hD
    have hl : lv_has ls 7 [(0, .ref h), (1, .int x1_j6), (2, .int x2_j6), (3, .int x3_j6)] := hl
    have J35 : ∀ (s0_j35 : Int32) (s1_j35 : Int32) (x1_j35 : Int32) (x3_j35 : Int32) (v_seen_j35 : Nat → Int32) (v_pile_j35 : Nat → Int32) , wp_X5_isOne_35 v_set v_seen v_pile post (fun b0 b1 b2 b3 b4 => K6 (b0, b1, b2, b3, b4)) s0_j35 s1_j35 x1_j35 x3_j35 v_seen_j35 v_pile_j35 → ∀ (H : Heap) (locs : List Loc) (ls : Array Slot), va_P D vwCl (W_X5_isOne h a cI cJ cZ v_thrown v_made v_heart v_width v_set v_seen_j35 v_pile_j35 v_sheets v_covered) H → va_D A (W_X5_isOne h a cI cJ cZ v_thrown v_made v_heart v_width v_set v_seen_j35 v_pile_j35 v_sheets v_covered) → va_S A s.heap H locs → lv_has ls 7 [(0, .ref h), (1, .int x1_j35), (3, .int x3_j35)] → W p l e rm_X5_isOne s m args below meth c H locs 0 0 QQ (F0 m 35 ls [.int s1_j35, .int s0_j35]) := by
      intro s0_j35 s1_j35 x1_j35 x3_j35 v_seen_j35 v_pile_j35 hw H locs ls hP hD hS hl
      unfold wp_X5_isOne_35 at hw
      refine lv_iadd hx hb dX5_isOne_35 ?_
      refine lv_istore_n (lv' := [(2, .int (s0_j35 + s1_j35)), (0, .ref h), (1, .int x1_j35), (3, .int x3_j35)]) hx hb dX5_isOne_36 rfl hl (by decide) rfl (fun ls hl => ?_)
      refine lv_aload_n hx hb dX5_isOne_37 rfl (lv_at hl 1 rfl) ?_
      refine va_get (D := D) (ci := 6) (v := .ref (a 15)) (C := RX5) (T := TX5) (N := 24) hx hb hts iRX5 hown hK hP 0 rfl rfl 15 (by decide) (hts (.fieldLink RX5 54 "LeadlightModel" "set" "[Z") (List.mem_of_getElem? (i := 2) rfl)) (fun _ h9 => h9) rfl dX5_isOne_38 ?_
      refine lv_iload_n hx hb dX5_isOne_41 rfl (lv_at hl 3 rfl) ?_
      obtain ⟨hi_42, hw⟩ := hw
      refine va_zald hx hb hK hP 1 2 rfl rfl hi_42 dX5_isOne_42 ?_
      refine lv_if_eq (tgt := 60) hx hb dX5_isOne_43 (by decide) (fun c43 => ?_) (fun c43 => ?_)
      · have hw := hw.1 c43
        refine lv_iinc (v := (x3_j35 + 1)) (lv' := [(3, .int (x3_j35 + 1)), (2, .int (s0_j35 + s1_j35)), (0, .ref h), (1, .int x1_j35)]) hx hb dX5_isOne_60 hl (k := 3) rfl rfl (by decide) rfl (fun ls hl => ?_)
        refine lv_goto (tgt := 6) hx hb dX5_isOne_63 (by decide) ?_
        exact ih6 (x1_j35, (s0_j35 + s1_j35), (x3_j35 + 1), v_seen_j35, v_pile_j35) hw _ _ ls hP hD hS (lv_sub hl [2, 3, 1, 0] rfl)
      · have hw := hw.2 c43
        refine lv_iload_n hx hb dX5_isOne_46 rfl (lv_at hl 0 rfl) ?_
        refine lv_iconst (v := 1) hx hb dX5_isOne_47 (by decide) ?_
        refine lv_icmp_ne (tgt := 60) hx hb dX5_isOne_48 (by decide) (fun c48 => ?_) (fun c48 => ?_)
        · have hw := hw.2 c48
          refine lv_iinc (v := (x3_j35 + 1)) (lv' := [(3, .int (x3_j35 + 1)), (2, .int (s0_j35 + s1_j35)), (0, .ref h), (1, .int x1_j35)]) hx hb dX5_isOne_60 hl (k := 3) rfl rfl (by decide) rfl (fun ls hl => ?_)
          refine lv_goto (tgt := 6) hx hb dX5_isOne_63 (by decide) ?_
          exact ih6 (x1_j35, (s0_j35 + s1_j35), (x3_j35 + 1), v_seen_j35, v_pile_j35) hw _ _ ls hP hD hS (lv_sub hl [2, 3, 1, 0] rfl)
        · have hw := hw.1 c48
          refine lv_aload_n hx hb dX5_isOne_51 rfl (lv_at hl 1 rfl) ?_
          refine va_get (D := D) (ci := 6) (v := .ref (a 17)) (C := RX5) (T := TX5) (N := 24) hx hb hts iRX5 hown hK hP 0 rfl rfl 17 (by decide) (hts (.fieldLink RX5 60 "LeadlightModel" "pile" "[I") (List.mem_of_getElem? (i := 3) rfl)) (fun _ h9 => h9) rfl dX5_isOne_52 ?_
          refine lv_iconst (v := 0) hx hb dX5_isOne_55 (by decide) ?_
          refine lv_iload_n hx hb dX5_isOne_56 rfl (lv_at hl 3 rfl) ?_
          refine st_i hx hb hK hP hD hS 3 0 rfl rfl (vp_lit rfl) dX5_isOne_57 (fun v_pile_t57 ev_pile_t57 H locs hP hD hS => ?_)
          have hw := hw v_pile_t57 ev_pile_t57
          have hP : va_P D vwCl (W_X5_isOne h a cI cJ cZ v_thrown v_made v_heart v_width v_set v_seen_j35 v_pile_t57 v_sheets v_covered) H := hP
          have hD : va_D A (W_X5_isOne h a cI cJ cZ v_thrown v_made v_heart v_width v_set v_seen_j35 v_pile_t57 v_sheets v_covered) := hD
          refine lv_iconst (v := 1) hx hb dX5_isOne_58 (by decide) ?_
          refine lv_istore_n (lv' := [(1, .int 1), (2, .int (s0_j35 + s1_j35)), (0, .ref h), (3, .int x3_j35)]) hx hb dX5_isOne_59 rfl hl (by decide) rfl (fun ls hl => ?_)
          refine lv_iinc (v := (x3_j35 + 1)) (lv' := [(3, .int (x3_j35 + 1)), (1, .int 1), (2, .int (s0_j35 + s1_j35)), (0, .ref h)]) hx hb dX5_isOne_60 hl (k := 3) rfl rfl (by decide) rfl (fun ls hl => ?_)
          refine lv_goto (tgt := 6) hx hb dX5_isOne_63 (by decide) ?_
          exact ih6 (1, (s0_j35 + s1_j35), (x3_j35 + 1), v_seen_j35, v_pile_t57) hw _ _ ls hP hD hS (lv_sub hl [3, 1, 2, 0] rfl)
    unfold wp_X5_isOne_6 at hw
    refine lv_iload_n hx hb dX5_isOne_6 rfl (lv_at hl 3 rfl) ?_
    refine lv_sipush (v := 256) hx hb dX5_isOne_7 (by decide) ?_
    refine lv_icmp_ge (tgt := 66) hx hb dX5_isOne_10 (by decide) (fun c10 => ?_) (fun c10 => ?_)
    · have hw := hw.1 c10
      refine lv_iload_n hx hb dX5_isOne_66 rfl (lv_at hl 2 rfl) ?_
      refine lv_if_ne (tgt := 72) hx hb dX5_isOne_67 (by decide) (fun c67 => ?_) (fun c67 => ?_)
      · have hw := hw.2 c67
        refine lv_aload_n hx hb dX5_isOne_72 rfl (lv_at hl 0 rfl) ?_
        refine va_get (D := D) (ci := 6) (v := .ref (a 16)) (C := RX5) (T := TX5) (N := 24) hx hb hts iRX5 hown hK hP 0 rfl rfl 16 (by decide) (hts (.fieldLink RX5 57 "LeadlightModel" "seen" "[Z") (List.mem_of_getElem? (i := 1) rfl)) (fun _ h9 => h9) rfl dX5_isOne_73 ?_
        refine lv_aload_n hx hb dX5_isOne_76 rfl (lv_at hl 0 rfl) ?_
        refine va_get (D := D) (ci := 6) (v := .ref (a 17)) (C := RX5) (T := TX5) (N := 24) hx hb hts iRX5 hown hK hP 0 rfl rfl 17 (by decide) (hts (.fieldLink RX5 60 "LeadlightModel" "pile" "[I") (List.mem_of_getElem? (i := 3) rfl)) (fun _ h9 => h9) rfl dX5_isOne_77 ?_
        refine lv_iconst (v := 0) hx hb dX5_isOne_80 (by decide) ?_
        refine va_iald hx hb hK hP 3 0 rfl rfl (vp_lit rfl) dX5_isOne_81 ?_
        refine lv_iconst (v := 1) hx hb dX5_isOne_82 (by decide) ?_
        obtain ⟨hi_83, hw⟩ := hw
        refine st_z hx hb hK hP hD hS 2 2 rfl rfl hi_83 dX5_isOne_83 (fun v_seen_t83 ev_seen_t83 H locs hP hD hS => ?_)
        have hw := hw v_seen_t83 ev_seen_t83
        have hP : va_P D vwCl (W_X5_isOne h a cI cJ cZ v_thrown v_made v_heart v_width v_set v_seen_t83 v_pile_j6 v_sheets v_covered) H := hP
        have hD : va_D A (W_X5_isOne h a cI cJ cZ v_thrown v_made v_heart v_width v_set v_seen_t83 v_pile_j6 v_sheets v_covered) := hD
        refine lv_iconst (v := 1) hx hb dX5_isOne_84 (by decide) ?_
        refine lv_istore_n (lv' := [(3, .int 1), (0, .ref h), (1, .int x1_j6), (2, .int x2_j6)]) hx hb dX5_isOne_85 rfl hl (by decide) rfl (fun ls hl => ?_)
        exact L86 (x1_j6, x2_j6, 1, v_seen_t83, v_pile_j6) hw _ _ ls hP hD hS (lv_sub hl [1, 2, 3, 0] rfl)
      · have hw := hw.1 c67
        refine lv_iconst (v := 0) hx hb dX5_isOne_70 (by decide) ?_
        exact RT 0 (v_seen_j6, v_pile_j6) _ _ _ _ dX5_isOne_71 (Or.inl rfl) hw hP hD hS
    · have hw := hw.2 c10
      refine lv_aload_n hx hb dX5_isOne_13 rfl (lv_at hl 0 rfl) ?_
      refine va_get (D := D) (ci := 6) (v := .ref (a 16)) (C := RX5) (T := TX5) (N := 24) hx hb hts iRX5 hown hK hP 0 rfl rfl 16 (by decide) (hts (.fieldLink RX5 57 "LeadlightModel" "seen" "[Z") (List.mem_of_getElem? (i := 1) rfl)) (fun _ h9 => h9) rfl dX5_isOne_14 ?_
      refine lv_iload_n hx hb dX5_isOne_17 rfl (lv_at hl 3 rfl) ?_
      refine lv_iconst (v := 0) hx hb dX5_isOne_18 (by decide) ?_
      obtain ⟨hi_19, hw⟩ := hw
      refine st_z hx hb hK hP hD hS 2 2 rfl rfl hi_19 dX5_isOne_19 (fun v_seen_t19 ev_seen_t19 H locs hP hD hS => ?_)
      have hw := hw v_seen_t19 ev_seen_t19
      have hP : va_P D vwCl (W_X5_isOne h a cI cJ cZ v_thrown v_made v_heart v_width v_set v_seen_t19 v_pile_j6 v_sheets v_covered) H := hP
      have hD : va_D A (W_X5_isOne h a cI cJ cZ v_thrown v_made v_heart v_width v_set v_seen_t19 v_pile_j6 v_sheets v_covered) := hD
      refine lv_iload_n hx hb dX5_isOne_20 rfl (lv_at hl 2 rfl) ?_
      refine lv_aload_n hx hb dX5_isOne_21 rfl (lv_at hl 0 rfl) ?_
      refine va_get (D := D) (ci := 6) (v := .ref (a 15)) (C := RX5) (T := TX5) (N := 24) hx hb hts iRX5 hown hK hP 0 rfl rfl 15 (by decide) (hts (.fieldLink RX5 54 "LeadlightModel" "set" "[Z") (List.mem_of_getElem? (i := 2) rfl)) (fun _ h9 => h9) rfl dX5_isOne_22 ?_
      refine lv_iload_n hx hb dX5_isOne_25 rfl (lv_at hl 3 rfl) ?_
      obtain ⟨hi_26, hw⟩ := hw
      refine va_zald hx hb hK hP 1 2 rfl rfl hi_26 dX5_isOne_26 ?_
      refine lv_if_eq (tgt := 34) hx hb dX5_isOne_27 (by decide) (fun c27 => ?_) (fun c27 => ?_)
      · have hw := hw.1 c27
        refine lv_iconst (v := 0) hx hb dX5_isOne_34 (by decide) ?_
        exact J35 x2_j6 0 x1_j6 x3_j6 v_seen_t19 v_pile_j6 hw _ _ ls hP hD hS (lv_sub hl [0, 1, 3] rfl)
      · have hw := hw.2 c27
        refine lv_iconst (v := 1) hx hb dX5_isOne_30 (by decide) ?_
        refine lv_goto (tgt := 35) hx hb dX5_isOne_31 (by decide) ?_
        exact J35 x2_j6 1 x1_j6 x3_j6 v_seen_t19 v_pile_j6 hw _ _ ls hP hD hS (lv_sub hl [0, 1, 3] rfl)
  refine lv_iconst (v := 0) hx hb dX5_isOne_0 (by decide) ?_
  refine lv_istore_n (lv' := [(1, .int 0), (0, .ref h)]) hx hb dX5_isOne_1 rfl hl (by decide) rfl (fun ls hl => ?_)
  refine lv_iconst (v := 0) hx hb dX5_isOne_2 (by decide) ?_
  refine lv_istore_n (lv' := [(2, .int 0), (1, .int 0), (0, .ref h)]) hx hb dX5_isOne_3 rfl hl (by decide) rfl (fun ls hl => ?_)
  refine lv_iconst (v := 0) hx hb dX5_isOne_4 (by decide) ?_
  refine lv_istore_n (lv' := [(3, .int 0), (2, .int 0), (1, .int 0), (0, .ref h)]) hx hb dX5_isOne_5 rfl hl (by decide) rfl (fun ls hl => ?_)
  exact L6 (0, 0, 0, v_seen, v_pile) hw _ _ ls hP hD hS (lv_sub hl [3, 2, 1, 0] rfl)
abbrev rm_X5_isTight : Room := { frames := 0, cells := 0, slots := 0, locals := 0 }
abbrev W_X5_isTight (h : Nat) (a : Nat → Nat) (cI cJ cZ : ClassId) (v_thrown : Int32) (v_made : Int32) (v_heart : Int32) (v_width : Int32) (v_set : Nat → Int32) (v_sheets : Int32) (v_covered : Int32) : va_W := [(h, .inr (6, [.int v_thrown, .int v_made, .ref (a 2), .ref (a 3), .ref (a 4), .ref (a 5), .ref (a 6), .ref (a 7), .ref (a 8), .ref (a 9), .ref (a 10), .ref (a 11), .int v_heart, .int v_width, .ref (a 14), .ref (a 15), .ref (a 16), .ref (a 17), .ref (a 18), .ref (a 19), .ref (a 20), .ref (a 21), .int v_sheets, .int v_covered])), ((a 15), .inl (cZ, 256, .inl v_set))]
def wp_X5_isTight_99 (v_set : Nat → Int32) (p1 : Int32) (post : Int32 → Prop) (K4 : Int32 → Int32 → Prop) (s0_j99 : Int32) (x3_j99 : Int32) : Prop := K4 s0_j99 (x3_j99 + 1)
def wp_X5_isTight_71 (v_set : Nat → Int32) (p1 : Int32) (post : Int32 → Prop) (K4 : Int32 → Int32 → Prop) (K19 : Int32 → Int32 → Int32 → Int32 → Int32 → Prop) (s0_j71 : Int32) (s1_j71 : Int32) (x2_j71 : Int32) (x3_j71 : Int32) (x6_j71 : Int32) (x7_j71 : Int32) : Prop := K19 x2_j71 x3_j71 (s0_j71 + s1_j71) x7_j71 (x6_j71 + 1)
def wp_X5_isTight_51 (v_set : Nat → Int32) (p1 : Int32) (post : Int32 → Prop) (K4 : Int32 → Int32 → Prop) (K19 : Int32 → Int32 → Int32 → Int32 → Int32 → Prop) (s1_j51 : Int32) (x2_j51 : Int32) (x3_j51 : Int32) (x4_j51 : Int32) (x5_j51 : Int32) (x6_j51 : Int32) : Prop := vp_in s1_j51 256 ∧ (((v_set s1_j51.toNatClampNeg) = 0 → wp_X5_isTight_71 v_set p1 post K4 K19 x4_j51 0 x2_j51 x3_j51 x6_j51 (v_set s1_j51.toNatClampNeg)) ∧ (¬ (v_set s1_j51.toNatClampNeg) = 0 → (x5_j51 = 0 → wp_X5_isTight_71 v_set p1 post K4 K19 x4_j51 1 x2_j51 x3_j51 x6_j51 (v_set s1_j51.toNatClampNeg)) ∧ (¬ x5_j51 = 0 → wp_X5_isTight_71 v_set p1 post K4 K19 x4_j51 0 x2_j51 x3_j51 x6_j51 (v_set s1_j51.toNatClampNeg))))
def wp_X5_isTight_19 (v_set : Nat → Int32) (p1 : Int32) (post : Int32 → Prop) (K4 : Int32 → Int32 → Prop) (K19 : Int32 → Int32 → Int32 → Int32 → Int32 → Prop) (x2_j19 : Int32) (x3_j19 : Int32) (x4_j19 : Int32) (x5_j19 : Int32) (x6_j19 : Int32) : Prop := (16 ≤ x6_j19 → (x2_j19 = 0 → wp_X5_isTight_99 v_set p1 post K4 0 x3_j19) ∧ (¬ x2_j19 = 0 → (2 ≤ x4_j19 → wp_X5_isTight_99 v_set p1 post K4 0 x3_j19) ∧ (¬ 2 ≤ x4_j19 → wp_X5_isTight_99 v_set p1 post K4 1 x3_j19))) ∧ (¬ 16 ≤ x6_j19 → (p1 = 0 → wp_X5_isTight_51 v_set p1 post K4 K19 ((16 * x6_j19) + x3_j19) x2_j19 x3_j19 x4_j19 x5_j19 x6_j19) ∧ (¬ p1 = 0 → wp_X5_isTight_51 v_set p1 post K4 K19 ((16 * x3_j19) + x6_j19) x2_j19 x3_j19 x4_j19 x5_j19 x6_j19))
def lF_X5_isTight_19 (v_set : Nat → Int32) (p1 : Int32) (post : Int32 → Prop) (K4 : Int32 → Int32 → Prop) : ((Int32 × Int32 × Int32 × Int32 × Int32) → Prop) → (Int32 × Int32 × Int32 × Int32 × Int32) → Prop := fun K s => wp_X5_isTight_19 v_set p1 post K4 (fun b0 b1 b2 b3 b4 => K (b0, b1, b2, b3, b4)) s.1 s.2.1 s.2.2.1 s.2.2.2.1 s.2.2.2.2
def wp_X5_isTight_4 (v_set : Nat → Int32) (p1 : Int32) (post : Int32 → Prop) (K4 : Int32 → Int32 → Prop) (x2_j4 : Int32) (x3_j4 : Int32) : Prop := (16 ≤ x3_j4 → (x2_j4 = 0 ∨ x2_j4 = 1) ∧ post x2_j4) ∧ (¬ 16 ≤ x3_j4 → lp (lF_X5_isTight_19 v_set p1 post K4) (x2_j4, x3_j4, 0, 0, 0))
def lF_X5_isTight_4 (v_set : Nat → Int32) (p1 : Int32) (post : Int32 → Prop) : ((Int32 × Int32) → Prop) → (Int32 × Int32) → Prop := fun K s => wp_X5_isTight_4 v_set p1 post (fun b0 b1 => K (b0, b1)) s.1 s.2
def wp_X5_isTight (v_set : Nat → Int32) (p1 : Int32) (post : Int32 → Prop) : Prop := lp (lF_X5_isTight_4 v_set p1 post) (1, 0)
set_option maxHeartbeats 4000000 in
set_option maxRecDepth 100000 in
theorem c_X5_isTight (l : Launch) (D : va_G) (cI cJ cZ cO : ClassId) (h : Nat) (a : Nat → Nat) (sz : Nat) (v_thrown : Int32) (v_made : Int32) (v_heart : Int32) (v_width : Int32) (v_set : Nat → Int32) (v_sheets : Int32) (v_covered : Int32) (p1 : Int32) (post : Int32 → Prop) (hw : wp_X5_isTight v_set p1 post) : Met l yX5_isTight wsX5_isTight rm_X5_isTight (va_Pc [.ref h, .int p1] (PRE D cI cJ cZ cO (W_X5_isTight h a cI cJ cZ v_thrown v_made v_heart v_width v_set v_sheets v_covered) sz)) (va_Qi (fun r (_ : Unit) => post r) (fun u t => POST D (va_A (W_X5_isTight h a cI cJ cZ v_thrown v_made v_heart v_width v_set v_sheets v_covered) sz) (W_X5_isTight h a cI cJ cZ v_thrown v_made v_heart v_width v_set v_sheets v_covered) t) (va_A (W_X5_isTight h a cI cJ cZ v_thrown v_made v_heart v_width v_set v_sheets v_covered) sz)) 0 0 (va_A (W_X5_isTight h a cI cJ cZ v_thrown v_made v_heart v_width v_set v_sheets v_covered) sz) := by
  refine met_go (cc := cX5_isTight) (maxL := 8) (ret := some .boolean) RX5 rfl (by decide) rfl (Nat.le_of_ble_eq_true rfl) ?_
  intro p e s m args below meth c ls hx hb hr hts hown hlocks hin hml hsz hP hK hE hD hA hS hl
  have iRX5 : ∀ w ∈ u_ws RX5 TX5 24, w ∈ wsX5_isTight := mem_seg 2 24 rfl
  generalize va_A (W_X5_isTight h a cI cJ cZ v_thrown v_made v_heart v_width v_set v_sheets v_covered) sz = A at hD hA hS ⊢
  have RT : ∀ (v : Int32) (u : Unit) (H : Heap) (locs : List Loc) (pc : Nat) (ls : Array Slot), decode cX5_isTight pc = .ok (.ireturn, 1) → (v = 0 ∨ v = 1) → post v → va_P D vwCl (W_X5_isTight h a cI cJ cZ v_thrown v_made v_heart v_width v_set v_sheets v_covered) H → va_D A (W_X5_isTight h a cI cJ cZ v_thrown v_made v_heart v_width v_set v_sheets v_covered) → va_S A s.heap H locs → W p l e rm_X5_isTight s m args below meth c H locs 0 0 (MQ below (va_Qi (fun r (_ : Unit) => post r) (fun u t => POST D A (W_X5_isTight h a cI cJ cZ v_thrown v_made v_heart v_width v_set v_sheets v_covered) t) A) args s 0 0 A) (F0 m pc ls [.int v]) := fun v u H locs pc ls d g0 g1 g2 g3 g4 => rt_z (Wf := fun u => (W_X5_isTight h a cI cJ cZ v_thrown v_made v_heart v_width v_set v_sheets v_covered)) u hx hb hr hlocks g0 g1 g2 g3 g4 d
  generalize (MQ below (va_Qi (fun r (_ : Unit) => post r) (fun u t => POST D A (W_X5_isTight h a cI cJ cZ v_thrown v_made v_heart v_width v_set v_sheets v_covered) t) A) args s 0 0 A) = QQ at RT ⊢
  have hl : lv_has ls 8 [(0, .ref h), (1, .int p1)] := hl
  have hP : va_P D vwCl (W_X5_isTight h a cI cJ cZ v_thrown v_made v_heart v_width v_set v_sheets v_covered) s.heap := hP
  unfold wp_X5_isTight at hw
  suffices GO : ∀ (H : Heap) (locs : List Loc), va_P D vwCl (W_X5_isTight h a cI cJ cZ v_thrown v_made v_heart v_width v_set v_sheets v_covered) H → va_S A s.heap H locs → W p l e rm_X5_isTight s m args below meth c H locs 0 0 QQ (F0 m 0 ls []) from GO _ _ hP hS
  clear hsz hP hS
  intro H locs hP hS
  have L4 : ∀ s0 : (Int32 × Int32), lp (lF_X5_isTight_4 v_set p1 post) s0 → ∀ (H : Heap) (locs : List Loc) (ls : Array Slot), va_P D vwCl (W_X5_isTight h a cI cJ cZ v_thrown v_made v_heart v_width v_set v_sheets v_covered) H → va_D A (W_X5_isTight h a cI cJ cZ v_thrown v_made v_heart v_width v_set v_sheets v_covered) → va_S A s.heap H locs → lv_has ls 8 [(0, .ref h), (1, .int p1), (2, .int s0.1), (3, .int s0.2)] → W p l e rm_X5_isTight s m args below meth c H locs 0 0 QQ (F0 m 4 ls []) := by
    refine lp_elim (fun K4 ih4 s0 hw => ?_)
    obtain ⟨x2_j4, x3_j4⟩ := s0
    intro H locs ls hP hD hS hl
    have hw : wp_X5_isTight_4 v_set p1 post (fun b0 b1 => K4 (b0, b1)) x2_j4 x3_j4 := hw
    have hP : va_P D vwCl (W_X5_isTight h a cI cJ cZ v_thrown v_made v_heart v_width v_set v_sheets v_covered) H := hP
    have hD : va_D A (W_X5_isTight h a cI cJ cZ v_thrown v_made v_heart v_width v_set v_sheets v_covered) := hD
    have hl : lv_has ls 8 [(0, .ref h), (1, .int p1), (2, .int x2_j4), (3, .int x3_j4)] := hl
    have J99 : ∀ (s0_j99 : Int32) (x3_j99 : Int32) , wp_X5_isTight_99 v_set p1 post (fun b0 b1 => K4 (b0, b1)) s0_j99 x3_j99 → ∀ (H : Heap) (locs : List Loc) (ls : Array Slot), va_P D vwCl (W_X5_isTight h a cI cJ cZ v_thrown v_made v_heart v_width v_set v_sheets v_covered) H → va_D A (W_X5_isTight h a cI cJ cZ v_thrown v_made v_heart v_width v_set v_sheets v_covered) → va_S A s.heap H locs → lv_has ls 8 [(0, .ref h), (1, .int p1), (3, .int x3_j99)] → W p l e rm_X5_isTight s m args below meth c H locs 0 0 QQ (F0 m 99 ls [.int s0_j99]) := by
      intro s0_j99 x3_j99 hw H locs ls hP hD hS hl
      unfold wp_X5_isTight_99 at hw
      refine lv_istore_n (lv' := [(2, .int s0_j99), (0, .ref h), (1, .int p1), (3, .int x3_j99)]) hx hb dX5_isTight_99 rfl hl (by decide) rfl (fun ls hl => ?_)
      refine lv_iinc (v := (x3_j99 + 1)) (lv' := [(3, .int (x3_j99 + 1)), (2, .int s0_j99), (0, .ref h), (1, .int p1)]) hx hb dX5_isTight_100 hl (k := 3) rfl rfl (by decide) rfl (fun ls hl => ?_)
      refine lv_goto (tgt := 4) hx hb dX5_isTight_103 (by decide) ?_
      exact ih4 (s0_j99, (x3_j99 + 1)) hw _ _ ls hP hD hS (lv_sub hl [2, 3, 1, 0] rfl)
    have L19 : ∀ s0 : (Int32 × Int32 × Int32 × Int32 × Int32), lp (lF_X5_isTight_19 v_set p1 post (fun b0 b1 => K4 (b0, b1))) s0 → ∀ (H : Heap) (locs : List Loc) (ls : Array Slot), va_P D vwCl (W_X5_isTight h a cI cJ cZ v_thrown v_made v_heart v_width v_set v_sheets v_covered) H → va_D A (W_X5_isTight h a cI cJ cZ v_thrown v_made v_heart v_width v_set v_sheets v_covered) → va_S A s.heap H locs → lv_has ls 8 [(0, .ref h), (1, .int p1), (2, .int s0.1), (3, .int s0.2.1), (4, .int s0.2.2.1), (5, .int s0.2.2.2.1), (6, .int s0.2.2.2.2)] → W p l e rm_X5_isTight s m args below meth c H locs 0 0 QQ (F0 m 19 ls []) := by
      refine lp_elim (fun K19 ih19 s0 hw => ?_)
      obtain ⟨x2_j19, x3_j19, x4_j19, x5_j19, x6_j19⟩ := s0
      intro H locs ls hP hD hS hl
      have hw : wp_X5_isTight_19 v_set p1 post (fun b0 b1 => K4 (b0, b1)) (fun b0 b1 b2 b3 b4 => K19 (b0, b1, b2, b3, b4)) x2_j19 x3_j19 x4_j19 x5_j19 x6_j19 := hw
      have hP : va_P D vwCl (W_X5_isTight h a cI cJ cZ v_thrown v_made v_heart v_width v_set v_sheets v_covered) H := hP
      have hD : va_D A (W_X5_isTight h a cI cJ cZ v_thrown v_made v_heart v_width v_set v_sheets v_covered) := hD
      have hl : lv_has ls 8 [(0, .ref h), (1, .int p1), (2, .int x2_j19), (3, .int x3_j19), (4, .int x4_j19), (5, .int x5_j19), (6, .int x6_j19)] := hl
      have J71 : ∀ (s0_j71 : Int32) (s1_j71 : Int32) (x2_j71 : Int32) (x3_j71 : Int32) (x6_j71 : Int32) (x7_j71 : Int32) , wp_X5_isTight_71 v_set p1 post (fun b0 b1 => K4 (b0, b1)) (fun b0 b1 b2 b3 b4 => K19 (b0, b1, b2, b3, b4)) s0_j71 s1_j71 x2_j71 x3_j71 x6_j71 x7_j71 → ∀ (H : Heap) (locs : List Loc) (ls : Array Slot), va_P D vwCl (W_X5_isTight h a cI cJ cZ v_thrown v_made v_heart v_width v_set v_sheets v_covered) H → va_D A (W_X5_isTight h a cI cJ cZ v_thrown v_made v_heart v_width v_set v_sheets v_covered) → va_S A s.heap H locs → lv_has ls 8 [(0, .ref h), (1, .int p1), (2, .int x2_j71), (3, .int x3_j71), (6, .int x6_j71), (7, .int x7_j71)] → W p l e rm_X5_isTight s m args below meth c H locs 0 0 QQ (F0 m 71 ls [.int s1_j71, .int s0_j71]) := by
        intro s0_j71 s1_j71 x2_j71 x3_j71 x6_j71 x7_j71 hw H locs ls hP hD hS hl
        unfold wp_X5_isTight_71 at hw
        refine lv_iadd hx hb dX5_isTight_71 ?_
        refine lv_istore (lv' := [(4, .int (s0_j71 + s1_j71)), (0, .ref h), (1, .int p1), (2, .int x2_j71), (3, .int x3_j71), (6, .int x6_j71), (7, .int x7_j71)]) hx hb dX5_isTight_72 hl (by decide) rfl (fun ls hl => ?_)
        refine lv_iload hx hb dX5_isTight_74 (lv_at hl 6 rfl) ?_
        refine lv_istore (lv' := [(5, .int x7_j71), (4, .int (s0_j71 + s1_j71)), (0, .ref h), (1, .int p1), (2, .int x2_j71), (3, .int x3_j71), (6, .int x6_j71), (7, .int x7_j71)]) hx hb dX5_isTight_76 hl (by decide) rfl (fun ls hl => ?_)
        refine lv_iinc (v := (x6_j71 + 1)) (lv' := [(6, .int (x6_j71 + 1)), (5, .int x7_j71), (4, .int (s0_j71 + s1_j71)), (0, .ref h), (1, .int p1), (2, .int x2_j71), (3, .int x3_j71), (7, .int x7_j71)]) hx hb dX5_isTight_78 hl (k := 6) rfl rfl (by decide) rfl (fun ls hl => ?_)
        refine lv_goto (tgt := 19) hx hb dX5_isTight_81 (by decide) ?_
        exact ih19 (x2_j71, x3_j71, (s0_j71 + s1_j71), x7_j71, (x6_j71 + 1)) hw _ _ ls hP hD hS (lv_sub hl [3, 4, 5, 6, 2, 1, 0] rfl)
      have J51 : ∀ (s1_j51 : Int32) (x2_j51 : Int32) (x3_j51 : Int32) (x4_j51 : Int32) (x5_j51 : Int32) (x6_j51 : Int32) , wp_X5_isTight_51 v_set p1 post (fun b0 b1 => K4 (b0, b1)) (fun b0 b1 b2 b3 b4 => K19 (b0, b1, b2, b3, b4)) s1_j51 x2_j51 x3_j51 x4_j51 x5_j51 x6_j51 → ∀ (H : Heap) (locs : List Loc) (ls : Array Slot), va_P D vwCl (W_X5_isTight h a cI cJ cZ v_thrown v_made v_heart v_width v_set v_sheets v_covered) H → va_D A (W_X5_isTight h a cI cJ cZ v_thrown v_made v_heart v_width v_set v_sheets v_covered) → va_S A s.heap H locs → lv_has ls 8 [(0, .ref h), (1, .int p1), (2, .int x2_j51), (3, .int x3_j51), (4, .int x4_j51), (5, .int x5_j51), (6, .int x6_j51)] → W p l e rm_X5_isTight s m args below meth c H locs 0 0 QQ (F0 m 51 ls [.int s1_j51, .ref (a 15)]) := by
        intro s1_j51 x2_j51 x3_j51 x4_j51 x5_j51 x6_j51 hw H locs ls hP hD hS hl
        unfold wp_X5_isTight_51 at hw
        obtain ⟨hi_51, hw⟩ := hw
        refine va_zald hx hb hK hP 1 2 rfl rfl hi_51 dX5_isTight_51 ?_
        refine lv_istore (lv' := [(7, .int (v_set s1_j51.toNatClampNeg)), (0, .ref h), (1, .int p1), (2, .int x2_j51), (3, .int x3_j51), (4, .int x4_j51), (5, .int x5_j51), (6, .int x6_j51)]) hx hb dX5_isTight_52 hl (by decide) rfl (fun ls hl => ?_)
        refine lv_iload hx hb dX5_isTight_54 (lv_at hl 5 rfl) ?_
        refine lv_iload hx hb dX5_isTight_56 (lv_at hl 0 rfl) ?_
        refine lv_if_eq (tgt := 70) hx hb dX5_isTight_58 (by decide) (fun c58 => ?_) (fun c58 => ?_)
        · have hw := hw.1 c58
          refine lv_iconst (v := 0) hx hb dX5_isTight_70 (by decide) ?_
          exact J71 x4_j51 0 x2_j51 x3_j51 x6_j51 (v_set s1_j51.toNatClampNeg) hw _ _ ls hP hD hS (lv_sub hl [1, 2, 3, 4, 7, 0] rfl)
        · have hw := hw.2 c58
          refine lv_iload hx hb dX5_isTight_61 (lv_at hl 6 rfl) ?_
          refine lv_if_ne (tgt := 70) hx hb dX5_isTight_63 (by decide) (fun c63 => ?_) (fun c63 => ?_)
          · have hw := hw.2 c63
            refine lv_iconst (v := 0) hx hb dX5_isTight_70 (by decide) ?_
            exact J71 x4_j51 0 x2_j51 x3_j51 x6_j51 (v_set s1_j51.toNatClampNeg) hw _ _ ls hP hD hS (lv_sub hl [1, 2, 3, 4, 7, 0] rfl)
          · have hw := hw.1 c63
            refine lv_iconst (v := 1) hx hb dX5_isTight_66 (by decide) ?_
            refine lv_goto (tgt := 71) hx hb dX5_isTight_67 (by decide) ?_
            exact J71 x4_j51 1 x2_j51 x3_j51 x6_j51 (v_set s1_j51.toNatClampNeg) hw _ _ ls hP hD hS (lv_sub hl [1, 2, 3, 4, 7, 0] rfl)
      unfold wp_X5_isTight_19 at hw
      refine lv_iload hx hb dX5_isTight_19 (lv_at hl 6 rfl) ?_
      refine lv_bipush (v := 16) hx hb dX5_isTight_21 (by decide) ?_
      refine lv_icmp_ge (tgt := 84) hx hb dX5_isTight_23 (by decide) (fun c23 => ?_) (fun c23 => ?_)
      · have hw := hw.1 c23
        refine lv_iload_n hx hb dX5_isTight_84 rfl (lv_at hl 2 rfl) ?_
        refine lv_if_eq (tgt := 98) hx hb dX5_isTight_85 (by decide) (fun c85 => ?_) (fun c85 => ?_)
        · have hw := hw.1 c85
          refine lv_iconst (v := 0) hx hb dX5_isTight_98 (by decide) ?_
          exact J99 0 x3_j19 hw _ _ ls hP hD hS (lv_sub hl [0, 1, 3] rfl)
        · have hw := hw.2 c85
          refine lv_iload hx hb dX5_isTight_88 (lv_at hl 4 rfl) ?_
          refine lv_iconst (v := 2) hx hb dX5_isTight_90 (by decide) ?_
          refine lv_icmp_ge (tgt := 98) hx hb dX5_isTight_91 (by decide) (fun c91 => ?_) (fun c91 => ?_)
          · have hw := hw.1 c91
            refine lv_iconst (v := 0) hx hb dX5_isTight_98 (by decide) ?_
            exact J99 0 x3_j19 hw _ _ ls hP hD hS (lv_sub hl [0, 1, 3] rfl)
          · have hw := hw.2 c91
            refine lv_iconst (v := 1) hx hb dX5_isTight_94 (by decide) ?_
            refine lv_goto (tgt := 99) hx hb dX5_isTight_95 (by decide) ?_
            exact J99 1 x3_j19 hw _ _ ls hP hD hS (lv_sub hl [0, 1, 3] rfl)
      · have hw := hw.2 c23
        refine lv_aload_n hx hb dX5_isTight_26 rfl (lv_at hl 0 rfl) ?_
        refine va_get (D := D) (ci := 6) (v := .ref (a 15)) (C := RX5) (T := TX5) (N := 24) hx hb hts iRX5 hown hK hP 0 rfl rfl 15 (by decide) (hts (.fieldLink RX5 54 "LeadlightModel" "set" "[Z") (List.mem_of_getElem? (i := 1) rfl)) (fun _ h9 => h9) rfl dX5_isTight_27 ?_
        refine lv_iload_n hx hb dX5_isTight_30 rfl (lv_at hl 1 rfl) ?_
        refine lv_if_eq (tgt := 44) hx hb dX5_isTight_31 (by decide) (fun c31 => ?_) (fun c31 => ?_)
        · have hw := hw.1 c31
          refine lv_bipush (v := 16) hx hb dX5_isTight_44 (by decide) ?_
          refine lv_iload hx hb dX5_isTight_46 (lv_at hl 6 rfl) ?_
          refine lv_imul hx hb dX5_isTight_48 ?_
          refine lv_iload_n hx hb dX5_isTight_49 rfl (lv_at hl 3 rfl) ?_
          refine lv_iadd hx hb dX5_isTight_50 ?_
          exact J51 ((16 * x6_j19) + x3_j19) x2_j19 x3_j19 x4_j19 x5_j19 x6_j19 hw _ _ ls hP hD hS (lv_sub hl [0, 1, 2, 3, 4, 5, 6] rfl)
        · have hw := hw.2 c31
          refine lv_bipush (v := 16) hx hb dX5_isTight_34 (by decide) ?_
          refine lv_iload_n hx hb dX5_isTight_36 rfl (lv_at hl 3 rfl) ?_
          refine lv_imul hx hb dX5_isTight_37 ?_
          refine lv_iload hx hb dX5_isTight_38 (lv_at hl 6 rfl) ?_
          refine lv_iadd hx hb dX5_isTight_40 ?_
          refine lv_goto (tgt := 51) hx hb dX5_isTight_41 (by decide) ?_
          exact J51 ((16 * x3_j19) + x6_j19) x2_j19 x3_j19 x4_j19 x5_j19 x6_j19 hw _ _ ls hP hD hS (lv_sub hl [0, 1, 2, 3, 4, 5, 6] rfl)
    unfold wp_X5_isTight_4 at hw
    refine lv_iload_n hx hb dX5_isTight_4 rfl (lv_at hl 3 rfl) ?_
    refine lv_bipush (v := 16) hx hb dX5_isTight_5 (by decide) ?_
    refine lv_icmp_ge (tgt := 106) hx hb dX5_isTight_7 (by decide) (fun c7 => ?_) (fun c7 => ?_)
    · have hw := hw.1 c7
      refine lv_iload_n hx hb dX5_isTight_106 rfl (lv_at hl 2 rfl) ?_
      exact RT x2_j4 () _ _ _ _ dX5_isTight_107 hw.1 hw.2 hP hD hS
    · have hw := hw.2 c7
      refine lv_iconst (v := 0) hx hb dX5_isTight_10 (by decide) ?_
      refine lv_istore (lv' := [(4, .int 0), (0, .ref h), (1, .int p1), (2, .int x2_j4), (3, .int x3_j4)]) hx hb dX5_isTight_11 hl (by decide) rfl (fun ls hl => ?_)
      refine lv_iconst (v := 0) hx hb dX5_isTight_13 (by decide) ?_
      refine lv_istore (lv' := [(5, .int 0), (4, .int 0), (0, .ref h), (1, .int p1), (2, .int x2_j4), (3, .int x3_j4)]) hx hb dX5_isTight_14 hl (by decide) rfl (fun ls hl => ?_)
      refine lv_iconst (v := 0) hx hb dX5_isTight_16 (by decide) ?_
      refine lv_istore (lv' := [(6, .int 0), (5, .int 0), (4, .int 0), (0, .ref h), (1, .int p1), (2, .int x2_j4), (3, .int x3_j4)]) hx hb dX5_isTight_17 hl (by decide) rfl (fun ls hl => ?_)
      exact L19 (x2_j4, x3_j4, 0, 0, 0) hw _ _ ls hP hD hS (lv_sub hl [3, 4, 5, 6, 2, 1, 0] rfl)
  refine lv_iconst (v := 1) hx hb dX5_isTight_0 (by decide) ?_
  refine lv_istore_n (lv' := [(2, .int 1), (0, .ref h), (1, .int p1)]) hx hb dX5_isTight_1 rfl hl (by decide) rfl (fun ls hl => ?_)
  refine lv_iconst (v := 0) hx hb dX5_isTight_2 (by decide) ?_
  refine lv_istore_n (lv' := [(3, .int 0), (2, .int 1), (0, .ref h), (1, .int p1)]) hx hb dX5_isTight_3 rfl hl (by decide) rfl (fun ls hl => ?_)
  exact L4 (1, 0) hw _ _ ls hP hD hS (lv_sub hl [2, 3, 1, 0] rfl)
abbrev rm_X5_isSquare : Room := { frames := 1, cells := 0, slots := 0, locals := 22 }
abbrev W_X5_isSquare (h : Nat) (a : Nat → Nat) (cI cJ cZ : ClassId) (v_thrown : Int32) (v_made : Int32) (v_heart : Int32) (v_width : Int32) (v_set : Nat → Int32) (v_sheets : Int32) (v_covered : Int32) : va_W := [(h, .inr (6, [.int v_thrown, .int v_made, .ref (a 2), .ref (a 3), .ref (a 4), .ref (a 5), .ref (a 6), .ref (a 7), .ref (a 8), .ref (a 9), .ref (a 10), .ref (a 11), .int v_heart, .int v_width, .ref (a 14), .ref (a 15), .ref (a 16), .ref (a 17), .ref (a 18), .ref (a 19), .ref (a 20), .ref (a 21), .int v_sheets, .int v_covered])), ((a 15), .inl (cZ, 256, .inl v_set))]
def wp_X5_isSquare_25 (v_set : Nat → Int32) (p1 : Int32) (p2 : Int32) (post : Int32 → Prop) (s0_j25 : Int32) : Prop := (s0_j25 = 0 → post 0) ∧ (¬ s0_j25 = 0 → vp_in ((16 * p1) + p2) 256 ∧ (((v_set ((16 * p1) + p2).toNatClampNeg) = 0 → post 0) ∧ (¬ (v_set ((16 * p1) + p2).toNatClampNeg) = 0 → vp_in (((16 * p1) + p2) + 1) 256 ∧ (((v_set (((16 * p1) + p2) + 1).toNatClampNeg) = 0 → post 0) ∧ (¬ (v_set (((16 * p1) + p2) + 1).toNatClampNeg) = 0 → vp_in (((16 * p1) + 16) + p2) 256 ∧ (((v_set (((16 * p1) + 16) + p2).toNatClampNeg) = 0 → post 0) ∧ (¬ (v_set (((16 * p1) + 16) + p2).toNatClampNeg) = 0 → vp_in ((((16 * p1) + 16) + p2) + 1) 256 ∧ (((v_set ((((16 * p1) + 16) + p2) + 1).toNatClampNeg) = 0 → post 0) ∧ (¬ (v_set ((((16 * p1) + 16) + p2) + 1).toNatClampNeg) = 0 → post 1)))))))))
def wp_X5_isSquare (v_set : Nat → Int32) (p1 : Int32) (p2 : Int32) (post : Int32 → Prop) : Prop := wp_X5_in p1 0 14 (fun r_4 => (r_4 = 0 → wp_X5_isSquare_25 v_set p1 p2 post 0) ∧ (¬ r_4 = 0 → wp_X5_in p2 0 14 (fun r_14 => (r_14 = 0 → wp_X5_isSquare_25 v_set p1 p2 post 0) ∧ (¬ r_14 = 0 → wp_X5_isSquare_25 v_set p1 p2 post 1))))
set_option maxHeartbeats 4000000 in
set_option maxRecDepth 100000 in
theorem c_X5_isSquare (l : Launch) (D : va_G) (cI cJ cZ cO : ClassId) (h : Nat) (a : Nat → Nat) (sz : Nat) (v_thrown : Int32) (v_made : Int32) (v_heart : Int32) (v_width : Int32) (v_set : Nat → Int32) (v_sheets : Int32) (v_covered : Int32) (p1 : Int32) (p2 : Int32) (post : Int32 → Prop) (hw : wp_X5_isSquare v_set p1 p2 post) : Met l yX5_isSquare wsX5_isSquare rm_X5_isSquare (va_Pc [.ref h, .int p1, .int p2] (PRE D cI cJ cZ cO (W_X5_isSquare h a cI cJ cZ v_thrown v_made v_heart v_width v_set v_sheets v_covered) sz)) (va_Qi (fun r (_ : Unit) => post r) (fun u t => POST D (va_A (W_X5_isSquare h a cI cJ cZ v_thrown v_made v_heart v_width v_set v_sheets v_covered) sz) (W_X5_isSquare h a cI cJ cZ v_thrown v_made v_heart v_width v_set v_sheets v_covered) t) (va_A (W_X5_isSquare h a cI cJ cZ v_thrown v_made v_heart v_width v_set v_sheets v_covered) sz)) 0 0 (va_A (W_X5_isSquare h a cI cJ cZ v_thrown v_made v_heart v_width v_set v_sheets v_covered) sz) := by
  refine met_go (cc := cX5_isSquare) (maxL := 4) (ret := some .boolean) RX5 rfl (by decide) rfl (Nat.le_of_ble_eq_true rfl) ?_
  intro p e s m args below meth c ls hx hb hr hts hown hlocks hin hml hsz hP hK hE hD hA hS hl
  have iRX5 : ∀ w ∈ u_ws RX5 TX5 24, w ∈ wsX5_isSquare := mem_seg 6 24 rfl
  generalize va_A (W_X5_isSquare h a cI cJ cZ v_thrown v_made v_heart v_width v_set v_sheets v_covered) sz = A at hD hA hS ⊢
  have RT : ∀ (v : Int32) (u : Unit) (H : Heap) (locs : List Loc) (pc : Nat) (ls : Array Slot), decode cX5_isSquare pc = .ok (.ireturn, 1) → (v = 0 ∨ v = 1) → post v → va_P D vwCl (W_X5_isSquare h a cI cJ cZ v_thrown v_made v_heart v_width v_set v_sheets v_covered) H → va_D A (W_X5_isSquare h a cI cJ cZ v_thrown v_made v_heart v_width v_set v_sheets v_covered) → va_S A s.heap H locs → W p l e rm_X5_isSquare s m args below meth c H locs 0 0 (MQ below (va_Qi (fun r (_ : Unit) => post r) (fun u t => POST D A (W_X5_isSquare h a cI cJ cZ v_thrown v_made v_heart v_width v_set v_sheets v_covered) t) A) args s 0 0 A) (F0 m pc ls [.int v]) := fun v u H locs pc ls d g0 g1 g2 g3 g4 => rt_z (Wf := fun u => (W_X5_isSquare h a cI cJ cZ v_thrown v_made v_heart v_width v_set v_sheets v_covered)) u hx hb hr hlocks g0 g1 g2 g3 g4 d
  generalize (MQ below (va_Qi (fun r (_ : Unit) => post r) (fun u t => POST D A (W_X5_isSquare h a cI cJ cZ v_thrown v_made v_heart v_width v_set v_sheets v_covered) t) A) args s 0 0 A) = QQ at RT ⊢
  have hl : lv_has ls 4 [(0, .ref h), (1, .int p1), (2, .int p2)] := hl
  have hP : va_P D vwCl (W_X5_isSquare h a cI cJ cZ v_thrown v_made v_heart v_width v_set v_sheets v_covered) s.heap := hP
  unfold wp_X5_isSquare at hw
  suffices GO : ∀ (H : Heap) (locs : List Loc), va_P D vwCl (W_X5_isSquare h a cI cJ cZ v_thrown v_made v_heart v_width v_set v_sheets v_covered) H → va_S A s.heap H locs → W p l e rm_X5_isSquare s m args below meth c H locs 0 0 QQ (F0 m 0 ls []) from GO _ _ hP hS
  clear hsz hP hS
  intro H locs hP hS
  have J25 : ∀ (s0_j25 : Int32) , wp_X5_isSquare_25 v_set p1 p2 post s0_j25 → ∀ (H : Heap) (locs : List Loc) (ls : Array Slot), va_P D vwCl (W_X5_isSquare h a cI cJ cZ v_thrown v_made v_heart v_width v_set v_sheets v_covered) H → va_D A (W_X5_isSquare h a cI cJ cZ v_thrown v_made v_heart v_width v_set v_sheets v_covered) → va_S A s.heap H locs → lv_has ls 4 [(0, .ref h), (1, .int p1), (2, .int p2)] → W p l e rm_X5_isSquare s m args below meth c H locs 0 0 QQ (F0 m 25 ls [.int s0_j25]) := by
    intro s0_j25 hw H locs ls hP hD hS hl
    unfold wp_X5_isSquare_25 at hw
    refine lv_istore_n (lv' := [(3, .int s0_j25), (0, .ref h), (1, .int p1), (2, .int p2)]) hx hb dX5_isSquare_25 rfl hl (by decide) rfl (fun ls hl => ?_)
    refine lv_iload_n hx hb dX5_isSquare_26 rfl (lv_at hl 0 rfl) ?_
    refine lv_if_eq (tgt := 100) hx hb dX5_isSquare_27 (by decide) (fun c27 => ?_) (fun c27 => ?_)
    · have hw := hw.1 c27
      refine lv_iconst (v := 0) hx hb dX5_isSquare_100 (by decide) ?_
      exact RT 0 () _ _ _ _ dX5_isSquare_101 (Or.inl rfl) hw hP hD hS
    · have hw := hw.2 c27
      refine lv_aload_n hx hb dX5_isSquare_30 rfl (lv_at hl 1 rfl) ?_
      refine va_get (D := D) (ci := 6) (v := .ref (a 15)) (C := RX5) (T := TX5) (N := 24) hx hb hts iRX5 hown hK hP 0 rfl rfl 15 (by decide) (hts (.fieldLink RX5 54 "LeadlightModel" "set" "[Z") (List.mem_of_getElem? (i := 1) rfl)) (fun _ h9 => h9) rfl dX5_isSquare_31 ?_
      refine lv_bipush (v := 16) hx hb dX5_isSquare_34 (by decide) ?_
      refine lv_iload_n hx hb dX5_isSquare_36 rfl (lv_at hl 2 rfl) ?_
      refine lv_imul hx hb dX5_isSquare_37 ?_
      refine lv_iload_n hx hb dX5_isSquare_38 rfl (lv_at hl 3 rfl) ?_
      refine lv_iadd hx hb dX5_isSquare_39 ?_
      obtain ⟨hi_40, hw⟩ := hw
      refine va_zald hx hb hK hP 1 2 rfl rfl hi_40 dX5_isSquare_40 ?_
      refine lv_if_eq (tgt := 100) hx hb dX5_isSquare_41 (by decide) (fun c41 => ?_) (fun c41 => ?_)
      · have hw := hw.1 c41
        refine lv_iconst (v := 0) hx hb dX5_isSquare_100 (by decide) ?_
        exact RT 0 () _ _ _ _ dX5_isSquare_101 (Or.inl rfl) hw hP hD hS
      · have hw := hw.2 c41
        refine lv_aload_n hx hb dX5_isSquare_44 rfl (lv_at hl 1 rfl) ?_
        refine va_get (D := D) (ci := 6) (v := .ref (a 15)) (C := RX5) (T := TX5) (N := 24) hx hb hts iRX5 hown hK hP 0 rfl rfl 15 (by decide) (hts (.fieldLink RX5 54 "LeadlightModel" "set" "[Z") (List.mem_of_getElem? (i := 1) rfl)) (fun _ h9 => h9) rfl dX5_isSquare_45 ?_
        refine lv_bipush (v := 16) hx hb dX5_isSquare_48 (by decide) ?_
        refine lv_iload_n hx hb dX5_isSquare_50 rfl (lv_at hl 2 rfl) ?_
        refine lv_imul hx hb dX5_isSquare_51 ?_
        refine lv_iload_n hx hb dX5_isSquare_52 rfl (lv_at hl 3 rfl) ?_
        refine lv_iadd hx hb dX5_isSquare_53 ?_
        refine lv_iconst (v := 1) hx hb dX5_isSquare_54 (by decide) ?_
        refine lv_iadd hx hb dX5_isSquare_55 ?_
        obtain ⟨hi_56, hw⟩ := hw
        refine va_zald hx hb hK hP 1 2 rfl rfl hi_56 dX5_isSquare_56 ?_
        refine lv_if_eq (tgt := 100) hx hb dX5_isSquare_57 (by decide) (fun c57 => ?_) (fun c57 => ?_)
        · have hw := hw.1 c57
          refine lv_iconst (v := 0) hx hb dX5_isSquare_100 (by decide) ?_
          exact RT 0 () _ _ _ _ dX5_isSquare_101 (Or.inl rfl) hw hP hD hS
        · have hw := hw.2 c57
          refine lv_aload_n hx hb dX5_isSquare_60 rfl (lv_at hl 1 rfl) ?_
          refine va_get (D := D) (ci := 6) (v := .ref (a 15)) (C := RX5) (T := TX5) (N := 24) hx hb hts iRX5 hown hK hP 0 rfl rfl 15 (by decide) (hts (.fieldLink RX5 54 "LeadlightModel" "set" "[Z") (List.mem_of_getElem? (i := 1) rfl)) (fun _ h9 => h9) rfl dX5_isSquare_61 ?_
          refine lv_bipush (v := 16) hx hb dX5_isSquare_64 (by decide) ?_
          refine lv_iload_n hx hb dX5_isSquare_66 rfl (lv_at hl 2 rfl) ?_
          refine lv_imul hx hb dX5_isSquare_67 ?_
          refine lv_bipush (v := 16) hx hb dX5_isSquare_68 (by decide) ?_
          refine lv_iadd hx hb dX5_isSquare_70 ?_
          refine lv_iload_n hx hb dX5_isSquare_71 rfl (lv_at hl 3 rfl) ?_
          refine lv_iadd hx hb dX5_isSquare_72 ?_
          obtain ⟨hi_73, hw⟩ := hw
          refine va_zald hx hb hK hP 1 2 rfl rfl hi_73 dX5_isSquare_73 ?_
          refine lv_if_eq (tgt := 100) hx hb dX5_isSquare_74 (by decide) (fun c74 => ?_) (fun c74 => ?_)
          · have hw := hw.1 c74
            refine lv_iconst (v := 0) hx hb dX5_isSquare_100 (by decide) ?_
            exact RT 0 () _ _ _ _ dX5_isSquare_101 (Or.inl rfl) hw hP hD hS
          · have hw := hw.2 c74
            refine lv_aload_n hx hb dX5_isSquare_77 rfl (lv_at hl 1 rfl) ?_
            refine va_get (D := D) (ci := 6) (v := .ref (a 15)) (C := RX5) (T := TX5) (N := 24) hx hb hts iRX5 hown hK hP 0 rfl rfl 15 (by decide) (hts (.fieldLink RX5 54 "LeadlightModel" "set" "[Z") (List.mem_of_getElem? (i := 1) rfl)) (fun _ h9 => h9) rfl dX5_isSquare_78 ?_
            refine lv_bipush (v := 16) hx hb dX5_isSquare_81 (by decide) ?_
            refine lv_iload_n hx hb dX5_isSquare_83 rfl (lv_at hl 2 rfl) ?_
            refine lv_imul hx hb dX5_isSquare_84 ?_
            refine lv_bipush (v := 16) hx hb dX5_isSquare_85 (by decide) ?_
            refine lv_iadd hx hb dX5_isSquare_87 ?_
            refine lv_iload_n hx hb dX5_isSquare_88 rfl (lv_at hl 3 rfl) ?_
            refine lv_iadd hx hb dX5_isSquare_89 ?_
            refine lv_iconst (v := 1) hx hb dX5_isSquare_90 (by decide) ?_
            refine lv_iadd hx hb dX5_isSquare_91 ?_
            obtain ⟨hi_92, hw⟩ := hw
            refine va_zald hx hb hK hP 1 2 rfl rfl hi_92 dX5_isSquare_92 ?_
            refine lv_if_eq (tgt := 100) hx hb dX5_isSquare_93 (by decide) (fun c93 => ?_) (fun c93 => ?_)
            · have hw := hw.1 c93
              refine lv_iconst (v := 0) hx hb dX5_isSquare_100 (by decide) ?_
              exact RT 0 () _ _ _ _ dX5_isSquare_101 (Or.inl rfl) hw hP hD hS
            · have hw := hw.2 c93
              refine lv_iconst (v := 1) hx hb dX5_isSquare_96 (by decide) ?_
              refine lv_goto (tgt := 101) hx hb dX5_isSquare_97 (by decide) ?_
              exact RT 1 () _ _ _ _ dX5_isSquare_101 (Or.inr rfl) hw hP hD hS
  refine lv_iload_n hx hb dX5_isSquare_0 rfl (lv_at hl 1 rfl) ?_
  refine lv_iconst (v := 0) hx hb dX5_isSquare_1 (by decide) ?_
  refine lv_bipush (v := 14) hx hb dX5_isSquare_2 (by decide) ?_
  refine af_i (X := (W_X5_isSquare h a cI cJ cZ v_thrown v_made v_heart v_width v_set v_sheets v_covered)) (pl := []) (cx := ([] : va_W)) (w1 := fun (u : Unit) => ([] : va_W)) (X' := fun (u : Unit) => (W_X5_isSquare h a cI cJ cZ v_thrown v_made v_heart v_width v_set v_sheets v_covered)) hP hD hS hA [] [0, 1] [0, 1] rfl rfl (by decide) (by decide) (fun u => rfl) (by decide) (va_runS (As := [.int p1, .int 0, .int 14]) (rest := []) ⟨hx, hb, hml, hown, hts⟩ (c_X5_in l D cI cJ cZ cO H.size p1 0 14 _ hw) (va_cwS 3 hts gX5_isSquare_X5_in rfl rfl rfl (by decide +kernel) ⟨Nat.le_of_ble_eq_true rfl, Nat.le_of_ble_eq_true rfl⟩) (preS (X := (W_X5_isSquare h a cI cJ cZ v_thrown v_made v_heart v_width v_set v_sheets v_covered)) (pl := []) (cx := ([] : va_W)) hK hE hP hD [] (by decide) rfl) rfl rfl hl.1 rfl (lv_room (Nat.le_of_ble_eq_true rfl)) dX5_isSquare_4 ⟨Nat.zero_le _, Nat.zero_le _⟩) (fun r_4 _ H locs hw hP hD hS => ?_)
  try dsimp only at hw
  have hP : va_P D vwCl (W_X5_isSquare h a cI cJ cZ v_thrown v_made v_heart v_width v_set v_sheets v_covered) H := hP
  have hD : va_D A (W_X5_isSquare h a cI cJ cZ v_thrown v_made v_heart v_width v_set v_sheets v_covered) := hD
  refine lv_if_eq (tgt := 24) hx hb dX5_isSquare_7 (by decide) (fun c7 => ?_) (fun c7 => ?_)
  · have hw := hw.1 c7
    refine lv_iconst (v := 0) hx hb dX5_isSquare_24 (by decide) ?_
    exact J25 0 hw _ _ ls hP hD hS (lv_sub hl [0, 1, 2] rfl)
  · have hw := hw.2 c7
    refine lv_iload_n hx hb dX5_isSquare_10 rfl (lv_at hl 2 rfl) ?_
    refine lv_iconst (v := 0) hx hb dX5_isSquare_11 (by decide) ?_
    refine lv_bipush (v := 14) hx hb dX5_isSquare_12 (by decide) ?_
    refine af_i (X := (W_X5_isSquare h a cI cJ cZ v_thrown v_made v_heart v_width v_set v_sheets v_covered)) (pl := []) (cx := ([] : va_W)) (w1 := fun (u : Unit) => ([] : va_W)) (X' := fun (u : Unit) => (W_X5_isSquare h a cI cJ cZ v_thrown v_made v_heart v_width v_set v_sheets v_covered)) hP hD hS hA [] [0, 1] [0, 1] rfl rfl (by decide) (by decide) (fun u => rfl) (by decide) (va_runS (As := [.int p2, .int 0, .int 14]) (rest := []) ⟨hx, hb, hml, hown, hts⟩ (c_X5_in l D cI cJ cZ cO H.size p2 0 14 _ hw) (va_cwS 3 hts gX5_isSquare_X5_in rfl rfl rfl (by decide +kernel) ⟨Nat.le_of_ble_eq_true rfl, Nat.le_of_ble_eq_true rfl⟩) (preS (X := (W_X5_isSquare h a cI cJ cZ v_thrown v_made v_heart v_width v_set v_sheets v_covered)) (pl := []) (cx := ([] : va_W)) hK hE hP hD [] (by decide) rfl) rfl rfl hl.1 rfl (lv_room (Nat.le_of_ble_eq_true rfl)) dX5_isSquare_14 ⟨Nat.zero_le _, Nat.zero_le _⟩) (fun r_14 _ H locs hw hP hD hS => ?_)
    try dsimp only at hw
    have hP : va_P D vwCl (W_X5_isSquare h a cI cJ cZ v_thrown v_made v_heart v_width v_set v_sheets v_covered) H := hP
    have hD : va_D A (W_X5_isSquare h a cI cJ cZ v_thrown v_made v_heart v_width v_set v_sheets v_covered) := hD
    refine lv_if_eq (tgt := 24) hx hb dX5_isSquare_17 (by decide) (fun c17 => ?_) (fun c17 => ?_)
    · have hw := hw.1 c17
      refine lv_iconst (v := 0) hx hb dX5_isSquare_24 (by decide) ?_
      exact J25 0 hw _ _ ls hP hD hS (lv_sub hl [0, 1, 2] rfl)
    · have hw := hw.2 c17
      refine lv_iconst (v := 1) hx hb dX5_isSquare_20 (by decide) ?_
      refine lv_goto (tgt := 25) hx hb dX5_isSquare_21 (by decide) ?_
      exact J25 1 hw _ _ ls hP hD hS (lv_sub hl [0, 1, 2] rfl)
abbrev rm_X5_cut : Room := { frames := 2, cells := 0, slots := 0, locals := 45 }
abbrev W_X5_cut (h : Nat) (a : Nat → Nat) (cI cJ cZ : ClassId) (v_thrown : Int32) (v_made : Int32) (v_heart : Int32) (v_width : Int32) (v_set : Nat → Int32) (v_sheets : Int32) (v_covered : Int32) : va_W := [(h, .inr (6, [.int v_thrown, .int v_made, .ref (a 2), .ref (a 3), .ref (a 4), .ref (a 5), .ref (a 6), .ref (a 7), .ref (a 8), .ref (a 9), .ref (a 10), .ref (a 11), .int v_heart, .int v_width, .ref (a 14), .ref (a 15), .ref (a 16), .ref (a 17), .ref (a 18), .ref (a 19), .ref (a 20), .ref (a 21), .int v_sheets, .int v_covered])), ((a 15), .inl (cZ, 256, .inl v_set))]
def wp_X5_cut_118 (v_set : Nat → Int32) (post : Int32 → Prop) (K22 : Int32 → Int32 → Prop) (s0_j118 : Int32) (x2_j118 : Int32) : Prop := K22 s0_j118 (x2_j118 + 1)
def wp_X5_cut_93 (v_set : Nat → Int32) (post : Int32 → Prop) (K22 : Int32 → Int32 → Prop) (s0_j93 : Int32) (x1_j93 : Int32) (x2_j93 : Int32) : Prop := (x1_j93 = 0 → wp_X5_cut_118 v_set post K22 0 x2_j93) ∧ (¬ x1_j93 = 0 → vp_in x2_j93 256 ∧ (((v_set x2_j93.toNatClampNeg) = 0 → wp_X5_cut_118 v_set post K22 1 x2_j93) ∧ (¬ (v_set x2_j93.toNatClampNeg) = 0 → (s0_j93 = 0 → wp_X5_cut_118 v_set post K22 0 x2_j93) ∧ (¬ s0_j93 = 0 → wp_X5_cut_118 v_set post K22 1 x2_j93))))
def wp_X5_cut_22 (v_set : Nat → Int32) (post : Int32 → Prop) (K22 : Int32 → Int32 → Prop) (x1_j22 : Int32) (x2_j22 : Int32) : Prop := (256 ≤ x2_j22 → (x1_j22 = 0 → post 2) ∧ (¬ x1_j22 = 0 → post 0)) ∧ (¬ 256 ≤ x2_j22 → wp_X5_isSquare v_set (x2_j22 / 16) (x2_j22 - x2_j22 / 16 * 16) (fun r_44 => (r_44 = 0 → wp_X5_isSquare v_set ((x2_j22 / 16) - 1) (x2_j22 - x2_j22 / 16 * 16) (fun r_56 => (r_56 = 0 → wp_X5_isSquare v_set (x2_j22 / 16) ((x2_j22 - x2_j22 / 16 * 16) - 1) (fun r_68 => (r_68 = 0 → wp_X5_isSquare v_set ((x2_j22 / 16) - 1) ((x2_j22 - x2_j22 / 16 * 16) - 1) (fun r_82 => (r_82 = 0 → wp_X5_cut_93 v_set post K22 0 x1_j22 x2_j22) ∧ (¬ r_82 = 0 → wp_X5_cut_93 v_set post K22 1 x1_j22 x2_j22))) ∧ (¬ r_68 = 0 → wp_X5_cut_93 v_set post K22 1 x1_j22 x2_j22))) ∧ (¬ r_56 = 0 → wp_X5_cut_93 v_set post K22 1 x1_j22 x2_j22))) ∧ (¬ r_44 = 0 → wp_X5_cut_93 v_set post K22 1 x1_j22 x2_j22)))
def lF_X5_cut_22 (v_set : Nat → Int32) (post : Int32 → Prop) : ((Int32 × Int32) → Prop) → (Int32 × Int32) → Prop := fun K s => wp_X5_cut_22 v_set post (fun b0 b1 => K (b0, b1)) s.1 s.2
def wp_X5_cut (v_set : Nat → Int32) (post : Int32 → Prop) : Prop := wp_X5_isTight v_set 1 (fun r_2 => (r_2 = 0 → post 1) ∧ (¬ r_2 = 0 → wp_X5_isTight v_set 0 (fun r_10 => (r_10 = 0 → post 1) ∧ (¬ r_10 = 0 → lp (lF_X5_cut_22 v_set post) (1, 0)))))
set_option maxHeartbeats 4000000 in
set_option maxRecDepth 100000 in
theorem c_X5_cut (l : Launch) (D : va_G) (cI cJ cZ cO : ClassId) (h : Nat) (a : Nat → Nat) (sz : Nat) (v_thrown : Int32) (v_made : Int32) (v_heart : Int32) (v_width : Int32) (v_set : Nat → Int32) (v_sheets : Int32) (v_covered : Int32) (post : Int32 → Prop) (hw : wp_X5_cut v_set post) : Met l yX5_cut wsX5_cut rm_X5_cut (va_Pc [.ref h] (PRE D cI cJ cZ cO (W_X5_cut h a cI cJ cZ v_thrown v_made v_heart v_width v_set v_sheets v_covered) sz)) (va_Qi (fun r (_ : Unit) => post r) (fun u t => POST D (va_A (W_X5_cut h a cI cJ cZ v_thrown v_made v_heart v_width v_set v_sheets v_covered) sz) (W_X5_cut h a cI cJ cZ v_thrown v_made v_heart v_width v_set v_sheets v_covered) t) (va_A (W_X5_cut h a cI cJ cZ v_thrown v_made v_heart v_width v_set v_sheets v_covered) sz)) 0 0 (va_A (W_X5_cut h a cI cJ cZ v_thrown v_made v_heart v_width v_set v_sheets v_covered) sz) := by
  refine met_go (cc := cX5_cut) (maxL := 6) (ret := some .int) RX5 rfl (by decide) rfl (Nat.le_of_ble_eq_true rfl) ?_
  intro p e s m args below meth c ls hx hb hr hts hown hlocks hin hml hsz hP hK hE hD hA hS hl
  have iRX5 : ∀ w ∈ u_ws RX5 TX5 24, w ∈ wsX5_cut := mem_seg 14 24 rfl
  generalize va_A (W_X5_cut h a cI cJ cZ v_thrown v_made v_heart v_width v_set v_sheets v_covered) sz = A at hD hA hS ⊢
  have RT : ∀ (v : Int32) (u : Unit) (H : Heap) (locs : List Loc) (pc : Nat) (ls : Array Slot), decode cX5_cut pc = .ok (.ireturn, 1) → post v → va_P D vwCl (W_X5_cut h a cI cJ cZ v_thrown v_made v_heart v_width v_set v_sheets v_covered) H → va_D A (W_X5_cut h a cI cJ cZ v_thrown v_made v_heart v_width v_set v_sheets v_covered) → va_S A s.heap H locs → W p l e rm_X5_cut s m args below meth c H locs 0 0 (MQ below (va_Qi (fun r (_ : Unit) => post r) (fun u t => POST D A (W_X5_cut h a cI cJ cZ v_thrown v_made v_heart v_width v_set v_sheets v_covered) t) A) args s 0 0 A) (F0 m pc ls [.int v]) := fun v u H locs pc ls d g1 g2 g3 g4 => rt_i (Wf := fun u => (W_X5_cut h a cI cJ cZ v_thrown v_made v_heart v_width v_set v_sheets v_covered)) u hx hb hr hlocks g1 g2 g3 g4 d
  generalize (MQ below (va_Qi (fun r (_ : Unit) => post r) (fun u t => POST D A (W_X5_cut h a cI cJ cZ v_thrown v_made v_heart v_width v_set v_sheets v_covered) t) A) args s 0 0 A) = QQ at RT ⊢
  have hl : lv_has ls 6 [(0, .ref h)] := hl
  have hP : va_P D vwCl (W_X5_cut h a cI cJ cZ v_thrown v_made v_heart v_width v_set v_sheets v_covered) s.heap := hP
  unfold wp_X5_cut at hw
  suffices GO : ∀ (H : Heap) (locs : List Loc), va_P D vwCl (W_X5_cut h a cI cJ cZ v_thrown v_made v_heart v_width v_set v_sheets v_covered) H → va_S A s.heap H locs → W p l e rm_X5_cut s m args below meth c H locs 0 0 QQ (F0 m 0 ls []) from GO _ _ hP hS
  clear hsz hP hS
  intro H locs hP hS
  have L22 : ∀ s0 : (Int32 × Int32), lp (lF_X5_cut_22 v_set post) s0 → ∀ (H : Heap) (locs : List Loc) (ls : Array Slot), va_P D vwCl (W_X5_cut h a cI cJ cZ v_thrown v_made v_heart v_width v_set v_sheets v_covered) H → va_D A (W_X5_cut h a cI cJ cZ v_thrown v_made v_heart v_width v_set v_sheets v_covered) → va_S A s.heap H locs → lv_has ls 6 [(0, .ref h), (1, .int s0.1), (2, .int s0.2)] → W p l e rm_X5_cut s m args below meth c H locs 0 0 QQ (F0 m 22 ls []) := by
    refine lp_elim (fun K22 ih22 s0 hw => ?_)
    obtain ⟨x1_j22, x2_j22⟩ := s0
    intro H locs ls hP hD hS hl
    have hw : wp_X5_cut_22 v_set post (fun b0 b1 => K22 (b0, b1)) x1_j22 x2_j22 := hw
    have hP : va_P D vwCl (W_X5_cut h a cI cJ cZ v_thrown v_made v_heart v_width v_set v_sheets v_covered) H := hP
    have hD : va_D A (W_X5_cut h a cI cJ cZ v_thrown v_made v_heart v_width v_set v_sheets v_covered) := hD
    have hl : lv_has ls 6 [(0, .ref h), (1, .int x1_j22), (2, .int x2_j22)] := hl
    have J118 : ∀ (s0_j118 : Int32) (x2_j118 : Int32) , wp_X5_cut_118 v_set post (fun b0 b1 => K22 (b0, b1)) s0_j118 x2_j118 → ∀ (H : Heap) (locs : List Loc) (ls : Array Slot), va_P D vwCl (W_X5_cut h a cI cJ cZ v_thrown v_made v_heart v_width v_set v_sheets v_covered) H → va_D A (W_X5_cut h a cI cJ cZ v_thrown v_made v_heart v_width v_set v_sheets v_covered) → va_S A s.heap H locs → lv_has ls 6 [(0, .ref h), (2, .int x2_j118)] → W p l e rm_X5_cut s m args below meth c H locs 0 0 QQ (F0 m 118 ls [.int s0_j118]) := by
      intro s0_j118 x2_j118 hw H locs ls hP hD hS hl
      unfold wp_X5_cut_118 at hw
      refine lv_istore_n (lv' := [(1, .int s0_j118), (0, .ref h), (2, .int x2_j118)]) hx hb dX5_cut_118 rfl hl (by decide) rfl (fun ls hl => ?_)
      refine lv_iinc (v := (x2_j118 + 1)) (lv' := [(2, .int (x2_j118 + 1)), (1, .int s0_j118), (0, .ref h)]) hx hb dX5_cut_119 hl (k := 2) rfl rfl (by decide) rfl (fun ls hl => ?_)
      refine lv_goto (tgt := 22) hx hb dX5_cut_122 (by decide) ?_
      exact ih22 (s0_j118, (x2_j118 + 1)) hw _ _ ls hP hD hS (lv_sub hl [2, 1, 0] rfl)
    have J93 : ∀ (s0_j93 : Int32) (x1_j93 : Int32) (x2_j93 : Int32) , wp_X5_cut_93 v_set post (fun b0 b1 => K22 (b0, b1)) s0_j93 x1_j93 x2_j93 → ∀ (H : Heap) (locs : List Loc) (ls : Array Slot), va_P D vwCl (W_X5_cut h a cI cJ cZ v_thrown v_made v_heart v_width v_set v_sheets v_covered) H → va_D A (W_X5_cut h a cI cJ cZ v_thrown v_made v_heart v_width v_set v_sheets v_covered) → va_S A s.heap H locs → lv_has ls 6 [(0, .ref h), (1, .int x1_j93), (2, .int x2_j93)] → W p l e rm_X5_cut s m args below meth c H locs 0 0 QQ (F0 m 93 ls [.int s0_j93]) := by
      intro s0_j93 x1_j93 x2_j93 hw H locs ls hP hD hS hl
      unfold wp_X5_cut_93 at hw
      refine lv_istore (lv' := [(5, .int s0_j93), (0, .ref h), (1, .int x1_j93), (2, .int x2_j93)]) hx hb dX5_cut_93 hl (by decide) rfl (fun ls hl => ?_)
      refine lv_iload_n hx hb dX5_cut_95 rfl (lv_at hl 2 rfl) ?_
      refine lv_if_eq (tgt := 117) hx hb dX5_cut_96 (by decide) (fun c96 => ?_) (fun c96 => ?_)
      · have hw := hw.1 c96
        refine lv_iconst (v := 0) hx hb dX5_cut_117 (by decide) ?_
        exact J118 0 x2_j93 hw _ _ ls hP hD hS (lv_sub hl [1, 3] rfl)
      · have hw := hw.2 c96
        refine lv_aload_n hx hb dX5_cut_99 rfl (lv_at hl 1 rfl) ?_
        refine va_get (D := D) (ci := 6) (v := .ref (a 15)) (C := RX5) (T := TX5) (N := 24) hx hb hts iRX5 hown hK hP 0 rfl rfl 15 (by decide) (hts (.fieldLink RX5 54 "LeadlightModel" "set" "[Z") (List.mem_of_getElem? (i := 1) rfl)) (fun _ h9 => h9) rfl dX5_cut_100 ?_
        refine lv_iload_n hx hb dX5_cut_103 rfl (lv_at hl 3 rfl) ?_
        obtain ⟨hi_104, hw⟩ := hw
        refine va_zald hx hb hK hP 1 2 rfl rfl hi_104 dX5_cut_104 ?_
        refine lv_if_eq (tgt := 113) hx hb dX5_cut_105 (by decide) (fun c105 => ?_) (fun c105 => ?_)
        · have hw := hw.1 c105
          refine lv_iconst (v := 1) hx hb dX5_cut_113 (by decide) ?_
          refine lv_goto (tgt := 118) hx hb dX5_cut_114 (by decide) ?_
          exact J118 1 x2_j93 hw _ _ ls hP hD hS (lv_sub hl [1, 3] rfl)
        · have hw := hw.2 c105
          refine lv_iload hx hb dX5_cut_108 (lv_at hl 0 rfl) ?_
          refine lv_if_eq (tgt := 117) hx hb dX5_cut_110 (by decide) (fun c110 => ?_) (fun c110 => ?_)
          · have hw := hw.1 c110
            refine lv_iconst (v := 0) hx hb dX5_cut_117 (by decide) ?_
            exact J118 0 x2_j93 hw _ _ ls hP hD hS (lv_sub hl [1, 3] rfl)
          · have hw := hw.2 c110
            refine lv_iconst (v := 1) hx hb dX5_cut_113 (by decide) ?_
            refine lv_goto (tgt := 118) hx hb dX5_cut_114 (by decide) ?_
            exact J118 1 x2_j93 hw _ _ ls hP hD hS (lv_sub hl [1, 3] rfl)
    unfold wp_X5_cut_22 at hw
    refine lv_iload_n hx hb dX5_cut_22 rfl (lv_at hl 2 rfl) ?_
    refine lv_sipush (v := 256) hx hb dX5_cut_23 (by decide) ?_
    refine lv_icmp_ge (tgt := 125) hx hb dX5_cut_26 (by decide) (fun c26 => ?_) (fun c26 => ?_)
    · have hw := hw.1 c26
      refine lv_iload_n hx hb dX5_cut_125 rfl (lv_at hl 1 rfl) ?_
      refine lv_if_eq (tgt := 133) hx hb dX5_cut_126 (by decide) (fun c126 => ?_) (fun c126 => ?_)
      · have hw := hw.1 c126
        refine lv_iconst (v := 2) hx hb dX5_cut_133 (by decide) ?_
        exact RT 2 () _ _ _ _ dX5_cut_134 hw hP hD hS
      · have hw := hw.2 c126
        refine lv_iconst (v := 0) hx hb dX5_cut_129 (by decide) ?_
        refine lv_goto (tgt := 134) hx hb dX5_cut_130 (by decide) ?_
        exact RT 0 () _ _ _ _ dX5_cut_134 hw hP hD hS
    · have hw := hw.2 c26
      refine lv_iload_n hx hb dX5_cut_29 rfl (lv_at hl 2 rfl) ?_
      refine lv_bipush (v := 16) hx hb dX5_cut_30 (by decide) ?_
      refine lv_idiv hx hb dX5_cut_32 (by decide) ?_
      refine lv_istore_n (lv' := [(3, .int (x2_j22 / 16)), (0, .ref h), (1, .int x1_j22), (2, .int x2_j22)]) hx hb dX5_cut_33 rfl hl (by decide) rfl (fun ls hl => ?_)
      refine lv_iload_n hx hb dX5_cut_34 rfl (lv_at hl 3 rfl) ?_
      refine lv_bipush (v := 16) hx hb dX5_cut_35 (by decide) ?_
      refine lv_irem hx hb dX5_cut_37 (by decide) ?_
      refine lv_istore (lv' := [(4, .int (x2_j22 - x2_j22 / 16 * 16)), (3, .int (x2_j22 / 16)), (0, .ref h), (1, .int x1_j22), (2, .int x2_j22)]) hx hb dX5_cut_38 hl (by decide) rfl (fun ls hl => ?_)
      refine lv_aload_n hx hb dX5_cut_40 rfl (lv_at hl 2 rfl) ?_
      refine lv_iload_n hx hb dX5_cut_41 rfl (lv_at hl 1 rfl) ?_
      refine lv_iload hx hb dX5_cut_42 (lv_at hl 0 rfl) ?_
      refine af_i (X := (W_X5_cut h a cI cJ cZ v_thrown v_made v_heart v_width v_set v_sheets v_covered)) (pl := []) (cx := (W_X5_isSquare h a cI cJ cZ v_thrown v_made v_heart v_width v_set v_sheets v_covered)) (w1 := fun (u : Unit) => (W_X5_isSquare h a cI cJ cZ v_thrown v_made v_heart v_width v_set v_sheets v_covered)) (X' := fun (u : Unit) => (W_X5_cut h a cI cJ cZ v_thrown v_made v_heart v_width v_set v_sheets v_covered)) hP hD hS hA [0, 1] [] [0, 1] rfl rfl (by decide) (by decide) (fun u => rfl) (by decide) (va_runV (As := [.int (x2_j22 / 16), .int (x2_j22 - x2_j22 / 16 * 16)]) (rest := []) ⟨hx, hb, hml, hown, hts⟩ (c_X5_isSquare l D cI cJ cZ cO h a H.size v_thrown v_made v_heart v_width v_set v_sheets v_covered (x2_j22 / 16) (x2_j22 - x2_j22 / 16 * 16) _ hw) (cwV 2 hts gX5_cut_X5_isSquare rfl rfl rfl (by decide +kernel) ⟨Nat.le_of_ble_eq_true rfl, Nat.le_of_ble_eq_true rfl⟩) (preV (X := (W_X5_cut h a cI cJ cZ v_thrown v_made v_heart v_width v_set v_sheets v_covered)) (pl := []) (cx := (W_X5_isSquare h a cI cJ cZ v_thrown v_made v_heart v_width v_set v_sheets v_covered)) (qb := 0) (ci := 6) hK hE hP hD [0, 1] (by decide) rfl rfl rfl) rfl rfl hl.1 rfl (lv_room (Nat.le_of_ble_eq_true rfl)) dX5_cut_44 ⟨Nat.zero_le _, Nat.zero_le _⟩) (fun r_44 _ H locs hw hP hD hS => ?_)
      try dsimp only at hw
      have hP : va_P D vwCl (W_X5_cut h a cI cJ cZ v_thrown v_made v_heart v_width v_set v_sheets v_covered) H := hP
      have hD : va_D A (W_X5_cut h a cI cJ cZ v_thrown v_made v_heart v_width v_set v_sheets v_covered) := hD
      refine lv_if_ne (tgt := 88) hx hb dX5_cut_47 (by decide) (fun c47 => ?_) (fun c47 => ?_)
      · have hw := hw.2 c47
        refine lv_iconst (v := 1) hx hb dX5_cut_88 (by decide) ?_
        refine lv_goto (tgt := 93) hx hb dX5_cut_89 (by decide) ?_
        exact J93 1 x1_j22 x2_j22 hw _ _ ls hP hD hS (lv_sub hl [2, 3, 4] rfl)
      · have hw := hw.1 c47
        refine lv_aload_n hx hb dX5_cut_50 rfl (lv_at hl 2 rfl) ?_
        refine lv_iload_n hx hb dX5_cut_51 rfl (lv_at hl 1 rfl) ?_
        refine lv_iconst (v := 1) hx hb dX5_cut_52 (by decide) ?_
        refine lv_isub hx hb dX5_cut_53 ?_
        refine lv_iload hx hb dX5_cut_54 (lv_at hl 0 rfl) ?_
        refine af_i (X := (W_X5_cut h a cI cJ cZ v_thrown v_made v_heart v_width v_set v_sheets v_covered)) (pl := []) (cx := (W_X5_isSquare h a cI cJ cZ v_thrown v_made v_heart v_width v_set v_sheets v_covered)) (w1 := fun (u : Unit) => (W_X5_isSquare h a cI cJ cZ v_thrown v_made v_heart v_width v_set v_sheets v_covered)) (X' := fun (u : Unit) => (W_X5_cut h a cI cJ cZ v_thrown v_made v_heart v_width v_set v_sheets v_covered)) hP hD hS hA [0, 1] [] [0, 1] rfl rfl (by decide) (by decide) (fun u => rfl) (by decide) (va_runV (As := [.int ((x2_j22 / 16) - 1), .int (x2_j22 - x2_j22 / 16 * 16)]) (rest := []) ⟨hx, hb, hml, hown, hts⟩ (c_X5_isSquare l D cI cJ cZ cO h a H.size v_thrown v_made v_heart v_width v_set v_sheets v_covered ((x2_j22 / 16) - 1) (x2_j22 - x2_j22 / 16 * 16) _ hw) (cwV 2 hts gX5_cut_X5_isSquare rfl rfl rfl (by decide +kernel) ⟨Nat.le_of_ble_eq_true rfl, Nat.le_of_ble_eq_true rfl⟩) (preV (X := (W_X5_cut h a cI cJ cZ v_thrown v_made v_heart v_width v_set v_sheets v_covered)) (pl := []) (cx := (W_X5_isSquare h a cI cJ cZ v_thrown v_made v_heart v_width v_set v_sheets v_covered)) (qb := 0) (ci := 6) hK hE hP hD [0, 1] (by decide) rfl rfl rfl) rfl rfl hl.1 rfl (lv_room (Nat.le_of_ble_eq_true rfl)) dX5_cut_56 ⟨Nat.zero_le _, Nat.zero_le _⟩) (fun r_56 _ H locs hw hP hD hS => ?_)
        try dsimp only at hw
        have hP : va_P D vwCl (W_X5_cut h a cI cJ cZ v_thrown v_made v_heart v_width v_set v_sheets v_covered) H := hP
        have hD : va_D A (W_X5_cut h a cI cJ cZ v_thrown v_made v_heart v_width v_set v_sheets v_covered) := hD
        refine lv_if_ne (tgt := 88) hx hb dX5_cut_59 (by decide) (fun c59 => ?_) (fun c59 => ?_)
        · have hw := hw.2 c59
          refine lv_iconst (v := 1) hx hb dX5_cut_88 (by decide) ?_
          refine lv_goto (tgt := 93) hx hb dX5_cut_89 (by decide) ?_
          exact J93 1 x1_j22 x2_j22 hw _ _ ls hP hD hS (lv_sub hl [2, 3, 4] rfl)
        · have hw := hw.1 c59
          refine lv_aload_n hx hb dX5_cut_62 rfl (lv_at hl 2 rfl) ?_
          refine lv_iload_n hx hb dX5_cut_63 rfl (lv_at hl 1 rfl) ?_
          refine lv_iload hx hb dX5_cut_64 (lv_at hl 0 rfl) ?_
          refine lv_iconst (v := 1) hx hb dX5_cut_66 (by decide) ?_
          refine lv_isub hx hb dX5_cut_67 ?_
          refine af_i (X := (W_X5_cut h a cI cJ cZ v_thrown v_made v_heart v_width v_set v_sheets v_covered)) (pl := []) (cx := (W_X5_isSquare h a cI cJ cZ v_thrown v_made v_heart v_width v_set v_sheets v_covered)) (w1 := fun (u : Unit) => (W_X5_isSquare h a cI cJ cZ v_thrown v_made v_heart v_width v_set v_sheets v_covered)) (X' := fun (u : Unit) => (W_X5_cut h a cI cJ cZ v_thrown v_made v_heart v_width v_set v_sheets v_covered)) hP hD hS hA [0, 1] [] [0, 1] rfl rfl (by decide) (by decide) (fun u => rfl) (by decide) (va_runV (As := [.int (x2_j22 / 16), .int ((x2_j22 - x2_j22 / 16 * 16) - 1)]) (rest := []) ⟨hx, hb, hml, hown, hts⟩ (c_X5_isSquare l D cI cJ cZ cO h a H.size v_thrown v_made v_heart v_width v_set v_sheets v_covered (x2_j22 / 16) ((x2_j22 - x2_j22 / 16 * 16) - 1) _ hw) (cwV 2 hts gX5_cut_X5_isSquare rfl rfl rfl (by decide +kernel) ⟨Nat.le_of_ble_eq_true rfl, Nat.le_of_ble_eq_true rfl⟩) (preV (X := (W_X5_cut h a cI cJ cZ v_thrown v_made v_heart v_width v_set v_sheets v_covered)) (pl := []) (cx := (W_X5_isSquare h a cI cJ cZ v_thrown v_made v_heart v_width v_set v_sheets v_covered)) (qb := 0) (ci := 6) hK hE hP hD [0, 1] (by decide) rfl rfl rfl) rfl rfl hl.1 rfl (lv_room (Nat.le_of_ble_eq_true rfl)) dX5_cut_68 ⟨Nat.zero_le _, Nat.zero_le _⟩) (fun r_68 _ H locs hw hP hD hS => ?_)
          try dsimp only at hw
          have hP : va_P D vwCl (W_X5_cut h a cI cJ cZ v_thrown v_made v_heart v_width v_set v_sheets v_covered) H := hP
          have hD : va_D A (W_X5_cut h a cI cJ cZ v_thrown v_made v_heart v_width v_set v_sheets v_covered) := hD
          refine lv_if_ne (tgt := 88) hx hb dX5_cut_71 (by decide) (fun c71 => ?_) (fun c71 => ?_)
          · have hw := hw.2 c71
            refine lv_iconst (v := 1) hx hb dX5_cut_88 (by decide) ?_
            refine lv_goto (tgt := 93) hx hb dX5_cut_89 (by decide) ?_
            exact J93 1 x1_j22 x2_j22 hw _ _ ls hP hD hS (lv_sub hl [2, 3, 4] rfl)
          · have hw := hw.1 c71
            refine lv_aload_n hx hb dX5_cut_74 rfl (lv_at hl 2 rfl) ?_
            refine lv_iload_n hx hb dX5_cut_75 rfl (lv_at hl 1 rfl) ?_
            refine lv_iconst (v := 1) hx hb dX5_cut_76 (by decide) ?_
            refine lv_isub hx hb dX5_cut_77 ?_
            refine lv_iload hx hb dX5_cut_78 (lv_at hl 0 rfl) ?_
            refine lv_iconst (v := 1) hx hb dX5_cut_80 (by decide) ?_
            refine lv_isub hx hb dX5_cut_81 ?_
            refine af_i (X := (W_X5_cut h a cI cJ cZ v_thrown v_made v_heart v_width v_set v_sheets v_covered)) (pl := []) (cx := (W_X5_isSquare h a cI cJ cZ v_thrown v_made v_heart v_width v_set v_sheets v_covered)) (w1 := fun (u : Unit) => (W_X5_isSquare h a cI cJ cZ v_thrown v_made v_heart v_width v_set v_sheets v_covered)) (X' := fun (u : Unit) => (W_X5_cut h a cI cJ cZ v_thrown v_made v_heart v_width v_set v_sheets v_covered)) hP hD hS hA [0, 1] [] [0, 1] rfl rfl (by decide) (by decide) (fun u => rfl) (by decide) (va_runV (As := [.int ((x2_j22 / 16) - 1), .int ((x2_j22 - x2_j22 / 16 * 16) - 1)]) (rest := []) ⟨hx, hb, hml, hown, hts⟩ (c_X5_isSquare l D cI cJ cZ cO h a H.size v_thrown v_made v_heart v_width v_set v_sheets v_covered ((x2_j22 / 16) - 1) ((x2_j22 - x2_j22 / 16 * 16) - 1) _ hw) (cwV 2 hts gX5_cut_X5_isSquare rfl rfl rfl (by decide +kernel) ⟨Nat.le_of_ble_eq_true rfl, Nat.le_of_ble_eq_true rfl⟩) (preV (X := (W_X5_cut h a cI cJ cZ v_thrown v_made v_heart v_width v_set v_sheets v_covered)) (pl := []) (cx := (W_X5_isSquare h a cI cJ cZ v_thrown v_made v_heart v_width v_set v_sheets v_covered)) (qb := 0) (ci := 6) hK hE hP hD [0, 1] (by decide) rfl rfl rfl) rfl rfl hl.1 rfl (lv_room (Nat.le_of_ble_eq_true rfl)) dX5_cut_82 ⟨Nat.zero_le _, Nat.zero_le _⟩) (fun r_82 _ H locs hw hP hD hS => ?_)
            try dsimp only at hw
            have hP : va_P D vwCl (W_X5_cut h a cI cJ cZ v_thrown v_made v_heart v_width v_set v_sheets v_covered) H := hP
            have hD : va_D A (W_X5_cut h a cI cJ cZ v_thrown v_made v_heart v_width v_set v_sheets v_covered) := hD
            refine lv_if_eq (tgt := 92) hx hb dX5_cut_85 (by decide) (fun c85 => ?_) (fun c85 => ?_)
            · have hw := hw.1 c85
              refine lv_iconst (v := 0) hx hb dX5_cut_92 (by decide) ?_
              exact J93 0 x1_j22 x2_j22 hw _ _ ls hP hD hS (lv_sub hl [2, 3, 4] rfl)
            · have hw := hw.2 c85
              refine lv_iconst (v := 1) hx hb dX5_cut_88 (by decide) ?_
              refine lv_goto (tgt := 93) hx hb dX5_cut_89 (by decide) ?_
              exact J93 1 x1_j22 x2_j22 hw _ _ ls hP hD hS (lv_sub hl [2, 3, 4] rfl)
  refine lv_aload_n hx hb dX5_cut_0 rfl (lv_at hl 0 rfl) ?_
  refine lv_iconst (v := 1) hx hb dX5_cut_1 (by decide) ?_
  refine af_i (X := (W_X5_cut h a cI cJ cZ v_thrown v_made v_heart v_width v_set v_sheets v_covered)) (pl := []) (cx := (W_X5_isTight h a cI cJ cZ v_thrown v_made v_heart v_width v_set v_sheets v_covered)) (w1 := fun (u : Unit) => (W_X5_isTight h a cI cJ cZ v_thrown v_made v_heart v_width v_set v_sheets v_covered)) (X' := fun (u : Unit) => (W_X5_cut h a cI cJ cZ v_thrown v_made v_heart v_width v_set v_sheets v_covered)) hP hD hS hA [0, 1] [] [0, 1] rfl rfl (by decide) (by decide) (fun u => rfl) (by decide) (va_runV (As := [.int 1]) (rest := []) ⟨hx, hb, hml, hown, hts⟩ (c_X5_isTight l D cI cJ cZ cO h a H.size v_thrown v_made v_heart v_width v_set v_sheets v_covered 1 _ hw) (cwV 1 hts gX5_cut_X5_isTight rfl rfl rfl (by decide +kernel) ⟨Nat.le_of_ble_eq_true rfl, Nat.le_of_ble_eq_true rfl⟩) (preV (X := (W_X5_cut h a cI cJ cZ v_thrown v_made v_heart v_width v_set v_sheets v_covered)) (pl := []) (cx := (W_X5_isTight h a cI cJ cZ v_thrown v_made v_heart v_width v_set v_sheets v_covered)) (qb := 0) (ci := 6) hK hE hP hD [0, 1] (by decide) rfl rfl rfl) rfl rfl hl.1 rfl (lv_room (Nat.le_of_ble_eq_true rfl)) dX5_cut_2 ⟨Nat.zero_le _, Nat.zero_le _⟩) (fun r_2 _ H locs hw hP hD hS => ?_)
  try dsimp only at hw
  have hP : va_P D vwCl (W_X5_cut h a cI cJ cZ v_thrown v_made v_heart v_width v_set v_sheets v_covered) H := hP
  have hD : va_D A (W_X5_cut h a cI cJ cZ v_thrown v_made v_heart v_width v_set v_sheets v_covered) := hD
  refine lv_if_eq (tgt := 16) hx hb dX5_cut_5 (by decide) (fun c5 => ?_) (fun c5 => ?_)
  · have hw := hw.1 c5
    refine lv_iconst (v := 1) hx hb dX5_cut_16 (by decide) ?_
    exact RT 1 () _ _ _ _ dX5_cut_17 hw hP hD hS
  · have hw := hw.2 c5
    refine lv_aload_n hx hb dX5_cut_8 rfl (lv_at hl 0 rfl) ?_
    refine lv_iconst (v := 0) hx hb dX5_cut_9 (by decide) ?_
    refine af_i (X := (W_X5_cut h a cI cJ cZ v_thrown v_made v_heart v_width v_set v_sheets v_covered)) (pl := []) (cx := (W_X5_isTight h a cI cJ cZ v_thrown v_made v_heart v_width v_set v_sheets v_covered)) (w1 := fun (u : Unit) => (W_X5_isTight h a cI cJ cZ v_thrown v_made v_heart v_width v_set v_sheets v_covered)) (X' := fun (u : Unit) => (W_X5_cut h a cI cJ cZ v_thrown v_made v_heart v_width v_set v_sheets v_covered)) hP hD hS hA [0, 1] [] [0, 1] rfl rfl (by decide) (by decide) (fun u => rfl) (by decide) (va_runV (As := [.int 0]) (rest := []) ⟨hx, hb, hml, hown, hts⟩ (c_X5_isTight l D cI cJ cZ cO h a H.size v_thrown v_made v_heart v_width v_set v_sheets v_covered 0 _ hw) (cwV 1 hts gX5_cut_X5_isTight rfl rfl rfl (by decide +kernel) ⟨Nat.le_of_ble_eq_true rfl, Nat.le_of_ble_eq_true rfl⟩) (preV (X := (W_X5_cut h a cI cJ cZ v_thrown v_made v_heart v_width v_set v_sheets v_covered)) (pl := []) (cx := (W_X5_isTight h a cI cJ cZ v_thrown v_made v_heart v_width v_set v_sheets v_covered)) (qb := 0) (ci := 6) hK hE hP hD [0, 1] (by decide) rfl rfl rfl) rfl rfl hl.1 rfl (lv_room (Nat.le_of_ble_eq_true rfl)) dX5_cut_10 ⟨Nat.zero_le _, Nat.zero_le _⟩) (fun r_10 _ H locs hw hP hD hS => ?_)
    try dsimp only at hw
    have hP : va_P D vwCl (W_X5_cut h a cI cJ cZ v_thrown v_made v_heart v_width v_set v_sheets v_covered) H := hP
    have hD : va_D A (W_X5_cut h a cI cJ cZ v_thrown v_made v_heart v_width v_set v_sheets v_covered) := hD
    refine lv_if_ne (tgt := 18) hx hb dX5_cut_13 (by decide) (fun c13 => ?_) (fun c13 => ?_)
    · have hw := hw.2 c13
      refine lv_iconst (v := 1) hx hb dX5_cut_18 (by decide) ?_
      refine lv_istore_n (lv' := [(1, .int 1), (0, .ref h)]) hx hb dX5_cut_19 rfl hl (by decide) rfl (fun ls hl => ?_)
      refine lv_iconst (v := 0) hx hb dX5_cut_20 (by decide) ?_
      refine lv_istore_n (lv' := [(2, .int 0), (1, .int 1), (0, .ref h)]) hx hb dX5_cut_21 rfl hl (by decide) rfl (fun ls hl => ?_)
      exact L22 (1, 0) hw _ _ ls hP hD hS (lv_sub hl [2, 1, 0] rfl)
    · have hw := hw.1 c13
      refine lv_iconst (v := 1) hx hb dX5_cut_16 (by decide) ?_
      exact RT 1 () _ _ _ _ dX5_cut_17 hw hP hD hS
abbrev rm_X5_isTwo : Room := { frames := 3, cells := 0, slots := 0, locals := 71 }
abbrev W_X5_isTwo (h : Nat) (a : Nat → Nat) (cI cJ cZ : ClassId) (v_thrown : Int32) (v_made : Int32) (v_of : Nat → Int32) (v_heart : Int32) (v_width : Int32) (v_set : Nat → Int32) (v_seen : Nat → Int32) (v_pile : Nat → Int32) (v_sheets : Int32) (v_covered : Int32) : va_W := [(h, .inr (6, [.int v_thrown, .int v_made, .ref (a 2), .ref (a 3), .ref (a 4), .ref (a 5), .ref (a 6), .ref (a 7), .ref (a 8), .ref (a 9), .ref (a 10), .ref (a 11), .int v_heart, .int v_width, .ref (a 14), .ref (a 15), .ref (a 16), .ref (a 17), .ref (a 18), .ref (a 19), .ref (a 20), .ref (a 21), .int v_sheets, .int v_covered])), ((a 2), .inl (cI, 256, .inl v_of)), ((a 15), .inl (cZ, 256, .inl v_set)), ((a 16), .inl (cZ, 256, .inl v_seen)), ((a 17), .inl (cI, 256, .inl v_pile))]
def wp_X5_isTwo (v_of : Nat → Int32) (v_set : Nat → Int32) (v_seen : Nat → Int32) (v_pile : Nat → Int32) (p1 : Int32) (p2 : Int32) (post : Int32 → (Nat → Int32) → (Nat → Int32) → (Nat → Int32) → Prop) : Prop := wp_X5_setSide v_of v_set p1 p2 1 (fun r_4 v_set_c4 => (r_4 ≤ 0 → post 0 v_set_c4 v_seen v_pile) ∧ (¬ r_4 ≤ 0 → wp_X5_isOne v_set_c4 v_seen v_pile (fun r_11 v_seen_c11 v_pile_c11 => (r_11 = 0 → post 0 v_set_c4 v_seen_c11 v_pile_c11) ∧ (¬ r_11 = 0 → wp_X5_setSide v_of v_set_c4 p1 p2 0 (fun r_21 v_set_c21 => (r_21 ≤ 0 → post 0 v_set_c21 v_seen_c11 v_pile_c11) ∧ (¬ r_21 ≤ 0 → wp_X5_isOne v_set_c21 v_seen_c11 v_pile_c11 (fun r_28 v_seen_c28 v_pile_c28 => (r_28 = 0 → post 0 v_set_c21 v_seen_c28 v_pile_c28) ∧ (¬ r_28 = 0 → post 1 v_set_c21 v_seen_c28 v_pile_c28))))))))
set_option maxHeartbeats 4000000 in
set_option maxRecDepth 100000 in
theorem c_X5_isTwo (l : Launch) (D : va_G) (cI cJ cZ cO : ClassId) (h : Nat) (a : Nat → Nat) (sz : Nat) (v_thrown : Int32) (v_made : Int32) (v_of : Nat → Int32) (v_heart : Int32) (v_width : Int32) (v_set : Nat → Int32) (v_seen : Nat → Int32) (v_pile : Nat → Int32) (v_sheets : Int32) (v_covered : Int32) (p1 : Int32) (p2 : Int32) (post : Int32 → (Nat → Int32) → (Nat → Int32) → (Nat → Int32) → Prop) (hw : wp_X5_isTwo v_of v_set v_seen v_pile p1 p2 post) : Met l yX5_isTwo wsX5_isTwo rm_X5_isTwo (va_Pc [.ref h, .int p1, .int p2] (PRE D cI cJ cZ cO (W_X5_isTwo h a cI cJ cZ v_thrown v_made v_of v_heart v_width v_set v_seen v_pile v_sheets v_covered) sz)) (va_Qi (fun r (u : (Nat → Int32) × (Nat → Int32) × (Nat → Int32)) => post r u.1 u.2.1 u.2.2) (fun u t => POST D (va_A (W_X5_isTwo h a cI cJ cZ v_thrown v_made v_of v_heart v_width v_set v_seen v_pile v_sheets v_covered) sz) (W_X5_isTwo h a cI cJ cZ v_thrown v_made v_of v_heart v_width u.1 u.2.1 u.2.2 v_sheets v_covered) t) (va_A (W_X5_isTwo h a cI cJ cZ v_thrown v_made v_of v_heart v_width v_set v_seen v_pile v_sheets v_covered) sz)) 0 0 (va_A (W_X5_isTwo h a cI cJ cZ v_thrown v_made v_of v_heart v_width v_set v_seen v_pile v_sheets v_covered) sz) := by
  refine met_go (cc := cX5_isTwo) (maxL := 3) (ret := some .boolean) RX5 rfl (by decide) rfl (Nat.le_of_ble_eq_true rfl) ?_
  intro p e s m args below meth c ls hx hb hr hts hown hlocks hin hml hsz hP hK hE hD hA hS hl
  have iRX5 : ∀ w ∈ u_ws RX5 TX5 24, w ∈ wsX5_isTwo := mem_seg 23 24 rfl
  generalize va_A (W_X5_isTwo h a cI cJ cZ v_thrown v_made v_of v_heart v_width v_set v_seen v_pile v_sheets v_covered) sz = A at hD hA hS ⊢
  have RT : ∀ (v : Int32) (u : (Nat → Int32) × (Nat → Int32) × (Nat → Int32)) (H : Heap) (locs : List Loc) (pc : Nat) (ls : Array Slot), decode cX5_isTwo pc = .ok (.ireturn, 1) → (v = 0 ∨ v = 1) → post v u.1 u.2.1 u.2.2 → va_P D vwCl (W_X5_isTwo h a cI cJ cZ v_thrown v_made v_of v_heart v_width u.1 u.2.1 u.2.2 v_sheets v_covered) H → va_D A (W_X5_isTwo h a cI cJ cZ v_thrown v_made v_of v_heart v_width u.1 u.2.1 u.2.2 v_sheets v_covered) → va_S A s.heap H locs → W p l e rm_X5_isTwo s m args below meth c H locs 0 0 (MQ below (va_Qi (fun r (u : (Nat → Int32) × (Nat → Int32) × (Nat → Int32)) => post r u.1 u.2.1 u.2.2) (fun u t => POST D A (W_X5_isTwo h a cI cJ cZ v_thrown v_made v_of v_heart v_width u.1 u.2.1 u.2.2 v_sheets v_covered) t) A) args s 0 0 A) (F0 m pc ls [.int v]) := fun v u H locs pc ls d g0 g1 g2 g3 g4 => rt_z (Wf := fun u => (W_X5_isTwo h a cI cJ cZ v_thrown v_made v_of v_heart v_width u.1 u.2.1 u.2.2 v_sheets v_covered)) u hx hb hr hlocks g0 g1 g2 g3 g4 d
  generalize (MQ below (va_Qi (fun r (u : (Nat → Int32) × (Nat → Int32) × (Nat → Int32)) => post r u.1 u.2.1 u.2.2) (fun u t => POST D A (W_X5_isTwo h a cI cJ cZ v_thrown v_made v_of v_heart v_width u.1 u.2.1 u.2.2 v_sheets v_covered) t) A) args s 0 0 A) = QQ at RT ⊢
  have hl : lv_has ls 3 [(0, .ref h), (1, .int p1), (2, .int p2)] := hl
  have hP : va_P D vwCl (W_X5_isTwo h a cI cJ cZ v_thrown v_made v_of v_heart v_width v_set v_seen v_pile v_sheets v_covered) s.heap := hP
  unfold wp_X5_isTwo at hw
  suffices GO : ∀ (H : Heap) (locs : List Loc), va_P D vwCl (W_X5_isTwo h a cI cJ cZ v_thrown v_made v_of v_heart v_width v_set v_seen v_pile v_sheets v_covered) H → va_S A s.heap H locs → W p l e rm_X5_isTwo s m args below meth c H locs 0 0 QQ (F0 m 0 ls []) from GO _ _ hP hS
  clear hsz hP hS
  intro H locs hP hS
  refine lv_aload_n hx hb dX5_isTwo_0 rfl (lv_at hl 0 rfl) ?_
  refine lv_iload_n hx hb dX5_isTwo_1 rfl (lv_at hl 1 rfl) ?_
  refine lv_iload_n hx hb dX5_isTwo_2 rfl (lv_at hl 2 rfl) ?_
  refine lv_iconst (v := 1) hx hb dX5_isTwo_3 (by decide) ?_
  refine af_i (X := (W_X5_isTwo h a cI cJ cZ v_thrown v_made v_of v_heart v_width v_set v_seen v_pile v_sheets v_covered)) (pl := []) (cx := (W_X5_setSide h a cI cJ cZ v_thrown v_made v_of v_heart v_width v_set v_sheets v_covered)) (w1 := fun (u : (Nat → Int32)) => (W_X5_setSide h a cI cJ cZ v_thrown v_made v_of v_heart v_width u v_sheets v_covered)) (X' := fun (u : (Nat → Int32)) => (W_X5_isTwo h a cI cJ cZ v_thrown v_made v_of v_heart v_width u v_seen v_pile v_sheets v_covered)) hP hD hS hA [0, 1, 2] [3, 4] [2, 3, 4, 0, 1] rfl rfl (by decide) (by decide) (fun u => rfl) (by decide) (va_runV (As := [.int p1, .int p2, .int 1]) (rest := []) ⟨hx, hb, hml, hown, hts⟩ (c_X5_setSide l D cI cJ cZ cO h a H.size v_thrown v_made v_of v_heart v_width v_set v_sheets v_covered p1 p2 1 _ hw) (cwV 3 hts gX5_isTwo_X5_setSide rfl rfl rfl (by decide +kernel) ⟨Nat.le_of_ble_eq_true rfl, Nat.le_of_ble_eq_true rfl⟩) (preV (X := (W_X5_isTwo h a cI cJ cZ v_thrown v_made v_of v_heart v_width v_set v_seen v_pile v_sheets v_covered)) (pl := []) (cx := (W_X5_setSide h a cI cJ cZ v_thrown v_made v_of v_heart v_width v_set v_sheets v_covered)) (qb := 0) (ci := 6) hK hE hP hD [0, 1, 2] (by decide) rfl rfl rfl) rfl rfl hl.1 rfl (lv_room (Nat.le_of_ble_eq_true rfl)) dX5_isTwo_4 ⟨Nat.zero_le _, Nat.zero_le _⟩) (fun r_4 v_set_c4 H locs hw hP hD hS => ?_)
  try dsimp only at hw
  have hP : va_P D vwCl (W_X5_isTwo h a cI cJ cZ v_thrown v_made v_of v_heart v_width v_set_c4 v_seen v_pile v_sheets v_covered) H := hP
  have hD : va_D A (W_X5_isTwo h a cI cJ cZ v_thrown v_made v_of v_heart v_width v_set_c4 v_seen v_pile v_sheets v_covered) := hD
  refine lv_if_le (tgt := 38) hx hb dX5_isTwo_7 (by decide) (fun c7 => ?_) (fun c7 => ?_)
  · have hw := hw.1 c7
    refine lv_iconst (v := 0) hx hb dX5_isTwo_38 (by decide) ?_
    exact RT 0 (v_set_c4, v_seen, v_pile) _ _ _ _ dX5_isTwo_39 (Or.inl rfl) hw hP hD hS
  · have hw := hw.2 c7
    refine lv_aload_n hx hb dX5_isTwo_10 rfl (lv_at hl 0 rfl) ?_
    refine af_i (X := (W_X5_isTwo h a cI cJ cZ v_thrown v_made v_of v_heart v_width v_set_c4 v_seen v_pile v_sheets v_covered)) (pl := []) (cx := (W_X5_isOne h a cI cJ cZ v_thrown v_made v_heart v_width v_set_c4 v_seen v_pile v_sheets v_covered)) (w1 := fun (u : (Nat → Int32) × (Nat → Int32)) => (W_X5_isOne h a cI cJ cZ v_thrown v_made v_heart v_width v_set_c4 u.1 u.2 v_sheets v_covered)) (X' := fun (u : (Nat → Int32) × (Nat → Int32)) => (W_X5_isTwo h a cI cJ cZ v_thrown v_made v_of v_heart v_width v_set_c4 u.1 u.2 v_sheets v_covered)) hP hD hS hA [0, 2, 3, 4] [1] [1, 0, 2, 3, 4] rfl rfl (by decide) (by decide) (fun u => rfl) (by decide) (va_runV (As := []) (rest := []) ⟨hx, hb, hml, hown, hts⟩ (c_X5_isOne l D cI cJ cZ cO h a H.size v_thrown v_made v_heart v_width v_set_c4 v_seen v_pile v_sheets v_covered _ hw) (cwV 0 hts gX5_isTwo_X5_isOne rfl rfl rfl (by decide +kernel) ⟨Nat.le_of_ble_eq_true rfl, Nat.le_of_ble_eq_true rfl⟩) (preV (X := (W_X5_isTwo h a cI cJ cZ v_thrown v_made v_of v_heart v_width v_set_c4 v_seen v_pile v_sheets v_covered)) (pl := []) (cx := (W_X5_isOne h a cI cJ cZ v_thrown v_made v_heart v_width v_set_c4 v_seen v_pile v_sheets v_covered)) (qb := 0) (ci := 6) hK hE hP hD [0, 2, 3, 4] (by decide) rfl rfl rfl) rfl rfl hl.1 rfl (lv_room (Nat.le_of_ble_eq_true rfl)) dX5_isTwo_11 ⟨Nat.zero_le _, Nat.zero_le _⟩) (fun r_11 u H locs hw hP hD hS => ?_)
    obtain ⟨v_seen_c11, v_pile_c11⟩ := u
    try dsimp only at hw
    have hP : va_P D vwCl (W_X5_isTwo h a cI cJ cZ v_thrown v_made v_of v_heart v_width v_set_c4 v_seen_c11 v_pile_c11 v_sheets v_covered) H := hP
    have hD : va_D A (W_X5_isTwo h a cI cJ cZ v_thrown v_made v_of v_heart v_width v_set_c4 v_seen_c11 v_pile_c11 v_sheets v_covered) := hD
    refine lv_if_eq (tgt := 38) hx hb dX5_isTwo_14 (by decide) (fun c14 => ?_) (fun c14 => ?_)
    · have hw := hw.1 c14
      refine lv_iconst (v := 0) hx hb dX5_isTwo_38 (by decide) ?_
      exact RT 0 (v_set_c4, v_seen_c11, v_pile_c11) _ _ _ _ dX5_isTwo_39 (Or.inl rfl) hw hP hD hS
    · have hw := hw.2 c14
      refine lv_aload_n hx hb dX5_isTwo_17 rfl (lv_at hl 0 rfl) ?_
      refine lv_iload_n hx hb dX5_isTwo_18 rfl (lv_at hl 1 rfl) ?_
      refine lv_iload_n hx hb dX5_isTwo_19 rfl (lv_at hl 2 rfl) ?_
      refine lv_iconst (v := 0) hx hb dX5_isTwo_20 (by decide) ?_
      refine af_i (X := (W_X5_isTwo h a cI cJ cZ v_thrown v_made v_of v_heart v_width v_set_c4 v_seen_c11 v_pile_c11 v_sheets v_covered)) (pl := []) (cx := (W_X5_setSide h a cI cJ cZ v_thrown v_made v_of v_heart v_width v_set_c4 v_sheets v_covered)) (w1 := fun (u : (Nat → Int32)) => (W_X5_setSide h a cI cJ cZ v_thrown v_made v_of v_heart v_width u v_sheets v_covered)) (X' := fun (u : (Nat → Int32)) => (W_X5_isTwo h a cI cJ cZ v_thrown v_made v_of v_heart v_width u v_seen_c11 v_pile_c11 v_sheets v_covered)) hP hD hS hA [0, 1, 2] [3, 4] [2, 3, 4, 0, 1] rfl rfl (by decide) (by decide) (fun u => rfl) (by decide) (va_runV (As := [.int p1, .int p2, .int 0]) (rest := []) ⟨hx, hb, hml, hown, hts⟩ (c_X5_setSide l D cI cJ cZ cO h a H.size v_thrown v_made v_of v_heart v_width v_set_c4 v_sheets v_covered p1 p2 0 _ hw) (cwV 3 hts gX5_isTwo_X5_setSide rfl rfl rfl (by decide +kernel) ⟨Nat.le_of_ble_eq_true rfl, Nat.le_of_ble_eq_true rfl⟩) (preV (X := (W_X5_isTwo h a cI cJ cZ v_thrown v_made v_of v_heart v_width v_set_c4 v_seen_c11 v_pile_c11 v_sheets v_covered)) (pl := []) (cx := (W_X5_setSide h a cI cJ cZ v_thrown v_made v_of v_heart v_width v_set_c4 v_sheets v_covered)) (qb := 0) (ci := 6) hK hE hP hD [0, 1, 2] (by decide) rfl rfl rfl) rfl rfl hl.1 rfl (lv_room (Nat.le_of_ble_eq_true rfl)) dX5_isTwo_21 ⟨Nat.zero_le _, Nat.zero_le _⟩) (fun r_21 v_set_c21 H locs hw hP hD hS => ?_)
      try dsimp only at hw
      have hP : va_P D vwCl (W_X5_isTwo h a cI cJ cZ v_thrown v_made v_of v_heart v_width v_set_c21 v_seen_c11 v_pile_c11 v_sheets v_covered) H := hP
      have hD : va_D A (W_X5_isTwo h a cI cJ cZ v_thrown v_made v_of v_heart v_width v_set_c21 v_seen_c11 v_pile_c11 v_sheets v_covered) := hD
      refine lv_if_le (tgt := 38) hx hb dX5_isTwo_24 (by decide) (fun c24 => ?_) (fun c24 => ?_)
      · have hw := hw.1 c24
        refine lv_iconst (v := 0) hx hb dX5_isTwo_38 (by decide) ?_
        exact RT 0 (v_set_c21, v_seen_c11, v_pile_c11) _ _ _ _ dX5_isTwo_39 (Or.inl rfl) hw hP hD hS
      · have hw := hw.2 c24
        refine lv_aload_n hx hb dX5_isTwo_27 rfl (lv_at hl 0 rfl) ?_
        refine af_i (X := (W_X5_isTwo h a cI cJ cZ v_thrown v_made v_of v_heart v_width v_set_c21 v_seen_c11 v_pile_c11 v_sheets v_covered)) (pl := []) (cx := (W_X5_isOne h a cI cJ cZ v_thrown v_made v_heart v_width v_set_c21 v_seen_c11 v_pile_c11 v_sheets v_covered)) (w1 := fun (u : (Nat → Int32) × (Nat → Int32)) => (W_X5_isOne h a cI cJ cZ v_thrown v_made v_heart v_width v_set_c21 u.1 u.2 v_sheets v_covered)) (X' := fun (u : (Nat → Int32) × (Nat → Int32)) => (W_X5_isTwo h a cI cJ cZ v_thrown v_made v_of v_heart v_width v_set_c21 u.1 u.2 v_sheets v_covered)) hP hD hS hA [0, 2, 3, 4] [1] [1, 0, 2, 3, 4] rfl rfl (by decide) (by decide) (fun u => rfl) (by decide) (va_runV (As := []) (rest := []) ⟨hx, hb, hml, hown, hts⟩ (c_X5_isOne l D cI cJ cZ cO h a H.size v_thrown v_made v_heart v_width v_set_c21 v_seen_c11 v_pile_c11 v_sheets v_covered _ hw) (cwV 0 hts gX5_isTwo_X5_isOne rfl rfl rfl (by decide +kernel) ⟨Nat.le_of_ble_eq_true rfl, Nat.le_of_ble_eq_true rfl⟩) (preV (X := (W_X5_isTwo h a cI cJ cZ v_thrown v_made v_of v_heart v_width v_set_c21 v_seen_c11 v_pile_c11 v_sheets v_covered)) (pl := []) (cx := (W_X5_isOne h a cI cJ cZ v_thrown v_made v_heart v_width v_set_c21 v_seen_c11 v_pile_c11 v_sheets v_covered)) (qb := 0) (ci := 6) hK hE hP hD [0, 2, 3, 4] (by decide) rfl rfl rfl) rfl rfl hl.1 rfl (lv_room (Nat.le_of_ble_eq_true rfl)) dX5_isTwo_28 ⟨Nat.zero_le _, Nat.zero_le _⟩) (fun r_28 u H locs hw hP hD hS => ?_)
        obtain ⟨v_seen_c28, v_pile_c28⟩ := u
        try dsimp only at hw
        have hP : va_P D vwCl (W_X5_isTwo h a cI cJ cZ v_thrown v_made v_of v_heart v_width v_set_c21 v_seen_c28 v_pile_c28 v_sheets v_covered) H := hP
        have hD : va_D A (W_X5_isTwo h a cI cJ cZ v_thrown v_made v_of v_heart v_width v_set_c21 v_seen_c28 v_pile_c28 v_sheets v_covered) := hD
        refine lv_if_eq (tgt := 38) hx hb dX5_isTwo_31 (by decide) (fun c31 => ?_) (fun c31 => ?_)
        · have hw := hw.1 c31
          refine lv_iconst (v := 0) hx hb dX5_isTwo_38 (by decide) ?_
          exact RT 0 (v_set_c21, v_seen_c28, v_pile_c28) _ _ _ _ dX5_isTwo_39 (Or.inl rfl) hw hP hD hS
        · have hw := hw.2 c31
          refine lv_iconst (v := 1) hx hb dX5_isTwo_34 (by decide) ?_
          refine lv_goto (tgt := 39) hx hb dX5_isTwo_35 (by decide) ?_
          exact RT 1 (v_set_c21, v_seen_c28, v_pile_c28) _ _ _ _ dX5_isTwo_39 (Or.inr rfl) hw hP hD hS
