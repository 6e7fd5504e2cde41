/-! printed by wip/whole/gen: X1_begin X1_isLarger X1_enqueue X1_openShelf X1_layOne X1_layAll X1_spotOf -/
abbrev rm_X1_begin : Room := { frames := 1, cells := 0, slots := 0, locals := 23 }
abbrev W_X1_begin (h : Nat) (a : Nat → Nat) (cI cJ cZ : ClassId) (v_spots : Nat → Int32) (v_queued : Int32) (v_sheetsUsed : Int32) (v_shelfBottom : Int32) (v_shelfHeight : Int32) (v_shelfEnd : Int32) : va_W := [(h, .inr (2, [.ref (a 0), .ref (a 1), .ref (a 2), .ref (a 3), .int v_queued, .int v_sheetsUsed, .int v_shelfBottom, .int v_shelfHeight, .int v_shelfEnd])), ((a 3), .inl (cI, 60, .inl v_spots))]
def wp_X1_begin (v_spots : Nat → Int32) (v_queued : Int32) (v_sheetsUsed : Int32) (post : (Nat → Int32) → Int32 → Int32 → Prop) : Prop := wp_J7_fill_53178 60 v_spots (-1) (fun v_spots_c5 => ∀ v_queued_t10 : Int32, v_queued_t10 = 0 → ∀ v_sheetsUsed_t15 : Int32, v_sheetsUsed_t15 = 0 → post v_spots_c5 v_queued_t10 v_sheetsUsed_t15)
set_option maxHeartbeats 4000000 in
set_option maxRecDepth 100000 in
theorem c_X1_begin (l : Launch) (D : va_G) (cI cJ cZ cO : ClassId) (h : Nat) (a : Nat → Nat) (sz : Nat) (v_spots : Nat → Int32) (v_queued : Int32) (v_sheetsUsed : Int32) (v_shelfBottom : Int32) (v_shelfHeight : Int32) (v_shelfEnd : Int32) (post : (Nat → Int32) → Int32 → Int32 → Prop) (hw : wp_X1_begin v_spots v_queued v_sheetsUsed post) : Met l yX1_begin wsX1_begin rm_X1_begin (va_Pc [.ref h] (PRE D cI cJ cZ cO (W_X1_begin h a cI cJ cZ v_spots v_queued v_sheetsUsed v_shelfBottom v_shelfHeight v_shelfEnd) sz)) (va_Qv (fun (u : (Nat → Int32) × Int32 × Int32) => post u.1 u.2.1 u.2.2) (fun u t => POST D (va_A (W_X1_begin h a cI cJ cZ v_spots v_queued v_sheetsUsed v_shelfBottom v_shelfHeight v_shelfEnd) sz) (W_X1_begin h a cI cJ cZ u.1 u.2.1 u.2.2 v_shelfBottom v_shelfHeight v_shelfEnd) t) (va_A (W_X1_begin h a cI cJ cZ v_spots v_queued v_sheetsUsed v_shelfBottom v_shelfHeight v_shelfEnd) sz)) 0 0 (va_A (W_X1_begin h a cI cJ cZ v_spots v_queued v_sheetsUsed v_shelfBottom v_shelfHeight v_shelfEnd) sz) := by
  refine met_go (cc := cX1_begin) (maxL := 1) (ret := none) RX1 rfl (by decide) rfl (Nat.le_of_ble_eq_true rfl) ?_
  intro p e s m args below meth c ls hx hb hr hts hown hlocks hin hml hsz hP hK hE hD hA hS hl
  have iRX1 : ∀ w ∈ u_ws RX1 TX1 9, w ∈ wsX1_begin := mem_seg 8 9 rfl
  generalize va_A (W_X1_begin h a cI cJ cZ v_spots v_queued v_sheetsUsed v_shelfBottom v_shelfHeight v_shelfEnd) sz = A at hD hA hS ⊢
  have RT : ∀ (u : (Nat → Int32) × Int32 × Int32) (H : Heap) (locs : List Loc) (pc : Nat) (ls : Array Slot), decode cX1_begin pc = .ok (.return_, 1) → post u.1 u.2.1 u.2.2 → va_P D vwCl (W_X1_begin h a cI cJ cZ u.1 u.2.1 u.2.2 v_shelfBottom v_shelfHeight v_shelfEnd) H → va_D A (W_X1_begin h a cI cJ cZ u.1 u.2.1 u.2.2 v_shelfBottom v_shelfHeight v_shelfEnd) → va_S A s.heap H locs → W p l e rm_X1_begin s m args below meth c H locs 0 0 (MQ below (va_Qv (fun (u : (Nat → Int32) × Int32 × Int32) => post u.1 u.2.1 u.2.2) (fun u t => POST D A (W_X1_begin h a cI cJ cZ u.1 u.2.1 u.2.2 v_shelfBottom v_shelfHeight v_shelfEnd) t) A) args s 0 0 A) (F0 m pc ls []) := fun u H locs pc ls d g1 g2 g3 g4 => rt_v (Wf := fun u => (W_X1_begin h a cI cJ cZ u.1 u.2.1 u.2.2 v_shelfBottom v_shelfHeight v_shelfEnd)) u hx hb hr hlocks g1 g2 g3 g4 d
  generalize (MQ below (va_Qv (fun (u : (Nat → Int32) × Int32 × Int32) => post u.1 u.2.1 u.2.2) (fun u t => POST D A (W_X1_begin h a cI cJ cZ u.1 u.2.1 u.2.2 v_shelfBottom v_shelfHeight v_shelfEnd) t) A) args s 0 0 A) = QQ at RT ⊢
  have hl : lv_has ls 1 [(0, .ref h)] := hl
  have hP : va_P D vwCl (W_X1_begin h a cI cJ cZ v_spots v_queued v_sheetsUsed v_shelfBottom v_shelfHeight v_shelfEnd) s.heap := hP
  unfold wp_X1_begin at hw
  suffices GO : ∀ (H : Heap) (locs : List Loc), va_P D vwCl (W_X1_begin h a cI cJ cZ v_spots v_queued v_sheetsUsed v_shelfBottom v_shelfHeight v_shelfEnd) H → va_S A s.heap H locs → W p l e rm_X1_begin s m args below meth c H locs 0 0 QQ (F0 m 0 ls []) from GO _ _ hP hS
  clear hsz hP hS
  intro H locs hP hS
  refine lv_aload_n hx hb dX1_begin_0 rfl (lv_at hl 0 rfl) ?_
  refine va_get (D := D) (ci := 2) (v := .ref (a 3)) (C := RX1) (T := TX1) (N := 9) hx hb hts iRX1 hown hK hP 0 rfl rfl 3 (by decide) (hts (.fieldLink RX1 21 "Leadlight$Laying" "spots" "[I") (List.mem_of_getElem? (i := 1) rfl)) (fun _ h9 => h9) rfl dX1_begin_1 ?_
  refine lv_iconst (v := (-1)) hx hb dX1_begin_4 (by decide) ?_
  refine af_v (X := (W_X1_begin h a cI cJ cZ v_spots v_queued v_sheetsUsed v_shelfBottom v_shelfHeight v_shelfEnd)) (pl := []) (cx := (W_J7_fill_53178 (a 3) 60 cI cJ cZ v_spots)) (w1 := fun (u : (Nat → Int32)) => (W_J7_fill_53178 (a 3) 60 cI cJ cZ u)) (X' := fun (u : (Nat → Int32)) => (W_X1_begin h a cI cJ cZ u v_queued v_sheetsUsed v_shelfBottom v_shelfHeight v_shelfEnd)) hP hD hS hA [1] [0] [0, 1] rfl rfl (by decide) (by decide) (fun u => rfl) (by decide) (va_runS (As := [.ref (a 3), .int (-1)]) (rest := []) ⟨hx, hb, hml, hown, hts⟩ (c_J7_fill_53178 l D cI cJ cZ cO (a 3) 60 H.size v_spots (-1) _ hw) (va_cwS 2 hts gX1_begin_J7_fill_53178 rfl rfl rfl (by decide +kernel) ⟨Nat.le_of_ble_eq_true rfl, Nat.le_of_ble_eq_true rfl⟩) (preS (X := (W_X1_begin h a cI cJ cZ v_spots v_queued v_sheetsUsed v_shelfBottom v_shelfHeight v_shelfEnd)) (pl := []) (cx := (W_J7_fill_53178 (a 3) 60 cI cJ cZ v_spots)) hK hE hP hD [1] (by decide) rfl) rfl rfl hl.1 rfl (lv_room (Nat.le_of_ble_eq_true rfl)) dX1_begin_5 ⟨Nat.zero_le _, Nat.zero_le _⟩) (fun v_spots_c5 H locs hw hP hD hS => ?_)
  try dsimp only at hw
  have hP : va_P D vwCl (W_X1_begin h a cI cJ cZ v_spots_c5 v_queued v_sheetsUsed v_shelfBottom v_shelfHeight v_shelfEnd) H := hP
  have hD : va_D A (W_X1_begin h a cI cJ cZ v_spots_c5 v_queued v_sheetsUsed v_shelfBottom v_shelfHeight v_shelfEnd) := hD
  refine lv_aload_n hx hb dX1_begin_8 rfl (lv_at hl 0 rfl) ?_
  refine lv_iconst (v := 0) hx hb dX1_begin_9 (by decide) ?_
  refine lv_topi (fun v_queued_t10 ev_queued_t10 => ?_)
  have hw := hw v_queued_t10 ev_queued_t10
  refine va_put (D := D) (ci := 2) (v := .int v_queued_t10) (ty := .int) (C := RX1) (T := TX1) (N := 9) hx hb hts iRX1 tyX1 tyX1_ok nmX1 hown hK hP hD hS 0 rfl rfl 4 (by decide) (hts (.fieldLink RX1 30 "Leadlight$Laying" "queued" "I") (List.mem_of_getElem? (i := 2) rfl)) (fun _ h9 => h9) rfl (by decide +kernel) rfl rfl (Nat.le_of_ble_eq_true rfl) dX1_begin_10 (fun H locs hP hD hS => ?_)
  have hP : va_P D vwCl (W_X1_begin h a cI cJ cZ v_spots_c5 v_queued_t10 v_sheetsUsed v_shelfBottom v_shelfHeight v_shelfEnd) H := hP
  have hD : va_D A (W_X1_begin h a cI cJ cZ v_spots_c5 v_queued_t10 v_sheetsUsed v_shelfBottom v_shelfHeight v_shelfEnd) := hD
  refine lv_aload_n hx hb dX1_begin_13 rfl (lv_at hl 0 rfl) ?_
  refine lv_iconst (v := 0) hx hb dX1_begin_14 (by decide) ?_
  refine lv_topi (fun v_sheetsUsed_t15 ev_sheetsUsed_t15 => ?_)
  have hw := hw v_sheetsUsed_t15 ev_sheetsUsed_t15
  refine va_put (D := D) (ci := 2) (v := .int v_sheetsUsed_t15) (ty := .int) (C := RX1) (T := TX1) (N := 9) hx hb hts iRX1 tyX1 tyX1_ok nmX1 hown hK hP hD hS 0 rfl rfl 5 (by decide) (hts (.fieldLink RX1 34 "Leadlight$Laying" "sheetsUsed" "I") (List.mem_of_getElem? (i := 3) rfl)) (fun _ h9 => h9) rfl (by decide +kernel) rfl rfl (Nat.le_of_ble_eq_true rfl) dX1_begin_15 (fun H locs hP hD hS => ?_)
  have hP : va_P D vwCl (W_X1_begin h a cI cJ cZ v_spots_c5 v_queued_t10 v_sheetsUsed_t15 v_shelfBottom v_shelfHeight v_shelfEnd) H := hP
  have hD : va_D A (W_X1_begin h a cI cJ cZ v_spots_c5 v_queued_t10 v_sheetsUsed_t15 v_shelfBottom v_shelfHeight v_shelfEnd) := hD
  exact RT (v_spots_c5, v_queued_t10, v_sheetsUsed_t15) _ _ _ _ dX1_begin_18 hw hP hD hS
abbrev rm_X1_isLarger : Room := { frames := 1, cells := 0, slots := 0, locals := 20 }
abbrev W_X1_isLarger (h : Nat) (a : Nat → Nat) (cI cJ cZ : ClassId) (v_heights : Nat → Int32) (v_widths : Nat → Int32) (v_queued : Int32) (v_sheetsUsed : Int32) (v_shelfBottom : Int32) (v_shelfHeight : Int32) (v_shelfEnd : Int32) : va_W := [(h, .inr (2, [.ref (a 0), .ref (a 1), .ref (a 2), .ref (a 3), .int v_queued, .int v_sheetsUsed, .int v_shelfBottom, .int v_shelfHeight, .int v_shelfEnd])), ((a 1), .inl (cI, 60, .inl v_heights)), ((a 2), .inl (cI, 60, .inl v_widths))]
def wp_X1_isLarger (v_heights : Nat → Int32) (v_widths : Nat → Int32) (p1 : Int32) (p2 : Int32) (post : Int32 → Prop) : Prop := wp_X4_isNumber p1 (fun r_1 => (r_1 = 0 → post 0) ∧ (¬ r_1 = 0 → wp_X4_isNumber p2 (fun r_8 => (r_8 = 0 → post 0) ∧ (¬ r_8 = 0 → vp_in p1 60 ∧ (vp_in p2 60 ∧ (((v_heights p1.toNatClampNeg) = (v_heights p2.toNatClampNeg) → vp_in p1 60 ∧ (vp_in p2 60 ∧ (((v_widths p1.toNatClampNeg) ≤ (v_widths p2.toNatClampNeg) → post 0) ∧ (¬ (v_widths p1.toNatClampNeg) ≤ (v_widths p2.toNatClampNeg) → post 1)))) ∧ (¬ (v_heights p1.toNatClampNeg) = (v_heights p2.toNatClampNeg) → vp_in p1 60 ∧ (vp_in p2 60 ∧ (((v_heights p1.toNatClampNeg) ≤ (v_heights p2.toNatClampNeg) → post 0) ∧ (¬ (v_heights p1.toNatClampNeg) ≤ (v_heights p2.toNatClampNeg) → post 1))))))))))
set_option maxHeartbeats 4000000 in
set_option maxRecDepth 100000 in
theorem c_X1_isLarger (l : Launch) (D : va_G) (cI cJ cZ cO : ClassId) (h : Nat) (a : Nat → Nat) (sz : Nat) (v_heights : Nat → Int32) (v_widths : Nat → Int32) (v_queued : Int32) (v_sheetsUsed : Int32) (v_shelfBottom : Int32) (v_shelfHeight : Int32) (v_shelfEnd : Int32) (p1 : Int32) (p2 : Int32) (post : Int32 → Prop) (hw : wp_X1_isLarger v_heights v_widths p1 p2 post) : Met l yX1_isLarger wsX1_isLarger rm_X1_isLarger (va_Pc [.ref h, .int p1, .int p2] (PRE D cI cJ cZ cO (W_X1_isLarger h a cI cJ cZ v_heights v_widths v_queued v_sheetsUsed v_shelfBottom v_shelfHeight v_shelfEnd) sz)) (va_Qi (fun r (_ : Unit) => post r) (fun u t => POST D (va_A (W_X1_isLarger h a cI cJ cZ v_heights v_widths v_queued v_sheetsUsed v_shelfBottom v_shelfHeight v_shelfEnd) sz) (W_X1_isLarger h a cI cJ cZ v_heights v_widths v_queued v_sheetsUsed v_shelfBottom v_shelfHeight v_shelfEnd) t) (va_A (W_X1_isLarger h a cI cJ cZ v_heights v_widths v_queued v_sheetsUsed v_shelfBottom v_shelfHeight v_shelfEnd) sz)) 0 0 (va_A (W_X1_isLarger h a cI cJ cZ v_heights v_widths v_queued v_sheetsUsed v_shelfBottom v_shelfHeight v_shelfEnd) sz) := by
  refine met_go (cc := cX1_isLarger) (maxL := 3) (ret := some .boolean) RX1 rfl (by decide) rfl (Nat.le_of_ble_eq_true rfl) ?_
  intro p e s m args below meth c ls hx hb hr hts hown hlocks hin hml hsz hP hK hE hD hA hS hl
  have iRX1 : ∀ w ∈ u_ws RX1 TX1 9, w ∈ wsX1_isLarger := mem_seg 6 9 rfl
  generalize va_A (W_X1_isLarger h a cI cJ cZ v_heights v_widths v_queued v_sheetsUsed v_shelfBottom v_shelfHeight v_shelfEnd) sz = A at hD hA hS ⊢
  have RT : ∀ (v : Int32) (u : Unit) (H : Heap) (locs : List Loc) (pc : Nat) (ls : Array Slot), decode cX1_isLarger pc = .ok (.ireturn, 1) → (v = 0 ∨ v = 1) → post v → va_P D vwCl (W_X1_isLarger h a cI cJ cZ v_heights v_widths v_queued v_sheetsUsed v_shelfBottom v_shelfHeight v_shelfEnd) H → va_D A (W_X1_isLarger h a cI cJ cZ v_heights v_widths v_queued v_sheetsUsed v_shelfBottom v_shelfHeight v_shelfEnd) → va_S A s.heap H locs → W p l e rm_X1_isLarger s m args below meth c H locs 0 0 (MQ below (va_Qi (fun r (_ : Unit) => post r) (fun u t => POST D A (W_X1_isLarger h a cI cJ cZ v_heights v_widths v_queued v_sheetsUsed v_shelfBottom v_shelfHeight v_shelfEnd) t) A) args s 0 0 A) (F0 m pc ls [.int v]) := fun v u H locs pc ls d g0 g1 g2 g3 g4 => rt_z (Wf := fun u => (W_X1_isLarger h a cI cJ cZ v_heights v_widths v_queued v_sheetsUsed v_shelfBottom v_shelfHeight v_shelfEnd)) u hx hb hr hlocks g0 g1 g2 g3 g4 d
  generalize (MQ below (va_Qi (fun r (_ : Unit) => post r) (fun u t => POST D A (W_X1_isLarger h a cI cJ cZ v_heights v_widths v_queued v_sheetsUsed v_shelfBottom v_shelfHeight v_shelfEnd) t) A) args s 0 0 A) = QQ at RT ⊢
  have hl : lv_has ls 3 [(0, .ref h), (1, .int p1), (2, .int p2)] := hl
  have hP : va_P D vwCl (W_X1_isLarger h a cI cJ cZ v_heights v_widths v_queued v_sheetsUsed v_shelfBottom v_shelfHeight v_shelfEnd) s.heap := hP
  unfold wp_X1_isLarger at hw
  suffices GO : ∀ (H : Heap) (locs : List Loc), va_P D vwCl (W_X1_isLarger h a cI cJ cZ v_heights v_widths v_queued v_sheetsUsed v_shelfBottom v_shelfHeight v_shelfEnd) H → va_S A s.heap H locs → W p l e rm_X1_isLarger s m args below meth c H locs 0 0 QQ (F0 m 0 ls []) from GO _ _ hP hS
  clear hsz hP hS
  intro H locs hP hS
  refine lv_iload_n hx hb dX1_isLarger_0 rfl (lv_at hl 1 rfl) ?_
  refine af_i (X := (W_X1_isLarger h a cI cJ cZ v_heights v_widths v_queued v_sheetsUsed v_shelfBottom v_shelfHeight v_shelfEnd)) (pl := []) (cx := ([] : va_W)) (w1 := fun (u : Unit) => ([] : va_W)) (X' := fun (u : Unit) => (W_X1_isLarger h a cI cJ cZ v_heights v_widths v_queued v_sheetsUsed v_shelfBottom v_shelfHeight v_shelfEnd)) hP hD hS hA [] [0, 1, 2] [0, 1, 2] rfl rfl (by decide) (by decide) (fun u => rfl) (by decide) (va_runSN (As := [.int p1]) (rest := []) ⟨hx, hb, hml, hown, hts⟩ (c_X4_isNumber l D cI cJ cZ cO H.size p1 _ hw) ⟨va_cnB 1 hts gX1_isLarger_X4_isNumber_n37 rfl rfl rfl (hE.1 _ (List.mem_of_getElem? (i := 4) rfl)) (hts (.initialized RX4) (List.mem_of_getElem? (i := 4) rfl)) (by decide +kernel) ⟨Nat.le_of_ble_eq_true rfl, Nat.le_of_ble_eq_true rfl⟩, hts (.static yX4_isNumber) (List.mem_of_getElem? (i := 3) rfl), trivial⟩ (preS (X := (W_X1_isLarger h a cI cJ cZ v_heights v_widths v_queued v_sheetsUsed v_shelfBottom v_shelfHeight v_shelfEnd)) (pl := []) (cx := ([] : va_W)) hK hE hP hD [] (by decide) rfl) rfl rfl hl.1 rfl (lv_room (Nat.le_of_ble_eq_true rfl)) dX1_isLarger_1 ⟨Nat.zero_le _, Nat.zero_le _⟩) (fun r_1 _ H locs hw hP hD hS => ?_)
  try dsimp only at hw
  have hP : va_P D vwCl (W_X1_isLarger h a cI cJ cZ v_heights v_widths v_queued v_sheetsUsed v_shelfBottom v_shelfHeight v_shelfEnd) H := hP
  have hD : va_D A (W_X1_isLarger h a cI cJ cZ v_heights v_widths v_queued v_sheetsUsed v_shelfBottom v_shelfHeight v_shelfEnd) := hD
  refine lv_if_eq (tgt := 14) hx hb dX1_isLarger_4 (by decide) (fun c4 => ?_) (fun c4 => ?_)
  · have hw := hw.1 c4
    refine lv_iconst (v := 0) hx hb dX1_isLarger_14 (by decide) ?_
    exact RT 0 () _ _ _ _ dX1_isLarger_15 (Or.inl rfl) hw hP hD hS
  · have hw := hw.2 c4
    refine lv_iload_n hx hb dX1_isLarger_7 rfl (lv_at hl 2 rfl) ?_
    refine af_i (X := (W_X1_isLarger h a cI cJ cZ v_heights v_widths v_queued v_sheetsUsed v_shelfBottom v_shelfHeight v_shelfEnd)) (pl := []) (cx := ([] : va_W)) (w1 := fun (u : Unit) => ([] : va_W)) (X' := fun (u : Unit) => (W_X1_isLarger h a cI cJ cZ v_heights v_widths v_queued v_sheetsUsed v_shelfBottom v_shelfHeight v_shelfEnd)) hP hD hS hA [] [0, 1, 2] [0, 1, 2] rfl rfl (by decide) (by decide) (fun u => rfl) (by decide) (va_runSN (As := [.int p2]) (rest := []) ⟨hx, hb, hml, hown, hts⟩ (c_X4_isNumber l D cI cJ cZ cO H.size p2 _ hw) ⟨va_cnB 1 hts gX1_isLarger_X4_isNumber_n37 rfl rfl rfl (hE.1 _ (List.mem_of_getElem? (i := 4) rfl)) (hts (.initialized RX4) (List.mem_of_getElem? (i := 4) rfl)) (by decide +kernel) ⟨Nat.le_of_ble_eq_true rfl, Nat.le_of_ble_eq_true rfl⟩, hts (.static yX4_isNumber) (List.mem_of_getElem? (i := 3) rfl), trivial⟩ (preS (X := (W_X1_isLarger h a cI cJ cZ v_heights v_widths v_queued v_sheetsUsed v_shelfBottom v_shelfHeight v_shelfEnd)) (pl := []) (cx := ([] : va_W)) hK hE hP hD [] (by decide) rfl) rfl rfl hl.1 rfl (lv_room (Nat.le_of_ble_eq_true rfl)) dX1_isLarger_8 ⟨Nat.zero_le _, Nat.zero_le _⟩) (fun r_8 _ H locs hw hP hD hS => ?_)
    try dsimp only at hw
    have hP : va_P D vwCl (W_X1_isLarger h a cI cJ cZ v_heights v_widths v_queued v_sheetsUsed v_shelfBottom v_shelfHeight v_shelfEnd) H := hP
    have hD : va_D A (W_X1_isLarger h a cI cJ cZ v_heights v_widths v_queued v_sheetsUsed v_shelfBottom v_shelfHeight v_shelfEnd) := hD
    refine lv_if_ne (tgt := 16) hx hb dX1_isLarger_11 (by decide) (fun c11 => ?_) (fun c11 => ?_)
    · have hw := hw.2 c11
      refine lv_aload_n hx hb dX1_isLarger_16 rfl (lv_at hl 0 rfl) ?_
      refine va_get (D := D) (ci := 2) (v := .ref (a 1)) (C := RX1) (T := TX1) (N := 9) hx hb hts iRX1 hown hK hP 0 rfl rfl 1 (by decide) (hts (.fieldLink RX1 15 "Leadlight$Laying" "heights" "[I") (List.mem_of_getElem? (i := 1) rfl)) (fun _ h9 => h9) rfl dX1_isLarger_17 ?_
      refine lv_iload_n hx hb dX1_isLarger_20 rfl (lv_at hl 1 rfl) ?_
      obtain ⟨hi_21, hw⟩ := hw
      refine va_iald hx hb hK hP 1 0 rfl rfl hi_21 dX1_isLarger_21 ?_
      refine lv_aload_n hx hb dX1_isLarger_22 rfl (lv_at hl 0 rfl) ?_
      refine va_get (D := D) (ci := 2) (v := .ref (a 1)) (C := RX1) (T := TX1) (N := 9) hx hb hts iRX1 hown hK hP 0 rfl rfl 1 (by decide) (hts (.fieldLink RX1 15 "Leadlight$Laying" "heights" "[I") (List.mem_of_getElem? (i := 1) rfl)) (fun _ h9 => h9) rfl dX1_isLarger_23 ?_
      refine lv_iload_n hx hb dX1_isLarger_26 rfl (lv_at hl 2 rfl) ?_
      obtain ⟨hi_27, hw⟩ := hw
      refine va_iald hx hb hK hP 1 0 rfl rfl hi_27 dX1_isLarger_27 ?_
      refine lv_icmp_eq (tgt := 52) hx hb dX1_isLarger_28 (by decide) (fun c28 => ?_) (fun c28 => ?_)
      · have hw := hw.1 c28
        refine lv_aload_n hx hb dX1_isLarger_52 rfl (lv_at hl 0 rfl) ?_
        refine va_get (D := D) (ci := 2) (v := .ref (a 2)) (C := RX1) (T := TX1) (N := 9) hx hb hts iRX1 hown hK hP 0 rfl rfl 2 (by decide) (hts (.fieldLink RX1 18 "Leadlight$Laying" "widths" "[I") (List.mem_of_getElem? (i := 2) rfl)) (fun _ h9 => h9) rfl dX1_isLarger_53 ?_
        refine lv_iload_n hx hb dX1_isLarger_56 rfl (lv_at hl 1 rfl) ?_
        obtain ⟨hi_57, hw⟩ := hw
        refine va_iald hx hb hK hP 2 0 rfl rfl hi_57 dX1_isLarger_57 ?_
        refine lv_aload_n hx hb dX1_isLarger_58 rfl (lv_at hl 0 rfl) ?_
        refine va_get (D := D) (ci := 2) (v := .ref (a 2)) (C := RX1) (T := TX1) (N := 9) hx hb hts iRX1 hown hK hP 0 rfl rfl 2 (by decide) (hts (.fieldLink RX1 18 "Leadlight$Laying" "widths" "[I") (List.mem_of_getElem? (i := 2) rfl)) (fun _ h9 => h9) rfl dX1_isLarger_59 ?_
        refine lv_iload_n hx hb dX1_isLarger_62 rfl (lv_at hl 2 rfl) ?_
        obtain ⟨hi_63, hw⟩ := hw
        refine va_iald hx hb hK hP 2 0 rfl rfl hi_63 dX1_isLarger_63 ?_
        refine lv_icmp_le (tgt := 71) hx hb dX1_isLarger_64 (by decide) (fun c64 => ?_) (fun c64 => ?_)
        · have hw := hw.1 c64
          refine lv_iconst (v := 0) hx hb dX1_isLarger_71 (by decide) ?_
          exact RT 0 () _ _ _ _ dX1_isLarger_72 (Or.inl rfl) hw hP hD hS
        · have hw := hw.2 c64
          refine lv_iconst (v := 1) hx hb dX1_isLarger_67 (by decide) ?_
          refine lv_goto (tgt := 72) hx hb dX1_isLarger_68 (by decide) ?_
          exact RT 1 () _ _ _ _ dX1_isLarger_72 (Or.inr rfl) hw hP hD hS
      · have hw := hw.2 c28
        refine lv_aload_n hx hb dX1_isLarger_31 rfl (lv_at hl 0 rfl) ?_
        refine va_get (D := D) (ci := 2) (v := .ref (a 1)) (C := RX1) (T := TX1) (N := 9) hx hb hts iRX1 hown hK hP 0 rfl rfl 1 (by decide) (hts (.fieldLink RX1 15 "Leadlight$Laying" "heights" "[I") (List.mem_of_getElem? (i := 1) rfl)) (fun _ h9 => h9) rfl dX1_isLarger_32 ?_
        refine lv_iload_n hx hb dX1_isLarger_35 rfl (lv_at hl 1 rfl) ?_
        obtain ⟨hi_36, hw⟩ := hw
        refine va_iald hx hb hK hP 1 0 rfl rfl hi_36 dX1_isLarger_36 ?_
        refine lv_aload_n hx hb dX1_isLarger_37 rfl (lv_at hl 0 rfl) ?_
        refine va_get (D := D) (ci := 2) (v := .ref (a 1)) (C := RX1) (T := TX1) (N := 9) hx hb hts iRX1 hown hK hP 0 rfl rfl 1 (by decide) (hts (.fieldLink RX1 15 "Leadlight$Laying" "heights" "[I") (List.mem_of_getElem? (i := 1) rfl)) (fun _ h9 => h9) rfl dX1_isLarger_38 ?_
        refine lv_iload_n hx hb dX1_isLarger_41 rfl (lv_at hl 2 rfl) ?_
        obtain ⟨hi_42, hw⟩ := hw
        refine va_iald hx hb hK hP 1 0 rfl rfl hi_42 dX1_isLarger_42 ?_
        refine lv_icmp_le (tgt := 50) hx hb dX1_isLarger_43 (by decide) (fun c43 => ?_) (fun c43 => ?_)
        · have hw := hw.1 c43
          refine lv_iconst (v := 0) hx hb dX1_isLarger_50 (by decide) ?_
          exact RT 0 () _ _ _ _ dX1_isLarger_51 (Or.inl rfl) hw hP hD hS
        · have hw := hw.2 c43
          refine lv_iconst (v := 1) hx hb dX1_isLarger_46 (by decide) ?_
          refine lv_goto (tgt := 51) hx hb dX1_isLarger_47 (by decide) ?_
          exact RT 1 () _ _ _ _ dX1_isLarger_51 (Or.inr rfl) hw hP hD hS
    · have hw := hw.1 c11
      refine lv_iconst (v := 0) hx hb dX1_isLarger_14 (by decide) ?_
      exact RT 0 () _ _ _ _ dX1_isLarger_15 (Or.inl rfl) hw hP hD hS
abbrev rm_X1_enqueue : Room := { frames := 2, cells := 0, slots := 0, locals := 42 }
abbrev W_X1_enqueue (h : Nat) (a : Nat → Nat) (cI cJ cZ : ClassId) (v_queue : Nat → Int32) (v_heights : Nat → Int32) (v_widths : Nat → Int32) (v_queued : Int32) (v_sheetsUsed : Int32) (v_shelfBottom : Int32) (v_shelfHeight : Int32) (v_shelfEnd : Int32) : va_W := [(h, .inr (2, [.ref (a 0), .ref (a 1), .ref (a 2), .ref (a 3), .int v_queued, .int v_sheetsUsed, .int v_shelfBottom, .int v_shelfHeight, .int v_shelfEnd])), ((a 0), .inl (cI, 60, .inl v_queue)), ((a 1), .inl (cI, 60, .inl v_heights)), ((a 2), .inl (cI, 60, .inl v_widths))]
def wp_X1_enqueue_88 (v_queue : Nat → Int32) (v_heights : Nat → Int32) (v_widths : Nat → Int32) (v_queued : Int32) (p1 : Int32) (p2 : Int32) (p3 : Int32) (post : (Nat → Int32) → (Nat → Int32) → (Nat → Int32) → Int32 → Prop) (x4_j88 : Int32) (v_queue_j88 : Nat → Int32) (v_heights_j88 : Nat → Int32) (v_widths_j88 : Nat → Int32) : Prop := vp_in x4_j88 60 ∧ (∀ v_queue_t95 : Nat → Int32, v_queue_t95 = upd v_queue_j88 x4_j88.toNatClampNeg p1 → ∀ v_queued_t103 : Int32, v_queued_t103 = (v_queued + 1) → post v_queue_t95 v_heights_j88 v_widths_j88 v_queued_t103)
def wp_X1_enqueue_44 (v_queue : Nat → Int32) (v_heights : Nat → Int32) (v_widths : Nat → Int32) (v_queued : Int32) (p1 : Int32) (p2 : Int32) (p3 : Int32) (post : (Nat → Int32) → (Nat → Int32) → (Nat → Int32) → Int32 → Prop) (K44 : Int32 → (Nat → Int32) → (Nat → Int32) → (Nat → Int32) → Prop) (x4_j44 : Int32) (v_queue_j44 : Nat → Int32) (v_heights_j44 : Nat → Int32) (v_widths_j44 : Nat → Int32) : Prop := (x4_j44 ≤ 0 → wp_X1_enqueue_88 v_queue v_heights v_widths v_queued p1 p2 p3 post x4_j44 v_queue_j44 v_heights_j44 v_widths_j44) ∧ (¬ x4_j44 ≤ 0 → vp_in (x4_j44 - 1) 60 ∧ (wp_X1_isLarger v_heights_j44 v_widths_j44 p1 (v_queue_j44 (x4_j44 - 1).toNatClampNeg) (fun r_60 => (r_60 = 0 → wp_X1_enqueue_88 v_queue v_heights v_widths v_queued p1 p2 p3 post x4_j44 v_queue_j44 v_heights_j44 v_widths_j44) ∧ (¬ r_60 = 0 → vp_in (x4_j44 - 1) 60 ∧ (vp_in x4_j44 60 ∧ (∀ v_queue_t81 : Nat → Int32, v_queue_t81 = upd v_queue_j44 x4_j44.toNatClampNeg (v_queue_j44 (x4_j44 - 1).toNatClampNeg) → K44 (x4_j44 + (-1)) v_queue_t81 v_heights_j44 v_widths_j44))))))
def lF_X1_enqueue_44 (v_queue : Nat → Int32) (v_heights : Nat → Int32) (v_widths : Nat → Int32) (v_queued : Int32) (p1 : Int32) (p2 : Int32) (p3 : Int32) (post : (Nat → Int32) → (Nat → Int32) → (Nat → Int32) → Int32 → Prop) : ((Int32 × (Nat → Int32) × (Nat → Int32) × (Nat → Int32)) → Prop) → (Int32 × (Nat → Int32) × (Nat → Int32) × (Nat → Int32)) → Prop := fun K s => wp_X1_enqueue_44 v_queue v_heights v_widths v_queued p1 p2 p3 post (fun b0 b1 b2 b3 => K (b0, b1, b2, b3)) s.1 s.2.1 s.2.2.1 s.2.2.2
def wp_X1_enqueue (v_queue : Nat → Int32) (v_heights : Nat → Int32) (v_widths : Nat → Int32) (v_queued : Int32) (p1 : Int32) (p2 : Int32) (p3 : Int32) (post : (Nat → Int32) → (Nat → Int32) → (Nat → Int32) → Int32 → Prop) : Prop := wp_X4_isNumber p1 (fun r_1 => (r_1 = 0 → post v_queue v_heights v_widths v_queued) ∧ (¬ r_1 = 0 → (v_queued < 0 → post v_queue v_heights v_widths v_queued) ∧ (¬ v_queued < 0 → (v_queued < 60 → vp_in p1 60 ∧ (∀ v_heights_t30 : Nat → Int32, v_heights_t30 = upd v_heights p1.toNatClampNeg p2 → vp_in p1 60 ∧ (∀ v_widths_t37 : Nat → Int32, v_widths_t37 = upd v_widths p1.toNatClampNeg p3 → lp (lF_X1_enqueue_44 v_queue v_heights v_widths v_queued p1 p2 p3 post) (v_queued, v_queue, v_heights_t30, v_widths_t37)))) ∧ (¬ v_queued < 60 → post v_queue v_heights v_widths v_queued))))
set_option maxHeartbeats 4000000 in
set_option maxRecDepth 100000 in
theorem c_X1_enqueue (l : Launch) (D : va_G) (cI cJ cZ cO : ClassId) (h : Nat) (a : Nat → Nat) (sz : Nat) (v_queue : Nat → Int32) (v_heights : Nat → Int32) (v_widths : Nat → Int32) (v_queued : Int32) (v_sheetsUsed : Int32) (v_shelfBottom : Int32) (v_shelfHeight : Int32) (v_shelfEnd : Int32) (p1 : Int32) (p2 : Int32) (p3 : Int32) (post : (Nat → Int32) → (Nat → Int32) → (Nat → Int32) → Int32 → Prop) (hw : wp_X1_enqueue v_queue v_heights v_widths v_queued p1 p2 p3 post) : Met l yX1_enqueue wsX1_enqueue rm_X1_enqueue (va_Pc [.ref h, .int p1, .int p2, .int p3] (PRE D cI cJ cZ cO (W_X1_enqueue h a cI cJ cZ v_queue v_heights v_widths v_queued v_sheetsUsed v_shelfBottom v_shelfHeight v_shelfEnd) sz)) (va_Qv (fun (u : (Nat → Int32) × (Nat → Int32) × (Nat → Int32) × Int32) => post u.1 u.2.1 u.2.2.1 u.2.2.2) (fun u t => POST D (va_A (W_X1_enqueue h a cI cJ cZ v_queue v_heights v_widths v_queued v_sheetsUsed v_shelfBottom v_shelfHeight v_shelfEnd) sz) (W_X1_enqueue h a cI cJ cZ u.1 u.2.1 u.2.2.1 u.2.2.2 v_sheetsUsed v_shelfBottom v_shelfHeight v_shelfEnd) t) (va_A (W_X1_enqueue h a cI cJ cZ v_queue v_heights v_widths v_queued v_sheetsUsed v_shelfBottom v_shelfHeight v_shelfEnd) sz)) 0 0 (va_A (W_X1_enqueue h a cI cJ cZ v_queue v_heights v_widths v_queued v_sheetsUsed v_shelfBottom v_shelfHeight v_shelfEnd) sz) := by
  refine met_go (cc := cX1_enqueue) (maxL := 5) (ret := none) RX1 rfl (by decide) rfl (Nat.le_of_ble_eq_true rfl) ?_
  intro p e s m args below meth c ls hx hb hr hts hown hlocks hin hml hsz hP hK hE hD hA hS hl
  have iRX1 : ∀ w ∈ u_ws RX1 TX1 9, w ∈ wsX1_enqueue := mem_seg 13 9 rfl
  generalize va_A (W_X1_enqueue h a cI cJ cZ v_queue v_heights v_widths v_queued v_sheetsUsed v_shelfBottom v_shelfHeight v_shelfEnd) sz = A at hD hA hS ⊢
  have RT : ∀ (u : (Nat → Int32) × (Nat → Int32) × (Nat → Int32) × Int32) (H : Heap) (locs : List Loc) (pc : Nat) (ls : Array Slot), decode cX1_enqueue pc = .ok (.return_, 1) → post u.1 u.2.1 u.2.2.1 u.2.2.2 → va_P D vwCl (W_X1_enqueue h a cI cJ cZ u.1 u.2.1 u.2.2.1 u.2.2.2 v_sheetsUsed v_shelfBottom v_shelfHeight v_shelfEnd) H → va_D A (W_X1_enqueue h a cI cJ cZ u.1 u.2.1 u.2.2.1 u.2.2.2 v_sheetsUsed v_shelfBottom v_shelfHeight v_shelfEnd) → va_S A s.heap H locs → W p l e rm_X1_enqueue s m args below meth c H locs 0 0 (MQ below (va_Qv (fun (u : (Nat → Int32) × (Nat → Int32) × (Nat → Int32) × Int32) => post u.1 u.2.1 u.2.2.1 u.2.2.2) (fun u t => POST D A (W_X1_enqueue h a cI cJ cZ u.1 u.2.1 u.2.2.1 u.2.2.2 v_sheetsUsed v_shelfBottom v_shelfHeight v_shelfEnd) t) A) args s 0 0 A) (F0 m pc ls []) := fun u H locs pc ls d g1 g2 g3 g4 => rt_v (Wf := fun u => (W_X1_enqueue h a cI cJ cZ u.1 u.2.1 u.2.2.1 u.2.2.2 v_sheetsUsed v_shelfBottom v_shelfHeight v_shelfEnd)) u hx hb hr hlocks g1 g2 g3 g4 d
  generalize (MQ below (va_Qv (fun (u : (Nat → Int32) × (Nat → Int32) × (Nat → Int32) × Int32) => post u.1 u.2.1 u.2.2.1 u.2.2.2) (fun u t => POST D A (W_X1_enqueue h a cI cJ cZ u.1 u.2.1 u.2.2.1 u.2.2.2 v_sheetsUsed v_shelfBottom v_shelfHeight v_shelfEnd) t) A) args s 0 0 A) = QQ at RT ⊢
  have hl : lv_has ls 5 [(0, .ref h), (1, .int p1), (2, .int p2), (3, .int p3)] := hl
  have hP : va_P D vwCl (W_X1_enqueue h a cI cJ cZ v_queue v_heights v_widths v_queued v_sheetsUsed v_shelfBottom v_shelfHeight v_shelfEnd) s.heap := hP
  unfold wp_X1_enqueue at hw
  suffices GO : ∀ (H : Heap) (locs : List Loc), va_P D vwCl (W_X1_enqueue h a cI cJ cZ v_queue v_heights v_widths v_queued v_sheetsUsed v_shelfBottom v_shelfHeight v_shelfEnd) H → va_S A s.heap H locs → W p l e rm_X1_enqueue s m args below meth c H locs 0 0 QQ (F0 m 0 ls []) from GO _ _ hP hS
  clear hsz hP hS
  intro H locs hP hS
  have J88 : ∀ (x4_j88 : Int32) (v_queue_j88 : Nat → Int32) (v_heights_j88 : Nat → Int32) (v_widths_j88 : Nat → Int32) , wp_X1_enqueue_88 v_queue v_heights v_widths v_queued p1 p2 p3 post x4_j88 v_queue_j88 v_heights_j88 v_widths_j88 → ∀ (H : Heap) (locs : List Loc) (ls : Array Slot), va_P D vwCl (W_X1_enqueue h a cI cJ cZ v_queue_j88 v_heights_j88 v_widths_j88 v_queued v_sheetsUsed v_shelfBottom v_shelfHeight v_shelfEnd) H → va_D A (W_X1_enqueue h a cI cJ cZ v_queue_j88 v_heights_j88 v_widths_j88 v_queued v_sheetsUsed v_shelfBottom v_shelfHeight v_shelfEnd) → va_S A s.heap H locs → lv_has ls 5 [(0, .ref h), (1, .int p1), (4, .int x4_j88)] → W p l e rm_X1_enqueue s m args below meth c H locs 0 0 QQ (F0 m 88 ls []) := by
    intro x4_j88 v_queue_j88 v_heights_j88 v_widths_j88 hw H locs ls hP hD hS hl
    unfold wp_X1_enqueue_88 at hw
    refine lv_aload_n hx hb dX1_enqueue_88 rfl (lv_at hl 0 rfl) ?_
    refine va_get (D := D) (ci := 2) (v := .ref (a 0)) (C := RX1) (T := TX1) (N := 9) hx hb hts iRX1 hown hK hP 0 rfl rfl 0 (by decide) (hts (.fieldLink RX1 9 "Leadlight$Laying" "queue" "[I") (List.mem_of_getElem? (i := 4) rfl)) (fun _ h9 => h9) rfl dX1_enqueue_89 ?_
    refine lv_iload hx hb dX1_enqueue_92 (lv_at hl 2 rfl) ?_
    refine lv_iload_n hx hb dX1_enqueue_94 rfl (lv_at hl 1 rfl) ?_
    obtain ⟨hi_95, hw⟩ := hw
    refine st_i hx hb hK hP hD hS 1 0 rfl rfl hi_95 dX1_enqueue_95 (fun v_queue_t95 ev_queue_t95 H locs hP hD hS => ?_)
    have hw := hw v_queue_t95 ev_queue_t95
    have hP : va_P D vwCl (W_X1_enqueue h a cI cJ cZ v_queue_t95 v_heights_j88 v_widths_j88 v_queued v_sheetsUsed v_shelfBottom v_shelfHeight v_shelfEnd) H := hP
    have hD : va_D A (W_X1_enqueue h a cI cJ cZ v_queue_t95 v_heights_j88 v_widths_j88 v_queued v_sheetsUsed v_shelfBottom v_shelfHeight v_shelfEnd) := hD
    refine lv_aload_n hx hb dX1_enqueue_96 rfl (lv_at hl 0 rfl) ?_
    refine lv_dup hx hb dX1_enqueue_97 rfl ?_
    refine va_get (D := D) (ci := 2) (v := .int v_queued) (C := RX1) (T := TX1) (N := 9) hx hb hts iRX1 hown hK hP 0 rfl rfl 4 (by decide) (hts (.fieldLink RX1 30 "Leadlight$Laying" "queued" "I") (List.mem_of_getElem? (i := 1) rfl)) (fun _ h9 => h9) rfl dX1_enqueue_98 ?_
    refine lv_iconst (v := 1) hx hb dX1_enqueue_101 (by decide) ?_
    refine lv_iadd hx hb dX1_enqueue_102 ?_
    refine lv_topi (fun v_queued_t103 ev_queued_t103 => ?_)
    have hw := hw v_queued_t103 ev_queued_t103
    refine va_put (D := D) (ci := 2) (v := .int v_queued_t103) (ty := .int) (C := RX1) (T := TX1) (N := 9) hx hb hts iRX1 tyX1 tyX1_ok nmX1 hown hK hP hD hS 0 rfl rfl 4 (by decide) (hts (.fieldLink RX1 30 "Leadlight$Laying" "queued" "I") (List.mem_of_getElem? (i := 1) rfl)) (fun _ h9 => h9) rfl (by decide +kernel) rfl rfl (Nat.le_of_ble_eq_true rfl) dX1_enqueue_103 (fun H locs hP hD hS => ?_)
    have hP : va_P D vwCl (W_X1_enqueue h a cI cJ cZ v_queue_t95 v_heights_j88 v_widths_j88 v_queued_t103 v_sheetsUsed v_shelfBottom v_shelfHeight v_shelfEnd) H := hP
    have hD : va_D A (W_X1_enqueue h a cI cJ cZ v_queue_t95 v_heights_j88 v_widths_j88 v_queued_t103 v_sheetsUsed v_shelfBottom v_shelfHeight v_shelfEnd) := hD
    exact RT (v_queue_t95, v_heights_j88, v_widths_j88, v_queued_t103) _ _ _ _ dX1_enqueue_106 hw hP hD hS
  have L44 : ∀ s0 : (Int32 × (Nat → Int32) × (Nat → Int32) × (Nat → Int32)), lp (lF_X1_enqueue_44 v_queue v_heights v_widths v_queued p1 p2 p3 post) s0 → ∀ (H : Heap) (locs : List Loc) (ls : Array Slot), va_P D vwCl (W_X1_enqueue h a cI cJ cZ s0.2.1 s0.2.2.1 s0.2.2.2 v_queued v_sheetsUsed v_shelfBottom v_shelfHeight v_shelfEnd) H → va_D A (W_X1_enqueue h a cI cJ cZ s0.2.1 s0.2.2.1 s0.2.2.2 v_queued v_sheetsUsed v_shelfBottom v_shelfHeight v_shelfEnd) → va_S A s.heap H locs → lv_has ls 5 [(0, .ref h), (1, .int p1), (4, .int s0.1)] → W p l e rm_X1_enqueue s m args below meth c H locs 0 0 QQ (F0 m 44 ls []) := by
    refine lp_elim (fun K44 ih44 s0 hw => ?_)
    obtain ⟨x4_j44, v_queue_j44, v_heights_j44, v_widths_j44⟩ := s0
    intro H locs ls hP hD hS hl
    have hw : wp_X1_enqueue_44 v_queue v_heights v_widths v_queued p1 p2 p3 post (fun b0 b1 b2 b3 => K44 (b0, b1, b2, b3)) x4_j44 v_queue_j44 v_heights_j44 v_widths_j44 := hw
    have hP : va_P D vwCl (W_X1_enqueue h a cI cJ cZ v_queue_j44 v_heights_j44 v_widths_j44 v_queued v_sheetsUsed v_shelfBottom v_shelfHeight v_shelfEnd) H := hP
    have hD : va_D A (W_X1_enqueue h a cI cJ cZ v_queue_j44 v_heights_j44 v_widths_j44 v_queued v_sheetsUsed v_shelfBottom v_shelfHeight v_shelfEnd) := hD
    have hl : lv_has ls 5 [(0, .ref h), (1, .int p1), (4, .int x4_j44)] := hl
    unfold wp_X1_enqueue_44 at hw
    refine lv_iload hx hb dX1_enqueue_44 (lv_at hl 2 rfl) ?_
    refine lv_if_le (tgt := 88) hx hb dX1_enqueue_46 (by decide) (fun c46 => ?_) (fun c46 => ?_)
    · have hw := hw.1 c46
      exact J88 x4_j44 v_queue_j44 v_heights_j44 v_widths_j44 hw _ _ ls hP hD hS (lv_sub hl [0, 1, 2] rfl)
    · have hw := hw.2 c46
      refine lv_aload_n hx hb dX1_enqueue_49 rfl (lv_at hl 0 rfl) ?_
      refine lv_iload_n hx hb dX1_enqueue_50 rfl (lv_at hl 1 rfl) ?_
      refine lv_aload_n hx hb dX1_enqueue_51 rfl (lv_at hl 0 rfl) ?_
      refine va_get (D := D) (ci := 2) (v := .ref (a 0)) (C := RX1) (T := TX1) (N := 9) hx hb hts iRX1 hown hK hP 0 rfl rfl 0 (by decide) (hts (.fieldLink RX1 9 "Leadlight$Laying" "queue" "[I") (List.mem_of_getElem? (i := 4) rfl)) (fun _ h9 => h9) rfl dX1_enqueue_52 ?_
      refine lv_iload hx hb dX1_enqueue_55 (lv_at hl 2 rfl) ?_
      refine lv_iconst (v := 1) hx hb dX1_enqueue_57 (by decide) ?_
      refine lv_isub hx hb dX1_enqueue_58 ?_
      obtain ⟨hi_59, hw⟩ := hw
      refine va_iald hx hb hK hP 1 0 rfl rfl hi_59 dX1_enqueue_59 ?_
      refine af_i (X := (W_X1_enqueue h a cI cJ cZ v_queue_j44 v_heights_j44 v_widths_j44 v_queued v_sheetsUsed v_shelfBottom v_shelfHeight v_shelfEnd)) (pl := []) (cx := (W_X1_isLarger h a cI cJ cZ v_heights_j44 v_widths_j44 v_queued v_sheetsUsed v_shelfBottom v_shelfHeight v_shelfEnd)) (w1 := fun (u : Unit) => (W_X1_isLarger h a cI cJ cZ v_heights_j44 v_widths_j44 v_queued v_sheetsUsed v_shelfBottom v_shelfHeight v_shelfEnd)) (X' := fun (u : Unit) => (W_X1_enqueue h a cI cJ cZ v_queue_j44 v_heights_j44 v_widths_j44 v_queued v_sheetsUsed v_shelfBottom v_shelfHeight v_shelfEnd)) hP hD hS hA [0, 2, 3] [1] [1, 0, 2, 3] rfl rfl (by decide) (by decide) (fun u => rfl) (by decide) (va_runV (As := [.int p1, .int (v_queue_j44 (x4_j44 - 1).toNatClampNeg)]) (rest := []) ⟨hx, hb, hml, hown, hts⟩ (c_X1_isLarger l D cI cJ cZ cO h a H.size v_heights_j44 v_widths_j44 v_queued v_sheetsUsed v_shelfBottom v_shelfHeight v_shelfEnd p1 (v_queue_j44 (x4_j44 - 1).toNatClampNeg) _ hw) (cwV 2 hts gX1_enqueue_X1_isLarger rfl rfl rfl (by decide +kernel) ⟨Nat.le_of_ble_eq_true rfl, Nat.le_of_ble_eq_true rfl⟩) (preV (X := (W_X1_enqueue h a cI cJ cZ v_queue_j44 v_heights_j44 v_widths_j44 v_queued v_sheetsUsed v_shelfBottom v_shelfHeight v_shelfEnd)) (pl := []) (cx := (W_X1_isLarger h a cI cJ cZ v_heights_j44 v_widths_j44 v_queued v_sheetsUsed v_shelfBottom v_shelfHeight v_shelfEnd)) (qb := 0) (ci := 2) hK hE hP hD [0, 2, 3] (by decide) rfl rfl rfl) rfl rfl hl.1 rfl (lv_room (Nat.le_of_ble_eq_true rfl)) dX1_enqueue_60 ⟨Nat.zero_le _, Nat.zero_le _⟩) (fun r_60 _ H locs hw hP hD hS => ?_)
      try dsimp only at hw
      have hP : va_P D vwCl (W_X1_enqueue h a cI cJ cZ v_queue_j44 v_heights_j44 v_widths_j44 v_queued v_sheetsUsed v_shelfBottom v_shelfHeight v_shelfEnd) H := hP
      have hD : va_D A (W_X1_enqueue h a cI cJ cZ v_queue_j44 v_heights_j44 v_widths_j44 v_queued v_sheetsUsed v_shelfBottom v_shelfHeight v_shelfEnd) := hD
      refine lv_if_eq (tgt := 88) hx hb dX1_enqueue_63 (by decide) (fun c63 => ?_) (fun c63 => ?_)
      · have hw := hw.1 c63
        exact J88 x4_j44 v_queue_j44 v_heights_j44 v_widths_j44 hw _ _ ls hP hD hS (lv_sub hl [0, 1, 2] rfl)
      · have hw := hw.2 c63
        refine lv_aload_n hx hb dX1_enqueue_66 rfl (lv_at hl 0 rfl) ?_
        refine va_get (D := D) (ci := 2) (v := .ref (a 0)) (C := RX1) (T := TX1) (N := 9) hx hb hts iRX1 hown hK hP 0 rfl rfl 0 (by decide) (hts (.fieldLink RX1 9 "Leadlight$Laying" "queue" "[I") (List.mem_of_getElem? (i := 4) rfl)) (fun _ h9 => h9) rfl dX1_enqueue_67 ?_
        refine lv_iload hx hb dX1_enqueue_70 (lv_at hl 2 rfl) ?_
        refine lv_aload_n hx hb dX1_enqueue_72 rfl (lv_at hl 0 rfl) ?_
        refine va_get (D := D) (ci := 2) (v := .ref (a 0)) (C := RX1) (T := TX1) (N := 9) hx hb hts iRX1 hown hK hP 0 rfl rfl 0 (by decide) (hts (.fieldLink RX1 9 "Leadlight$Laying" "queue" "[I") (List.mem_of_getElem? (i := 4) rfl)) (fun _ h9 => h9) rfl dX1_enqueue_73 ?_
        refine lv_iload hx hb dX1_enqueue_76 (lv_at hl 2 rfl) ?_
        refine lv_iconst (v := 1) hx hb dX1_enqueue_78 (by decide) ?_
        refine lv_isub hx hb dX1_enqueue_79 ?_
        obtain ⟨hi_80, hw⟩ := hw
        refine va_iald hx hb hK hP 1 0 rfl rfl hi_80 dX1_enqueue_80 ?_
        obtain ⟨hi_81, hw⟩ := hw
        refine st_i hx hb hK hP hD hS 1 0 rfl rfl hi_81 dX1_enqueue_81 (fun v_queue_t81 ev_queue_t81 H locs hP hD hS => ?_)
        have hw := hw v_queue_t81 ev_queue_t81
        have hP : va_P D vwCl (W_X1_enqueue h a cI cJ cZ v_queue_t81 v_heights_j44 v_widths_j44 v_queued v_sheetsUsed v_shelfBottom v_shelfHeight v_shelfEnd) H := hP
        have hD : va_D A (W_X1_enqueue h a cI cJ cZ v_queue_t81 v_heights_j44 v_widths_j44 v_queued v_sheetsUsed v_shelfBottom v_shelfHeight v_shelfEnd) := hD
        refine lv_iinc (v := (x4_j44 + (-1))) (lv' := [(4, .int (x4_j44 + (-1))), (0, .ref h), (1, .int p1)]) hx hb dX1_enqueue_82 hl (k := 2) rfl rfl (by decide) rfl (fun ls hl => ?_)
        refine lv_goto (tgt := 44) hx hb dX1_enqueue_85 (by decide) ?_
        exact ih44 ((x4_j44 + (-1)), v_queue_t81, v_heights_j44, v_widths_j44) hw _ _ ls hP hD hS (lv_sub hl [1, 2, 0] rfl)
  refine lv_iload_n hx hb dX1_enqueue_0 rfl (lv_at hl 1 rfl) ?_
  refine af_i (X := (W_X1_enqueue h a cI cJ cZ v_queue v_heights v_widths v_queued v_sheetsUsed v_shelfBottom v_shelfHeight v_shelfEnd)) (pl := []) (cx := ([] : va_W)) (w1 := fun (u : Unit) => ([] : va_W)) (X' := fun (u : Unit) => (W_X1_enqueue h a cI cJ cZ v_queue v_heights v_widths v_queued v_sheetsUsed v_shelfBottom v_shelfHeight v_shelfEnd)) hP hD hS hA [] [0, 1, 2, 3] [0, 1, 2, 3] rfl rfl (by decide) (by decide) (fun u => rfl) (by decide) (va_runSN (As := [.int p1]) (rest := []) ⟨hx, hb, hml, hown, hts⟩ (c_X4_isNumber l D cI cJ cZ cO H.size p1 _ hw) ⟨va_cnB 1 hts gX1_enqueue_X4_isNumber_n37 rfl rfl rfl (hE.1 _ (List.mem_of_getElem? (i := 4) rfl)) (hts (.initialized RX4) (List.mem_of_getElem? (i := 6) rfl)) (by decide +kernel) ⟨Nat.le_of_ble_eq_true rfl, Nat.le_of_ble_eq_true rfl⟩, hts (.static yX4_isNumber) (List.mem_of_getElem? (i := 5) rfl), trivial⟩ (preS (X := (W_X1_enqueue h a cI cJ cZ v_queue v_heights v_widths v_queued v_sheetsUsed v_shelfBottom v_shelfHeight v_shelfEnd)) (pl := []) (cx := ([] : va_W)) hK hE hP hD [] (by decide) rfl) rfl rfl hl.1 rfl (lv_room (Nat.le_of_ble_eq_true rfl)) dX1_enqueue_1 ⟨Nat.zero_le _, Nat.zero_le _⟩) (fun r_1 _ H locs hw hP hD hS => ?_)
  try dsimp only at hw
  have hP : va_P D vwCl (W_X1_enqueue h a cI cJ cZ v_queue v_heights v_widths v_queued v_sheetsUsed v_shelfBottom v_shelfHeight v_shelfEnd) H := hP
  have hD : va_D A (W_X1_enqueue h a cI cJ cZ v_queue v_heights v_widths v_queued v_sheetsUsed v_shelfBottom v_shelfHeight v_shelfEnd) := hD
  refine lv_if_eq (tgt := 23) hx hb dX1_enqueue_4 (by decide) (fun c4 => ?_) (fun c4 => ?_)
  · have hw := hw.1 c4
    exact RT (v_queue, v_heights, v_widths, v_queued) _ _ _ _ dX1_enqueue_23 hw hP hD hS
  · have hw := hw.2 c4
    refine lv_aload_n hx hb dX1_enqueue_7 rfl (lv_at hl 0 rfl) ?_
    refine va_get (D := D) (ci := 2) (v := .int v_queued) (C := RX1) (T := TX1) (N := 9) hx hb hts iRX1 hown hK hP 0 rfl rfl 4 (by decide) (hts (.fieldLink RX1 30 "Leadlight$Laying" "queued" "I") (List.mem_of_getElem? (i := 1) rfl)) (fun _ h9 => h9) rfl dX1_enqueue_8 ?_
    refine lv_if_lt (tgt := 23) hx hb dX1_enqueue_11 (by decide) (fun c11 => ?_) (fun c11 => ?_)
    · have hw := hw.1 c11
      exact RT (v_queue, v_heights, v_widths, v_queued) _ _ _ _ dX1_enqueue_23 hw hP hD hS
    · have hw := hw.2 c11
      refine lv_aload_n hx hb dX1_enqueue_14 rfl (lv_at hl 0 rfl) ?_
      refine va_get (D := D) (ci := 2) (v := .int v_queued) (C := RX1) (T := TX1) (N := 9) hx hb hts iRX1 hown hK hP 0 rfl rfl 4 (by decide) (hts (.fieldLink RX1 30 "Leadlight$Laying" "queued" "I") (List.mem_of_getElem? (i := 1) rfl)) (fun _ h9 => h9) rfl dX1_enqueue_15 ?_
      refine lv_bipush (v := 60) hx hb dX1_enqueue_18 (by decide) ?_
      refine lv_icmp_lt (tgt := 24) hx hb dX1_enqueue_20 (by decide) (fun c20 => ?_) (fun c20 => ?_)
      · have hw := hw.1 c20
        refine lv_aload_n hx hb dX1_enqueue_24 rfl (lv_at hl 0 rfl) ?_
        refine va_get (D := D) (ci := 2) (v := .ref (a 1)) (C := RX1) (T := TX1) (N := 9) hx hb hts iRX1 hown hK hP 0 rfl rfl 1 (by decide) (hts (.fieldLink RX1 15 "Leadlight$Laying" "heights" "[I") (List.mem_of_getElem? (i := 2) rfl)) (fun _ h9 => h9) rfl dX1_enqueue_25 ?_
        refine lv_iload_n hx hb dX1_enqueue_28 rfl (lv_at hl 1 rfl) ?_
        refine lv_iload_n hx hb dX1_enqueue_29 rfl (lv_at hl 2 rfl) ?_
        obtain ⟨hi_30, hw⟩ := hw
        refine st_i hx hb hK hP hD hS 2 0 rfl rfl hi_30 dX1_enqueue_30 (fun v_heights_t30 ev_heights_t30 H locs hP hD hS => ?_)
        have hw := hw v_heights_t30 ev_heights_t30
        have hP : va_P D vwCl (W_X1_enqueue h a cI cJ cZ v_queue v_heights_t30 v_widths v_queued v_sheetsUsed v_shelfBottom v_shelfHeight v_shelfEnd) H := hP
        have hD : va_D A (W_X1_enqueue h a cI cJ cZ v_queue v_heights_t30 v_widths v_queued v_sheetsUsed v_shelfBottom v_shelfHeight v_shelfEnd) := hD
        refine lv_aload_n hx hb dX1_enqueue_31 rfl (lv_at hl 0 rfl) ?_
        refine va_get (D := D) (ci := 2) (v := .ref (a 2)) (C := RX1) (T := TX1) (N := 9) hx hb hts iRX1 hown hK hP 0 rfl rfl 2 (by decide) (hts (.fieldLink RX1 18 "Leadlight$Laying" "widths" "[I") (List.mem_of_getElem? (i := 3) rfl)) (fun _ h9 => h9) rfl dX1_enqueue_32 ?_
        refine lv_iload_n hx hb dX1_enqueue_35 rfl (lv_at hl 1 rfl) ?_
        refine lv_iload_n hx hb dX1_enqueue_36 rfl (lv_at hl 3 rfl) ?_
        obtain ⟨hi_37, hw⟩ := hw
        refine st_i hx hb hK hP hD hS 3 0 rfl rfl hi_37 dX1_enqueue_37 (fun v_widths_t37 ev_widths_t37 H locs hP hD hS => ?_)
        have hw := hw v_widths_t37 ev_widths_t37
        have hP : va_P D vwCl (W_X1_enqueue h a cI cJ cZ v_queue v_heights_t30 v_widths_t37 v_queued v_sheetsUsed v_shelfBottom v_shelfHeight v_shelfEnd) H := hP
        have hD : va_D A (W_X1_enqueue h a cI cJ cZ v_queue v_heights_t30 v_widths_t37 v_queued v_sheetsUsed v_shelfBottom v_shelfHeight v_shelfEnd) := hD
        refine lv_aload_n hx hb dX1_enqueue_38 rfl (lv_at hl 0 rfl) ?_
        refine va_get (D := D) (ci := 2) (v := .int v_queued) (C := RX1) (T := TX1) (N := 9) hx hb hts iRX1 hown hK hP 0 rfl rfl 4 (by decide) (hts (.fieldLink RX1 30 "Leadlight$Laying" "queued" "I") (List.mem_of_getElem? (i := 1) rfl)) (fun _ h9 => h9) rfl dX1_enqueue_39 ?_
        refine lv_istore (lv' := [(4, .int v_queued), (0, .ref h), (1, .int p1), (2, .int p2), (3, .int p3)]) hx hb dX1_enqueue_42 hl (by decide) rfl (fun ls hl => ?_)
        exact L44 (v_queued, v_queue, v_heights_t30, v_widths_t37) hw _ _ ls hP hD hS (lv_sub hl [1, 2, 0] rfl)
      · have hw := hw.2 c20
        exact RT (v_queue, v_heights, v_widths, v_queued) _ _ _ _ dX1_enqueue_23 hw hP hD hS
abbrev rm_X1_openShelf : Room := { frames := 0, cells := 0, slots := 0, locals := 0 }
abbrev W_X1_openShelf (h : Nat) (a : Nat → Nat) (cI cJ cZ : ClassId) (v_queued : Int32) (v_sheetsUsed : Int32) (v_shelfBottom : Int32) (v_shelfHeight : Int32) (v_shelfEnd : Int32) : va_W := [(h, .inr (2, [.ref (a 0), .ref (a 1), .ref (a 2), .ref (a 3), .int v_queued, .int v_sheetsUsed, .int v_shelfBottom, .int v_shelfHeight, .int v_shelfEnd]))]
def wp_X1_openShelf_48 (v_sheetsUsed : Int32) (v_shelfBottom : Int32) (v_shelfHeight : Int32) (v_shelfEnd : Int32) (p1 : Int32) (post : Int32 → Int32 → Int32 → Int32 → Prop) (v_sheetsUsed_j48 : Int32) (v_shelfBottom_j48 : Int32) : Prop := ∀ v_shelfHeight_t50 : Int32, v_shelfHeight_t50 = p1 → ∀ v_shelfEnd_t55 : Int32, v_shelfEnd_t55 = 0 → post v_sheetsUsed_j48 v_shelfBottom_j48 v_shelfHeight_t50 v_shelfEnd_t55
def wp_X1_openShelf_25 (v_sheetsUsed : Int32) (v_shelfBottom : Int32) (v_shelfHeight : Int32) (v_shelfEnd : Int32) (p1 : Int32) (post : Int32 → Int32 → Int32 → Int32 → Prop) : Prop := ∀ v_sheetsUsed_t32 : Int32, v_sheetsUsed_t32 = (v_sheetsUsed + 1) → ∀ v_shelfBottom_t37 : Int32, v_shelfBottom_t37 = 0 → wp_X1_openShelf_48 v_sheetsUsed v_shelfBottom v_shelfHeight v_shelfEnd p1 post v_sheetsUsed_t32 v_shelfBottom_t37
def wp_X1_openShelf (v_sheetsUsed : Int32) (v_shelfBottom : Int32) (v_shelfHeight : Int32) (v_shelfEnd : Int32) (p1 : Int32) (post : Int32 → Int32 → Int32 → Int32 → Prop) : Prop := (v_sheetsUsed = 0 → wp_X1_openShelf_25 v_sheetsUsed v_shelfBottom v_shelfHeight v_shelfEnd p1 post) ∧ (¬ v_sheetsUsed = 0 → (((v_shelfBottom + v_shelfHeight) + p1) ≤ 20 → ∀ v_shelfBottom_t45 : Int32, v_shelfBottom_t45 = (v_shelfBottom + v_shelfHeight) → wp_X1_openShelf_48 v_sheetsUsed v_shelfBottom v_shelfHeight v_shelfEnd p1 post v_sheetsUsed v_shelfBottom_t45) ∧ (¬ ((v_shelfBottom + v_shelfHeight) + p1) ≤ 20 → wp_X1_openShelf_25 v_sheetsUsed v_shelfBottom v_shelfHeight v_shelfEnd p1 post))
set_option maxHeartbeats 4000000 in
set_option maxRecDepth 100000 in
theorem c_X1_openShelf (l : Launch) (D : va_G) (cI cJ cZ cO : ClassId) (h : Nat) (a : Nat → Nat) (sz : Nat) (v_queued : Int32) (v_sheetsUsed : Int32) (v_shelfBottom : Int32) (v_shelfHeight : Int32) (v_shelfEnd : Int32) (p1 : Int32) (post : Int32 → Int32 → Int32 → Int32 → Prop) (hw : wp_X1_openShelf v_sheetsUsed v_shelfBottom v_shelfHeight v_shelfEnd p1 post) : Met l yX1_openShelf wsX1_openShelf rm_X1_openShelf (va_Pc [.ref h, .int p1] (PRE D cI cJ cZ cO (W_X1_openShelf h a cI cJ cZ v_queued v_sheetsUsed v_shelfBottom v_shelfHeight v_shelfEnd) sz)) (va_Qv (fun (u : Int32 × Int32 × Int32 × Int32) => post u.1 u.2.1 u.2.2.1 u.2.2.2) (fun u t => POST D (va_A (W_X1_openShelf h a cI cJ cZ v_queued v_sheetsUsed v_shelfBottom v_shelfHeight v_shelfEnd) sz) (W_X1_openShelf h a cI cJ cZ v_queued u.1 u.2.1 u.2.2.1 u.2.2.2) t) (va_A (W_X1_openShelf h a cI cJ cZ v_queued v_sheetsUsed v_shelfBottom v_shelfHeight v_shelfEnd) sz)) 0 0 (va_A (W_X1_openShelf h a cI cJ cZ v_queued v_sheetsUsed v_shelfBottom v_shelfHeight v_shelfEnd) sz) := by
  refine met_go (cc := cX1_openShelf) (maxL := 3) (ret := none) RX1 rfl (by decide) rfl (Nat.le_of_ble_eq_true rfl) ?_
  intro p e s m args below meth c ls hx hb hr hts hown hlocks hin hml hsz hP hK hE hD hA hS hl
  have iRX1 : ∀ w ∈ u_ws RX1 TX1 9, w ∈ wsX1_openShelf := mem_seg 5 9 rfl
  generalize va_A (W_X1_openShelf h a cI cJ cZ v_queued v_sheetsUsed v_shelfBottom v_shelfHeight v_shelfEnd) sz = A at hD hA hS ⊢
  have RT : ∀ (u : Int32 × Int32 × Int32 × Int32) (H : Heap) (locs : List Loc) (pc : Nat) (ls : Array Slot), decode cX1_openShelf pc = .ok (.return_, 1) → post u.1 u.2.1 u.2.2.1 u.2.2.2 → va_P D vwCl (W_X1_openShelf h a cI cJ cZ v_queued u.1 u.2.1 u.2.2.1 u.2.2.2) H → va_D A (W_X1_openShelf h a cI cJ cZ v_queued u.1 u.2.1 u.2.2.1 u.2.2.2) → va_S A s.heap H locs → W p l e rm_X1_openShelf s m args below meth c H locs 0 0 (MQ below (va_Qv (fun (u : Int32 × Int32 × Int32 × Int32) => post u.1 u.2.1 u.2.2.1 u.2.2.2) (fun u t => POST D A (W_X1_openShelf h a cI cJ cZ v_queued u.1 u.2.1 u.2.2.1 u.2.2.2) t) A) args s 0 0 A) (F0 m pc ls []) := fun u H locs pc ls d g1 g2 g3 g4 => rt_v (Wf := fun u => (W_X1_openShelf h a cI cJ cZ v_queued u.1 u.2.1 u.2.2.1 u.2.2.2)) u hx hb hr hlocks g1 g2 g3 g4 d
  generalize (MQ below (va_Qv (fun (u : Int32 × Int32 × Int32 × Int32) => post u.1 u.2.1 u.2.2.1 u.2.2.2) (fun u t => POST D A (W_X1_openShelf h a cI cJ cZ v_queued u.1 u.2.1 u.2.2.1 u.2.2.2) t) A) args s 0 0 A) = QQ at RT ⊢
  have hl : lv_has ls 3 [(0, .ref h), (1, .int p1)] := hl
  have hP : va_P D vwCl (W_X1_openShelf h a cI cJ cZ v_queued v_sheetsUsed v_shelfBottom v_shelfHeight v_shelfEnd) s.heap := hP
  unfold wp_X1_openShelf at hw
  suffices GO : ∀ (H : Heap) (locs : List Loc), va_P D vwCl (W_X1_openShelf h a cI cJ cZ v_queued v_sheetsUsed v_shelfBottom v_shelfHeight v_shelfEnd) H → va_S A s.heap H locs → W p l e rm_X1_openShelf s m args below meth c H locs 0 0 QQ (F0 m 0 ls []) from GO _ _ hP hS
  clear hsz hP hS
  intro H locs hP hS
  have J48 : ∀ (v_sheetsUsed_j48 : Int32) (v_shelfBottom_j48 : Int32) , wp_X1_openShelf_48 v_sheetsUsed v_shelfBottom v_shelfHeight v_shelfEnd p1 post v_sheetsUsed_j48 v_shelfBottom_j48 → ∀ (H : Heap) (locs : List Loc) (ls : Array Slot), va_P D vwCl (W_X1_openShelf h a cI cJ cZ v_queued v_sheetsUsed_j48 v_shelfBottom_j48 v_shelfHeight v_shelfEnd) H → va_D A (W_X1_openShelf h a cI cJ cZ v_queued v_sheetsUsed_j48 v_shelfBottom_j48 v_shelfHeight v_shelfEnd) → va_S A s.heap H locs → lv_has ls 3 [(0, .ref h), (1, .int p1)] → W p l e rm_X1_openShelf s m args below meth c H locs 0 0 QQ (F0 m 48 ls []) := by
    intro v_sheetsUsed_j48 v_shelfBottom_j48 hw H locs ls hP hD hS hl
    unfold wp_X1_openShelf_48 at hw
    refine lv_aload_n hx hb dX1_openShelf_48 rfl (lv_at hl 0 rfl) ?_
    refine lv_iload_n hx hb dX1_openShelf_49 rfl (lv_at hl 1 rfl) ?_
    refine lv_topi (fun v_shelfHeight_t50 ev_shelfHeight_t50 => ?_)
    have hw := hw v_shelfHeight_t50 ev_shelfHeight_t50
    refine va_put (D := D) (ci := 2) (v := .int v_shelfHeight_t50) (ty := .int) (C := RX1) (T := TX1) (N := 9) hx hb hts iRX1 tyX1 tyX1_ok nmX1 hown hK hP hD hS 0 rfl rfl 7 (by decide) (hts (.fieldLink RX1 59 "Leadlight$Laying" "shelfHeight" "I") (List.mem_of_getElem? (i := 2) rfl)) (fun _ h9 => h9) rfl (by decide +kernel) rfl rfl (Nat.le_of_ble_eq_true rfl) dX1_openShelf_50 (fun H locs hP hD hS => ?_)
    have hP : va_P D vwCl (W_X1_openShelf h a cI cJ cZ v_queued v_sheetsUsed_j48 v_shelfBottom_j48 v_shelfHeight_t50 v_shelfEnd) H := hP
    have hD : va_D A (W_X1_openShelf h a cI cJ cZ v_queued v_sheetsUsed_j48 v_shelfBottom_j48 v_shelfHeight_t50 v_shelfEnd) := hD
    refine lv_aload_n hx hb dX1_openShelf_53 rfl (lv_at hl 0 rfl) ?_
    refine lv_iconst (v := 0) hx hb dX1_openShelf_54 (by decide) ?_
    refine lv_topi (fun v_shelfEnd_t55 ev_shelfEnd_t55 => ?_)
    have hw := hw v_shelfEnd_t55 ev_shelfEnd_t55
    refine va_put (D := D) (ci := 2) (v := .int v_shelfEnd_t55) (ty := .int) (C := RX1) (T := TX1) (N := 9) hx hb hts iRX1 tyX1 tyX1_ok nmX1 hown hK hP hD hS 0 rfl rfl 8 (by decide) (hts (.fieldLink RX1 49 "Leadlight$Laying" "shelfEnd" "I") (List.mem_of_getElem? (i := 4) rfl)) (fun _ h9 => h9) rfl (by decide +kernel) rfl rfl (Nat.le_of_ble_eq_true rfl) dX1_openShelf_55 (fun H locs hP hD hS => ?_)
    have hP : va_P D vwCl (W_X1_openShelf h a cI cJ cZ v_queued v_sheetsUsed_j48 v_shelfBottom_j48 v_shelfHeight_t50 v_shelfEnd_t55) H := hP
    have hD : va_D A (W_X1_openShelf h a cI cJ cZ v_queued v_sheetsUsed_j48 v_shelfBottom_j48 v_shelfHeight_t50 v_shelfEnd_t55) := hD
    exact RT (v_sheetsUsed_j48, v_shelfBottom_j48, v_shelfHeight_t50, v_shelfEnd_t55) _ _ _ _ dX1_openShelf_58 hw hP hD hS
  have J25 : wp_X1_openShelf_25 v_sheetsUsed v_shelfBottom v_shelfHeight v_shelfEnd p1 post → ∀ (H : Heap) (locs : List Loc) (ls : Array Slot), va_P D vwCl (W_X1_openShelf h a cI cJ cZ v_queued v_sheetsUsed v_shelfBottom v_shelfHeight v_shelfEnd) H → va_D A (W_X1_openShelf h a cI cJ cZ v_queued v_sheetsUsed v_shelfBottom v_shelfHeight v_shelfEnd) → va_S A s.heap H locs → lv_has ls 3 [(0, .ref h), (1, .int p1)] → W p l e rm_X1_openShelf s m args below meth c H locs 0 0 QQ (F0 m 25 ls []) := by
    intro hw H locs ls hP hD hS hl
    unfold wp_X1_openShelf_25 at hw
    refine lv_aload_n hx hb dX1_openShelf_25 rfl (lv_at hl 0 rfl) ?_
    refine lv_dup hx hb dX1_openShelf_26 rfl ?_
    refine va_get (D := D) (ci := 2) (v := .int v_sheetsUsed) (C := RX1) (T := TX1) (N := 9) hx hb hts iRX1 hown hK hP 0 rfl rfl 5 (by decide) (hts (.fieldLink RX1 34 "Leadlight$Laying" "sheetsUsed" "I") (List.mem_of_getElem? (i := 3) rfl)) (fun _ h9 => h9) rfl dX1_openShelf_27 ?_
    refine lv_iconst (v := 1) hx hb dX1_openShelf_30 (by decide) ?_
    refine lv_iadd hx hb dX1_openShelf_31 ?_
    refine lv_topi (fun v_sheetsUsed_t32 ev_sheetsUsed_t32 => ?_)
    have hw := hw v_sheetsUsed_t32 ev_sheetsUsed_t32
    refine va_put (D := D) (ci := 2) (v := .int v_sheetsUsed_t32) (ty := .int) (C := RX1) (T := TX1) (N := 9) hx hb hts iRX1 tyX1 tyX1_ok nmX1 hown hK hP hD hS 0 rfl rfl 5 (by decide) (hts (.fieldLink RX1 34 "Leadlight$Laying" "sheetsUsed" "I") (List.mem_of_getElem? (i := 3) rfl)) (fun _ h9 => h9) rfl (by decide +kernel) rfl rfl (Nat.le_of_ble_eq_true rfl) dX1_openShelf_32 (fun H locs hP hD hS => ?_)
    have hP : va_P D vwCl (W_X1_openShelf h a cI cJ cZ v_queued v_sheetsUsed_t32 v_shelfBottom v_shelfHeight v_shelfEnd) H := hP
    have hD : va_D A (W_X1_openShelf h a cI cJ cZ v_queued v_sheetsUsed_t32 v_shelfBottom v_shelfHeight v_shelfEnd) := hD
    refine lv_aload_n hx hb dX1_openShelf_35 rfl (lv_at hl 0 rfl) ?_
    refine lv_iconst (v := 0) hx hb dX1_openShelf_36 (by decide) ?_
    refine lv_topi (fun v_shelfBottom_t37 ev_shelfBottom_t37 => ?_)
    have hw := hw v_shelfBottom_t37 ev_shelfBottom_t37
    refine va_put (D := D) (ci := 2) (v := .int v_shelfBottom_t37) (ty := .int) (C := RX1) (T := TX1) (N := 9) hx hb hts iRX1 tyX1 tyX1_ok nmX1 hown hK hP hD hS 0 rfl rfl 6 (by decide) (hts (.fieldLink RX1 56 "Leadlight$Laying" "shelfBottom" "I") (List.mem_of_getElem? (i := 1) rfl)) (fun _ h9 => h9) rfl (by decide +kernel) rfl rfl (Nat.le_of_ble_eq_true rfl) dX1_openShelf_37 (fun H locs hP hD hS => ?_)
    have hP : va_P D vwCl (W_X1_openShelf h a cI cJ cZ v_queued v_sheetsUsed_t32 v_shelfBottom_t37 v_shelfHeight v_shelfEnd) H := hP
    have hD : va_D A (W_X1_openShelf h a cI cJ cZ v_queued v_sheetsUsed_t32 v_shelfBottom_t37 v_shelfHeight v_shelfEnd) := hD
    refine lv_goto (tgt := 48) hx hb dX1_openShelf_40 (by decide) ?_
    exact J48 v_sheetsUsed_t32 v_shelfBottom_t37 hw _ _ ls hP hD hS (lv_sub hl [0, 1] rfl)
  refine lv_aload_n hx hb dX1_openShelf_0 rfl (lv_at hl 0 rfl) ?_
  refine va_get (D := D) (ci := 2) (v := .int v_shelfBottom) (C := RX1) (T := TX1) (N := 9) hx hb hts iRX1 hown hK hP 0 rfl rfl 6 (by decide) (hts (.fieldLink RX1 56 "Leadlight$Laying" "shelfBottom" "I") (List.mem_of_getElem? (i := 1) rfl)) (fun _ h9 => h9) rfl dX1_openShelf_1 ?_
  refine lv_aload_n hx hb dX1_openShelf_4 rfl (lv_at hl 0 rfl) ?_
  refine va_get (D := D) (ci := 2) (v := .int v_shelfHeight) (C := RX1) (T := TX1) (N := 9) hx hb hts iRX1 hown hK hP 0 rfl rfl 7 (by decide) (hts (.fieldLink RX1 59 "Leadlight$Laying" "shelfHeight" "I") (List.mem_of_getElem? (i := 2) rfl)) (fun _ h9 => h9) rfl dX1_openShelf_5 ?_
  refine lv_iadd hx hb dX1_openShelf_8 ?_
  refine lv_istore_n (lv' := [(2, .int (v_shelfBottom + v_shelfHeight)), (0, .ref h), (1, .int p1)]) hx hb dX1_openShelf_9 rfl hl (by decide) rfl (fun ls hl => ?_)
  refine lv_aload_n hx hb dX1_openShelf_10 rfl (lv_at hl 1 rfl) ?_
  refine va_get (D := D) (ci := 2) (v := .int v_sheetsUsed) (C := RX1) (T := TX1) (N := 9) hx hb hts iRX1 hown hK hP 0 rfl rfl 5 (by decide) (hts (.fieldLink RX1 34 "Leadlight$Laying" "sheetsUsed" "I") (List.mem_of_getElem? (i := 3) rfl)) (fun _ h9 => h9) rfl dX1_openShelf_11 ?_
  refine lv_if_eq (tgt := 25) hx hb dX1_openShelf_14 (by decide) (fun c14 => ?_) (fun c14 => ?_)
  · have hw := hw.1 c14
    exact J25 hw _ _ ls hP hD hS (lv_sub hl [1, 2] rfl)
  · have hw := hw.2 c14
    refine lv_iload_n hx hb dX1_openShelf_17 rfl (lv_at hl 0 rfl) ?_
    refine lv_iload_n hx hb dX1_openShelf_18 rfl (lv_at hl 2 rfl) ?_
    refine lv_iadd hx hb dX1_openShelf_19 ?_
    refine lv_bipush (v := 20) hx hb dX1_openShelf_20 (by decide) ?_
    refine lv_icmp_le (tgt := 43) hx hb dX1_openShelf_22 (by decide) (fun c22 => ?_) (fun c22 => ?_)
    · have hw := hw.1 c22
      refine lv_aload_n hx hb dX1_openShelf_43 rfl (lv_at hl 1 rfl) ?_
      refine lv_iload_n hx hb dX1_openShelf_44 rfl (lv_at hl 0 rfl) ?_
      refine lv_topi (fun v_shelfBottom_t45 ev_shelfBottom_t45 => ?_)
      have hw := hw v_shelfBottom_t45 ev_shelfBottom_t45
      refine va_put (D := D) (ci := 2) (v := .int v_shelfBottom_t45) (ty := .int) (C := RX1) (T := TX1) (N := 9) hx hb hts iRX1 tyX1 tyX1_ok nmX1 hown hK hP hD hS 0 rfl rfl 6 (by decide) (hts (.fieldLink RX1 56 "Leadlight$Laying" "shelfBottom" "I") (List.mem_of_getElem? (i := 1) rfl)) (fun _ h9 => h9) rfl (by decide +kernel) rfl rfl (Nat.le_of_ble_eq_true rfl) dX1_openShelf_45 (fun H locs hP hD hS => ?_)
      have hP : va_P D vwCl (W_X1_openShelf h a cI cJ cZ v_queued v_sheetsUsed v_shelfBottom_t45 v_shelfHeight v_shelfEnd) H := hP
      have hD : va_D A (W_X1_openShelf h a cI cJ cZ v_queued v_sheetsUsed v_shelfBottom_t45 v_shelfHeight v_shelfEnd) := hD
      exact J48 v_sheetsUsed v_shelfBottom_t45 hw _ _ ls hP hD hS (lv_sub hl [1, 2] rfl)
    · have hw := hw.2 c22
      exact J25 hw _ _ ls hP hD hS (lv_sub hl [1, 2] rfl)
abbrev rm_X1_layOne : Room := { frames := 1, cells := 0, slots := 0, locals := 22 }
abbrev W_X1_layOne (h : Nat) (a : Nat → Nat) (cI cJ cZ : ClassId) (v_heights : Nat → Int32) (v_widths : Nat → Int32) (v_spots : Nat → Int32) (v_queued : Int32) (v_sheetsUsed : Int32) (v_shelfBottom : Int32) (v_shelfHeight : Int32) (v_shelfEnd : Int32) : va_W := [(h, .inr (2, [.ref (a 0), .ref (a 1), .ref (a 2), .ref (a 3), .int v_queued, .int v_sheetsUsed, .int v_shelfBottom, .int v_shelfHeight, .int v_shelfEnd])), ((a 1), .inl (cI, 60, .inl v_heights)), ((a 2), .inl (cI, 60, .inl v_widths)), ((a 3), .inl (cI, 60, .inl v_spots))]
def wp_X1_layOne_50 (v_heights : Nat → Int32) (v_widths : Nat → Int32) (v_spots : Nat → Int32) (v_sheetsUsed : Int32) (v_shelfBottom : Int32) (v_shelfHeight : Int32) (v_shelfEnd : Int32) (p1 : Int32) (p2 : Int32) (post : (Nat → Int32) → Int32 → Int32 → Int32 → Int32 → Prop) (v_sheetsUsed_j50 : Int32) (v_shelfBottom_j50 : Int32) (v_shelfHeight_j50 : Int32) (v_shelfEnd_j50 : Int32) : Prop := vp_in p1 60 ∧ (∀ v_spots_t78 : Nat → Int32, v_spots_t78 = upd v_spots p1.toNatClampNeg (((10000 * (v_sheetsUsed_j50 - 1)) + (100 * v_shelfBottom_j50)) + v_shelfEnd_j50) → vp_in p1 60 ∧ (∀ v_shelfEnd_t91 : Int32, v_shelfEnd_t91 = (v_shelfEnd_j50 + (v_widths p1.toNatClampNeg)) → post v_spots_t78 v_sheetsUsed_j50 v_shelfBottom_j50 v_shelfHeight_j50 v_shelfEnd_t91))
def wp_X1_layOne_40 (v_heights : Nat → Int32) (v_widths : Nat → Int32) (v_spots : Nat → Int32) (v_sheetsUsed : Int32) (v_shelfBottom : Int32) (v_shelfHeight : Int32) (v_shelfEnd : Int32) (p1 : Int32) (p2 : Int32) (post : (Nat → Int32) → Int32 → Int32 → Int32 → Int32 → Prop) : Prop := vp_in p1 60 ∧ (wp_X1_openShelf v_sheetsUsed v_shelfBottom v_shelfHeight v_shelfEnd (v_heights p1.toNatClampNeg) (fun v_sheetsUsed_c47 v_shelfBottom_c47 v_shelfHeight_c47 v_shelfEnd_c47 => wp_X1_layOne_50 v_heights v_widths v_spots v_sheetsUsed v_shelfBottom v_shelfHeight v_shelfEnd p1 p2 post v_sheetsUsed_c47 v_shelfBottom_c47 v_shelfHeight_c47 v_shelfEnd_c47))
def wp_X1_layOne (v_heights : Nat → Int32) (v_widths : Nat → Int32) (v_spots : Nat → Int32) (v_sheetsUsed : Int32) (v_shelfBottom : Int32) (v_shelfHeight : Int32) (v_shelfEnd : Int32) (p1 : Int32) (p2 : Int32) (post : (Nat → Int32) → Int32 → Int32 → Int32 → Int32 → Prop) : Prop := wp_X4_isNumber p1 (fun r_1 => (r_1 = 0 → post v_spots v_sheetsUsed v_shelfBottom v_shelfHeight v_shelfEnd) ∧ (¬ r_1 = 0 → vp_in p1 60 ∧ (((v_widths p1.toNatClampNeg) ≤ p2 → (v_sheetsUsed = 0 → wp_X1_layOne_40 v_heights v_widths v_spots v_sheetsUsed v_shelfBottom v_shelfHeight v_shelfEnd p1 p2 post) ∧ (¬ v_sheetsUsed = 0 → vp_in p1 60 ∧ (((v_shelfEnd + (v_widths p1.toNatClampNeg)) ≤ p2 → wp_X1_layOne_50 v_heights v_widths v_spots v_sheetsUsed v_shelfBottom v_shelfHeight v_shelfEnd p1 p2 post v_sheetsUsed v_shelfBottom v_shelfHeight v_shelfEnd) ∧ (¬ (v_shelfEnd + (v_widths p1.toNatClampNeg)) ≤ p2 → wp_X1_layOne_40 v_heights v_widths v_spots v_sheetsUsed v_shelfBottom v_shelfHeight v_shelfEnd p1 p2 post)))) ∧ (¬ (v_widths p1.toNatClampNeg) ≤ p2 → post v_spots v_sheetsUsed v_shelfBottom v_shelfHeight v_shelfEnd))))
set_option maxHeartbeats 4000000 in
set_option maxRecDepth 100000 in
theorem c_X1_layOne (l : Launch) (D : va_G) (cI cJ cZ cO : ClassId) (h : Nat) (a : Nat → Nat) (sz : Nat) (v_heights : Nat → Int32) (v_widths : Nat → Int32) (v_spots : Nat → Int32) (v_queued : Int32) (v_sheetsUsed : Int32) (v_shelfBottom : Int32) (v_shelfHeight : Int32) (v_shelfEnd : Int32) (p1 : Int32) (p2 : Int32) (post : (Nat → Int32) → Int32 → Int32 → Int32 → Int32 → Prop) (hw : wp_X1_layOne v_heights v_widths v_spots v_sheetsUsed v_shelfBottom v_shelfHeight v_shelfEnd p1 p2 post) : Met l yX1_layOne wsX1_layOne rm_X1_layOne (va_Pc [.ref h, .int p1, .int p2] (PRE D cI cJ cZ cO (W_X1_layOne h a cI cJ cZ v_heights v_widths v_spots v_queued v_sheetsUsed v_shelfBottom v_shelfHeight v_shelfEnd) sz)) (va_Qv (fun (u : (Nat → Int32) × Int32 × Int32 × Int32 × Int32) => post u.1 u.2.1 u.2.2.1 u.2.2.2.1 u.2.2.2.2) (fun u t => POST D (va_A (W_X1_layOne h a cI cJ cZ v_heights v_widths v_spots v_queued v_sheetsUsed v_shelfBottom v_shelfHeight v_shelfEnd) sz) (W_X1_layOne h a cI cJ cZ v_heights v_widths u.1 v_queued u.2.1 u.2.2.1 u.2.2.2.1 u.2.2.2.2) t) (va_A (W_X1_layOne h a cI cJ cZ v_heights v_widths v_spots v_queued v_sheetsUsed v_shelfBottom v_shelfHeight v_shelfEnd) sz)) 0 0 (va_A (W_X1_layOne h a cI cJ cZ v_heights v_widths v_spots v_queued v_sheetsUsed v_shelfBottom v_shelfHeight v_shelfEnd) sz) := by
  refine met_go (cc := cX1_layOne) (maxL := 3) (ret := none) RX1 rfl (by decide) rfl (Nat.le_of_ble_eq_true rfl) ?_
  intro p e s m args below meth c ls hx hb hr hts hown hlocks hin hml hsz hP hK hE hD hA hS hl
  have iRX1 : ∀ w ∈ u_ws RX1 TX1 9, w ∈ wsX1_layOne := mem_seg 16 9 rfl
  generalize va_A (W_X1_layOne h a cI cJ cZ v_heights v_widths v_spots v_queued v_sheetsUsed v_shelfBottom v_shelfHeight v_shelfEnd) sz = A at hD hA hS ⊢
  have RT : ∀ (u : (Nat → Int32) × Int32 × Int32 × Int32 × Int32) (H : Heap) (locs : List Loc) (pc : Nat) (ls : Array Slot), decode cX1_layOne pc = .ok (.return_, 1) → post u.1 u.2.1 u.2.2.1 u.2.2.2.1 u.2.2.2.2 → va_P D vwCl (W_X1_layOne h a cI cJ cZ v_heights v_widths u.1 v_queued u.2.1 u.2.2.1 u.2.2.2.1 u.2.2.2.2) H → va_D A (W_X1_layOne h a cI cJ cZ v_heights v_widths u.1 v_queued u.2.1 u.2.2.1 u.2.2.2.1 u.2.2.2.2) → va_S A s.heap H locs → W p l e rm_X1_layOne s m args below meth c H locs 0 0 (MQ below (va_Qv (fun (u : (Nat → Int32) × Int32 × Int32 × Int32 × Int32) => post u.1 u.2.1 u.2.2.1 u.2.2.2.1 u.2.2.2.2) (fun u t => POST D A (W_X1_layOne h a cI cJ cZ v_heights v_widths u.1 v_queued u.2.1 u.2.2.1 u.2.2.2.1 u.2.2.2.2) t) A) args s 0 0 A) (F0 m pc ls []) := fun u H locs pc ls d g1 g2 g3 g4 => rt_v (Wf := fun u => (W_X1_layOne h a cI cJ cZ v_heights v_widths u.1 v_queued u.2.1 u.2.2.1 u.2.2.2.1 u.2.2.2.2)) u hx hb hr hlocks g1 g2 g3 g4 d
  generalize (MQ below (va_Qv (fun (u : (Nat → Int32) × Int32 × Int32 × Int32 × Int32) => post u.1 u.2.1 u.2.2.1 u.2.2.2.1 u.2.2.2.2) (fun u t => POST D A (W_X1_layOne h a cI cJ cZ v_heights v_widths u.1 v_queued u.2.1 u.2.2.1 u.2.2.2.1 u.2.2.2.2) t) A) args s 0 0 A) = QQ at RT ⊢
  have hl : lv_has ls 3 [(0, .ref h), (1, .int p1), (2, .int p2)] := hl
  have hP : va_P D vwCl (W_X1_layOne h a cI cJ cZ v_heights v_widths v_spots v_queued v_sheetsUsed v_shelfBottom v_shelfHeight v_shelfEnd) s.heap := hP
  unfold wp_X1_layOne at hw
  suffices GO : ∀ (H : Heap) (locs : List Loc), va_P D vwCl (W_X1_layOne h a cI cJ cZ v_heights v_widths v_spots v_queued v_sheetsUsed v_shelfBottom v_shelfHeight v_shelfEnd) H → va_S A s.heap H locs → W p l e rm_X1_layOne s m args below meth c H locs 0 0 QQ (F0 m 0 ls []) from GO _ _ hP hS
  clear hsz hP hS
  intro H locs hP hS
  have J50 : ∀ (v_sheetsUsed_j50 : Int32) (v_shelfBottom_j50 : Int32) (v_shelfHeight_j50 : Int32) (v_shelfEnd_j50 : Int32) , wp_X1_layOne_50 v_heights v_widths v_spots v_sheetsUsed v_shelfBottom v_shelfHeight v_shelfEnd p1 p2 post v_sheetsUsed_j50 v_shelfBottom_j50 v_shelfHeight_j50 v_shelfEnd_j50 → ∀ (H : Heap) (locs : List Loc) (ls : Array Slot), va_P D vwCl (W_X1_layOne h a cI cJ cZ v_heights v_widths v_spots v_queued v_sheetsUsed_j50 v_shelfBottom_j50 v_shelfHeight_j50 v_shelfEnd_j50) H → va_D A (W_X1_layOne h a cI cJ cZ v_heights v_widths v_spots v_queued v_sheetsUsed_j50 v_shelfBottom_j50 v_shelfHeight_j50 v_shelfEnd_j50) → va_S A s.heap H locs → lv_has ls 3 [(0, .ref h), (1, .int p1)] → W p l e rm_X1_layOne s m args below meth c H locs 0 0 QQ (F0 m 50 ls []) := by
    intro v_sheetsUsed_j50 v_shelfBottom_j50 v_shelfHeight_j50 v_shelfEnd_j50 hw H locs ls hP hD hS hl
    unfold wp_X1_layOne_50 at hw
    refine lv_aload_n hx hb dX1_layOne_50 rfl (lv_at hl 0 rfl) ?_
    refine va_get (D := D) (ci := 2) (v := .ref (a 3)) (C := RX1) (T := TX1) (N := 9) hx hb hts iRX1 hown hK hP 0 rfl rfl 3 (by decide) (hts (.fieldLink RX1 21 "Leadlight$Laying" "spots" "[I") (List.mem_of_getElem? (i := 5) rfl)) (fun _ h9 => h9) rfl dX1_layOne_51 ?_
    refine lv_iload_n hx hb dX1_layOne_54 rfl (lv_at hl 1 rfl) ?_
    refine lv_sipush (v := 10000) hx hb dX1_layOne_55 (by decide) ?_
    refine lv_aload_n hx hb dX1_layOne_58 rfl (lv_at hl 0 rfl) ?_
    refine va_get (D := D) (ci := 2) (v := .int v_sheetsUsed_j50) (C := RX1) (T := TX1) (N := 9) hx hb hts iRX1 hown hK hP 0 rfl rfl 5 (by decide) (hts (.fieldLink RX1 34 "Leadlight$Laying" "sheetsUsed" "I") (List.mem_of_getElem? (i := 2) rfl)) (fun _ h9 => h9) rfl dX1_layOne_59 ?_
    refine lv_iconst (v := 1) hx hb dX1_layOne_62 (by decide) ?_
    refine lv_isub hx hb dX1_layOne_63 ?_
    refine lv_imul hx hb dX1_layOne_64 ?_
    refine lv_bipush (v := 100) hx hb dX1_layOne_65 (by decide) ?_
    refine lv_aload_n hx hb dX1_layOne_67 rfl (lv_at hl 0 rfl) ?_
    refine va_get (D := D) (ci := 2) (v := .int v_shelfBottom_j50) (C := RX1) (T := TX1) (N := 9) hx hb hts iRX1 hown hK hP 0 rfl rfl 6 (by decide) (hts (.fieldLink RX1 56 "Leadlight$Laying" "shelfBottom" "I") (List.mem_of_getElem? (i := 6) rfl)) (fun _ h9 => h9) rfl dX1_layOne_68 ?_
    refine lv_imul hx hb dX1_layOne_71 ?_
    refine lv_iadd hx hb dX1_layOne_72 ?_
    refine lv_aload_n hx hb dX1_layOne_73 rfl (lv_at hl 0 rfl) ?_
    refine va_get (D := D) (ci := 2) (v := .int v_shelfEnd_j50) (C := RX1) (T := TX1) (N := 9) hx hb hts iRX1 hown hK hP 0 rfl rfl 8 (by decide) (hts (.fieldLink RX1 49 "Leadlight$Laying" "shelfEnd" "I") (List.mem_of_getElem? (i := 3) rfl)) (fun _ h9 => h9) rfl dX1_layOne_74 ?_
    refine lv_iadd hx hb dX1_layOne_77 ?_
    obtain ⟨hi_78, hw⟩ := hw
    refine st_i hx hb hK hP hD hS 3 0 rfl rfl hi_78 dX1_layOne_78 (fun v_spots_t78 ev_spots_t78 H locs hP hD hS => ?_)
    have hw := hw v_spots_t78 ev_spots_t78
    have hP : va_P D vwCl (W_X1_layOne h a cI cJ cZ v_heights v_widths v_spots_t78 v_queued v_sheetsUsed_j50 v_shelfBottom_j50 v_shelfHeight_j50 v_shelfEnd_j50) H := hP
    have hD : va_D A (W_X1_layOne h a cI cJ cZ v_heights v_widths v_spots_t78 v_queued v_sheetsUsed_j50 v_shelfBottom_j50 v_shelfHeight_j50 v_shelfEnd_j50) := hD
    refine lv_aload_n hx hb dX1_layOne_79 rfl (lv_at hl 0 rfl) ?_
    refine lv_dup hx hb dX1_layOne_80 rfl ?_
    refine va_get (D := D) (ci := 2) (v := .int v_shelfEnd_j50) (C := RX1) (T := TX1) (N := 9) hx hb hts iRX1 hown hK hP 0 rfl rfl 8 (by decide) (hts (.fieldLink RX1 49 "Leadlight$Laying" "shelfEnd" "I") (List.mem_of_getElem? (i := 3) rfl)) (fun _ h9 => h9) rfl dX1_layOne_81 ?_
    refine lv_aload_n hx hb dX1_layOne_84 rfl (lv_at hl 0 rfl) ?_
    refine va_get (D := D) (ci := 2) (v := .ref (a 2)) (C := RX1) (T := TX1) (N := 9) hx hb hts iRX1 hown hK hP 0 rfl rfl 2 (by decide) (hts (.fieldLink RX1 18 "Leadlight$Laying" "widths" "[I") (List.mem_of_getElem? (i := 1) rfl)) (fun _ h9 => h9) rfl dX1_layOne_85 ?_
    refine lv_iload_n hx hb dX1_layOne_88 rfl (lv_at hl 1 rfl) ?_
    obtain ⟨hi_89, hw⟩ := hw
    refine va_iald hx hb hK hP 2 0 rfl rfl hi_89 dX1_layOne_89 ?_
    refine lv_iadd hx hb dX1_layOne_90 ?_
    refine lv_topi (fun v_shelfEnd_t91 ev_shelfEnd_t91 => ?_)
    have hw := hw v_shelfEnd_t91 ev_shelfEnd_t91
    refine va_put (D := D) (ci := 2) (v := .int v_shelfEnd_t91) (ty := .int) (C := RX1) (T := TX1) (N := 9) hx hb hts iRX1 tyX1 tyX1_ok nmX1 hown hK hP hD hS 0 rfl rfl 8 (by decide) (hts (.fieldLink RX1 49 "Leadlight$Laying" "shelfEnd" "I") (List.mem_of_getElem? (i := 3) rfl)) (fun _ h9 => h9) rfl (by decide +kernel) rfl rfl (Nat.le_of_ble_eq_true rfl) dX1_layOne_91 (fun H locs hP hD hS => ?_)
    have hP : va_P D vwCl (W_X1_layOne h a cI cJ cZ v_heights v_widths v_spots_t78 v_queued v_sheetsUsed_j50 v_shelfBottom_j50 v_shelfHeight_j50 v_shelfEnd_t91) H := hP
    have hD : va_D A (W_X1_layOne h a cI cJ cZ v_heights v_widths v_spots_t78 v_queued v_sheetsUsed_j50 v_shelfBottom_j50 v_shelfHeight_j50 v_shelfEnd_t91) := hD
    exact RT (v_spots_t78, v_sheetsUsed_j50, v_shelfBottom_j50, v_shelfHeight_j50, v_shelfEnd_t91) _ _ _ _ dX1_layOne_94 hw hP hD hS
  have J40 : wp_X1_layOne_40 v_heights v_widths v_spots v_sheetsUsed v_shelfBottom v_shelfHeight v_shelfEnd p1 p2 post → ∀ (H : Heap) (locs : List Loc) (ls : Array Slot), va_P D vwCl (W_X1_layOne h a cI cJ cZ v_heights v_widths v_spots v_queued v_sheetsUsed v_shelfBottom v_shelfHeight v_shelfEnd) H → va_D A (W_X1_layOne h a cI cJ cZ v_heights v_widths v_spots v_queued v_sheetsUsed v_shelfBottom v_shelfHeight v_shelfEnd) → va_S A s.heap H locs → lv_has ls 3 [(0, .ref h), (1, .int p1)] → W p l e rm_X1_layOne s m args below meth c H locs 0 0 QQ (F0 m 40 ls []) := by
    intro hw H locs ls hP hD hS hl
    unfold wp_X1_layOne_40 at hw
    refine lv_aload_n hx hb dX1_layOne_40 rfl (lv_at hl 0 rfl) ?_
    refine lv_aload_n hx hb dX1_layOne_41 rfl (lv_at hl 0 rfl) ?_
    refine va_get (D := D) (ci := 2) (v := .ref (a 1)) (C := RX1) (T := TX1) (N := 9) hx hb hts iRX1 hown hK hP 0 rfl rfl 1 (by decide) (hts (.fieldLink RX1 15 "Leadlight$Laying" "heights" "[I") (List.mem_of_getElem? (i := 4) rfl)) (fun _ h9 => h9) rfl dX1_layOne_42 ?_
    refine lv_iload_n hx hb dX1_layOne_45 rfl (lv_at hl 1 rfl) ?_
    obtain ⟨hi_46, hw⟩ := hw
    refine va_iald hx hb hK hP 1 0 rfl rfl hi_46 dX1_layOne_46 ?_
    refine af_v (X := (W_X1_layOne h a cI cJ cZ v_heights v_widths v_spots v_queued v_sheetsUsed v_shelfBottom v_shelfHeight v_shelfEnd)) (pl := []) (cx := (W_X1_openShelf h a cI cJ cZ v_queued v_sheetsUsed v_shelfBottom v_shelfHeight v_shelfEnd)) (w1 := fun (u : Int32 × Int32 × Int32 × Int32) => (W_X1_openShelf h a cI cJ cZ v_queued u.1 u.2.1 u.2.2.1 u.2.2.2)) (X' := fun (u : Int32 × Int32 × Int32 × Int32) => (W_X1_layOne h a cI cJ cZ v_heights v_widths v_spots v_queued u.1 u.2.1 u.2.2.1 u.2.2.2)) hP hD hS hA [0] [1, 2, 3] [3, 0, 1, 2] rfl rfl (by decide) (by decide) (fun u => rfl) (by decide) (va_runV (As := [.int (v_heights p1.toNatClampNeg)]) (rest := []) ⟨hx, hb, hml, hown, hts⟩ (c_X1_openShelf l D cI cJ cZ cO h a H.size v_queued v_sheetsUsed v_shelfBottom v_shelfHeight v_shelfEnd (v_heights p1.toNatClampNeg) _ hw) (cwV 1 hts gX1_layOne_X1_openShelf rfl rfl rfl (by decide +kernel) ⟨Nat.le_of_ble_eq_true rfl, Nat.le_of_ble_eq_true rfl⟩) (preV (X := (W_X1_layOne h a cI cJ cZ v_heights v_widths v_spots v_queued v_sheetsUsed v_shelfBottom v_shelfHeight v_shelfEnd)) (pl := []) (cx := (W_X1_openShelf h a cI cJ cZ v_queued v_sheetsUsed v_shelfBottom v_shelfHeight v_shelfEnd)) (qb := 0) (ci := 2) hK hE hP hD [0] (by decide) rfl rfl rfl) rfl rfl hl.1 rfl (lv_room (Nat.le_of_ble_eq_true rfl)) dX1_layOne_47 ⟨Nat.zero_le _, Nat.zero_le _⟩) (fun u H locs hw hP hD hS => ?_)
    obtain ⟨v_sheetsUsed_c47, v_shelfBottom_c47, v_shelfHeight_c47, v_shelfEnd_c47⟩ := u
    try dsimp only at hw
    have hP : va_P D vwCl (W_X1_layOne h a cI cJ cZ v_heights v_widths v_spots v_queued v_sheetsUsed_c47 v_shelfBottom_c47 v_shelfHeight_c47 v_shelfEnd_c47) H := hP
    have hD : va_D A (W_X1_layOne h a cI cJ cZ v_heights v_widths v_spots v_queued v_sheetsUsed_c47 v_shelfBottom_c47 v_shelfHeight_c47 v_shelfEnd_c47) := hD
    exact J50 v_sheetsUsed_c47 v_shelfBottom_c47 v_shelfHeight_c47 v_shelfEnd_c47 hw _ _ ls hP hD hS (lv_sub hl [0, 1] rfl)
  refine lv_iload_n hx hb dX1_layOne_0 rfl (lv_at hl 1 rfl) ?_
  refine af_i (X := (W_X1_layOne h a cI cJ cZ v_heights v_widths v_spots v_queued v_sheetsUsed v_shelfBottom v_shelfHeight v_shelfEnd)) (pl := []) (cx := ([] : va_W)) (w1 := fun (u : Unit) => ([] : va_W)) (X' := fun (u : Unit) => (W_X1_layOne h a cI cJ cZ v_heights v_widths v_spots v_queued v_sheetsUsed v_shelfBottom v_shelfHeight v_shelfEnd)) hP hD hS hA [] [0, 1, 2, 3] [0, 1, 2, 3] rfl rfl (by decide) (by decide) (fun u => rfl) (by decide) (va_runSN (As := [.int p1]) (rest := []) ⟨hx, hb, hml, hown, hts⟩ (c_X4_isNumber l D cI cJ cZ cO H.size p1 _ hw) ⟨va_cnB 1 hts gX1_layOne_X4_isNumber_n37 rfl rfl rfl (hE.1 _ (List.mem_of_getElem? (i := 4) rfl)) (hts (.initialized RX4) (List.mem_of_getElem? (i := 8) rfl)) (by decide +kernel) ⟨Nat.le_of_ble_eq_true rfl, Nat.le_of_ble_eq_true rfl⟩, hts (.static yX4_isNumber) (List.mem_of_getElem? (i := 7) rfl), trivial⟩ (preS (X := (W_X1_layOne h a cI cJ cZ v_heights v_widths v_spots v_queued v_sheetsUsed v_shelfBottom v_shelfHeight v_shelfEnd)) (pl := []) (cx := ([] : va_W)) hK hE hP hD [] (by decide) rfl) rfl rfl hl.1 rfl (lv_room (Nat.le_of_ble_eq_true rfl)) dX1_layOne_1 ⟨Nat.zero_le _, Nat.zero_le _⟩) (fun r_1 _ H locs hw hP hD hS => ?_)
  try dsimp only at hw
  have hP : va_P D vwCl (W_X1_layOne h a cI cJ cZ v_heights v_widths v_spots v_queued v_sheetsUsed v_shelfBottom v_shelfHeight v_shelfEnd) H := hP
  have hD : va_D A (W_X1_layOne h a cI cJ cZ v_heights v_widths v_spots v_queued v_sheetsUsed v_shelfBottom v_shelfHeight v_shelfEnd) := hD
  refine lv_if_eq (tgt := 17) hx hb dX1_layOne_4 (by decide) (fun c4 => ?_) (fun c4 => ?_)
  · have hw := hw.1 c4
    exact RT (v_spots, v_sheetsUsed, v_shelfBottom, v_shelfHeight, v_shelfEnd) _ _ _ _ dX1_layOne_17 hw hP hD hS
  · have hw := hw.2 c4
    refine lv_aload_n hx hb dX1_layOne_7 rfl (lv_at hl 0 rfl) ?_
    refine va_get (D := D) (ci := 2) (v := .ref (a 2)) (C := RX1) (T := TX1) (N := 9) hx hb hts iRX1 hown hK hP 0 rfl rfl 2 (by decide) (hts (.fieldLink RX1 18 "Leadlight$Laying" "widths" "[I") (List.mem_of_getElem? (i := 1) rfl)) (fun _ h9 => h9) rfl dX1_layOne_8 ?_
    refine lv_iload_n hx hb dX1_layOne_11 rfl (lv_at hl 1 rfl) ?_
    obtain ⟨hi_12, hw⟩ := hw
    refine va_iald hx hb hK hP 2 0 rfl rfl hi_12 dX1_layOne_12 ?_
    refine lv_iload_n hx hb dX1_layOne_13 rfl (lv_at hl 2 rfl) ?_
    refine lv_icmp_le (tgt := 18) hx hb dX1_layOne_14 (by decide) (fun c14 => ?_) (fun c14 => ?_)
    · have hw := hw.1 c14
      refine lv_aload_n hx hb dX1_layOne_18 rfl (lv_at hl 0 rfl) ?_
      refine va_get (D := D) (ci := 2) (v := .int v_sheetsUsed) (C := RX1) (T := TX1) (N := 9) hx hb hts iRX1 hown hK hP 0 rfl rfl 5 (by decide) (hts (.fieldLink RX1 34 "Leadlight$Laying" "sheetsUsed" "I") (List.mem_of_getElem? (i := 2) rfl)) (fun _ h9 => h9) rfl dX1_layOne_19 ?_
      refine lv_if_eq (tgt := 40) hx hb dX1_layOne_22 (by decide) (fun c22 => ?_) (fun c22 => ?_)
      · have hw := hw.1 c22
        exact J40 hw _ _ ls hP hD hS (lv_sub hl [0, 1] rfl)
      · have hw := hw.2 c22
        refine lv_aload_n hx hb dX1_layOne_25 rfl (lv_at hl 0 rfl) ?_
        refine va_get (D := D) (ci := 2) (v := .int v_shelfEnd) (C := RX1) (T := TX1) (N := 9) hx hb hts iRX1 hown hK hP 0 rfl rfl 8 (by decide) (hts (.fieldLink RX1 49 "Leadlight$Laying" "shelfEnd" "I") (List.mem_of_getElem? (i := 3) rfl)) (fun _ h9 => h9) rfl dX1_layOne_26 ?_
        refine lv_aload_n hx hb dX1_layOne_29 rfl (lv_at hl 0 rfl) ?_
        refine va_get (D := D) (ci := 2) (v := .ref (a 2)) (C := RX1) (T := TX1) (N := 9) hx hb hts iRX1 hown hK hP 0 rfl rfl 2 (by decide) (hts (.fieldLink RX1 18 "Leadlight$Laying" "widths" "[I") (List.mem_of_getElem? (i := 1) rfl)) (fun _ h9 => h9) rfl dX1_layOne_30 ?_
        refine lv_iload_n hx hb dX1_layOne_33 rfl (lv_at hl 1 rfl) ?_
        obtain ⟨hi_34, hw⟩ := hw
        refine va_iald hx hb hK hP 2 0 rfl rfl hi_34 dX1_layOne_34 ?_
        refine lv_iadd hx hb dX1_layOne_35 ?_
        refine lv_iload_n hx hb dX1_layOne_36 rfl (lv_at hl 2 rfl) ?_
        refine lv_icmp_le (tgt := 50) hx hb dX1_layOne_37 (by decide) (fun c37 => ?_) (fun c37 => ?_)
        · have hw := hw.1 c37
          exact J50 v_sheetsUsed v_shelfBottom v_shelfHeight v_shelfEnd hw _ _ ls hP hD hS (lv_sub hl [0, 1] rfl)
        · have hw := hw.2 c37
          exact J40 hw _ _ ls hP hD hS (lv_sub hl [0, 1] rfl)
    · have hw := hw.2 c14
      exact RT (v_spots, v_sheetsUsed, v_shelfBottom, v_shelfHeight, v_shelfEnd) _ _ _ _ dX1_layOne_17 hw hP hD hS
abbrev rm_X1_layAll : Room := { frames := 2, cells := 0, slots := 0, locals := 44 }
abbrev W_X1_layAll (h : Nat) (a : Nat → Nat) (cI cJ cZ : ClassId) (v_queue : Nat → Int32) (v_heights : Nat → Int32) (v_widths : Nat → Int32) (v_spots : Nat → Int32) (v_queued : Int32) (v_sheetsUsed : Int32) (v_shelfBottom : Int32) (v_shelfHeight : Int32) (v_shelfEnd : Int32) : va_W := [(h, .inr (2, [.ref (a 0), .ref (a 1), .ref (a 2), .ref (a 3), .int v_queued, .int v_sheetsUsed, .int v_shelfBottom, .int v_shelfHeight, .int v_shelfEnd])), ((a 0), .inl (cI, 60, .inl v_queue)), ((a 1), .inl (cI, 60, .inl v_heights)), ((a 2), .inl (cI, 60, .inl v_widths)), ((a 3), .inl (cI, 60, .inl v_spots))]
def wp_X1_layAll_2 (v_queue : Nat → Int32) (v_heights : Nat → Int32) (v_widths : Nat → Int32) (v_spots : Nat → Int32) (v_queued : Int32) (v_sheetsUsed : Int32) (v_shelfBottom : Int32) (v_shelfHeight : Int32) (v_shelfEnd : Int32) (p1 : Int32) (post : (Nat → Int32) → Int32 → Int32 → Int32 → Int32 → Prop) (K2 : Int32 → (Nat → Int32) → Int32 → Int32 → Int32 → Int32 → Prop) (x2_j2 : Int32) (v_spots_j2 : Nat → Int32) (v_sheetsUsed_j2 : Int32) (v_shelfBottom_j2 : Int32) (v_shelfHeight_j2 : Int32) (v_shelfEnd_j2 : Int32) : Prop := (v_queued ≤ x2_j2 → post v_spots_j2 v_sheetsUsed_j2 v_shelfBottom_j2 v_shelfHeight_j2 v_shelfEnd_j2) ∧ (¬ v_queued ≤ x2_j2 → (60 ≤ x2_j2 → post v_spots_j2 v_sheetsUsed_j2 v_shelfBottom_j2 v_shelfHeight_j2 v_shelfEnd_j2) ∧ (¬ 60 ≤ x2_j2 → vp_in x2_j2 60 ∧ (wp_X1_layOne v_heights v_widths v_spots_j2 v_sheetsUsed_j2 v_shelfBottom_j2 v_shelfHeight_j2 v_shelfEnd_j2 (v_queue x2_j2.toNatClampNeg) p1 (fun v_spots_c24 v_sheetsUsed_c24 v_shelfBottom_c24 v_shelfHeight_c24 v_shelfEnd_c24 => K2 (x2_j2 + 1) v_spots_c24 v_sheetsUsed_c24 v_shelfBottom_c24 v_shelfHeight_c24 v_shelfEnd_c24))))
def lF_X1_layAll_2 (v_queue : Nat → Int32) (v_heights : Nat → Int32) (v_widths : Nat → Int32) (v_spots : Nat → Int32) (v_queued : Int32) (v_sheetsUsed : Int32) (v_shelfBottom : Int32) (v_shelfHeight : Int32) (v_shelfEnd : Int32) (p1 : Int32) (post : (Nat → Int32) → Int32 → Int32 → Int32 → Int32 → Prop) : ((Int32 × (Nat → Int32) × Int32 × Int32 × Int32 × Int32) → Prop) → (Int32 × (Nat → Int32) × Int32 × Int32 × Int32 × Int32) → Prop := fun K s => wp_X1_layAll_2 v_queue v_heights v_widths v_spots v_queued v_sheetsUsed v_shelfBottom v_shelfHeight v_shelfEnd p1 post (fun b0 b1 b2 b3 b4 b5 => K (b0, b1, b2, b3, b4, b5)) s.1 s.2.1 s.2.2.1 s.2.2.2.1 s.2.2.2.2.1 s.2.2.2.2.2
def wp_X1_layAll (v_queue : Nat → Int32) (v_heights : Nat → Int32) (v_widths : Nat → Int32) (v_spots : Nat → Int32) (v_queued : Int32) (v_sheetsUsed : Int32) (v_shelfBottom : Int32) (v_shelfHeight : Int32) (v_shelfEnd : Int32) (p1 : Int32) (post : (Nat → Int32) → Int32 → Int32 → Int32 → Int32 → Prop) : Prop := lp (lF_X1_layAll_2 v_queue v_heights v_widths v_spots v_queued v_sheetsUsed v_shelfBottom v_shelfHeight v_shelfEnd p1 post) (0, v_spots, v_sheetsUsed, v_shelfBottom, v_shelfHeight, v_shelfEnd)
set_option maxHeartbeats 4000000 in
set_option maxRecDepth 100000 in
theorem c_X1_layAll (l : Launch) (D : va_G) (cI cJ cZ cO : ClassId) (h : Nat) (a : Nat → Nat) (sz : Nat) (v_queue : Nat → Int32) (v_heights : Nat → Int32) (v_widths : Nat → Int32) (v_spots : Nat → Int32) (v_queued : Int32) (v_sheetsUsed : Int32) (v_shelfBottom : Int32) (v_shelfHeight : Int32) (v_shelfEnd : Int32) (p1 : Int32) (post : (Nat → Int32) → Int32 → Int32 → Int32 → Int32 → Prop) (hw : wp_X1_layAll v_queue v_heights v_widths v_spots v_queued v_sheetsUsed v_shelfBottom v_shelfHeight v_shelfEnd p1 post) : Met l yX1_layAll wsX1_layAll rm_X1_layAll (va_Pc [.ref h, .int p1] (PRE D cI cJ cZ cO (W_X1_layAll h a cI cJ cZ v_queue v_heights v_widths v_spots v_queued v_sheetsUsed v_shelfBottom v_shelfHeight v_shelfEnd) sz)) (va_Qv (fun (u : (Nat → Int32) × Int32 × Int32 × Int32 × Int32) => post u.1 u.2.1 u.2.2.1 u.2.2.2.1 u.2.2.2.2) (fun u t => POST D (va_A (W_X1_layAll h a cI cJ cZ v_queue v_heights v_widths v_spots v_queued v_sheetsUsed v_shelfBottom v_shelfHeight v_shelfEnd) sz) (W_X1_layAll h a cI cJ cZ v_queue v_heights v_widths u.1 v_queued u.2.1 u.2.2.1 u.2.2.2.1 u.2.2.2.2) t) (va_A (W_X1_layAll h a cI cJ cZ v_queue v_heights v_widths v_spots v_queued v_sheetsUsed v_shelfBottom v_shelfHeight v_shelfEnd) sz)) 0 0 (va_A (W_X1_layAll h a cI cJ cZ v_queue v_heights v_widths v_spots v_queued v_sheetsUsed v_shelfBottom v_shelfHeight v_shelfEnd) sz) := by
  refine met_go (cc := cX1_layAll) (maxL := 3) (ret := none) RX1 rfl (by decide) rfl (Nat.le_of_ble_eq_true rfl) ?_
  intro p e s m args below meth c ls hx hb hr hts hown hlocks hin hml hsz hP hK hE hD hA hS hl
  have iRX1 : ∀ w ∈ u_ws RX1 TX1 9, w ∈ wsX1_layAll := mem_seg 22 9 rfl
  generalize va_A (W_X1_layAll h a cI cJ cZ v_queue v_heights v_widths v_spots v_queued v_sheetsUsed v_shelfBottom v_shelfHeight v_shelfEnd) sz = A at hD hA hS ⊢
  have RT : ∀ (u : (Nat → Int32) × Int32 × Int32 × Int32 × Int32) (H : Heap) (locs : List Loc) (pc : Nat) (ls : Array Slot), decode cX1_layAll pc = .ok (.return_, 1) → post u.1 u.2.1 u.2.2.1 u.2.2.2.1 u.2.2.2.2 → va_P D vwCl (W_X1_layAll h a cI cJ cZ v_queue v_heights v_widths u.1 v_queued u.2.1 u.2.2.1 u.2.2.2.1 u.2.2.2.2) H → va_D A (W_X1_layAll h a cI cJ cZ v_queue v_heights v_widths u.1 v_queued u.2.1 u.2.2.1 u.2.2.2.1 u.2.2.2.2) → va_S A s.heap H locs → W p l e rm_X1_layAll s m args below meth c H locs 0 0 (MQ below (va_Qv (fun (u : (Nat → Int32) × Int32 × Int32 × Int32 × Int32) => post u.1 u.2.1 u.2.2.1 u.2.2.2.1 u.2.2.2.2) (fun u t => POST D A (W_X1_layAll h a cI cJ cZ v_queue v_heights v_widths u.1 v_queued u.2.1 u.2.2.1 u.2.2.2.1 u.2.2.2.2) t) A) args s 0 0 A) (F0 m pc ls []) := fun u H locs pc ls d g1 g2 g3 g4 => rt_v (Wf := fun u => (W_X1_layAll h a cI cJ cZ v_queue v_heights v_widths u.1 v_queued u.2.1 u.2.2.1 u.2.2.2.1 u.2.2.2.2)) u hx hb hr hlocks g1 g2 g3 g4 d
  generalize (MQ below (va_Qv (fun (u : (Nat → Int32) × Int32 × Int32 × Int32 × Int32) => post u.1 u.2.1 u.2.2.1 u.2.2.2.1 u.2.2.2.2) (fun u t => POST D A (W_X1_layAll h a cI cJ cZ v_queue v_heights v_widths u.1 v_queued u.2.1 u.2.2.1 u.2.2.2.1 u.2.2.2.2) t) A) args s 0 0 A) = QQ at RT ⊢
  have hl : lv_has ls 3 [(0, .ref h), (1, .int p1)] := hl
  have hP : va_P D vwCl (W_X1_layAll h a cI cJ cZ v_queue v_heights v_widths v_spots v_queued v_sheetsUsed v_shelfBottom v_shelfHeight v_shelfEnd) s.heap := hP
  unfold wp_X1_layAll at hw
  suffices GO : ∀ (H : Heap) (locs : List Loc), va_P D vwCl (W_X1_layAll h a cI cJ cZ v_queue v_heights v_widths v_spots v_queued v_sheetsUsed v_shelfBottom v_shelfHeight v_shelfEnd) H → va_S A s.heap H locs → W p l e rm_X1_layAll s m args below meth c H locs 0 0 QQ (F0 m 0 ls []) from GO _ _ hP hS
  clear hsz hP hS
  intro H locs hP hS
  have L2 : ∀ s0 : (Int32 × (Nat → Int32) × Int32 × Int32 × Int32 × Int32), lp (lF_X1_layAll_2 v_queue v_heights v_widths v_spots v_queued v_sheetsUsed v_shelfBottom v_shelfHeight v_shelfEnd p1 post) s0 → ∀ (H : Heap) (locs : List Loc) (ls : Array Slot), va_P D vwCl (W_X1_layAll h a cI cJ cZ v_queue v_heights v_widths s0.2.1 v_queued s0.2.2.1 s0.2.2.2.1 s0.2.2.2.2.1 s0.2.2.2.2.2) H → va_D A (W_X1_layAll h a cI cJ cZ v_queue v_heights v_widths s0.2.1 v_queued s0.2.2.1 s0.2.2.2.1 s0.2.2.2.2.1 s0.2.2.2.2.2) → va_S A s.heap H locs → lv_has ls 3 [(0, .ref h), (1, .int p1), (2, .int s0.1)] → W p l e rm_X1_layAll s m args below meth c H locs 0 0 QQ (F0 m 2 ls []) := by
    refine lp_elim (fun K2 ih2 s0 hw => ?_)
    obtain ⟨x2_j2, v_spots_j2, v_sheetsUsed_j2, v_shelfBottom_j2, v_shelfHeight_j2, v_shelfEnd_j2⟩ := s0
    intro H locs ls hP hD hS hl
    have hw : wp_X1_layAll_2 v_queue v_heights v_widths v_spots v_queued v_sheetsUsed v_shelfBottom v_shelfHeight v_shelfEnd p1 post (fun b0 b1 b2 b3 b4 b5 => K2 (b0, b1, b2, b3, b4, b5)) x2_j2 v_spots_j2 v_sheetsUsed_j2 v_shelfBottom_j2 v_shelfHeight_j2 v_shelfEnd_j2 := hw
    have hP : va_P D vwCl (W_X1_layAll h a cI cJ cZ v_queue v_heights v_widths v_spots_j2 v_queued v_sheetsUsed_j2 v_shelfBottom_j2 v_shelfHeight_j2 v_shelfEnd_j2) H := hP
    have hD : va_D A (W_X1_layAll h a cI cJ cZ v_queue v_heights v_widths v_spots_j2 v_queued v_sheetsUsed_j2 v_shelfBottom_j2 v_shelfHeight_j2 v_shelfEnd_j2) := hD
    have hl : lv_has ls 3 [(0, .ref h), (1, .int p1), (2, .int x2_j2)] := hl
    unfold wp_X1_layAll_2 at hw
    refine lv_iload_n hx hb dX1_layAll_2 rfl (lv_at hl 2 rfl) ?_
    refine lv_aload_n hx hb dX1_layAll_3 rfl (lv_at hl 0 rfl) ?_
    refine va_get (D := D) (ci := 2) (v := .int v_queued) (C := RX1) (T := TX1) (N := 9) hx hb hts iRX1 hown hK hP 0 rfl rfl 4 (by decide) (hts (.fieldLink RX1 30 "Leadlight$Laying" "queued" "I") (List.mem_of_getElem? (i := 1) rfl)) (fun _ h9 => h9) rfl dX1_layAll_4 ?_
    refine lv_icmp_ge (tgt := 33) hx hb dX1_layAll_7 (by decide) (fun c7 => ?_) (fun c7 => ?_)
    · have hw := hw.1 c7
      exact RT (v_spots_j2, v_sheetsUsed_j2, v_shelfBottom_j2, v_shelfHeight_j2, v_shelfEnd_j2) _ _ _ _ dX1_layAll_33 hw hP hD hS
    · have hw := hw.2 c7
      refine lv_iload_n hx hb dX1_layAll_10 rfl (lv_at hl 2 rfl) ?_
      refine lv_bipush (v := 60) hx hb dX1_layAll_11 (by decide) ?_
      refine lv_icmp_ge (tgt := 33) hx hb dX1_layAll_13 (by decide) (fun c13 => ?_) (fun c13 => ?_)
      · have hw := hw.1 c13
        exact RT (v_spots_j2, v_sheetsUsed_j2, v_shelfBottom_j2, v_shelfHeight_j2, v_shelfEnd_j2) _ _ _ _ dX1_layAll_33 hw hP hD hS
      · have hw := hw.2 c13
        refine lv_aload_n hx hb dX1_layAll_16 rfl (lv_at hl 0 rfl) ?_
        refine lv_aload_n hx hb dX1_layAll_17 rfl (lv_at hl 0 rfl) ?_
        refine va_get (D := D) (ci := 2) (v := .ref (a 0)) (C := RX1) (T := TX1) (N := 9) hx hb hts iRX1 hown hK hP 0 rfl rfl 0 (by decide) (hts (.fieldLink RX1 9 "Leadlight$Laying" "queue" "[I") (List.mem_of_getElem? (i := 2) rfl)) (fun _ h9 => h9) rfl dX1_layAll_18 ?_
        refine lv_iload_n hx hb dX1_layAll_21 rfl (lv_at hl 2 rfl) ?_
        obtain ⟨hi_22, hw⟩ := hw
        refine va_iald hx hb hK hP 1 0 rfl rfl hi_22 dX1_layAll_22 ?_
        refine lv_iload_n hx hb dX1_layAll_23 rfl (lv_at hl 1 rfl) ?_
        refine af_v (X := (W_X1_layAll h a cI cJ cZ v_queue v_heights v_widths v_spots_j2 v_queued v_sheetsUsed_j2 v_shelfBottom_j2 v_shelfHeight_j2 v_shelfEnd_j2)) (pl := []) (cx := (W_X1_layOne h a cI cJ cZ v_heights v_widths v_spots_j2 v_queued v_sheetsUsed_j2 v_shelfBottom_j2 v_shelfHeight_j2 v_shelfEnd_j2)) (w1 := fun (u : (Nat → Int32) × Int32 × Int32 × Int32 × Int32) => (W_X1_layOne h a cI cJ cZ v_heights v_widths u.1 v_queued u.2.1 u.2.2.1 u.2.2.2.1 u.2.2.2.2)) (X' := fun (u : (Nat → Int32) × Int32 × Int32 × Int32 × Int32) => (W_X1_layAll h a cI cJ cZ v_queue v_heights v_widths u.1 v_queued u.2.1 u.2.2.1 u.2.2.2.1 u.2.2.2.2)) hP hD hS hA [0, 2, 3, 4] [1] [1, 0, 2, 3, 4] rfl rfl (by decide) (by decide) (fun u => rfl) (by decide) (va_runV (As := [.int (v_queue x2_j2.toNatClampNeg), .int p1]) (rest := []) ⟨hx, hb, hml, hown, hts⟩ (c_X1_layOne l D cI cJ cZ cO h a H.size v_heights v_widths v_spots_j2 v_queued v_sheetsUsed_j2 v_shelfBottom_j2 v_shelfHeight_j2 v_shelfEnd_j2 (v_queue x2_j2.toNatClampNeg) p1 _ hw) (cwV 2 hts gX1_layAll_X1_layOne rfl rfl rfl (by decide +kernel) ⟨Nat.le_of_ble_eq_true rfl, Nat.le_of_ble_eq_true rfl⟩) (preV (X := (W_X1_layAll h a cI cJ cZ v_queue v_heights v_widths v_spots_j2 v_queued v_sheetsUsed_j2 v_shelfBottom_j2 v_shelfHeight_j2 v_shelfEnd_j2)) (pl := []) (cx := (W_X1_layOne h a cI cJ cZ v_heights v_widths v_spots_j2 v_queued v_sheetsUsed_j2 v_shelfBottom_j2 v_shelfHeight_j2 v_shelfEnd_j2)) (qb := 0) (ci := 2) hK hE hP hD [0, 2, 3, 4] (by decide) rfl rfl rfl) rfl rfl hl.1 rfl (lv_room (Nat.le_of_ble_eq_true rfl)) dX1_layAll_24 ⟨Nat.zero_le _, Nat.zero_le _⟩) (fun u H locs hw hP hD hS => ?_)
        obtain ⟨v_spots_c24, v_sheetsUsed_c24, v_shelfBottom_c24, v_shelfHeight_c24, v_shelfEnd_c24⟩ := u
        try dsimp only at hw
        have hP : va_P D vwCl (W_X1_layAll h a cI cJ cZ v_queue v_heights v_widths v_spots_c24 v_queued v_sheetsUsed_c24 v_shelfBottom_c24 v_shelfHeight_c24 v_shelfEnd_c24) H := hP
        have hD : va_D A (W_X1_layAll h a cI cJ cZ v_queue v_heights v_widths v_spots_c24 v_queued v_sheetsUsed_c24 v_shelfBottom_c24 v_shelfHeight_c24 v_shelfEnd_c24) := hD
        refine lv_iinc (v := (x2_j2 + 1)) (lv' := [(2, .int (x2_j2 + 1)), (0, .ref h), (1, .int p1)]) hx hb dX1_layAll_27 hl (k := 2) rfl rfl (by decide) rfl (fun ls hl => ?_)
        refine lv_goto (tgt := 2) hx hb dX1_layAll_30 (by decide) ?_
        exact ih2 ((x2_j2 + 1), v_spots_c24, v_sheetsUsed_c24, v_shelfBottom_c24, v_shelfHeight_c24, v_shelfEnd_c24) hw _ _ ls hP hD hS (lv_sub hl [1, 2, 0] rfl)
  refine lv_iconst (v := 0) hx hb dX1_layAll_0 (by decide) ?_
  refine lv_istore_n (lv' := [(2, .int 0), (0, .ref h), (1, .int p1)]) hx hb dX1_layAll_1 rfl hl (by decide) rfl (fun ls hl => ?_)
  exact L2 (0, v_spots, v_sheetsUsed, v_shelfBottom, v_shelfHeight, v_shelfEnd) hw _ _ ls hP hD hS (lv_sub hl [1, 2, 0] rfl)
abbrev rm_X1_spotOf : Room := { frames := 1, cells := 0, slots := 0, locals := 20 }
abbrev W_X1_spotOf (h : Nat) (a : Nat → Nat) (cI cJ cZ : ClassId) (v_spots : Nat → Int32) (v_queued : Int32) (v_sheetsUsed : Int32) (v_shelfBottom : Int32) (v_shelfHeight : Int32) (v_shelfEnd : Int32) : va_W := [(h, .inr (2, [.ref (a 0), .ref (a 1), .ref (a 2), .ref (a 3), .int v_queued, .int v_sheetsUsed, .int v_shelfBottom, .int v_shelfHeight, .int v_shelfEnd])), ((a 3), .inl (cI, 60, .inl v_spots))]
def wp_X1_spotOf (v_spots : Nat → Int32) (p1 : Int32) (post : Int32 → Prop) : Prop := wp_X4_isNumber p1 (fun r_1 => (r_1 = 0 → post (-1)) ∧ (¬ r_1 = 0 → vp_in p1 60 ∧ (post (v_spots p1.toNatClampNeg))))
set_option maxHeartbeats 4000000 in
set_option maxRecDepth 100000 in
theorem c_X1_spotOf (l : Launch) (D : va_G) (cI cJ cZ cO : ClassId) (h : Nat) (a : Nat → Nat) (sz : Nat) (v_spots : Nat → Int32) (v_queued : Int32) (v_sheetsUsed : Int32) (v_shelfBottom : Int32) (v_shelfHeight : Int32) (v_shelfEnd : Int32) (p1 : Int32) (post : Int32 → Prop) (hw : wp_X1_spotOf v_spots p1 post) : Met l yX1_spotOf wsX1_spotOf rm_X1_spotOf (va_Pc [.ref h, .int p1] (PRE D cI cJ cZ cO (W_X1_spotOf h a cI cJ cZ v_spots v_queued v_sheetsUsed v_shelfBottom v_shelfHeight v_shelfEnd) sz)) (va_Qi (fun r (_ : Unit) => post r) (fun u t => POST D (va_A (W_X1_spotOf h a cI cJ cZ v_spots v_queued v_sheetsUsed v_shelfBottom v_shelfHeight v_shelfEnd) sz) (W_X1_spotOf h a cI cJ cZ v_spots v_queued v_sheetsUsed v_shelfBottom v_shelfHeight v_shelfEnd) t) (va_A (W_X1_spotOf h a cI cJ cZ v_spots v_queued v_sheetsUsed v_shelfBottom v_shelfHeight v_shelfEnd) sz)) 0 0 (va_A (W_X1_spotOf h a cI cJ cZ v_spots v_queued v_sheetsUsed v_shelfBottom v_shelfHeight v_shelfEnd) sz) := by
  refine met_go (cc := cX1_spotOf) (maxL := 2) (ret := some .int) RX1 rfl (by decide) rfl (Nat.le_of_ble_eq_true rfl) ?_
  intro p e s m args below meth c ls hx hb hr hts hown hlocks hin hml hsz hP hK hE hD hA hS hl
  have iRX1 : ∀ w ∈ u_ws RX1 TX1 9, w ∈ wsX1_spotOf := mem_seg 5 9 rfl
  generalize va_A (W_X1_spotOf h a cI cJ cZ v_spots v_queued v_sheetsUsed v_shelfBottom v_shelfHeight v_shelfEnd) sz = A at hD hA hS ⊢
  have RT : ∀ (v : Int32) (u : Unit) (H : Heap) (locs : List Loc) (pc : Nat) (ls : Array Slot), decode cX1_spotOf pc = .ok (.ireturn, 1) → post v → va_P D vwCl (W_X1_spotOf h a cI cJ cZ v_spots v_queued v_sheetsUsed v_shelfBottom v_shelfHeight v_shelfEnd) H → va_D A (W_X1_spotOf h a cI cJ cZ v_spots v_queued v_sheetsUsed v_shelfBottom v_shelfHeight v_shelfEnd) → va_S A s.heap H locs → W p l e rm_X1_spotOf s m args below meth c H locs 0 0 (MQ below (va_Qi (fun r (_ : Unit) => post r) (fun u t => POST D A (W_X1_spotOf h a cI cJ cZ v_spots v_queued v_sheetsUsed v_shelfBottom v_shelfHeight v_shelfEnd) t) A) args s 0 0 A) (F0 m pc ls [.int v]) := fun v u H locs pc ls d g1 g2 g3 g4 => rt_i (Wf := fun u => (W_X1_spotOf h a cI cJ cZ v_spots v_queued v_sheetsUsed v_shelfBottom v_shelfHeight v_shelfEnd)) u hx hb hr hlocks g1 g2 g3 g4 d
  generalize (MQ below (va_Qi (fun r (_ : Unit) => post r) (fun u t => POST D A (W_X1_spotOf h a cI cJ cZ v_spots v_queued v_sheetsUsed v_shelfBottom v_shelfHeight v_shelfEnd) t) A) args s 0 0 A) = QQ at RT ⊢
  have hl : lv_has ls 2 [(0, .ref h), (1, .int p1)] := hl
  have hP : va_P D vwCl (W_X1_spotOf h a cI cJ cZ v_spots v_queued v_sheetsUsed v_shelfBottom v_shelfHeight v_shelfEnd) s.heap := hP
  unfold wp_X1_spotOf at hw
  suffices GO : ∀ (H : Heap) (locs : List Loc), va_P D vwCl (W_X1_spotOf h a cI cJ cZ v_spots v_queued v_sheetsUsed v_shelfBottom v_shelfHeight v_shelfEnd) H → va_S A s.heap H locs → W p l e rm_X1_spotOf s m args below meth c H locs 0 0 QQ (F0 m 0 ls []) from GO _ _ hP hS
  clear hsz hP hS
  intro H locs hP hS
  refine lv_iload_n hx hb dX1_spotOf_0 rfl (lv_at hl 1 rfl) ?_
  refine af_i (X := (W_X1_spotOf h a cI cJ cZ v_spots v_queued v_sheetsUsed v_shelfBottom v_shelfHeight v_shelfEnd)) (pl := []) (cx := ([] : va_W)) (w1 := fun (u : Unit) => ([] : va_W)) (X' := fun (u : Unit) => (W_X1_spotOf h a cI cJ cZ v_spots v_queued v_sheetsUsed v_shelfBottom v_shelfHeight v_shelfEnd)) hP hD hS hA [] [0, 1] [0, 1] rfl rfl (by decide) (by decide) (fun u => rfl) (by decide) (va_runSN (As := [.int p1]) (rest := []) ⟨hx, hb, hml, hown, hts⟩ (c_X4_isNumber l D cI cJ cZ cO H.size p1 _ hw) ⟨va_cnB 1 hts gX1_spotOf_X4_isNumber_n37 rfl rfl rfl (hE.1 _ (List.mem_of_getElem? (i := 4) rfl)) (hts (.initialized RX4) (List.mem_of_getElem? (i := 3) rfl)) (by decide +kernel) ⟨Nat.le_of_ble_eq_true rfl, Nat.le_of_ble_eq_true rfl⟩, hts (.static yX4_isNumber) (List.mem_of_getElem? (i := 2) rfl), trivial⟩ (preS (X := (W_X1_spotOf h a cI cJ cZ v_spots v_queued v_sheetsUsed v_shelfBottom v_shelfHeight v_shelfEnd)) (pl := []) (cx := ([] : va_W)) hK hE hP hD [] (by decide) rfl) rfl rfl hl.1 rfl (lv_room (Nat.le_of_ble_eq_true rfl)) dX1_spotOf_1 ⟨Nat.zero_le _, Nat.zero_le _⟩) (fun r_1 _ H locs hw hP hD hS => ?_)
  try dsimp only at hw
  have hP : va_P D vwCl (W_X1_spotOf h a cI cJ cZ v_spots v_queued v_sheetsUsed v_shelfBottom v_shelfHeight v_shelfEnd) H := hP
  have hD : va_D A (W_X1_spotOf h a cI cJ cZ v_spots v_queued v_sheetsUsed v_shelfBottom v_shelfHeight v_shelfEnd) := hD
  refine lv_if_eq (tgt := 16) hx hb dX1_spotOf_4 (by decide) (fun c4 => ?_) (fun c4 => ?_)
  · have hw := hw.1 c4
    refine lv_iconst (v := (-1)) hx hb dX1_spotOf_16 (by decide) ?_
    exact RT (-1) () _ _ _ _ dX1_spotOf_17 hw hP hD hS
  · have hw := hw.2 c4
    refine lv_aload_n hx hb dX1_spotOf_7 rfl (lv_at hl 0 rfl) ?_
    refine va_get (D := D) (ci := 2) (v := .ref (a 3)) (C := RX1) (T := TX1) (N := 9) hx hb hts iRX1 hown hK hP 0 rfl rfl 3 (by decide) (hts (.fieldLink RX1 21 "Leadlight$Laying" "spots" "[I") (List.mem_of_getElem? (i := 1) rfl)) (fun _ h9 => h9) rfl dX1_spotOf_8 ?_
    refine lv_iload_n hx hb dX1_spotOf_11 rfl (lv_at hl 1 rfl) ?_
    obtain ⟨hi_12, hw⟩ := hw
    refine va_iald hx hb hK hP 1 0 rfl rfl hi_12 dX1_spotOf_12 ?_
    refine lv_goto (tgt := 17) hx hb dX1_spotOf_13 (by decide) ?_
    exact RT (v_spots p1.toNatClampNeg) () _ _ _ _ dX1_spotOf_17 hw hP hD hS
