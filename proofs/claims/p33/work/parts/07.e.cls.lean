/-! printed by wip/whole/gen: X2_note X2_thingAt X2_addLayer X2_layersThatAre X2_bearHeat X2_makeAnew X3_trace X3_columnsBeyond X3_takeSide X3_leave -/
abbrev rm_X2_note : Room := { frames := 0, cells := 0, slots := 0, locals := 0 }
abbrev W_X2_note (h : Nat) (a : Nat → Nat) (cI cJ cZ : ClassId) (v_things : Nat → Int32) (v_colour : Int32) (v_state : Int32) (v_layers : Int32) (v_thingCount : Int32) (v_original : Int32) : va_W := [(h, .inr (3, [.ref (a 0), .ref (a 1), .ref (a 2), .int v_colour, .int v_state, .int v_layers, .int v_thingCount, .int v_original])), ((a 2), .inl (cI, 20, .inl v_things))]
def wp_X2_note (v_things : Nat → Int32) (v_thingCount : Int32) (p1 : Int32) (post : (Nat → Int32) → Int32 → Prop) : Prop := (v_thingCount < 0 → post v_things v_thingCount) ∧ (¬ v_thingCount < 0 → (20 ≤ v_thingCount → post v_things v_thingCount) ∧ (¬ 20 ≤ v_thingCount → vp_in v_thingCount 20 ∧ (∀ v_things_t25 : Nat → Int32, v_things_t25 = upd v_things v_thingCount.toNatClampNeg p1 → ∀ v_thingCount_t33 : Int32, v_thingCount_t33 = (v_thingCount + 1) → post v_things_t25 v_thingCount_t33)))
set_option maxHeartbeats 4000000 in
set_option maxRecDepth 100000 in
theorem c_X2_note (l : Launch) (D : va_G) (cI cJ cZ cO : ClassId) (h : Nat) (a : Nat → Nat) (sz : Nat) (v_things : Nat → Int32) (v_colour : Int32) (v_state : Int32) (v_layers : Int32) (v_thingCount : Int32) (v_original : Int32) (p1 : Int32) (post : (Nat → Int32) → Int32 → Prop) (hw : wp_X2_note v_things v_thingCount p1 post) : Met l yX2_note wsX2_note rm_X2_note (va_Pc [.ref h, .int p1] (PRE D cI cJ cZ cO (W_X2_note h a cI cJ cZ v_things v_colour v_state v_layers v_thingCount v_original) sz)) (va_Qv (fun (u : (Nat → Int32) × Int32) => post u.1 u.2) (fun u t => POST D (va_A (W_X2_note h a cI cJ cZ v_things v_colour v_state v_layers v_thingCount v_original) sz) (W_X2_note h a cI cJ cZ u.1 v_colour v_state v_layers u.2 v_original) t) (va_A (W_X2_note h a cI cJ cZ v_things v_colour v_state v_layers v_thingCount v_original) sz)) 0 0 (va_A (W_X2_note h a cI cJ cZ v_things v_colour v_state v_layers v_thingCount v_original) sz) := by
  refine met_go (cc := cX2_note) (maxL := 2) (ret := none) RX2 rfl (by decide) rfl (Nat.le_of_ble_eq_true rfl) ?_
  intro p e s m args below meth c ls hx hb hr hts hown hlocks hin hml hsz hP hK hE hD hA hS hl
  have iRX2 : ∀ w ∈ u_ws RX2 TX2 8, w ∈ wsX2_note := mem_seg 3 8 rfl
  generalize va_A (W_X2_note h a cI cJ cZ v_things v_colour v_state v_layers v_thingCount v_original) sz = A at hD hA hS ⊢
  have RT : ∀ (u : (Nat → Int32) × Int32) (H : Heap) (locs : List Loc) (pc : Nat) (ls : Array Slot), decode cX2_note pc = .ok (.return_, 1) → post u.1 u.2 → va_P D vwCl (W_X2_note h a cI cJ cZ u.1 v_colour v_state v_layers u.2 v_original) H → va_D A (W_X2_note h a cI cJ cZ u.1 v_colour v_state v_layers u.2 v_original) → va_S A s.heap H locs → W p l e rm_X2_note s m args below meth c H locs 0 0 (MQ below (va_Qv (fun (u : (Nat → Int32) × Int32) => post u.1 u.2) (fun u t => POST D A (W_X2_note h a cI cJ cZ u.1 v_colour v_state v_layers u.2 v_original) t) A) args s 0 0 A) (F0 m pc ls []) := fun u H locs pc ls d g1 g2 g3 g4 => rt_v (Wf := fun u => (W_X2_note h a cI cJ cZ u.1 v_colour v_state v_layers u.2 v_original)) u hx hb hr hlocks g1 g2 g3 g4 d
  generalize (MQ below (va_Qv (fun (u : (Nat → Int32) × Int32) => post u.1 u.2) (fun u t => POST D A (W_X2_note h a cI cJ cZ u.1 v_colour v_state v_layers u.2 v_original) t) A) args s 0 0 A) = QQ at RT ⊢
  have hl : lv_has ls 2 [(0, .ref h), (1, .int p1)] := hl
  have hP : va_P D vwCl (W_X2_note h a cI cJ cZ v_things v_colour v_state v_layers v_thingCount v_original) s.heap := hP
  unfold wp_X2_note at hw
  suffices GO : ∀ (H : Heap) (locs : List Loc), va_P D vwCl (W_X2_note h a cI cJ cZ v_things v_colour v_state v_layers v_thingCount v_original) H → va_S A s.heap H locs → W p l e rm_X2_note s m args below meth c H locs 0 0 QQ (F0 m 0 ls []) from GO _ _ hP hS
  clear hsz hP hS
  intro H locs hP hS
  refine lv_aload_n hx hb dX2_note_0 rfl (lv_at hl 0 rfl) ?_
  refine va_get (D := D) (ci := 3) (v := .int v_thingCount) (C := RX2) (T := TX2) (N := 8) hx hb hts iRX2 hown hK hP 0 rfl rfl 6 (by decide) (hts (.fieldLink RX2 28 "Leadlight$Piece" "thingCount" "I") (List.mem_of_getElem? (i := 1) rfl)) (fun _ h9 => h9) rfl dX2_note_1 ?_
  refine lv_if_lt (tgt := 36) hx hb dX2_note_4 (by decide) (fun c4 => ?_) (fun c4 => ?_)
  · have hw := hw.1 c4
    exact RT (v_things, v_thingCount) _ _ _ _ dX2_note_36 hw hP hD hS
  · have hw := hw.2 c4
    refine lv_aload_n hx hb dX2_note_7 rfl (lv_at hl 0 rfl) ?_
    refine va_get (D := D) (ci := 3) (v := .int v_thingCount) (C := RX2) (T := TX2) (N := 8) hx hb hts iRX2 hown hK hP 0 rfl rfl 6 (by decide) (hts (.fieldLink RX2 28 "Leadlight$Piece" "thingCount" "I") (List.mem_of_getElem? (i := 1) rfl)) (fun _ h9 => h9) rfl dX2_note_8 ?_
    refine lv_bipush (v := 20) hx hb dX2_note_11 (by decide) ?_
    refine lv_icmp_ge (tgt := 36) hx hb dX2_note_13 (by decide) (fun c13 => ?_) (fun c13 => ?_)
    · have hw := hw.1 c13
      exact RT (v_things, v_thingCount) _ _ _ _ dX2_note_36 hw hP hD hS
    · have hw := hw.2 c13
      refine lv_aload_n hx hb dX2_note_16 rfl (lv_at hl 0 rfl) ?_
      refine va_get (D := D) (ci := 3) (v := .ref (a 2)) (C := RX2) (T := TX2) (N := 8) hx hb hts iRX2 hown hK hP 0 rfl rfl 2 (by decide) (hts (.fieldLink RX2 18 "Leadlight$Piece" "things" "[I") (List.mem_of_getElem? (i := 2) rfl)) (fun _ h9 => h9) rfl dX2_note_17 ?_
      refine lv_aload_n hx hb dX2_note_20 rfl (lv_at hl 0 rfl) ?_
      refine va_get (D := D) (ci := 3) (v := .int v_thingCount) (C := RX2) (T := TX2) (N := 8) hx hb hts iRX2 hown hK hP 0 rfl rfl 6 (by decide) (hts (.fieldLink RX2 28 "Leadlight$Piece" "thingCount" "I") (List.mem_of_getElem? (i := 1) rfl)) (fun _ h9 => h9) rfl dX2_note_21 ?_
      refine lv_iload_n hx hb dX2_note_24 rfl (lv_at hl 1 rfl) ?_
      obtain ⟨hi_25, hw⟩ := hw
      refine st_i hx hb hK hP hD hS 1 0 rfl rfl hi_25 dX2_note_25 (fun v_things_t25 ev_things_t25 H locs hP hD hS => ?_)
      have hw := hw v_things_t25 ev_things_t25
      have hP : va_P D vwCl (W_X2_note h a cI cJ cZ v_things_t25 v_colour v_state v_layers v_thingCount v_original) H := hP
      have hD : va_D A (W_X2_note h a cI cJ cZ v_things_t25 v_colour v_state v_layers v_thingCount v_original) := hD
      refine lv_aload_n hx hb dX2_note_26 rfl (lv_at hl 0 rfl) ?_
      refine lv_dup hx hb dX2_note_27 rfl ?_
      refine va_get (D := D) (ci := 3) (v := .int v_thingCount) (C := RX2) (T := TX2) (N := 8) hx hb hts iRX2 hown hK hP 0 rfl rfl 6 (by decide) (hts (.fieldLink RX2 28 "Leadlight$Piece" "thingCount" "I") (List.mem_of_getElem? (i := 1) rfl)) (fun _ h9 => h9) rfl dX2_note_28 ?_
      refine lv_iconst (v := 1) hx hb dX2_note_31 (by decide) ?_
      refine lv_iadd hx hb dX2_note_32 ?_
      refine lv_topi (fun v_thingCount_t33 ev_thingCount_t33 => ?_)
      have hw := hw v_thingCount_t33 ev_thingCount_t33
      refine va_put (D := D) (ci := 3) (v := .int v_thingCount_t33) (ty := .int) (C := RX2) (T := TX2) (N := 8) hx hb hts iRX2 tyX2 tyX2_ok nmX2 hown hK hP hD hS 0 rfl rfl 6 (by decide) (hts (.fieldLink RX2 28 "Leadlight$Piece" "thingCount" "I") (List.mem_of_getElem? (i := 1) rfl)) (fun _ h9 => h9) rfl (by decide +kernel) rfl rfl (Nat.le_of_ble_eq_true rfl) dX2_note_33 (fun H locs hP hD hS => ?_)
      have hP : va_P D vwCl (W_X2_note h a cI cJ cZ v_things_t25 v_colour v_state v_layers v_thingCount_t33 v_original) H := hP
      have hD : va_D A (W_X2_note h a cI cJ cZ v_things_t25 v_colour v_state v_layers v_thingCount_t33 v_original) := hD
      exact RT (v_things_t25, v_thingCount_t33) _ _ _ _ dX2_note_36 hw hP hD hS
abbrev rm_X2_thingAt : Room := { frames := 0, cells := 0, slots := 0, locals := 0 }
abbrev W_X2_thingAt (h : Nat) (a : Nat → Nat) (cI cJ cZ : ClassId) (v_things : Nat → Int32) (v_colour : Int32) (v_state : Int32) (v_layers : Int32) (v_thingCount : Int32) (v_original : Int32) : va_W := [(h, .inr (3, [.ref (a 0), .ref (a 1), .ref (a 2), .int v_colour, .int v_state, .int v_layers, .int v_thingCount, .int v_original])), ((a 2), .inl (cI, 20, .inl v_things))]
def wp_X2_thingAt (v_things : Nat → Int32) (v_thingCount : Int32) (p1 : Int32) (post : Int32 → Prop) : Prop := (p1 < 0 → post (-1)) ∧ (¬ p1 < 0 → (v_thingCount ≤ p1 → post (-1)) ∧ (¬ v_thingCount ≤ p1 → (20 ≤ p1 → post (-1)) ∧ (¬ 20 ≤ p1 → vp_in p1 20 ∧ (post (v_things p1.toNatClampNeg)))))
set_option maxHeartbeats 4000000 in
set_option maxRecDepth 100000 in
theorem c_X2_thingAt (l : Launch) (D : va_G) (cI cJ cZ cO : ClassId) (h : Nat) (a : Nat → Nat) (sz : Nat) (v_things : Nat → Int32) (v_colour : Int32) (v_state : Int32) (v_layers : Int32) (v_thingCount : Int32) (v_original : Int32) (p1 : Int32) (post : Int32 → Prop) (hw : wp_X2_thingAt v_things v_thingCount p1 post) : Met l yX2_thingAt wsX2_thingAt rm_X2_thingAt (va_Pc [.ref h, .int p1] (PRE D cI cJ cZ cO (W_X2_thingAt h a cI cJ cZ v_things v_colour v_state v_layers v_thingCount v_original) sz)) (va_Qi (fun r (_ : Unit) => post r) (fun u t => POST D (va_A (W_X2_thingAt h a cI cJ cZ v_things v_colour v_state v_layers v_thingCount v_original) sz) (W_X2_thingAt h a cI cJ cZ v_things v_colour v_state v_layers v_thingCount v_original) t) (va_A (W_X2_thingAt h a cI cJ cZ v_things v_colour v_state v_layers v_thingCount v_original) sz)) 0 0 (va_A (W_X2_thingAt h a cI cJ cZ v_things v_colour v_state v_layers v_thingCount v_original) sz) := by
  refine met_go (cc := cX2_thingAt) (maxL := 2) (ret := some .int) RX2 rfl (by decide) rfl (Nat.le_of_ble_eq_true rfl) ?_
  intro p e s m args below meth c ls hx hb hr hts hown hlocks hin hml hsz hP hK hE hD hA hS hl
  have iRX2 : ∀ w ∈ u_ws RX2 TX2 8, w ∈ wsX2_thingAt := mem_seg 3 8 rfl
  generalize va_A (W_X2_thingAt h a cI cJ cZ v_things v_colour v_state v_layers v_thingCount v_original) sz = A at hD hA hS ⊢
  have RT : ∀ (v : Int32) (u : Unit) (H : Heap) (locs : List Loc) (pc : Nat) (ls : Array Slot), decode cX2_thingAt pc = .ok (.ireturn, 1) → post v → va_P D vwCl (W_X2_thingAt h a cI cJ cZ v_things v_colour v_state v_layers v_thingCount v_original) H → va_D A (W_X2_thingAt h a cI cJ cZ v_things v_colour v_state v_layers v_thingCount v_original) → va_S A s.heap H locs → W p l e rm_X2_thingAt s m args below meth c H locs 0 0 (MQ below (va_Qi (fun r (_ : Unit) => post r) (fun u t => POST D A (W_X2_thingAt h a cI cJ cZ v_things v_colour v_state v_layers v_thingCount v_original) t) A) args s 0 0 A) (F0 m pc ls [.int v]) := fun v u H locs pc ls d g1 g2 g3 g4 => rt_i (Wf := fun u => (W_X2_thingAt h a cI cJ cZ v_things v_colour v_state v_layers v_thingCount v_original)) u hx hb hr hlocks g1 g2 g3 g4 d
  generalize (MQ below (va_Qi (fun r (_ : Unit) => post r) (fun u t => POST D A (W_X2_thingAt h a cI cJ cZ v_things v_colour v_state v_layers v_thingCount v_original) t) A) args s 0 0 A) = QQ at RT ⊢
  have hl : lv_has ls 2 [(0, .ref h), (1, .int p1)] := hl
  have hP : va_P D vwCl (W_X2_thingAt h a cI cJ cZ v_things v_colour v_state v_layers v_thingCount v_original) s.heap := hP
  unfold wp_X2_thingAt at hw
  suffices GO : ∀ (H : Heap) (locs : List Loc), va_P D vwCl (W_X2_thingAt h a cI cJ cZ v_things v_colour v_state v_layers v_thingCount v_original) H → va_S A s.heap H locs → W p l e rm_X2_thingAt s m args below meth c H locs 0 0 QQ (F0 m 0 ls []) from GO _ _ hP hS
  clear hsz hP hS
  intro H locs hP hS
  refine lv_iload_n hx hb dX2_thingAt_0 rfl (lv_at hl 1 rfl) ?_
  refine lv_if_lt (tgt := 27) hx hb dX2_thingAt_1 (by decide) (fun c1 => ?_) (fun c1 => ?_)
  · have hw := hw.1 c1
    refine lv_iconst (v := (-1)) hx hb dX2_thingAt_27 (by decide) ?_
    exact RT (-1) () _ _ _ _ dX2_thingAt_28 hw hP hD hS
  · have hw := hw.2 c1
    refine lv_iload_n hx hb dX2_thingAt_4 rfl (lv_at hl 1 rfl) ?_
    refine lv_aload_n hx hb dX2_thingAt_5 rfl (lv_at hl 0 rfl) ?_
    refine va_get (D := D) (ci := 3) (v := .int v_thingCount) (C := RX2) (T := TX2) (N := 8) hx hb hts iRX2 hown hK hP 0 rfl rfl 6 (by decide) (hts (.fieldLink RX2 28 "Leadlight$Piece" "thingCount" "I") (List.mem_of_getElem? (i := 1) rfl)) (fun _ h9 => h9) rfl dX2_thingAt_6 ?_
    refine lv_icmp_ge (tgt := 27) hx hb dX2_thingAt_9 (by decide) (fun c9 => ?_) (fun c9 => ?_)
    · have hw := hw.1 c9
      refine lv_iconst (v := (-1)) hx hb dX2_thingAt_27 (by decide) ?_
      exact RT (-1) () _ _ _ _ dX2_thingAt_28 hw hP hD hS
    · have hw := hw.2 c9
      refine lv_iload_n hx hb dX2_thingAt_12 rfl (lv_at hl 1 rfl) ?_
      refine lv_bipush (v := 20) hx hb dX2_thingAt_13 (by decide) ?_
      refine lv_icmp_ge (tgt := 27) hx hb dX2_thingAt_15 (by decide) (fun c15 => ?_) (fun c15 => ?_)
      · have hw := hw.1 c15
        refine lv_iconst (v := (-1)) hx hb dX2_thingAt_27 (by decide) ?_
        exact RT (-1) () _ _ _ _ dX2_thingAt_28 hw hP hD hS
      · have hw := hw.2 c15
        refine lv_aload_n hx hb dX2_thingAt_18 rfl (lv_at hl 0 rfl) ?_
        refine va_get (D := D) (ci := 3) (v := .ref (a 2)) (C := RX2) (T := TX2) (N := 8) hx hb hts iRX2 hown hK hP 0 rfl rfl 2 (by decide) (hts (.fieldLink RX2 18 "Leadlight$Piece" "things" "[I") (List.mem_of_getElem? (i := 2) rfl)) (fun _ h9 => h9) rfl dX2_thingAt_19 ?_
        refine lv_iload_n hx hb dX2_thingAt_22 rfl (lv_at hl 1 rfl) ?_
        obtain ⟨hi_23, hw⟩ := hw
        refine va_iald hx hb hK hP 1 0 rfl rfl hi_23 dX2_thingAt_23 ?_
        refine lv_goto (tgt := 28) hx hb dX2_thingAt_24 (by decide) ?_
        exact RT (v_things p1.toNatClampNeg) () _ _ _ _ dX2_thingAt_28 hw hP hD hS
abbrev rm_X2_addLayer : Room := { frames := 1, cells := 0, slots := 0, locals := 21 }
abbrev W_X2_addLayer (h : Nat) (a : Nat → Nat) (cI cJ cZ : ClassId) (v_heats : Nat → Int32) (v_firings : Nat → Int32) (v_things : Nat → Int32) (v_colour : Int32) (v_state : Int32) (v_layers : Int32) (v_thingCount : Int32) (v_original : Int32) : va_W := [(h, .inr (3, [.ref (a 0), .ref (a 1), .ref (a 2), .int v_colour, .int v_state, .int v_layers, .int v_thingCount, .int v_original])), ((a 0), .inl (cI, 5, .inl v_heats)), ((a 1), .inl (cI, 5, .inl v_firings)), ((a 2), .inl (cI, 20, .inl v_things))]
def wp_X2_addLayer (v_heats : Nat → Int32) (v_firings : Nat → Int32) (v_things : Nat → Int32) (v_layers : Int32) (v_thingCount : Int32) (p1 : Int32) (post : (Nat → Int32) → (Nat → Int32) → (Nat → Int32) → Int32 → Int32 → Prop) : Prop := (v_layers < 0 → post v_heats v_firings v_things v_layers v_thingCount) ∧ (¬ v_layers < 0 → (5 ≤ v_layers → post v_heats v_firings v_things v_layers v_thingCount) ∧ (¬ 5 ≤ v_layers → vp_in v_layers 5 ∧ (∀ v_heats_t24 : Nat → Int32, v_heats_t24 = upd v_heats v_layers.toNatClampNeg p1 → vp_in v_layers 5 ∧ (∀ v_firings_t34 : Nat → Int32, v_firings_t34 = upd v_firings v_layers.toNatClampNeg 0 → ∀ v_layers_t42 : Int32, v_layers_t42 = (v_layers + 1) → wp_X2_note v_things v_thingCount 4 (fun v_things_c47 v_thingCount_c47 => post v_heats_t24 v_firings_t34 v_things_c47 v_layers_t42 v_thingCount_c47)))))
set_option maxHeartbeats 4000000 in
set_option maxRecDepth 100000 in
theorem c_X2_addLayer (l : Launch) (D : va_G) (cI cJ cZ cO : ClassId) (h : Nat) (a : Nat → Nat) (sz : Nat) (v_heats : Nat → Int32) (v_firings : Nat → Int32) (v_things : Nat → Int32) (v_colour : Int32) (v_state : Int32) (v_layers : Int32) (v_thingCount : Int32) (v_original : Int32) (p1 : Int32) (post : (Nat → Int32) → (Nat → Int32) → (Nat → Int32) → Int32 → Int32 → Prop) (hw : wp_X2_addLayer v_heats v_firings v_things v_layers v_thingCount p1 post) : Met l yX2_addLayer wsX2_addLayer rm_X2_addLayer (va_Pc [.ref h, .int p1] (PRE D cI cJ cZ cO (W_X2_addLayer h a cI cJ cZ v_heats v_firings v_things v_colour v_state v_layers v_thingCount v_original) sz)) (va_Qv (fun (u : (Nat → Int32) × (Nat → Int32) × (Nat → Int32) × Int32 × Int32) => post u.1 u.2.1 u.2.2.1 u.2.2.2.1 u.2.2.2.2) (fun u t => POST D (va_A (W_X2_addLayer h a cI cJ cZ v_heats v_firings v_things v_colour v_state v_layers v_thingCount v_original) sz) (W_X2_addLayer h a cI cJ cZ u.1 u.2.1 u.2.2.1 v_colour v_state u.2.2.2.1 u.2.2.2.2 v_original) t) (va_A (W_X2_addLayer h a cI cJ cZ v_heats v_firings v_things v_colour v_state v_layers v_thingCount v_original) sz)) 0 0 (va_A (W_X2_addLayer h a cI cJ cZ v_heats v_firings v_things v_colour v_state v_layers v_thingCount v_original) sz) := by
  refine met_go (cc := cX2_addLayer) (maxL := 2) (ret := none) RX2 rfl (by decide) rfl (Nat.le_of_ble_eq_true rfl) ?_
  intro p e s m args below meth c ls hx hb hr hts hown hlocks hin hml hsz hP hK hE hD hA hS hl
  have iRX2 : ∀ w ∈ u_ws RX2 TX2 8, w ∈ wsX2_addLayer := mem_seg 11 8 rfl
  generalize va_A (W_X2_addLayer h a cI cJ cZ v_heats v_firings v_things v_colour v_state v_layers v_thingCount v_original) sz = A at hD hA hS ⊢
  have RT : ∀ (u : (Nat → Int32) × (Nat → Int32) × (Nat → Int32) × Int32 × Int32) (H : Heap) (locs : List Loc) (pc : Nat) (ls : Array Slot), decode cX2_addLayer pc = .ok (.return_, 1) → post u.1 u.2.1 u.2.2.1 u.2.2.2.1 u.2.2.2.2 → va_P D vwCl (W_X2_addLayer h a cI cJ cZ u.1 u.2.1 u.2.2.1 v_colour v_state u.2.2.2.1 u.2.2.2.2 v_original) H → va_D A (W_X2_addLayer h a cI cJ cZ u.1 u.2.1 u.2.2.1 v_colour v_state u.2.2.2.1 u.2.2.2.2 v_original) → va_S A s.heap H locs → W p l e rm_X2_addLayer s m args below meth c H locs 0 0 (MQ below (va_Qv (fun (u : (Nat → Int32) × (Nat → Int32) × (Nat → Int32) × Int32 × Int32) => post u.1 u.2.1 u.2.2.1 u.2.2.2.1 u.2.2.2.2) (fun u t => POST D A (W_X2_addLayer h a cI cJ cZ u.1 u.2.1 u.2.2.1 v_colour v_state u.2.2.2.1 u.2.2.2.2 v_original) t) A) args s 0 0 A) (F0 m pc ls []) := fun u H locs pc ls d g1 g2 g3 g4 => rt_v (Wf := fun u => (W_X2_addLayer h a cI cJ cZ u.1 u.2.1 u.2.2.1 v_colour v_state u.2.2.2.1 u.2.2.2.2 v_original)) u hx hb hr hlocks g1 g2 g3 g4 d
  generalize (MQ below (va_Qv (fun (u : (Nat → Int32) × (Nat → Int32) × (Nat → Int32) × Int32 × Int32) => post u.1 u.2.1 u.2.2.1 u.2.2.2.1 u.2.2.2.2) (fun u t => POST D A (W_X2_addLayer h a cI cJ cZ u.1 u.2.1 u.2.2.1 v_colour v_state u.2.2.2.1 u.2.2.2.2 v_original) t) A) args s 0 0 A) = QQ at RT ⊢
  have hl : lv_has ls 2 [(0, .ref h), (1, .int p1)] := hl
  have hP : va_P D vwCl (W_X2_addLayer h a cI cJ cZ v_heats v_firings v_things v_colour v_state v_layers v_thingCount v_original) s.heap := hP
  unfold wp_X2_addLayer at hw
  suffices GO : ∀ (H : Heap) (locs : List Loc), va_P D vwCl (W_X2_addLayer h a cI cJ cZ v_heats v_firings v_things v_colour v_state v_layers v_thingCount v_original) H → va_S A s.heap H locs → W p l e rm_X2_addLayer s m args below meth c H locs 0 0 QQ (F0 m 0 ls []) from GO _ _ hP hS
  clear hsz hP hS
  intro H locs hP hS
  refine lv_aload_n hx hb dX2_addLayer_0 rfl (lv_at hl 0 rfl) ?_
  refine va_get (D := D) (ci := 3) (v := .int v_layers) (C := RX2) (T := TX2) (N := 8) hx hb hts iRX2 hown hK hP 0 rfl rfl 5 (by decide) (hts (.fieldLink RX2 25 "Leadlight$Piece" "layers" "I") (List.mem_of_getElem? (i := 1) rfl)) (fun _ h9 => h9) rfl dX2_addLayer_1 ?_
  refine lv_if_lt (tgt := 50) hx hb dX2_addLayer_4 (by decide) (fun c4 => ?_) (fun c4 => ?_)
  · have hw := hw.1 c4
    exact RT (v_heats, v_firings, v_things, v_layers, v_thingCount) _ _ _ _ dX2_addLayer_50 hw hP hD hS
  · have hw := hw.2 c4
    refine lv_aload_n hx hb dX2_addLayer_7 rfl (lv_at hl 0 rfl) ?_
    refine va_get (D := D) (ci := 3) (v := .int v_layers) (C := RX2) (T := TX2) (N := 8) hx hb hts iRX2 hown hK hP 0 rfl rfl 5 (by decide) (hts (.fieldLink RX2 25 "Leadlight$Piece" "layers" "I") (List.mem_of_getElem? (i := 1) rfl)) (fun _ h9 => h9) rfl dX2_addLayer_8 ?_
    refine lv_iconst (v := 5) hx hb dX2_addLayer_11 (by decide) ?_
    refine lv_icmp_ge (tgt := 50) hx hb dX2_addLayer_12 (by decide) (fun c12 => ?_) (fun c12 => ?_)
    · have hw := hw.1 c12
      exact RT (v_heats, v_firings, v_things, v_layers, v_thingCount) _ _ _ _ dX2_addLayer_50 hw hP hD hS
    · have hw := hw.2 c12
      refine lv_aload_n hx hb dX2_addLayer_15 rfl (lv_at hl 0 rfl) ?_
      refine va_get (D := D) (ci := 3) (v := .ref (a 0)) (C := RX2) (T := TX2) (N := 8) hx hb hts iRX2 hown hK hP 0 rfl rfl 0 (by decide) (hts (.fieldLink RX2 9 "Leadlight$Piece" "heats" "[I") (List.mem_of_getElem? (i := 2) rfl)) (fun _ h9 => h9) rfl dX2_addLayer_16 ?_
      refine lv_aload_n hx hb dX2_addLayer_19 rfl (lv_at hl 0 rfl) ?_
      refine va_get (D := D) (ci := 3) (v := .int v_layers) (C := RX2) (T := TX2) (N := 8) hx hb hts iRX2 hown hK hP 0 rfl rfl 5 (by decide) (hts (.fieldLink RX2 25 "Leadlight$Piece" "layers" "I") (List.mem_of_getElem? (i := 1) rfl)) (fun _ h9 => h9) rfl dX2_addLayer_20 ?_
      refine lv_iload_n hx hb dX2_addLayer_23 rfl (lv_at hl 1 rfl) ?_
      obtain ⟨hi_24, hw⟩ := hw
      refine st_i hx hb hK hP hD hS 1 0 rfl rfl hi_24 dX2_addLayer_24 (fun v_heats_t24 ev_heats_t24 H locs hP hD hS => ?_)
      have hw := hw v_heats_t24 ev_heats_t24
      have hP : va_P D vwCl (W_X2_addLayer h a cI cJ cZ v_heats_t24 v_firings v_things v_colour v_state v_layers v_thingCount v_original) H := hP
      have hD : va_D A (W_X2_addLayer h a cI cJ cZ v_heats_t24 v_firings v_things v_colour v_state v_layers v_thingCount v_original) := hD
      refine lv_aload_n hx hb dX2_addLayer_25 rfl (lv_at hl 0 rfl) ?_
      refine va_get (D := D) (ci := 3) (v := .ref (a 1)) (C := RX2) (T := TX2) (N := 8) hx hb hts iRX2 hown hK hP 0 rfl rfl 1 (by decide) (hts (.fieldLink RX2 15 "Leadlight$Piece" "firings" "[I") (List.mem_of_getElem? (i := 3) rfl)) (fun _ h9 => h9) rfl dX2_addLayer_26 ?_
      refine lv_aload_n hx hb dX2_addLayer_29 rfl (lv_at hl 0 rfl) ?_
      refine va_get (D := D) (ci := 3) (v := .int v_layers) (C := RX2) (T := TX2) (N := 8) hx hb hts iRX2 hown hK hP 0 rfl rfl 5 (by decide) (hts (.fieldLink RX2 25 "Leadlight$Piece" "layers" "I") (List.mem_of_getElem? (i := 1) rfl)) (fun _ h9 => h9) rfl dX2_addLayer_30 ?_
      refine lv_iconst (v := 0) hx hb dX2_addLayer_33 (by decide) ?_
      obtain ⟨hi_34, hw⟩ := hw
      refine st_i hx hb hK hP hD hS 2 0 rfl rfl hi_34 dX2_addLayer_34 (fun v_firings_t34 ev_firings_t34 H locs hP hD hS => ?_)
      have hw := hw v_firings_t34 ev_firings_t34
      have hP : va_P D vwCl (W_X2_addLayer h a cI cJ cZ v_heats_t24 v_firings_t34 v_things v_colour v_state v_layers v_thingCount v_original) H := hP
      have hD : va_D A (W_X2_addLayer h a cI cJ cZ v_heats_t24 v_firings_t34 v_things v_colour v_state v_layers v_thingCount v_original) := hD
      refine lv_aload_n hx hb dX2_addLayer_35 rfl (lv_at hl 0 rfl) ?_
      refine lv_dup hx hb dX2_addLayer_36 rfl ?_
      refine va_get (D := D) (ci := 3) (v := .int v_layers) (C := RX2) (T := TX2) (N := 8) hx hb hts iRX2 hown hK hP 0 rfl rfl 5 (by decide) (hts (.fieldLink RX2 25 "Leadlight$Piece" "layers" "I") (List.mem_of_getElem? (i := 1) rfl)) (fun _ h9 => h9) rfl dX2_addLayer_37 ?_
      refine lv_iconst (v := 1) hx hb dX2_addLayer_40 (by decide) ?_
      refine lv_iadd hx hb dX2_addLayer_41 ?_
      refine lv_topi (fun v_layers_t42 ev_layers_t42 => ?_)
      have hw := hw v_layers_t42 ev_layers_t42
      refine va_put (D := D) (ci := 3) (v := .int v_layers_t42) (ty := .int) (C := RX2) (T := TX2) (N := 8) hx hb hts iRX2 tyX2 tyX2_ok nmX2 hown hK hP hD hS 0 rfl rfl 5 (by decide) (hts (.fieldLink RX2 25 "Leadlight$Piece" "layers" "I") (List.mem_of_getElem? (i := 1) rfl)) (fun _ h9 => h9) rfl (by decide +kernel) rfl rfl (Nat.le_of_ble_eq_true rfl) dX2_addLayer_42 (fun H locs hP hD hS => ?_)
      have hP : va_P D vwCl (W_X2_addLayer h a cI cJ cZ v_heats_t24 v_firings_t34 v_things v_colour v_state v_layers_t42 v_thingCount v_original) H := hP
      have hD : va_D A (W_X2_addLayer h a cI cJ cZ v_heats_t24 v_firings_t34 v_things v_colour v_state v_layers_t42 v_thingCount v_original) := hD
      refine lv_aload_n hx hb dX2_addLayer_45 rfl (lv_at hl 0 rfl) ?_
      refine lv_iconst (v := 4) hx hb dX2_addLayer_46 (by decide) ?_
      refine af_v (X := (W_X2_addLayer h a cI cJ cZ v_heats_t24 v_firings_t34 v_things v_colour v_state v_layers_t42 v_thingCount v_original)) (pl := []) (cx := (W_X2_note h a cI cJ cZ v_things v_colour v_state v_layers_t42 v_thingCount v_original)) (w1 := fun (u : (Nat → Int32) × Int32) => (W_X2_note h a cI cJ cZ u.1 v_colour v_state v_layers_t42 u.2 v_original)) (X' := fun (u : (Nat → Int32) × Int32) => (W_X2_addLayer h a cI cJ cZ v_heats_t24 v_firings_t34 u.1 v_colour v_state v_layers_t42 u.2 v_original)) hP hD hS hA [0, 3] [1, 2] [2, 0, 1, 3] rfl rfl (by decide) (by decide) (fun u => rfl) (by decide) (va_runV (As := [.int 4]) (rest := []) ⟨hx, hb, hml, hown, hts⟩ (c_X2_note l D cI cJ cZ cO h a H.size v_things v_colour v_state v_layers_t42 v_thingCount v_original 4 _ hw) (cwV 1 hts gX2_addLayer_X2_note rfl rfl rfl (by decide +kernel) ⟨Nat.le_of_ble_eq_true rfl, Nat.le_of_ble_eq_true rfl⟩) (preV (X := (W_X2_addLayer h a cI cJ cZ v_heats_t24 v_firings_t34 v_things v_colour v_state v_layers_t42 v_thingCount v_original)) (pl := []) (cx := (W_X2_note h a cI cJ cZ v_things v_colour v_state v_layers_t42 v_thingCount v_original)) (qb := 0) (ci := 3) hK hE hP hD [0, 3] (by decide) rfl rfl rfl) rfl rfl hl.1 rfl (lv_room (Nat.le_of_ble_eq_true rfl)) dX2_addLayer_47 ⟨Nat.zero_le _, Nat.zero_le _⟩) (fun u H locs hw hP hD hS => ?_)
      obtain ⟨v_things_c47, v_thingCount_c47⟩ := u
      try dsimp only at hw
      have hP : va_P D vwCl (W_X2_addLayer h a cI cJ cZ v_heats_t24 v_firings_t34 v_things_c47 v_colour v_state v_layers_t42 v_thingCount_c47 v_original) H := hP
      have hD : va_D A (W_X2_addLayer h a cI cJ cZ v_heats_t24 v_firings_t34 v_things_c47 v_colour v_state v_layers_t42 v_thingCount_c47 v_original) := hD
      exact RT (v_heats_t24, v_firings_t34, v_things_c47, v_layers_t42, v_thingCount_c47) _ _ _ _ dX2_addLayer_50 hw hP hD hS
abbrev rm_X2_layersThatAre : Room := { frames := 0, cells := 0, slots := 0, locals := 0 }
abbrev W_X2_layersThatAre (h : Nat) (a : Nat → Nat) (cI cJ cZ : ClassId) (v_firings : Nat → Int32) (v_colour : Int32) (v_state : Int32) (v_layers : Int32) (v_thingCount : Int32) (v_original : Int32) : va_W := [(h, .inr (3, [.ref (a 0), .ref (a 1), .ref (a 2), .int v_colour, .int v_state, .int v_layers, .int v_thingCount, .int v_original])), ((a 1), .inl (cI, 5, .inl v_firings))]
def wp_X2_layersThatAre_4 (v_firings : Nat → Int32) (v_layers : Int32) (p1 : Int32) (post : Int32 → Prop) (K4 : Int32 → Int32 → Prop) (x2_j4 : Int32) (x3_j4 : Int32) : Prop := (v_layers ≤ x3_j4 → post x2_j4) ∧ (¬ v_layers ≤ x3_j4 → (5 ≤ x3_j4 → post x2_j4) ∧ (¬ 5 ≤ x3_j4 → vp_in x3_j4 5 ∧ (((v_firings x3_j4.toNatClampNeg) = p1 → K4 (x2_j4 + 1) (x3_j4 + 1)) ∧ (¬ (v_firings x3_j4.toNatClampNeg) = p1 → K4 x2_j4 (x3_j4 + 1)))))
def lF_X2_layersThatAre_4 (v_firings : Nat → Int32) (v_layers : Int32) (p1 : Int32) (post : Int32 → Prop) : ((Int32 × Int32) → Prop) → (Int32 × Int32) → Prop := fun K s => wp_X2_layersThatAre_4 v_firings v_layers p1 post (fun b0 b1 => K (b0, b1)) s.1 s.2
def wp_X2_layersThatAre (v_firings : Nat → Int32) (v_layers : Int32) (p1 : Int32) (post : Int32 → Prop) : Prop := lp (lF_X2_layersThatAre_4 v_firings v_layers p1 post) (0, 0)
set_option maxHeartbeats 4000000 in
set_option maxRecDepth 100000 in
theorem c_X2_layersThatAre (l : Launch) (D : va_G) (cI cJ cZ cO : ClassId) (h : Nat) (a : Nat → Nat) (sz : Nat) (v_firings : Nat → Int32) (v_colour : Int32) (v_state : Int32) (v_layers : Int32) (v_thingCount : Int32) (v_original : Int32) (p1 : Int32) (post : Int32 → Prop) (hw : wp_X2_layersThatAre v_firings v_layers p1 post) : Met l yX2_layersThatAre wsX2_layersThatAre rm_X2_layersThatAre (va_Pc [.ref h, .int p1] (PRE D cI cJ cZ cO (W_X2_layersThatAre h a cI cJ cZ v_firings v_colour v_state v_layers v_thingCount v_original) sz)) (va_Qi (fun r (_ : Unit) => post r) (fun u t => POST D (va_A (W_X2_layersThatAre h a cI cJ cZ v_firings v_colour v_state v_layers v_thingCount v_original) sz) (W_X2_layersThatAre h a cI cJ cZ v_firings v_colour v_state v_layers v_thingCount v_original) t) (va_A (W_X2_layersThatAre h a cI cJ cZ v_firings v_colour v_state v_layers v_thingCount v_original) sz)) 0 0 (va_A (W_X2_layersThatAre h a cI cJ cZ v_firings v_colour v_state v_layers v_thingCount v_original) sz) := by
  refine met_go (cc := cX2_layersThatAre) (maxL := 4) (ret := some .int) RX2 rfl (by decide) rfl (Nat.le_of_ble_eq_true rfl) ?_
  intro p e s m args below meth c ls hx hb hr hts hown hlocks hin hml hsz hP hK hE hD hA hS hl
  have iRX2 : ∀ w ∈ u_ws RX2 TX2 8, w ∈ wsX2_layersThatAre := mem_seg 3 8 rfl
  generalize va_A (W_X2_layersThatAre h a cI cJ cZ v_firings v_colour v_state v_layers v_thingCount v_original) sz = A at hD hA hS ⊢
  have RT : ∀ (v : Int32) (u : Unit) (H : Heap) (locs : List Loc) (pc : Nat) (ls : Array Slot), decode cX2_layersThatAre pc = .ok (.ireturn, 1) → post v → va_P D vwCl (W_X2_layersThatAre h a cI cJ cZ v_firings v_colour v_state v_layers v_thingCount v_original) H → va_D A (W_X2_layersThatAre h a cI cJ cZ v_firings v_colour v_state v_layers v_thingCount v_original) → va_S A s.heap H locs → W p l e rm_X2_layersThatAre s m args below meth c H locs 0 0 (MQ below (va_Qi (fun r (_ : Unit) => post r) (fun u t => POST D A (W_X2_layersThatAre h a cI cJ cZ v_firings v_colour v_state v_layers v_thingCount v_original) t) A) args s 0 0 A) (F0 m pc ls [.int v]) := fun v u H locs pc ls d g1 g2 g3 g4 => rt_i (Wf := fun u => (W_X2_layersThatAre h a cI cJ cZ v_firings v_colour v_state v_layers v_thingCount v_original)) u hx hb hr hlocks g1 g2 g3 g4 d
  generalize (MQ below (va_Qi (fun r (_ : Unit) => post r) (fun u t => POST D A (W_X2_layersThatAre h a cI cJ cZ v_firings v_colour v_state v_layers v_thingCount v_original) t) A) args s 0 0 A) = QQ at RT ⊢
  have hl : lv_has ls 4 [(0, .ref h), (1, .int p1)] := hl
  have hP : va_P D vwCl (W_X2_layersThatAre h a cI cJ cZ v_firings v_colour v_state v_layers v_thingCount v_original) s.heap := hP
  unfold wp_X2_layersThatAre at hw
  suffices GO : ∀ (H : Heap) (locs : List Loc), va_P D vwCl (W_X2_layersThatAre h a cI cJ cZ v_firings v_colour v_state v_layers v_thingCount v_original) H → va_S A s.heap H locs → W p l e rm_X2_layersThatAre s m args below meth c H locs 0 0 QQ (F0 m 0 ls []) from GO _ _ hP hS
  clear hsz hP hS
  intro H locs hP hS
  have L4 : ∀ s0 : (Int32 × Int32), lp (lF_X2_layersThatAre_4 v_firings v_layers p1 post) s0 → ∀ (H : Heap) (locs : List Loc) (ls : Array Slot), va_P D vwCl (W_X2_layersThatAre h a cI cJ cZ v_firings v_colour v_state v_layers v_thingCount v_original) H → va_D A (W_X2_layersThatAre h a cI cJ cZ v_firings v_colour v_state v_layers v_thingCount v_original) → va_S A s.heap H locs → lv_has ls 4 [(0, .ref h), (1, .int p1), (2, .int s0.1), (3, .int s0.2)] → W p l e rm_X2_layersThatAre s m args below meth c H locs 0 0 QQ (F0 m 4 ls []) := by
    refine lp_elim (fun K4 ih4 s0 hw => ?_)
    obtain ⟨x2_j4, x3_j4⟩ := s0
    intro H locs ls hP hD hS hl
    have hw : wp_X2_layersThatAre_4 v_firings v_layers p1 post (fun b0 b1 => K4 (b0, b1)) x2_j4 x3_j4 := hw
    have hP : va_P D vwCl (W_X2_layersThatAre h a cI cJ cZ v_firings v_colour v_state v_layers v_thingCount v_original) H := hP
    have hD : va_D A (W_X2_layersThatAre h a cI cJ cZ v_firings v_colour v_state v_layers v_thingCount v_original) := hD
    have hl : lv_has ls 4 [(0, .ref h), (1, .int p1), (2, .int x2_j4), (3, .int x3_j4)] := hl
    unfold wp_X2_layersThatAre_4 at hw
    refine lv_iload_n hx hb dX2_layersThatAre_4 rfl (lv_at hl 3 rfl) ?_
    refine lv_aload_n hx hb dX2_layersThatAre_5 rfl (lv_at hl 0 rfl) ?_
    refine va_get (D := D) (ci := 3) (v := .int v_layers) (C := RX2) (T := TX2) (N := 8) hx hb hts iRX2 hown hK hP 0 rfl rfl 5 (by decide) (hts (.fieldLink RX2 25 "Leadlight$Piece" "layers" "I") (List.mem_of_getElem? (i := 1) rfl)) (fun _ h9 => h9) rfl dX2_layersThatAre_6 ?_
    refine lv_icmp_ge (tgt := 36) hx hb dX2_layersThatAre_9 (by decide) (fun c9 => ?_) (fun c9 => ?_)
    · have hw := hw.1 c9
      refine lv_iload_n hx hb dX2_layersThatAre_36 rfl (lv_at hl 2 rfl) ?_
      exact RT x2_j4 () _ _ _ _ dX2_layersThatAre_37 hw hP hD hS
    · have hw := hw.2 c9
      refine lv_iload_n hx hb dX2_layersThatAre_12 rfl (lv_at hl 3 rfl) ?_
      refine lv_iconst (v := 5) hx hb dX2_layersThatAre_13 (by decide) ?_
      refine lv_icmp_ge (tgt := 36) hx hb dX2_layersThatAre_14 (by decide) (fun c14 => ?_) (fun c14 => ?_)
      · have hw := hw.1 c14
        refine lv_iload_n hx hb dX2_layersThatAre_36 rfl (lv_at hl 2 rfl) ?_
        exact RT x2_j4 () _ _ _ _ dX2_layersThatAre_37 hw hP hD hS
      · have hw := hw.2 c14
        refine lv_aload_n hx hb dX2_layersThatAre_17 rfl (lv_at hl 0 rfl) ?_
        refine va_get (D := D) (ci := 3) (v := .ref (a 1)) (C := RX2) (T := TX2) (N := 8) hx hb hts iRX2 hown hK hP 0 rfl rfl 1 (by decide) (hts (.fieldLink RX2 15 "Leadlight$Piece" "firings" "[I") (List.mem_of_getElem? (i := 2) rfl)) (fun _ h9 => h9) rfl dX2_layersThatAre_18 ?_
        refine lv_iload_n hx hb dX2_layersThatAre_21 rfl (lv_at hl 3 rfl) ?_
        obtain ⟨hi_22, hw⟩ := hw
        refine va_iald hx hb hK hP 1 0 rfl rfl hi_22 dX2_layersThatAre_22 ?_
        refine lv_iload_n hx hb dX2_layersThatAre_23 rfl (lv_at hl 1 rfl) ?_
        refine lv_icmp_ne (tgt := 30) hx hb dX2_layersThatAre_24 (by decide) (fun c24 => ?_) (fun c24 => ?_)
        · have hw := hw.2 c24
          refine lv_iinc (v := (x3_j4 + 1)) (lv' := [(3, .int (x3_j4 + 1)), (0, .ref h), (1, .int p1), (2, .int x2_j4)]) hx hb dX2_layersThatAre_30 hl (k := 3) rfl rfl (by decide) rfl (fun ls hl => ?_)
          refine lv_goto (tgt := 4) hx hb dX2_layersThatAre_33 (by decide) ?_
          exact ih4 (x2_j4, (x3_j4 + 1)) hw _ _ ls hP hD hS (lv_sub hl [1, 2, 3, 0] rfl)
        · have hw := hw.1 c24
          refine lv_iinc (v := (x2_j4 + 1)) (lv' := [(2, .int (x2_j4 + 1)), (0, .ref h), (1, .int p1), (3, .int x3_j4)]) hx hb dX2_layersThatAre_27 hl (k := 2) rfl rfl (by decide) rfl (fun ls hl => ?_)
          refine lv_iinc (v := (x3_j4 + 1)) (lv' := [(3, .int (x3_j4 + 1)), (2, .int (x2_j4 + 1)), (0, .ref h), (1, .int p1)]) hx hb dX2_layersThatAre_30 hl (k := 3) rfl rfl (by decide) rfl (fun ls hl => ?_)
          refine lv_goto (tgt := 4) hx hb dX2_layersThatAre_33 (by decide) ?_
          exact ih4 ((x2_j4 + 1), (x3_j4 + 1)) hw _ _ ls hP hD hS (lv_sub hl [2, 3, 1, 0] rfl)
  refine lv_iconst (v := 0) hx hb dX2_layersThatAre_0 (by decide) ?_
  refine lv_istore_n (lv' := [(2, .int 0), (0, .ref h), (1, .int p1)]) hx hb dX2_layersThatAre_1 rfl hl (by decide) rfl (fun ls hl => ?_)
  refine lv_iconst (v := 0) hx hb dX2_layersThatAre_2 (by decide) ?_
  refine lv_istore_n (lv' := [(3, .int 0), (2, .int 0), (0, .ref h), (1, .int p1)]) hx hb dX2_layersThatAre_3 rfl hl (by decide) rfl (fun ls hl => ?_)
  exact L4 (0, 0) hw _ _ ls hP hD hS (lv_sub hl [2, 3, 1, 0] rfl)
abbrev rm_X2_bearHeat : Room := { frames := 1, cells := 0, slots := 0, locals := 23 }
abbrev W_X2_bearHeat (h : Nat) (a : Nat → Nat) (cI cJ cZ : ClassId) (v_heats : Nat → Int32) (v_firings : Nat → Int32) (v_things : Nat → Int32) (v_colour : Int32) (v_state : Int32) (v_layers : Int32) (v_thingCount : Int32) (v_original : Int32) : va_W := [(h, .inr (3, [.ref (a 0), .ref (a 1), .ref (a 2), .int v_colour, .int v_state, .int v_layers, .int v_thingCount, .int v_original])), ((a 0), .inl (cI, 5, .inl v_heats)), ((a 1), .inl (cI, 5, .inl v_firings)), ((a 2), .inl (cI, 20, .inl v_things))]
def wp_X2_bearHeat_77 (v_heats : Nat → Int32) (v_firings : Nat → Int32) (v_things : Nat → Int32) (v_layers : Int32) (v_thingCount : Int32) (p1 : Int32) (post : Int32 → (Nat → Int32) → (Nat → Int32) → Int32 → Prop) (x2_j77 : Int32) (v_firings_j77 : Nat → Int32) : Prop := wp_X2_note v_things v_thingCount 5 (fun v_things_c79 v_thingCount_c79 => wp_X2_layersThatAre v_firings_j77 v_layers 2 (fun r_84 => post (r_84 - x2_j77) v_firings_j77 v_things_c79 v_thingCount_c79))
def wp_X2_bearHeat_8 (v_heats : Nat → Int32) (v_firings : Nat → Int32) (v_things : Nat → Int32) (v_layers : Int32) (v_thingCount : Int32) (p1 : Int32) (post : Int32 → (Nat → Int32) → (Nat → Int32) → Int32 → Prop) (K8 : Int32 → Int32 → (Nat → Int32) → Prop) (x2_j8 : Int32) (x3_j8 : Int32) (v_firings_j8 : Nat → Int32) : Prop := (v_layers ≤ x3_j8 → wp_X2_bearHeat_77 v_heats v_firings v_things v_layers v_thingCount p1 post x2_j8 v_firings_j8) ∧ (¬ v_layers ≤ x3_j8 → (5 ≤ x3_j8 → wp_X2_bearHeat_77 v_heats v_firings v_things v_layers v_thingCount p1 post x2_j8 v_firings_j8) ∧ (¬ 5 ≤ x3_j8 → vp_in x3_j8 5 ∧ (((p1 - 30) ≤ (v_heats x3_j8.toNatClampNeg) → vp_in x3_j8 5 ∧ ((p1 < (v_heats x3_j8.toNatClampNeg) → K8 x2_j8 (x3_j8 + 1) v_firings_j8) ∧ (¬ p1 < (v_heats x3_j8.toNatClampNeg) → vp_in x3_j8 5 ∧ (((v_firings_j8 x3_j8.toNatClampNeg) = 2 → K8 x2_j8 (x3_j8 + 1) v_firings_j8) ∧ (¬ (v_firings_j8 x3_j8.toNatClampNeg) = 2 → vp_in x3_j8 5 ∧ (∀ v_firings_t70 : Nat → Int32, v_firings_t70 = upd v_firings_j8 x3_j8.toNatClampNeg 1 → K8 x2_j8 (x3_j8 + 1) v_firings_t70)))))) ∧ (¬ (p1 - 30) ≤ (v_heats x3_j8.toNatClampNeg) → vp_in x3_j8 5 ∧ (∀ v_firings_t40 : Nat → Int32, v_firings_t40 = upd v_firings_j8 x3_j8.toNatClampNeg 2 → K8 x2_j8 (x3_j8 + 1) v_firings_t40)))))
def lF_X2_bearHeat_8 (v_heats : Nat → Int32) (v_firings : Nat → Int32) (v_things : Nat → Int32) (v_layers : Int32) (v_thingCount : Int32) (p1 : Int32) (post : Int32 → (Nat → Int32) → (Nat → Int32) → Int32 → Prop) : ((Int32 × Int32 × (Nat → Int32)) → Prop) → (Int32 × Int32 × (Nat → Int32)) → Prop := fun K s => wp_X2_bearHeat_8 v_heats v_firings v_things v_layers v_thingCount p1 post (fun b0 b1 b2 => K (b0, b1, b2)) s.1 s.2.1 s.2.2
def wp_X2_bearHeat (v_heats : Nat → Int32) (v_firings : Nat → Int32) (v_things : Nat → Int32) (v_layers : Int32) (v_thingCount : Int32) (p1 : Int32) (post : Int32 → (Nat → Int32) → (Nat → Int32) → Int32 → Prop) : Prop := wp_X2_layersThatAre v_firings v_layers 2 (fun r_2 => lp (lF_X2_bearHeat_8 v_heats v_firings v_things v_layers v_thingCount p1 post) (r_2, 0, v_firings))
set_option maxHeartbeats 4000000 in
set_option maxRecDepth 100000 in
theorem c_X2_bearHeat (l : Launch) (D : va_G) (cI cJ cZ cO : ClassId) (h : Nat) (a : Nat → Nat) (sz : Nat) (v_heats : Nat → Int32) (v_firings : Nat → Int32) (v_things : Nat → Int32) (v_colour : Int32) (v_state : Int32) (v_layers : Int32) (v_thingCount : Int32) (v_original : Int32) (p1 : Int32) (post : Int32 → (Nat → Int32) → (Nat → Int32) → Int32 → Prop) (hw : wp_X2_bearHeat v_heats v_firings v_things v_layers v_thingCount p1 post) : Met l yX2_bearHeat wsX2_bearHeat rm_X2_bearHeat (va_Pc [.ref h, .int p1] (PRE D cI cJ cZ cO (W_X2_bearHeat h a cI cJ cZ v_heats v_firings v_things v_colour v_state v_layers v_thingCount v_original) sz)) (va_Qi (fun r (u : (Nat → Int32) × (Nat → Int32) × Int32) => post r u.1 u.2.1 u.2.2) (fun u t => POST D (va_A (W_X2_bearHeat h a cI cJ cZ v_heats v_firings v_things v_colour v_state v_layers v_thingCount v_original) sz) (W_X2_bearHeat h a cI cJ cZ v_heats u.1 u.2.1 v_colour v_state v_layers u.2.2 v_original) t) (va_A (W_X2_bearHeat h a cI cJ cZ v_heats v_firings v_things v_colour v_state v_layers v_thingCount v_original) sz)) 0 0 (va_A (W_X2_bearHeat h a cI cJ cZ v_heats v_firings v_things v_colour v_state v_layers v_thingCount v_original) sz) := by
  refine met_go (cc := cX2_bearHeat) (maxL := 4) (ret := some .int) RX2 rfl (by decide) rfl (Nat.le_of_ble_eq_true rfl) ?_
  intro p e s m args below meth c ls hx hb hr hts hown hlocks hin hml hsz hP hK hE hD hA hS hl
  have iRX2 : ∀ w ∈ u_ws RX2 TX2 8, w ∈ wsX2_bearHeat := mem_seg 15 8 rfl
  generalize va_A (W_X2_bearHeat h a cI cJ cZ v_heats v_firings v_things v_colour v_state v_layers v_thingCount v_original) sz = A at hD hA hS ⊢
  have RT : ∀ (v : Int32) (u : (Nat → Int32) × (Nat → Int32) × Int32) (H : Heap) (locs : List Loc) (pc : Nat) (ls : Array Slot), decode cX2_bearHeat pc = .ok (.ireturn, 1) → post v u.1 u.2.1 u.2.2 → va_P D vwCl (W_X2_bearHeat h a cI cJ cZ v_heats u.1 u.2.1 v_colour v_state v_layers u.2.2 v_original) H → va_D A (W_X2_bearHeat h a cI cJ cZ v_heats u.1 u.2.1 v_colour v_state v_layers u.2.2 v_original) → va_S A s.heap H locs → W p l e rm_X2_bearHeat s m args below meth c H locs 0 0 (MQ below (va_Qi (fun r (u : (Nat → Int32) × (Nat → Int32) × Int32) => post r u.1 u.2.1 u.2.2) (fun u t => POST D A (W_X2_bearHeat h a cI cJ cZ v_heats u.1 u.2.1 v_colour v_state v_layers u.2.2 v_original) t) A) args s 0 0 A) (F0 m pc ls [.int v]) := fun v u H locs pc ls d g1 g2 g3 g4 => rt_i (Wf := fun u => (W_X2_bearHeat h a cI cJ cZ v_heats u.1 u.2.1 v_colour v_state v_layers u.2.2 v_original)) u hx hb hr hlocks g1 g2 g3 g4 d
  generalize (MQ below (va_Qi (fun r (u : (Nat → Int32) × (Nat → Int32) × Int32) => post r u.1 u.2.1 u.2.2) (fun u t => POST D A (W_X2_bearHeat h a cI cJ cZ v_heats u.1 u.2.1 v_colour v_state v_layers u.2.2 v_original) t) A) args s 0 0 A) = QQ at RT ⊢
  have hl : lv_has ls 4 [(0, .ref h), (1, .int p1)] := hl
  have hP : va_P D vwCl (W_X2_bearHeat h a cI cJ cZ v_heats v_firings v_things v_colour v_state v_layers v_thingCount v_original) s.heap := hP
  unfold wp_X2_bearHeat at hw
  suffices GO : ∀ (H : Heap) (locs : List Loc), va_P D vwCl (W_X2_bearHeat h a cI cJ cZ v_heats v_firings v_things v_colour v_state v_layers v_thingCount v_original) H → va_S A s.heap H locs → W p l e rm_X2_bearHeat s m args below meth c H locs 0 0 QQ (F0 m 0 ls []) from GO _ _ hP hS
  clear hsz hP hS
  intro H locs hP hS
  have J77 : ∀ (x2_j77 : Int32) (v_firings_j77 : Nat → Int32) , wp_X2_bearHeat_77 v_heats v_firings v_things v_layers v_thingCount p1 post x2_j77 v_firings_j77 → ∀ (H : Heap) (locs : List Loc) (ls : Array Slot), va_P D vwCl (W_X2_bearHeat h a cI cJ cZ v_heats v_firings_j77 v_things v_colour v_state v_layers v_thingCount v_original) H → va_D A (W_X2_bearHeat h a cI cJ cZ v_heats v_firings_j77 v_things v_colour v_state v_layers v_thingCount v_original) → va_S A s.heap H locs → lv_has ls 4 [(0, .ref h), (2, .int x2_j77)] → W p l e rm_X2_bearHeat s m args below meth c H locs 0 0 QQ (F0 m 77 ls []) := by
    intro x2_j77 v_firings_j77 hw H locs ls hP hD hS hl
    unfold wp_X2_bearHeat_77 at hw
    refine lv_aload_n hx hb dX2_bearHeat_77 rfl (lv_at hl 0 rfl) ?_
    refine lv_iconst (v := 5) hx hb dX2_bearHeat_78 (by decide) ?_
    refine af_v (X := (W_X2_bearHeat h a cI cJ cZ v_heats v_firings_j77 v_things v_colour v_state v_layers v_thingCount v_original)) (pl := []) (cx := (W_X2_note h a cI cJ cZ v_things v_colour v_state v_layers v_thingCount v_original)) (w1 := fun (u : (Nat → Int32) × Int32) => (W_X2_note h a cI cJ cZ u.1 v_colour v_state v_layers u.2 v_original)) (X' := fun (u : (Nat → Int32) × Int32) => (W_X2_bearHeat h a cI cJ cZ v_heats v_firings_j77 u.1 v_colour v_state v_layers u.2 v_original)) hP hD hS hA [0, 3] [1, 2] [2, 0, 1, 3] rfl rfl (by decide) (by decide) (fun u => rfl) (by decide) (va_runV (As := [.int 5]) (rest := []) ⟨hx, hb, hml, hown, hts⟩ (c_X2_note l D cI cJ cZ cO h a H.size v_things v_colour v_state v_layers v_thingCount v_original 5 _ hw) (cwV 1 hts gX2_bearHeat_X2_note rfl rfl rfl (by decide +kernel) ⟨Nat.le_of_ble_eq_true rfl, Nat.le_of_ble_eq_true rfl⟩) (preV (X := (W_X2_bearHeat h a cI cJ cZ v_heats v_firings_j77 v_things v_colour v_state v_layers v_thingCount v_original)) (pl := []) (cx := (W_X2_note h a cI cJ cZ v_things v_colour v_state v_layers v_thingCount v_original)) (qb := 0) (ci := 3) hK hE hP hD [0, 3] (by decide) rfl rfl rfl) rfl rfl hl.1 rfl (lv_room (Nat.le_of_ble_eq_true rfl)) dX2_bearHeat_79 ⟨Nat.zero_le _, Nat.zero_le _⟩) (fun u H locs hw hP hD hS => ?_)
    obtain ⟨v_things_c79, v_thingCount_c79⟩ := u
    try dsimp only at hw
    have hP : va_P D vwCl (W_X2_bearHeat h a cI cJ cZ v_heats v_firings_j77 v_things_c79 v_colour v_state v_layers v_thingCount_c79 v_original) H := hP
    have hD : va_D A (W_X2_bearHeat h a cI cJ cZ v_heats v_firings_j77 v_things_c79 v_colour v_state v_layers v_thingCount_c79 v_original) := hD
    refine lv_aload_n hx hb dX2_bearHeat_82 rfl (lv_at hl 0 rfl) ?_
    refine lv_iconst (v := 2) hx hb dX2_bearHeat_83 (by decide) ?_
    refine af_i (X := (W_X2_bearHeat h a cI cJ cZ v_heats v_firings_j77 v_things_c79 v_colour v_state v_layers v_thingCount_c79 v_original)) (pl := []) (cx := (W_X2_layersThatAre h a cI cJ cZ v_firings_j77 v_colour v_state v_layers v_thingCount_c79 v_original)) (w1 := fun (u : Unit) => (W_X2_layersThatAre h a cI cJ cZ v_firings_j77 v_colour v_state v_layers v_thingCount_c79 v_original)) (X' := fun (u : Unit) => (W_X2_bearHeat h a cI cJ cZ v_heats v_firings_j77 v_things_c79 v_colour v_state v_layers v_thingCount_c79 v_original)) hP hD hS hA [0, 2] [1, 3] [2, 0, 3, 1] rfl rfl (by decide) (by decide) (fun u => rfl) (by decide) (va_runV (As := [.int 2]) (rest := []) ⟨hx, hb, hml, hown, hts⟩ (c_X2_layersThatAre l D cI cJ cZ cO h a H.size v_firings_j77 v_colour v_state v_layers v_thingCount_c79 v_original 2 _ hw) (cwV 1 hts gX2_bearHeat_X2_layersThatAre rfl rfl rfl (by decide +kernel) ⟨Nat.le_of_ble_eq_true rfl, Nat.le_of_ble_eq_true rfl⟩) (preV (X := (W_X2_bearHeat h a cI cJ cZ v_heats v_firings_j77 v_things_c79 v_colour v_state v_layers v_thingCount_c79 v_original)) (pl := []) (cx := (W_X2_layersThatAre h a cI cJ cZ v_firings_j77 v_colour v_state v_layers v_thingCount_c79 v_original)) (qb := 0) (ci := 3) hK hE hP hD [0, 2] (by decide) rfl rfl rfl) rfl rfl hl.1 rfl (lv_room (Nat.le_of_ble_eq_true rfl)) dX2_bearHeat_84 ⟨Nat.zero_le _, Nat.zero_le _⟩) (fun r_84 _ H locs hw hP hD hS => ?_)
    try dsimp only at hw
    have hP : va_P D vwCl (W_X2_bearHeat h a cI cJ cZ v_heats v_firings_j77 v_things_c79 v_colour v_state v_layers v_thingCount_c79 v_original) H := hP
    have hD : va_D A (W_X2_bearHeat h a cI cJ cZ v_heats v_firings_j77 v_things_c79 v_colour v_state v_layers v_thingCount_c79 v_original) := hD
    refine lv_iload_n hx hb dX2_bearHeat_87 rfl (lv_at hl 1 rfl) ?_
    refine lv_isub hx hb dX2_bearHeat_88 ?_
    exact RT (r_84 - x2_j77) (v_firings_j77, v_things_c79, v_thingCount_c79) _ _ _ _ dX2_bearHeat_89 hw hP hD hS
  have L8 : ∀ s0 : (Int32 × Int32 × (Nat → Int32)), lp (lF_X2_bearHeat_8 v_heats v_firings v_things v_layers v_thingCount p1 post) s0 → ∀ (H : Heap) (locs : List Loc) (ls : Array Slot), va_P D vwCl (W_X2_bearHeat h a cI cJ cZ v_heats s0.2.2 v_things v_colour v_state v_layers v_thingCount v_original) H → va_D A (W_X2_bearHeat h a cI cJ cZ v_heats s0.2.2 v_things v_colour v_state v_layers v_thingCount v_original) → va_S A s.heap H locs → lv_has ls 4 [(0, .ref h), (1, .int p1), (2, .int s0.1), (3, .int s0.2.1)] → W p l e rm_X2_bearHeat s m args below meth c H locs 0 0 QQ (F0 m 8 ls []) := by
    refine lp_elim (fun K8 ih8 s0 hw => ?_)
    obtain ⟨x2_j8, x3_j8, v_firings_j8⟩ := s0
    intro H locs ls hP hD hS hl
    have hw : wp_X2_bearHeat_8 v_heats v_firings v_things v_layers v_thingCount p1 post (fun b0 b1 b2 => K8 (b0, b1, b2)) x2_j8 x3_j8 v_firings_j8 := hw
    have hP : va_P D vwCl (W_X2_bearHeat h a cI cJ cZ v_heats v_firings_j8 v_things v_colour v_state v_layers v_thingCount v_original) H := hP
    have hD : va_D A (W_X2_bearHeat h a cI cJ cZ v_heats v_firings_j8 v_things v_colour v_state v_layers v_thingCount v_original) := hD
    have hl : lv_has ls 4 [(0, .ref h), (1, .int p1), (2, .int x2_j8), (3, .int x3_j8)] := hl
    unfold wp_X2_bearHeat_8 at hw
    refine lv_iload_n hx hb dX2_bearHeat_8 rfl (lv_at hl 3 rfl) ?_
    refine lv_aload_n hx hb dX2_bearHeat_9 rfl (lv_at hl 0 rfl) ?_
    refine va_get (D := D) (ci := 3) (v := .int v_layers) (C := RX2) (T := TX2) (N := 8) hx hb hts iRX2 hown hK hP 0 rfl rfl 5 (by decide) (hts (.fieldLink RX2 25 "Leadlight$Piece" "layers" "I") (List.mem_of_getElem? (i := 1) rfl)) (fun _ h9 => h9) rfl dX2_bearHeat_10 ?_
    refine lv_icmp_ge (tgt := 77) hx hb dX2_bearHeat_13 (by decide) (fun c13 => ?_) (fun c13 => ?_)
    · have hw := hw.1 c13
      exact J77 x2_j8 v_firings_j8 hw _ _ ls hP hD hS (lv_sub hl [0, 2] rfl)
    · have hw := hw.2 c13
      refine lv_iload_n hx hb dX2_bearHeat_16 rfl (lv_at hl 3 rfl) ?_
      refine lv_iconst (v := 5) hx hb dX2_bearHeat_17 (by decide) ?_
      refine lv_icmp_ge (tgt := 77) hx hb dX2_bearHeat_18 (by decide) (fun c18 => ?_) (fun c18 => ?_)
      · have hw := hw.1 c18
        exact J77 x2_j8 v_firings_j8 hw _ _ ls hP hD hS (lv_sub hl [0, 2] rfl)
      · have hw := hw.2 c18
        refine lv_aload_n hx hb dX2_bearHeat_21 rfl (lv_at hl 0 rfl) ?_
        refine va_get (D := D) (ci := 3) (v := .ref (a 0)) (C := RX2) (T := TX2) (N := 8) hx hb hts iRX2 hown hK hP 0 rfl rfl 0 (by decide) (hts (.fieldLink RX2 9 "Leadlight$Piece" "heats" "[I") (List.mem_of_getElem? (i := 2) rfl)) (fun _ h9 => h9) rfl dX2_bearHeat_22 ?_
        refine lv_iload_n hx hb dX2_bearHeat_25 rfl (lv_at hl 3 rfl) ?_
        obtain ⟨hi_26, hw⟩ := hw
        refine va_iald hx hb hK hP 1 0 rfl rfl hi_26 dX2_bearHeat_26 ?_
        refine lv_iload_n hx hb dX2_bearHeat_27 rfl (lv_at hl 1 rfl) ?_
        refine lv_bipush (v := 30) hx hb dX2_bearHeat_28 (by decide) ?_
        refine lv_isub hx hb dX2_bearHeat_30 ?_
        refine lv_icmp_ge (tgt := 44) hx hb dX2_bearHeat_31 (by decide) (fun c31 => ?_) (fun c31 => ?_)
        · have hw := hw.1 c31
          refine lv_aload_n hx hb dX2_bearHeat_44 rfl (lv_at hl 0 rfl) ?_
          refine va_get (D := D) (ci := 3) (v := .ref (a 0)) (C := RX2) (T := TX2) (N := 8) hx hb hts iRX2 hown hK hP 0 rfl rfl 0 (by decide) (hts (.fieldLink RX2 9 "Leadlight$Piece" "heats" "[I") (List.mem_of_getElem? (i := 2) rfl)) (fun _ h9 => h9) rfl dX2_bearHeat_45 ?_
          refine lv_iload_n hx hb dX2_bearHeat_48 rfl (lv_at hl 3 rfl) ?_
          obtain ⟨hi_49, hw⟩ := hw
          refine va_iald hx hb hK hP 1 0 rfl rfl hi_49 dX2_bearHeat_49 ?_
          refine lv_iload_n hx hb dX2_bearHeat_50 rfl (lv_at hl 1 rfl) ?_
          refine lv_icmp_gt (tgt := 71) hx hb dX2_bearHeat_51 (by decide) (fun c51 => ?_) (fun c51 => ?_)
          · have hw := hw.1 c51
            refine lv_iinc (v := (x3_j8 + 1)) (lv' := [(3, .int (x3_j8 + 1)), (0, .ref h), (1, .int p1), (2, .int x2_j8)]) hx hb dX2_bearHeat_71 hl (k := 3) rfl rfl (by decide) rfl (fun ls hl => ?_)
            refine lv_goto (tgt := 8) hx hb dX2_bearHeat_74 (by decide) ?_
            exact ih8 (x2_j8, (x3_j8 + 1), v_firings_j8) hw _ _ ls hP hD hS (lv_sub hl [1, 2, 3, 0] rfl)
          · have hw := hw.2 c51
            refine lv_aload_n hx hb dX2_bearHeat_54 rfl (lv_at hl 0 rfl) ?_
            refine va_get (D := D) (ci := 3) (v := .ref (a 1)) (C := RX2) (T := TX2) (N := 8) hx hb hts iRX2 hown hK hP 0 rfl rfl 1 (by decide) (hts (.fieldLink RX2 15 "Leadlight$Piece" "firings" "[I") (List.mem_of_getElem? (i := 3) rfl)) (fun _ h9 => h9) rfl dX2_bearHeat_55 ?_
            refine lv_iload_n hx hb dX2_bearHeat_58 rfl (lv_at hl 3 rfl) ?_
            obtain ⟨hi_59, hw⟩ := hw
            refine va_iald hx hb hK hP 2 0 rfl rfl hi_59 dX2_bearHeat_59 ?_
            refine lv_iconst (v := 2) hx hb dX2_bearHeat_60 (by decide) ?_
            refine lv_icmp_eq (tgt := 71) hx hb dX2_bearHeat_61 (by decide) (fun c61 => ?_) (fun c61 => ?_)
            · have hw := hw.1 c61
              refine lv_iinc (v := (x3_j8 + 1)) (lv' := [(3, .int (x3_j8 + 1)), (0, .ref h), (1, .int p1), (2, .int x2_j8)]) hx hb dX2_bearHeat_71 hl (k := 3) rfl rfl (by decide) rfl (fun ls hl => ?_)
              refine lv_goto (tgt := 8) hx hb dX2_bearHeat_74 (by decide) ?_
              exact ih8 (x2_j8, (x3_j8 + 1), v_firings_j8) hw _ _ ls hP hD hS (lv_sub hl [1, 2, 3, 0] rfl)
            · have hw := hw.2 c61
              refine lv_aload_n hx hb dX2_bearHeat_64 rfl (lv_at hl 0 rfl) ?_
              refine va_get (D := D) (ci := 3) (v := .ref (a 1)) (C := RX2) (T := TX2) (N := 8) hx hb hts iRX2 hown hK hP 0 rfl rfl 1 (by decide) (hts (.fieldLink RX2 15 "Leadlight$Piece" "firings" "[I") (List.mem_of_getElem? (i := 3) rfl)) (fun _ h9 => h9) rfl dX2_bearHeat_65 ?_
              refine lv_iload_n hx hb dX2_bearHeat_68 rfl (lv_at hl 3 rfl) ?_
              refine lv_iconst (v := 1) hx hb dX2_bearHeat_69 (by decide) ?_
              obtain ⟨hi_70, hw⟩ := hw
              refine st_i hx hb hK hP hD hS 2 0 rfl rfl hi_70 dX2_bearHeat_70 (fun v_firings_t70 ev_firings_t70 H locs hP hD hS => ?_)
              have hw := hw v_firings_t70 ev_firings_t70
              have hP : va_P D vwCl (W_X2_bearHeat h a cI cJ cZ v_heats v_firings_t70 v_things v_colour v_state v_layers v_thingCount v_original) H := hP
              have hD : va_D A (W_X2_bearHeat h a cI cJ cZ v_heats v_firings_t70 v_things v_colour v_state v_layers v_thingCount v_original) := hD
              refine lv_iinc (v := (x3_j8 + 1)) (lv' := [(3, .int (x3_j8 + 1)), (0, .ref h), (1, .int p1), (2, .int x2_j8)]) hx hb dX2_bearHeat_71 hl (k := 3) rfl rfl (by decide) rfl (fun ls hl => ?_)
              refine lv_goto (tgt := 8) hx hb dX2_bearHeat_74 (by decide) ?_
              exact ih8 (x2_j8, (x3_j8 + 1), v_firings_t70) hw _ _ ls hP hD hS (lv_sub hl [1, 2, 3, 0] rfl)
        · have hw := hw.2 c31
          refine lv_aload_n hx hb dX2_bearHeat_34 rfl (lv_at hl 0 rfl) ?_
          refine va_get (D := D) (ci := 3) (v := .ref (a 1)) (C := RX2) (T := TX2) (N := 8) hx hb hts iRX2 hown hK hP 0 rfl rfl 1 (by decide) (hts (.fieldLink RX2 15 "Leadlight$Piece" "firings" "[I") (List.mem_of_getElem? (i := 3) rfl)) (fun _ h9 => h9) rfl dX2_bearHeat_35 ?_
          refine lv_iload_n hx hb dX2_bearHeat_38 rfl (lv_at hl 3 rfl) ?_
          refine lv_iconst (v := 2) hx hb dX2_bearHeat_39 (by decide) ?_
          obtain ⟨hi_40, hw⟩ := hw
          refine st_i hx hb hK hP hD hS 2 0 rfl rfl hi_40 dX2_bearHeat_40 (fun v_firings_t40 ev_firings_t40 H locs hP hD hS => ?_)
          have hw := hw v_firings_t40 ev_firings_t40
          have hP : va_P D vwCl (W_X2_bearHeat h a cI cJ cZ v_heats v_firings_t40 v_things v_colour v_state v_layers v_thingCount v_original) H := hP
          have hD : va_D A (W_X2_bearHeat h a cI cJ cZ v_heats v_firings_t40 v_things v_colour v_state v_layers v_thingCount v_original) := hD
          refine lv_goto (tgt := 71) hx hb dX2_bearHeat_41 (by decide) ?_
          refine lv_iinc (v := (x3_j8 + 1)) (lv' := [(3, .int (x3_j8 + 1)), (0, .ref h), (1, .int p1), (2, .int x2_j8)]) hx hb dX2_bearHeat_71 hl (k := 3) rfl rfl (by decide) rfl (fun ls hl => ?_)
          refine lv_goto (tgt := 8) hx hb dX2_bearHeat_74 (by decide) ?_
          exact ih8 (x2_j8, (x3_j8 + 1), v_firings_t40) hw _ _ ls hP hD hS (lv_sub hl [1, 2, 3, 0] rfl)
  refine lv_aload_n hx hb dX2_bearHeat_0 rfl (lv_at hl 0 rfl) ?_
  refine lv_iconst (v := 2) hx hb dX2_bearHeat_1 (by decide) ?_
  refine af_i (X := (W_X2_bearHeat h a cI cJ cZ v_heats v_firings v_things v_colour v_state v_layers v_thingCount v_original)) (pl := []) (cx := (W_X2_layersThatAre h a cI cJ cZ v_firings v_colour v_state v_layers v_thingCount v_original)) (w1 := fun (u : Unit) => (W_X2_layersThatAre h a cI cJ cZ v_firings v_colour v_state v_layers v_thingCount v_original)) (X' := fun (u : Unit) => (W_X2_bearHeat h a cI cJ cZ v_heats v_firings v_things v_colour v_state v_layers v_thingCount v_original)) hP hD hS hA [0, 2] [1, 3] [2, 0, 3, 1] rfl rfl (by decide) (by decide) (fun u => rfl) (by decide) (va_runV (As := [.int 2]) (rest := []) ⟨hx, hb, hml, hown, hts⟩ (c_X2_layersThatAre l D cI cJ cZ cO h a H.size v_firings v_colour v_state v_layers v_thingCount v_original 2 _ hw) (cwV 1 hts gX2_bearHeat_X2_layersThatAre rfl rfl rfl (by decide +kernel) ⟨Nat.le_of_ble_eq_true rfl, Nat.le_of_ble_eq_true rfl⟩) (preV (X := (W_X2_bearHeat h a cI cJ cZ v_heats v_firings v_things v_colour v_state v_layers v_thingCount v_original)) (pl := []) (cx := (W_X2_layersThatAre h a cI cJ cZ v_firings v_colour v_state v_layers v_thingCount v_original)) (qb := 0) (ci := 3) hK hE hP hD [0, 2] (by decide) rfl rfl rfl) rfl rfl hl.1 rfl (lv_room (Nat.le_of_ble_eq_true rfl)) dX2_bearHeat_2 ⟨Nat.zero_le _, Nat.zero_le _⟩) (fun r_2 _ H locs hw hP hD hS => ?_)
  try dsimp only at hw
  have hP : va_P D vwCl (W_X2_bearHeat h a cI cJ cZ v_heats v_firings v_things v_colour v_state v_layers v_thingCount v_original) H := hP
  have hD : va_D A (W_X2_bearHeat h a cI cJ cZ v_heats v_firings v_things v_colour v_state v_layers v_thingCount v_original) := hD
  refine lv_istore_n (lv' := [(2, .int r_2), (0, .ref h), (1, .int p1)]) hx hb dX2_bearHeat_5 rfl hl (by decide) rfl (fun ls hl => ?_)
  refine lv_iconst (v := 0) hx hb dX2_bearHeat_6 (by decide) ?_
  refine lv_istore_n (lv' := [(3, .int 0), (2, .int r_2), (0, .ref h), (1, .int p1)]) hx hb dX2_bearHeat_7 rfl hl (by decide) rfl (fun ls hl => ?_)
  exact L8 (r_2, 0, v_firings) hw _ _ ls hP hD hS (lv_sub hl [2, 3, 1, 0] rfl)
abbrev rm_X2_makeAnew : Room := { frames := 0, cells := 0, slots := 0, locals := 0 }
abbrev W_X2_makeAnew (h : Nat) (a : Nat → Nat) (cI cJ cZ : ClassId) (v_colour : Int32) (v_state : Int32) (v_layers : Int32) (v_thingCount : Int32) (v_original : Int32) : va_W := [(h, .inr (3, [.ref (a 0), .ref (a 1), .ref (a 2), .int v_colour, .int v_state, .int v_layers, .int v_thingCount, .int v_original]))]
def wp_X2_makeAnew (v_colour : Int32) (v_state : Int32) (v_layers : Int32) (v_original : Int32) (p1 : Int32) (post : Int32 → Int32 → Int32 → Int32 → Prop) : Prop := ∀ v_colour_t2 : Int32, v_colour_t2 = p1 → ∀ v_state_t7 : Int32, v_state_t7 = 0 → ∀ v_original_t12 : Int32, v_original_t12 = 0 → ∀ v_layers_t17 : Int32, v_layers_t17 = 0 → post v_colour_t2 v_state_t7 v_layers_t17 v_original_t12
set_option maxHeartbeats 4000000 in
set_option maxRecDepth 100000 in
theorem c_X2_makeAnew (l : Launch) (D : va_G) (cI cJ cZ cO : ClassId) (h : Nat) (a : Nat → Nat) (sz : Nat) (v_colour : Int32) (v_state : Int32) (v_layers : Int32) (v_thingCount : Int32) (v_original : Int32) (p1 : Int32) (post : Int32 → Int32 → Int32 → Int32 → Prop) (hw : wp_X2_makeAnew v_colour v_state v_layers v_original p1 post) : Met l yX2_makeAnew wsX2_makeAnew rm_X2_makeAnew (va_Pc [.ref h, .int p1] (PRE D cI cJ cZ cO (W_X2_makeAnew h a cI cJ cZ v_colour v_state v_layers v_thingCount v_original) sz)) (va_Qv (fun (u : Int32 × Int32 × Int32 × Int32) => post u.1 u.2.1 u.2.2.1 u.2.2.2) (fun u t => POST D (va_A (W_X2_makeAnew h a cI cJ cZ v_colour v_state v_layers v_thingCount v_original) sz) (W_X2_makeAnew h a cI cJ cZ u.1 u.2.1 u.2.2.1 v_thingCount u.2.2.2) t) (va_A (W_X2_makeAnew h a cI cJ cZ v_colour v_state v_layers v_thingCount v_original) sz)) 0 0 (va_A (W_X2_makeAnew h a cI cJ cZ v_colour v_state v_layers v_thingCount v_original) sz) := by
  refine met_go (cc := cX2_makeAnew) (maxL := 2) (ret := none) RX2 rfl (by decide) rfl (Nat.le_of_ble_eq_true rfl) ?_
  intro p e s m args below meth c ls hx hb hr hts hown hlocks hin hml hsz hP hK hE hD hA hS hl
  have iRX2 : ∀ w ∈ u_ws RX2 TX2 8, w ∈ wsX2_makeAnew := mem_seg 5 8 rfl
  generalize va_A (W_X2_makeAnew h a cI cJ cZ v_colour v_state v_layers v_thingCount v_original) sz = A at hD hA hS ⊢
  have RT : ∀ (u : Int32 × Int32 × Int32 × Int32) (H : Heap) (locs : List Loc) (pc : Nat) (ls : Array Slot), decode cX2_makeAnew pc = .ok (.return_, 1) → post u.1 u.2.1 u.2.2.1 u.2.2.2 → va_P D vwCl (W_X2_makeAnew h a cI cJ cZ u.1 u.2.1 u.2.2.1 v_thingCount u.2.2.2) H → va_D A (W_X2_makeAnew h a cI cJ cZ u.1 u.2.1 u.2.2.1 v_thingCount u.2.2.2) → va_S A s.heap H locs → W p l e rm_X2_makeAnew s m args below meth c H locs 0 0 (MQ below (va_Qv (fun (u : Int32 × Int32 × Int32 × Int32) => post u.1 u.2.1 u.2.2.1 u.2.2.2) (fun u t => POST D A (W_X2_makeAnew h a cI cJ cZ u.1 u.2.1 u.2.2.1 v_thingCount u.2.2.2) t) A) args s 0 0 A) (F0 m pc ls []) := fun u H locs pc ls d g1 g2 g3 g4 => rt_v (Wf := fun u => (W_X2_makeAnew h a cI cJ cZ u.1 u.2.1 u.2.2.1 v_thingCount u.2.2.2)) u hx hb hr hlocks g1 g2 g3 g4 d
  generalize (MQ below (va_Qv (fun (u : Int32 × Int32 × Int32 × Int32) => post u.1 u.2.1 u.2.2.1 u.2.2.2) (fun u t => POST D A (W_X2_makeAnew h a cI cJ cZ u.1 u.2.1 u.2.2.1 v_thingCount u.2.2.2) t) A) args s 0 0 A) = QQ at RT ⊢
  have hl : lv_has ls 2 [(0, .ref h), (1, .int p1)] := hl
  have hP : va_P D vwCl (W_X2_makeAnew h a cI cJ cZ v_colour v_state v_layers v_thingCount v_original) s.heap := hP
  unfold wp_X2_makeAnew at hw
  suffices GO : ∀ (H : Heap) (locs : List Loc), va_P D vwCl (W_X2_makeAnew h a cI cJ cZ v_colour v_state v_layers v_thingCount v_original) H → va_S A s.heap H locs → W p l e rm_X2_makeAnew s m args below meth c H locs 0 0 QQ (F0 m 0 ls []) from GO _ _ hP hS
  clear hsz hP hS
  intro H locs hP hS
  refine lv_aload_n hx hb dX2_makeAnew_0 rfl (lv_at hl 0 rfl) ?_
  refine lv_iload_n hx hb dX2_makeAnew_1 rfl (lv_at hl 1 rfl) ?_
  refine lv_topi (fun v_colour_t2 ev_colour_t2 => ?_)
  have hw := hw v_colour_t2 ev_colour_t2
  refine va_put (D := D) (ci := 3) (v := .int v_colour_t2) (ty := .int) (C := RX2) (T := TX2) (N := 8) hx hb hts iRX2 tyX2 tyX2_ok nmX2 hown hK hP hD hS 0 rfl rfl 3 (by decide) (hts (.fieldLink RX2 35 "Leadlight$Piece" "colour" "I") (List.mem_of_getElem? (i := 1) rfl)) (fun _ h9 => h9) rfl (by decide +kernel) rfl rfl (Nat.le_of_ble_eq_true rfl) dX2_makeAnew_2 (fun H locs hP hD hS => ?_)
  have hP : va_P D vwCl (W_X2_makeAnew h a cI cJ cZ v_colour_t2 v_state v_layers v_thingCount v_original) H := hP
  have hD : va_D A (W_X2_makeAnew h a cI cJ cZ v_colour_t2 v_state v_layers v_thingCount v_original) := hD
  refine lv_aload_n hx hb dX2_makeAnew_5 rfl (lv_at hl 0 rfl) ?_
  refine lv_iconst (v := 0) hx hb dX2_makeAnew_6 (by decide) ?_
  refine lv_topi (fun v_state_t7 ev_state_t7 => ?_)
  have hw := hw v_state_t7 ev_state_t7
  refine va_put (D := D) (ci := 3) (v := .int v_state_t7) (ty := .int) (C := RX2) (T := TX2) (N := 8) hx hb hts iRX2 tyX2 tyX2_ok nmX2 hown hK hP hD hS 0 rfl rfl 4 (by decide) (hts (.fieldLink RX2 21 "Leadlight$Piece" "state" "I") (List.mem_of_getElem? (i := 2) rfl)) (fun _ h9 => h9) rfl (by decide +kernel) rfl rfl (Nat.le_of_ble_eq_true rfl) dX2_makeAnew_7 (fun H locs hP hD hS => ?_)
  have hP : va_P D vwCl (W_X2_makeAnew h a cI cJ cZ v_colour_t2 v_state_t7 v_layers v_thingCount v_original) H := hP
  have hD : va_D A (W_X2_makeAnew h a cI cJ cZ v_colour_t2 v_state_t7 v_layers v_thingCount v_original) := hD
  refine lv_aload_n hx hb dX2_makeAnew_10 rfl (lv_at hl 0 rfl) ?_
  refine lv_iconst (v := 0) hx hb dX2_makeAnew_11 (by decide) ?_
  refine lv_topi (fun v_original_t12 ev_original_t12 => ?_)
  have hw := hw v_original_t12 ev_original_t12
  refine va_put (D := D) (ci := 3) (v := .int v_original_t12) (ty := .boolean) (C := RX2) (T := TX2) (N := 8) hx hb hts iRX2 tyX2 tyX2_ok nmX2 hown hK hP hD hS 0 rfl rfl 7 (by decide) (hts (.fieldLink RX2 31 "Leadlight$Piece" "original" "Z") (List.mem_of_getElem? (i := 3) rfl)) (fun _ h9 => h9) rfl (by decide +kernel) (by rw [ev_original_t12]; rfl) (by rw [ev_original_t12]; rfl) (Nat.le_of_ble_eq_true rfl) dX2_makeAnew_12 (fun H locs hP hD hS => ?_)
  have hP : va_P D vwCl (W_X2_makeAnew h a cI cJ cZ v_colour_t2 v_state_t7 v_layers v_thingCount v_original_t12) H := hP
  have hD : va_D A (W_X2_makeAnew h a cI cJ cZ v_colour_t2 v_state_t7 v_layers v_thingCount v_original_t12) := hD
  refine lv_aload_n hx hb dX2_makeAnew_15 rfl (lv_at hl 0 rfl) ?_
  refine lv_iconst (v := 0) hx hb dX2_makeAnew_16 (by decide) ?_
  refine lv_topi (fun v_layers_t17 ev_layers_t17 => ?_)
  have hw := hw v_layers_t17 ev_layers_t17
  refine va_put (D := D) (ci := 3) (v := .int v_layers_t17) (ty := .int) (C := RX2) (T := TX2) (N := 8) hx hb hts iRX2 tyX2 tyX2_ok nmX2 hown hK hP hD hS 0 rfl rfl 5 (by decide) (hts (.fieldLink RX2 25 "Leadlight$Piece" "layers" "I") (List.mem_of_getElem? (i := 4) rfl)) (fun _ h9 => h9) rfl (by decide +kernel) rfl rfl (Nat.le_of_ble_eq_true rfl) dX2_makeAnew_17 (fun H locs hP hD hS => ?_)
  have hP : va_P D vwCl (W_X2_makeAnew h a cI cJ cZ v_colour_t2 v_state_t7 v_layers_t17 v_thingCount v_original_t12) H := hP
  have hD : va_D A (W_X2_makeAnew h a cI cJ cZ v_colour_t2 v_state_t7 v_layers_t17 v_thingCount v_original_t12) := hD
  exact RT (v_colour_t2, v_state_t7, v_layers_t17, v_original_t12) _ _ _ _ dX2_makeAnew_20 hw hP hD hS
abbrev rm_X3_trace : Room := { frames := 1, cells := 0, slots := 0, locals := 22 }
abbrev W_X3_trace (h : Nat) (a : Nat → Nat) (h1 : Nat) (b1 : Nat → Nat) (cI cJ cZ : ClassId) (v_rows : Nat → Int32) (q1_owners : Nat → Int32) : va_W := [(h, .inr (4, [.ref (a 0), .ref (a 1)])), ((a 0), .inl (cI, 16, .inl v_rows)), (h1, .inr (1, [.ref (b1 0), .ref (b1 1)])), ((b1 0), .inl (cI, 256, .inl q1_owners))]
def wp_X3_trace_14 (v_rows : Nat → Int32) (q1_owners : Nat → Int32) (p2 : Int32) (post : (Nat → Int32) → Prop) (K2 : Int32 → (Nat → Int32) → Prop) (K14 : Int32 → Int32 → Int32 → (Nat → Int32) → Prop) (x3_j14 : Int32) (x4_j14 : Int32) (x5_j14 : Int32) (v_rows_j14 : Nat → Int32) : Prop := (16 ≤ x5_j14 → vp_in x3_j14 16 ∧ (∀ v_rows_t54 : Nat → Int32, v_rows_t54 = upd v_rows_j14 x3_j14.toNatClampNeg x4_j14 → K2 (x3_j14 + 1) v_rows_t54)) ∧ (¬ 16 ≤ x5_j14 → wp_X0_ownerAt q1_owners x3_j14 x5_j14 (fun r_25 => (r_25 = p2 → K14 x3_j14 (x4_j14 ||| (1 <<< (x5_j14 &&& 31))) (x5_j14 + 1) v_rows_j14) ∧ (¬ r_25 = p2 → K14 x3_j14 x4_j14 (x5_j14 + 1) v_rows_j14)))
def lF_X3_trace_14 (v_rows : Nat → Int32) (q1_owners : Nat → Int32) (p2 : Int32) (post : (Nat → Int32) → Prop) (K2 : Int32 → (Nat → Int32) → Prop) : ((Int32 × Int32 × Int32 × (Nat → Int32)) → Prop) → (Int32 × Int32 × Int32 × (Nat → Int32)) → Prop := fun K s => wp_X3_trace_14 v_rows q1_owners p2 post K2 (fun b0 b1 b2 b3 => K (b0, b1, b2, b3)) s.1 s.2.1 s.2.2.1 s.2.2.2
def wp_X3_trace_2 (v_rows : Nat → Int32) (q1_owners : Nat → Int32) (p2 : Int32) (post : (Nat → Int32) → Prop) (K2 : Int32 → (Nat → Int32) → Prop) (x3_j2 : Int32) (v_rows_j2 : Nat → Int32) : Prop := (16 ≤ x3_j2 → post v_rows_j2) ∧ (¬ 16 ≤ x3_j2 → lp (lF_X3_trace_14 v_rows q1_owners p2 post K2) (x3_j2, 0, 0, v_rows_j2))
def lF_X3_trace_2 (v_rows : Nat → Int32) (q1_owners : Nat → Int32) (p2 : Int32) (post : (Nat → Int32) → Prop) : ((Int32 × (Nat → Int32)) → Prop) → (Int32 × (Nat → Int32)) → Prop := fun K s => wp_X3_trace_2 v_rows q1_owners p2 post (fun b0 b1 => K (b0, b1)) s.1 s.2
def wp_X3_trace (v_rows : Nat → Int32) (q1_owners : Nat → Int32) (p2 : Int32) (post : (Nat → Int32) → Prop) : Prop := lp (lF_X3_trace_2 v_rows q1_owners p2 post) (0, v_rows)
set_option maxHeartbeats 4000000 in
set_option maxRecDepth 100000 in
theorem c_X3_trace (l : Launch) (D : va_G) (cI cJ cZ cO : ClassId) (h : Nat) (a : Nat → Nat) (h1 : Nat) (b1 : Nat → Nat) (sz : Nat) (v_rows : Nat → Int32) (q1_owners : Nat → Int32) (p2 : Int32) (post : (Nat → Int32) → Prop) (hw : wp_X3_trace v_rows q1_owners p2 post) : Met l yX3_trace wsX3_trace rm_X3_trace (va_Pc [.ref h, .ref h1, .int p2] (PRE D cI cJ cZ cO (W_X3_trace h a h1 b1 cI cJ cZ v_rows q1_owners) sz)) (va_Qv (fun (u : (Nat → Int32)) => post u) (fun u t => POST D (va_A (W_X3_trace h a h1 b1 cI cJ cZ v_rows q1_owners) sz) (W_X3_trace h a h1 b1 cI cJ cZ u q1_owners) t) (va_A (W_X3_trace h a h1 b1 cI cJ cZ v_rows q1_owners) sz)) 0 0 (va_A (W_X3_trace h a h1 b1 cI cJ cZ v_rows q1_owners) sz) := by
  refine met_go (cc := cX3_trace) (maxL := 6) (ret := none) RX3 rfl (by decide) rfl (Nat.le_of_ble_eq_true rfl) ?_
  intro p e s m args below meth c ls hx hb hr hts hown hlocks hin hml hsz hP hK hE hD hA hS hl
  have iRX0 : ∀ w ∈ u_ws RX0 TX0 2, w ∈ wsX3_trace := mem_seg 10 2 rfl
  have iRX3 : ∀ w ∈ u_ws RX3 TX3 2, w ∈ wsX3_trace := mem_seg 8 2 rfl
  generalize va_A (W_X3_trace h a h1 b1 cI cJ cZ v_rows q1_owners) sz = A at hD hA hS ⊢
  have RT : ∀ (u : (Nat → Int32)) (H : Heap) (locs : List Loc) (pc : Nat) (ls : Array Slot), decode cX3_trace pc = .ok (.return_, 1) → post u → va_P D vwCl (W_X3_trace h a h1 b1 cI cJ cZ u q1_owners) H → va_D A (W_X3_trace h a h1 b1 cI cJ cZ u q1_owners) → va_S A s.heap H locs → W p l e rm_X3_trace s m args below meth c H locs 0 0 (MQ below (va_Qv (fun (u : (Nat → Int32)) => post u) (fun u t => POST D A (W_X3_trace h a h1 b1 cI cJ cZ u q1_owners) t) A) args s 0 0 A) (F0 m pc ls []) := fun u H locs pc ls d g1 g2 g3 g4 => rt_v (Wf := fun u => (W_X3_trace h a h1 b1 cI cJ cZ u q1_owners)) u hx hb hr hlocks g1 g2 g3 g4 d
  generalize (MQ below (va_Qv (fun (u : (Nat → Int32)) => post u) (fun u t => POST D A (W_X3_trace h a h1 b1 cI cJ cZ u q1_owners) t) A) args s 0 0 A) = QQ at RT ⊢
  have hl : lv_has ls 6 [(0, .ref h), (1, .ref h1), (2, .int p2)] := hl
  have hP : va_P D vwCl (W_X3_trace h a h1 b1 cI cJ cZ v_rows q1_owners) s.heap := hP
  unfold wp_X3_trace at hw
  suffices GO : ∀ (H : Heap) (locs : List Loc), va_P D vwCl (W_X3_trace h a h1 b1 cI cJ cZ v_rows q1_owners) H → va_S A s.heap H locs → W p l e rm_X3_trace s m args below meth c H locs 0 0 QQ (F0 m 0 ls []) from GO _ _ hP hS
  clear hsz hP hS
  intro H locs hP hS
  have L2 : ∀ s0 : (Int32 × (Nat → Int32)), lp (lF_X3_trace_2 v_rows q1_owners p2 post) s0 → ∀ (H : Heap) (locs : List Loc) (ls : Array Slot), va_P D vwCl (W_X3_trace h a h1 b1 cI cJ cZ s0.2 q1_owners) H → va_D A (W_X3_trace h a h1 b1 cI cJ cZ s0.2 q1_owners) → va_S A s.heap H locs → lv_has ls 6 [(0, .ref h), (1, .ref h1), (2, .int p2), (3, .int s0.1)] → W p l e rm_X3_trace s m args below meth c H locs 0 0 QQ (F0 m 2 ls []) := by
    refine lp_elim (fun K2 ih2 s0 hw => ?_)
    obtain ⟨x3_j2, v_rows_j2⟩ := s0
    intro H locs ls hP hD hS hl
    have hw : wp_X3_trace_2 v_rows q1_owners p2 post (fun b0 b1 => K2 (b0, b1)) x3_j2 v_rows_j2 := hw
    have hP : va_P D vwCl (W_X3_trace h a h1 b1 cI cJ cZ v_rows_j2 q1_owners) H := hP
    have hD : va_D A (W_X3_trace h a h1 b1 cI cJ cZ v_rows_j2 q1_owners) := hD
    have hl : lv_has ls 6 [(0, .ref h), (1, .ref h1), (2, .int p2), (3, .int x3_j2)] := hl
    have L14 : ∀ s0 : (Int32 × Int32 × Int32 × (Nat → Int32)), lp (lF_X3_trace_14 v_rows q1_owners p2 post (fun b0 b1 => K2 (b0, b1))) s0 → ∀ (H : Heap) (locs : List Loc) (ls : Array Slot), va_P D vwCl (W_X3_trace h a h1 b1 cI cJ cZ s0.2.2.2 q1_owners) H → va_D A (W_X3_trace h a h1 b1 cI cJ cZ s0.2.2.2 q1_owners) → va_S A s.heap H locs → lv_has ls 6 [(0, .ref h), (1, .ref h1), (2, .int p2), (3, .int s0.1), (4, .int s0.2.1), (5, .int s0.2.2.1)] → W p l e rm_X3_trace s m args below meth c H locs 0 0 QQ (F0 m 14 ls []) := by
      refine lp_elim (fun K14 ih14 s0 hw => ?_)
      obtain ⟨x3_j14, x4_j14, x5_j14, v_rows_j14⟩ := s0
      intro H locs ls hP hD hS hl
      have hw : wp_X3_trace_14 v_rows q1_owners p2 post (fun b0 b1 => K2 (b0, b1)) (fun b0 b1 b2 b3 => K14 (b0, b1, b2, b3)) x3_j14 x4_j14 x5_j14 v_rows_j14 := hw
      have hP : va_P D vwCl (W_X3_trace h a h1 b1 cI cJ cZ v_rows_j14 q1_owners) H := hP
      have hD : va_D A (W_X3_trace h a h1 b1 cI cJ cZ v_rows_j14 q1_owners) := hD
      have hl : lv_has ls 6 [(0, .ref h), (1, .ref h1), (2, .int p2), (3, .int x3_j14), (4, .int x4_j14), (5, .int x5_j14)] := hl
      unfold wp_X3_trace_14 at hw
      refine lv_iload hx hb dX3_trace_14 (lv_at hl 5 rfl) ?_
      refine lv_bipush (v := 16) hx hb dX3_trace_16 (by decide) ?_
      refine lv_icmp_ge (tgt := 47) hx hb dX3_trace_18 (by decide) (fun c18 => ?_) (fun c18 => ?_)
      · have hw := hw.1 c18
        refine lv_aload_n hx hb dX3_trace_47 rfl (lv_at hl 0 rfl) ?_
        refine va_get (D := D) (ci := 4) (v := .ref (a 0)) (C := RX3) (T := TX3) (N := 2) hx hb hts iRX3 hown hK hP 0 rfl rfl 0 (by decide) (hts (.fieldLink RX3 9 "Leadlight$Shape" "rows" "[I") (List.mem_of_getElem? (i := 1) rfl)) (fun _ h9 => h9) rfl dX3_trace_48 ?_
        refine lv_iload_n hx hb dX3_trace_51 rfl (lv_at hl 3 rfl) ?_
        refine lv_iload hx hb dX3_trace_52 (lv_at hl 4 rfl) ?_
        obtain ⟨hi_54, hw⟩ := hw
        refine st_i hx hb hK hP hD hS 1 0 rfl rfl hi_54 dX3_trace_54 (fun v_rows_t54 ev_rows_t54 H locs hP hD hS => ?_)
        have hw := hw v_rows_t54 ev_rows_t54
        have hP : va_P D vwCl (W_X3_trace h a h1 b1 cI cJ cZ v_rows_t54 q1_owners) H := hP
        have hD : va_D A (W_X3_trace h a h1 b1 cI cJ cZ v_rows_t54 q1_owners) := hD
        refine lv_iinc (v := (x3_j14 + 1)) (lv' := [(3, .int (x3_j14 + 1)), (0, .ref h), (1, .ref h1), (2, .int p2), (4, .int x4_j14), (5, .int x5_j14)]) hx hb dX3_trace_55 hl (k := 3) rfl rfl (by decide) rfl (fun ls hl => ?_)
        refine lv_goto (tgt := 2) hx hb dX3_trace_58 (by decide) ?_
        exact ih2 ((x3_j14 + 1), v_rows_t54) hw _ _ ls hP hD hS (lv_sub hl [1, 2, 3, 0] rfl)
      · have hw := hw.2 c18
        refine lv_aload_n hx hb dX3_trace_21 rfl (lv_at hl 1 rfl) ?_
        refine lv_iload_n hx hb dX3_trace_22 rfl (lv_at hl 3 rfl) ?_
        refine lv_iload hx hb dX3_trace_23 (lv_at hl 5 rfl) ?_
        refine af_i (X := (W_X3_trace h a h1 b1 cI cJ cZ v_rows_j14 q1_owners)) (pl := []) (cx := (W_X0_ownerAt h1 b1 cI cJ cZ q1_owners)) (w1 := fun (u : Unit) => (W_X0_ownerAt h1 b1 cI cJ cZ q1_owners)) (X' := fun (u : Unit) => (W_X3_trace h a h1 b1 cI cJ cZ v_rows_j14 q1_owners)) hP hD hS hA [2, 3] [0, 1] [0, 1, 2, 3] rfl rfl (by decide) (by decide) (fun u => rfl) (by decide) (va_runV (As := [.int x3_j14, .int x5_j14]) (rest := []) ⟨hx, hb, hml, hown, hts⟩ (c_X0_ownerAt l D cI cJ cZ cO h1 b1 H.size q1_owners x3_j14 x5_j14 _ hw) (cwV 2 hts gX3_trace_X0_ownerAt rfl rfl rfl (by decide +kernel) ⟨Nat.le_of_ble_eq_true rfl, Nat.le_of_ble_eq_true rfl⟩) (preV (X := (W_X3_trace h a h1 b1 cI cJ cZ v_rows_j14 q1_owners)) (pl := []) (cx := (W_X0_ownerAt h1 b1 cI cJ cZ q1_owners)) (qb := 0) (ci := 1) hK hE hP hD [2, 3] (by decide) rfl rfl rfl) rfl rfl hl.1 rfl (lv_room (Nat.le_of_ble_eq_true rfl)) dX3_trace_25 ⟨Nat.zero_le _, Nat.zero_le _⟩) (fun r_25 _ H locs hw hP hD hS => ?_)
        try dsimp only at hw
        have hP : va_P D vwCl (W_X3_trace h a h1 b1 cI cJ cZ v_rows_j14 q1_owners) H := hP
        have hD : va_D A (W_X3_trace h a h1 b1 cI cJ cZ v_rows_j14 q1_owners) := hD
        refine lv_iload_n hx hb dX3_trace_28 rfl (lv_at hl 2 rfl) ?_
        refine lv_icmp_ne (tgt := 41) hx hb dX3_trace_29 (by decide) (fun c29 => ?_) (fun c29 => ?_)
        · have hw := hw.2 c29
          refine lv_iinc (v := (x5_j14 + 1)) (lv' := [(5, .int (x5_j14 + 1)), (0, .ref h), (1, .ref h1), (2, .int p2), (3, .int x3_j14), (4, .int x4_j14)]) hx hb dX3_trace_41 hl (k := 5) rfl rfl (by decide) rfl (fun ls hl => ?_)
          refine lv_goto (tgt := 14) hx hb dX3_trace_44 (by decide) ?_
          exact ih14 (x3_j14, x4_j14, (x5_j14 + 1), v_rows_j14) hw _ _ ls hP hD hS (lv_sub hl [1, 2, 3, 4, 5, 0] rfl)
        · have hw := hw.1 c29
          refine lv_iload hx hb dX3_trace_32 (lv_at hl 4 rfl) ?_
          refine lv_iconst (v := 1) hx hb dX3_trace_34 (by decide) ?_
          refine lv_iload hx hb dX3_trace_35 (lv_at hl 5 rfl) ?_
          refine lv_ishl hx hb dX3_trace_37 ?_
          refine lv_ior hx hb dX3_trace_38 ?_
          refine lv_istore (lv' := [(4, .int (x4_j14 ||| (1 <<< (x5_j14 &&& 31)))), (0, .ref h), (1, .ref h1), (2, .int p2), (3, .int x3_j14), (5, .int x5_j14)]) hx hb dX3_trace_39 hl (by decide) rfl (fun ls hl => ?_)
          refine lv_iinc (v := (x5_j14 + 1)) (lv' := [(5, .int (x5_j14 + 1)), (4, .int (x4_j14 ||| (1 <<< (x5_j14 &&& 31)))), (0, .ref h), (1, .ref h1), (2, .int p2), (3, .int x3_j14)]) hx hb dX3_trace_41 hl (k := 5) rfl rfl (by decide) rfl (fun ls hl => ?_)
          refine lv_goto (tgt := 14) hx hb dX3_trace_44 (by decide) ?_
          exact ih14 (x3_j14, (x4_j14 ||| (1 <<< (x5_j14 &&& 31))), (x5_j14 + 1), v_rows_j14) hw _ _ ls hP hD hS (lv_sub hl [2, 3, 4, 5, 1, 0] rfl)
    unfold wp_X3_trace_2 at hw
    refine lv_iload_n hx hb dX3_trace_2 rfl (lv_at hl 3 rfl) ?_
    refine lv_bipush (v := 16) hx hb dX3_trace_3 (by decide) ?_
    refine lv_icmp_ge (tgt := 61) hx hb dX3_trace_5 (by decide) (fun c5 => ?_) (fun c5 => ?_)
    · have hw := hw.1 c5
      exact RT v_rows_j2 _ _ _ _ dX3_trace_61 hw hP hD hS
    · have hw := hw.2 c5
      refine lv_iconst (v := 0) hx hb dX3_trace_8 (by decide) ?_
      refine lv_istore (lv' := [(4, .int 0), (0, .ref h), (1, .ref h1), (2, .int p2), (3, .int x3_j2)]) hx hb dX3_trace_9 hl (by decide) rfl (fun ls hl => ?_)
      refine lv_iconst (v := 0) hx hb dX3_trace_11 (by decide) ?_
      refine lv_istore (lv' := [(5, .int 0), (4, .int 0), (0, .ref h), (1, .ref h1), (2, .int p2), (3, .int x3_j2)]) hx hb dX3_trace_12 hl (by decide) rfl (fun ls hl => ?_)
      exact L14 (x3_j2, 0, 0, v_rows_j2) hw _ _ ls hP hD hS (lv_sub hl [2, 3, 4, 5, 1, 0] rfl)
  refine lv_iconst (v := 0) hx hb dX3_trace_0 (by decide) ?_
  refine lv_istore_n (lv' := [(3, .int 0), (0, .ref h), (1, .ref h1), (2, .int p2)]) hx hb dX3_trace_1 rfl hl (by decide) rfl (fun ls hl => ?_)
  exact L2 (0, v_rows) hw _ _ ls hP hD hS (lv_sub hl [1, 2, 3, 0] rfl)
abbrev rm_X3_columnsBeyond : Room := { frames := 0, cells := 0, slots := 0, locals := 0 }
def wp_X3_columnsBeyond (p1 : Int32) (p2 : Int32) (post : Int32 → Prop) : Prop := (16 ≤ p1 → post ((-2) <<< ((p1 - 16) &&& 31))) ∧ (¬ 16 ≤ p1 → (p2 ≤ p1 → post 0) ∧ (¬ p2 ≤ p1 → post (-1)))
set_option maxHeartbeats 4000000 in
set_option maxRecDepth 100000 in
theorem c_X3_columnsBeyond (l : Launch) (D : va_G) (cI cJ cZ cO : ClassId) (sz : Nat) (p1 : Int32) (p2 : Int32) (post : Int32 → Prop) (hw : wp_X3_columnsBeyond p1 p2 post) : Met l yX3_columnsBeyond wsX3_columnsBeyond rm_X3_columnsBeyond (va_Pc [.int p1, .int p2] (PRE D cI cJ cZ cO ([] : va_W) sz)) (va_Qi (fun r (_ : Unit) => post r) (fun u t => POST D (va_A ([] : va_W) sz) ([] : va_W) t) (va_A ([] : va_W) sz)) 0 0 (va_A ([] : va_W) sz) := by
  refine met_go (cc := cX3_columnsBeyond) (maxL := 2) (ret := some .int) RX3 rfl (by decide) rfl (Nat.le_of_ble_eq_true rfl) ?_
  intro p e s m args below meth c ls hx hb hr hts hown hlocks hin hml hsz hP hK hE hD hA hS hl
  generalize va_A ([] : va_W) sz = A at hD hA hS ⊢
  have RT : ∀ (v : Int32) (u : Unit) (H : Heap) (locs : List Loc) (pc : Nat) (ls : Array Slot), decode cX3_columnsBeyond pc = .ok (.ireturn, 1) → post v → va_P D vwCl ([] : va_W) H → va_D A ([] : va_W) → va_S A s.heap H locs → W p l e rm_X3_columnsBeyond s m args below meth c H locs 0 0 (MQ below (va_Qi (fun r (_ : Unit) => post r) (fun u t => POST D A ([] : va_W) t) A) args s 0 0 A) (F0 m pc ls [.int v]) := fun v u H locs pc ls d g1 g2 g3 g4 => rt_i (Wf := fun u => ([] : va_W)) u hx hb hr hlocks g1 g2 g3 g4 d
  generalize (MQ below (va_Qi (fun r (_ : Unit) => post r) (fun u t => POST D A ([] : va_W) t) A) args s 0 0 A) = QQ at RT ⊢
  have hl : lv_has ls 2 [(0, .int p1), (1, .int p2)] := hl
  have hP : va_P D vwCl ([] : va_W) s.heap := hP
  unfold wp_X3_columnsBeyond at hw
  suffices GO : ∀ (H : Heap) (locs : List Loc), va_P D vwCl ([] : va_W) H → va_S A s.heap H locs → W p l e rm_X3_columnsBeyond s m args below meth c H locs 0 0 QQ (F0 m 0 ls []) from GO _ _ hP hS
  clear hsz hP hS
  intro H locs hP hS
  refine lv_iload_n hx hb dX3_columnsBeyond_0 rfl (lv_at hl 0 rfl) ?_
  refine lv_bipush (v := 16) hx hb dX3_columnsBeyond_1 (by decide) ?_
  refine lv_icmp_ge (tgt := 17) hx hb dX3_columnsBeyond_3 (by decide) (fun c3 => ?_) (fun c3 => ?_)
  · have hw := hw.1 c3
    refine lv_bipush (v := (-2)) hx hb dX3_columnsBeyond_17 (by decide) ?_
    refine lv_iload_n hx hb dX3_columnsBeyond_19 rfl (lv_at hl 0 rfl) ?_
    refine lv_bipush (v := 16) hx hb dX3_columnsBeyond_20 (by decide) ?_
    refine lv_isub hx hb dX3_columnsBeyond_22 ?_
    refine lv_ishl hx hb dX3_columnsBeyond_23 ?_
    exact RT ((-2) <<< ((p1 - 16) &&& 31)) () _ _ _ _ dX3_columnsBeyond_24 hw hP hD hS
  · have hw := hw.2 c3
    refine lv_iload_n hx hb dX3_columnsBeyond_6 rfl (lv_at hl 1 rfl) ?_
    refine lv_iload_n hx hb dX3_columnsBeyond_7 rfl (lv_at hl 0 rfl) ?_
    refine lv_icmp_le (tgt := 15) hx hb dX3_columnsBeyond_8 (by decide) (fun c8 => ?_) (fun c8 => ?_)
    · have hw := hw.1 c8
      refine lv_iconst (v := 0) hx hb dX3_columnsBeyond_15 (by decide) ?_
      exact RT 0 () _ _ _ _ dX3_columnsBeyond_16 hw hP hD hS
    · have hw := hw.2 c8
      refine lv_iconst (v := (-1)) hx hb dX3_columnsBeyond_11 (by decide) ?_
      refine lv_goto (tgt := 16) hx hb dX3_columnsBeyond_12 (by decide) ?_
      exact RT (-1) () _ _ _ _ dX3_columnsBeyond_16 hw hP hD hS
abbrev rm_X3_takeSide : Room := { frames := 1, cells := 0, slots := 0, locals := 21 }
abbrev W_X3_takeSide (h : Nat) (a : Nat → Nat) (h1 : Nat) (b1 : Nat → Nat) (cI cJ cZ : ClassId) (v_rows : Nat → Int32) (q1_rows : Nat → Int32) : va_W := [(h, .inr (4, [.ref (a 0), .ref (a 1)])), ((a 0), .inl (cI, 16, .inl v_rows)), (h1, .inr (4, [.ref (b1 0), .ref (b1 1)])), ((b1 0), .inl (cI, 16, .inl q1_rows))]
def wp_X3_takeSide_44 (v_rows : Nat → Int32) (q1_rows : Nat → Int32) (p2 : Int32) (p3 : Int32) (post : (Nat → Int32) → Prop) (K3 : Int32 → (Nat → Int32) → Prop) (s1_j44 : Int32) (s2_j44 : Int32) (s3_j44 : Int32) (x4_j44 : Int32) (v_rows_j44 : Nat → Int32) : Prop := vp_in s1_j44 16 ∧ (∀ v_rows_t45 : Nat → Int32, v_rows_t45 = upd v_rows_j44 s1_j44.toNatClampNeg (s2_j44 &&& s3_j44) → K3 (x4_j44 + 1) v_rows_t45)
def wp_X3_takeSide_3 (v_rows : Nat → Int32) (q1_rows : Nat → Int32) (p2 : Int32) (p3 : Int32) (post : (Nat → Int32) → Prop) (K3 : Int32 → (Nat → Int32) → Prop) (x4_j3 : Int32) (v_rows_j3 : Nat → Int32) : Prop := (16 ≤ x4_j3 → post v_rows_j3) ∧ (¬ 16 ≤ x4_j3 → wp_X3_columnsBeyond p2 x4_j3 (fun r_13 => vp_in x4_j3 16 ∧ ((p3 = 0 → wp_X3_takeSide_44 v_rows q1_rows p2 p3 post K3 x4_j3 (q1_rows x4_j3.toNatClampNeg) (r_13 ^^^ (-1)) x4_j3 v_rows_j3) ∧ (¬ p3 = 0 → wp_X3_takeSide_44 v_rows q1_rows p2 p3 post K3 x4_j3 (q1_rows x4_j3.toNatClampNeg) r_13 x4_j3 v_rows_j3))))
def lF_X3_takeSide_3 (v_rows : Nat → Int32) (q1_rows : Nat → Int32) (p2 : Int32) (p3 : Int32) (post : (Nat → Int32) → Prop) : ((Int32 × (Nat → Int32)) → Prop) → (Int32 × (Nat → Int32)) → Prop := fun K s => wp_X3_takeSide_3 v_rows q1_rows p2 p3 post (fun b0 b1 => K (b0, b1)) s.1 s.2
def wp_X3_takeSide (v_rows : Nat → Int32) (q1_rows : Nat → Int32) (p2 : Int32) (p3 : Int32) (post : (Nat → Int32) → Prop) : Prop := lp (lF_X3_takeSide_3 v_rows q1_rows p2 p3 post) (0, v_rows)
set_option maxHeartbeats 4000000 in
set_option maxRecDepth 100000 in
theorem c_X3_takeSide (l : Launch) (D : va_G) (cI cJ cZ cO : ClassId) (h : Nat) (a : Nat → Nat) (h1 : Nat) (b1 : Nat → Nat) (sz : Nat) (v_rows : Nat → Int32) (q1_rows : Nat → Int32) (p2 : Int32) (p3 : Int32) (post : (Nat → Int32) → Prop) (hw : wp_X3_takeSide v_rows q1_rows p2 p3 post) : Met l yX3_takeSide wsX3_takeSide rm_X3_takeSide (va_Pc [.ref h, .ref h1, .int p2, .int p3] (PRE D cI cJ cZ cO (W_X3_takeSide h a h1 b1 cI cJ cZ v_rows q1_rows) sz)) (va_Qv (fun (u : (Nat → Int32)) => post u) (fun u t => POST D (va_A (W_X3_takeSide h a h1 b1 cI cJ cZ v_rows q1_rows) sz) (W_X3_takeSide h a h1 b1 cI cJ cZ u q1_rows) t) (va_A (W_X3_takeSide h a h1 b1 cI cJ cZ v_rows q1_rows) sz)) 0 0 (va_A (W_X3_takeSide h a h1 b1 cI cJ cZ v_rows q1_rows) sz) := by
  refine met_go (cc := cX3_takeSide) (maxL := 6) (ret := none) RX3 rfl (by decide) rfl (Nat.le_of_ble_eq_true rfl) ?_
  intro p e s m args below meth c ls hx hb hr hts hown hlocks hin hml hsz hP hK hE hD hA hS hl
  have iRX3 : ∀ w ∈ u_ws RX3 TX3 2, w ∈ wsX3_takeSide := mem_seg 6 2 rfl
  generalize va_A (W_X3_takeSide h a h1 b1 cI cJ cZ v_rows q1_rows) sz = A at hD hA hS ⊢
  have RT : ∀ (u : (Nat → Int32)) (H : Heap) (locs : List Loc) (pc : Nat) (ls : Array Slot), decode cX3_takeSide pc = .ok (.return_, 1) → post u → va_P D vwCl (W_X3_takeSide h a h1 b1 cI cJ cZ u q1_rows) H → va_D A (W_X3_takeSide h a h1 b1 cI cJ cZ u q1_rows) → va_S A s.heap H locs → W p l e rm_X3_takeSide s m args below meth c H locs 0 0 (MQ below (va_Qv (fun (u : (Nat → Int32)) => post u) (fun u t => POST D A (W_X3_takeSide h a h1 b1 cI cJ cZ u q1_rows) t) A) args s 0 0 A) (F0 m pc ls []) := fun u H locs pc ls d g1 g2 g3 g4 => rt_v (Wf := fun u => (W_X3_takeSide h a h1 b1 cI cJ cZ u q1_rows)) u hx hb hr hlocks g1 g2 g3 g4 d
  generalize (MQ below (va_Qv (fun (u : (Nat → Int32)) => post u) (fun u t => POST D A (W_X3_takeSide h a h1 b1 cI cJ cZ u q1_rows) t) A) args s 0 0 A) = QQ at RT ⊢
  have hl : lv_has ls 6 [(0, .ref h), (1, .ref h1), (2, .int p2), (3, .int p3)] := hl
  have hP : va_P D vwCl (W_X3_takeSide h a h1 b1 cI cJ cZ v_rows q1_rows) s.heap := hP
  unfold wp_X3_takeSide at hw
  suffices GO : ∀ (H : Heap) (locs : List Loc), va_P D vwCl (W_X3_takeSide h a h1 b1 cI cJ cZ v_rows q1_rows) H → va_S A s.heap H locs → W p l e rm_X3_takeSide s m args below meth c H locs 0 0 QQ (F0 m 0 ls []) from GO _ _ hP hS
  clear hsz hP hS
  intro H locs hP hS
  have L3 : ∀ s0 : (Int32 × (Nat → Int32)), lp (lF_X3_takeSide_3 v_rows q1_rows p2 p3 post) s0 → ∀ (H : Heap) (locs : List Loc) (ls : Array Slot), va_P D vwCl (W_X3_takeSide h a h1 b1 cI cJ cZ s0.2 q1_rows) H → va_D A (W_X3_takeSide h a h1 b1 cI cJ cZ s0.2 q1_rows) → va_S A s.heap H locs → lv_has ls 6 [(0, .ref h), (1, .ref h1), (2, .int p2), (3, .int p3), (4, .int s0.1)] → W p l e rm_X3_takeSide s m args below meth c H locs 0 0 QQ (F0 m 3 ls []) := by
    refine lp_elim (fun K3 ih3 s0 hw => ?_)
    obtain ⟨x4_j3, v_rows_j3⟩ := s0
    intro H locs ls hP hD hS hl
    have hw : wp_X3_takeSide_3 v_rows q1_rows p2 p3 post (fun b0 b1 => K3 (b0, b1)) x4_j3 v_rows_j3 := hw
    have hP : va_P D vwCl (W_X3_takeSide h a h1 b1 cI cJ cZ v_rows_j3 q1_rows) H := hP
    have hD : va_D A (W_X3_takeSide h a h1 b1 cI cJ cZ v_rows_j3 q1_rows) := hD
    have hl : lv_has ls 6 [(0, .ref h), (1, .ref h1), (2, .int p2), (3, .int p3), (4, .int x4_j3)] := hl
    have J44 : ∀ (s1_j44 : Int32) (s2_j44 : Int32) (s3_j44 : Int32) (x4_j44 : Int32) (v_rows_j44 : Nat → Int32) , wp_X3_takeSide_44 v_rows q1_rows p2 p3 post (fun b0 b1 => K3 (b0, b1)) s1_j44 s2_j44 s3_j44 x4_j44 v_rows_j44 → ∀ (H : Heap) (locs : List Loc) (ls : Array Slot), va_P D vwCl (W_X3_takeSide h a h1 b1 cI cJ cZ v_rows_j44 q1_rows) H → va_D A (W_X3_takeSide h a h1 b1 cI cJ cZ v_rows_j44 q1_rows) → va_S A s.heap H locs → lv_has ls 6 [(0, .ref h), (1, .ref h1), (2, .int p2), (3, .int p3), (4, .int x4_j44)] → W p l e rm_X3_takeSide s m args below meth c H locs 0 0 QQ (F0 m 44 ls [.int s3_j44, .int s2_j44, .int s1_j44, .ref (a 0)]) := by
      intro s1_j44 s2_j44 s3_j44 x4_j44 v_rows_j44 hw H locs ls hP hD hS hl
      unfold wp_X3_takeSide_44 at hw
      refine lv_iand hx hb dX3_takeSide_44 ?_
      obtain ⟨hi_45, hw⟩ := hw
      refine st_i hx hb hK hP hD hS 1 0 rfl rfl hi_45 dX3_takeSide_45 (fun v_rows_t45 ev_rows_t45 H locs hP hD hS => ?_)
      have hw := hw v_rows_t45 ev_rows_t45
      have hP : va_P D vwCl (W_X3_takeSide h a h1 b1 cI cJ cZ v_rows_t45 q1_rows) H := hP
      have hD : va_D A (W_X3_takeSide h a h1 b1 cI cJ cZ v_rows_t45 q1_rows) := hD
      refine lv_iinc (v := (x4_j44 + 1)) (lv' := [(4, .int (x4_j44 + 1)), (0, .ref h), (1, .ref h1), (2, .int p2), (3, .int p3)]) hx hb dX3_takeSide_46 hl (k := 4) rfl rfl (by decide) rfl (fun ls hl => ?_)
      refine lv_goto (tgt := 3) hx hb dX3_takeSide_49 (by decide) ?_
      exact ih3 ((x4_j44 + 1), v_rows_t45) hw _ _ ls hP hD hS (lv_sub hl [1, 2, 3, 4, 0] rfl)
    unfold wp_X3_takeSide_3 at hw
    refine lv_iload hx hb dX3_takeSide_3 (lv_at hl 4 rfl) ?_
    refine lv_bipush (v := 16) hx hb dX3_takeSide_5 (by decide) ?_
    refine lv_icmp_ge (tgt := 52) hx hb dX3_takeSide_7 (by decide) (fun c7 => ?_) (fun c7 => ?_)
    · have hw := hw.1 c7
      exact RT v_rows_j3 _ _ _ _ dX3_takeSide_52 hw hP hD hS
    · have hw := hw.2 c7
      refine lv_iload_n hx hb dX3_takeSide_10 rfl (lv_at hl 2 rfl) ?_
      refine lv_iload hx hb dX3_takeSide_11 (lv_at hl 4 rfl) ?_
      refine af_i (X := (W_X3_takeSide h a h1 b1 cI cJ cZ v_rows_j3 q1_rows)) (pl := []) (cx := ([] : va_W)) (w1 := fun (u : Unit) => ([] : va_W)) (X' := fun (u : Unit) => (W_X3_takeSide h a h1 b1 cI cJ cZ v_rows_j3 q1_rows)) hP hD hS hA [] [0, 1, 2, 3] [0, 1, 2, 3] rfl rfl (by decide) (by decide) (fun u => rfl) (by decide) (va_runS (As := [.int p2, .int x4_j3]) (rest := []) ⟨hx, hb, hml, hown, hts⟩ (c_X3_columnsBeyond l D cI cJ cZ cO H.size p2 x4_j3 _ hw) (va_cwS 2 hts gX3_takeSide_X3_columnsBeyond rfl rfl rfl (by decide +kernel) ⟨Nat.le_of_ble_eq_true rfl, Nat.le_of_ble_eq_true rfl⟩) (preS (X := (W_X3_takeSide h a h1 b1 cI cJ cZ v_rows_j3 q1_rows)) (pl := []) (cx := ([] : va_W)) hK hE hP hD [] (by decide) rfl) rfl rfl hl.1 rfl (lv_room (Nat.le_of_ble_eq_true rfl)) dX3_takeSide_13 ⟨Nat.zero_le _, Nat.zero_le _⟩) (fun r_13 _ H locs hw hP hD hS => ?_)
      try dsimp only at hw
      have hP : va_P D vwCl (W_X3_takeSide h a h1 b1 cI cJ cZ v_rows_j3 q1_rows) H := hP
      have hD : va_D A (W_X3_takeSide h a h1 b1 cI cJ cZ v_rows_j3 q1_rows) := hD
      refine lv_istore (lv' := [(5, .int r_13), (0, .ref h), (1, .ref h1), (2, .int p2), (3, .int p3), (4, .int x4_j3)]) hx hb dX3_takeSide_16 hl (by decide) rfl (fun ls hl => ?_)
      refine lv_aload_n hx hb dX3_takeSide_18 rfl (lv_at hl 1 rfl) ?_
      refine va_get (D := D) (ci := 4) (v := .ref (a 0)) (C := RX3) (T := TX3) (N := 2) hx hb hts iRX3 hown hK hP 0 rfl rfl 0 (by decide) (hts (.fieldLink RX3 9 "Leadlight$Shape" "rows" "[I") (List.mem_of_getElem? (i := 1) rfl)) (fun _ h9 => h9) rfl dX3_takeSide_19 ?_
      refine lv_iload hx hb dX3_takeSide_22 (lv_at hl 5 rfl) ?_
      refine lv_aload_n hx hb dX3_takeSide_24 rfl (lv_at hl 2 rfl) ?_
      refine va_get (D := D) (ci := 4) (v := .ref (b1 0)) (C := RX3) (T := TX3) (N := 2) hx hb hts iRX3 hown hK hP 2 rfl rfl 0 (by decide) (hts (.fieldLink RX3 9 "Leadlight$Shape" "rows" "[I") (List.mem_of_getElem? (i := 1) rfl)) (fun _ h9 => h9) rfl dX3_takeSide_25 ?_
      refine lv_iload hx hb dX3_takeSide_28 (lv_at hl 5 rfl) ?_
      obtain ⟨hi_30, hw⟩ := hw
      refine va_iald hx hb hK hP 3 0 rfl rfl hi_30 dX3_takeSide_30 ?_
      refine lv_iload_n hx hb dX3_takeSide_31 rfl (lv_at hl 4 rfl) ?_
      refine lv_if_eq (tgt := 40) hx hb dX3_takeSide_32 (by decide) (fun c32 => ?_) (fun c32 => ?_)
      · have hw := hw.1 c32
        refine lv_iload hx hb dX3_takeSide_40 (lv_at hl 0 rfl) ?_
        refine lv_iconst (v := (-1)) hx hb dX3_takeSide_42 (by decide) ?_
        refine lv_ixor hx hb dX3_takeSide_43 ?_
        exact J44 x4_j3 (q1_rows x4_j3.toNatClampNeg) (r_13 ^^^ (-1)) x4_j3 v_rows_j3 hw _ _ ls hP hD hS (lv_sub hl [1, 2, 3, 4, 5] rfl)
      · have hw := hw.2 c32
        refine lv_iload hx hb dX3_takeSide_35 (lv_at hl 0 rfl) ?_
        refine lv_goto (tgt := 44) hx hb dX3_takeSide_37 (by decide) ?_
        exact J44 x4_j3 (q1_rows x4_j3.toNatClampNeg) r_13 x4_j3 v_rows_j3 hw _ _ ls hP hD hS (lv_sub hl [1, 2, 3, 4, 5] rfl)
  refine lv_iconst (v := 0) hx hb dX3_takeSide_0 (by decide) ?_
  refine lv_istore (lv' := [(4, .int 0), (0, .ref h), (1, .ref h1), (2, .int p2), (3, .int p3)]) hx hb dX3_takeSide_1 hl (by decide) rfl (fun ls hl => ?_)
  exact L3 (0, v_rows) hw _ _ ls hP hD hS (lv_sub hl [1, 2, 3, 4, 0] rfl)
abbrev rm_X3_leave : Room := { frames := 0, cells := 0, slots := 0, locals := 0 }
abbrev W_X3_leave (h : Nat) (a : Nat → Nat) (cI cJ cZ : ClassId) (v_rows : Nat → Int32) : va_W := [(h, .inr (4, [.ref (a 0), .ref (a 1)])), ((a 0), .inl (cI, 16, .inl v_rows))]
def wp_X3_leave (v_rows : Nat → Int32) (p1 : Int32) (post : (Nat → Int32) → Prop) : Prop := (p1 < 0 → post v_rows) ∧ (¬ p1 < 0 → (256 ≤ p1 → post v_rows) ∧ (¬ 256 ≤ p1 → vp_in (p1 / 16) 16 ∧ (vp_in (p1 / 16) 16 ∧ (∀ v_rows_t30 : Nat → Int32, v_rows_t30 = upd v_rows (p1 / 16).toNatClampNeg ((v_rows (p1 / 16).toNatClampNeg) &&& ((1 <<< ((p1 - p1 / 16 * 16) &&& 31)) ^^^ (-1))) → post v_rows_t30))))
set_option maxHeartbeats 4000000 in
set_option maxRecDepth 100000 in
theorem c_X3_leave (l : Launch) (D : va_G) (cI cJ cZ cO : ClassId) (h : Nat) (a : Nat → Nat) (sz : Nat) (v_rows : Nat → Int32) (p1 : Int32) (post : (Nat → Int32) → Prop) (hw : wp_X3_leave v_rows p1 post) : Met l yX3_leave wsX3_leave rm_X3_leave (va_Pc [.ref h, .int p1] (PRE D cI cJ cZ cO (W_X3_leave h a cI cJ cZ v_rows) sz)) (va_Qv (fun (u : (Nat → Int32)) => post u) (fun u t => POST D (va_A (W_X3_leave h a cI cJ cZ v_rows) sz) (W_X3_leave h a cI cJ cZ u) t) (va_A (W_X3_leave h a cI cJ cZ v_rows) sz)) 0 0 (va_A (W_X3_leave h a cI cJ cZ v_rows) sz) := by
  refine met_go (cc := cX3_leave) (maxL := 2) (ret := none) RX3 rfl (by decide) rfl (Nat.le_of_ble_eq_true rfl) ?_
  intro p e s m args below meth c ls hx hb hr hts hown hlocks hin hml hsz hP hK hE hD hA hS hl
  have iRX3 : ∀ w ∈ u_ws RX3 TX3 2, w ∈ wsX3_leave := mem_seg 2 2 rfl
  generalize va_A (W_X3_leave h a cI cJ cZ v_rows) sz = A at hD hA hS ⊢
  have RT : ∀ (u : (Nat → Int32)) (H : Heap) (locs : List Loc) (pc : Nat) (ls : Array Slot), decode cX3_leave pc = .ok (.return_, 1) → post u → va_P D vwCl (W_X3_leave h a cI cJ cZ u) H → va_D A (W_X3_leave h a cI cJ cZ u) → va_S A s.heap H locs → W p l e rm_X3_leave s m args below meth c H locs 0 0 (MQ below (va_Qv (fun (u : (Nat → Int32)) => post u) (fun u t => POST D A (W_X3_leave h a cI cJ cZ u) t) A) args s 0 0 A) (F0 m pc ls []) := fun u H locs pc ls d g1 g2 g3 g4 => rt_v (Wf := fun u => (W_X3_leave h a cI cJ cZ u)) u hx hb hr hlocks g1 g2 g3 g4 d
  generalize (MQ below (va_Qv (fun (u : (Nat → Int32)) => post u) (fun u t => POST D A (W_X3_leave h a cI cJ cZ u) t) A) args s 0 0 A) = QQ at RT ⊢
  have hl : lv_has ls 2 [(0, .ref h), (1, .int p1)] := hl
  have hP : va_P D vwCl (W_X3_leave h a cI cJ cZ v_rows) s.heap := hP
  unfold wp_X3_leave at hw
  suffices GO : ∀ (H : Heap) (locs : List Loc), va_P D vwCl (W_X3_leave h a cI cJ cZ v_rows) H → va_S A s.heap H locs → W p l e rm_X3_leave s m args below meth c H locs 0 0 QQ (F0 m 0 ls []) from GO _ _ hP hS
  clear hsz hP hS
  intro H locs hP hS
  refine lv_iload_n hx hb dX3_leave_0 rfl (lv_at hl 1 rfl) ?_
  refine lv_if_lt (tgt := 31) hx hb dX3_leave_1 (by decide) (fun c1 => ?_) (fun c1 => ?_)
  · have hw := hw.1 c1
    exact RT v_rows _ _ _ _ dX3_leave_31 hw hP hD hS
  · have hw := hw.2 c1
    refine lv_iload_n hx hb dX3_leave_4 rfl (lv_at hl 1 rfl) ?_
    refine lv_sipush (v := 256) hx hb dX3_leave_5 (by decide) ?_
    refine lv_icmp_ge (tgt := 31) hx hb dX3_leave_8 (by decide) (fun c8 => ?_) (fun c8 => ?_)
    · have hw := hw.1 c8
      exact RT v_rows _ _ _ _ dX3_leave_31 hw hP hD hS
    · have hw := hw.2 c8
      refine lv_aload_n hx hb dX3_leave_11 rfl (lv_at hl 0 rfl) ?_
      refine va_get (D := D) (ci := 4) (v := .ref (a 0)) (C := RX3) (T := TX3) (N := 2) hx hb hts iRX3 hown hK hP 0 rfl rfl 0 (by decide) (hts (.fieldLink RX3 9 "Leadlight$Shape" "rows" "[I") (List.mem_of_getElem? (i := 1) rfl)) (fun _ h9 => h9) rfl dX3_leave_12 ?_
      refine lv_iload_n hx hb dX3_leave_15 rfl (lv_at hl 1 rfl) ?_
      refine lv_bipush (v := 16) hx hb dX3_leave_16 (by decide) ?_
      refine lv_idiv hx hb dX3_leave_18 (by decide) ?_
      refine lv_dup2_11 hx hb dX3_leave_19 rfl rfl ?_
      obtain ⟨hi_20, hw⟩ := hw
      refine va_iald hx hb hK hP 1 0 rfl rfl hi_20 dX3_leave_20 ?_
      refine lv_iconst (v := 1) hx hb dX3_leave_21 (by decide) ?_
      refine lv_iload_n hx hb dX3_leave_22 rfl (lv_at hl 1 rfl) ?_
      refine lv_bipush (v := 16) hx hb dX3_leave_23 (by decide) ?_
      refine lv_irem hx hb dX3_leave_25 (by decide) ?_
      refine lv_ishl hx hb dX3_leave_26 ?_
      refine lv_iconst (v := (-1)) hx hb dX3_leave_27 (by decide) ?_
      refine lv_ixor hx hb dX3_leave_28 ?_
      refine lv_iand hx hb dX3_leave_29 ?_
      obtain ⟨hi_30, hw⟩ := hw
      refine st_i hx hb hK hP hD hS 1 0 rfl rfl hi_30 dX3_leave_30 (fun v_rows_t30 ev_rows_t30 H locs hP hD hS => ?_)
      have hw := hw v_rows_t30 ev_rows_t30
      have hP : va_P D vwCl (W_X3_leave h a cI cJ cZ v_rows_t30) H := hP
      have hD : va_D A (W_X3_leave h a cI cJ cZ v_rows_t30) := hD
      exact RT v_rows_t30 _ _ _ _ dX3_leave_31 hw hP hD hS
