/-! printed by wip/whole/gen: X0_leadsAtCorner X0_jointCount X0_addSupport X0_findSupports X0_lowestReady X0_putInAt X0_crossedBehind -/
abbrev rm_X0_leadsAtCorner : Room := { frames := 1, cells := 0, slots := 0, locals := 22 }
abbrev W_X0_leadsAtCorner (h : Nat) (a : Nat → Nat) (cI cJ cZ : ClassId) (v_owners : Nat → Int32) : va_W := [(h, .inr (1, [.ref (a 0), .ref (a 1)])), ((a 0), .inl (cI, 256, .inl v_owners))]
def wp_X0_leadsAtCorner (v_owners : Nat → Int32) (p1 : Int32) (p2 : Int32) (post : Int32 → Prop) : Prop := wp_X0_ownerAt v_owners p1 p2 (fun r_3 => wp_X0_ownerAt v_owners p1 (p2 - 1) (fun r_12 => wp_X0_ownerAt v_owners (p1 - 1) p2 (fun r_22 => wp_X0_ownerAt v_owners (p1 - 1) (p2 - 1) (fun r_34 => wp_X0_leadsBetween r_3 r_12 (fun r_42 => wp_X0_leadsBetween r_3 r_22 (fun r_48 => wp_X0_leadsBetween r_34 r_12 (fun r_56 => wp_X0_leadsBetween r_34 r_22 (fun r_64 => post (((r_42 + r_48) + r_56) + r_64)))))))))
set_option maxHeartbeats 4000000 in
set_option maxRecDepth 100000 in
theorem c_X0_leadsAtCorner (l : Launch) (D : va_G) (cI cJ cZ cO : ClassId) (h : Nat) (a : Nat → Nat) (sz : Nat) (v_owners : Nat → Int32) (p1 : Int32) (p2 : Int32) (post : Int32 → Prop) (hw : wp_X0_leadsAtCorner v_owners p1 p2 post) : Met l yX0_leadsAtCorner wsX0_leadsAtCorner rm_X0_leadsAtCorner (va_Pc [.ref h, .int p1, .int p2] (PRE D cI cJ cZ cO (W_X0_leadsAtCorner h a cI cJ cZ v_owners) sz)) (va_Qi (fun r (_ : Unit) => post r) (fun u t => POST D (va_A (W_X0_leadsAtCorner h a cI cJ cZ v_owners) sz) (W_X0_leadsAtCorner h a cI cJ cZ v_owners) t) (va_A (W_X0_leadsAtCorner h a cI cJ cZ v_owners) sz)) 0 0 (va_A (W_X0_leadsAtCorner h a cI cJ cZ v_owners) sz) := by
  refine met_go (cc := cX0_leadsAtCorner) (maxL := 7) (ret := some .int) RX0 rfl (by decide) rfl (Nat.le_of_ble_eq_true rfl) ?_
  intro p e s m args below meth c ls hx hb hr hts hown hlocks hin hml hsz hP hK hE hD hA hS hl
  have iRX0 : ∀ w ∈ u_ws RX0 TX0 2, w ∈ wsX0_leadsAtCorner := mem_seg 10 2 rfl
  generalize va_A (W_X0_leadsAtCorner h a cI cJ cZ v_owners) sz = A at hD hA hS ⊢
  have RT : ∀ (v : Int32) (u : Unit) (H : Heap) (locs : List Loc) (pc : Nat) (ls : Array Slot), decode cX0_leadsAtCorner pc = .ok (.ireturn, 1) → post v → va_P D vwCl (W_X0_leadsAtCorner h a cI cJ cZ v_owners) H → va_D A (W_X0_leadsAtCorner h a cI cJ cZ v_owners) → va_S A s.heap H locs → W p l e rm_X0_leadsAtCorner s m args below meth c H locs 0 0 (MQ below (va_Qi (fun r (_ : Unit) => post r) (fun u t => POST D A (W_X0_leadsAtCorner h a cI cJ cZ v_owners) t) A) args s 0 0 A) (F0 m pc ls [.int v]) := fun v u H locs pc ls d g1 g2 g3 g4 => rt_i (Wf := fun u => (W_X0_leadsAtCorner h a cI cJ cZ v_owners)) u hx hb hr hlocks g1 g2 g3 g4 d
  generalize (MQ below (va_Qi (fun r (_ : Unit) => post r) (fun u t => POST D A (W_X0_leadsAtCorner h a cI cJ cZ v_owners) t) A) args s 0 0 A) = QQ at RT ⊢
  have hl : lv_has ls 7 [(0, .ref h), (1, .int p1), (2, .int p2)] := hl
  have hP : va_P D vwCl (W_X0_leadsAtCorner h a cI cJ cZ v_owners) s.heap := hP
  unfold wp_X0_leadsAtCorner at hw
  suffices GO : ∀ (H : Heap) (locs : List Loc), va_P D vwCl (W_X0_leadsAtCorner h a cI cJ cZ v_owners) H → va_S A s.heap H locs → W p l e rm_X0_leadsAtCorner s m args below meth c H locs 0 0 QQ (F0 m 0 ls []) from GO _ _ hP hS
  clear hsz hP hS
  intro H locs hP hS
  refine lv_aload_n hx hb dX0_leadsAtCorner_0 rfl (lv_at hl 0 rfl) ?_
  refine lv_iload_n hx hb dX0_leadsAtCorner_1 rfl (lv_at hl 1 rfl) ?_
  refine lv_iload_n hx hb dX0_leadsAtCorner_2 rfl (lv_at hl 2 rfl) ?_
  refine af_i (X := (W_X0_leadsAtCorner h a cI cJ cZ v_owners)) (pl := []) (cx := (W_X0_ownerAt h a cI cJ cZ v_owners)) (w1 := fun (u : Unit) => (W_X0_ownerAt h a cI cJ cZ v_owners)) (X' := fun (u : Unit) => (W_X0_leadsAtCorner h a cI cJ cZ v_owners)) hP hD hS hA [0, 1] [] [0, 1] rfl rfl (by decide) (by decide) (fun u => rfl) (by decide) (va_runV (As := [.int p1, .int p2]) (rest := []) ⟨hx, hb, hml, hown, hts⟩ (c_X0_ownerAt l D cI cJ cZ cO h a H.size v_owners p1 p2 _ hw) (cwV 2 hts gX0_leadsAtCorner_X0_ownerAt rfl rfl rfl (by decide +kernel) ⟨Nat.le_of_ble_eq_true rfl, Nat.le_of_ble_eq_true rfl⟩) (preV (X := (W_X0_leadsAtCorner h a cI cJ cZ v_owners)) (pl := []) (cx := (W_X0_ownerAt h a cI cJ cZ v_owners)) (qb := 0) (ci := 1) hK hE hP hD [0, 1] (by decide) rfl rfl rfl) rfl rfl hl.1 rfl (lv_room (Nat.le_of_ble_eq_true rfl)) dX0_leadsAtCorner_3 ⟨Nat.zero_le _, Nat.zero_le _⟩) (fun r_3 _ H locs hw hP hD hS => ?_)
  try dsimp only at hw
  have hP : va_P D vwCl (W_X0_leadsAtCorner h a cI cJ cZ v_owners) H := hP
  have hD : va_D A (W_X0_leadsAtCorner h a cI cJ cZ v_owners) := hD
  refine lv_istore_n (lv' := [(3, .int r_3), (0, .ref h), (1, .int p1), (2, .int p2)]) hx hb dX0_leadsAtCorner_6 rfl hl (by decide) rfl (fun ls hl => ?_)
  refine lv_aload_n hx hb dX0_leadsAtCorner_7 rfl (lv_at hl 1 rfl) ?_
  refine lv_iload_n hx hb dX0_leadsAtCorner_8 rfl (lv_at hl 2 rfl) ?_
  refine lv_iload_n hx hb dX0_leadsAtCorner_9 rfl (lv_at hl 3 rfl) ?_
  refine lv_iconst (v := 1) hx hb dX0_leadsAtCorner_10 (by decide) ?_
  refine lv_isub hx hb dX0_leadsAtCorner_11 ?_
  refine af_i (X := (W_X0_leadsAtCorner h a cI cJ cZ v_owners)) (pl := []) (cx := (W_X0_ownerAt h a cI cJ cZ v_owners)) (w1 := fun (u : Unit) => (W_X0_ownerAt h a cI cJ cZ v_owners)) (X' := fun (u : Unit) => (W_X0_leadsAtCorner h a cI cJ cZ v_owners)) hP hD hS hA [0, 1] [] [0, 1] rfl rfl (by decide) (by decide) (fun u => rfl) (by decide) (va_runV (As := [.int p1, .int (p2 - 1)]) (rest := []) ⟨hx, hb, hml, hown, hts⟩ (c_X0_ownerAt l D cI cJ cZ cO h a H.size v_owners p1 (p2 - 1) _ hw) (cwV 2 hts gX0_leadsAtCorner_X0_ownerAt rfl rfl rfl (by decide +kernel) ⟨Nat.le_of_ble_eq_true rfl, Nat.le_of_ble_eq_true rfl⟩) (preV (X := (W_X0_leadsAtCorner h a cI cJ cZ v_owners)) (pl := []) (cx := (W_X0_ownerAt h a cI cJ cZ v_owners)) (qb := 0) (ci := 1) hK hE hP hD [0, 1] (by decide) rfl rfl rfl) rfl rfl hl.1 rfl (lv_room (Nat.le_of_ble_eq_true rfl)) dX0_leadsAtCorner_12 ⟨Nat.zero_le _, Nat.zero_le _⟩) (fun r_12 _ H locs hw hP hD hS => ?_)
  try dsimp only at hw
  have hP : va_P D vwCl (W_X0_leadsAtCorner h a cI cJ cZ v_owners) H := hP
  have hD : va_D A (W_X0_leadsAtCorner h a cI cJ cZ v_owners) := hD
  refine lv_istore (lv' := [(4, .int r_12), (3, .int r_3), (0, .ref h), (1, .int p1), (2, .int p2)]) hx hb dX0_leadsAtCorner_15 hl (by decide) rfl (fun ls hl => ?_)
  refine lv_aload_n hx hb dX0_leadsAtCorner_17 rfl (lv_at hl 2 rfl) ?_
  refine lv_iload_n hx hb dX0_leadsAtCorner_18 rfl (lv_at hl 3 rfl) ?_
  refine lv_iconst (v := 1) hx hb dX0_leadsAtCorner_19 (by decide) ?_
  refine lv_isub hx hb dX0_leadsAtCorner_20 ?_
  refine lv_iload_n hx hb dX0_leadsAtCorner_21 rfl (lv_at hl 4 rfl) ?_
  refine af_i (X := (W_X0_leadsAtCorner h a cI cJ cZ v_owners)) (pl := []) (cx := (W_X0_ownerAt h a cI cJ cZ v_owners)) (w1 := fun (u : Unit) => (W_X0_ownerAt h a cI cJ cZ v_owners)) (X' := fun (u : Unit) => (W_X0_leadsAtCorner h a cI cJ cZ v_owners)) hP hD hS hA [0, 1] [] [0, 1] rfl rfl (by decide) (by decide) (fun u => rfl) (by decide) (va_runV (As := [.int (p1 - 1), .int p2]) (rest := []) ⟨hx, hb, hml, hown, hts⟩ (c_X0_ownerAt l D cI cJ cZ cO h a H.size v_owners (p1 - 1) p2 _ hw) (cwV 2 hts gX0_leadsAtCorner_X0_ownerAt rfl rfl rfl (by decide +kernel) ⟨Nat.le_of_ble_eq_true rfl, Nat.le_of_ble_eq_true rfl⟩) (preV (X := (W_X0_leadsAtCorner h a cI cJ cZ v_owners)) (pl := []) (cx := (W_X0_ownerAt h a cI cJ cZ v_owners)) (qb := 0) (ci := 1) hK hE hP hD [0, 1] (by decide) rfl rfl rfl) rfl rfl hl.1 rfl (lv_room (Nat.le_of_ble_eq_true rfl)) dX0_leadsAtCorner_22 ⟨Nat.zero_le _, Nat.zero_le _⟩) (fun r_22 _ H locs hw hP hD hS => ?_)
  try dsimp only at hw
  have hP : va_P D vwCl (W_X0_leadsAtCorner h a cI cJ cZ v_owners) H := hP
  have hD : va_D A (W_X0_leadsAtCorner h a cI cJ cZ v_owners) := hD
  refine lv_istore (lv' := [(5, .int r_22), (4, .int r_12), (3, .int r_3), (0, .ref h), (1, .int p1), (2, .int p2)]) hx hb dX0_leadsAtCorner_25 hl (by decide) rfl (fun ls hl => ?_)
  refine lv_aload_n hx hb dX0_leadsAtCorner_27 rfl (lv_at hl 3 rfl) ?_
  refine lv_iload_n hx hb dX0_leadsAtCorner_28 rfl (lv_at hl 4 rfl) ?_
  refine lv_iconst (v := 1) hx hb dX0_leadsAtCorner_29 (by decide) ?_
  refine lv_isub hx hb dX0_leadsAtCorner_30 ?_
  refine lv_iload_n hx hb dX0_leadsAtCorner_31 rfl (lv_at hl 5 rfl) ?_
  refine lv_iconst (v := 1) hx hb dX0_leadsAtCorner_32 (by decide) ?_
  refine lv_isub hx hb dX0_leadsAtCorner_33 ?_
  refine af_i (X := (W_X0_leadsAtCorner h a cI cJ cZ v_owners)) (pl := []) (cx := (W_X0_ownerAt h a cI cJ cZ v_owners)) (w1 := fun (u : Unit) => (W_X0_ownerAt h a cI cJ cZ v_owners)) (X' := fun (u : Unit) => (W_X0_leadsAtCorner h a cI cJ cZ v_owners)) hP hD hS hA [0, 1] [] [0, 1] rfl rfl (by decide) (by decide) (fun u => rfl) (by decide) (va_runV (As := [.int (p1 - 1), .int (p2 - 1)]) (rest := []) ⟨hx, hb, hml, hown, hts⟩ (c_X0_ownerAt l D cI cJ cZ cO h a H.size v_owners (p1 - 1) (p2 - 1) _ hw) (cwV 2 hts gX0_leadsAtCorner_X0_ownerAt rfl rfl rfl (by decide +kernel) ⟨Nat.le_of_ble_eq_true rfl, Nat.le_of_ble_eq_true rfl⟩) (preV (X := (W_X0_leadsAtCorner h a cI cJ cZ v_owners)) (pl := []) (cx := (W_X0_ownerAt h a cI cJ cZ v_owners)) (qb := 0) (ci := 1) hK hE hP hD [0, 1] (by decide) rfl rfl rfl) rfl rfl hl.1 rfl (lv_room (Nat.le_of_ble_eq_true rfl)) dX0_leadsAtCorner_34 ⟨Nat.zero_le _, Nat.zero_le _⟩) (fun r_34 _ H locs hw hP hD hS => ?_)
  try dsimp only at hw
  have hP : va_P D vwCl (W_X0_leadsAtCorner h a cI cJ cZ v_owners) H := hP
  have hD : va_D A (W_X0_leadsAtCorner h a cI cJ cZ v_owners) := hD
  refine lv_istore (lv' := [(6, .int r_34), (5, .int r_22), (4, .int r_12), (3, .int r_3), (0, .ref h), (1, .int p1), (2, .int p2)]) hx hb dX0_leadsAtCorner_37 hl (by decide) rfl (fun ls hl => ?_)
  refine lv_iload_n hx hb dX0_leadsAtCorner_39 rfl (lv_at hl 3 rfl) ?_
  refine lv_iload hx hb dX0_leadsAtCorner_40 (lv_at hl 2 rfl) ?_
  refine af_i (X := (W_X0_leadsAtCorner h a cI cJ cZ v_owners)) (pl := []) (cx := ([] : va_W)) (w1 := fun (u : Unit) => ([] : va_W)) (X' := fun (u : Unit) => (W_X0_leadsAtCorner h a cI cJ cZ v_owners)) hP hD hS hA [] [0, 1] [0, 1] rfl rfl (by decide) (by decide) (fun u => rfl) (by decide) (va_runS (As := [.int r_3, .int r_12]) (rest := []) ⟨hx, hb, hml, hown, hts⟩ (c_X0_leadsBetween l D cI cJ cZ cO H.size r_3 r_12 _ hw) (va_cwS 2 hts gX0_leadsAtCorner_X0_leadsBetween rfl rfl rfl (by decide +kernel) ⟨Nat.le_of_ble_eq_true rfl, Nat.le_of_ble_eq_true rfl⟩) (preS (X := (W_X0_leadsAtCorner h a cI cJ cZ v_owners)) (pl := []) (cx := ([] : va_W)) hK hE hP hD [] (by decide) rfl) rfl rfl hl.1 rfl (lv_room (Nat.le_of_ble_eq_true rfl)) dX0_leadsAtCorner_42 ⟨Nat.zero_le _, Nat.zero_le _⟩) (fun r_42 _ H locs hw hP hD hS => ?_)
  try dsimp only at hw
  have hP : va_P D vwCl (W_X0_leadsAtCorner h a cI cJ cZ v_owners) H := hP
  have hD : va_D A (W_X0_leadsAtCorner h a cI cJ cZ v_owners) := hD
  refine lv_iload_n hx hb dX0_leadsAtCorner_45 rfl (lv_at hl 3 rfl) ?_
  refine lv_iload hx hb dX0_leadsAtCorner_46 (lv_at hl 1 rfl) ?_
  refine af_i (X := (W_X0_leadsAtCorner h a cI cJ cZ v_owners)) (pl := []) (cx := ([] : va_W)) (w1 := fun (u : Unit) => ([] : va_W)) (X' := fun (u : Unit) => (W_X0_leadsAtCorner h a cI cJ cZ v_owners)) hP hD hS hA [] [0, 1] [0, 1] rfl rfl (by decide) (by decide) (fun u => rfl) (by decide) (va_runS (As := [.int r_3, .int r_22]) (rest := [.int r_42]) ⟨hx, hb, hml, hown, hts⟩ (c_X0_leadsBetween l D cI cJ cZ cO H.size r_3 r_22 _ hw) (va_cwS 2 hts gX0_leadsAtCorner_X0_leadsBetween rfl rfl rfl (by decide +kernel) ⟨Nat.le_of_ble_eq_true rfl, Nat.le_of_ble_eq_true rfl⟩) (preS (X := (W_X0_leadsAtCorner h a cI cJ cZ v_owners)) (pl := []) (cx := ([] : va_W)) hK hE hP hD [] (by decide) rfl) rfl rfl hl.1 rfl (lv_room (Nat.le_of_ble_eq_true rfl)) dX0_leadsAtCorner_48 ⟨Nat.zero_le _, Nat.zero_le _⟩) (fun r_48 _ H locs hw hP hD hS => ?_)
  try dsimp only at hw
  have hP : va_P D vwCl (W_X0_leadsAtCorner h a cI cJ cZ v_owners) H := hP
  have hD : va_D A (W_X0_leadsAtCorner h a cI cJ cZ v_owners) := hD
  refine lv_iadd hx hb dX0_leadsAtCorner_51 ?_
  refine lv_iload hx hb dX0_leadsAtCorner_52 (lv_at hl 0 rfl) ?_
  refine lv_iload hx hb dX0_leadsAtCorner_54 (lv_at hl 2 rfl) ?_
  refine af_i (X := (W_X0_leadsAtCorner h a cI cJ cZ v_owners)) (pl := []) (cx := ([] : va_W)) (w1 := fun (u : Unit) => ([] : va_W)) (X' := fun (u : Unit) => (W_X0_leadsAtCorner h a cI cJ cZ v_owners)) hP hD hS hA [] [0, 1] [0, 1] rfl rfl (by decide) (by decide) (fun u => rfl) (by decide) (va_runS (As := [.int r_34, .int r_12]) (rest := [.int (r_42 + r_48)]) ⟨hx, hb, hml, hown, hts⟩ (c_X0_leadsBetween l D cI cJ cZ cO H.size r_34 r_12 _ hw) (va_cwS 2 hts gX0_leadsAtCorner_X0_leadsBetween rfl rfl rfl (by decide +kernel) ⟨Nat.le_of_ble_eq_true rfl, Nat.le_of_ble_eq_true rfl⟩) (preS (X := (W_X0_leadsAtCorner h a cI cJ cZ v_owners)) (pl := []) (cx := ([] : va_W)) hK hE hP hD [] (by decide) rfl) rfl rfl hl.1 rfl (lv_room (Nat.le_of_ble_eq_true rfl)) dX0_leadsAtCorner_56 ⟨Nat.zero_le _, Nat.zero_le _⟩) (fun r_56 _ H locs hw hP hD hS => ?_)
  try dsimp only at hw
  have hP : va_P D vwCl (W_X0_leadsAtCorner h a cI cJ cZ v_owners) H := hP
  have hD : va_D A (W_X0_leadsAtCorner h a cI cJ cZ v_owners) := hD
  refine lv_iadd hx hb dX0_leadsAtCorner_59 ?_
  refine lv_iload hx hb dX0_leadsAtCorner_60 (lv_at hl 0 rfl) ?_
  refine lv_iload hx hb dX0_leadsAtCorner_62 (lv_at hl 1 rfl) ?_
  refine af_i (X := (W_X0_leadsAtCorner h a cI cJ cZ v_owners)) (pl := []) (cx := ([] : va_W)) (w1 := fun (u : Unit) => ([] : va_W)) (X' := fun (u : Unit) => (W_X0_leadsAtCorner h a cI cJ cZ v_owners)) hP hD hS hA [] [0, 1] [0, 1] rfl rfl (by decide) (by decide) (fun u => rfl) (by decide) (va_runS (As := [.int r_34, .int r_22]) (rest := [.int ((r_42 + r_48) + r_56)]) ⟨hx, hb, hml, hown, hts⟩ (c_X0_leadsBetween l D cI cJ cZ cO H.size r_34 r_22 _ hw) (va_cwS 2 hts gX0_leadsAtCorner_X0_leadsBetween rfl rfl rfl (by decide +kernel) ⟨Nat.le_of_ble_eq_true rfl, Nat.le_of_ble_eq_true rfl⟩) (preS (X := (W_X0_leadsAtCorner h a cI cJ cZ v_owners)) (pl := []) (cx := ([] : va_W)) hK hE hP hD [] (by decide) rfl) rfl rfl hl.1 rfl (lv_room (Nat.le_of_ble_eq_true rfl)) dX0_leadsAtCorner_64 ⟨Nat.zero_le _, Nat.zero_le _⟩) (fun r_64 _ H locs hw hP hD hS => ?_)
  try dsimp only at hw
  have hP : va_P D vwCl (W_X0_leadsAtCorner h a cI cJ cZ v_owners) H := hP
  have hD : va_D A (W_X0_leadsAtCorner h a cI cJ cZ v_owners) := hD
  refine lv_iadd hx hb dX0_leadsAtCorner_67 ?_
  exact RT (((r_42 + r_48) + r_56) + r_64) () _ _ _ _ dX0_leadsAtCorner_68 hw hP hD hS
abbrev rm_X0_jointCount : Room := { frames := 2, cells := 0, slots := 0, locals := 48 }
abbrev W_X0_jointCount (h : Nat) (a : Nat → Nat) (cI cJ cZ : ClassId) (v_owners : Nat → Int32) : va_W := [(h, .inr (1, [.ref (a 0), .ref (a 1)])), ((a 0), .inl (cI, 256, .inl v_owners))]
def wp_X0_jointCount_12 (v_owners : Nat → Int32) (post : Int32 → Prop) (K4 : Int32 → Int32 → Prop) (K12 : Int32 → Int32 → Int32 → Prop) (x1_j12 : Int32) (x2_j12 : Int32) (x3_j12 : Int32) : Prop := (16 < x3_j12 → K4 x1_j12 (x2_j12 + 1)) ∧ (¬ 16 < x3_j12 → wp_X0_leadsAtCorner v_owners x2_j12 x3_j12 (fun r_21 => (r_21 < 3 → K12 x1_j12 x2_j12 (x3_j12 + 1)) ∧ (¬ r_21 < 3 → K12 (x1_j12 + 1) x2_j12 (x3_j12 + 1))))
def lF_X0_jointCount_12 (v_owners : Nat → Int32) (post : Int32 → Prop) (K4 : Int32 → Int32 → Prop) : ((Int32 × Int32 × Int32) → Prop) → (Int32 × Int32 × Int32) → Prop := fun K s => wp_X0_jointCount_12 v_owners post K4 (fun b0 b1 b2 => K (b0, b1, b2)) s.1 s.2.1 s.2.2
def wp_X0_jointCount_4 (v_owners : Nat → Int32) (post : Int32 → Prop) (K4 : Int32 → Int32 → Prop) (x1_j4 : Int32) (x2_j4 : Int32) : Prop := (16 < x2_j4 → post x1_j4) ∧ (¬ 16 < x2_j4 → lp (lF_X0_jointCount_12 v_owners post K4) (x1_j4, x2_j4, 0))
def lF_X0_jointCount_4 (v_owners : Nat → Int32) (post : Int32 → Prop) : ((Int32 × Int32) → Prop) → (Int32 × Int32) → Prop := fun K s => wp_X0_jointCount_4 v_owners post (fun b0 b1 => K (b0, b1)) s.1 s.2
def wp_X0_jointCount (v_owners : Nat → Int32) (post : Int32 → Prop) : Prop := lp (lF_X0_jointCount_4 v_owners post) (0, 0)
set_option maxHeartbeats 4000000 in
set_option maxRecDepth 100000 in
theorem c_X0_jointCount (l : Launch) (D : va_G) (cI cJ cZ cO : ClassId) (h : Nat) (a : Nat → Nat) (sz : Nat) (v_owners : Nat → Int32) (post : Int32 → Prop) (hw : wp_X0_jointCount v_owners post) : Met l yX0_jointCount wsX0_jointCount rm_X0_jointCount (va_Pc [.ref h] (PRE D cI cJ cZ cO (W_X0_jointCount h a cI cJ cZ v_owners) sz)) (va_Qi (fun r (_ : Unit) => post r) (fun u t => POST D (va_A (W_X0_jointCount h a cI cJ cZ v_owners) sz) (W_X0_jointCount h a cI cJ cZ v_owners) t) (va_A (W_X0_jointCount h a cI cJ cZ v_owners) sz)) 0 0 (va_A (W_X0_jointCount h a cI cJ cZ v_owners) sz) := by
  refine met_go (cc := cX0_jointCount) (maxL := 4) (ret := some .int) RX0 rfl (by decide) rfl (Nat.le_of_ble_eq_true rfl) ?_
  intro p e s m args below meth c ls hx hb hr hts hown hlocks hin hml hsz hP hK hE hD hA hS hl
  have iRX0 : ∀ w ∈ u_ws RX0 TX0 2, w ∈ wsX0_jointCount := mem_seg 14 2 rfl
  generalize va_A (W_X0_jointCount h a cI cJ cZ v_owners) sz = A at hD hA hS ⊢
  have RT : ∀ (v : Int32) (u : Unit) (H : Heap) (locs : List Loc) (pc : Nat) (ls : Array Slot), decode cX0_jointCount pc = .ok (.ireturn, 1) → post v → va_P D vwCl (W_X0_jointCount h a cI cJ cZ v_owners) H → va_D A (W_X0_jointCount h a cI cJ cZ v_owners) → va_S A s.heap H locs → W p l e rm_X0_jointCount s m args below meth c H locs 0 0 (MQ below (va_Qi (fun r (_ : Unit) => post r) (fun u t => POST D A (W_X0_jointCount h a cI cJ cZ v_owners) t) A) args s 0 0 A) (F0 m pc ls [.int v]) := fun v u H locs pc ls d g1 g2 g3 g4 => rt_i (Wf := fun u => (W_X0_jointCount h a cI cJ cZ v_owners)) u hx hb hr hlocks g1 g2 g3 g4 d
  generalize (MQ below (va_Qi (fun r (_ : Unit) => post r) (fun u t => POST D A (W_X0_jointCount h a cI cJ cZ v_owners) t) A) args s 0 0 A) = QQ at RT ⊢
  have hl : lv_has ls 4 [(0, .ref h)] := hl
  have hP : va_P D vwCl (W_X0_jointCount h a cI cJ cZ v_owners) s.heap := hP
  unfold wp_X0_jointCount at hw
  suffices GO : ∀ (H : Heap) (locs : List Loc), va_P D vwCl (W_X0_jointCount h a cI cJ cZ v_owners) H → va_S A s.heap H locs → W p l e rm_X0_jointCount s m args below meth c H locs 0 0 QQ (F0 m 0 ls []) from GO _ _ hP hS
  clear hsz hP hS
  intro H locs hP hS
  have L4 : ∀ s0 : (Int32 × Int32), lp (lF_X0_jointCount_4 v_owners post) s0 → ∀ (H : Heap) (locs : List Loc) (ls : Array Slot), va_P D vwCl (W_X0_jointCount h a cI cJ cZ v_owners) H → va_D A (W_X0_jointCount h a cI cJ cZ v_owners) → va_S A s.heap H locs → lv_has ls 4 [(0, .ref h), (1, .int s0.1), (2, .int s0.2)] → W p l e rm_X0_jointCount s m args below meth c H locs 0 0 QQ (F0 m 4 ls []) := by
    refine lp_elim (fun K4 ih4 s0 hw => ?_)
    obtain ⟨x1_j4, x2_j4⟩ := s0
    intro H locs ls hP hD hS hl
    have hw : wp_X0_jointCount_4 v_owners post (fun b0 b1 => K4 (b0, b1)) x1_j4 x2_j4 := hw
    have hP : va_P D vwCl (W_X0_jointCount h a cI cJ cZ v_owners) H := hP
    have hD : va_D A (W_X0_jointCount h a cI cJ cZ v_owners) := hD
    have hl : lv_has ls 4 [(0, .ref h), (1, .int x1_j4), (2, .int x2_j4)] := hl
    have L12 : ∀ s0 : (Int32 × Int32 × Int32), lp (lF_X0_jointCount_12 v_owners post (fun b0 b1 => K4 (b0, b1))) s0 → ∀ (H : Heap) (locs : List Loc) (ls : Array Slot), va_P D vwCl (W_X0_jointCount h a cI cJ cZ v_owners) H → va_D A (W_X0_jointCount h a cI cJ cZ v_owners) → va_S A s.heap H locs → lv_has ls 4 [(0, .ref h), (1, .int s0.1), (2, .int s0.2.1), (3, .int s0.2.2)] → W p l e rm_X0_jointCount s m args below meth c H locs 0 0 QQ (F0 m 12 ls []) := by
      refine lp_elim (fun K12 ih12 s0 hw => ?_)
      obtain ⟨x1_j12, x2_j12, x3_j12⟩ := s0
      intro H locs ls hP hD hS hl
      have hw : wp_X0_jointCount_12 v_owners post (fun b0 b1 => K4 (b0, b1)) (fun b0 b1 b2 => K12 (b0, b1, b2)) x1_j12 x2_j12 x3_j12 := hw
      have hP : va_P D vwCl (W_X0_jointCount h a cI cJ cZ v_owners) H := hP
      have hD : va_D A (W_X0_jointCount h a cI cJ cZ v_owners) := hD
      have hl : lv_has ls 4 [(0, .ref h), (1, .int x1_j12), (2, .int x2_j12), (3, .int x3_j12)] := hl
      unfold wp_X0_jointCount_12 at hw
      refine lv_iload_n hx hb dX0_jointCount_12 rfl (lv_at hl 3 rfl) ?_
      refine lv_bipush (v := 16) hx hb dX0_jointCount_13 (by decide) ?_
      refine lv_icmp_gt (tgt := 37) hx hb dX0_jointCount_15 (by decide) (fun c15 => ?_) (fun c15 => ?_)
      · have hw := hw.1 c15
        refine lv_iinc (v := (x2_j12 + 1)) (lv' := [(2, .int (x2_j12 + 1)), (0, .ref h), (1, .int x1_j12), (3, .int x3_j12)]) hx hb dX0_jointCount_37 hl (k := 2) rfl rfl (by decide) rfl (fun ls hl => ?_)
        refine lv_goto (tgt := 4) hx hb dX0_jointCount_40 (by decide) ?_
        exact ih4 (x1_j12, (x2_j12 + 1)) hw _ _ ls hP hD hS (lv_sub hl [1, 2, 0] rfl)
      · have hw := hw.2 c15
        refine lv_aload_n hx hb dX0_jointCount_18 rfl (lv_at hl 0 rfl) ?_
        refine lv_iload_n hx hb dX0_jointCount_19 rfl (lv_at hl 2 rfl) ?_
        refine lv_iload_n hx hb dX0_jointCount_20 rfl (lv_at hl 3 rfl) ?_
        refine af_i (X := (W_X0_jointCount h a cI cJ cZ v_owners)) (pl := []) (cx := (W_X0_leadsAtCorner h a cI cJ cZ v_owners)) (w1 := fun (u : Unit) => (W_X0_leadsAtCorner h a cI cJ cZ v_owners)) (X' := fun (u : Unit) => (W_X0_jointCount h a cI cJ cZ v_owners)) hP hD hS hA [0, 1] [] [0, 1] rfl rfl (by decide) (by decide) (fun u => rfl) (by decide) (va_runV (As := [.int x2_j12, .int x3_j12]) (rest := []) ⟨hx, hb, hml, hown, hts⟩ (c_X0_leadsAtCorner l D cI cJ cZ cO h a H.size v_owners x2_j12 x3_j12 _ hw) (cwV 2 hts gX0_jointCount_X0_leadsAtCorner rfl rfl rfl (by decide +kernel) ⟨Nat.le_of_ble_eq_true rfl, Nat.le_of_ble_eq_true rfl⟩) (preV (X := (W_X0_jointCount h a cI cJ cZ v_owners)) (pl := []) (cx := (W_X0_leadsAtCorner h a cI cJ cZ v_owners)) (qb := 0) (ci := 1) hK hE hP hD [0, 1] (by decide) rfl rfl rfl) rfl rfl hl.1 rfl (lv_room (Nat.le_of_ble_eq_true rfl)) dX0_jointCount_21 ⟨Nat.zero_le _, Nat.zero_le _⟩) (fun r_21 _ H locs hw hP hD hS => ?_)
        try dsimp only at hw
        have hP : va_P D vwCl (W_X0_jointCount h a cI cJ cZ v_owners) H := hP
        have hD : va_D A (W_X0_jointCount h a cI cJ cZ v_owners) := hD
        refine lv_iconst (v := 3) hx hb dX0_jointCount_24 (by decide) ?_
        refine lv_icmp_lt (tgt := 31) hx hb dX0_jointCount_25 (by decide) (fun c25 => ?_) (fun c25 => ?_)
        · have hw := hw.1 c25
          refine lv_iinc (v := (x3_j12 + 1)) (lv' := [(3, .int (x3_j12 + 1)), (0, .ref h), (1, .int x1_j12), (2, .int x2_j12)]) hx hb dX0_jointCount_31 hl (k := 3) rfl rfl (by decide) rfl (fun ls hl => ?_)
          refine lv_goto (tgt := 12) hx hb dX0_jointCount_34 (by decide) ?_
          exact ih12 (x1_j12, x2_j12, (x3_j12 + 1)) hw _ _ ls hP hD hS (lv_sub hl [1, 2, 3, 0] rfl)
        · have hw := hw.2 c25
          refine lv_iinc (v := (x1_j12 + 1)) (lv' := [(1, .int (x1_j12 + 1)), (0, .ref h), (2, .int x2_j12), (3, .int x3_j12)]) hx hb dX0_jointCount_28 hl (k := 1) rfl rfl (by decide) rfl (fun ls hl => ?_)
          refine lv_iinc (v := (x3_j12 + 1)) (lv' := [(3, .int (x3_j12 + 1)), (1, .int (x1_j12 + 1)), (0, .ref h), (2, .int x2_j12)]) hx hb dX0_jointCount_31 hl (k := 3) rfl rfl (by decide) rfl (fun ls hl => ?_)
          refine lv_goto (tgt := 12) hx hb dX0_jointCount_34 (by decide) ?_
          exact ih12 ((x1_j12 + 1), x2_j12, (x3_j12 + 1)) hw _ _ ls hP hD hS (lv_sub hl [2, 1, 3, 0] rfl)
    unfold wp_X0_jointCount_4 at hw
    refine lv_iload_n hx hb dX0_jointCount_4 rfl (lv_at hl 2 rfl) ?_
    refine lv_bipush (v := 16) hx hb dX0_jointCount_5 (by decide) ?_
    refine lv_icmp_gt (tgt := 43) hx hb dX0_jointCount_7 (by decide) (fun c7 => ?_) (fun c7 => ?_)
    · have hw := hw.1 c7
      refine lv_iload_n hx hb dX0_jointCount_43 rfl (lv_at hl 1 rfl) ?_
      exact RT x1_j4 () _ _ _ _ dX0_jointCount_44 hw hP hD hS
    · have hw := hw.2 c7
      refine lv_iconst (v := 0) hx hb dX0_jointCount_10 (by decide) ?_
      refine lv_istore_n (lv' := [(3, .int 0), (0, .ref h), (1, .int x1_j4), (2, .int x2_j4)]) hx hb dX0_jointCount_11 rfl hl (by decide) rfl (fun ls hl => ?_)
      exact L12 (x1_j4, x2_j4, 0) hw _ _ ls hP hD hS (lv_sub hl [1, 2, 3, 0] rfl)
  refine lv_iconst (v := 0) hx hb dX0_jointCount_0 (by decide) ?_
  refine lv_istore_n (lv' := [(1, .int 0), (0, .ref h)]) hx hb dX0_jointCount_1 rfl hl (by decide) rfl (fun ls hl => ?_)
  refine lv_iconst (v := 0) hx hb dX0_jointCount_2 (by decide) ?_
  refine lv_istore_n (lv' := [(2, .int 0), (1, .int 0), (0, .ref h)]) hx hb dX0_jointCount_3 rfl hl (by decide) rfl (fun ls hl => ?_)
  exact L4 (0, 0) hw _ _ ls hP hD hS (lv_sub hl [2, 1, 0] rfl)
abbrev rm_X0_addSupport : Room := { frames := 1, cells := 0, slots := 0, locals := 20 }
abbrev W_X0_addSupport (h : Nat) (a : Nat → Nat) (cI cJ cZ : ClassId) (v_supports : Nat → Int64) : va_W := [(h, .inr (1, [.ref (a 0), .ref (a 1)])), ((a 1), .inl (cJ, 60, .inr (.inl v_supports)))]
def wp_X0_addSupport (v_supports : Nat → Int64) (p1 : Int32) (p2 : Int32) (post : (Nat → Int64) → Prop) : Prop := (p1 = p2 → post v_supports) ∧ (¬ p1 = p2 → wp_X4_isNumber p1 (fun r_6 => (r_6 = 0 → post v_supports) ∧ (¬ r_6 = 0 → wp_X4_isNumber p2 (fun r_13 => (r_13 = 0 → post v_supports) ∧ (¬ r_13 = 0 → vp_in p1 60 ∧ (vp_in p1 60 ∧ (∀ v_supports_t30 : Nat → Int64, v_supports_t30 = vp_updL v_supports p1.toNatClampNeg ((v_supports p1.toNatClampNeg) ||| ((1 : Int64) <<< ((p2 : Int32).toInt64 &&& 63))) → post v_supports_t30)))))))
set_option maxHeartbeats 4000000 in
set_option maxRecDepth 100000 in
theorem c_X0_addSupport (l : Launch) (D : va_G) (cI cJ cZ cO : ClassId) (h : Nat) (a : Nat → Nat) (sz : Nat) (v_supports : Nat → Int64) (p1 : Int32) (p2 : Int32) (post : (Nat → Int64) → Prop) (hw : wp_X0_addSupport v_supports p1 p2 post) : Met l yX0_addSupport wsX0_addSupport rm_X0_addSupport (va_Pc [.ref h, .int p1, .int p2] (PRE D cI cJ cZ cO (W_X0_addSupport h a cI cJ cZ v_supports) sz)) (va_Qv (fun (u : (Nat → Int64)) => post u) (fun u t => POST D (va_A (W_X0_addSupport h a cI cJ cZ v_supports) sz) (W_X0_addSupport h a cI cJ cZ u) t) (va_A (W_X0_addSupport h a cI cJ cZ v_supports) sz)) 0 0 (va_A (W_X0_addSupport h a cI cJ cZ v_supports) sz) := by
  refine met_go (cc := cX0_addSupport) (maxL := 3) (ret := none) RX0 rfl (by decide) rfl (Nat.le_of_ble_eq_true rfl) ?_
  intro p e s m args below meth c ls hx hb hr hts hown hlocks hin hml hsz hP hK hE hD hA hS hl
  have iRX0 : ∀ w ∈ u_ws RX0 TX0 2, w ∈ wsX0_addSupport := mem_seg 5 2 rfl
  generalize va_A (W_X0_addSupport h a cI cJ cZ v_supports) sz = A at hD hA hS ⊢
  have RT : ∀ (u : (Nat → Int64)) (H : Heap) (locs : List Loc) (pc : Nat) (ls : Array Slot), decode cX0_addSupport pc = .ok (.return_, 1) → post u → va_P D vwCl (W_X0_addSupport h a cI cJ cZ u) H → va_D A (W_X0_addSupport h a cI cJ cZ u) → va_S A s.heap H locs → W p l e rm_X0_addSupport s m args below meth c H locs 0 0 (MQ below (va_Qv (fun (u : (Nat → Int64)) => post u) (fun u t => POST D A (W_X0_addSupport h a cI cJ cZ u) t) A) args s 0 0 A) (F0 m pc ls []) := fun u H locs pc ls d g1 g2 g3 g4 => rt_v (Wf := fun u => (W_X0_addSupport h a cI cJ cZ u)) u hx hb hr hlocks g1 g2 g3 g4 d
  generalize (MQ below (va_Qv (fun (u : (Nat → Int64)) => post u) (fun u t => POST D A (W_X0_addSupport h a cI cJ cZ u) t) A) args s 0 0 A) = QQ at RT ⊢
  have hl : lv_has ls 3 [(0, .ref h), (1, .int p1), (2, .int p2)] := hl
  have hP : va_P D vwCl (W_X0_addSupport h a cI cJ cZ v_supports) s.heap := hP
  unfold wp_X0_addSupport at hw
  suffices GO : ∀ (H : Heap) (locs : List Loc), va_P D vwCl (W_X0_addSupport h a cI cJ cZ v_supports) H → va_S A s.heap H locs → W p l e rm_X0_addSupport s m args below meth c H locs 0 0 QQ (F0 m 0 ls []) from GO _ _ hP hS
  clear hsz hP hS
  intro H locs hP hS
  refine lv_iload_n hx hb dX0_addSupport_0 rfl (lv_at hl 1 rfl) ?_
  refine lv_iload_n hx hb dX0_addSupport_1 rfl (lv_at hl 2 rfl) ?_
  refine lv_icmp_eq (tgt := 31) hx hb dX0_addSupport_2 (by decide) (fun c2 => ?_) (fun c2 => ?_)
  · have hw := hw.1 c2
    exact RT v_supports _ _ _ _ dX0_addSupport_31 hw hP hD hS
  · have hw := hw.2 c2
    refine lv_iload_n hx hb dX0_addSupport_5 rfl (lv_at hl 1 rfl) ?_
    refine af_i (X := (W_X0_addSupport h a cI cJ cZ v_supports)) (pl := []) (cx := ([] : va_W)) (w1 := fun (u : Unit) => ([] : va_W)) (X' := fun (u : Unit) => (W_X0_addSupport h a cI cJ cZ v_supports)) hP hD hS hA [] [0, 1] [0, 1] rfl rfl (by decide) (by decide) (fun u => rfl) (by decide) (va_runSN (As := [.int p1]) (rest := []) ⟨hx, hb, hml, hown, hts⟩ (c_X4_isNumber l D cI cJ cZ cO H.size p1 _ hw) ⟨va_cnB 1 hts gX0_addSupport_X4_isNumber_n62 rfl rfl rfl (hE.1 _ (List.mem_of_getElem? (i := 3) rfl)) (hts (.initialized RX4) (List.mem_of_getElem? (i := 3) rfl)) (by decide +kernel) ⟨Nat.le_of_ble_eq_true rfl, Nat.le_of_ble_eq_true rfl⟩, hts (.static yX4_isNumber) (List.mem_of_getElem? (i := 2) rfl), trivial⟩ (preS (X := (W_X0_addSupport h a cI cJ cZ v_supports)) (pl := []) (cx := ([] : va_W)) hK hE hP hD [] (by decide) rfl) rfl rfl hl.1 rfl (lv_room (Nat.le_of_ble_eq_true rfl)) dX0_addSupport_6 ⟨Nat.zero_le _, Nat.zero_le _⟩) (fun r_6 _ H locs hw hP hD hS => ?_)
    try dsimp only at hw
    have hP : va_P D vwCl (W_X0_addSupport h a cI cJ cZ v_supports) H := hP
    have hD : va_D A (W_X0_addSupport h a cI cJ cZ v_supports) := hD
    refine lv_if_eq (tgt := 31) hx hb dX0_addSupport_9 (by decide) (fun c9 => ?_) (fun c9 => ?_)
    · have hw := hw.1 c9
      exact RT v_supports _ _ _ _ dX0_addSupport_31 hw hP hD hS
    · have hw := hw.2 c9
      refine lv_iload_n hx hb dX0_addSupport_12 rfl (lv_at hl 2 rfl) ?_
      refine af_i (X := (W_X0_addSupport h a cI cJ cZ v_supports)) (pl := []) (cx := ([] : va_W)) (w1 := fun (u : Unit) => ([] : va_W)) (X' := fun (u : Unit) => (W_X0_addSupport h a cI cJ cZ v_supports)) hP hD hS hA [] [0, 1] [0, 1] rfl rfl (by decide) (by decide) (fun u => rfl) (by decide) (va_runSN (As := [.int p2]) (rest := []) ⟨hx, hb, hml, hown, hts⟩ (c_X4_isNumber l D cI cJ cZ cO H.size p2 _ hw) ⟨va_cnB 1 hts gX0_addSupport_X4_isNumber_n62 rfl rfl rfl (hE.1 _ (List.mem_of_getElem? (i := 3) rfl)) (hts (.initialized RX4) (List.mem_of_getElem? (i := 3) rfl)) (by decide +kernel) ⟨Nat.le_of_ble_eq_true rfl, Nat.le_of_ble_eq_true rfl⟩, hts (.static yX4_isNumber) (List.mem_of_getElem? (i := 2) rfl), trivial⟩ (preS (X := (W_X0_addSupport h a cI cJ cZ v_supports)) (pl := []) (cx := ([] : va_W)) hK hE hP hD [] (by decide) rfl) rfl rfl hl.1 rfl (lv_room (Nat.le_of_ble_eq_true rfl)) dX0_addSupport_13 ⟨Nat.zero_le _, Nat.zero_le _⟩) (fun r_13 _ H locs hw hP hD hS => ?_)
      try dsimp only at hw
      have hP : va_P D vwCl (W_X0_addSupport h a cI cJ cZ v_supports) H := hP
      have hD : va_D A (W_X0_addSupport h a cI cJ cZ v_supports) := hD
      refine lv_if_eq (tgt := 31) hx hb dX0_addSupport_16 (by decide) (fun c16 => ?_) (fun c16 => ?_)
      · have hw := hw.1 c16
        exact RT v_supports _ _ _ _ dX0_addSupport_31 hw hP hD hS
      · have hw := hw.2 c16
        refine lv_aload_n hx hb dX0_addSupport_19 rfl (lv_at hl 0 rfl) ?_
        refine va_get (D := D) (ci := 1) (v := .ref (a 1)) (C := RX0) (T := TX0) (N := 2) hx hb hts iRX0 hown hK hP 0 rfl rfl 1 (by decide) (hts (.fieldLink RX0 15 "Leadlight$Cartoon" "supports" "[J") (List.mem_of_getElem? (i := 1) rfl)) (fun _ h9 => h9) rfl dX0_addSupport_20 ?_
        refine lv_iload_n hx hb dX0_addSupport_23 rfl (lv_at hl 1 rfl) ?_
        refine lv_dup2_11 hx hb dX0_addSupport_24 rfl rfl ?_
        obtain ⟨hi_25, hw⟩ := hw
        refine va_lald hx hb hK hP 1 1 rfl rfl hi_25 dX0_addSupport_25 ?_
        refine lv_lconst (v := 1) hx hb dX0_addSupport_26 (by decide) ?_
        refine lv_iload_n hx hb dX0_addSupport_27 rfl (lv_at hl 2 rfl) ?_
        refine lv_lshl (v := ((1 : Int64) <<< ((p2 : Int32).toInt64 &&& 63))) hx hb dX0_addSupport_28 rfl ?_
        refine lv_lor hx hb dX0_addSupport_29 ?_
        obtain ⟨hi_30, hw⟩ := hw
        refine st_l hx hb hK hP hD hS 1 1 rfl rfl hi_30 dX0_addSupport_30 (fun v_supports_t30 ev_supports_t30 H locs hP hD hS => ?_)
        have hw := hw v_supports_t30 ev_supports_t30
        have hP : va_P D vwCl (W_X0_addSupport h a cI cJ cZ v_supports_t30) H := hP
        have hD : va_D A (W_X0_addSupport h a cI cJ cZ v_supports_t30) := hD
        exact RT v_supports_t30 _ _ _ _ dX0_addSupport_31 hw hP hD hS
abbrev rm_X0_findSupports : Room := { frames := 2, cells := 0, slots := 0, locals := 42 }
abbrev W_X0_findSupports (h : Nat) (a : Nat → Nat) (cI cJ cZ : ClassId) (v_owners : Nat → Int32) (v_supports : Nat → Int64) : va_W := [(h, .inr (1, [.ref (a 0), .ref (a 1)])), ((a 0), .inl (cI, 256, .inl v_owners)), ((a 1), .inl (cJ, 60, .inr (.inl v_supports)))]
def wp_X0_findSupports_18 (v_owners : Nat → Int32) (v_supports : Nat → Int64) (post : (Nat → Int64) → Prop) (K10 : Int32 → (Nat → Int64) → Prop) (K18 : Int32 → Int32 → (Nat → Int64) → Prop) (x1_j18 : Int32) (x2_j18 : Int32) (v_supports_j18 : Nat → Int64) : Prop := (16 ≤ x2_j18 → K10 (x1_j18 + 1) v_supports_j18) ∧ (¬ 16 ≤ x2_j18 → wp_X0_ownerAt v_owners x1_j18 x2_j18 (fun r_27 => wp_X0_ownerAt v_owners (x1_j18 + 1) x2_j18 (fun r_38 => wp_X0_addSupport v_supports_j18 r_27 r_38 (fun v_supports_c41 => wp_X0_ownerAt v_owners x1_j18 (x2_j18 - 1) (fun r_51 => wp_X0_addSupport v_supports_c41 r_27 r_51 (fun v_supports_c54 => K18 x1_j18 (x2_j18 + 1) v_supports_c54))))))
def lF_X0_findSupports_18 (v_owners : Nat → Int32) (v_supports : Nat → Int64) (post : (Nat → Int64) → Prop) (K10 : Int32 → (Nat → Int64) → Prop) : ((Int32 × Int32 × (Nat → Int64)) → Prop) → (Int32 × Int32 × (Nat → Int64)) → Prop := fun K s => wp_X0_findSupports_18 v_owners v_supports post K10 (fun b0 b1 b2 => K (b0, b1, b2)) s.1 s.2.1 s.2.2
def wp_X0_findSupports_10 (v_owners : Nat → Int32) (v_supports : Nat → Int64) (post : (Nat → Int64) → Prop) (K10 : Int32 → (Nat → Int64) → Prop) (x1_j10 : Int32) (v_supports_j10 : Nat → Int64) : Prop := (16 ≤ x1_j10 → post v_supports_j10) ∧ (¬ 16 ≤ x1_j10 → lp (lF_X0_findSupports_18 v_owners v_supports post K10) (x1_j10, 0, v_supports_j10))
def lF_X0_findSupports_10 (v_owners : Nat → Int32) (v_supports : Nat → Int64) (post : (Nat → Int64) → Prop) : ((Int32 × (Nat → Int64)) → Prop) → (Int32 × (Nat → Int64)) → Prop := fun K s => wp_X0_findSupports_10 v_owners v_supports post (fun b0 b1 => K (b0, b1)) s.1 s.2
def wp_X0_findSupports (v_owners : Nat → Int32) (v_supports : Nat → Int64) (post : (Nat → Int64) → Prop) : Prop := wp_J7_fill_d0a16 60 v_supports 0 (fun v_supports_c5 => lp (lF_X0_findSupports_10 v_owners v_supports post) (0, v_supports_c5))
set_option maxHeartbeats 4000000 in
set_option maxRecDepth 100000 in
theorem c_X0_findSupports (l : Launch) (D : va_G) (cI cJ cZ cO : ClassId) (h : Nat) (a : Nat → Nat) (sz : Nat) (v_owners : Nat → Int32) (v_supports : Nat → Int64) (post : (Nat → Int64) → Prop) (hw : wp_X0_findSupports v_owners v_supports post) : Met l yX0_findSupports wsX0_findSupports rm_X0_findSupports (va_Pc [.ref h] (PRE D cI cJ cZ cO (W_X0_findSupports h a cI cJ cZ v_owners v_supports) sz)) (va_Qv (fun (u : (Nat → Int64)) => post u) (fun u t => POST D (va_A (W_X0_findSupports h a cI cJ cZ v_owners v_supports) sz) (W_X0_findSupports h a cI cJ cZ v_owners u) t) (va_A (W_X0_findSupports h a cI cJ cZ v_owners v_supports) sz)) 0 0 (va_A (W_X0_findSupports h a cI cJ cZ v_owners v_supports) sz) := by
  refine met_go (cc := cX0_findSupports) (maxL := 4) (ret := none) RX0 rfl (by decide) rfl (Nat.le_of_ble_eq_true rfl) ?_
  intro p e s m args below meth c ls hx hb hr hts hown hlocks hin hml hsz hP hK hE hD hA hS hl
  have iRX0 : ∀ w ∈ u_ws RX0 TX0 2, w ∈ wsX0_findSupports := mem_seg 19 2 rfl
  generalize va_A (W_X0_findSupports h a cI cJ cZ v_owners v_supports) sz = A at hD hA hS ⊢
  have RT : ∀ (u : (Nat → Int64)) (H : Heap) (locs : List Loc) (pc : Nat) (ls : Array Slot), decode cX0_findSupports pc = .ok (.return_, 1) → post u → va_P D vwCl (W_X0_findSupports h a cI cJ cZ v_owners u) H → va_D A (W_X0_findSupports h a cI cJ cZ v_owners u) → va_S A s.heap H locs → W p l e rm_X0_findSupports s m args below meth c H locs 0 0 (MQ below (va_Qv (fun (u : (Nat → Int64)) => post u) (fun u t => POST D A (W_X0_findSupports h a cI cJ cZ v_owners u) t) A) args s 0 0 A) (F0 m pc ls []) := fun u H locs pc ls d g1 g2 g3 g4 => rt_v (Wf := fun u => (W_X0_findSupports h a cI cJ cZ v_owners u)) u hx hb hr hlocks g1 g2 g3 g4 d
  generalize (MQ below (va_Qv (fun (u : (Nat → Int64)) => post u) (fun u t => POST D A (W_X0_findSupports h a cI cJ cZ v_owners u) t) A) args s 0 0 A) = QQ at RT ⊢
  have hl : lv_has ls 4 [(0, .ref h)] := hl
  have hP : va_P D vwCl (W_X0_findSupports h a cI cJ cZ v_owners v_supports) s.heap := hP
  unfold wp_X0_findSupports at hw
  suffices GO : ∀ (H : Heap) (locs : List Loc), va_P D vwCl (W_X0_findSupports h a cI cJ cZ v_owners v_supports) H → va_S A s.heap H locs → W p l e rm_X0_findSupports s m args below meth c H locs 0 0 QQ (F0 m 0 ls []) from GO _ _ hP hS
  clear hsz hP hS
  intro H locs hP hS
  have L10 : ∀ s0 : (Int32 × (Nat → Int64)), lp (lF_X0_findSupports_10 v_owners v_supports post) s0 → ∀ (H : Heap) (locs : List Loc) (ls : Array Slot), va_P D vwCl (W_X0_findSupports h a cI cJ cZ v_owners s0.2) H → va_D A (W_X0_findSupports h a cI cJ cZ v_owners s0.2) → va_S A s.heap H locs → lv_has ls 4 [(0, .ref h), (1, .int s0.1)] → W p l e rm_X0_findSupports s m args below meth c H locs 0 0 QQ (F0 m 10 ls []) := by
    refine lp_elim (fun K10 ih10 s0 hw => ?_)
    obtain ⟨x1_j10, v_supports_j10⟩ := s0
    intro H locs ls hP hD hS hl
    have hw : wp_X0_findSupports_10 v_owners v_supports post (fun b0 b1 => K10 (b0, b1)) x1_j10 v_supports_j10 := hw
    have hP : va_P D vwCl (W_X0_findSupports h a cI cJ cZ v_owners v_supports_j10) H := hP
    have hD : va_D A (W_X0_findSupports h a cI cJ cZ v_owners v_supports_j10) := hD
    have hl : lv_has ls 4 [(0, .ref h), (1, .int x1_j10)] := hl
    have L18 : ∀ s0 : (Int32 × Int32 × (Nat → Int64)), lp (lF_X0_findSupports_18 v_owners v_supports post (fun b0 b1 => K10 (b0, b1))) s0 → ∀ (H : Heap) (locs : List Loc) (ls : Array Slot), va_P D vwCl (W_X0_findSupports h a cI cJ cZ v_owners s0.2.2) H → va_D A (W_X0_findSupports h a cI cJ cZ v_owners s0.2.2) → va_S A s.heap H locs → lv_has ls 4 [(0, .ref h), (1, .int s0.1), (2, .int s0.2.1)] → W p l e rm_X0_findSupports s m args below meth c H locs 0 0 QQ (F0 m 18 ls []) := by
      refine lp_elim (fun K18 ih18 s0 hw => ?_)
      obtain ⟨x1_j18, x2_j18, v_supports_j18⟩ := s0
      intro H locs ls hP hD hS hl
      have hw : wp_X0_findSupports_18 v_owners v_supports post (fun b0 b1 => K10 (b0, b1)) (fun b0 b1 b2 => K18 (b0, b1, b2)) x1_j18 x2_j18 v_supports_j18 := hw
      have hP : va_P D vwCl (W_X0_findSupports h a cI cJ cZ v_owners v_supports_j18) H := hP
      have hD : va_D A (W_X0_findSupports h a cI cJ cZ v_owners v_supports_j18) := hD
      have hl : lv_has ls 4 [(0, .ref h), (1, .int x1_j18), (2, .int x2_j18)] := hl
      unfold wp_X0_findSupports_18 at hw
      refine lv_iload_n hx hb dX0_findSupports_18 rfl (lv_at hl 2 rfl) ?_
      refine lv_bipush (v := 16) hx hb dX0_findSupports_19 (by decide) ?_
      refine lv_icmp_ge (tgt := 63) hx hb dX0_findSupports_21 (by decide) (fun c21 => ?_) (fun c21 => ?_)
      · have hw := hw.1 c21
        refine lv_iinc (v := (x1_j18 + 1)) (lv' := [(1, .int (x1_j18 + 1)), (0, .ref h), (2, .int x2_j18)]) hx hb dX0_findSupports_63 hl (k := 1) rfl rfl (by decide) rfl (fun ls hl => ?_)
        refine lv_goto (tgt := 10) hx hb dX0_findSupports_66 (by decide) ?_
        exact ih10 ((x1_j18 + 1), v_supports_j18) hw _ _ ls hP hD hS (lv_sub hl [1, 0] rfl)
      · have hw := hw.2 c21
        refine lv_aload_n hx hb dX0_findSupports_24 rfl (lv_at hl 0 rfl) ?_
        refine lv_iload_n hx hb dX0_findSupports_25 rfl (lv_at hl 1 rfl) ?_
        refine lv_iload_n hx hb dX0_findSupports_26 rfl (lv_at hl 2 rfl) ?_
        refine af_i (X := (W_X0_findSupports h a cI cJ cZ v_owners v_supports_j18)) (pl := []) (cx := (W_X0_ownerAt h a cI cJ cZ v_owners)) (w1 := fun (u : Unit) => (W_X0_ownerAt h a cI cJ cZ v_owners)) (X' := fun (u : Unit) => (W_X0_findSupports h a cI cJ cZ v_owners v_supports_j18)) hP hD hS hA [0, 1] [2] [1, 2, 0] rfl rfl (by decide) (by decide) (fun u => rfl) (by decide) (va_runV (As := [.int x1_j18, .int x2_j18]) (rest := []) ⟨hx, hb, hml, hown, hts⟩ (c_X0_ownerAt l D cI cJ cZ cO h a H.size v_owners x1_j18 x2_j18 _ hw) (cwV 2 hts gX0_findSupports_X0_ownerAt rfl rfl rfl (by decide +kernel) ⟨Nat.le_of_ble_eq_true rfl, Nat.le_of_ble_eq_true rfl⟩) (preV (X := (W_X0_findSupports h a cI cJ cZ v_owners v_supports_j18)) (pl := []) (cx := (W_X0_ownerAt h a cI cJ cZ v_owners)) (qb := 0) (ci := 1) hK hE hP hD [0, 1] (by decide) rfl rfl rfl) rfl rfl hl.1 rfl (lv_room (Nat.le_of_ble_eq_true rfl)) dX0_findSupports_27 ⟨Nat.zero_le _, Nat.zero_le _⟩) (fun r_27 _ H locs hw hP hD hS => ?_)
        try dsimp only at hw
        have hP : va_P D vwCl (W_X0_findSupports h a cI cJ cZ v_owners v_supports_j18) H := hP
        have hD : va_D A (W_X0_findSupports h a cI cJ cZ v_owners v_supports_j18) := hD
        refine lv_istore_n (lv' := [(3, .int r_27), (0, .ref h), (1, .int x1_j18), (2, .int x2_j18)]) hx hb dX0_findSupports_30 rfl hl (by decide) rfl (fun ls hl => ?_)
        refine lv_aload_n hx hb dX0_findSupports_31 rfl (lv_at hl 1 rfl) ?_
        refine lv_iload_n hx hb dX0_findSupports_32 rfl (lv_at hl 0 rfl) ?_
        refine lv_aload_n hx hb dX0_findSupports_33 rfl (lv_at hl 1 rfl) ?_
        refine lv_iload_n hx hb dX0_findSupports_34 rfl (lv_at hl 2 rfl) ?_
        refine lv_iconst (v := 1) hx hb dX0_findSupports_35 (by decide) ?_
        refine lv_iadd hx hb dX0_findSupports_36 ?_
        refine lv_iload_n hx hb dX0_findSupports_37 rfl (lv_at hl 3 rfl) ?_
        refine af_i (X := (W_X0_findSupports h a cI cJ cZ v_owners v_supports_j18)) (pl := []) (cx := (W_X0_ownerAt h a cI cJ cZ v_owners)) (w1 := fun (u : Unit) => (W_X0_ownerAt h a cI cJ cZ v_owners)) (X' := fun (u : Unit) => (W_X0_findSupports h a cI cJ cZ v_owners v_supports_j18)) hP hD hS hA [0, 1] [2] [1, 2, 0] rfl rfl (by decide) (by decide) (fun u => rfl) (by decide) (va_runV (As := [.int (x1_j18 + 1), .int x2_j18]) (rest := [.int r_27, .ref h]) ⟨hx, hb, hml, hown, hts⟩ (c_X0_ownerAt l D cI cJ cZ cO h a H.size v_owners (x1_j18 + 1) x2_j18 _ hw) (cwV 2 hts gX0_findSupports_X0_ownerAt rfl rfl rfl (by decide +kernel) ⟨Nat.le_of_ble_eq_true rfl, Nat.le_of_ble_eq_true rfl⟩) (preV (X := (W_X0_findSupports h a cI cJ cZ v_owners v_supports_j18)) (pl := []) (cx := (W_X0_ownerAt h a cI cJ cZ v_owners)) (qb := 0) (ci := 1) hK hE hP hD [0, 1] (by decide) rfl rfl rfl) rfl rfl hl.1 rfl (lv_room (Nat.le_of_ble_eq_true rfl)) dX0_findSupports_38 ⟨Nat.zero_le _, Nat.zero_le _⟩) (fun r_38 _ H locs hw hP hD hS => ?_)
        try dsimp only at hw
        have hP : va_P D vwCl (W_X0_findSupports h a cI cJ cZ v_owners v_supports_j18) H := hP
        have hD : va_D A (W_X0_findSupports h a cI cJ cZ v_owners v_supports_j18) := hD
        refine af_v (X := (W_X0_findSupports h a cI cJ cZ v_owners v_supports_j18)) (pl := []) (cx := (W_X0_addSupport h a cI cJ cZ v_supports_j18)) (w1 := fun (u : (Nat → Int64)) => (W_X0_addSupport h a cI cJ cZ u)) (X' := fun (u : (Nat → Int64)) => (W_X0_findSupports h a cI cJ cZ v_owners u)) hP hD hS hA [0, 2] [1] [1, 0, 2] rfl rfl (by decide) (by decide) (fun u => rfl) (by decide) (va_runV (As := [.int r_27, .int r_38]) (rest := []) ⟨hx, hb, hml, hown, hts⟩ (c_X0_addSupport l D cI cJ cZ cO h a H.size v_supports_j18 r_27 r_38 _ hw) (cwV 2 hts gX0_findSupports_X0_addSupport rfl rfl rfl (by decide +kernel) ⟨Nat.le_of_ble_eq_true rfl, Nat.le_of_ble_eq_true rfl⟩) (preV (X := (W_X0_findSupports h a cI cJ cZ v_owners v_supports_j18)) (pl := []) (cx := (W_X0_addSupport h a cI cJ cZ v_supports_j18)) (qb := 0) (ci := 1) hK hE hP hD [0, 2] (by decide) rfl rfl rfl) rfl rfl hl.1 rfl (lv_room (Nat.le_of_ble_eq_true rfl)) dX0_findSupports_41 ⟨Nat.zero_le _, Nat.zero_le _⟩) (fun v_supports_c41 H locs hw hP hD hS => ?_)
        try dsimp only at hw
        have hP : va_P D vwCl (W_X0_findSupports h a cI cJ cZ v_owners v_supports_c41) H := hP
        have hD : va_D A (W_X0_findSupports h a cI cJ cZ v_owners v_supports_c41) := hD
        refine lv_aload_n hx hb dX0_findSupports_44 rfl (lv_at hl 1 rfl) ?_
        refine lv_iload_n hx hb dX0_findSupports_45 rfl (lv_at hl 0 rfl) ?_
        refine lv_aload_n hx hb dX0_findSupports_46 rfl (lv_at hl 1 rfl) ?_
        refine lv_iload_n hx hb dX0_findSupports_47 rfl (lv_at hl 2 rfl) ?_
        refine lv_iload_n hx hb dX0_findSupports_48 rfl (lv_at hl 3 rfl) ?_
        refine lv_iconst (v := 1) hx hb dX0_findSupports_49 (by decide) ?_
        refine lv_isub hx hb dX0_findSupports_50 ?_
        refine af_i (X := (W_X0_findSupports h a cI cJ cZ v_owners v_supports_c41)) (pl := []) (cx := (W_X0_ownerAt h a cI cJ cZ v_owners)) (w1 := fun (u : Unit) => (W_X0_ownerAt h a cI cJ cZ v_owners)) (X' := fun (u : Unit) => (W_X0_findSupports h a cI cJ cZ v_owners v_supports_c41)) hP hD hS hA [0, 1] [2] [1, 2, 0] rfl rfl (by decide) (by decide) (fun u => rfl) (by decide) (va_runV (As := [.int x1_j18, .int (x2_j18 - 1)]) (rest := [.int r_27, .ref h]) ⟨hx, hb, hml, hown, hts⟩ (c_X0_ownerAt l D cI cJ cZ cO h a H.size v_owners x1_j18 (x2_j18 - 1) _ hw) (cwV 2 hts gX0_findSupports_X0_ownerAt rfl rfl rfl (by decide +kernel) ⟨Nat.le_of_ble_eq_true rfl, Nat.le_of_ble_eq_true rfl⟩) (preV (X := (W_X0_findSupports h a cI cJ cZ v_owners v_supports_c41)) (pl := []) (cx := (W_X0_ownerAt h a cI cJ cZ v_owners)) (qb := 0) (ci := 1) hK hE hP hD [0, 1] (by decide) rfl rfl rfl) rfl rfl hl.1 rfl (lv_room (Nat.le_of_ble_eq_true rfl)) dX0_findSupports_51 ⟨Nat.zero_le _, Nat.zero_le _⟩) (fun r_51 _ H locs hw hP hD hS => ?_)
        try dsimp only at hw
        have hP : va_P D vwCl (W_X0_findSupports h a cI cJ cZ v_owners v_supports_c41) H := hP
        have hD : va_D A (W_X0_findSupports h a cI cJ cZ v_owners v_supports_c41) := hD
        refine af_v (X := (W_X0_findSupports h a cI cJ cZ v_owners v_supports_c41)) (pl := []) (cx := (W_X0_addSupport h a cI cJ cZ v_supports_c41)) (w1 := fun (u : (Nat → Int64)) => (W_X0_addSupport h a cI cJ cZ u)) (X' := fun (u : (Nat → Int64)) => (W_X0_findSupports h a cI cJ cZ v_owners u)) hP hD hS hA [0, 2] [1] [1, 0, 2] rfl rfl (by decide) (by decide) (fun u => rfl) (by decide) (va_runV (As := [.int r_27, .int r_51]) (rest := []) ⟨hx, hb, hml, hown, hts⟩ (c_X0_addSupport l D cI cJ cZ cO h a H.size v_supports_c41 r_27 r_51 _ hw) (cwV 2 hts gX0_findSupports_X0_addSupport rfl rfl rfl (by decide +kernel) ⟨Nat.le_of_ble_eq_true rfl, Nat.le_of_ble_eq_true rfl⟩) (preV (X := (W_X0_findSupports h a cI cJ cZ v_owners v_supports_c41)) (pl := []) (cx := (W_X0_addSupport h a cI cJ cZ v_supports_c41)) (qb := 0) (ci := 1) hK hE hP hD [0, 2] (by decide) rfl rfl rfl) rfl rfl hl.1 rfl (lv_room (Nat.le_of_ble_eq_true rfl)) dX0_findSupports_54 ⟨Nat.zero_le _, Nat.zero_le _⟩) (fun v_supports_c54 H locs hw hP hD hS => ?_)
        try dsimp only at hw
        have hP : va_P D vwCl (W_X0_findSupports h a cI cJ cZ v_owners v_supports_c54) H := hP
        have hD : va_D A (W_X0_findSupports h a cI cJ cZ v_owners v_supports_c54) := hD
        refine lv_iinc (v := (x2_j18 + 1)) (lv' := [(2, .int (x2_j18 + 1)), (3, .int r_27), (0, .ref h), (1, .int x1_j18)]) hx hb dX0_findSupports_57 hl (k := 3) rfl rfl (by decide) rfl (fun ls hl => ?_)
        refine lv_goto (tgt := 18) hx hb dX0_findSupports_60 (by decide) ?_
        exact ih18 (x1_j18, (x2_j18 + 1), v_supports_c54) hw _ _ ls hP hD hS (lv_sub hl [2, 3, 0] rfl)
    unfold wp_X0_findSupports_10 at hw
    refine lv_iload_n hx hb dX0_findSupports_10 rfl (lv_at hl 1 rfl) ?_
    refine lv_bipush (v := 16) hx hb dX0_findSupports_11 (by decide) ?_
    refine lv_icmp_ge (tgt := 69) hx hb dX0_findSupports_13 (by decide) (fun c13 => ?_) (fun c13 => ?_)
    · have hw := hw.1 c13
      exact RT v_supports_j10 _ _ _ _ dX0_findSupports_69 hw hP hD hS
    · have hw := hw.2 c13
      refine lv_iconst (v := 0) hx hb dX0_findSupports_16 (by decide) ?_
      refine lv_istore_n (lv' := [(2, .int 0), (0, .ref h), (1, .int x1_j10)]) hx hb dX0_findSupports_17 rfl hl (by decide) rfl (fun ls hl => ?_)
      exact L18 (x1_j10, 0, v_supports_j10) hw _ _ ls hP hD hS (lv_sub hl [1, 2, 0] rfl)
  refine lv_aload_n hx hb dX0_findSupports_0 rfl (lv_at hl 0 rfl) ?_
  refine va_get (D := D) (ci := 1) (v := .ref (a 1)) (C := RX0) (T := TX0) (N := 2) hx hb hts iRX0 hown hK hP 0 rfl rfl 1 (by decide) (hts (.fieldLink RX0 15 "Leadlight$Cartoon" "supports" "[J") (List.mem_of_getElem? (i := 1) rfl)) (fun _ h9 => h9) rfl dX0_findSupports_1 ?_
  refine lv_lconst (v := 0) hx hb dX0_findSupports_4 (by decide) ?_
  refine af_v (X := (W_X0_findSupports h a cI cJ cZ v_owners v_supports)) (pl := []) (cx := (W_J7_fill_d0a16 (a 1) 60 cI cJ cZ v_supports)) (w1 := fun (u : (Nat → Int64)) => (W_J7_fill_d0a16 (a 1) 60 cI cJ cZ u)) (X' := fun (u : (Nat → Int64)) => (W_X0_findSupports h a cI cJ cZ v_owners u)) hP hD hS hA [2] [0, 1] [0, 1, 2] rfl rfl (by decide) (by decide) (fun u => rfl) (by decide) (va_runS (As := [.ref (a 1), .long 0]) (rest := []) ⟨hx, hb, hml, hown, hts⟩ (c_J7_fill_d0a16 l D cI cJ cZ cO (a 1) 60 H.size v_supports 0 _ hw) (va_cwS 2 hts gX0_findSupports_J7_fill_d0a16 rfl rfl rfl (by decide +kernel) ⟨Nat.le_of_ble_eq_true rfl, Nat.le_of_ble_eq_true rfl⟩) (preS (X := (W_X0_findSupports h a cI cJ cZ v_owners v_supports)) (pl := []) (cx := (W_J7_fill_d0a16 (a 1) 60 cI cJ cZ v_supports)) hK hE hP hD [2] (by decide) rfl) rfl rfl hl.1 rfl (lv_room (Nat.le_of_ble_eq_true rfl)) dX0_findSupports_5 ⟨Nat.zero_le _, Nat.zero_le _⟩) (fun v_supports_c5 H locs hw hP hD hS => ?_)
  try dsimp only at hw
  have hP : va_P D vwCl (W_X0_findSupports h a cI cJ cZ v_owners v_supports_c5) H := hP
  have hD : va_D A (W_X0_findSupports h a cI cJ cZ v_owners v_supports_c5) := hD
  refine lv_iconst (v := 0) hx hb dX0_findSupports_8 (by decide) ?_
  refine lv_istore_n (lv' := [(1, .int 0), (0, .ref h)]) hx hb dX0_findSupports_9 rfl hl (by decide) rfl (fun ls hl => ?_)
  exact L10 (0, v_supports_c5) hw _ _ ls hP hD hS (lv_sub hl [1, 0] rfl)
abbrev rm_X0_lowestReady : Room := { frames := 0, cells := 0, slots := 0, locals := 0 }
abbrev W_X0_lowestReady (h : Nat) (a : Nat → Nat) (cI cJ cZ : ClassId) (v_supports : Nat → Int64) : va_W := [(h, .inr (1, [.ref (a 0), .ref (a 1)])), ((a 1), .inl (cJ, 60, .inr (.inl v_supports)))]
def wp_X0_lowestReady_3 (v_supports : Nat → Int64) (p1 : Int64) (p2 : Int64) (post : Int32 → Prop) (K3 : Int32 → Prop) (x5_j3 : Int32) : Prop := (60 ≤ x5_j3 → post (-1)) ∧ (¬ 60 ≤ x5_j3 → ((lg_cmp (((p1).toUInt64 >>> ((x5_j3 : Int32).toInt64.toUInt64 &&& Int64.toUInt64 63)).toInt64 &&& 1) 0) = 0 → K3 (x5_j3 + 1)) ∧ (¬ (lg_cmp (((p1).toUInt64 >>> ((x5_j3 : Int32).toInt64.toUInt64 &&& Int64.toUInt64 63)).toInt64 &&& 1) 0) = 0 → vp_in x5_j3 60 ∧ (((lg_cmp ((v_supports x5_j3.toNatClampNeg) &&& (p2 ^^^ (-1))) 0) = 0 → post x5_j3) ∧ (¬ (lg_cmp ((v_supports x5_j3.toNatClampNeg) &&& (p2 ^^^ (-1))) 0) = 0 → K3 (x5_j3 + 1)))))
def lF_X0_lowestReady_3 (v_supports : Nat → Int64) (p1 : Int64) (p2 : Int64) (post : Int32 → Prop) : (Int32 → Prop) → Int32 → Prop := fun K s => wp_X0_lowestReady_3 v_supports p1 p2 post (fun b0 => K b0) s
def wp_X0_lowestReady (v_supports : Nat → Int64) (p1 : Int64) (p2 : Int64) (post : Int32 → Prop) : Prop := lp (lF_X0_lowestReady_3 v_supports p1 p2 post) 0
set_option maxHeartbeats 4000000 in
set_option maxRecDepth 100000 in
theorem c_X0_lowestReady (l : Launch) (D : va_G) (cI cJ cZ cO : ClassId) (h : Nat) (a : Nat → Nat) (sz : Nat) (v_supports : Nat → Int64) (p1 : Int64) (p2 : Int64) (post : Int32 → Prop) (hw : wp_X0_lowestReady v_supports p1 p2 post) : Met l yX0_lowestReady wsX0_lowestReady rm_X0_lowestReady (va_Pc [.ref h, .long p1, .long p2] (PRE D cI cJ cZ cO (W_X0_lowestReady h a cI cJ cZ v_supports) sz)) (va_Qi (fun r (_ : Unit) => post r) (fun u t => POST D (va_A (W_X0_lowestReady h a cI cJ cZ v_supports) sz) (W_X0_lowestReady h a cI cJ cZ v_supports) t) (va_A (W_X0_lowestReady h a cI cJ cZ v_supports) sz)) 0 0 (va_A (W_X0_lowestReady h a cI cJ cZ v_supports) sz) := by
  refine met_go (cc := cX0_lowestReady) (maxL := 6) (ret := some .int) RX0 rfl (by decide) rfl (Nat.le_of_ble_eq_true rfl) ?_
  intro p e s m args below meth c ls hx hb hr hts hown hlocks hin hml hsz hP hK hE hD hA hS hl
  have iRX0 : ∀ w ∈ u_ws RX0 TX0 2, w ∈ wsX0_lowestReady := mem_seg 3 2 rfl
  generalize va_A (W_X0_lowestReady h a cI cJ cZ v_supports) sz = A at hD hA hS ⊢
  have RT : ∀ (v : Int32) (u : Unit) (H : Heap) (locs : List Loc) (pc : Nat) (ls : Array Slot), decode cX0_lowestReady pc = .ok (.ireturn, 1) → post v → va_P D vwCl (W_X0_lowestReady h a cI cJ cZ v_supports) H → va_D A (W_X0_lowestReady h a cI cJ cZ v_supports) → va_S A s.heap H locs → W p l e rm_X0_lowestReady s m args below meth c H locs 0 0 (MQ below (va_Qi (fun r (_ : Unit) => post r) (fun u t => POST D A (W_X0_lowestReady h a cI cJ cZ v_supports) t) A) args s 0 0 A) (F0 m pc ls [.int v]) := fun v u H locs pc ls d g1 g2 g3 g4 => rt_i (Wf := fun u => (W_X0_lowestReady h a cI cJ cZ v_supports)) u hx hb hr hlocks g1 g2 g3 g4 d
  generalize (MQ below (va_Qi (fun r (_ : Unit) => post r) (fun u t => POST D A (W_X0_lowestReady h a cI cJ cZ v_supports) t) A) args s 0 0 A) = QQ at RT ⊢
  have hl : lv_has ls 6 [(0, .ref h), (1, .long p1), (3, .long p2)] := hl
  have hP : va_P D vwCl (W_X0_lowestReady h a cI cJ cZ v_supports) s.heap := hP
  unfold wp_X0_lowestReady at hw
  suffices GO : ∀ (H : Heap) (locs : List Loc), va_P D vwCl (W_X0_lowestReady h a cI cJ cZ v_supports) H → va_S A s.heap H locs → W p l e rm_X0_lowestReady s m args below meth c H locs 0 0 QQ (F0 m 0 ls []) from GO _ _ hP hS
  clear hsz hP hS
  intro H locs hP hS
  have L3 : ∀ s0 : Int32, lp (lF_X0_lowestReady_3 v_supports p1 p2 post) s0 → ∀ (H : Heap) (locs : List Loc) (ls : Array Slot), va_P D vwCl (W_X0_lowestReady h a cI cJ cZ v_supports) H → va_D A (W_X0_lowestReady h a cI cJ cZ v_supports) → va_S A s.heap H locs → lv_has ls 6 [(0, .ref h), (1, .long p1), (3, .long p2), (5, .int s0)] → W p l e rm_X0_lowestReady s m args below meth c H locs 0 0 QQ (F0 m 3 ls []) := by
    refine lp_elim (fun K3 ih3 s0 hw => ?_)
    obtain ⟨x5_j3, rfl⟩ : ∃ z, z = s0 := ⟨_, rfl⟩
    intro H locs ls hP hD hS hl
    have hw : wp_X0_lowestReady_3 v_supports p1 p2 post K3 x5_j3 := hw
    have hP : va_P D vwCl (W_X0_lowestReady h a cI cJ cZ v_supports) H := hP
    have hD : va_D A (W_X0_lowestReady h a cI cJ cZ v_supports) := hD
    have hl : lv_has ls 6 [(0, .ref h), (1, .long p1), (3, .long p2), (5, .int x5_j3)] := hl
    unfold wp_X0_lowestReady_3 at hw
    refine lv_iload hx hb dX0_lowestReady_3 (lv_at hl 3 rfl) ?_
    refine lv_bipush (v := 60) hx hb dX0_lowestReady_5 (by decide) ?_
    refine lv_icmp_ge (tgt := 48) hx hb dX0_lowestReady_7 (by decide) (fun c7 => ?_) (fun c7 => ?_)
    · have hw := hw.1 c7
      refine lv_iconst (v := (-1)) hx hb dX0_lowestReady_48 (by decide) ?_
      exact RT (-1) () _ _ _ _ dX0_lowestReady_49 hw hP hD hS
    · have hw := hw.2 c7
      refine lv_lload_n hx hb dX0_lowestReady_10 rfl (lv_at hl 1 rfl) ?_
      refine lv_iload hx hb dX0_lowestReady_11 (lv_at hl 3 rfl) ?_
      refine lv_lushr (v := ((p1).toUInt64 >>> ((x5_j3 : Int32).toInt64.toUInt64 &&& Int64.toUInt64 63)).toInt64) hx hb dX0_lowestReady_13 rfl ?_
      refine lv_lconst (v := 1) hx hb dX0_lowestReady_14 (by decide) ?_
      refine lv_land hx hb dX0_lowestReady_15 ?_
      refine lv_lconst (v := 0) hx hb dX0_lowestReady_16 (by decide) ?_
      refine W.lcmp hx hb dX0_lowestReady_17 ?_
      refine lv_if_eq (tgt := 42) hx hb dX0_lowestReady_18 (by decide) (fun c18 => ?_) (fun c18 => ?_)
      · have hw := hw.1 c18
        refine lv_iinc (v := (x5_j3 + 1)) (lv' := [(5, .int (x5_j3 + 1)), (0, .ref h), (1, .long p1), (3, .long p2)]) hx hb dX0_lowestReady_42 hl (k := 3) rfl rfl (by decide) rfl (fun ls hl => ?_)
        refine lv_goto (tgt := 3) hx hb dX0_lowestReady_45 (by decide) ?_
        exact ih3 (x5_j3 + 1) hw _ _ ls hP hD hS (lv_sub hl [1, 2, 3, 0] rfl)
      · have hw := hw.2 c18
        refine lv_aload_n hx hb dX0_lowestReady_21 rfl (lv_at hl 0 rfl) ?_
        refine va_get (D := D) (ci := 1) (v := .ref (a 1)) (C := RX0) (T := TX0) (N := 2) hx hb hts iRX0 hown hK hP 0 rfl rfl 1 (by decide) (hts (.fieldLink RX0 15 "Leadlight$Cartoon" "supports" "[J") (List.mem_of_getElem? (i := 1) rfl)) (fun _ h9 => h9) rfl dX0_lowestReady_22 ?_
        refine lv_iload hx hb dX0_lowestReady_25 (lv_at hl 3 rfl) ?_
        obtain ⟨hi_27, hw⟩ := hw
        refine va_lald hx hb hK hP 1 1 rfl rfl hi_27 dX0_lowestReady_27 ?_
        refine lv_lload_n hx hb dX0_lowestReady_28 rfl (lv_at hl 2 rfl) ?_
        refine lv_ldc2 (v := (-1)) hx hb hown (hts (.constantLong RX0 46 (-1)) (List.mem_of_getElem? (i := 2) rfl)) dX0_lowestReady_29 ?_
        refine lv_lxor hx hb dX0_lowestReady_32 ?_
        refine lv_land hx hb dX0_lowestReady_33 ?_
        refine lv_lconst (v := 0) hx hb dX0_lowestReady_34 (by decide) ?_
        refine W.lcmp hx hb dX0_lowestReady_35 ?_
        refine lv_if_ne (tgt := 42) hx hb dX0_lowestReady_36 (by decide) (fun c36 => ?_) (fun c36 => ?_)
        · have hw := hw.2 c36
          refine lv_iinc (v := (x5_j3 + 1)) (lv' := [(5, .int (x5_j3 + 1)), (0, .ref h), (1, .long p1), (3, .long p2)]) hx hb dX0_lowestReady_42 hl (k := 3) rfl rfl (by decide) rfl (fun ls hl => ?_)
          refine lv_goto (tgt := 3) hx hb dX0_lowestReady_45 (by decide) ?_
          exact ih3 (x5_j3 + 1) hw _ _ ls hP hD hS (lv_sub hl [1, 2, 3, 0] rfl)
        · have hw := hw.1 c36
          refine lv_iload hx hb dX0_lowestReady_39 (lv_at hl 3 rfl) ?_
          exact RT x5_j3 () _ _ _ _ dX0_lowestReady_41 hw hP hD hS
  refine lv_iconst (v := 0) hx hb dX0_lowestReady_0 (by decide) ?_
  refine lv_istore (lv' := [(5, .int 0), (0, .ref h), (1, .long p1), (3, .long p2)]) hx hb dX0_lowestReady_1 hl (by decide) rfl (fun ls hl => ?_)
  exact L3 0 hw _ _ ls hP hD hS (lv_sub hl [1, 2, 3, 0] rfl)
abbrev rm_X0_putInAt : Room := { frames := 3, cells := 0, slots := 0, locals := 65 }
abbrev W_X0_putInAt (h : Nat) (a : Nat → Nat) (cI cJ cZ : ClassId) (v_owners : Nat → Int32) (v_supports : Nat → Int64) : va_W := [(h, .inr (1, [.ref (a 0), .ref (a 1)])), ((a 0), .inl (cI, 256, .inl v_owners)), ((a 1), .inl (cJ, 60, .inr (.inl v_supports)))]
def wp_X0_putInAt_66 (v_owners : Nat → Int32) (v_supports : Nat → Int64) (p1 : Int32) (post : Int32 → (Nat → Int64) → Prop) (K18 : Int64 → Int64 → Int32 → Int32 → (Nat → Int64) → Prop) (x2_j66 : Int64) (x4_j66 : Int64) (x6_j66 : Int32) (x7_j66 : Int32) (x8_j66 : Int32) (v_supports_j66 : Nat → Int64) : Prop := ∀ y4_73 : Int64, y4_73 = (x4_j66 ||| ((1 : Int64) <<< ((x8_j66 : Int32).toInt64 &&& 63))) → K18 x2_j66 y4_73 x6_j66 (x7_j66 + 1) v_supports_j66
def wp_X0_putInAt_18 (v_owners : Nat → Int32) (v_supports : Nat → Int64) (p1 : Int32) (post : Int32 → (Nat → Int64) → Prop) (K18 : Int64 → Int64 → Int32 → Int32 → (Nat → Int64) → Prop) (x2_j18 : Int64) (x4_j18 : Int64) (x6_j18 : Int32) (x7_j18 : Int32) (v_supports_j18 : Nat → Int64) : Prop := (60 ≤ x7_j18 → post x6_j18 v_supports_j18) ∧ (¬ 60 ≤ x7_j18 → ((lg_cmp x4_j18 x2_j18) = 0 → post x6_j18 v_supports_j18) ∧ (¬ (lg_cmp x4_j18 x2_j18) = 0 → wp_X0_lowestReady v_supports_j18 (x2_j18 &&& (x4_j18 ^^^ (-1))) x4_j18 (fun r_43 => (r_43 = (-1) → post (-1) v_supports_j18) ∧ (¬ r_43 = (-1) → (x7_j18 = p1 → wp_X0_putInAt_66 v_owners v_supports p1 post K18 x2_j18 x4_j18 r_43 x7_j18 r_43 v_supports_j18) ∧ (¬ x7_j18 = p1 → wp_X0_putInAt_66 v_owners v_supports p1 post K18 x2_j18 x4_j18 x6_j18 x7_j18 r_43 v_supports_j18)))))
def lF_X0_putInAt_18 (v_owners : Nat → Int32) (v_supports : Nat → Int64) (p1 : Int32) (post : Int32 → (Nat → Int64) → Prop) : ((Int64 × Int64 × Int32 × Int32 × (Nat → Int64)) → Prop) → (Int64 × Int64 × Int32 × Int32 × (Nat → Int64)) → Prop := fun K s => wp_X0_putInAt_18 v_owners v_supports p1 post (fun b0 b1 b2 b3 b4 => K (b0, b1, b2, b3, b4)) s.1 s.2.1 s.2.2.1 s.2.2.2.1 s.2.2.2.2
def wp_X0_putInAt (v_owners : Nat → Int32) (v_supports : Nat → Int64) (p1 : Int32) (post : Int32 → (Nat → Int64) → Prop) : Prop := wp_X0_findSupports v_owners v_supports (fun v_supports_c1 => wp_X0_present v_owners (fun r_5 => lp (lF_X0_putInAt_18 v_owners v_supports p1 post) (r_5, 0, (-1), 0, v_supports_c1)))
set_option maxHeartbeats 4000000 in
set_option maxRecDepth 100000 in
theorem c_X0_putInAt (l : Launch) (D : va_G) (cI cJ cZ cO : ClassId) (h : Nat) (a : Nat → Nat) (sz : Nat) (v_owners : Nat → Int32) (v_supports : Nat → Int64) (p1 : Int32) (post : Int32 → (Nat → Int64) → Prop) (hw : wp_X0_putInAt v_owners v_supports p1 post) : Met l yX0_putInAt wsX0_putInAt rm_X0_putInAt (va_Pc [.ref h, .int p1] (PRE D cI cJ cZ cO (W_X0_putInAt h a cI cJ cZ v_owners v_supports) sz)) (va_Qi (fun r (u : (Nat → Int64)) => post r u) (fun u t => POST D (va_A (W_X0_putInAt h a cI cJ cZ v_owners v_supports) sz) (W_X0_putInAt h a cI cJ cZ v_owners u) t) (va_A (W_X0_putInAt h a cI cJ cZ v_owners v_supports) sz)) 0 0 (va_A (W_X0_putInAt h a cI cJ cZ v_owners v_supports) sz) := by
  refine met_go (cc := cX0_putInAt) (maxL := 9) (ret := some .int) RX0 rfl (by decide) rfl (Nat.le_of_ble_eq_true rfl) ?_
  intro p e s m args below meth c ls hx hb hr hts hown hlocks hin hml hsz hP hK hE hD hA hS hl
  have iRX0 : ∀ w ∈ u_ws RX0 TX0 2, w ∈ wsX0_putInAt := mem_seg 32 2 rfl
  generalize va_A (W_X0_putInAt h a cI cJ cZ v_owners v_supports) sz = A at hD hA hS ⊢
  have RT : ∀ (v : Int32) (u : (Nat → Int64)) (H : Heap) (locs : List Loc) (pc : Nat) (ls : Array Slot), decode cX0_putInAt pc = .ok (.ireturn, 1) → post v u → va_P D vwCl (W_X0_putInAt h a cI cJ cZ v_owners u) H → va_D A (W_X0_putInAt h a cI cJ cZ v_owners u) → va_S A s.heap H locs → W p l e rm_X0_putInAt s m args below meth c H locs 0 0 (MQ below (va_Qi (fun r (u : (Nat → Int64)) => post r u) (fun u t => POST D A (W_X0_putInAt h a cI cJ cZ v_owners u) t) A) args s 0 0 A) (F0 m pc ls [.int v]) := fun v u H locs pc ls d g1 g2 g3 g4 => rt_i (Wf := fun u => (W_X0_putInAt h a cI cJ cZ v_owners u)) u hx hb hr hlocks g1 g2 g3 g4 d
  generalize (MQ below (va_Qi (fun r (u : (Nat → Int64)) => post r u) (fun u t => POST D A (W_X0_putInAt h a cI cJ cZ v_owners u) t) A) args s 0 0 A) = QQ at RT ⊢
  have hl : lv_has ls 9 [(0, .ref h), (1, .int p1)] := hl
  have hP : va_P D vwCl (W_X0_putInAt h a cI cJ cZ v_owners v_supports) s.heap := hP
  unfold wp_X0_putInAt at hw
  suffices GO : ∀ (H : Heap) (locs : List Loc), va_P D vwCl (W_X0_putInAt h a cI cJ cZ v_owners v_supports) H → va_S A s.heap H locs → W p l e rm_X0_putInAt s m args below meth c H locs 0 0 QQ (F0 m 0 ls []) from GO _ _ hP hS
  clear hsz hP hS
  intro H locs hP hS
  have L18 : ∀ s0 : (Int64 × Int64 × Int32 × Int32 × (Nat → Int64)), lp (lF_X0_putInAt_18 v_owners v_supports p1 post) s0 → ∀ (H : Heap) (locs : List Loc) (ls : Array Slot), va_P D vwCl (W_X0_putInAt h a cI cJ cZ v_owners s0.2.2.2.2) H → va_D A (W_X0_putInAt h a cI cJ cZ v_owners s0.2.2.2.2) → va_S A s.heap H locs → lv_has ls 9 [(0, .ref h), (1, .int p1), (2, .long s0.1), (4, .long s0.2.1), (6, .int s0.2.2.1), (7, .int s0.2.2.2.1)] → W p l e rm_X0_putInAt s m args below meth c H locs 0 0 QQ (F0 m 18 ls []) := by
    refine lp_elim (fun K18 ih18 s0 hw => ?_)
    obtain ⟨x2_j18, x4_j18, x6_j18, x7_j18, v_supports_j18⟩ := s0
    intro H locs ls hP hD hS hl
    have hw : wp_X0_putInAt_18 v_owners v_supports p1 post (fun b0 b1 b2 b3 b4 => K18 (b0, b1, b2, b3, b4)) x2_j18 x4_j18 x6_j18 x7_j18 v_supports_j18 := hw
    have hP : va_P D vwCl (W_X0_putInAt h a cI cJ cZ v_owners v_supports_j18) H := hP
    have hD : va_D A (W_X0_putInAt h a cI cJ cZ v_owners v_supports_j18) := hD
    have hl : lv_has ls 9 [(0, .ref h), (1, .int p1), (2, .long x2_j18), (4, .long x4_j18), (6, .int x6_j18), (7, .int x7_j18)] := hl
    have J66 : ∀ (x2_j66 : Int64) (x4_j66 : Int64) (x6_j66 : Int32) (x7_j66 : Int32) (x8_j66 : Int32) (v_supports_j66 : Nat → Int64) , wp_X0_putInAt_66 v_owners v_supports p1 post (fun b0 b1 b2 b3 b4 => K18 (b0, b1, b2, b3, b4)) x2_j66 x4_j66 x6_j66 x7_j66 x8_j66 v_supports_j66 → ∀ (H : Heap) (locs : List Loc) (ls : Array Slot), va_P D vwCl (W_X0_putInAt h a cI cJ cZ v_owners v_supports_j66) H → va_D A (W_X0_putInAt h a cI cJ cZ v_owners v_supports_j66) → va_S A s.heap H locs → lv_has ls 9 [(0, .ref h), (1, .int p1), (2, .long x2_j66), (4, .long x4_j66), (6, .int x6_j66), (7, .int x7_j66), (8, .int x8_j66)] → W p l e rm_X0_putInAt s m args below meth c H locs 0 0 QQ (F0 m 66 ls []) := by
      intro x2_j66 x4_j66 x6_j66 x7_j66 x8_j66 v_supports_j66 hw H locs ls hP hD hS hl
      unfold wp_X0_putInAt_66 at hw
      refine lv_lload hx hb dX0_putInAt_66 (lv_at hl 3 rfl) ?_
      refine lv_lconst (v := 1) hx hb dX0_putInAt_68 (by decide) ?_
      refine lv_iload hx hb dX0_putInAt_69 (lv_at hl 6 rfl) ?_
      refine lv_lshl (v := ((1 : Int64) <<< ((x8_j66 : Int32).toInt64 &&& 63))) hx hb dX0_putInAt_71 rfl ?_
      refine lv_lor hx hb dX0_putInAt_72 ?_
      refine lv_topl (fun y4_73 ey4_73 => ?_)
      have hw := hw y4_73 ey4_73
      refine lv_lstore (lv' := [(4, .long y4_73), (0, .ref h), (1, .int p1), (2, .long x2_j66), (6, .int x6_j66), (7, .int x7_j66), (8, .int x8_j66)]) hx hb dX0_putInAt_73 hl (by decide) rfl (fun ls hl => ?_)
      refine lv_iinc (v := (x7_j66 + 1)) (lv' := [(7, .int (x7_j66 + 1)), (4, .long y4_73), (0, .ref h), (1, .int p1), (2, .long x2_j66), (6, .int x6_j66), (8, .int x8_j66)]) hx hb dX0_putInAt_75 hl (k := 5) rfl rfl (by decide) rfl (fun ls hl => ?_)
      refine lv_goto (tgt := 18) hx hb dX0_putInAt_78 (by decide) ?_
      exact ih18 (x2_j66, y4_73, x6_j66, (x7_j66 + 1), v_supports_j66) hw _ _ ls hP hD hS (lv_sub hl [2, 3, 4, 1, 5, 0] rfl)
    unfold wp_X0_putInAt_18 at hw
    refine lv_iload hx hb dX0_putInAt_18 (lv_at hl 5 rfl) ?_
    refine lv_bipush (v := 60) hx hb dX0_putInAt_20 (by decide) ?_
    refine lv_icmp_ge (tgt := 81) hx hb dX0_putInAt_22 (by decide) (fun c22 => ?_) (fun c22 => ?_)
    · have hw := hw.1 c22
      refine lv_iload hx hb dX0_putInAt_81 (lv_at hl 4 rfl) ?_
      exact RT x6_j18 v_supports_j18 _ _ _ _ dX0_putInAt_83 hw hP hD hS
    · have hw := hw.2 c22
      refine lv_lload hx hb dX0_putInAt_25 (lv_at hl 3 rfl) ?_
      refine lv_lload_n hx hb dX0_putInAt_27 rfl (lv_at hl 2 rfl) ?_
      refine W.lcmp hx hb dX0_putInAt_28 ?_
      refine lv_if_eq (tgt := 81) hx hb dX0_putInAt_29 (by decide) (fun c29 => ?_) (fun c29 => ?_)
      · have hw := hw.1 c29
        refine lv_iload hx hb dX0_putInAt_81 (lv_at hl 4 rfl) ?_
        exact RT x6_j18 v_supports_j18 _ _ _ _ dX0_putInAt_83 hw hP hD hS
      · have hw := hw.2 c29
        refine lv_aload_n hx hb dX0_putInAt_32 rfl (lv_at hl 0 rfl) ?_
        refine lv_lload_n hx hb dX0_putInAt_33 rfl (lv_at hl 2 rfl) ?_
        refine lv_lload hx hb dX0_putInAt_34 (lv_at hl 3 rfl) ?_
        refine lv_ldc2 (v := (-1)) hx hb hown (hts (.constantLong RX0 46 (-1)) (List.mem_of_getElem? (i := 1) rfl)) dX0_putInAt_36 ?_
        refine lv_lxor hx hb dX0_putInAt_39 ?_
        refine lv_land hx hb dX0_putInAt_40 ?_
        refine lv_lload hx hb dX0_putInAt_41 (lv_at hl 3 rfl) ?_
        refine af_i (X := (W_X0_putInAt h a cI cJ cZ v_owners v_supports_j18)) (pl := []) (cx := (W_X0_lowestReady h a cI cJ cZ v_supports_j18)) (w1 := fun (u : Unit) => (W_X0_lowestReady h a cI cJ cZ v_supports_j18)) (X' := fun (u : Unit) => (W_X0_putInAt h a cI cJ cZ v_owners v_supports_j18)) hP hD hS hA [0, 2] [1] [1, 0, 2] rfl rfl (by decide) (by decide) (fun u => rfl) (by decide) (va_runV (As := [.long (x2_j18 &&& (x4_j18 ^^^ (-1))), .long x4_j18]) (rest := []) ⟨hx, hb, hml, hown, hts⟩ (c_X0_lowestReady l D cI cJ cZ cO h a H.size v_supports_j18 (x2_j18 &&& (x4_j18 ^^^ (-1))) x4_j18 _ hw) (cwV 2 hts gX0_putInAt_X0_lowestReady rfl rfl rfl (by decide +kernel) ⟨Nat.le_of_ble_eq_true rfl, Nat.le_of_ble_eq_true rfl⟩) (preV (X := (W_X0_putInAt h a cI cJ cZ v_owners v_supports_j18)) (pl := []) (cx := (W_X0_lowestReady h a cI cJ cZ v_supports_j18)) (qb := 0) (ci := 1) hK hE hP hD [0, 2] (by decide) rfl rfl rfl) rfl rfl hl.1 rfl (lv_room (Nat.le_of_ble_eq_true rfl)) dX0_putInAt_43 ⟨Nat.zero_le _, Nat.zero_le _⟩) (fun r_43 _ H locs hw hP hD hS => ?_)
        try dsimp only at hw
        have hP : va_P D vwCl (W_X0_putInAt h a cI cJ cZ v_owners v_supports_j18) H := hP
        have hD : va_D A (W_X0_putInAt h a cI cJ cZ v_owners v_supports_j18) := hD
        refine lv_istore (lv' := [(8, .int r_43), (0, .ref h), (1, .int p1), (2, .long x2_j18), (4, .long x4_j18), (6, .int x6_j18), (7, .int x7_j18)]) hx hb dX0_putInAt_46 hl (by decide) rfl (fun ls hl => ?_)
        refine lv_iload hx hb dX0_putInAt_48 (lv_at hl 0 rfl) ?_
        refine lv_iconst (v := (-1)) hx hb dX0_putInAt_50 (by decide) ?_
        refine lv_icmp_ne (tgt := 56) hx hb dX0_putInAt_51 (by decide) (fun c51 => ?_) (fun c51 => ?_)
        · have hw := hw.2 c51
          refine lv_iload hx hb dX0_putInAt_56 (lv_at hl 6 rfl) ?_
          refine lv_iload_n hx hb dX0_putInAt_58 rfl (lv_at hl 2 rfl) ?_
          refine lv_icmp_ne (tgt := 66) hx hb dX0_putInAt_59 (by decide) (fun c59 => ?_) (fun c59 => ?_)
          · have hw := hw.2 c59
            exact J66 x2_j18 x4_j18 x6_j18 x7_j18 r_43 v_supports_j18 hw _ _ ls hP hD hS (lv_sub hl [1, 2, 3, 4, 5, 6, 0] rfl)
          · have hw := hw.1 c59
            refine lv_iload hx hb dX0_putInAt_62 (lv_at hl 0 rfl) ?_
            refine lv_istore (lv' := [(6, .int r_43), (8, .int r_43), (0, .ref h), (1, .int p1), (2, .long x2_j18), (4, .long x4_j18), (7, .int x7_j18)]) hx hb dX0_putInAt_64 hl (by decide) rfl (fun ls hl => ?_)
            exact J66 x2_j18 x4_j18 r_43 x7_j18 r_43 v_supports_j18 hw _ _ ls hP hD hS (lv_sub hl [2, 3, 4, 5, 0, 6, 1] rfl)
        · have hw := hw.1 c51
          refine lv_iconst (v := (-1)) hx hb dX0_putInAt_54 (by decide) ?_
          exact RT (-1) v_supports_j18 _ _ _ _ dX0_putInAt_55 hw hP hD hS
  refine lv_aload_n hx hb dX0_putInAt_0 rfl (lv_at hl 0 rfl) ?_
  refine af_v (X := (W_X0_putInAt h a cI cJ cZ v_owners v_supports)) (pl := []) (cx := (W_X0_findSupports h a cI cJ cZ v_owners v_supports)) (w1 := fun (u : (Nat → Int64)) => (W_X0_findSupports h a cI cJ cZ v_owners u)) (X' := fun (u : (Nat → Int64)) => (W_X0_putInAt h a cI cJ cZ v_owners u)) hP hD hS hA [0, 1, 2] [] [0, 1, 2] rfl rfl (by decide) (by decide) (fun u => rfl) (by decide) (va_runV (As := []) (rest := []) ⟨hx, hb, hml, hown, hts⟩ (c_X0_findSupports l D cI cJ cZ cO h a H.size v_owners v_supports _ hw) (cwV 0 hts gX0_putInAt_X0_findSupports rfl rfl rfl (by decide +kernel) ⟨Nat.le_of_ble_eq_true rfl, Nat.le_of_ble_eq_true rfl⟩) (preV (X := (W_X0_putInAt h a cI cJ cZ v_owners v_supports)) (pl := []) (cx := (W_X0_findSupports h a cI cJ cZ v_owners v_supports)) (qb := 0) (ci := 1) hK hE hP hD [0, 1, 2] (by decide) rfl rfl rfl) rfl rfl hl.1 rfl (lv_room (Nat.le_of_ble_eq_true rfl)) dX0_putInAt_1 ⟨Nat.zero_le _, Nat.zero_le _⟩) (fun v_supports_c1 H locs hw hP hD hS => ?_)
  try dsimp only at hw
  have hP : va_P D vwCl (W_X0_putInAt h a cI cJ cZ v_owners v_supports_c1) H := hP
  have hD : va_D A (W_X0_putInAt h a cI cJ cZ v_owners v_supports_c1) := hD
  refine lv_aload_n hx hb dX0_putInAt_4 rfl (lv_at hl 0 rfl) ?_
  refine af_l (X := (W_X0_putInAt h a cI cJ cZ v_owners v_supports_c1)) (pl := []) (cx := (W_X0_present h a cI cJ cZ v_owners)) (w1 := fun (u : Unit) => (W_X0_present h a cI cJ cZ v_owners)) (X' := fun (u : Unit) => (W_X0_putInAt h a cI cJ cZ v_owners v_supports_c1)) hP hD hS hA [0, 1] [2] [1, 2, 0] rfl rfl (by decide) (by decide) (fun u => rfl) (by decide) (va_runV (As := []) (rest := []) ⟨hx, hb, hml, hown, hts⟩ (c_X0_present l D cI cJ cZ cO h a H.size v_owners _ hw) (cwV 0 hts gX0_putInAt_X0_present rfl rfl rfl (by decide +kernel) ⟨Nat.le_of_ble_eq_true rfl, Nat.le_of_ble_eq_true rfl⟩) (preV (X := (W_X0_putInAt h a cI cJ cZ v_owners v_supports_c1)) (pl := []) (cx := (W_X0_present h a cI cJ cZ v_owners)) (qb := 0) (ci := 1) hK hE hP hD [0, 1] (by decide) rfl rfl rfl) rfl rfl hl.1 rfl (lv_room (Nat.le_of_ble_eq_true rfl)) dX0_putInAt_5 ⟨Nat.zero_le _, Nat.zero_le _⟩) (fun r_5 _ H locs hw hP hD hS => ?_)
  try dsimp only at hw
  have hP : va_P D vwCl (W_X0_putInAt h a cI cJ cZ v_owners v_supports_c1) H := hP
  have hD : va_D A (W_X0_putInAt h a cI cJ cZ v_owners v_supports_c1) := hD
  refine lv_lstore_n (lv' := [(2, .long r_5), (0, .ref h), (1, .int p1)]) hx hb dX0_putInAt_8 rfl hl (by decide) rfl (fun ls hl => ?_)
  refine lv_lconst (v := 0) hx hb dX0_putInAt_9 (by decide) ?_
  refine lv_lstore (lv' := [(4, .long 0), (2, .long r_5), (0, .ref h), (1, .int p1)]) hx hb dX0_putInAt_10 hl (by decide) rfl (fun ls hl => ?_)
  refine lv_iconst (v := (-1)) hx hb dX0_putInAt_12 (by decide) ?_
  refine lv_istore (lv' := [(6, .int (-1)), (4, .long 0), (2, .long r_5), (0, .ref h), (1, .int p1)]) hx hb dX0_putInAt_13 hl (by decide) rfl (fun ls hl => ?_)
  refine lv_iconst (v := 0) hx hb dX0_putInAt_15 (by decide) ?_
  refine lv_istore (lv' := [(7, .int 0), (6, .int (-1)), (4, .long 0), (2, .long r_5), (0, .ref h), (1, .int p1)]) hx hb dX0_putInAt_16 hl (by decide) rfl (fun ls hl => ?_)
  exact L18 (r_5, 0, (-1), 0, v_supports_c1) hw _ _ ls hP hD hS (lv_sub hl [4, 5, 3, 2, 1, 0] rfl)
abbrev rm_X0_crossedBehind : Room := { frames := 1, cells := 0, slots := 0, locals := 22 }
abbrev W_X0_crossedBehind (h : Nat) (a : Nat → Nat) (cI cJ cZ : ClassId) (v_owners : Nat → Int32) : va_W := [(h, .inr (1, [.ref (a 0), .ref (a 1)])), ((a 0), .inl (cI, 256, .inl v_owners))]
def wp_X0_crossedBehind_5 (v_owners : Nat → Int32) (p1 : Int32) (post : Int32 → Prop) (K5 : Int64 → Int32 → Prop) (x2_j5 : Int64) (x4_j5 : Int32) : Prop := (16 ≤ x4_j5 → wp_J13_bitCount_95d88 x2_j5 (fun r_55 => post r_55)) ∧ (¬ 16 ≤ x4_j5 → wp_X0_ownerAt v_owners p1 x4_j5 (fun r_16 => (r_16 = (-1) → K5 x2_j5 (x4_j5 + 1)) ∧ (¬ r_16 = (-1) → wp_X0_ownerAt v_owners (p1 + 1) x4_j5 (fun r_35 => (r_16 = r_35 → ∀ y2_47 : Int64, y2_47 = (x2_j5 ||| ((1 : Int64) <<< ((r_16 : Int32).toInt64 &&& 63))) → K5 y2_47 (x4_j5 + 1)) ∧ (¬ r_16 = r_35 → K5 x2_j5 (x4_j5 + 1))))))
def lF_X0_crossedBehind_5 (v_owners : Nat → Int32) (p1 : Int32) (post : Int32 → Prop) : ((Int64 × Int32) → Prop) → (Int64 × Int32) → Prop := fun K s => wp_X0_crossedBehind_5 v_owners p1 post (fun b0 b1 => K (b0, b1)) s.1 s.2
def wp_X0_crossedBehind (v_owners : Nat → Int32) (p1 : Int32) (post : Int32 → Prop) : Prop := lp (lF_X0_crossedBehind_5 v_owners p1 post) (0, 0)
set_option maxHeartbeats 4000000 in
set_option maxRecDepth 100000 in
theorem c_X0_crossedBehind (l : Launch) (D : va_G) (cI cJ cZ cO : ClassId) (h : Nat) (a : Nat → Nat) (sz : Nat) (v_owners : Nat → Int32) (p1 : Int32) (post : Int32 → Prop) (hw : wp_X0_crossedBehind v_owners p1 post) : Met l yX0_crossedBehind wsX0_crossedBehind rm_X0_crossedBehind (va_Pc [.ref h, .int p1] (PRE D cI cJ cZ cO (W_X0_crossedBehind h a cI cJ cZ v_owners) sz)) (va_Qi (fun r (_ : Unit) => post r) (fun u t => POST D (va_A (W_X0_crossedBehind h a cI cJ cZ v_owners) sz) (W_X0_crossedBehind h a cI cJ cZ v_owners) t) (va_A (W_X0_crossedBehind h a cI cJ cZ v_owners) sz)) 0 0 (va_A (W_X0_crossedBehind h a cI cJ cZ v_owners) sz) := by
  refine met_go (cc := cX0_crossedBehind) (maxL := 6) (ret := some .int) RX0 rfl (by decide) rfl (Nat.le_of_ble_eq_true rfl) ?_
  intro p e s m args below meth c ls hx hb hr hts hown hlocks hin hml hsz hP hK hE hD hA hS hl
  have iRX0 : ∀ w ∈ u_ws RX0 TX0 2, w ∈ wsX0_crossedBehind := mem_seg 14 2 rfl
  generalize va_A (W_X0_crossedBehind h a cI cJ cZ v_owners) sz = A at hD hA hS ⊢
  have RT : ∀ (v : Int32) (u : Unit) (H : Heap) (locs : List Loc) (pc : Nat) (ls : Array Slot), decode cX0_crossedBehind pc = .ok (.ireturn, 1) → post v → va_P D vwCl (W_X0_crossedBehind h a cI cJ cZ v_owners) H → va_D A (W_X0_crossedBehind h a cI cJ cZ v_owners) → va_S A s.heap H locs → W p l e rm_X0_crossedBehind s m args below meth c H locs 0 0 (MQ below (va_Qi (fun r (_ : Unit) => post r) (fun u t => POST D A (W_X0_crossedBehind h a cI cJ cZ v_owners) t) A) args s 0 0 A) (F0 m pc ls [.int v]) := fun v u H locs pc ls d g1 g2 g3 g4 => rt_i (Wf := fun u => (W_X0_crossedBehind h a cI cJ cZ v_owners)) u hx hb hr hlocks g1 g2 g3 g4 d
  generalize (MQ below (va_Qi (fun r (_ : Unit) => post r) (fun u t => POST D A (W_X0_crossedBehind h a cI cJ cZ v_owners) t) A) args s 0 0 A) = QQ at RT ⊢
  have hl : lv_has ls 6 [(0, .ref h), (1, .int p1)] := hl
  have hP : va_P D vwCl (W_X0_crossedBehind h a cI cJ cZ v_owners) s.heap := hP
  unfold wp_X0_crossedBehind at hw
  suffices GO : ∀ (H : Heap) (locs : List Loc), va_P D vwCl (W_X0_crossedBehind h a cI cJ cZ v_owners) H → va_S A s.heap H locs → W p l e rm_X0_crossedBehind s m args below meth c H locs 0 0 QQ (F0 m 0 ls []) from GO _ _ hP hS
  clear hsz hP hS
  intro H locs hP hS
  have L5 : ∀ s0 : (Int64 × Int32), lp (lF_X0_crossedBehind_5 v_owners p1 post) s0 → ∀ (H : Heap) (locs : List Loc) (ls : Array Slot), va_P D vwCl (W_X0_crossedBehind h a cI cJ cZ v_owners) H → va_D A (W_X0_crossedBehind h a cI cJ cZ v_owners) → va_S A s.heap H locs → lv_has ls 6 [(0, .ref h), (1, .int p1), (2, .long s0.1), (4, .int s0.2)] → W p l e rm_X0_crossedBehind s m args below meth c H locs 0 0 QQ (F0 m 5 ls []) := by
    refine lp_elim (fun K5 ih5 s0 hw => ?_)
    obtain ⟨x2_j5, x4_j5⟩ := s0
    intro H locs ls hP hD hS hl
    have hw : wp_X0_crossedBehind_5 v_owners p1 post (fun b0 b1 => K5 (b0, b1)) x2_j5 x4_j5 := hw
    have hP : va_P D vwCl (W_X0_crossedBehind h a cI cJ cZ v_owners) H := hP
    have hD : va_D A (W_X0_crossedBehind h a cI cJ cZ v_owners) := hD
    have hl : lv_has ls 6 [(0, .ref h), (1, .int p1), (2, .long x2_j5), (4, .int x4_j5)] := hl
    unfold wp_X0_crossedBehind_5 at hw
    refine lv_iload hx hb dX0_crossedBehind_5 (lv_at hl 3 rfl) ?_
    refine lv_bipush (v := 16) hx hb dX0_crossedBehind_7 (by decide) ?_
    refine lv_icmp_ge (tgt := 54) hx hb dX0_crossedBehind_9 (by decide) (fun c9 => ?_) (fun c9 => ?_)
    · have hw := hw.1 c9
      refine lv_lload_n hx hb dX0_crossedBehind_54 rfl (lv_at hl 2 rfl) ?_
      refine af_i (X := (W_X0_crossedBehind h a cI cJ cZ v_owners)) (pl := []) (cx := ([] : va_W)) (w1 := fun (u : Unit) => ([] : va_W)) (X' := fun (u : Unit) => (W_X0_crossedBehind h a cI cJ cZ v_owners)) hP hD hS hA [] [0, 1] [0, 1] rfl rfl (by decide) (by decide) (fun u => rfl) (by decide) (va_runS (As := [.long x2_j5]) (rest := []) ⟨hx, hb, hml, hown, hts⟩ (c_J13_bitCount_95d88 l D cI cJ cZ cO H.size x2_j5 _ hw) (va_cwS 1 hts gX0_crossedBehind_J13_bitCount_95d88 rfl rfl rfl (by decide +kernel) ⟨Nat.le_of_ble_eq_true rfl, Nat.le_of_ble_eq_true rfl⟩) (preS (X := (W_X0_crossedBehind h a cI cJ cZ v_owners)) (pl := []) (cx := ([] : va_W)) hK hE hP hD [] (by decide) rfl) rfl rfl hl.1 rfl (lv_room (Nat.le_of_ble_eq_true rfl)) dX0_crossedBehind_55 ⟨Nat.zero_le _, Nat.zero_le _⟩) (fun r_55 _ H locs hw hP hD hS => ?_)
      try dsimp only at hw
      have hP : va_P D vwCl (W_X0_crossedBehind h a cI cJ cZ v_owners) H := hP
      have hD : va_D A (W_X0_crossedBehind h a cI cJ cZ v_owners) := hD
      exact RT r_55 () _ _ _ _ dX0_crossedBehind_58 hw hP hD hS
    · have hw := hw.2 c9
      refine lv_aload_n hx hb dX0_crossedBehind_12 rfl (lv_at hl 0 rfl) ?_
      refine lv_iload_n hx hb dX0_crossedBehind_13 rfl (lv_at hl 1 rfl) ?_
      refine lv_iload hx hb dX0_crossedBehind_14 (lv_at hl 3 rfl) ?_
      refine af_i (X := (W_X0_crossedBehind h a cI cJ cZ v_owners)) (pl := []) (cx := (W_X0_ownerAt h a cI cJ cZ v_owners)) (w1 := fun (u : Unit) => (W_X0_ownerAt h a cI cJ cZ v_owners)) (X' := fun (u : Unit) => (W_X0_crossedBehind h a cI cJ cZ v_owners)) hP hD hS hA [0, 1] [] [0, 1] rfl rfl (by decide) (by decide) (fun u => rfl) (by decide) (va_runV (As := [.int p1, .int x4_j5]) (rest := []) ⟨hx, hb, hml, hown, hts⟩ (c_X0_ownerAt l D cI cJ cZ cO h a H.size v_owners p1 x4_j5 _ hw) (cwV 2 hts gX0_crossedBehind_X0_ownerAt rfl rfl rfl (by decide +kernel) ⟨Nat.le_of_ble_eq_true rfl, Nat.le_of_ble_eq_true rfl⟩) (preV (X := (W_X0_crossedBehind h a cI cJ cZ v_owners)) (pl := []) (cx := (W_X0_ownerAt h a cI cJ cZ v_owners)) (qb := 0) (ci := 1) hK hE hP hD [0, 1] (by decide) rfl rfl rfl) rfl rfl hl.1 rfl (lv_room (Nat.le_of_ble_eq_true rfl)) dX0_crossedBehind_16 ⟨Nat.zero_le _, Nat.zero_le _⟩) (fun r_16 _ H locs hw hP hD hS => ?_)
      try dsimp only at hw
      have hP : va_P D vwCl (W_X0_crossedBehind h a cI cJ cZ v_owners) H := hP
      have hD : va_D A (W_X0_crossedBehind h a cI cJ cZ v_owners) := hD
      refine lv_istore (lv' := [(5, .int r_16), (0, .ref h), (1, .int p1), (2, .long x2_j5), (4, .int x4_j5)]) hx hb dX0_crossedBehind_19 hl (by decide) rfl (fun ls hl => ?_)
      refine lv_iload hx hb dX0_crossedBehind_21 (lv_at hl 0 rfl) ?_
      refine lv_iconst (v := (-1)) hx hb dX0_crossedBehind_23 (by decide) ?_
      refine lv_icmp_eq (tgt := 48) hx hb dX0_crossedBehind_24 (by decide) (fun c24 => ?_) (fun c24 => ?_)
      · have hw := hw.1 c24
        refine lv_iinc (v := (x4_j5 + 1)) (lv' := [(4, .int (x4_j5 + 1)), (5, .int r_16), (0, .ref h), (1, .int p1), (2, .long x2_j5)]) hx hb dX0_crossedBehind_48 hl (k := 4) rfl rfl (by decide) rfl (fun ls hl => ?_)
        refine lv_goto (tgt := 5) hx hb dX0_crossedBehind_51 (by decide) ?_
        exact ih5 (x2_j5, (x4_j5 + 1)) hw _ _ ls hP hD hS (lv_sub hl [2, 3, 4, 0] rfl)
      · have hw := hw.2 c24
        refine lv_iload hx hb dX0_crossedBehind_27 (lv_at hl 0 rfl) ?_
        refine lv_aload_n hx hb dX0_crossedBehind_29 rfl (lv_at hl 1 rfl) ?_
        refine lv_iload_n hx hb dX0_crossedBehind_30 rfl (lv_at hl 2 rfl) ?_
        refine lv_iconst (v := 1) hx hb dX0_crossedBehind_31 (by decide) ?_
        refine lv_iadd hx hb dX0_crossedBehind_32 ?_
        refine lv_iload hx hb dX0_crossedBehind_33 (lv_at hl 4 rfl) ?_
        refine af_i (X := (W_X0_crossedBehind h a cI cJ cZ v_owners)) (pl := []) (cx := (W_X0_ownerAt h a cI cJ cZ v_owners)) (w1 := fun (u : Unit) => (W_X0_ownerAt h a cI cJ cZ v_owners)) (X' := fun (u : Unit) => (W_X0_crossedBehind h a cI cJ cZ v_owners)) hP hD hS hA [0, 1] [] [0, 1] rfl rfl (by decide) (by decide) (fun u => rfl) (by decide) (va_runV (As := [.int (p1 + 1), .int x4_j5]) (rest := [.int r_16]) ⟨hx, hb, hml, hown, hts⟩ (c_X0_ownerAt l D cI cJ cZ cO h a H.size v_owners (p1 + 1) x4_j5 _ hw) (cwV 2 hts gX0_crossedBehind_X0_ownerAt rfl rfl rfl (by decide +kernel) ⟨Nat.le_of_ble_eq_true rfl, Nat.le_of_ble_eq_true rfl⟩) (preV (X := (W_X0_crossedBehind h a cI cJ cZ v_owners)) (pl := []) (cx := (W_X0_ownerAt h a cI cJ cZ v_owners)) (qb := 0) (ci := 1) hK hE hP hD [0, 1] (by decide) rfl rfl rfl) rfl rfl hl.1 rfl (lv_room (Nat.le_of_ble_eq_true rfl)) dX0_crossedBehind_35 ⟨Nat.zero_le _, Nat.zero_le _⟩) (fun r_35 _ H locs hw hP hD hS => ?_)
        try dsimp only at hw
        have hP : va_P D vwCl (W_X0_crossedBehind h a cI cJ cZ v_owners) H := hP
        have hD : va_D A (W_X0_crossedBehind h a cI cJ cZ v_owners) := hD
        refine lv_icmp_ne (tgt := 48) hx hb dX0_crossedBehind_38 (by decide) (fun c38 => ?_) (fun c38 => ?_)
        · have hw := hw.2 c38
          refine lv_iinc (v := (x4_j5 + 1)) (lv' := [(4, .int (x4_j5 + 1)), (5, .int r_16), (0, .ref h), (1, .int p1), (2, .long x2_j5)]) hx hb dX0_crossedBehind_48 hl (k := 4) rfl rfl (by decide) rfl (fun ls hl => ?_)
          refine lv_goto (tgt := 5) hx hb dX0_crossedBehind_51 (by decide) ?_
          exact ih5 (x2_j5, (x4_j5 + 1)) hw _ _ ls hP hD hS (lv_sub hl [2, 3, 4, 0] rfl)
        · have hw := hw.1 c38
          refine lv_lload_n hx hb dX0_crossedBehind_41 rfl (lv_at hl 3 rfl) ?_
          refine lv_lconst (v := 1) hx hb dX0_crossedBehind_42 (by decide) ?_
          refine lv_iload hx hb dX0_crossedBehind_43 (lv_at hl 0 rfl) ?_
          refine lv_lshl (v := ((1 : Int64) <<< ((r_16 : Int32).toInt64 &&& 63))) hx hb dX0_crossedBehind_45 rfl ?_
          refine lv_lor hx hb dX0_crossedBehind_46 ?_
          refine lv_topl (fun y2_47 ey2_47 => ?_)
          have hw := hw y2_47 ey2_47
          refine lv_lstore_n (lv' := [(2, .long y2_47), (5, .int r_16), (0, .ref h), (1, .int p1), (4, .int x4_j5)]) hx hb dX0_crossedBehind_47 rfl hl (by decide) rfl (fun ls hl => ?_)
          refine lv_iinc (v := (x4_j5 + 1)) (lv' := [(4, .int (x4_j5 + 1)), (2, .long y2_47), (5, .int r_16), (0, .ref h), (1, .int p1)]) hx hb dX0_crossedBehind_48 hl (k := 4) rfl rfl (by decide) rfl (fun ls hl => ?_)
          refine lv_goto (tgt := 5) hx hb dX0_crossedBehind_51 (by decide) ?_
          exact ih5 (y2_47, (x4_j5 + 1)) hw _ _ ls hP hD hS (lv_sub hl [3, 4, 1, 0] rfl)
  refine lv_lconst (v := 0) hx hb dX0_crossedBehind_0 (by decide) ?_
  refine lv_lstore_n (lv' := [(2, .long 0), (0, .ref h), (1, .int p1)]) hx hb dX0_crossedBehind_1 rfl hl (by decide) rfl (fun ls hl => ?_)
  refine lv_iconst (v := 0) hx hb dX0_crossedBehind_2 (by decide) ?_
  refine lv_istore (lv' := [(4, .int 0), (2, .long 0), (0, .ref h), (1, .int p1)]) hx hb dX0_crossedBehind_3 hl (by decide) rfl (fun ls hl => ?_)
  exact L5 (0, 0) hw _ _ ls hP hD hS (lv_sub hl [2, 3, 1, 0] rfl)
