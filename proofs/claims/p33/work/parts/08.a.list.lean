/-! printed by wip/whole/gen: J3_checkIndex_8e157 J15_checkIndex_7cf53 Jx4a65c_size_8abf5 Jx4a65c_elementData_915e3 Jx4a65c_get_915e3 -/
abbrev rm_J3_checkIndex_8e157 : Room := { frames := 0, cells := 0, slots := 0, locals := 0 }
def wp_J3_checkIndex_8e157_9 (p1 : Int32) (p2 : Int32) (post : Int32 → Prop) : Prop := False
def wp_J3_checkIndex_8e157 (p1 : Int32) (p2 : Int32) (post : Int32 → Prop) : Prop := (p1 < 0 → wp_J3_checkIndex_8e157_9 p1 p2 post) ∧ (¬ p1 < 0 → (p1 < p2 → post p1) ∧ (¬ p1 < p2 → wp_J3_checkIndex_8e157_9 p1 p2 post))
set_option maxHeartbeats 4000000 in
set_option maxRecDepth 100000 in
theorem c_J3_checkIndex_8e157 (l : Launch) (D : va_G) (cI cJ cZ cO : ClassId) (sz : Nat) (p1 : Int32) (p2 : Int32) (post : Int32 → Prop) (hw : wp_J3_checkIndex_8e157 p1 p2 post) : Met l yJ3_checkIndex_8e157 wsJ3_checkIndex_8e157 rm_J3_checkIndex_8e157 (va_Pc [.int p1, .int p2, .null] (PRE D cI cJ cZ cO ([] : va_W) sz)) (va_Qi (fun r (_ : Unit) => post r) (fun u t => POST D (va_A ([] : va_W) sz) ([] : va_W) t) (va_A ([] : va_W) sz)) 0 0 (va_A ([] : va_W) sz) := by
  refine met_go (cc := cJ3_checkIndex_8e157) (maxL := 3) (ret := some .int) RJ3 rfl (by decide) rfl (Nat.le_of_ble_eq_true rfl) ?_
  intro p e s m args below meth c ls hx hb hr hts hown hlocks hin hml hsz hP hK hE hD hA hS hl
  generalize va_A ([] : va_W) sz = A at hD hA hS ⊢
  have RT : ∀ (v : Int32) (u : Unit) (H : Heap) (locs : List Loc) (pc : Nat) (ls : Array Slot), decode cJ3_checkIndex_8e157 pc = .ok (.ireturn, 1) → post v → va_P D vwCl ([] : va_W) H → va_D A ([] : va_W) → va_S A s.heap H locs → W p l e rm_J3_checkIndex_8e157 s m args below meth c H locs 0 0 (MQ below (va_Qi (fun r (_ : Unit) => post r) (fun u t => POST D A ([] : va_W) t) A) args s 0 0 A) (F0 m pc ls [.int v]) := fun v u H locs pc ls d g1 g2 g3 g4 => rt_i (Wf := fun (u : Unit) => ([] : va_W)) u hx hb hr hlocks g1 g2 g3 g4 d
  obtain ⟨QQ, hQQ⟩ : ∃ Q, Q = (MQ below (va_Qi (fun r (_ : Unit) => post r) (fun u t => POST D A ([] : va_W) t) A) args s 0 0 A) := ⟨_, rfl⟩
  rw [← hQQ] at RT ⊢
  have hl : lv_has ls 3 [(0, .int p1), (1, .int p2), (2, .null)] := hl
  have hP : va_P D vwCl ([] : va_W) s.heap := hP
  unfold wp_J3_checkIndex_8e157 at hw
  suffices GO : ∀ (H : Heap) (locs : List Loc), va_P D vwCl ([] : va_W) H → va_S A s.heap H locs → W p l e rm_J3_checkIndex_8e157 s m args below meth c H locs 0 0 QQ (F0 m 0 ls []) from GO _ _ hP hS
  clear hsz hP hS
  intro H locs hP hS
  have J9 : wp_J3_checkIndex_8e157_9 p1 p2 post → ∀ (H : Heap) (locs : List Loc) (ls : Array Slot), va_P D vwCl ([] : va_W) H → va_D A ([] : va_W) → va_S A s.heap H locs → lv_has ls 3 [(0, .int p1), (1, .int p2), (2, .null)] → W p l e rm_J3_checkIndex_8e157 s m args below meth c H locs 0 0 QQ (F0 m 9 ls []) := by
    intro hw H locs ls hP hD hS hl
    unfold wp_J3_checkIndex_8e157_9 at hw
    exact hw.elim
  refine lv_iload_n hx hb dJ3_checkIndex_8e157_0 rfl (lv_at hl 0 rfl) ?_
  refine lv_if_lt (tgt := 9) hx hb dJ3_checkIndex_8e157_1 (by decide) (fun c1 => ?_) (fun c1 => ?_)
  · have hw := hw.1 c1
    exact J9 hw _ _ ls hP hD hS (lv_sub hl [0, 1, 2] rfl)
  · have hw := hw.2 c1
    refine lv_iload_n hx hb dJ3_checkIndex_8e157_4 rfl (lv_at hl 0 rfl) ?_
    refine lv_iload_n hx hb dJ3_checkIndex_8e157_5 rfl (lv_at hl 1 rfl) ?_
    refine lv_icmp_lt (tgt := 16) hx hb dJ3_checkIndex_8e157_6 (by decide) (fun c6 => ?_) (fun c6 => ?_)
    · have hw := hw.1 c6
      refine lv_iload_n hx hb dJ3_checkIndex_8e157_16 rfl (lv_at hl 0 rfl) ?_
      exact RT p1 () _ _ _ _ dJ3_checkIndex_8e157_17 hw hP hD hS
    · have hw := hw.2 c6
      exact J9 hw _ _ ls hP hD hS (lv_sub hl [0, 1, 2] rfl)
abbrev rm_J15_checkIndex_7cf53 : Room := { frames := 1, cells := 0, slots := 0, locals := 22 }
def wp_J15_checkIndex_7cf53 (p1 : Int32) (p2 : Int32) (post : Int32 → Prop) : Prop := wp_J3_checkIndex_8e157 p1 p2 (fun r_3 => post r_3)
set_option maxHeartbeats 4000000 in
set_option maxRecDepth 100000 in
theorem c_J15_checkIndex_7cf53 (l : Launch) (D : va_G) (cI cJ cZ cO : ClassId) (sz : Nat) (p1 : Int32) (p2 : Int32) (post : Int32 → Prop) (hw : wp_J15_checkIndex_7cf53 p1 p2 post) : Met l yJ15_checkIndex_7cf53 wsJ15_checkIndex_7cf53 rm_J15_checkIndex_7cf53 (va_Pc [.int p1, .int p2] (PRE D cI cJ cZ cO ([] : va_W) sz)) (va_Qi (fun r (_ : Unit) => post r) (fun u t => POST D (va_A ([] : va_W) sz) ([] : va_W) t) (va_A ([] : va_W) sz)) 0 0 (va_A ([] : va_W) sz) := by
  refine met_go (cc := cJ15_checkIndex_7cf53) (maxL := 2) (ret := some .int) RJ15 rfl (by decide) rfl (Nat.le_of_ble_eq_true rfl) ?_
  intro p e s m args below meth c ls hx hb hr hts hown hlocks hin hml hsz hP hK hE hD hA hS hl
  generalize va_A ([] : va_W) sz = A at hD hA hS ⊢
  have RT : ∀ (v : Int32) (u : Unit) (H : Heap) (locs : List Loc) (pc : Nat) (ls : Array Slot), decode cJ15_checkIndex_7cf53 pc = .ok (.ireturn, 1) → post v → va_P D vwCl ([] : va_W) H → va_D A ([] : va_W) → va_S A s.heap H locs → W p l e rm_J15_checkIndex_7cf53 s m args below meth c H locs 0 0 (MQ below (va_Qi (fun r (_ : Unit) => post r) (fun u t => POST D A ([] : va_W) t) A) args s 0 0 A) (F0 m pc ls [.int v]) := fun v u H locs pc ls d g1 g2 g3 g4 => rt_i (Wf := fun (u : Unit) => ([] : va_W)) u hx hb hr hlocks g1 g2 g3 g4 d
  obtain ⟨QQ, hQQ⟩ : ∃ Q, Q = (MQ below (va_Qi (fun r (_ : Unit) => post r) (fun u t => POST D A ([] : va_W) t) A) args s 0 0 A) := ⟨_, rfl⟩
  rw [← hQQ] at RT ⊢
  have hl : lv_has ls 2 [(0, .int p1), (1, .int p2)] := hl
  have hP : va_P D vwCl ([] : va_W) s.heap := hP
  unfold wp_J15_checkIndex_7cf53 at hw
  suffices GO : ∀ (H : Heap) (locs : List Loc), va_P D vwCl ([] : va_W) H → va_S A s.heap H locs → W p l e rm_J15_checkIndex_7cf53 s m args below meth c H locs 0 0 QQ (F0 m 0 ls []) from GO _ _ hP hS
  clear hsz hP hS
  intro H locs hP hS
  refine lv_iload_n hx hb dJ15_checkIndex_7cf53_0 rfl (lv_at hl 0 rfl) ?_
  refine lv_iload_n hx hb dJ15_checkIndex_7cf53_1 rfl (lv_at hl 1 rfl) ?_
  refine lv_null hx hb dJ15_checkIndex_7cf53_2 ?_
  have hCut := (cut0 (S := Unit) (X := ([] : va_W)) (cx := ([] : va_W)) (pl := []) (w1 := fun (u : Unit) => ([] : va_W)) (X' := fun (u : Unit) => ([] : va_W)) hP hD hS hA [] [] [] rfl rfl (by decide) (by decide) (by decide) (fun u => rfl) (by decide))
  refine ca_i (wa := fun (u : Unit) => ([] : va_W)) hCut hS (va_runS (As := [.int p1, .int p2, .null]) (rest := []) ⟨hx, hb, hml, hown, hts⟩ (c_J3_checkIndex_8e157 l D cI cJ cZ cO H.size p1 p2 _ hw) (va_cwS 3 hts gJ15_checkIndex_7cf53_J3_checkIndex_8e157 rfl rfl rfl (by decide +kernel) ⟨Nat.le_of_ble_eq_true rfl, Nat.le_of_ble_eq_true rfl⟩) (hCut.preS hK hE) rfl rfl hl.1 rfl (lv_room (Nat.le_of_ble_eq_true rfl)) dJ15_checkIndex_7cf53_3 ⟨Nat.le_of_ble_eq_true rfl, Nat.le_of_ble_eq_true rfl⟩) (fun r_3 _ H locs hw hP hD hS => ?_)
  try dsimp only at hw
  have hP : va_P D vwCl ([] : va_W) H := hP
  have hD : va_D A ([] : va_W) := hD
  exact RT r_3 () _ _ _ _ dJ15_checkIndex_7cf53_6 hw hP hD hS
abbrev rm_Jx4a65c_size_8abf5 : Room := { frames := 0, cells := 0, slots := 0, locals := 0 }
abbrev W_Jx4a65c_size_8abf5 (h : Nat) (a : Nat → Nat) (cI cJ cZ cO : ClassId) (v_modCount : Int32) (v_size : Int32) : va_W := [(h, .inr (0, [.int v_modCount, .ref (a 1), .int v_size]))]
def wp_Jx4a65c_size_8abf5 (v_size : Int32) (post : Int32 → Prop) : Prop := post v_size
set_option maxHeartbeats 4000000 in
set_option maxRecDepth 100000 in
theorem c_Jx4a65c_size_8abf5 (l : Launch) (D : va_G) (cI cJ cZ cO : ClassId) (h : Nat) (a : Nat → Nat) (sz : Nat) (v_modCount : Int32) (v_size : Int32) (post : Int32 → Prop) (hw : wp_Jx4a65c_size_8abf5 v_size post) : Met l yJx4a65c_size_8abf5 wsJx4a65c_size_8abf5 rm_Jx4a65c_size_8abf5 (va_Pc [.ref h] (PRE D cI cJ cZ cO (W_Jx4a65c_size_8abf5 h a cI cJ cZ cO v_modCount v_size) sz)) (va_Qi (fun r (_ : Unit) => post r) (fun u t => POST D (va_A (W_Jx4a65c_size_8abf5 h a cI cJ cZ cO v_modCount v_size) sz) (W_Jx4a65c_size_8abf5 h a cI cJ cZ cO v_modCount v_size) t) (va_A (W_Jx4a65c_size_8abf5 h a cI cJ cZ cO v_modCount v_size) sz)) 0 0 (va_A (W_Jx4a65c_size_8abf5 h a cI cJ cZ cO v_modCount v_size) sz) := by
  refine met_go (cc := cJx4a65c_size_8abf5) (maxL := 1) (ret := some .int) RJx4a65c rfl (by decide) rfl (Nat.le_of_ble_eq_true rfl) ?_
  intro p e s m args below meth c ls hx hb hr hts hown hlocks hin hml hsz hP hK hE hD hA hS hl
  have iRJx4a65c : ∀ w ∈ u_ws RJx4a65c TJx4a65c 3, w ∈ wsJx4a65c_size_8abf5 := mem_seg 2 3 rfl
  generalize va_A (W_Jx4a65c_size_8abf5 h a cI cJ cZ cO v_modCount v_size) sz = A at hD hA hS ⊢
  have RT : ∀ (v : Int32) (u : Unit) (H : Heap) (locs : List Loc) (pc : Nat) (ls : Array Slot), decode cJx4a65c_size_8abf5 pc = .ok (.ireturn, 1) → post v → va_P D vwCl (W_Jx4a65c_size_8abf5 h a cI cJ cZ cO v_modCount v_size) H → va_D A (W_Jx4a65c_size_8abf5 h a cI cJ cZ cO v_modCount v_size) → va_S A s.heap H locs → W p l e rm_Jx4a65c_size_8abf5 s m args below meth c H locs 0 0 (MQ below (va_Qi (fun r (_ : Unit) => post r) (fun u t => POST D A (W_Jx4a65c_size_8abf5 h a cI cJ cZ cO v_modCount v_size) t) A) args s 0 0 A) (F0 m pc ls [.int v]) := fun v u H locs pc ls d g1 g2 g3 g4 => rt_i (Wf := fun (u : Unit) => (W_Jx4a65c_size_8abf5 h a cI cJ cZ cO v_modCount v_size)) u hx hb hr hlocks g1 g2 g3 g4 d
  obtain ⟨QQ, hQQ⟩ : ∃ Q, Q = (MQ below (va_Qi (fun r (_ : Unit) => post r) (fun u t => POST D A (W_Jx4a65c_size_8abf5 h a cI cJ cZ cO v_modCount v_size) t) A) args s 0 0 A) := ⟨_, rfl⟩
  rw [← hQQ] at RT ⊢
  have hl : lv_has ls 1 [(0, .ref h)] := hl
  have hP : va_P D vwCl (W_Jx4a65c_size_8abf5 h a cI cJ cZ cO v_modCount v_size) s.heap := hP
  unfold wp_Jx4a65c_size_8abf5 at hw
  suffices GO : ∀ (H : Heap) (locs : List Loc), va_P D vwCl (W_Jx4a65c_size_8abf5 h a cI cJ cZ cO v_modCount v_size) H → va_S A s.heap H locs → W p l e rm_Jx4a65c_size_8abf5 s m args below meth c H locs 0 0 QQ (F0 m 0 ls []) from GO _ _ hP hS
  clear hsz hP hS
  intro H locs hP hS
  refine lv_aload_n hx hb dJx4a65c_size_8abf5_0 rfl (lv_at hl 0 rfl) ?_
  refine va_get (D := D) (ci := 0) (v := .int v_size) (C := RJx4a65c) (T := TJx4a65c) (N := 3) hx hb hts iRJx4a65c hown hK hP 0 rfl rfl 2 (by decide) (hts (.fieldLink RJx4a65c 48 "java/util/ArrayList" "size" "I") (List.mem_of_getElem? (i := 1) rfl)) (fun _ h9 => h9) rfl dJx4a65c_size_8abf5_1 ?_
  exact RT v_size () _ _ _ _ dJx4a65c_size_8abf5_4 hw hP hD hS
abbrev rm_Jx4a65c_elementData_915e3 : Room := { frames := 0, cells := 0, slots := 0, locals := 0 }
abbrev W_Jx4a65c_elementData_915e3 (h : Nat) (a : Nat → Nat) (v_cap : Nat) (cI cJ cZ cO : ClassId) (v_modCount : Int32) (v_elementData : Nat → Option Nat) (v_size : Int32) : va_W := [(h, .inr (0, [.int v_modCount, .ref (a 1), .int v_size])), ((a 1), .inl (cO, v_cap, .inr (.inr (.inr (.inr v_elementData)))))]
def wp_Jx4a65c_elementData_915e3 (v_cap : Nat) (v_elementData : Nat → Option Nat) (p1 : Int32) (post : Option Nat → Prop) : Prop := vp_in p1 v_cap ∧ (post (v_elementData p1.toNatClampNeg))
set_option maxHeartbeats 4000000 in
set_option maxRecDepth 100000 in
theorem c_Jx4a65c_elementData_915e3 (l : Launch) (D : va_G) (cI cJ cZ cO : ClassId) (h : Nat) (a : Nat → Nat) (v_cap : Nat) (sz : Nat) (v_modCount : Int32) (v_elementData : Nat → Option Nat) (v_size : Int32) (p1 : Int32) (post : Option Nat → Prop) (hw : wp_Jx4a65c_elementData_915e3 v_cap v_elementData p1 post) : Met l yJx4a65c_elementData_915e3 wsJx4a65c_elementData_915e3 rm_Jx4a65c_elementData_915e3 (va_Pc [.ref h, .int p1] (PRE D cI cJ cZ cO (W_Jx4a65c_elementData_915e3 h a v_cap cI cJ cZ cO v_modCount v_elementData v_size) sz)) (va_Qq (fun r (_ : Unit) => post r) (fun u t => POST D (va_A (W_Jx4a65c_elementData_915e3 h a v_cap cI cJ cZ cO v_modCount v_elementData v_size) sz) (W_Jx4a65c_elementData_915e3 h a v_cap cI cJ cZ cO v_modCount v_elementData v_size) t) (va_A (W_Jx4a65c_elementData_915e3 h a v_cap cI cJ cZ cO v_modCount v_elementData v_size) sz)) 0 0 (va_A (W_Jx4a65c_elementData_915e3 h a v_cap cI cJ cZ cO v_modCount v_elementData v_size) sz) := by
  refine met_go (cc := cJx4a65c_elementData_915e3) (maxL := 2) (ret := some (.object "java/lang/Object")) RJx4a65c rfl (by decide) rfl (Nat.le_of_ble_eq_true rfl) ?_
  intro p e s m args below meth c ls hx hb hr hts hown hlocks hin hml hsz hP hK hE hD hA hS hl
  have iRJx4a65c : ∀ w ∈ u_ws RJx4a65c TJx4a65c 3, w ∈ wsJx4a65c_elementData_915e3 := mem_seg 2 3 rfl
  generalize va_A (W_Jx4a65c_elementData_915e3 h a v_cap cI cJ cZ cO v_modCount v_elementData v_size) sz = A at hD hA hS ⊢
  have RT : ∀ (v : Option Nat) (u : Unit) (H : Heap) (locs : List Loc) (pc : Nat) (ls : Array Slot), decode cJx4a65c_elementData_915e3 pc = .ok (.areturn, 1) → post v → va_P D vwCl (W_Jx4a65c_elementData_915e3 h a v_cap cI cJ cZ cO v_modCount v_elementData v_size) H → va_D A (W_Jx4a65c_elementData_915e3 h a v_cap cI cJ cZ cO v_modCount v_elementData v_size) → va_S A s.heap H locs → W p l e rm_Jx4a65c_elementData_915e3 s m args below meth c H locs 0 0 (MQ below (va_Qq (fun r (_ : Unit) => post r) (fun u t => POST D A (W_Jx4a65c_elementData_915e3 h a v_cap cI cJ cZ cO v_modCount v_elementData v_size) t) A) args s 0 0 A) (F0 m pc ls [va_rf v]) := fun v u H locs pc ls d g1 g2 g3 g4 => rt_q (Wf := fun (u : Unit) => (W_Jx4a65c_elementData_915e3 h a v_cap cI cJ cZ cO v_modCount v_elementData v_size)) u hx hb hr hlocks g1 g2 g3 g4 d
  obtain ⟨QQ, hQQ⟩ : ∃ Q, Q = (MQ below (va_Qq (fun r (_ : Unit) => post r) (fun u t => POST D A (W_Jx4a65c_elementData_915e3 h a v_cap cI cJ cZ cO v_modCount v_elementData v_size) t) A) args s 0 0 A) := ⟨_, rfl⟩
  rw [← hQQ] at RT ⊢
  have hl : lv_has ls 2 [(0, .ref h), (1, .int p1)] := hl
  have hP : va_P D vwCl (W_Jx4a65c_elementData_915e3 h a v_cap cI cJ cZ cO v_modCount v_elementData v_size) s.heap := hP
  unfold wp_Jx4a65c_elementData_915e3 at hw
  suffices GO : ∀ (H : Heap) (locs : List Loc), va_P D vwCl (W_Jx4a65c_elementData_915e3 h a v_cap cI cJ cZ cO v_modCount v_elementData v_size) H → va_S A s.heap H locs → W p l e rm_Jx4a65c_elementData_915e3 s m args below meth c H locs 0 0 QQ (F0 m 0 ls []) from GO _ _ hP hS
  clear hsz hP hS
  intro H locs hP hS
  refine lv_aload_n hx hb dJx4a65c_elementData_915e3_0 rfl (lv_at hl 0 rfl) ?_
  refine va_get (D := D) (ci := 0) (v := .ref (a 1)) (C := RJx4a65c) (T := TJx4a65c) (N := 3) hx hb hts iRJx4a65c hown hK hP 0 rfl rfl 1 (by decide) (hts (.fieldLink RJx4a65c 9 "java/util/ArrayList" "elementData" "[Ljava/lang/Object;") (List.mem_of_getElem? (i := 1) rfl)) (fun _ h9 => h9) rfl dJx4a65c_elementData_915e3_1 ?_
  refine lv_iload_n hx hb dJx4a65c_elementData_915e3_4 rfl (lv_at hl 1 rfl) ?_
  obtain ⟨hi_5, hw⟩ := hw
  refine va_aldq (C := "java/lang/Object") hx hb hK hP 1 3 rfl rfl hi_5 dJx4a65c_elementData_915e3_5 ?_
  exact RT (v_elementData p1.toNatClampNeg) () _ _ _ _ dJx4a65c_elementData_915e3_6 hw hP hD hS
abbrev rm_Jx4a65c_get_915e3 : Room := { frames := 2, cells := 0, slots := 0, locals := 43 }
abbrev W_Jx4a65c_get_915e3 (h : Nat) (a : Nat → Nat) (v_cap : Nat) (cI cJ cZ cO : ClassId) (v_modCount : Int32) (v_elementData : Nat → Option Nat) (v_size : Int32) : va_W := [(h, .inr (0, [.int v_modCount, .ref (a 1), .int v_size])), ((a 1), .inl (cO, v_cap, .inr (.inr (.inr (.inr v_elementData)))))]
def wp_Jx4a65c_get_915e3 (v_cap : Nat) (v_elementData : Nat → Option Nat) (v_size : Int32) (p1 : Int32) (post : Option Nat → Prop) : Prop := wp_J15_checkIndex_7cf53 p1 v_size (fun r_5 => wp_Jx4a65c_elementData_915e3 v_cap v_elementData p1 (fun r_11 => post r_11))
set_option maxHeartbeats 4000000 in
set_option maxRecDepth 100000 in
theorem c_Jx4a65c_get_915e3 (l : Launch) (D : va_G) (cI cJ cZ cO : ClassId) (h : Nat) (a : Nat → Nat) (v_cap : Nat) (sz : Nat) (v_modCount : Int32) (v_elementData : Nat → Option Nat) (v_size : Int32) (p1 : Int32) (post : Option Nat → Prop) (hw : wp_Jx4a65c_get_915e3 v_cap v_elementData v_size p1 post) : Met l yJx4a65c_get_915e3 wsJx4a65c_get_915e3 rm_Jx4a65c_get_915e3 (va_Pc [.ref h, .int p1] (PRE D cI cJ cZ cO (W_Jx4a65c_get_915e3 h a v_cap cI cJ cZ cO v_modCount v_elementData v_size) sz)) (va_Qq (fun r (_ : Unit) => post r) (fun u t => POST D (va_A (W_Jx4a65c_get_915e3 h a v_cap cI cJ cZ cO v_modCount v_elementData v_size) sz) (W_Jx4a65c_get_915e3 h a v_cap cI cJ cZ cO v_modCount v_elementData v_size) t) (va_A (W_Jx4a65c_get_915e3 h a v_cap cI cJ cZ cO v_modCount v_elementData v_size) sz)) 0 0 (va_A (W_Jx4a65c_get_915e3 h a v_cap cI cJ cZ cO v_modCount v_elementData v_size) sz) := by
  refine met_go (cc := cJx4a65c_get_915e3) (maxL := 2) (ret := some (.object "java/lang/Object")) RJx4a65c rfl (by decide) rfl (Nat.le_of_ble_eq_true rfl) ?_
  intro p e s m args below meth c ls hx hb hr hts hown hlocks hin hml hsz hP hK hE hD hA hS hl
  have iRJx4a65c : ∀ w ∈ u_ws RJx4a65c TJx4a65c 3, w ∈ wsJx4a65c_get_915e3 := mem_seg 16 3 rfl
  generalize va_A (W_Jx4a65c_get_915e3 h a v_cap cI cJ cZ cO v_modCount v_elementData v_size) sz = A at hD hA hS ⊢
  have RT : ∀ (v : Option Nat) (u : Unit) (H : Heap) (locs : List Loc) (pc : Nat) (ls : Array Slot), decode cJx4a65c_get_915e3 pc = .ok (.areturn, 1) → post v → va_P D vwCl (W_Jx4a65c_get_915e3 h a v_cap cI cJ cZ cO v_modCount v_elementData v_size) H → va_D A (W_Jx4a65c_get_915e3 h a v_cap cI cJ cZ cO v_modCount v_elementData v_size) → va_S A s.heap H locs → W p l e rm_Jx4a65c_get_915e3 s m args below meth c H locs 0 0 (MQ below (va_Qq (fun r (_ : Unit) => post r) (fun u t => POST D A (W_Jx4a65c_get_915e3 h a v_cap cI cJ cZ cO v_modCount v_elementData v_size) t) A) args s 0 0 A) (F0 m pc ls [va_rf v]) := fun v u H locs pc ls d g1 g2 g3 g4 => rt_q (Wf := fun (u : Unit) => (W_Jx4a65c_get_915e3 h a v_cap cI cJ cZ cO v_modCount v_elementData v_size)) u hx hb hr hlocks g1 g2 g3 g4 d
  obtain ⟨QQ, hQQ⟩ : ∃ Q, Q = (MQ below (va_Qq (fun r (_ : Unit) => post r) (fun u t => POST D A (W_Jx4a65c_get_915e3 h a v_cap cI cJ cZ cO v_modCount v_elementData v_size) t) A) args s 0 0 A) := ⟨_, rfl⟩
  rw [← hQQ] at RT ⊢
  have hl : lv_has ls 2 [(0, .ref h), (1, .int p1)] := hl
  have hP : va_P D vwCl (W_Jx4a65c_get_915e3 h a v_cap cI cJ cZ cO v_modCount v_elementData v_size) s.heap := hP
  unfold wp_Jx4a65c_get_915e3 at hw
  suffices GO : ∀ (H : Heap) (locs : List Loc), va_P D vwCl (W_Jx4a65c_get_915e3 h a v_cap cI cJ cZ cO v_modCount v_elementData v_size) H → va_S A s.heap H locs → W p l e rm_Jx4a65c_get_915e3 s m args below meth c H locs 0 0 QQ (F0 m 0 ls []) from GO _ _ hP hS
  clear hsz hP hS
  intro H locs hP hS
  refine lv_iload_n hx hb dJx4a65c_get_915e3_0 rfl (lv_at hl 1 rfl) ?_
  refine lv_aload_n hx hb dJx4a65c_get_915e3_1 rfl (lv_at hl 0 rfl) ?_
  refine va_get (D := D) (ci := 0) (v := .int v_size) (C := RJx4a65c) (T := TJx4a65c) (N := 3) hx hb hts iRJx4a65c hown hK hP 0 rfl rfl 2 (by decide) (hts (.fieldLink RJx4a65c 48 "java/util/ArrayList" "size" "I") (List.mem_of_getElem? (i := 1) rfl)) (fun _ h9 => h9) rfl dJx4a65c_get_915e3_2 ?_
  have hCut := (cut0 (S := Unit) (X := (W_Jx4a65c_get_915e3 h a v_cap cI cJ cZ cO v_modCount v_elementData v_size)) (cx := ([] : va_W)) (pl := []) (w1 := fun (u : Unit) => ([] : va_W)) (X' := fun (u : Unit) => (W_Jx4a65c_get_915e3 h a v_cap cI cJ cZ cO v_modCount v_elementData v_size)) hP hD hS hA [] [0, 1] [0, 1] rfl rfl (by decide) (by decide) (by decide) (fun u => rfl) (by decide))
  refine ca_i (wa := fun (u : Unit) => (W_Jx4a65c_get_915e3 h a v_cap cI cJ cZ cO v_modCount v_elementData v_size)) hCut hS (va_runS (As := [.int p1, .int v_size]) (rest := []) ⟨hx, hb, hml, hown, hts⟩ (c_J15_checkIndex_7cf53 l D cI cJ cZ cO H.size p1 v_size _ hw) (va_cwS 2 hts gJx4a65c_get_915e3_J15_checkIndex_7cf53 rfl rfl rfl (by decide +kernel) ⟨Nat.le_of_ble_eq_true rfl, Nat.le_of_ble_eq_true rfl⟩) (hCut.preS hK hE) rfl rfl hl.1 rfl (lv_room (Nat.le_of_ble_eq_true rfl)) dJx4a65c_get_915e3_5 ⟨Nat.le_of_ble_eq_true rfl, Nat.le_of_ble_eq_true rfl⟩) (fun r_5 _ H locs hw hP hD hS => ?_)
  try dsimp only at hw
  have hP : va_P D vwCl (W_Jx4a65c_get_915e3 h a v_cap cI cJ cZ cO v_modCount v_elementData v_size) H := hP
  have hD : va_D A (W_Jx4a65c_get_915e3 h a v_cap cI cJ cZ cO v_modCount v_elementData v_size) := hD
  refine lv_pop hx hb dJx4a65c_get_915e3_8 rfl ?_
  refine lv_aload_n hx hb dJx4a65c_get_915e3_9 rfl (lv_at hl 0 rfl) ?_
  refine lv_iload_n hx hb dJx4a65c_get_915e3_10 rfl (lv_at hl 1 rfl) ?_
  have hCut := (cut0 (S := Unit) (X := (W_Jx4a65c_get_915e3 h a v_cap cI cJ cZ cO v_modCount v_elementData v_size)) (cx := (W_Jx4a65c_elementData_915e3 h a v_cap cI cJ cZ cO v_modCount v_elementData v_size)) (pl := []) (w1 := fun (u : Unit) => (W_Jx4a65c_elementData_915e3 h a v_cap cI cJ cZ cO v_modCount v_elementData v_size)) (X' := fun (u : Unit) => (W_Jx4a65c_get_915e3 h a v_cap cI cJ cZ cO v_modCount v_elementData v_size)) hP hD hS hA [0, 1] [] [0, 1] rfl rfl (by decide) (by decide) (by decide) (fun u => rfl) (by decide))
  refine ca_q (wa := fun (u : Unit) => (W_Jx4a65c_get_915e3 h a v_cap cI cJ cZ cO v_modCount v_elementData v_size)) hCut hS (va_runV (As := [.int p1]) (rest := []) ⟨hx, hb, hml, hown, hts⟩ (c_Jx4a65c_elementData_915e3 l D cI cJ cZ cO h a v_cap H.size v_modCount v_elementData v_size p1 _ hw) (cwV 1 hts gJx4a65c_get_915e3_Jx4a65c_elementData_915e3 rfl rfl rfl (by decide +kernel) ⟨Nat.le_of_ble_eq_true rfl, Nat.le_of_ble_eq_true rfl⟩) (hCut.preV (qb := 0) (ci := 0) hK hE rfl rfl) rfl rfl hl.1 rfl (lv_room (Nat.le_of_ble_eq_true rfl)) dJx4a65c_get_915e3_11 ⟨Nat.le_of_ble_eq_true rfl, Nat.le_of_ble_eq_true rfl⟩) (fun r_11 _ H locs hw hP hD hS => ?_)
  try dsimp only at hw
  have hP : va_P D vwCl (W_Jx4a65c_get_915e3 h a v_cap cI cJ cZ cO v_modCount v_elementData v_size) H := hP
  have hD : va_D A (W_Jx4a65c_get_915e3 h a v_cap cI cJ cZ cO v_modCount v_elementData v_size) := hD
  exact RT r_11 () _ _ _ _ dJx4a65c_get_915e3_14 hw hP hD hS
