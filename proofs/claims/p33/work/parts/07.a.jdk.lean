/-! printed by wip/whole/gen: J6_bitCount_0f7a4 J13_bitCount_95d88 J9_floorDiv_7cf53 J7_fill_53178 J7_fill_d0a16 X4_isRowLine X4_isLine X4_isNumber X4_sunAt X4_depthOf X4_drift -/
abbrev rm_J6_bitCount_0f7a4 : Room := { frames := 0, cells := 0, slots := 0, locals := 0 }
def wp_J6_bitCount_0f7a4 (p1 : Int32) (post : Int32 → Prop) : Prop := ∀ y0_9 : Int32, y0_9 = (p1 - (((p1).toUInt32 >>> ((1 : Int32).toUInt32 &&& Int32.toUInt32 31)).toInt32 &&& 1431655765)) → ∀ y0_23 : Int32, y0_23 = ((y0_9 &&& 858993459) + (((y0_9).toUInt32 >>> ((2 : Int32).toUInt32 &&& Int32.toUInt32 31)).toInt32 &&& 858993459)) → ∀ y0_33 : Int32, y0_33 = ((y0_23 + ((y0_23).toUInt32 >>> ((4 : Int32).toUInt32 &&& Int32.toUInt32 31)).toInt32) &&& 252645135) → ∀ y0_40 : Int32, y0_40 = (y0_33 + ((y0_33).toUInt32 >>> ((8 : Int32).toUInt32 &&& Int32.toUInt32 31)).toInt32) → ∀ y0_47 : Int32, y0_47 = (y0_40 + ((y0_40).toUInt32 >>> ((16 : Int32).toUInt32 &&& Int32.toUInt32 31)).toInt32) → post (y0_47 &&& 63)
set_option maxHeartbeats 4000000 in
set_option maxRecDepth 100000 in
theorem c_J6_bitCount_0f7a4 (l : Launch) (D : va_G) (cI cJ cZ cO : ClassId) (sz : Nat) (p1 : Int32) (post : Int32 → Prop) (hw : wp_J6_bitCount_0f7a4 p1 post) : Met l yJ6_bitCount_0f7a4 wsJ6_bitCount_0f7a4 rm_J6_bitCount_0f7a4 (va_Pc [.int p1] (PRE D cI cJ cZ cO ([] : va_W) sz)) (va_Qi (fun r (_ : Unit) => post r) (fun u t => POST D (va_A ([] : va_W) sz) ([] : va_W) t) (va_A ([] : va_W) sz)) 0 0 (va_A ([] : va_W) sz) := by
  refine met_go (cc := cJ6_bitCount_0f7a4) (maxL := 1) (ret := some .int) RJ6 rfl (by decide) rfl (Nat.le_of_ble_eq_true rfl) ?_
  intro p e s m args below meth c ls hx hb hr hts hown hlocks hin hml hsz hP hK hE hD hA hS hl
  generalize va_A ([] : va_W) sz = A at hD hA hS ⊢
  have RT : ∀ (v : Int32) (u : Unit) (H : Heap) (locs : List Loc) (pc : Nat) (ls : Array Slot), decode cJ6_bitCount_0f7a4 pc = .ok (.ireturn, 1) → post v → va_P D vwCl ([] : va_W) H → va_D A ([] : va_W) → va_S A s.heap H locs → W p l e rm_J6_bitCount_0f7a4 s m args below meth c H locs 0 0 (MQ below (va_Qi (fun r (_ : Unit) => post r) (fun u t => POST D A ([] : va_W) t) A) args s 0 0 A) (F0 m pc ls [.int v]) := fun v u H locs pc ls d g1 g2 g3 g4 => rt_i (Wf := fun u => ([] : va_W)) u hx hb hr hlocks g1 g2 g3 g4 d
  generalize (MQ below (va_Qi (fun r (_ : Unit) => post r) (fun u t => POST D A ([] : va_W) t) A) args s 0 0 A) = QQ at RT ⊢
  have hl : lv_has ls 1 [(0, .int p1)] := hl
  have hP : va_P D vwCl ([] : va_W) s.heap := hP
  unfold wp_J6_bitCount_0f7a4 at hw
  suffices GO : ∀ (H : Heap) (locs : List Loc), va_P D vwCl ([] : va_W) H → va_S A s.heap H locs → W p l e rm_J6_bitCount_0f7a4 s m args below meth c H locs 0 0 QQ (F0 m 0 ls []) from GO _ _ hP hS
  clear hsz hP hS
  intro H locs hP hS
  refine lv_iload_n hx hb dJ6_bitCount_0f7a4_0 rfl (lv_at hl 0 rfl) ?_
  refine lv_iload_n hx hb dJ6_bitCount_0f7a4_1 rfl (lv_at hl 0 rfl) ?_
  refine lv_iconst (v := 1) hx hb dJ6_bitCount_0f7a4_2 (by decide) ?_
  refine lv_iushr (v := ((p1).toUInt32 >>> ((1 : Int32).toUInt32 &&& Int32.toUInt32 31)).toInt32) hx hb dJ6_bitCount_0f7a4_3 rfl ?_
  refine lv_ldcw (v := 1431655765) hx hb hown (hts (.constant RJ6 265 (1431655765)) (List.mem_of_getElem? (i := 1) rfl)) dJ6_bitCount_0f7a4_4 ?_
  refine lv_iand hx hb dJ6_bitCount_0f7a4_7 ?_
  refine lv_isub hx hb dJ6_bitCount_0f7a4_8 ?_
  refine lv_topi (fun y0_9 ey0_9 => ?_)
  have hw := hw y0_9 ey0_9
  refine lv_istore_n (lv' := [(0, .int y0_9)]) hx hb dJ6_bitCount_0f7a4_9 rfl hl (by decide) rfl (fun ls hl => ?_)
  refine lv_iload_n hx hb dJ6_bitCount_0f7a4_10 rfl (lv_at hl 0 rfl) ?_
  refine lv_ldcw (v := 858993459) hx hb hown (hts (.constant RJ6 266 (858993459)) (List.mem_of_getElem? (i := 2) rfl)) dJ6_bitCount_0f7a4_11 ?_
  refine lv_iand hx hb dJ6_bitCount_0f7a4_14 ?_
  refine lv_iload_n hx hb dJ6_bitCount_0f7a4_15 rfl (lv_at hl 0 rfl) ?_
  refine lv_iconst (v := 2) hx hb dJ6_bitCount_0f7a4_16 (by decide) ?_
  refine lv_iushr (v := ((y0_9).toUInt32 >>> ((2 : Int32).toUInt32 &&& Int32.toUInt32 31)).toInt32) hx hb dJ6_bitCount_0f7a4_17 rfl ?_
  refine lv_ldcw (v := 858993459) hx hb hown (hts (.constant RJ6 266 (858993459)) (List.mem_of_getElem? (i := 2) rfl)) dJ6_bitCount_0f7a4_18 ?_
  refine lv_iand hx hb dJ6_bitCount_0f7a4_21 ?_
  refine lv_iadd hx hb dJ6_bitCount_0f7a4_22 ?_
  refine lv_topi (fun y0_23 ey0_23 => ?_)
  have hw := hw y0_23 ey0_23
  refine lv_istore_n (lv' := [(0, .int y0_23)]) hx hb dJ6_bitCount_0f7a4_23 rfl hl (by decide) rfl (fun ls hl => ?_)
  refine lv_iload_n hx hb dJ6_bitCount_0f7a4_24 rfl (lv_at hl 0 rfl) ?_
  refine lv_iload_n hx hb dJ6_bitCount_0f7a4_25 rfl (lv_at hl 0 rfl) ?_
  refine lv_iconst (v := 4) hx hb dJ6_bitCount_0f7a4_26 (by decide) ?_
  refine lv_iushr (v := ((y0_23).toUInt32 >>> ((4 : Int32).toUInt32 &&& Int32.toUInt32 31)).toInt32) hx hb dJ6_bitCount_0f7a4_27 rfl ?_
  refine lv_iadd hx hb dJ6_bitCount_0f7a4_28 ?_
  refine lv_ldcw (v := 252645135) hx hb hown (hts (.constant RJ6 267 (252645135)) (List.mem_of_getElem? (i := 3) rfl)) dJ6_bitCount_0f7a4_29 ?_
  refine lv_iand hx hb dJ6_bitCount_0f7a4_32 ?_
  refine lv_topi (fun y0_33 ey0_33 => ?_)
  have hw := hw y0_33 ey0_33
  refine lv_istore_n (lv' := [(0, .int y0_33)]) hx hb dJ6_bitCount_0f7a4_33 rfl hl (by decide) rfl (fun ls hl => ?_)
  refine lv_iload_n hx hb dJ6_bitCount_0f7a4_34 rfl (lv_at hl 0 rfl) ?_
  refine lv_iload_n hx hb dJ6_bitCount_0f7a4_35 rfl (lv_at hl 0 rfl) ?_
  refine lv_bipush (v := 8) hx hb dJ6_bitCount_0f7a4_36 (by decide) ?_
  refine lv_iushr (v := ((y0_33).toUInt32 >>> ((8 : Int32).toUInt32 &&& Int32.toUInt32 31)).toInt32) hx hb dJ6_bitCount_0f7a4_38 rfl ?_
  refine lv_iadd hx hb dJ6_bitCount_0f7a4_39 ?_
  refine lv_topi (fun y0_40 ey0_40 => ?_)
  have hw := hw y0_40 ey0_40
  refine lv_istore_n (lv' := [(0, .int y0_40)]) hx hb dJ6_bitCount_0f7a4_40 rfl hl (by decide) rfl (fun ls hl => ?_)
  refine lv_iload_n hx hb dJ6_bitCount_0f7a4_41 rfl (lv_at hl 0 rfl) ?_
  refine lv_iload_n hx hb dJ6_bitCount_0f7a4_42 rfl (lv_at hl 0 rfl) ?_
  refine lv_bipush (v := 16) hx hb dJ6_bitCount_0f7a4_43 (by decide) ?_
  refine lv_iushr (v := ((y0_40).toUInt32 >>> ((16 : Int32).toUInt32 &&& Int32.toUInt32 31)).toInt32) hx hb dJ6_bitCount_0f7a4_45 rfl ?_
  refine lv_iadd hx hb dJ6_bitCount_0f7a4_46 ?_
  refine lv_topi (fun y0_47 ey0_47 => ?_)
  have hw := hw y0_47 ey0_47
  refine lv_istore_n (lv' := [(0, .int y0_47)]) hx hb dJ6_bitCount_0f7a4_47 rfl hl (by decide) rfl (fun ls hl => ?_)
  refine lv_iload_n hx hb dJ6_bitCount_0f7a4_48 rfl (lv_at hl 0 rfl) ?_
  refine lv_bipush (v := 63) hx hb dJ6_bitCount_0f7a4_49 (by decide) ?_
  refine lv_iand hx hb dJ6_bitCount_0f7a4_51 ?_
  exact RT (y0_47 &&& 63) () _ _ _ _ dJ6_bitCount_0f7a4_52 hw hP hD hS
abbrev rm_J13_bitCount_95d88 : Room := { frames := 0, cells := 0, slots := 0, locals := 0 }
def wp_J13_bitCount_95d88 (p1 : Int64) (post : Int32 → Prop) : Prop := ∀ y0_9 : Int64, y0_9 = (p1 - (((p1).toUInt64 >>> ((1 : Int32).toInt64.toUInt64 &&& Int64.toUInt64 63)).toInt64 &&& 6148914691236517205)) → ∀ y0_23 : Int64, y0_23 = ((y0_9 &&& 3689348814741910323) + (((y0_9).toUInt64 >>> ((2 : Int32).toInt64.toUInt64 &&& Int64.toUInt64 63)).toInt64 &&& 3689348814741910323)) → ∀ y0_33 : Int64, y0_33 = ((y0_23 + ((y0_23).toUInt64 >>> ((4 : Int32).toInt64.toUInt64 &&& Int64.toUInt64 63)).toInt64) &&& 1085102592571150095) → ∀ y0_40 : Int64, y0_40 = (y0_33 + ((y0_33).toUInt64 >>> ((8 : Int32).toInt64.toUInt64 &&& Int64.toUInt64 63)).toInt64) → ∀ y0_47 : Int64, y0_47 = (y0_40 + ((y0_40).toUInt64 >>> ((16 : Int32).toInt64.toUInt64 &&& Int64.toUInt64 63)).toInt64) → ∀ y0_54 : Int64, y0_54 = (y0_47 + ((y0_47).toUInt64 >>> ((32 : Int32).toInt64.toUInt64 &&& Int64.toUInt64 63)).toInt64) → post ((y0_54 : Int64).toInt32 &&& 127)
set_option maxHeartbeats 4000000 in
set_option maxRecDepth 100000 in
theorem c_J13_bitCount_95d88 (l : Launch) (D : va_G) (cI cJ cZ cO : ClassId) (sz : Nat) (p1 : Int64) (post : Int32 → Prop) (hw : wp_J13_bitCount_95d88 p1 post) : Met l yJ13_bitCount_95d88 wsJ13_bitCount_95d88 rm_J13_bitCount_95d88 (va_Pc [.long p1] (PRE D cI cJ cZ cO ([] : va_W) sz)) (va_Qi (fun r (_ : Unit) => post r) (fun u t => POST D (va_A ([] : va_W) sz) ([] : va_W) t) (va_A ([] : va_W) sz)) 0 0 (va_A ([] : va_W) sz) := by
  refine met_go (cc := cJ13_bitCount_95d88) (maxL := 2) (ret := some .int) RJ13 rfl (by decide) rfl (Nat.le_of_ble_eq_true rfl) ?_
  intro p e s m args below meth c ls hx hb hr hts hown hlocks hin hml hsz hP hK hE hD hA hS hl
  generalize va_A ([] : va_W) sz = A at hD hA hS ⊢
  have RT : ∀ (v : Int32) (u : Unit) (H : Heap) (locs : List Loc) (pc : Nat) (ls : Array Slot), decode cJ13_bitCount_95d88 pc = .ok (.ireturn, 1) → post v → va_P D vwCl ([] : va_W) H → va_D A ([] : va_W) → va_S A s.heap H locs → W p l e rm_J13_bitCount_95d88 s m args below meth c H locs 0 0 (MQ below (va_Qi (fun r (_ : Unit) => post r) (fun u t => POST D A ([] : va_W) t) A) args s 0 0 A) (F0 m pc ls [.int v]) := fun v u H locs pc ls d g1 g2 g3 g4 => rt_i (Wf := fun u => ([] : va_W)) u hx hb hr hlocks g1 g2 g3 g4 d
  generalize (MQ below (va_Qi (fun r (_ : Unit) => post r) (fun u t => POST D A ([] : va_W) t) A) args s 0 0 A) = QQ at RT ⊢
  have hl : lv_has ls 2 [(0, .long p1)] := hl
  have hP : va_P D vwCl ([] : va_W) s.heap := hP
  unfold wp_J13_bitCount_95d88 at hw
  suffices GO : ∀ (H : Heap) (locs : List Loc), va_P D vwCl ([] : va_W) H → va_S A s.heap H locs → W p l e rm_J13_bitCount_95d88 s m args below meth c H locs 0 0 QQ (F0 m 0 ls []) from GO _ _ hP hS
  clear hsz hP hS
  intro H locs hP hS
  refine lv_lload_n hx hb dJ13_bitCount_95d88_0 rfl (lv_at hl 0 rfl) ?_
  refine lv_lload_n hx hb dJ13_bitCount_95d88_1 rfl (lv_at hl 0 rfl) ?_
  refine lv_iconst (v := 1) hx hb dJ13_bitCount_95d88_2 (by decide) ?_
  refine lv_lushr (v := ((p1).toUInt64 >>> ((1 : Int32).toInt64.toUInt64 &&& Int64.toUInt64 63)).toInt64) hx hb dJ13_bitCount_95d88_3 rfl ?_
  refine lv_ldc2 (v := 6148914691236517205) hx hb hown (hts (.constantLong RJ13 314 (6148914691236517205)) (List.mem_of_getElem? (i := 1) rfl)) dJ13_bitCount_95d88_4 ?_
  refine lv_land hx hb dJ13_bitCount_95d88_7 ?_
  refine lv_lsub hx hb dJ13_bitCount_95d88_8 ?_
  refine lv_topl (fun y0_9 ey0_9 => ?_)
  have hw := hw y0_9 ey0_9
  refine lv_lstore_n (lv' := [(0, .long y0_9)]) hx hb dJ13_bitCount_95d88_9 rfl hl (by decide) rfl (fun ls hl => ?_)
  refine lv_lload_n hx hb dJ13_bitCount_95d88_10 rfl (lv_at hl 0 rfl) ?_
  refine lv_ldc2 (v := 3689348814741910323) hx hb hown (hts (.constantLong RJ13 316 (3689348814741910323)) (List.mem_of_getElem? (i := 2) rfl)) dJ13_bitCount_95d88_11 ?_
  refine lv_land hx hb dJ13_bitCount_95d88_14 ?_
  refine lv_lload_n hx hb dJ13_bitCount_95d88_15 rfl (lv_at hl 0 rfl) ?_
  refine lv_iconst (v := 2) hx hb dJ13_bitCount_95d88_16 (by decide) ?_
  refine lv_lushr (v := ((y0_9).toUInt64 >>> ((2 : Int32).toInt64.toUInt64 &&& Int64.toUInt64 63)).toInt64) hx hb dJ13_bitCount_95d88_17 rfl ?_
  refine lv_ldc2 (v := 3689348814741910323) hx hb hown (hts (.constantLong RJ13 316 (3689348814741910323)) (List.mem_of_getElem? (i := 2) rfl)) dJ13_bitCount_95d88_18 ?_
  refine lv_land hx hb dJ13_bitCount_95d88_21 ?_
  refine lv_ladd hx hb dJ13_bitCount_95d88_22 ?_
  refine lv_topl (fun y0_23 ey0_23 => ?_)
  have hw := hw y0_23 ey0_23
  refine lv_lstore_n (lv' := [(0, .long y0_23)]) hx hb dJ13_bitCount_95d88_23 rfl hl (by decide) rfl (fun ls hl => ?_)
  refine lv_lload_n hx hb dJ13_bitCount_95d88_24 rfl (lv_at hl 0 rfl) ?_
  refine lv_lload_n hx hb dJ13_bitCount_95d88_25 rfl (lv_at hl 0 rfl) ?_
  refine lv_iconst (v := 4) hx hb dJ13_bitCount_95d88_26 (by decide) ?_
  refine lv_lushr (v := ((y0_23).toUInt64 >>> ((4 : Int32).toInt64.toUInt64 &&& Int64.toUInt64 63)).toInt64) hx hb dJ13_bitCount_95d88_27 rfl ?_
  refine lv_ladd hx hb dJ13_bitCount_95d88_28 ?_
  refine lv_ldc2 (v := 1085102592571150095) hx hb hown (hts (.constantLong RJ13 318 (1085102592571150095)) (List.mem_of_getElem? (i := 3) rfl)) dJ13_bitCount_95d88_29 ?_
  refine lv_land hx hb dJ13_bitCount_95d88_32 ?_
  refine lv_topl (fun y0_33 ey0_33 => ?_)
  have hw := hw y0_33 ey0_33
  refine lv_lstore_n (lv' := [(0, .long y0_33)]) hx hb dJ13_bitCount_95d88_33 rfl hl (by decide) rfl (fun ls hl => ?_)
  refine lv_lload_n hx hb dJ13_bitCount_95d88_34 rfl (lv_at hl 0 rfl) ?_
  refine lv_lload_n hx hb dJ13_bitCount_95d88_35 rfl (lv_at hl 0 rfl) ?_
  refine lv_bipush (v := 8) hx hb dJ13_bitCount_95d88_36 (by decide) ?_
  refine lv_lushr (v := ((y0_33).toUInt64 >>> ((8 : Int32).toInt64.toUInt64 &&& Int64.toUInt64 63)).toInt64) hx hb dJ13_bitCount_95d88_38 rfl ?_
  refine lv_ladd hx hb dJ13_bitCount_95d88_39 ?_
  refine lv_topl (fun y0_40 ey0_40 => ?_)
  have hw := hw y0_40 ey0_40
  refine lv_lstore_n (lv' := [(0, .long y0_40)]) hx hb dJ13_bitCount_95d88_40 rfl hl (by decide) rfl (fun ls hl => ?_)
  refine lv_lload_n hx hb dJ13_bitCount_95d88_41 rfl (lv_at hl 0 rfl) ?_
  refine lv_lload_n hx hb dJ13_bitCount_95d88_42 rfl (lv_at hl 0 rfl) ?_
  refine lv_bipush (v := 16) hx hb dJ13_bitCount_95d88_43 (by decide) ?_
  refine lv_lushr (v := ((y0_40).toUInt64 >>> ((16 : Int32).toInt64.toUInt64 &&& Int64.toUInt64 63)).toInt64) hx hb dJ13_bitCount_95d88_45 rfl ?_
  refine lv_ladd hx hb dJ13_bitCount_95d88_46 ?_
  refine lv_topl (fun y0_47 ey0_47 => ?_)
  have hw := hw y0_47 ey0_47
  refine lv_lstore_n (lv' := [(0, .long y0_47)]) hx hb dJ13_bitCount_95d88_47 rfl hl (by decide) rfl (fun ls hl => ?_)
  refine lv_lload_n hx hb dJ13_bitCount_95d88_48 rfl (lv_at hl 0 rfl) ?_
  refine lv_lload_n hx hb dJ13_bitCount_95d88_49 rfl (lv_at hl 0 rfl) ?_
  refine lv_bipush (v := 32) hx hb dJ13_bitCount_95d88_50 (by decide) ?_
  refine lv_lushr (v := ((y0_47).toUInt64 >>> ((32 : Int32).toInt64.toUInt64 &&& Int64.toUInt64 63)).toInt64) hx hb dJ13_bitCount_95d88_52 rfl ?_
  refine lv_ladd hx hb dJ13_bitCount_95d88_53 ?_
  refine lv_topl (fun y0_54 ey0_54 => ?_)
  have hw := hw y0_54 ey0_54
  refine lv_lstore_n (lv' := [(0, .long y0_54)]) hx hb dJ13_bitCount_95d88_54 rfl hl (by decide) rfl (fun ls hl => ?_)
  refine lv_lload_n hx hb dJ13_bitCount_95d88_55 rfl (lv_at hl 0 rfl) ?_
  refine lv_l2i (v := (y0_54 : Int64).toInt32) hx hb dJ13_bitCount_95d88_56 rfl ?_
  refine lv_bipush (v := 127) hx hb dJ13_bitCount_95d88_57 (by decide) ?_
  refine lv_iand hx hb dJ13_bitCount_95d88_59 ?_
  exact RT ((y0_54 : Int64).toInt32 &&& 127) () _ _ _ _ dJ13_bitCount_95d88_60 hw hP hD hS
abbrev rm_J9_floorDiv_7cf53 : Room := { frames := 0, cells := 0, slots := 0, locals := 0 }
def wp_J9_floorDiv_7cf53 (p1 : Int32) (p2 : Int32) (post : Int32 → Prop) : Prop := ¬ p2 = 0 ∧ ((0 ≤ (p1 ^^^ p2) → post (p1 / p2)) ∧ (¬ 0 ≤ (p1 ^^^ p2) → (((p1 / p2) * p2) = p1 → post (p1 / p2)) ∧ (¬ ((p1 / p2) * p2) = p1 → post ((p1 / p2) - 1))))
set_option maxHeartbeats 4000000 in
set_option maxRecDepth 100000 in
theorem c_J9_floorDiv_7cf53 (l : Launch) (D : va_G) (cI cJ cZ cO : ClassId) (sz : Nat) (p1 : Int32) (p2 : Int32) (post : Int32 → Prop) (hw : wp_J9_floorDiv_7cf53 p1 p2 post) : Met l yJ9_floorDiv_7cf53 wsJ9_floorDiv_7cf53 rm_J9_floorDiv_7cf53 (va_Pc [.int p1, .int p2] (PRE D cI cJ cZ cO ([] : va_W) sz)) (va_Qi (fun r (_ : Unit) => post r) (fun u t => POST D (va_A ([] : va_W) sz) ([] : va_W) t) (va_A ([] : va_W) sz)) 0 0 (va_A ([] : va_W) sz) := by
  refine met_goF (cc := cJ9_floorDiv_7cf53) (maxL := 3) (ret := some .int) RJ9 rfl (by decide +kernel) rfl (Nat.le_of_ble_eq_true rfl) ?_
  intro p e s m args below meth c ls hx hb hr hts hown hlocks hin hml hsz hP hK hE hD hA hS hl
  generalize va_A ([] : va_W) sz = A at hD hA hS ⊢
  have RT : ∀ (v : Int32) (u : Unit) (H : Heap) (locs : List Loc) (pc : Nat) (ls : Array Slot), decode cJ9_floorDiv_7cf53 pc = .ok (.ireturn, 1) → post v → va_P D vwCl ([] : va_W) H → va_D A ([] : va_W) → va_S A s.heap H locs → W p l e rm_J9_floorDiv_7cf53 s m args below meth c H locs 0 0 (MQ below (va_Qi (fun r (_ : Unit) => post r) (fun u t => POST D A ([] : va_W) t) A) args s 0 0 A) (F0 m pc ls [.int v]) := fun v u H locs pc ls d g1 g2 g3 g4 => rt_i (Wf := fun u => ([] : va_W)) u hx hb hr hlocks g1 g2 g3 g4 d
  generalize (MQ below (va_Qi (fun r (_ : Unit) => post r) (fun u t => POST D A ([] : va_W) t) A) args s 0 0 A) = QQ at RT ⊢
  have hl : lv_has ls 3 [(0, .int p1), (1, .int p2)] := hl
  have hP : va_P D vwCl ([] : va_W) s.heap := hP
  unfold wp_J9_floorDiv_7cf53 at hw
  suffices GO : ∀ (H : Heap) (locs : List Loc), va_P D vwCl ([] : va_W) H → va_S A s.heap H locs → W p l e rm_J9_floorDiv_7cf53 s m args below meth c H locs 0 0 QQ (F0 m 0 ls []) from GO _ _ hP hS
  clear hsz hP hS
  intro H locs hP hS
  refine lv_iload_n hx hb dJ9_floorDiv_7cf53_0 rfl (lv_at hl 0 rfl) ?_
  refine lv_iload_n hx hb dJ9_floorDiv_7cf53_1 rfl (lv_at hl 1 rfl) ?_
  obtain ⟨hne_2, hw⟩ := hw
  refine lv_idiv hx hb dJ9_floorDiv_7cf53_2 hne_2 ?_
  refine lv_istore_n (lv' := [(2, .int (p1 / p2)), (0, .int p1), (1, .int p2)]) hx hb dJ9_floorDiv_7cf53_3 rfl hl (by decide) rfl (fun ls hl => ?_)
  refine lv_iload_n hx hb dJ9_floorDiv_7cf53_4 rfl (lv_at hl 1 rfl) ?_
  refine lv_iload_n hx hb dJ9_floorDiv_7cf53_5 rfl (lv_at hl 2 rfl) ?_
  refine lv_ixor hx hb dJ9_floorDiv_7cf53_6 ?_
  refine lv_if_ge (tgt := 21) hx hb dJ9_floorDiv_7cf53_7 (by decide) (fun c7 => ?_) (fun c7 => ?_)
  · have hw := hw.1 c7
    refine lv_iload_n hx hb dJ9_floorDiv_7cf53_21 rfl (lv_at hl 0 rfl) ?_
    exact RT (p1 / p2) () _ _ _ _ dJ9_floorDiv_7cf53_22 hw hP hD hS
  · have hw := hw.2 c7
    refine lv_iload_n hx hb dJ9_floorDiv_7cf53_10 rfl (lv_at hl 0 rfl) ?_
    refine lv_iload_n hx hb dJ9_floorDiv_7cf53_11 rfl (lv_at hl 2 rfl) ?_
    refine lv_imul hx hb dJ9_floorDiv_7cf53_12 ?_
    refine lv_iload_n hx hb dJ9_floorDiv_7cf53_13 rfl (lv_at hl 1 rfl) ?_
    refine lv_icmp_eq (tgt := 21) hx hb dJ9_floorDiv_7cf53_14 (by decide) (fun c14 => ?_) (fun c14 => ?_)
    · have hw := hw.1 c14
      refine lv_iload_n hx hb dJ9_floorDiv_7cf53_21 rfl (lv_at hl 0 rfl) ?_
      exact RT (p1 / p2) () _ _ _ _ dJ9_floorDiv_7cf53_22 hw hP hD hS
    · have hw := hw.2 c14
      refine lv_iload_n hx hb dJ9_floorDiv_7cf53_17 rfl (lv_at hl 0 rfl) ?_
      refine lv_iconst (v := 1) hx hb dJ9_floorDiv_7cf53_18 (by decide) ?_
      refine lv_isub hx hb dJ9_floorDiv_7cf53_19 ?_
      exact RT ((p1 / p2) - 1) () _ _ _ _ dJ9_floorDiv_7cf53_20 hw hP hD hS
abbrev rm_J7_fill_53178 : Room := { frames := 0, cells := 0, slots := 0, locals := 0 }
abbrev W_J7_fill_53178 (h1 : Nat) (n1 : Nat) (cI cJ cZ : ClassId) (q1_arr : Nat → Int32) : va_W := [(h1, .inl (cI, n1, .inl q1_arr))]
def wp_J7_fill_53178_5 (n1 : Nat) (q1_arr : Nat → Int32) (p2 : Int32) (post : (Nat → Int32) → Prop) (K5 : Int32 → Int32 → (Nat → Int32) → Prop) (x2_j5 : Int32) (x3_j5 : Int32) (q1_arr_j5 : Nat → Int32) : Prop := (x3_j5 ≤ x2_j5 → post q1_arr_j5) ∧ (¬ x3_j5 ≤ x2_j5 → vp_in x2_j5 n1 ∧ (∀ q1_arr_t13 : Nat → Int32, q1_arr_t13 = upd q1_arr_j5 x2_j5.toNatClampNeg p2 → K5 (x2_j5 + 1) x3_j5 q1_arr_t13))
def lF_J7_fill_53178_5 (n1 : Nat) (q1_arr : Nat → Int32) (p2 : Int32) (post : (Nat → Int32) → Prop) : ((Int32 × Int32 × (Nat → Int32)) → Prop) → (Int32 × Int32 × (Nat → Int32)) → Prop := fun K s => wp_J7_fill_53178_5 n1 q1_arr p2 post (fun b0 b1 b2 => K (b0, b1, b2)) s.1 s.2.1 s.2.2
def wp_J7_fill_53178 (n1 : Nat) (q1_arr : Nat → Int32) (p2 : Int32) (post : (Nat → Int32) → Prop) : Prop := lp (lF_J7_fill_53178_5 n1 q1_arr p2 post) (0, (Int32.ofNat n1), q1_arr)
set_option maxHeartbeats 4000000 in
set_option maxRecDepth 100000 in
theorem c_J7_fill_53178 (l : Launch) (D : va_G) (cI cJ cZ cO : ClassId) (h1 : Nat) (n1 : Nat) (sz : Nat) (q1_arr : Nat → Int32) (p2 : Int32) (post : (Nat → Int32) → Prop) (hw : wp_J7_fill_53178 n1 q1_arr p2 post) : Met l yJ7_fill_53178 wsJ7_fill_53178 rm_J7_fill_53178 (va_Pc [.ref h1, .int p2] (PRE D cI cJ cZ cO (W_J7_fill_53178 h1 n1 cI cJ cZ q1_arr) sz)) (va_Qv (fun (u : (Nat → Int32)) => post u) (fun u t => POST D (va_A (W_J7_fill_53178 h1 n1 cI cJ cZ q1_arr) sz) (W_J7_fill_53178 h1 n1 cI cJ cZ u) t) (va_A (W_J7_fill_53178 h1 n1 cI cJ cZ q1_arr) sz)) 0 0 (va_A (W_J7_fill_53178 h1 n1 cI cJ cZ q1_arr) sz) := by
  refine met_go (cc := cJ7_fill_53178) (maxL := 4) (ret := none) RJ7 rfl (by decide) rfl (Nat.le_of_ble_eq_true rfl) ?_
  intro p e s m args below meth c ls hx hb hr hts hown hlocks hin hml hsz hP hK hE hD hA hS hl
  generalize va_A (W_J7_fill_53178 h1 n1 cI cJ cZ q1_arr) sz = A at hD hA hS ⊢
  have RT : ∀ (u : (Nat → Int32)) (H : Heap) (locs : List Loc) (pc : Nat) (ls : Array Slot), decode cJ7_fill_53178 pc = .ok (.return_, 1) → post u → va_P D vwCl (W_J7_fill_53178 h1 n1 cI cJ cZ u) H → va_D A (W_J7_fill_53178 h1 n1 cI cJ cZ u) → va_S A s.heap H locs → W p l e rm_J7_fill_53178 s m args below meth c H locs 0 0 (MQ below (va_Qv (fun (u : (Nat → Int32)) => post u) (fun u t => POST D A (W_J7_fill_53178 h1 n1 cI cJ cZ u) t) A) args s 0 0 A) (F0 m pc ls []) := fun u H locs pc ls d g1 g2 g3 g4 => rt_v (Wf := fun u => (W_J7_fill_53178 h1 n1 cI cJ cZ u)) u hx hb hr hlocks g1 g2 g3 g4 d
  generalize (MQ below (va_Qv (fun (u : (Nat → Int32)) => post u) (fun u t => POST D A (W_J7_fill_53178 h1 n1 cI cJ cZ u) t) A) args s 0 0 A) = QQ at RT ⊢
  have hl : lv_has ls 4 [(0, .ref h1), (1, .int p2)] := hl
  have hP : va_P D vwCl (W_J7_fill_53178 h1 n1 cI cJ cZ q1_arr) s.heap := hP
  unfold wp_J7_fill_53178 at hw
  suffices GO : ∀ (H : Heap) (locs : List Loc), va_P D vwCl (W_J7_fill_53178 h1 n1 cI cJ cZ q1_arr) H → va_S A s.heap H locs → W p l e rm_J7_fill_53178 s m args below meth c H locs 0 0 QQ (F0 m 0 ls []) from GO _ _ hP hS
  clear hsz hP hS
  intro H locs hP hS
  have L5 : ∀ s0 : (Int32 × Int32 × (Nat → Int32)), lp (lF_J7_fill_53178_5 n1 q1_arr p2 post) s0 → ∀ (H : Heap) (locs : List Loc) (ls : Array Slot), va_P D vwCl (W_J7_fill_53178 h1 n1 cI cJ cZ s0.2.2) H → va_D A (W_J7_fill_53178 h1 n1 cI cJ cZ s0.2.2) → va_S A s.heap H locs → lv_has ls 4 [(0, .ref h1), (1, .int p2), (2, .int s0.1), (3, .int s0.2.1)] → W p l e rm_J7_fill_53178 s m args below meth c H locs 0 0 QQ (F0 m 5 ls []) := by
    refine lp_elim (fun K5 ih5 s0 hw => ?_)
    obtain ⟨x2_j5, x3_j5, q1_arr_j5⟩ := s0
    intro H locs ls hP hD hS hl
    have hw : wp_J7_fill_53178_5 n1 q1_arr p2 post (fun b0 b1 b2 => K5 (b0, b1, b2)) x2_j5 x3_j5 q1_arr_j5 := hw
    have hP : va_P D vwCl (W_J7_fill_53178 h1 n1 cI cJ cZ q1_arr_j5) H := hP
    have hD : va_D A (W_J7_fill_53178 h1 n1 cI cJ cZ q1_arr_j5) := hD
    have hl : lv_has ls 4 [(0, .ref h1), (1, .int p2), (2, .int x2_j5), (3, .int x3_j5)] := hl
    unfold wp_J7_fill_53178_5 at hw
    refine lv_iload_n hx hb dJ7_fill_53178_5 rfl (lv_at hl 2 rfl) ?_
    refine lv_iload_n hx hb dJ7_fill_53178_6 rfl (lv_at hl 3 rfl) ?_
    refine lv_icmp_ge (tgt := 20) hx hb dJ7_fill_53178_7 (by decide) (fun c7 => ?_) (fun c7 => ?_)
    · have hw := hw.1 c7
      exact RT q1_arr_j5 _ _ _ _ dJ7_fill_53178_20 hw hP hD hS
    · have hw := hw.2 c7
      refine lv_aload_n hx hb dJ7_fill_53178_10 rfl (lv_at hl 0 rfl) ?_
      refine lv_iload_n hx hb dJ7_fill_53178_11 rfl (lv_at hl 2 rfl) ?_
      refine lv_iload_n hx hb dJ7_fill_53178_12 rfl (lv_at hl 1 rfl) ?_
      obtain ⟨hi_13, hw⟩ := hw
      refine st_i hx hb hK hP hD hS 0 0 rfl rfl hi_13 dJ7_fill_53178_13 (fun q1_arr_t13 eq1_arr_t13 H locs hP hD hS => ?_)
      have hw := hw q1_arr_t13 eq1_arr_t13
      have hP : va_P D vwCl (W_J7_fill_53178 h1 n1 cI cJ cZ q1_arr_t13) H := hP
      have hD : va_D A (W_J7_fill_53178 h1 n1 cI cJ cZ q1_arr_t13) := hD
      refine lv_iinc (v := (x2_j5 + 1)) (lv' := [(2, .int (x2_j5 + 1)), (0, .ref h1), (1, .int p2), (3, .int x3_j5)]) hx hb dJ7_fill_53178_14 hl (k := 2) rfl rfl (by decide) rfl (fun ls hl => ?_)
      refine lv_goto (tgt := 5) hx hb dJ7_fill_53178_17 (by decide) ?_
      exact ih5 ((x2_j5 + 1), x3_j5, q1_arr_t13) hw _ _ ls hP hD hS (lv_sub hl [1, 2, 0, 3] rfl)
  refine lv_iconst (v := 0) hx hb dJ7_fill_53178_0 (by decide) ?_
  refine lv_istore_n (lv' := [(2, .int 0), (0, .ref h1), (1, .int p2)]) hx hb dJ7_fill_53178_1 rfl hl (by decide) rfl (fun ls hl => ?_)
  refine lv_aload_n hx hb dJ7_fill_53178_2 rfl (lv_at hl 1 rfl) ?_
  refine va_alen (v := (Int32.ofNat n1)) hx hb hK hP 0 0 rfl rfl rfl dJ7_fill_53178_3 ?_
  refine lv_istore_n (lv' := [(3, .int (Int32.ofNat n1)), (2, .int 0), (0, .ref h1), (1, .int p2)]) hx hb dJ7_fill_53178_4 rfl hl (by decide) rfl (fun ls hl => ?_)
  exact L5 (0, (Int32.ofNat n1), q1_arr) hw _ _ ls hP hD hS (lv_sub hl [2, 3, 1, 0] rfl)
abbrev rm_J7_fill_d0a16 : Room := { frames := 0, cells := 0, slots := 0, locals := 0 }
abbrev W_J7_fill_d0a16 (h1 : Nat) (n1 : Nat) (cI cJ cZ : ClassId) (q1_arr : Nat → Int64) : va_W := [(h1, .inl (cJ, n1, .inr (.inl q1_arr)))]
def wp_J7_fill_d0a16_6 (n1 : Nat) (q1_arr : Nat → Int64) (p2 : Int64) (post : (Nat → Int64) → Prop) (K6 : Int32 → Int32 → (Nat → Int64) → Prop) (x3_j6 : Int32) (x4_j6 : Int32) (q1_arr_j6 : Nat → Int64) : Prop := (x4_j6 ≤ x3_j6 → post q1_arr_j6) ∧ (¬ x4_j6 ≤ x3_j6 → vp_in x3_j6 n1 ∧ (∀ q1_arr_t15 : Nat → Int64, q1_arr_t15 = vp_updL q1_arr_j6 x3_j6.toNatClampNeg p2 → K6 (x3_j6 + 1) x4_j6 q1_arr_t15))
def lF_J7_fill_d0a16_6 (n1 : Nat) (q1_arr : Nat → Int64) (p2 : Int64) (post : (Nat → Int64) → Prop) : ((Int32 × Int32 × (Nat → Int64)) → Prop) → (Int32 × Int32 × (Nat → Int64)) → Prop := fun K s => wp_J7_fill_d0a16_6 n1 q1_arr p2 post (fun b0 b1 b2 => K (b0, b1, b2)) s.1 s.2.1 s.2.2
def wp_J7_fill_d0a16 (n1 : Nat) (q1_arr : Nat → Int64) (p2 : Int64) (post : (Nat → Int64) → Prop) : Prop := lp (lF_J7_fill_d0a16_6 n1 q1_arr p2 post) (0, (Int32.ofNat n1), q1_arr)
set_option maxHeartbeats 4000000 in
set_option maxRecDepth 100000 in
theorem c_J7_fill_d0a16 (l : Launch) (D : va_G) (cI cJ cZ cO : ClassId) (h1 : Nat) (n1 : Nat) (sz : Nat) (q1_arr : Nat → Int64) (p2 : Int64) (post : (Nat → Int64) → Prop) (hw : wp_J7_fill_d0a16 n1 q1_arr p2 post) : Met l yJ7_fill_d0a16 wsJ7_fill_d0a16 rm_J7_fill_d0a16 (va_Pc [.ref h1, .long p2] (PRE D cI cJ cZ cO (W_J7_fill_d0a16 h1 n1 cI cJ cZ q1_arr) sz)) (va_Qv (fun (u : (Nat → Int64)) => post u) (fun u t => POST D (va_A (W_J7_fill_d0a16 h1 n1 cI cJ cZ q1_arr) sz) (W_J7_fill_d0a16 h1 n1 cI cJ cZ u) t) (va_A (W_J7_fill_d0a16 h1 n1 cI cJ cZ q1_arr) sz)) 0 0 (va_A (W_J7_fill_d0a16 h1 n1 cI cJ cZ q1_arr) sz) := by
  refine met_go (cc := cJ7_fill_d0a16) (maxL := 5) (ret := none) RJ7 rfl (by decide) rfl (Nat.le_of_ble_eq_true rfl) ?_
  intro p e s m args below meth c ls hx hb hr hts hown hlocks hin hml hsz hP hK hE hD hA hS hl
  generalize va_A (W_J7_fill_d0a16 h1 n1 cI cJ cZ q1_arr) sz = A at hD hA hS ⊢
  have RT : ∀ (u : (Nat → Int64)) (H : Heap) (locs : List Loc) (pc : Nat) (ls : Array Slot), decode cJ7_fill_d0a16 pc = .ok (.return_, 1) → post u → va_P D vwCl (W_J7_fill_d0a16 h1 n1 cI cJ cZ u) H → va_D A (W_J7_fill_d0a16 h1 n1 cI cJ cZ u) → va_S A s.heap H locs → W p l e rm_J7_fill_d0a16 s m args below meth c H locs 0 0 (MQ below (va_Qv (fun (u : (Nat → Int64)) => post u) (fun u t => POST D A (W_J7_fill_d0a16 h1 n1 cI cJ cZ u) t) A) args s 0 0 A) (F0 m pc ls []) := fun u H locs pc ls d g1 g2 g3 g4 => rt_v (Wf := fun u => (W_J7_fill_d0a16 h1 n1 cI cJ cZ u)) u hx hb hr hlocks g1 g2 g3 g4 d
  generalize (MQ below (va_Qv (fun (u : (Nat → Int64)) => post u) (fun u t => POST D A (W_J7_fill_d0a16 h1 n1 cI cJ cZ u) t) A) args s 0 0 A) = QQ at RT ⊢
  have hl : lv_has ls 5 [(0, .ref h1), (1, .long p2)] := hl
  have hP : va_P D vwCl (W_J7_fill_d0a16 h1 n1 cI cJ cZ q1_arr) s.heap := hP
  unfold wp_J7_fill_d0a16 at hw
  suffices GO : ∀ (H : Heap) (locs : List Loc), va_P D vwCl (W_J7_fill_d0a16 h1 n1 cI cJ cZ q1_arr) H → va_S A s.heap H locs → W p l e rm_J7_fill_d0a16 s m args below meth c H locs 0 0 QQ (F0 m 0 ls []) from GO _ _ hP hS
  clear hsz hP hS
  intro H locs hP hS
  have L6 : ∀ s0 : (Int32 × Int32 × (Nat → Int64)), lp (lF_J7_fill_d0a16_6 n1 q1_arr p2 post) s0 → ∀ (H : Heap) (locs : List Loc) (ls : Array Slot), va_P D vwCl (W_J7_fill_d0a16 h1 n1 cI cJ cZ s0.2.2) H → va_D A (W_J7_fill_d0a16 h1 n1 cI cJ cZ s0.2.2) → va_S A s.heap H locs → lv_has ls 5 [(0, .ref h1), (1, .long p2), (3, .int s0.1), (4, .int s0.2.1)] → W p l e rm_J7_fill_d0a16 s m args below meth c H locs 0 0 QQ (F0 m 6 ls []) := by
    refine lp_elim (fun K6 ih6 s0 hw => ?_)
    obtain ⟨x3_j6, x4_j6, q1_arr_j6⟩ := s0
    intro H locs ls hP hD hS hl
    have hw : wp_J7_fill_d0a16_6 n1 q1_arr p2 post (fun b0 b1 b2 => K6 (b0, b1, b2)) x3_j6 x4_j6 q1_arr_j6 := hw
    have hP : va_P D vwCl (W_J7_fill_d0a16 h1 n1 cI cJ cZ q1_arr_j6) H := hP
    have hD : va_D A (W_J7_fill_d0a16 h1 n1 cI cJ cZ q1_arr_j6) := hD
    have hl : lv_has ls 5 [(0, .ref h1), (1, .long p2), (3, .int x3_j6), (4, .int x4_j6)] := hl
    unfold wp_J7_fill_d0a16_6 at hw
    refine lv_iload_n hx hb dJ7_fill_d0a16_6 rfl (lv_at hl 2 rfl) ?_
    refine lv_iload hx hb dJ7_fill_d0a16_7 (lv_at hl 3 rfl) ?_
    refine lv_icmp_ge (tgt := 22) hx hb dJ7_fill_d0a16_9 (by decide) (fun c9 => ?_) (fun c9 => ?_)
    · have hw := hw.1 c9
      exact RT q1_arr_j6 _ _ _ _ dJ7_fill_d0a16_22 hw hP hD hS
    · have hw := hw.2 c9
      refine lv_aload_n hx hb dJ7_fill_d0a16_12 rfl (lv_at hl 0 rfl) ?_
      refine lv_iload_n hx hb dJ7_fill_d0a16_13 rfl (lv_at hl 2 rfl) ?_
      refine lv_lload_n hx hb dJ7_fill_d0a16_14 rfl (lv_at hl 1 rfl) ?_
      obtain ⟨hi_15, hw⟩ := hw
      refine st_l hx hb hK hP hD hS 0 1 rfl rfl hi_15 dJ7_fill_d0a16_15 (fun q1_arr_t15 eq1_arr_t15 H locs hP hD hS => ?_)
      have hw := hw q1_arr_t15 eq1_arr_t15
      have hP : va_P D vwCl (W_J7_fill_d0a16 h1 n1 cI cJ cZ q1_arr_t15) H := hP
      have hD : va_D A (W_J7_fill_d0a16 h1 n1 cI cJ cZ q1_arr_t15) := hD
      refine lv_iinc (v := (x3_j6 + 1)) (lv' := [(3, .int (x3_j6 + 1)), (0, .ref h1), (1, .long p2), (4, .int x4_j6)]) hx hb dJ7_fill_d0a16_16 hl (k := 2) rfl rfl (by decide) rfl (fun ls hl => ?_)
      refine lv_goto (tgt := 6) hx hb dJ7_fill_d0a16_19 (by decide) ?_
      exact ih6 ((x3_j6 + 1), x4_j6, q1_arr_t15) hw _ _ ls hP hD hS (lv_sub hl [1, 2, 0, 3] rfl)
  refine lv_iconst (v := 0) hx hb dJ7_fill_d0a16_0 (by decide) ?_
  refine lv_istore_n (lv' := [(3, .int 0), (0, .ref h1), (1, .long p2)]) hx hb dJ7_fill_d0a16_1 rfl hl (by decide) rfl (fun ls hl => ?_)
  refine lv_aload_n hx hb dJ7_fill_d0a16_2 rfl (lv_at hl 1 rfl) ?_
  refine va_alen (v := (Int32.ofNat n1)) hx hb hK hP 0 1 rfl rfl rfl dJ7_fill_d0a16_3 ?_
  refine lv_istore (lv' := [(4, .int (Int32.ofNat n1)), (3, .int 0), (0, .ref h1), (1, .long p2)]) hx hb dJ7_fill_d0a16_4 hl (by decide) rfl (fun ls hl => ?_)
  exact L6 (0, (Int32.ofNat n1), q1_arr) hw _ _ ls hP hD hS (lv_sub hl [2, 3, 1, 0] rfl)
abbrev rm_X4_isRowLine : Room := { frames := 0, cells := 0, slots := 0, locals := 0 }
def wp_X4_isRowLine (p1 : Int32) (post : Int32 → Prop) : Prop := (p1 < 0 → post 0) ∧ (¬ p1 < 0 → (15 ≤ p1 → post 0) ∧ (¬ 15 ≤ p1 → post 1))
set_option maxHeartbeats 4000000 in
set_option maxRecDepth 100000 in
theorem c_X4_isRowLine (l : Launch) (D : va_G) (cI cJ cZ cO : ClassId) (sz : Nat) (p1 : Int32) (post : Int32 → Prop) (hw : wp_X4_isRowLine p1 post) : Met l yX4_isRowLine wsX4_isRowLine rm_X4_isRowLine (va_Pc [.int p1] (PRE D cI cJ cZ cO ([] : va_W) sz)) (va_Qi (fun r (_ : Unit) => post r) (fun u t => POST D (va_A ([] : va_W) sz) ([] : va_W) t) (va_A ([] : va_W) sz)) 0 0 (va_A ([] : va_W) sz) := by
  refine met_go (cc := cX4_isRowLine) (maxL := 1) (ret := some .boolean) RX4 rfl (by decide) rfl (Nat.le_of_ble_eq_true rfl) ?_
  intro p e s m args below meth c ls hx hb hr hts hown hlocks hin hml hsz hP hK hE hD hA hS hl
  generalize va_A ([] : va_W) sz = A at hD hA hS ⊢
  have RT : ∀ (v : Int32) (u : Unit) (H : Heap) (locs : List Loc) (pc : Nat) (ls : Array Slot), decode cX4_isRowLine pc = .ok (.ireturn, 1) → (v = 0 ∨ v = 1) → post v → va_P D vwCl ([] : va_W) H → va_D A ([] : va_W) → va_S A s.heap H locs → W p l e rm_X4_isRowLine s m args below meth c H locs 0 0 (MQ below (va_Qi (fun r (_ : Unit) => post r) (fun u t => POST D A ([] : va_W) t) A) args s 0 0 A) (F0 m pc ls [.int v]) := fun v u H locs pc ls d g0 g1 g2 g3 g4 => rt_z (Wf := fun u => ([] : va_W)) u hx hb hr hlocks g0 g1 g2 g3 g4 d
  generalize (MQ below (va_Qi (fun r (_ : Unit) => post r) (fun u t => POST D A ([] : va_W) t) A) args s 0 0 A) = QQ at RT ⊢
  have hl : lv_has ls 1 [(0, .int p1)] := hl
  have hP : va_P D vwCl ([] : va_W) s.heap := hP
  unfold wp_X4_isRowLine at hw
  suffices GO : ∀ (H : Heap) (locs : List Loc), va_P D vwCl ([] : va_W) H → va_S A s.heap H locs → W p l e rm_X4_isRowLine s m args below meth c H locs 0 0 QQ (F0 m 0 ls []) from GO _ _ hP hS
  clear hsz hP hS
  intro H locs hP hS
  refine lv_iload_n hx hb dX4_isRowLine_0 rfl (lv_at hl 0 rfl) ?_
  refine lv_if_lt (tgt := 14) hx hb dX4_isRowLine_1 (by decide) (fun c1 => ?_) (fun c1 => ?_)
  · have hw := hw.1 c1
    refine lv_iconst (v := 0) hx hb dX4_isRowLine_14 (by decide) ?_
    exact RT 0 () _ _ _ _ dX4_isRowLine_15 (Or.inl rfl) hw hP hD hS
  · have hw := hw.2 c1
    refine lv_iload_n hx hb dX4_isRowLine_4 rfl (lv_at hl 0 rfl) ?_
    refine lv_bipush (v := 15) hx hb dX4_isRowLine_5 (by decide) ?_
    refine lv_icmp_ge (tgt := 14) hx hb dX4_isRowLine_7 (by decide) (fun c7 => ?_) (fun c7 => ?_)
    · have hw := hw.1 c7
      refine lv_iconst (v := 0) hx hb dX4_isRowLine_14 (by decide) ?_
      exact RT 0 () _ _ _ _ dX4_isRowLine_15 (Or.inl rfl) hw hP hD hS
    · have hw := hw.2 c7
      refine lv_iconst (v := 1) hx hb dX4_isRowLine_10 (by decide) ?_
      refine lv_goto (tgt := 15) hx hb dX4_isRowLine_11 (by decide) ?_
      exact RT 1 () _ _ _ _ dX4_isRowLine_15 (Or.inr rfl) hw hP hD hS
abbrev rm_X4_isLine : Room := { frames := 1, cells := 0, slots := 0, locals := 20 }
def wp_X4_isLine (p1 : Int32) (post : Int32 → Prop) : Prop := wp_X4_isRowLine p1 (fun r_1 => (r_1 = 0 → wp_X4_isRowLine (p1 - 16) (fun r_11 => (r_11 = 0 → post 0) ∧ (¬ r_11 = 0 → post 1))) ∧ (¬ r_1 = 0 → post 1))
set_option maxHeartbeats 4000000 in
set_option maxRecDepth 100000 in
theorem c_X4_isLine (l : Launch) (D : va_G) (cI cJ cZ cO : ClassId) (sz : Nat) (p1 : Int32) (post : Int32 → Prop) (hw : wp_X4_isLine p1 post) : Met l yX4_isLine wsX4_isLine rm_X4_isLine (va_Pc [.int p1] (PRE D cI cJ cZ cO ([] : va_W) sz)) (va_Qi (fun r (_ : Unit) => post r) (fun u t => POST D (va_A ([] : va_W) sz) ([] : va_W) t) (va_A ([] : va_W) sz)) 0 0 (va_A ([] : va_W) sz) := by
  refine met_go (cc := cX4_isLine) (maxL := 1) (ret := some .boolean) RX4 rfl (by decide) rfl (Nat.le_of_ble_eq_true rfl) ?_
  intro p e s m args below meth c ls hx hb hr hts hown hlocks hin hml hsz hP hK hE hD hA hS hl
  generalize va_A ([] : va_W) sz = A at hD hA hS ⊢
  have RT : ∀ (v : Int32) (u : Unit) (H : Heap) (locs : List Loc) (pc : Nat) (ls : Array Slot), decode cX4_isLine pc = .ok (.ireturn, 1) → (v = 0 ∨ v = 1) → post v → va_P D vwCl ([] : va_W) H → va_D A ([] : va_W) → va_S A s.heap H locs → W p l e rm_X4_isLine s m args below meth c H locs 0 0 (MQ below (va_Qi (fun r (_ : Unit) => post r) (fun u t => POST D A ([] : va_W) t) A) args s 0 0 A) (F0 m pc ls [.int v]) := fun v u H locs pc ls d g0 g1 g2 g3 g4 => rt_z (Wf := fun u => ([] : va_W)) u hx hb hr hlocks g0 g1 g2 g3 g4 d
  generalize (MQ below (va_Qi (fun r (_ : Unit) => post r) (fun u t => POST D A ([] : va_W) t) A) args s 0 0 A) = QQ at RT ⊢
  have hl : lv_has ls 1 [(0, .int p1)] := hl
  have hP : va_P D vwCl ([] : va_W) s.heap := hP
  unfold wp_X4_isLine at hw
  suffices GO : ∀ (H : Heap) (locs : List Loc), va_P D vwCl ([] : va_W) H → va_S A s.heap H locs → W p l e rm_X4_isLine s m args below meth c H locs 0 0 QQ (F0 m 0 ls []) from GO _ _ hP hS
  clear hsz hP hS
  intro H locs hP hS
  refine lv_iload_n hx hb dX4_isLine_0 rfl (lv_at hl 0 rfl) ?_
  refine af_i (X := ([] : va_W)) (pl := []) (cx := ([] : va_W)) (w1 := fun (u : Unit) => ([] : va_W)) (X' := fun (u : Unit) => ([] : va_W)) hP hD hS hA [] [] [] rfl rfl (by decide) (by decide) (fun u => rfl) (by decide) (va_runS (As := [.int p1]) (rest := []) ⟨hx, hb, hml, hown, hts⟩ (c_X4_isRowLine l D cI cJ cZ cO H.size p1 _ hw) (va_cwS 1 hts gX4_isLine_X4_isRowLine rfl rfl rfl (by decide +kernel) ⟨Nat.le_of_ble_eq_true rfl, Nat.le_of_ble_eq_true rfl⟩) (preS (X := ([] : va_W)) (pl := []) (cx := ([] : va_W)) hK hE hP hD [] (by decide) rfl) rfl rfl hl.1 rfl (lv_room (Nat.le_of_ble_eq_true rfl)) dX4_isLine_1 ⟨Nat.zero_le _, Nat.zero_le _⟩) (fun r_1 _ H locs hw hP hD hS => ?_)
  try dsimp only at hw
  have hP : va_P D vwCl ([] : va_W) H := hP
  have hD : va_D A ([] : va_W) := hD
  refine lv_if_ne (tgt := 17) hx hb dX4_isLine_4 (by decide) (fun c4 => ?_) (fun c4 => ?_)
  · have hw := hw.2 c4
    refine lv_iconst (v := 1) hx hb dX4_isLine_17 (by decide) ?_
    refine lv_goto (tgt := 22) hx hb dX4_isLine_18 (by decide) ?_
    exact RT 1 () _ _ _ _ dX4_isLine_22 (Or.inr rfl) hw hP hD hS
  · have hw := hw.1 c4
    refine lv_iload_n hx hb dX4_isLine_7 rfl (lv_at hl 0 rfl) ?_
    refine lv_bipush (v := 16) hx hb dX4_isLine_8 (by decide) ?_
    refine lv_isub hx hb dX4_isLine_10 ?_
    refine af_i (X := ([] : va_W)) (pl := []) (cx := ([] : va_W)) (w1 := fun (u : Unit) => ([] : va_W)) (X' := fun (u : Unit) => ([] : va_W)) hP hD hS hA [] [] [] rfl rfl (by decide) (by decide) (fun u => rfl) (by decide) (va_runS (As := [.int (p1 - 16)]) (rest := []) ⟨hx, hb, hml, hown, hts⟩ (c_X4_isRowLine l D cI cJ cZ cO H.size (p1 - 16) _ hw) (va_cwS 1 hts gX4_isLine_X4_isRowLine rfl rfl rfl (by decide +kernel) ⟨Nat.le_of_ble_eq_true rfl, Nat.le_of_ble_eq_true rfl⟩) (preS (X := ([] : va_W)) (pl := []) (cx := ([] : va_W)) hK hE hP hD [] (by decide) rfl) rfl rfl hl.1 rfl (lv_room (Nat.le_of_ble_eq_true rfl)) dX4_isLine_11 ⟨Nat.zero_le _, Nat.zero_le _⟩) (fun r_11 _ H locs hw hP hD hS => ?_)
    try dsimp only at hw
    have hP : va_P D vwCl ([] : va_W) H := hP
    have hD : va_D A ([] : va_W) := hD
    refine lv_if_eq (tgt := 21) hx hb dX4_isLine_14 (by decide) (fun c14 => ?_) (fun c14 => ?_)
    · have hw := hw.1 c14
      refine lv_iconst (v := 0) hx hb dX4_isLine_21 (by decide) ?_
      exact RT 0 () _ _ _ _ dX4_isLine_22 (Or.inl rfl) hw hP hD hS
    · have hw := hw.2 c14
      refine lv_iconst (v := 1) hx hb dX4_isLine_17 (by decide) ?_
      refine lv_goto (tgt := 22) hx hb dX4_isLine_18 (by decide) ?_
      exact RT 1 () _ _ _ _ dX4_isLine_22 (Or.inr rfl) hw hP hD hS
abbrev rm_X4_isNumber : Room := { frames := 0, cells := 0, slots := 0, locals := 0 }
def wp_X4_isNumber (p1 : Int32) (post : Int32 → Prop) : Prop := (p1 < 0 → post 0) ∧ (¬ p1 < 0 → (60 ≤ p1 → post 0) ∧ (¬ 60 ≤ p1 → post 1))
set_option maxHeartbeats 4000000 in
set_option maxRecDepth 100000 in
theorem c_X4_isNumber (l : Launch) (D : va_G) (cI cJ cZ cO : ClassId) (sz : Nat) (p1 : Int32) (post : Int32 → Prop) (hw : wp_X4_isNumber p1 post) : Met l yX4_isNumber wsX4_isNumber rm_X4_isNumber (va_Pc [.int p1] (PRE D cI cJ cZ cO ([] : va_W) sz)) (va_Qi (fun r (_ : Unit) => post r) (fun u t => POST D (va_A ([] : va_W) sz) ([] : va_W) t) (va_A ([] : va_W) sz)) 0 0 (va_A ([] : va_W) sz) := by
  refine met_go (cc := cX4_isNumber) (maxL := 1) (ret := some .boolean) RX4 rfl (by decide) rfl (Nat.le_of_ble_eq_true rfl) ?_
  intro p e s m args below meth c ls hx hb hr hts hown hlocks hin hml hsz hP hK hE hD hA hS hl
  generalize va_A ([] : va_W) sz = A at hD hA hS ⊢
  have RT : ∀ (v : Int32) (u : Unit) (H : Heap) (locs : List Loc) (pc : Nat) (ls : Array Slot), decode cX4_isNumber pc = .ok (.ireturn, 1) → (v = 0 ∨ v = 1) → post v → va_P D vwCl ([] : va_W) H → va_D A ([] : va_W) → va_S A s.heap H locs → W p l e rm_X4_isNumber s m args below meth c H locs 0 0 (MQ below (va_Qi (fun r (_ : Unit) => post r) (fun u t => POST D A ([] : va_W) t) A) args s 0 0 A) (F0 m pc ls [.int v]) := fun v u H locs pc ls d g0 g1 g2 g3 g4 => rt_z (Wf := fun u => ([] : va_W)) u hx hb hr hlocks g0 g1 g2 g3 g4 d
  generalize (MQ below (va_Qi (fun r (_ : Unit) => post r) (fun u t => POST D A ([] : va_W) t) A) args s 0 0 A) = QQ at RT ⊢
  have hl : lv_has ls 1 [(0, .int p1)] := hl
  have hP : va_P D vwCl ([] : va_W) s.heap := hP
  unfold wp_X4_isNumber at hw
  suffices GO : ∀ (H : Heap) (locs : List Loc), va_P D vwCl ([] : va_W) H → va_S A s.heap H locs → W p l e rm_X4_isNumber s m args below meth c H locs 0 0 QQ (F0 m 0 ls []) from GO _ _ hP hS
  clear hsz hP hS
  intro H locs hP hS
  refine lv_iload_n hx hb dX4_isNumber_0 rfl (lv_at hl 0 rfl) ?_
  refine lv_if_lt (tgt := 14) hx hb dX4_isNumber_1 (by decide) (fun c1 => ?_) (fun c1 => ?_)
  · have hw := hw.1 c1
    refine lv_iconst (v := 0) hx hb dX4_isNumber_14 (by decide) ?_
    exact RT 0 () _ _ _ _ dX4_isNumber_15 (Or.inl rfl) hw hP hD hS
  · have hw := hw.2 c1
    refine lv_iload_n hx hb dX4_isNumber_4 rfl (lv_at hl 0 rfl) ?_
    refine lv_bipush (v := 60) hx hb dX4_isNumber_5 (by decide) ?_
    refine lv_icmp_ge (tgt := 14) hx hb dX4_isNumber_7 (by decide) (fun c7 => ?_) (fun c7 => ?_)
    · have hw := hw.1 c7
      refine lv_iconst (v := 0) hx hb dX4_isNumber_14 (by decide) ?_
      exact RT 0 () _ _ _ _ dX4_isNumber_15 (Or.inl rfl) hw hP hD hS
    · have hw := hw.2 c7
      refine lv_iconst (v := 1) hx hb dX4_isNumber_10 (by decide) ?_
      refine lv_goto (tgt := 15) hx hb dX4_isNumber_11 (by decide) ?_
      exact RT 1 () _ _ _ _ dX4_isNumber_15 (Or.inr rfl) hw hP hD hS
abbrev rm_X4_sunAt : Room := { frames := 1, cells := 0, slots := 0, locals := 30 }
def wp_X4_sunAt (p1 : Int32) (post : Int32 → Prop) : Prop := post (6 - (if 0 ≤ (p1 - 12) then (p1 - 12) else 0 - (p1 - 12)))
set_option maxHeartbeats 4000000 in
set_option maxRecDepth 100000 in
theorem c_X4_sunAt (l : Launch) (D : va_G) (cI cJ cZ cO : ClassId) (sz : Nat) (p1 : Int32) (post : Int32 → Prop) (hw : wp_X4_sunAt p1 post) : Met l yX4_sunAt wsX4_sunAt rm_X4_sunAt (va_Pc [.int p1] (PRE D cI cJ cZ cO ([] : va_W) sz)) (va_Qi (fun r (_ : Unit) => post r) (fun u t => POST D (va_A ([] : va_W) sz) ([] : va_W) t) (va_A ([] : va_W) sz)) 0 0 (va_A ([] : va_W) sz) := by
  refine met_go (cc := cX4_sunAt) (maxL := 1) (ret := some .int) RX4 rfl (by decide) rfl (Nat.le_of_ble_eq_true rfl) ?_
  intro p e s m args below meth c ls hx hb hr hts hown hlocks hin hml hsz hP hK hE hD hA hS hl
  generalize va_A ([] : va_W) sz = A at hD hA hS ⊢
  have RT : ∀ (v : Int32) (u : Unit) (H : Heap) (locs : List Loc) (pc : Nat) (ls : Array Slot), decode cX4_sunAt pc = .ok (.ireturn, 1) → post v → va_P D vwCl ([] : va_W) H → va_D A ([] : va_W) → va_S A s.heap H locs → W p l e rm_X4_sunAt s m args below meth c H locs 0 0 (MQ below (va_Qi (fun r (_ : Unit) => post r) (fun u t => POST D A ([] : va_W) t) A) args s 0 0 A) (F0 m pc ls [.int v]) := fun v u H locs pc ls d g1 g2 g3 g4 => rt_i (Wf := fun u => ([] : va_W)) u hx hb hr hlocks g1 g2 g3 g4 d
  generalize (MQ below (va_Qi (fun r (_ : Unit) => post r) (fun u t => POST D A ([] : va_W) t) A) args s 0 0 A) = QQ at RT ⊢
  have hl : lv_has ls 1 [(0, .int p1)] := hl
  have hP : va_P D vwCl ([] : va_W) s.heap := hP
  unfold wp_X4_sunAt at hw
  suffices GO : ∀ (H : Heap) (locs : List Loc), va_P D vwCl ([] : va_W) H → va_S A s.heap H locs → W p l e rm_X4_sunAt s m args below meth c H locs 0 0 QQ (F0 m 0 ls []) from GO _ _ hP hS
  clear hsz hP hS
  intro H locs hP hS
  refine lv_bipush (v := 6) hx hb dX4_sunAt_0 (by decide) ?_
  refine lv_iload_n hx hb dX4_sunAt_2 rfl (lv_at hl 0 rfl) ?_
  refine lv_bipush (v := 12) hx hb dX4_sunAt_3 (by decide) ?_
  refine lv_isub hx hb dX4_sunAt_5 ?_
  refine va_mabs hx hb (hml.trans hl.1.symm) hown (hts (.methodLink RX4 321 Lib.Math.abs.name) (List.mem_of_getElem? (i := 1) rfl)) (hts (.static Lib.Math.abs.name) (List.mem_of_getElem? (i := 2) rfl)) (hts (.initialized "java/lang/Math") (List.mem_of_getElem? (i := 3) rfl)) (hts (.code Lib.Math.abs.name Lib.Math.abs.code 1 (some .int)) (List.mem_of_getElem? (i := 4) rfl)) (Nat.le_of_ble_eq_true rfl) (Nat.le_of_ble_eq_true rfl) (Nat.zero_le _) (Nat.zero_le _) dX4_sunAt_6 ?_
  refine lv_isub hx hb dX4_sunAt_9 ?_
  exact RT (6 - (if 0 ≤ (p1 - 12) then (p1 - 12) else 0 - (p1 - 12))) () _ _ _ _ dX4_sunAt_10 hw hP hD hS
abbrev rm_X4_depthOf : Room := { frames := 2, cells := 0, slots := 0, locals := 50 }
def wp_X4_depthOf (p1 : Int32) (p2 : Int32) (post : Int32 → Prop) : Prop := wp_X4_sunAt p2 (fun r_1 => (1 ≤ r_1 → ¬ r_1 = 0 ∧ (post ((4 * (16 - p1)) / r_1))) ∧ (¬ 1 ≤ r_1 → post (-1)))
set_option maxHeartbeats 4000000 in
set_option maxRecDepth 100000 in
theorem c_X4_depthOf (l : Launch) (D : va_G) (cI cJ cZ cO : ClassId) (sz : Nat) (p1 : Int32) (p2 : Int32) (post : Int32 → Prop) (hw : wp_X4_depthOf p1 p2 post) : Met l yX4_depthOf wsX4_depthOf rm_X4_depthOf (va_Pc [.int p1, .int p2] (PRE D cI cJ cZ cO ([] : va_W) sz)) (va_Qi (fun r (_ : Unit) => post r) (fun u t => POST D (va_A ([] : va_W) sz) ([] : va_W) t) (va_A ([] : va_W) sz)) 0 0 (va_A ([] : va_W) sz) := by
  refine met_go (cc := cX4_depthOf) (maxL := 3) (ret := some .int) RX4 rfl (by decide) rfl (Nat.le_of_ble_eq_true rfl) ?_
  intro p e s m args below meth c ls hx hb hr hts hown hlocks hin hml hsz hP hK hE hD hA hS hl
  generalize va_A ([] : va_W) sz = A at hD hA hS ⊢
  have RT : ∀ (v : Int32) (u : Unit) (H : Heap) (locs : List Loc) (pc : Nat) (ls : Array Slot), decode cX4_depthOf pc = .ok (.ireturn, 1) → post v → va_P D vwCl ([] : va_W) H → va_D A ([] : va_W) → va_S A s.heap H locs → W p l e rm_X4_depthOf s m args below meth c H locs 0 0 (MQ below (va_Qi (fun r (_ : Unit) => post r) (fun u t => POST D A ([] : va_W) t) A) args s 0 0 A) (F0 m pc ls [.int v]) := fun v u H locs pc ls d g1 g2 g3 g4 => rt_i (Wf := fun u => ([] : va_W)) u hx hb hr hlocks g1 g2 g3 g4 d
  generalize (MQ below (va_Qi (fun r (_ : Unit) => post r) (fun u t => POST D A ([] : va_W) t) A) args s 0 0 A) = QQ at RT ⊢
  have hl : lv_has ls 3 [(0, .int p1), (1, .int p2)] := hl
  have hP : va_P D vwCl ([] : va_W) s.heap := hP
  unfold wp_X4_depthOf at hw
  suffices GO : ∀ (H : Heap) (locs : List Loc), va_P D vwCl ([] : va_W) H → va_S A s.heap H locs → W p l e rm_X4_depthOf s m args below meth c H locs 0 0 QQ (F0 m 0 ls []) from GO _ _ hP hS
  clear hsz hP hS
  intro H locs hP hS
  refine lv_iload_n hx hb dX4_depthOf_0 rfl (lv_at hl 1 rfl) ?_
  refine af_i (X := ([] : va_W)) (pl := []) (cx := ([] : va_W)) (w1 := fun (u : Unit) => ([] : va_W)) (X' := fun (u : Unit) => ([] : va_W)) hP hD hS hA [] [] [] rfl rfl (by decide) (by decide) (fun u => rfl) (by decide) (va_runS (As := [.int p2]) (rest := []) ⟨hx, hb, hml, hown, hts⟩ (c_X4_sunAt l D cI cJ cZ cO H.size p2 _ hw) (va_cwS 1 hts gX4_depthOf_X4_sunAt rfl rfl rfl (by decide +kernel) ⟨Nat.le_of_ble_eq_true rfl, Nat.le_of_ble_eq_true rfl⟩) (preS (X := ([] : va_W)) (pl := []) (cx := ([] : va_W)) hK hE hP hD [] (by decide) rfl) rfl rfl hl.1 rfl (lv_room (Nat.le_of_ble_eq_true rfl)) dX4_depthOf_1 ⟨Nat.zero_le _, Nat.zero_le _⟩) (fun r_1 _ H locs hw hP hD hS => ?_)
  try dsimp only at hw
  have hP : va_P D vwCl ([] : va_W) H := hP
  have hD : va_D A ([] : va_W) := hD
  refine lv_istore_n (lv' := [(2, .int r_1), (0, .int p1), (1, .int p2)]) hx hb dX4_depthOf_4 rfl hl (by decide) rfl (fun ls hl => ?_)
  refine lv_iload_n hx hb dX4_depthOf_5 rfl (lv_at hl 0 rfl) ?_
  refine lv_iconst (v := 1) hx hb dX4_depthOf_6 (by decide) ?_
  refine lv_icmp_ge (tgt := 14) hx hb dX4_depthOf_7 (by decide) (fun c7 => ?_) (fun c7 => ?_)
  · have hw := hw.1 c7
    refine lv_iconst (v := 4) hx hb dX4_depthOf_14 (by decide) ?_
    refine lv_bipush (v := 16) hx hb dX4_depthOf_15 (by decide) ?_
    refine lv_iload_n hx hb dX4_depthOf_17 rfl (lv_at hl 1 rfl) ?_
    refine lv_isub hx hb dX4_depthOf_18 ?_
    refine lv_imul hx hb dX4_depthOf_19 ?_
    refine lv_iload_n hx hb dX4_depthOf_20 rfl (lv_at hl 0 rfl) ?_
    obtain ⟨hne_21, hw⟩ := hw
    refine lv_idiv hx hb dX4_depthOf_21 hne_21 ?_
    exact RT ((4 * (16 - p1)) / r_1) () _ _ _ _ dX4_depthOf_22 hw hP hD hS
  · have hw := hw.2 c7
    refine lv_iconst (v := (-1)) hx hb dX4_depthOf_10 (by decide) ?_
    refine lv_goto (tgt := 22) hx hb dX4_depthOf_11 (by decide) ?_
    exact RT (-1) () _ _ _ _ dX4_depthOf_22 hw hP hD hS
abbrev rm_X4_drift : Room := { frames := 1, cells := 0, slots := 0, locals := 22 }
def wp_X4_drift (p1 : Int32) (p2 : Int32) (post : Int32 → Prop) : Prop := wp_J9_floorDiv_7cf53 ((p2 - 12) * p1) 8 (fun r_8 => post r_8)
set_option maxHeartbeats 4000000 in
set_option maxRecDepth 100000 in
theorem c_X4_drift (l : Launch) (D : va_G) (cI cJ cZ cO : ClassId) (sz : Nat) (p1 : Int32) (p2 : Int32) (post : Int32 → Prop) (hw : wp_X4_drift p1 p2 post) : Met l yX4_drift wsX4_drift rm_X4_drift (va_Pc [.int p1, .int p2] (PRE D cI cJ cZ cO ([] : va_W) sz)) (va_Qi (fun r (_ : Unit) => post r) (fun u t => POST D (va_A ([] : va_W) sz) ([] : va_W) t) (va_A ([] : va_W) sz)) 0 0 (va_A ([] : va_W) sz) := by
  refine met_go (cc := cX4_drift) (maxL := 2) (ret := some .int) RX4 rfl (by decide) rfl (Nat.le_of_ble_eq_true rfl) ?_
  intro p e s m args below meth c ls hx hb hr hts hown hlocks hin hml hsz hP hK hE hD hA hS hl
  generalize va_A ([] : va_W) sz = A at hD hA hS ⊢
  have RT : ∀ (v : Int32) (u : Unit) (H : Heap) (locs : List Loc) (pc : Nat) (ls : Array Slot), decode cX4_drift pc = .ok (.ireturn, 1) → post v → va_P D vwCl ([] : va_W) H → va_D A ([] : va_W) → va_S A s.heap H locs → W p l e rm_X4_drift s m args below meth c H locs 0 0 (MQ below (va_Qi (fun r (_ : Unit) => post r) (fun u t => POST D A ([] : va_W) t) A) args s 0 0 A) (F0 m pc ls [.int v]) := fun v u H locs pc ls d g1 g2 g3 g4 => rt_i (Wf := fun u => ([] : va_W)) u hx hb hr hlocks g1 g2 g3 g4 d
  generalize (MQ below (va_Qi (fun r (_ : Unit) => post r) (fun u t => POST D A ([] : va_W) t) A) args s 0 0 A) = QQ at RT ⊢
  have hl : lv_has ls 2 [(0, .int p1), (1, .int p2)] := hl
  have hP : va_P D vwCl ([] : va_W) s.heap := hP
  unfold wp_X4_drift at hw
  suffices GO : ∀ (H : Heap) (locs : List Loc), va_P D vwCl ([] : va_W) H → va_S A s.heap H locs → W p l e rm_X4_drift s m args below meth c H locs 0 0 QQ (F0 m 0 ls []) from GO _ _ hP hS
  clear hsz hP hS
  intro H locs hP hS
  refine lv_iload_n hx hb dX4_drift_0 rfl (lv_at hl 1 rfl) ?_
  refine lv_bipush (v := 12) hx hb dX4_drift_1 (by decide) ?_
  refine lv_isub hx hb dX4_drift_3 ?_
  refine lv_iload_n hx hb dX4_drift_4 rfl (lv_at hl 0 rfl) ?_
  refine lv_imul hx hb dX4_drift_5 ?_
  refine lv_bipush (v := 8) hx hb dX4_drift_6 (by decide) ?_
  refine af_i (X := ([] : va_W)) (pl := []) (cx := ([] : va_W)) (w1 := fun (u : Unit) => ([] : va_W)) (X' := fun (u : Unit) => ([] : va_W)) hP hD hS hA [] [] [] rfl rfl (by decide) (by decide) (fun u => rfl) (by decide) (va_runS (As := [.int ((p2 - 12) * p1), .int 8]) (rest := []) ⟨hx, hb, hml, hown, hts⟩ (c_J9_floorDiv_7cf53 l D cI cJ cZ cO H.size ((p2 - 12) * p1) 8 _ hw) (va_cwS 2 hts gX4_drift_J9_floorDiv_7cf53 rfl rfl rfl (by decide +kernel) ⟨Nat.le_of_ble_eq_true rfl, Nat.le_of_ble_eq_true rfl⟩) (preS (X := ([] : va_W)) (pl := []) (cx := ([] : va_W)) hK hE hP hD [] (by decide) rfl) rfl rfl hl.1 rfl (lv_room (Nat.le_of_ble_eq_true rfl)) dX4_drift_8 ⟨Nat.zero_le _, Nat.zero_le _⟩) (fun r_8 _ H locs hw hP hD hS => ?_)
  try dsimp only at hw
  have hP : va_P D vwCl ([] : va_W) H := hP
  have hD : va_D A ([] : va_W) := hD
  exact RT r_8 () _ _ _ _ dX4_drift_11 hw hP hD hS
