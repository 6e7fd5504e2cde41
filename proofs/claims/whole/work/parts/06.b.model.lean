/-! printed by wip/whole/gen: X5_divide X5_isBeside X5_give X5_join X5_colour X5_finish X5_heart X5_sheet X5_bars X5_bar X5_paint X5_fire X5_crack X5_broken X5_mend X5_replace X5_pieces X5_pieceOf -/
abbrev rm_X5_divide : Room := { frames := 4, cells := 0, slots := 0, locals := 93 }
abbrev W_X5_divide (h : Nat) (a : Nat → Nat) (cI cJ cZ : ClassId) (v_thrown : Int32) (v_made : Int32) (v_of : Nat → Int32) (v_many : Nat → Int32) (v_colour : Nat → Int32) (v_isOriginal : Nat → Int32) (v_things : Nat → Int32) (v_history : Nat → Int32) (v_heart : Int32) (v_width : Int32) (v_set : Nat → Int32) (v_seen : Nat → Int32) (v_pile : Nat → Int32) (v_sheets : Int32) (v_covered : Int32) : va_W := [(h, .inr (6, [.int v_thrown, .int v_made, .ref (a 2), .ref (a 3), .ref (a 4), .ref (a 5), .ref (a 6), .ref (a 7), .ref (a 8), .ref (a 9), .ref (a 10), .ref (a 11), .int v_heart, .int v_width, .ref (a 14), .ref (a 15), .ref (a 16), .ref (a 17), .ref (a 18), .ref (a 19), .ref (a 20), .ref (a 21), .int v_sheets, .int v_covered])), ((a 2), .inl (cI, 256, .inl v_of)), ((a 3), .inl (cI, 60, .inl v_many)), ((a 4), .inl (cI, 60, .inl v_colour)), ((a 5), .inl (cZ, 60, .inl v_isOriginal)), ((a 10), .inl (cI, 60, .inl v_things)), ((a 11), .inl (cI, 1200, .inl v_history)), ((a 15), .inl (cZ, 256, .inl v_set)), ((a 16), .inl (cZ, 256, .inl v_seen)), ((a 17), .inl (cI, 256, .inl v_pile))]
def wp_X5_divide_110 (v_thrown : Int32) (v_made : Int32) (v_of : Nat → Int32) (v_many : Nat → Int32) (v_colour : Nat → Int32) (v_isOriginal : Nat → Int32) (v_things : Nat → Int32) (v_history : Nat → Int32) (v_set : Nat → Int32) (v_seen : Nat → Int32) (v_pile : Nat → Int32) (p1 : Int32) (p2 : Int32) (post : Int32 → Int32 → Int32 → (Nat → Int32) → (Nat → Int32) → (Nat → Int32) → (Nat → Int32) → (Nat → Int32) → (Nat → Int32) → (Nat → Int32) → (Nat → Int32) → Prop) (K110 : Int32 → Int32 → Int32 → Int32 → (Nat → Int32) → (Nat → Int32) → (Nat → Int32) → (Nat → Int32) → (Nat → Int32) → Prop) (x6_j110 : Int32) (x7_j110 : Int32) (v_thrown_j110 : Int32) (v_made_j110 : Int32) (v_of_j110 : Nat → Int32) (v_many_j110 : Nat → Int32) (v_set_j110 : Nat → Int32) (v_seen_j110 : Nat → Int32) (v_pile_j110 : Nat → Int32) : Prop := (256 ≤ x7_j110 → vp_in p1 60 ∧ (vp_in x6_j110 60 ∧ (∀ v_colour_t186 : Nat → Int32, v_colour_t186 = upd v_colour x6_j110.toNatClampNeg (v_colour p1.toNatClampNeg) → wp_X5_note v_things v_history p1 2 (fun v_things_c190 v_history_c190 => wp_X5_note v_things_c190 v_history_c190 x6_j110 1 (fun v_things_c197 v_history_c197 => post x6_j110 v_thrown_j110 v_made_j110 v_of_j110 v_many_j110 v_colour_t186 v_things_c197 v_history_c197 v_set_j110 v_seen_j110 v_pile_j110))))) ∧ (¬ 256 ≤ x7_j110 → vp_in x7_j110 256 ∧ (((v_of_j110 x7_j110.toNatClampNeg) = p1 → wp_X5_isBeyond x7_j110 p2 (fun r_132 => (r_132 = 0 → K110 x6_j110 (x7_j110 + 1) v_thrown_j110 v_made_j110 v_of_j110 v_many_j110 v_set_j110 v_seen_j110 v_pile_j110) ∧ (¬ r_132 = 0 → vp_in x7_j110 256 ∧ (∀ v_of_t146 : Nat → Int32, v_of_t146 = upd v_of_j110 x7_j110.toNatClampNeg x6_j110 → vp_in x6_j110 60 ∧ (vp_in x6_j110 60 ∧ (∀ v_many_t157 : Nat → Int32, v_many_t157 = upd v_many_j110 x6_j110.toNatClampNeg ((v_many_j110 x6_j110.toNatClampNeg) + 1) → vp_in p1 60 ∧ (vp_in p1 60 ∧ (∀ v_many_t167 : Nat → Int32, v_many_t167 = upd v_many_t157 p1.toNatClampNeg ((v_many_t157 p1.toNatClampNeg) - 1) → K110 x6_j110 (x7_j110 + 1) v_thrown_j110 v_made_j110 v_of_t146 v_many_t167 v_set_j110 v_seen_j110 v_pile_j110)))))))) ∧ (¬ (v_of_j110 x7_j110.toNatClampNeg) = p1 → K110 x6_j110 (x7_j110 + 1) v_thrown_j110 v_made_j110 v_of_j110 v_many_j110 v_set_j110 v_seen_j110 v_pile_j110)))
def lF_X5_divide_110 (v_thrown : Int32) (v_made : Int32) (v_of : Nat → Int32) (v_many : Nat → Int32) (v_colour : Nat → Int32) (v_isOriginal : Nat → Int32) (v_things : Nat → Int32) (v_history : Nat → Int32) (v_set : Nat → Int32) (v_seen : Nat → Int32) (v_pile : Nat → Int32) (p1 : Int32) (p2 : Int32) (post : Int32 → Int32 → Int32 → (Nat → Int32) → (Nat → Int32) → (Nat → Int32) → (Nat → Int32) → (Nat → Int32) → (Nat → Int32) → (Nat → Int32) → (Nat → Int32) → Prop) : ((Int32 × Int32 × Int32 × Int32 × (Nat → Int32) × (Nat → Int32) × (Nat → Int32) × (Nat → Int32) × (Nat → Int32)) → Prop) → (Int32 × Int32 × Int32 × Int32 × (Nat → Int32) × (Nat → Int32) × (Nat → Int32) × (Nat → Int32) × (Nat → Int32)) → Prop := fun K s => wp_X5_divide_110 v_thrown v_made v_of v_many v_colour v_isOriginal v_things v_history v_set v_seen v_pile p1 p2 post (fun b0 b1 b2 b3 b4 b5 b6 b7 b8 => K (b0, b1, b2, b3, b4, b5, b6, b7, b8)) s.1 s.2.1 s.2.2.1 s.2.2.2.1 s.2.2.2.2.1 s.2.2.2.2.2.1 s.2.2.2.2.2.2.1 s.2.2.2.2.2.2.2.1 s.2.2.2.2.2.2.2.2
def wp_X5_divide_83 (v_thrown : Int32) (v_made : Int32) (v_of : Nat → Int32) (v_many : Nat → Int32) (v_colour : Nat → Int32) (v_isOriginal : Nat → Int32) (v_things : Nat → Int32) (v_history : Nat → Int32) (v_set : Nat → Int32) (v_seen : Nat → Int32) (v_pile : Nat → Int32) (p1 : Int32) (p2 : Int32) (post : Int32 → Int32 → Int32 → (Nat → Int32) → (Nat → Int32) → (Nat → Int32) → (Nat → Int32) → (Nat → Int32) → (Nat → Int32) → (Nat → Int32) → (Nat → Int32) → Prop) (s1_j83 : Int32) (v_set_j83 : Nat → Int32) (v_seen_j83 : Nat → Int32) (v_pile_j83 : Nat → Int32) : Prop := wp_X5_goesWell v_thrown s1_j83 (fun r_83 v_thrown_c83 => (r_83 = 0 → post 0 v_thrown_c83 v_made v_of v_many v_colour v_things v_history v_set_j83 v_seen_j83 v_pile_j83) ∧ (¬ r_83 = 0 → ∀ v_made_t104 : Int32, v_made_t104 = (v_made + 1) → lp (lF_X5_divide_110 v_thrown v_made v_of v_many v_colour v_isOriginal v_things v_history v_set v_seen v_pile p1 p2 post) (v_made, 0, v_thrown_c83, v_made_t104, v_of, v_many, v_set_j83, v_seen_j83, v_pile_j83)))
def wp_X5_divide_53 (v_thrown : Int32) (v_made : Int32) (v_of : Nat → Int32) (v_many : Nat → Int32) (v_colour : Nat → Int32) (v_isOriginal : Nat → Int32) (v_things : Nat → Int32) (v_history : Nat → Int32) (v_set : Nat → Int32) (v_seen : Nat → Int32) (v_pile : Nat → Int32) (p1 : Int32) (p2 : Int32) (post : Int32 → Int32 → Int32 → (Nat → Int32) → (Nat → Int32) → (Nat → Int32) → (Nat → Int32) → (Nat → Int32) → (Nat → Int32) → (Nat → Int32) → (Nat → Int32) → Prop) (s0_j53 : Int32) (x3_j53 : Int32) (x4_j53 : Int32) (v_set_j53 : Nat → Int32) (v_seen_j53 : Nat → Int32) (v_pile_j53 : Nat → Int32) : Prop := (x3_j53 = 0 → wp_X5_divide_83 v_thrown v_made v_of v_many v_colour v_isOriginal v_things v_history v_set v_seen v_pile p1 p2 post 1 v_set_j53 v_seen_j53 v_pile_j53) ∧ (¬ x3_j53 = 0 → (x4_j53 = 0 → wp_X5_divide_83 v_thrown v_made v_of v_many v_colour v_isOriginal v_things v_history v_set v_seen v_pile p1 p2 post 2 v_set_j53 v_seen_j53 v_pile_j53) ∧ (¬ x4_j53 = 0 → (s0_j53 = 0 → wp_X5_divide_83 v_thrown v_made v_of v_many v_colour v_isOriginal v_things v_history v_set v_seen v_pile p1 p2 post 3 v_set_j53 v_seen_j53 v_pile_j53) ∧ (¬ s0_j53 = 0 → wp_X5_divide_83 v_thrown v_made v_of v_many v_colour v_isOriginal v_things v_history v_set v_seen v_pile p1 p2 post 0 v_set_j53 v_seen_j53 v_pile_j53)))
def wp_X5_divide (v_thrown : Int32) (v_made : Int32) (v_of : Nat → Int32) (v_many : Nat → Int32) (v_colour : Nat → Int32) (v_isOriginal : Nat → Int32) (v_things : Nat → Int32) (v_history : Nat → Int32) (v_set : Nat → Int32) (v_seen : Nat → Int32) (v_pile : Nat → Int32) (p1 : Int32) (p2 : Int32) (post : Int32 → Int32 → Int32 → (Nat → Int32) → (Nat → Int32) → (Nat → Int32) → (Nat → Int32) → (Nat → Int32) → (Nat → Int32) → (Nat → Int32) → (Nat → Int32) → Prop) : Prop := wp_X5_isPiece v_made v_many p1 (fun r_2 => wp_X5_isLine p2 (fun r_7 => (r_2 = 0 → wp_X5_divide_53 v_thrown v_made v_of v_many v_colour v_isOriginal v_things v_history v_set v_seen v_pile p1 p2 post 0 r_2 r_7 v_set v_seen v_pile) ∧ (¬ r_2 = 0 → (r_7 = 0 → wp_X5_divide_53 v_thrown v_made v_of v_many v_colour v_isOriginal v_things v_history v_set v_seen v_pile p1 p2 post 0 r_2 r_7 v_set v_seen v_pile) ∧ (¬ r_7 = 0 → vp_in p1 60 ∧ (((v_isOriginal p1.toNatClampNeg) = 0 → (60 ≤ v_made → wp_X5_divide_53 v_thrown v_made v_of v_many v_colour v_isOriginal v_things v_history v_set v_seen v_pile p1 p2 post 0 r_2 r_7 v_set v_seen v_pile) ∧ (¬ 60 ≤ v_made → wp_X5_isTwo v_of v_set v_seen v_pile p1 p2 (fun r_42 v_set_c42 v_seen_c42 v_pile_c42 => (r_42 = 0 → wp_X5_divide_53 v_thrown v_made v_of v_many v_colour v_isOriginal v_things v_history v_set v_seen v_pile p1 p2 post 0 r_2 r_7 v_set_c42 v_seen_c42 v_pile_c42) ∧ (¬ r_42 = 0 → wp_X5_divide_53 v_thrown v_made v_of v_many v_colour v_isOriginal v_things v_history v_set v_seen v_pile p1 p2 post 1 r_2 r_7 v_set_c42 v_seen_c42 v_pile_c42)))) ∧ (¬ (v_isOriginal p1.toNatClampNeg) = 0 → wp_X5_divide_53 v_thrown v_made v_of v_many v_colour v_isOriginal v_things v_history v_set v_seen v_pile p1 p2 post 0 r_2 r_7 v_set v_seen v_pile))))))
set_option maxHeartbeats 4000000 in
set_option maxRecDepth 100000 in
theorem c_X5_divide (l : Launch) (D : va_G) (cI cJ cZ cO : ClassId) (h : Nat) (a : Nat → Nat) (sz : Nat) (v_thrown : Int32) (v_made : Int32) (v_of : Nat → Int32) (v_many : Nat → Int32) (v_colour : Nat → Int32) (v_isOriginal : Nat → Int32) (v_things : Nat → Int32) (v_history : Nat → Int32) (v_heart : Int32) (v_width : Int32) (v_set : Nat → Int32) (v_seen : Nat → Int32) (v_pile : Nat → Int32) (v_sheets : Int32) (v_covered : Int32) (p1 : Int32) (p2 : Int32) (post : Int32 → Int32 → Int32 → (Nat → Int32) → (Nat → Int32) → (Nat → Int32) → (Nat → Int32) → (Nat → Int32) → (Nat → Int32) → (Nat → Int32) → (Nat → Int32) → Prop) (hw : wp_X5_divide v_thrown v_made v_of v_many v_colour v_isOriginal v_things v_history v_set v_seen v_pile p1 p2 post) : Met l yX5_divide wsX5_divide rm_X5_divide (va_Pc [.ref h, .int p1, .int p2] (PRE D cI cJ cZ cO (W_X5_divide h a cI cJ cZ v_thrown v_made v_of v_many v_colour v_isOriginal v_things v_history v_heart v_width v_set v_seen v_pile v_sheets v_covered) sz)) (va_Qi (fun r (u : Int32 × Int32 × (Nat → Int32) × (Nat → Int32) × (Nat → Int32) × (Nat → Int32) × (Nat → Int32) × (Nat → Int32) × (Nat → Int32) × (Nat → Int32)) => post r u.1 u.2.1 u.2.2.1 u.2.2.2.1 u.2.2.2.2.1 u.2.2.2.2.2.1 u.2.2.2.2.2.2.1 u.2.2.2.2.2.2.2.1 u.2.2.2.2.2.2.2.2.1 u.2.2.2.2.2.2.2.2.2) (fun u t => POST D (va_A (W_X5_divide h a cI cJ cZ v_thrown v_made v_of v_many v_colour v_isOriginal v_things v_history v_heart v_width v_set v_seen v_pile v_sheets v_covered) sz) (W_X5_divide h a cI cJ cZ u.1 u.2.1 u.2.2.1 u.2.2.2.1 u.2.2.2.2.1 v_isOriginal u.2.2.2.2.2.1 u.2.2.2.2.2.2.1 v_heart v_width u.2.2.2.2.2.2.2.1 u.2.2.2.2.2.2.2.2.1 u.2.2.2.2.2.2.2.2.2 v_sheets v_covered) t) (va_A (W_X5_divide h a cI cJ cZ v_thrown v_made v_of v_many v_colour v_isOriginal v_things v_history v_heart v_width v_set v_seen v_pile v_sheets v_covered) sz)) 0 0 (va_A (W_X5_divide h a cI cJ cZ v_thrown v_made v_of v_many v_colour v_isOriginal v_things v_history v_heart v_width v_set v_seen v_pile v_sheets v_covered) sz) := by
  refine met_go (cc := cX5_divide) (maxL := 8) (ret := some .int) RX5 rfl (by decide) rfl (Nat.le_of_ble_eq_true rfl) ?_
  intro p e s m args below meth c ls hx hb hr hts hown hlocks hin hml hsz hP hK hE hD hA hS hl
  have iRX5 : ∀ w ∈ u_ws RX5 TX5 24, w ∈ wsX5_divide := mem_seg 49 24 rfl
  generalize va_A (W_X5_divide h a cI cJ cZ v_thrown v_made v_of v_many v_colour v_isOriginal v_things v_history v_heart v_width v_set v_seen v_pile v_sheets v_covered) sz = A at hD hA hS ⊢
  have RT : ∀ (v : Int32) (u : Int32 × Int32 × (Nat → Int32) × (Nat → Int32) × (Nat → Int32) × (Nat → Int32) × (Nat → Int32) × (Nat → Int32) × (Nat → Int32) × (Nat → Int32)) (H : Heap) (locs : List Loc) (pc : Nat) (ls : Array Slot), decode cX5_divide pc = .ok (.ireturn, 1) → post v u.1 u.2.1 u.2.2.1 u.2.2.2.1 u.2.2.2.2.1 u.2.2.2.2.2.1 u.2.2.2.2.2.2.1 u.2.2.2.2.2.2.2.1 u.2.2.2.2.2.2.2.2.1 u.2.2.2.2.2.2.2.2.2 → va_P D vwCl (W_X5_divide h a cI cJ cZ u.1 u.2.1 u.2.2.1 u.2.2.2.1 u.2.2.2.2.1 v_isOriginal u.2.2.2.2.2.1 u.2.2.2.2.2.2.1 v_heart v_width u.2.2.2.2.2.2.2.1 u.2.2.2.2.2.2.2.2.1 u.2.2.2.2.2.2.2.2.2 v_sheets v_covered) H → va_D A (W_X5_divide h a cI cJ cZ u.1 u.2.1 u.2.2.1 u.2.2.2.1 u.2.2.2.2.1 v_isOriginal u.2.2.2.2.2.1 u.2.2.2.2.2.2.1 v_heart v_width u.2.2.2.2.2.2.2.1 u.2.2.2.2.2.2.2.2.1 u.2.2.2.2.2.2.2.2.2 v_sheets v_covered) → va_S A s.heap H locs → W p l e rm_X5_divide s m args below meth c H locs 0 0 (MQ below (va_Qi (fun r (u : Int32 × Int32 × (Nat → Int32) × (Nat → Int32) × (Nat → Int32) × (Nat → Int32) × (Nat → Int32) × (Nat → Int32) × (Nat → Int32) × (Nat → Int32)) => post r u.1 u.2.1 u.2.2.1 u.2.2.2.1 u.2.2.2.2.1 u.2.2.2.2.2.1 u.2.2.2.2.2.2.1 u.2.2.2.2.2.2.2.1 u.2.2.2.2.2.2.2.2.1 u.2.2.2.2.2.2.2.2.2) (fun u t => POST D A (W_X5_divide h a cI cJ cZ u.1 u.2.1 u.2.2.1 u.2.2.2.1 u.2.2.2.2.1 v_isOriginal u.2.2.2.2.2.1 u.2.2.2.2.2.2.1 v_heart v_width u.2.2.2.2.2.2.2.1 u.2.2.2.2.2.2.2.2.1 u.2.2.2.2.2.2.2.2.2 v_sheets v_covered) t) A) args s 0 0 A) (F0 m pc ls [.int v]) := fun v u H locs pc ls d g1 g2 g3 g4 => rt_i (Wf := fun u => (W_X5_divide h a cI cJ cZ u.1 u.2.1 u.2.2.1 u.2.2.2.1 u.2.2.2.2.1 v_isOriginal u.2.2.2.2.2.1 u.2.2.2.2.2.2.1 v_heart v_width u.2.2.2.2.2.2.2.1 u.2.2.2.2.2.2.2.2.1 u.2.2.2.2.2.2.2.2.2 v_sheets v_covered)) u hx hb hr hlocks g1 g2 g3 g4 d
  generalize (MQ below (va_Qi (fun r (u : Int32 × Int32 × (Nat → Int32) × (Nat → Int32) × (Nat → Int32) × (Nat → Int32) × (Nat → Int32) × (Nat → Int32) × (Nat → Int32) × (Nat → Int32)) => post r u.1 u.2.1 u.2.2.1 u.2.2.2.1 u.2.2.2.2.1 u.2.2.2.2.2.1 u.2.2.2.2.2.2.1 u.2.2.2.2.2.2.2.1 u.2.2.2.2.2.2.2.2.1 u.2.2.2.2.2.2.2.2.2) (fun u t => POST D A (W_X5_divide h a cI cJ cZ u.1 u.2.1 u.2.2.1 u.2.2.2.1 u.2.2.2.2.1 v_isOriginal u.2.2.2.2.2.1 u.2.2.2.2.2.2.1 v_heart v_width u.2.2.2.2.2.2.2.1 u.2.2.2.2.2.2.2.2.1 u.2.2.2.2.2.2.2.2.2 v_sheets v_covered) t) A) args s 0 0 A) = QQ at RT ⊢
  have hl : lv_has ls 8 [(0, .ref h), (1, .int p1), (2, .int p2)] := hl
  have hP : va_P D vwCl (W_X5_divide h a cI cJ cZ v_thrown v_made v_of v_many v_colour v_isOriginal v_things v_history v_heart v_width v_set v_seen v_pile v_sheets v_covered) s.heap := hP
  unfold wp_X5_divide at hw
  suffices GO : ∀ (H : Heap) (locs : List Loc), va_P D vwCl (W_X5_divide h a cI cJ cZ v_thrown v_made v_of v_many v_colour v_isOriginal v_things v_history v_heart v_width v_set v_seen v_pile v_sheets v_covered) H → va_S A s.heap H locs → W p l e rm_X5_divide s m args below meth c H locs 0 0 QQ (F0 m 0 ls []) from GO _ _ hP hS
  clear hsz hP hS
  intro H locs hP hS
  have L110 : ∀ s0 : (Int32 × Int32 × Int32 × Int32 × (Nat → Int32) × (Nat → Int32) × (Nat → Int32) × (Nat → Int32) × (Nat → Int32)), lp (lF_X5_divide_110 v_thrown v_made v_of v_many v_colour v_isOriginal v_things v_history v_set v_seen v_pile p1 p2 post) s0 → ∀ (H : Heap) (locs : List Loc) (ls : Array Slot), va_P D vwCl (W_X5_divide h a cI cJ cZ s0.2.2.1 s0.2.2.2.1 s0.2.2.2.2.1 s0.2.2.2.2.2.1 v_colour v_isOriginal v_things v_history v_heart v_width s0.2.2.2.2.2.2.1 s0.2.2.2.2.2.2.2.1 s0.2.2.2.2.2.2.2.2 v_sheets v_covered) H → va_D A (W_X5_divide h a cI cJ cZ s0.2.2.1 s0.2.2.2.1 s0.2.2.2.2.1 s0.2.2.2.2.2.1 v_colour v_isOriginal v_things v_history v_heart v_width s0.2.2.2.2.2.2.1 s0.2.2.2.2.2.2.2.1 s0.2.2.2.2.2.2.2.2 v_sheets v_covered) → va_S A s.heap H locs → lv_has ls 8 [(0, .ref h), (1, .int p1), (2, .int p2), (6, .int s0.1), (7, .int s0.2.1)] → W p l e rm_X5_divide s m args below meth c H locs 0 0 QQ (F0 m 110 ls []) := by
    refine lp_elim (fun K110 ih110 s0 hw => ?_)
    obtain ⟨x6_j110, x7_j110, v_thrown_j110, v_made_j110, v_of_j110, v_many_j110, v_set_j110, v_seen_j110, v_pile_j110⟩ := s0
    intro H locs ls hP hD hS hl
    have hw : wp_X5_divide_110 v_thrown v_made v_of v_many v_colour v_isOriginal v_things v_history v_set v_seen v_pile p1 p2 post (fun b0 b1 b2 b3 b4 b5 b6 b7 b8 => K110 (b0, b1, b2, b3, b4, b5, b6, b7, b8)) x6_j110 x7_j110 v_thrown_j110 v_made_j110 v_of_j110 v_many_j110 v_set_j110 v_seen_j110 v_pile_j110 := hw
    have hP : va_P D vwCl (W_X5_divide h a cI cJ cZ v_thrown_j110 v_made_j110 v_of_j110 v_many_j110 v_colour v_isOriginal v_things v_history v_heart v_width v_set_j110 v_seen_j110 v_pile_j110 v_sheets v_covered) H := hP
    have hD : va_D A (W_X5_divide h a cI cJ cZ v_thrown_j110 v_made_j110 v_of_j110 v_many_j110 v_colour v_isOriginal v_things v_history v_heart v_width v_set_j110 v_seen_j110 v_pile_j110 v_sheets v_covered) := hD
    have hl : lv_has ls 8 [(0, .ref h), (1, .int p1), (2, .int p2), (6, .int x6_j110), (7, .int x7_j110)] := hl
    unfold wp_X5_divide_110 at hw
    refine lv_iload hx hb dX5_divide_110 (lv_at hl 4 rfl) ?_
    refine lv_sipush (v := 256) hx hb dX5_divide_112 (by decide) ?_
    refine lv_icmp_ge (tgt := 174) hx hb dX5_divide_115 (by decide) (fun c115 => ?_) (fun c115 => ?_)
    · have hw := hw.1 c115
      refine lv_aload_n hx hb dX5_divide_174 rfl (lv_at hl 0 rfl) ?_
      refine va_get (D := D) (ci := 6) (v := .ref (a 4)) (C := RX5) (T := TX5) (N := 24) hx hb hts iRX5 hown hK hP 0 rfl rfl 4 (by decide) (hts (.fieldLink RX5 20 "LeadlightModel" "colour" "[I") (List.mem_of_getElem? (i := 5) rfl)) (fun _ h9 => h9) rfl dX5_divide_175 ?_
      refine lv_iload hx hb dX5_divide_178 (lv_at hl 3 rfl) ?_
      refine lv_aload_n hx hb dX5_divide_180 rfl (lv_at hl 0 rfl) ?_
      refine va_get (D := D) (ci := 6) (v := .ref (a 4)) (C := RX5) (T := TX5) (N := 24) hx hb hts iRX5 hown hK hP 0 rfl rfl 4 (by decide) (hts (.fieldLink RX5 20 "LeadlightModel" "colour" "[I") (List.mem_of_getElem? (i := 5) rfl)) (fun _ h9 => h9) rfl dX5_divide_181 ?_
      refine lv_iload_n hx hb dX5_divide_184 rfl (lv_at hl 1 rfl) ?_
      obtain ⟨hi_185, hw⟩ := hw
      refine va_iald hx hb hK hP 3 0 rfl rfl hi_185 dX5_divide_185 ?_
      obtain ⟨hi_186, hw⟩ := hw
      refine st_i hx hb hK hP hD hS 3 0 rfl rfl hi_186 dX5_divide_186 (fun v_colour_t186 ev_colour_t186 H locs hP hD hS => ?_)
      have hw := hw v_colour_t186 ev_colour_t186
      have hP : va_P D vwCl (W_X5_divide h a cI cJ cZ v_thrown_j110 v_made_j110 v_of_j110 v_many_j110 v_colour_t186 v_isOriginal v_things v_history v_heart v_width v_set_j110 v_seen_j110 v_pile_j110 v_sheets v_covered) H := hP
      have hD : va_D A (W_X5_divide h a cI cJ cZ v_thrown_j110 v_made_j110 v_of_j110 v_many_j110 v_colour_t186 v_isOriginal v_things v_history v_heart v_width v_set_j110 v_seen_j110 v_pile_j110 v_sheets v_covered) := hD
      refine lv_aload_n hx hb dX5_divide_187 rfl (lv_at hl 0 rfl) ?_
      refine lv_iload_n hx hb dX5_divide_188 rfl (lv_at hl 1 rfl) ?_
      refine lv_iconst (v := 2) hx hb dX5_divide_189 (by decide) ?_
      refine af_v (X := (W_X5_divide h a cI cJ cZ v_thrown_j110 v_made_j110 v_of_j110 v_many_j110 v_colour_t186 v_isOriginal v_things v_history v_heart v_width v_set_j110 v_seen_j110 v_pile_j110 v_sheets v_covered)) (pl := []) (cx := (W_X5_note h a cI cJ cZ v_thrown_j110 v_made_j110 v_things v_history v_heart v_width v_sheets v_covered)) (w1 := fun (u : (Nat → Int32) × (Nat → Int32)) => (W_X5_note h a cI cJ cZ v_thrown_j110 v_made_j110 u.1 u.2 v_heart v_width v_sheets v_covered)) (X' := fun (u : (Nat → Int32) × (Nat → Int32)) => (W_X5_divide h a cI cJ cZ v_thrown_j110 v_made_j110 v_of_j110 v_many_j110 v_colour_t186 v_isOriginal u.1 u.2 v_heart v_width v_set_j110 v_seen_j110 v_pile_j110 v_sheets v_covered)) hP hD hS hA [0, 5, 6] [1, 2, 3, 4, 7, 8, 9] [7, 0, 1, 2, 3, 8, 9, 4, 5, 6] rfl rfl (by decide) (by decide) (fun u => rfl) (by decide) (va_runV (As := [.int p1, .int 2]) (rest := []) ⟨hx, hb, hml, hown, hts⟩ (c_X5_note l D cI cJ cZ cO h a H.size v_thrown_j110 v_made_j110 v_things v_history v_heart v_width v_sheets v_covered p1 2 _ hw) (cwV 2 hts gX5_divide_X5_note rfl rfl rfl (by decide +kernel) ⟨Nat.le_of_ble_eq_true rfl, Nat.le_of_ble_eq_true rfl⟩) (preV (X := (W_X5_divide h a cI cJ cZ v_thrown_j110 v_made_j110 v_of_j110 v_many_j110 v_colour_t186 v_isOriginal v_things v_history v_heart v_width v_set_j110 v_seen_j110 v_pile_j110 v_sheets v_covered)) (pl := []) (cx := (W_X5_note h a cI cJ cZ v_thrown_j110 v_made_j110 v_things v_history v_heart v_width v_sheets v_covered)) (qb := 0) (ci := 6) hK hE hP hD [0, 5, 6] (by decide) rfl rfl rfl) rfl rfl hl.1 rfl (lv_room (Nat.le_of_ble_eq_true rfl)) dX5_divide_190 ⟨Nat.zero_le _, Nat.zero_le _⟩) (fun u H locs hw hP hD hS => ?_)
      obtain ⟨v_things_c190, v_history_c190⟩ := u
      try dsimp only at hw
      have hP : va_P D vwCl (W_X5_divide h a cI cJ cZ v_thrown_j110 v_made_j110 v_of_j110 v_many_j110 v_colour_t186 v_isOriginal v_things_c190 v_history_c190 v_heart v_width v_set_j110 v_seen_j110 v_pile_j110 v_sheets v_covered) H := hP
      have hD : va_D A (W_X5_divide h a cI cJ cZ v_thrown_j110 v_made_j110 v_of_j110 v_many_j110 v_colour_t186 v_isOriginal v_things_c190 v_history_c190 v_heart v_width v_set_j110 v_seen_j110 v_pile_j110 v_sheets v_covered) := hD
      refine lv_aload_n hx hb dX5_divide_193 rfl (lv_at hl 0 rfl) ?_
      refine lv_iload hx hb dX5_divide_194 (lv_at hl 3 rfl) ?_
      refine lv_iconst (v := 1) hx hb dX5_divide_196 (by decide) ?_
      refine af_v (X := (W_X5_divide h a cI cJ cZ v_thrown_j110 v_made_j110 v_of_j110 v_many_j110 v_colour_t186 v_isOriginal v_things_c190 v_history_c190 v_heart v_width v_set_j110 v_seen_j110 v_pile_j110 v_sheets v_covered)) (pl := []) (cx := (W_X5_note h a cI cJ cZ v_thrown_j110 v_made_j110 v_things_c190 v_history_c190 v_heart v_width v_sheets v_covered)) (w1 := fun (u : (Nat → Int32) × (Nat → Int32)) => (W_X5_note h a cI cJ cZ v_thrown_j110 v_made_j110 u.1 u.2 v_heart v_width v_sheets v_covered)) (X' := fun (u : (Nat → Int32) × (Nat → Int32)) => (W_X5_divide h a cI cJ cZ v_thrown_j110 v_made_j110 v_of_j110 v_many_j110 v_colour_t186 v_isOriginal u.1 u.2 v_heart v_width v_set_j110 v_seen_j110 v_pile_j110 v_sheets v_covered)) hP hD hS hA [0, 5, 6] [1, 2, 3, 4, 7, 8, 9] [7, 0, 1, 2, 3, 8, 9, 4, 5, 6] rfl rfl (by decide) (by decide) (fun u => rfl) (by decide) (va_runV (As := [.int x6_j110, .int 1]) (rest := []) ⟨hx, hb, hml, hown, hts⟩ (c_X5_note l D cI cJ cZ cO h a H.size v_thrown_j110 v_made_j110 v_things_c190 v_history_c190 v_heart v_width v_sheets v_covered x6_j110 1 _ hw) (cwV 2 hts gX5_divide_X5_note rfl rfl rfl (by decide +kernel) ⟨Nat.le_of_ble_eq_true rfl, Nat.le_of_ble_eq_true rfl⟩) (preV (X := (W_X5_divide h a cI cJ cZ v_thrown_j110 v_made_j110 v_of_j110 v_many_j110 v_colour_t186 v_isOriginal v_things_c190 v_history_c190 v_heart v_width v_set_j110 v_seen_j110 v_pile_j110 v_sheets v_covered)) (pl := []) (cx := (W_X5_note h a cI cJ cZ v_thrown_j110 v_made_j110 v_things_c190 v_history_c190 v_heart v_width v_sheets v_covered)) (qb := 0) (ci := 6) hK hE hP hD [0, 5, 6] (by decide) rfl rfl rfl) rfl rfl hl.1 rfl (lv_room (Nat.le_of_ble_eq_true rfl)) dX5_divide_197 ⟨Nat.zero_le _, Nat.zero_le _⟩) (fun u H locs hw hP hD hS => ?_)
      obtain ⟨v_things_c197, v_history_c197⟩ := u
      try dsimp only at hw
      have hP : va_P D vwCl (W_X5_divide h a cI cJ cZ v_thrown_j110 v_made_j110 v_of_j110 v_many_j110 v_colour_t186 v_isOriginal v_things_c197 v_history_c197 v_heart v_width v_set_j110 v_seen_j110 v_pile_j110 v_sheets v_covered) H := hP
      have hD : va_D A (W_X5_divide h a cI cJ cZ v_thrown_j110 v_made_j110 v_of_j110 v_many_j110 v_colour_t186 v_isOriginal v_things_c197 v_history_c197 v_heart v_width v_set_j110 v_seen_j110 v_pile_j110 v_sheets v_covered) := hD
      refine lv_iload hx hb dX5_divide_200 (lv_at hl 3 rfl) ?_
      exact RT x6_j110 (v_thrown_j110, v_made_j110, v_of_j110, v_many_j110, v_colour_t186, v_things_c197, v_history_c197, v_set_j110, v_seen_j110, v_pile_j110) _ _ _ _ dX5_divide_202 hw hP hD hS
    · have hw := hw.2 c115
      refine lv_aload_n hx hb dX5_divide_118 rfl (lv_at hl 0 rfl) ?_
      refine va_get (D := D) (ci := 6) (v := .ref (a 2)) (C := RX5) (T := TX5) (N := 24) hx hb hts iRX5 hown hK hP 0 rfl rfl 2 (by decide) (hts (.fieldLink RX5 13 "LeadlightModel" "of" "[I") (List.mem_of_getElem? (i := 3) rfl)) (fun _ h9 => h9) rfl dX5_divide_119 ?_
      refine lv_iload hx hb dX5_divide_122 (lv_at hl 4 rfl) ?_
      obtain ⟨hi_124, hw⟩ := hw
      refine va_iald hx hb hK hP 1 0 rfl rfl hi_124 dX5_divide_124 ?_
      refine lv_iload_n hx hb dX5_divide_125 rfl (lv_at hl 1 rfl) ?_
      refine lv_icmp_ne (tgt := 168) hx hb dX5_divide_126 (by decide) (fun c126 => ?_) (fun c126 => ?_)
      · have hw := hw.2 c126
        refine lv_iinc (v := (x7_j110 + 1)) (lv' := [(7, .int (x7_j110 + 1)), (0, .ref h), (1, .int p1), (2, .int p2), (6, .int x6_j110)]) hx hb dX5_divide_168 hl (k := 4) rfl rfl (by decide) rfl (fun ls hl => ?_)
        refine lv_goto (tgt := 110) hx hb dX5_divide_171 (by decide) ?_
        exact ih110 (x6_j110, (x7_j110 + 1), v_thrown_j110, v_made_j110, v_of_j110, v_many_j110, v_set_j110, v_seen_j110, v_pile_j110) hw _ _ ls hP hD hS (lv_sub hl [1, 2, 3, 4, 0] rfl)
      · have hw := hw.1 c126
        refine lv_iload hx hb dX5_divide_129 (lv_at hl 4 rfl) ?_
        refine lv_iload_n hx hb dX5_divide_131 rfl (lv_at hl 2 rfl) ?_
        refine af_i (X := (W_X5_divide h a cI cJ cZ v_thrown_j110 v_made_j110 v_of_j110 v_many_j110 v_colour v_isOriginal v_things v_history v_heart v_width v_set_j110 v_seen_j110 v_pile_j110 v_sheets v_covered)) (pl := []) (cx := ([] : va_W)) (w1 := fun (u : Unit) => ([] : va_W)) (X' := fun (u : Unit) => (W_X5_divide h a cI cJ cZ v_thrown_j110 v_made_j110 v_of_j110 v_many_j110 v_colour v_isOriginal v_things v_history v_heart v_width v_set_j110 v_seen_j110 v_pile_j110 v_sheets v_covered)) hP hD hS hA [] [0, 1, 2, 3, 4, 5, 6, 7, 8, 9] [0, 1, 2, 3, 4, 5, 6, 7, 8, 9] rfl rfl (by decide) (by decide) (fun u => rfl) (by decide) (va_runS (As := [.int x7_j110, .int p2]) (rest := []) ⟨hx, hb, hml, hown, hts⟩ (c_X5_isBeyond l D cI cJ cZ cO H.size x7_j110 p2 _ hw) (va_cwS 2 hts gX5_divide_X5_isBeyond rfl rfl rfl (by decide +kernel) ⟨Nat.le_of_ble_eq_true rfl, Nat.le_of_ble_eq_true rfl⟩) (preS (X := (W_X5_divide h a cI cJ cZ v_thrown_j110 v_made_j110 v_of_j110 v_many_j110 v_colour v_isOriginal v_things v_history v_heart v_width v_set_j110 v_seen_j110 v_pile_j110 v_sheets v_covered)) (pl := []) (cx := ([] : va_W)) hK hE hP hD [] (by decide) rfl) rfl rfl hl.1 rfl (lv_room (Nat.le_of_ble_eq_true rfl)) dX5_divide_132 ⟨Nat.zero_le _, Nat.zero_le _⟩) (fun r_132 _ H locs hw hP hD hS => ?_)
        try dsimp only at hw
        have hP : va_P D vwCl (W_X5_divide h a cI cJ cZ v_thrown_j110 v_made_j110 v_of_j110 v_many_j110 v_colour v_isOriginal v_things v_history v_heart v_width v_set_j110 v_seen_j110 v_pile_j110 v_sheets v_covered) H := hP
        have hD : va_D A (W_X5_divide h a cI cJ cZ v_thrown_j110 v_made_j110 v_of_j110 v_many_j110 v_colour v_isOriginal v_things v_history v_heart v_width v_set_j110 v_seen_j110 v_pile_j110 v_sheets v_covered) := hD
        refine lv_if_eq (tgt := 168) hx hb dX5_divide_135 (by decide) (fun c135 => ?_) (fun c135 => ?_)
        · have hw := hw.1 c135
          refine lv_iinc (v := (x7_j110 + 1)) (lv' := [(7, .int (x7_j110 + 1)), (0, .ref h), (1, .int p1), (2, .int p2), (6, .int x6_j110)]) hx hb dX5_divide_168 hl (k := 4) rfl rfl (by decide) rfl (fun ls hl => ?_)
          refine lv_goto (tgt := 110) hx hb dX5_divide_171 (by decide) ?_
          exact ih110 (x6_j110, (x7_j110 + 1), v_thrown_j110, v_made_j110, v_of_j110, v_many_j110, v_set_j110, v_seen_j110, v_pile_j110) hw _ _ ls hP hD hS (lv_sub hl [1, 2, 3, 4, 0] rfl)
        · have hw := hw.2 c135
          refine lv_aload_n hx hb dX5_divide_138 rfl (lv_at hl 0 rfl) ?_
          refine va_get (D := D) (ci := 6) (v := .ref (a 2)) (C := RX5) (T := TX5) (N := 24) hx hb hts iRX5 hown hK hP 0 rfl rfl 2 (by decide) (hts (.fieldLink RX5 13 "LeadlightModel" "of" "[I") (List.mem_of_getElem? (i := 3) rfl)) (fun _ h9 => h9) rfl dX5_divide_139 ?_
          refine lv_iload hx hb dX5_divide_142 (lv_at hl 4 rfl) ?_
          refine lv_iload hx hb dX5_divide_144 (lv_at hl 3 rfl) ?_
          obtain ⟨hi_146, hw⟩ := hw
          refine st_i hx hb hK hP hD hS 1 0 rfl rfl hi_146 dX5_divide_146 (fun v_of_t146 ev_of_t146 H locs hP hD hS => ?_)
          have hw := hw v_of_t146 ev_of_t146
          have hP : va_P D vwCl (W_X5_divide h a cI cJ cZ v_thrown_j110 v_made_j110 v_of_t146 v_many_j110 v_colour v_isOriginal v_things v_history v_heart v_width v_set_j110 v_seen_j110 v_pile_j110 v_sheets v_covered) H := hP
          have hD : va_D A (W_X5_divide h a cI cJ cZ v_thrown_j110 v_made_j110 v_of_t146 v_many_j110 v_colour v_isOriginal v_things v_history v_heart v_width v_set_j110 v_seen_j110 v_pile_j110 v_sheets v_covered) := hD
          refine lv_aload_n hx hb dX5_divide_147 rfl (lv_at hl 0 rfl) ?_
          refine va_get (D := D) (ci := 6) (v := .ref (a 3)) (C := RX5) (T := TX5) (N := 24) hx hb hts iRX5 hown hK hP 0 rfl rfl 3 (by decide) (hts (.fieldLink RX5 17 "LeadlightModel" "many" "[I") (List.mem_of_getElem? (i := 4) rfl)) (fun _ h9 => h9) rfl dX5_divide_148 ?_
          refine lv_iload hx hb dX5_divide_151 (lv_at hl 3 rfl) ?_
          refine lv_dup2_11 hx hb dX5_divide_153 rfl rfl ?_
          obtain ⟨hi_154, hw⟩ := hw
          refine va_iald hx hb hK hP 2 0 rfl rfl hi_154 dX5_divide_154 ?_
          refine lv_iconst (v := 1) hx hb dX5_divide_155 (by decide) ?_
          refine lv_iadd hx hb dX5_divide_156 ?_
          obtain ⟨hi_157, hw⟩ := hw
          refine st_i hx hb hK hP hD hS 2 0 rfl rfl hi_157 dX5_divide_157 (fun v_many_t157 ev_many_t157 H locs hP hD hS => ?_)
          have hw := hw v_many_t157 ev_many_t157
          have hP : va_P D vwCl (W_X5_divide h a cI cJ cZ v_thrown_j110 v_made_j110 v_of_t146 v_many_t157 v_colour v_isOriginal v_things v_history v_heart v_width v_set_j110 v_seen_j110 v_pile_j110 v_sheets v_covered) H := hP
          have hD : va_D A (W_X5_divide h a cI cJ cZ v_thrown_j110 v_made_j110 v_of_t146 v_many_t157 v_colour v_isOriginal v_things v_history v_heart v_width v_set_j110 v_seen_j110 v_pile_j110 v_sheets v_covered) := hD
          refine lv_aload_n hx hb dX5_divide_158 rfl (lv_at hl 0 rfl) ?_
          refine va_get (D := D) (ci := 6) (v := .ref (a 3)) (C := RX5) (T := TX5) (N := 24) hx hb hts iRX5 hown hK hP 0 rfl rfl 3 (by decide) (hts (.fieldLink RX5 17 "LeadlightModel" "many" "[I") (List.mem_of_getElem? (i := 4) rfl)) (fun _ h9 => h9) rfl dX5_divide_159 ?_
          refine lv_iload_n hx hb dX5_divide_162 rfl (lv_at hl 1 rfl) ?_
          refine lv_dup2_11 hx hb dX5_divide_163 rfl rfl ?_
          obtain ⟨hi_164, hw⟩ := hw
          refine va_iald hx hb hK hP 2 0 rfl rfl hi_164 dX5_divide_164 ?_
          refine lv_iconst (v := 1) hx hb dX5_divide_165 (by decide) ?_
          refine lv_isub hx hb dX5_divide_166 ?_
          obtain ⟨hi_167, hw⟩ := hw
          refine st_i hx hb hK hP hD hS 2 0 rfl rfl hi_167 dX5_divide_167 (fun v_many_t167 ev_many_t167 H locs hP hD hS => ?_)
          have hw := hw v_many_t167 ev_many_t167
          have hP : va_P D vwCl (W_X5_divide h a cI cJ cZ v_thrown_j110 v_made_j110 v_of_t146 v_many_t167 v_colour v_isOriginal v_things v_history v_heart v_width v_set_j110 v_seen_j110 v_pile_j110 v_sheets v_covered) H := hP
          have hD : va_D A (W_X5_divide h a cI cJ cZ v_thrown_j110 v_made_j110 v_of_t146 v_many_t167 v_colour v_isOriginal v_things v_history v_heart v_width v_set_j110 v_seen_j110 v_pile_j110 v_sheets v_covered) := hD
          refine lv_iinc (v := (x7_j110 + 1)) (lv' := [(7, .int (x7_j110 + 1)), (0, .ref h), (1, .int p1), (2, .int p2), (6, .int x6_j110)]) hx hb dX5_divide_168 hl (k := 4) rfl rfl (by decide) rfl (fun ls hl => ?_)
          refine lv_goto (tgt := 110) hx hb dX5_divide_171 (by decide) ?_
          exact ih110 (x6_j110, (x7_j110 + 1), v_thrown_j110, v_made_j110, v_of_t146, v_many_t167, v_set_j110, v_seen_j110, v_pile_j110) hw _ _ ls hP hD hS (lv_sub hl [1, 2, 3, 4, 0] rfl)
  have J83 : ∀ (s1_j83 : Int32) (v_set_j83 : Nat → Int32) (v_seen_j83 : Nat → Int32) (v_pile_j83 : Nat → Int32) , wp_X5_divide_83 v_thrown v_made v_of v_many v_colour v_isOriginal v_things v_history v_set v_seen v_pile p1 p2 post s1_j83 v_set_j83 v_seen_j83 v_pile_j83 → ∀ (H : Heap) (locs : List Loc) (ls : Array Slot), va_P D vwCl (W_X5_divide h a cI cJ cZ v_thrown v_made v_of v_many v_colour v_isOriginal v_things v_history v_heart v_width v_set_j83 v_seen_j83 v_pile_j83 v_sheets v_covered) H → va_D A (W_X5_divide h a cI cJ cZ v_thrown v_made v_of v_many v_colour v_isOriginal v_things v_history v_heart v_width v_set_j83 v_seen_j83 v_pile_j83 v_sheets v_covered) → va_S A s.heap H locs → lv_has ls 8 [(0, .ref h), (1, .int p1), (2, .int p2)] → W p l e rm_X5_divide s m args below meth c H locs 0 0 QQ (F0 m 83 ls [.int s1_j83, .ref h]) := by
    intro s1_j83 v_set_j83 v_seen_j83 v_pile_j83 hw H locs ls hP hD hS hl
    unfold wp_X5_divide_83 at hw
    refine af_i (X := (W_X5_divide h a cI cJ cZ v_thrown v_made v_of v_many v_colour v_isOriginal v_things v_history v_heart v_width v_set_j83 v_seen_j83 v_pile_j83 v_sheets v_covered)) (pl := []) (cx := (W_X5_goesWell h a cI cJ cZ v_thrown v_made v_heart v_width v_sheets v_covered)) (w1 := fun (u : Int32) => (W_X5_goesWell h a cI cJ cZ u v_made v_heart v_width v_sheets v_covered)) (X' := fun (u : Int32) => (W_X5_divide h a cI cJ cZ u v_made v_of v_many v_colour v_isOriginal v_things v_history v_heart v_width v_set_j83 v_seen_j83 v_pile_j83 v_sheets v_covered)) hP hD hS hA [0] [1, 2, 3, 4, 5, 6, 7, 8, 9] [9, 0, 1, 2, 3, 4, 5, 6, 7, 8] rfl rfl (by decide) (by decide) (fun u => rfl) (by decide) (va_runV (As := [.int s1_j83]) (rest := []) ⟨hx, hb, hml, hown, hts⟩ (c_X5_goesWell l D cI cJ cZ cO h a H.size v_thrown v_made v_heart v_width v_sheets v_covered s1_j83 _ hw) (cwV 1 hts gX5_divide_X5_goesWell rfl rfl rfl (by decide +kernel) ⟨Nat.le_of_ble_eq_true rfl, Nat.le_of_ble_eq_true rfl⟩) (preV (X := (W_X5_divide h a cI cJ cZ v_thrown v_made v_of v_many v_colour v_isOriginal v_things v_history v_heart v_width v_set_j83 v_seen_j83 v_pile_j83 v_sheets v_covered)) (pl := []) (cx := (W_X5_goesWell h a cI cJ cZ v_thrown v_made v_heart v_width v_sheets v_covered)) (qb := 0) (ci := 6) hK hE hP hD [0] (by decide) rfl rfl rfl) rfl rfl hl.1 rfl (lv_room (Nat.le_of_ble_eq_true rfl)) dX5_divide_83 ⟨Nat.zero_le _, Nat.zero_le _⟩) (fun r_83 v_thrown_c83 H locs hw hP hD hS => ?_)
    try dsimp only at hw
    have hP : va_P D vwCl (W_X5_divide h a cI cJ cZ v_thrown_c83 v_made v_of v_many v_colour v_isOriginal v_things v_history v_heart v_width v_set_j83 v_seen_j83 v_pile_j83 v_sheets v_covered) H := hP
    have hD : va_D A (W_X5_divide h a cI cJ cZ v_thrown_c83 v_made v_of v_many v_colour v_isOriginal v_things v_history v_heart v_width v_set_j83 v_seen_j83 v_pile_j83 v_sheets v_covered) := hD
    refine lv_if_ne (tgt := 91) hx hb dX5_divide_86 (by decide) (fun c86 => ?_) (fun c86 => ?_)
    · have hw := hw.2 c86
      refine lv_aload_n hx hb dX5_divide_91 rfl (lv_at hl 0 rfl) ?_
      refine va_get (D := D) (ci := 6) (v := .int v_made) (C := RX5) (T := TX5) (N := 24) hx hb hts iRX5 hown hK hP 0 rfl rfl 1 (by decide) (hts (.fieldLink RX5 7 "LeadlightModel" "made" "I") (List.mem_of_getElem? (i := 2) rfl)) (fun _ h9 => h9) rfl dX5_divide_92 ?_
      refine lv_istore (lv' := [(6, .int v_made), (0, .ref h), (1, .int p1), (2, .int p2)]) hx hb dX5_divide_95 hl (by decide) rfl (fun ls hl => ?_)
      refine lv_aload_n hx hb dX5_divide_97 rfl (lv_at hl 1 rfl) ?_
      refine lv_dup hx hb dX5_divide_98 rfl ?_
      refine va_get (D := D) (ci := 6) (v := .int v_made) (C := RX5) (T := TX5) (N := 24) hx hb hts iRX5 hown hK hP 0 rfl rfl 1 (by decide) (hts (.fieldLink RX5 7 "LeadlightModel" "made" "I") (List.mem_of_getElem? (i := 2) rfl)) (fun _ h9 => h9) rfl dX5_divide_99 ?_
      refine lv_iconst (v := 1) hx hb dX5_divide_102 (by decide) ?_
      refine lv_iadd hx hb dX5_divide_103 ?_
      refine lv_topi (fun v_made_t104 ev_made_t104 => ?_)
      have hw := hw v_made_t104 ev_made_t104
      refine va_put (D := D) (ci := 6) (v := .int v_made_t104) (ty := .int) (C := RX5) (T := TX5) (N := 24) hx hb hts iRX5 tyX5 tyX5_ok nmX5 hown hK hP hD hS 0 rfl rfl 1 (by decide) (hts (.fieldLink RX5 7 "LeadlightModel" "made" "I") (List.mem_of_getElem? (i := 2) rfl)) (fun _ h9 => h9) rfl (by decide +kernel) rfl rfl (Nat.le_of_ble_eq_true rfl) dX5_divide_104 (fun H locs hP hD hS => ?_)
      have hP : va_P D vwCl (W_X5_divide h a cI cJ cZ v_thrown_c83 v_made_t104 v_of v_many v_colour v_isOriginal v_things v_history v_heart v_width v_set_j83 v_seen_j83 v_pile_j83 v_sheets v_covered) H := hP
      have hD : va_D A (W_X5_divide h a cI cJ cZ v_thrown_c83 v_made_t104 v_of v_many v_colour v_isOriginal v_things v_history v_heart v_width v_set_j83 v_seen_j83 v_pile_j83 v_sheets v_covered) := hD
      refine lv_iconst (v := 0) hx hb dX5_divide_107 (by decide) ?_
      refine lv_istore (lv' := [(7, .int 0), (6, .int v_made), (0, .ref h), (1, .int p1), (2, .int p2)]) hx hb dX5_divide_108 hl (by decide) rfl (fun ls hl => ?_)
      exact L110 (v_made, 0, v_thrown_c83, v_made_t104, v_of, v_many, v_set_j83, v_seen_j83, v_pile_j83) hw _ _ ls hP hD hS (lv_sub hl [2, 3, 4, 1, 0] rfl)
    · have hw := hw.1 c86
      refine lv_iconst (v := 0) hx hb dX5_divide_89 (by decide) ?_
      exact RT 0 (v_thrown_c83, v_made, v_of, v_many, v_colour, v_things, v_history, v_set_j83, v_seen_j83, v_pile_j83) _ _ _ _ dX5_divide_90 hw hP hD hS
  have J53 : ∀ (s0_j53 : Int32) (x3_j53 : Int32) (x4_j53 : Int32) (v_set_j53 : Nat → Int32) (v_seen_j53 : Nat → Int32) (v_pile_j53 : Nat → Int32) , wp_X5_divide_53 v_thrown v_made v_of v_many v_colour v_isOriginal v_things v_history v_set v_seen v_pile p1 p2 post s0_j53 x3_j53 x4_j53 v_set_j53 v_seen_j53 v_pile_j53 → ∀ (H : Heap) (locs : List Loc) (ls : Array Slot), va_P D vwCl (W_X5_divide h a cI cJ cZ v_thrown v_made v_of v_many v_colour v_isOriginal v_things v_history v_heart v_width v_set_j53 v_seen_j53 v_pile_j53 v_sheets v_covered) H → va_D A (W_X5_divide h a cI cJ cZ v_thrown v_made v_of v_many v_colour v_isOriginal v_things v_history v_heart v_width v_set_j53 v_seen_j53 v_pile_j53 v_sheets v_covered) → va_S A s.heap H locs → lv_has ls 8 [(0, .ref h), (1, .int p1), (2, .int p2), (3, .int x3_j53), (4, .int x4_j53)] → W p l e rm_X5_divide s m args below meth c H locs 0 0 QQ (F0 m 53 ls [.int s0_j53]) := by
    intro s0_j53 x3_j53 x4_j53 v_set_j53 v_seen_j53 v_pile_j53 hw H locs ls hP hD hS hl
    unfold wp_X5_divide_53 at hw
    refine lv_istore (lv' := [(5, .int s0_j53), (0, .ref h), (1, .int p1), (2, .int p2), (3, .int x3_j53), (4, .int x4_j53)]) hx hb dX5_divide_53 hl (by decide) rfl (fun ls hl => ?_)
    refine lv_aload_n hx hb dX5_divide_55 rfl (lv_at hl 1 rfl) ?_
    refine lv_iload_n hx hb dX5_divide_56 rfl (lv_at hl 4 rfl) ?_
    refine lv_if_ne (tgt := 64) hx hb dX5_divide_57 (by decide) (fun c57 => ?_) (fun c57 => ?_)
    · have hw := hw.2 c57
      refine lv_iload hx hb dX5_divide_64 (lv_at hl 5 rfl) ?_
      refine lv_if_ne (tgt := 73) hx hb dX5_divide_66 (by decide) (fun c66 => ?_) (fun c66 => ?_)
      · have hw := hw.2 c66
        refine lv_iload hx hb dX5_divide_73 (lv_at hl 0 rfl) ?_
        refine lv_if_eq (tgt := 82) hx hb dX5_divide_75 (by decide) (fun c75 => ?_) (fun c75 => ?_)
        · have hw := hw.1 c75
          refine lv_iconst (v := 3) hx hb dX5_divide_82 (by decide) ?_
          exact J83 3 v_set_j53 v_seen_j53 v_pile_j53 hw _ _ ls hP hD hS (lv_sub hl [1, 2, 3] rfl)
        · have hw := hw.2 c75
          refine lv_iconst (v := 0) hx hb dX5_divide_78 (by decide) ?_
          refine lv_goto (tgt := 83) hx hb dX5_divide_79 (by decide) ?_
          exact J83 0 v_set_j53 v_seen_j53 v_pile_j53 hw _ _ ls hP hD hS (lv_sub hl [1, 2, 3] rfl)
      · have hw := hw.1 c66
        refine lv_iconst (v := 2) hx hb dX5_divide_69 (by decide) ?_
        refine lv_goto (tgt := 83) hx hb dX5_divide_70 (by decide) ?_
        exact J83 2 v_set_j53 v_seen_j53 v_pile_j53 hw _ _ ls hP hD hS (lv_sub hl [1, 2, 3] rfl)
    · have hw := hw.1 c57
      refine lv_iconst (v := 1) hx hb dX5_divide_60 (by decide) ?_
      refine lv_goto (tgt := 83) hx hb dX5_divide_61 (by decide) ?_
      exact J83 1 v_set_j53 v_seen_j53 v_pile_j53 hw _ _ ls hP hD hS (lv_sub hl [1, 2, 3] rfl)
  refine lv_aload_n hx hb dX5_divide_0 rfl (lv_at hl 0 rfl) ?_
  refine lv_iload_n hx hb dX5_divide_1 rfl (lv_at hl 1 rfl) ?_
  refine af_i (X := (W_X5_divide h a cI cJ cZ v_thrown v_made v_of v_many v_colour v_isOriginal v_things v_history v_heart v_width v_set v_seen v_pile v_sheets v_covered)) (pl := []) (cx := (W_X5_isPiece h a cI cJ cZ v_thrown v_made v_many v_heart v_width v_sheets v_covered)) (w1 := fun (u : Unit) => (W_X5_isPiece h a cI cJ cZ v_thrown v_made v_many v_heart v_width v_sheets v_covered)) (X' := fun (u : Unit) => (W_X5_divide h a cI cJ cZ v_thrown v_made v_of v_many v_colour v_isOriginal v_things v_history v_heart v_width v_set v_seen v_pile v_sheets v_covered)) hP hD hS hA [0, 2] [1, 3, 4, 5, 6, 7, 8, 9] [8, 0, 9, 1, 2, 3, 4, 5, 6, 7] rfl rfl (by decide) (by decide) (fun u => rfl) (by decide) (va_runV (As := [.int p1]) (rest := []) ⟨hx, hb, hml, hown, hts⟩ (c_X5_isPiece l D cI cJ cZ cO h a H.size v_thrown v_made v_many v_heart v_width v_sheets v_covered p1 _ hw) (cwV 1 hts gX5_divide_X5_isPiece rfl rfl rfl (by decide +kernel) ⟨Nat.le_of_ble_eq_true rfl, Nat.le_of_ble_eq_true rfl⟩) (preV (X := (W_X5_divide h a cI cJ cZ v_thrown v_made v_of v_many v_colour v_isOriginal v_things v_history v_heart v_width v_set v_seen v_pile v_sheets v_covered)) (pl := []) (cx := (W_X5_isPiece h a cI cJ cZ v_thrown v_made v_many v_heart v_width v_sheets v_covered)) (qb := 0) (ci := 6) hK hE hP hD [0, 2] (by decide) rfl rfl rfl) rfl rfl hl.1 rfl (lv_room (Nat.le_of_ble_eq_true rfl)) dX5_divide_2 ⟨Nat.zero_le _, Nat.zero_le _⟩) (fun r_2 _ H locs hw hP hD hS => ?_)
  try dsimp only at hw
  have hP : va_P D vwCl (W_X5_divide h a cI cJ cZ v_thrown v_made v_of v_many v_colour v_isOriginal v_things v_history v_heart v_width v_set v_seen v_pile v_sheets v_covered) H := hP
  have hD : va_D A (W_X5_divide h a cI cJ cZ v_thrown v_made v_of v_many v_colour v_isOriginal v_things v_history v_heart v_width v_set v_seen v_pile v_sheets v_covered) := hD
  refine lv_istore_n (lv' := [(3, .int r_2), (0, .ref h), (1, .int p1), (2, .int p2)]) hx hb dX5_divide_5 rfl hl (by decide) rfl (fun ls hl => ?_)
  refine lv_iload_n hx hb dX5_divide_6 rfl (lv_at hl 3 rfl) ?_
  refine af_i (X := (W_X5_divide h a cI cJ cZ v_thrown v_made v_of v_many v_colour v_isOriginal v_things v_history v_heart v_width v_set v_seen v_pile v_sheets v_covered)) (pl := []) (cx := ([] : va_W)) (w1 := fun (u : Unit) => ([] : va_W)) (X' := fun (u : Unit) => (W_X5_divide h a cI cJ cZ v_thrown v_made v_of v_many v_colour v_isOriginal v_things v_history v_heart v_width v_set v_seen v_pile v_sheets v_covered)) hP hD hS hA [] [0, 1, 2, 3, 4, 5, 6, 7, 8, 9] [0, 1, 2, 3, 4, 5, 6, 7, 8, 9] rfl rfl (by decide) (by decide) (fun u => rfl) (by decide) (va_runS (As := [.int p2]) (rest := []) ⟨hx, hb, hml, hown, hts⟩ (c_X5_isLine l D cI cJ cZ cO H.size p2 _ hw) (va_cwS 1 hts gX5_divide_X5_isLine rfl rfl rfl (by decide +kernel) ⟨Nat.le_of_ble_eq_true rfl, Nat.le_of_ble_eq_true rfl⟩) (preS (X := (W_X5_divide h a cI cJ cZ v_thrown v_made v_of v_many v_colour v_isOriginal v_things v_history v_heart v_width v_set v_seen v_pile v_sheets v_covered)) (pl := []) (cx := ([] : va_W)) hK hE hP hD [] (by decide) rfl) rfl rfl hl.1 rfl (lv_room (Nat.le_of_ble_eq_true rfl)) dX5_divide_7 ⟨Nat.zero_le _, Nat.zero_le _⟩) (fun r_7 _ H locs hw hP hD hS => ?_)
  try dsimp only at hw
  have hP : va_P D vwCl (W_X5_divide h a cI cJ cZ v_thrown v_made v_of v_many v_colour v_isOriginal v_things v_history v_heart v_width v_set v_seen v_pile v_sheets v_covered) H := hP
  have hD : va_D A (W_X5_divide h a cI cJ cZ v_thrown v_made v_of v_many v_colour v_isOriginal v_things v_history v_heart v_width v_set v_seen v_pile v_sheets v_covered) := hD
  refine lv_istore (lv' := [(4, .int r_7), (3, .int r_2), (0, .ref h), (1, .int p1), (2, .int p2)]) hx hb dX5_divide_10 hl (by decide) rfl (fun ls hl => ?_)
  refine lv_iload_n hx hb dX5_divide_12 rfl (lv_at hl 1 rfl) ?_
  refine lv_if_eq (tgt := 52) hx hb dX5_divide_13 (by decide) (fun c13 => ?_) (fun c13 => ?_)
  · have hw := hw.1 c13
    refine lv_iconst (v := 0) hx hb dX5_divide_52 (by decide) ?_
    exact J53 0 r_2 r_7 v_set v_seen v_pile hw _ _ ls hP hD hS (lv_sub hl [2, 3, 4, 1, 0] rfl)
  · have hw := hw.2 c13
    refine lv_iload hx hb dX5_divide_16 (lv_at hl 0 rfl) ?_
    refine lv_if_eq (tgt := 52) hx hb dX5_divide_18 (by decide) (fun c18 => ?_) (fun c18 => ?_)
    · have hw := hw.1 c18
      refine lv_iconst (v := 0) hx hb dX5_divide_52 (by decide) ?_
      exact J53 0 r_2 r_7 v_set v_seen v_pile hw _ _ ls hP hD hS (lv_sub hl [2, 3, 4, 1, 0] rfl)
    · have hw := hw.2 c18
      refine lv_aload_n hx hb dX5_divide_21 rfl (lv_at hl 2 rfl) ?_
      refine va_get (D := D) (ci := 6) (v := .ref (a 5)) (C := RX5) (T := TX5) (N := 24) hx hb hts iRX5 hown hK hP 0 rfl rfl 5 (by decide) (hts (.fieldLink RX5 23 "LeadlightModel" "isOriginal" "[Z") (List.mem_of_getElem? (i := 1) rfl)) (fun _ h9 => h9) rfl dX5_divide_22 ?_
      refine lv_iload_n hx hb dX5_divide_25 rfl (lv_at hl 3 rfl) ?_
      obtain ⟨hi_26, hw⟩ := hw
      refine va_zald hx hb hK hP 4 2 rfl rfl hi_26 dX5_divide_26 ?_
      refine lv_if_ne (tgt := 52) hx hb dX5_divide_27 (by decide) (fun c27 => ?_) (fun c27 => ?_)
      · have hw := hw.2 c27
        refine lv_iconst (v := 0) hx hb dX5_divide_52 (by decide) ?_
        exact J53 0 r_2 r_7 v_set v_seen v_pile hw _ _ ls hP hD hS (lv_sub hl [2, 3, 4, 1, 0] rfl)
      · have hw := hw.1 c27
        refine lv_aload_n hx hb dX5_divide_30 rfl (lv_at hl 2 rfl) ?_
        refine va_get (D := D) (ci := 6) (v := .int v_made) (C := RX5) (T := TX5) (N := 24) hx hb hts iRX5 hown hK hP 0 rfl rfl 1 (by decide) (hts (.fieldLink RX5 7 "LeadlightModel" "made" "I") (List.mem_of_getElem? (i := 2) rfl)) (fun _ h9 => h9) rfl dX5_divide_31 ?_
        refine lv_bipush (v := 60) hx hb dX5_divide_34 (by decide) ?_
        refine lv_icmp_ge (tgt := 52) hx hb dX5_divide_36 (by decide) (fun c36 => ?_) (fun c36 => ?_)
        · have hw := hw.1 c36
          refine lv_iconst (v := 0) hx hb dX5_divide_52 (by decide) ?_
          exact J53 0 r_2 r_7 v_set v_seen v_pile hw _ _ ls hP hD hS (lv_sub hl [2, 3, 4, 1, 0] rfl)
        · have hw := hw.2 c36
          refine lv_aload_n hx hb dX5_divide_39 rfl (lv_at hl 2 rfl) ?_
          refine lv_iload_n hx hb dX5_divide_40 rfl (lv_at hl 3 rfl) ?_
          refine lv_iload_n hx hb dX5_divide_41 rfl (lv_at hl 4 rfl) ?_
          refine af_i (X := (W_X5_divide h a cI cJ cZ v_thrown v_made v_of v_many v_colour v_isOriginal v_things v_history v_heart v_width v_set v_seen v_pile v_sheets v_covered)) (pl := []) (cx := (W_X5_isTwo h a cI cJ cZ v_thrown v_made v_of v_heart v_width v_set v_seen v_pile v_sheets v_covered)) (w1 := fun (u : (Nat → Int32) × (Nat → Int32) × (Nat → Int32)) => (W_X5_isTwo h a cI cJ cZ v_thrown v_made v_of v_heart v_width u.1 u.2.1 u.2.2 v_sheets v_covered)) (X' := fun (u : (Nat → Int32) × (Nat → Int32) × (Nat → Int32)) => (W_X5_divide h a cI cJ cZ v_thrown v_made v_of v_many v_colour v_isOriginal v_things v_history v_heart v_width u.1 u.2.1 u.2.2 v_sheets v_covered)) hP hD hS hA [0, 1, 7, 8, 9] [2, 3, 4, 5, 6] [5, 6, 0, 1, 2, 3, 4, 7, 8, 9] rfl rfl (by decide) (by decide) (fun u => rfl) (by decide) (va_runV (As := [.int p1, .int p2]) (rest := []) ⟨hx, hb, hml, hown, hts⟩ (c_X5_isTwo l D cI cJ cZ cO h a H.size v_thrown v_made v_of v_heart v_width v_set v_seen v_pile v_sheets v_covered p1 p2 _ hw) (cwV 2 hts gX5_divide_X5_isTwo rfl rfl rfl (by decide +kernel) ⟨Nat.le_of_ble_eq_true rfl, Nat.le_of_ble_eq_true rfl⟩) (preV (X := (W_X5_divide h a cI cJ cZ v_thrown v_made v_of v_many v_colour v_isOriginal v_things v_history v_heart v_width v_set v_seen v_pile v_sheets v_covered)) (pl := []) (cx := (W_X5_isTwo h a cI cJ cZ v_thrown v_made v_of v_heart v_width v_set v_seen v_pile v_sheets v_covered)) (qb := 0) (ci := 6) hK hE hP hD [0, 1, 7, 8, 9] (by decide) rfl rfl rfl) rfl rfl hl.1 rfl (lv_room (Nat.le_of_ble_eq_true rfl)) dX5_divide_42 ⟨Nat.zero_le _, Nat.zero_le _⟩) (fun r_42 u H locs hw hP hD hS => ?_)
          obtain ⟨v_set_c42, v_seen_c42, v_pile_c42⟩ := u
          try dsimp only at hw
          have hP : va_P D vwCl (W_X5_divide h a cI cJ cZ v_thrown v_made v_of v_many v_colour v_isOriginal v_things v_history v_heart v_width v_set_c42 v_seen_c42 v_pile_c42 v_sheets v_covered) H := hP
          have hD : va_D A (W_X5_divide h a cI cJ cZ v_thrown v_made v_of v_many v_colour v_isOriginal v_things v_history v_heart v_width v_set_c42 v_seen_c42 v_pile_c42 v_sheets v_covered) := hD
          refine lv_if_eq (tgt := 52) hx hb dX5_divide_45 (by decide) (fun c45 => ?_) (fun c45 => ?_)
          · have hw := hw.1 c45
            refine lv_iconst (v := 0) hx hb dX5_divide_52 (by decide) ?_
            exact J53 0 r_2 r_7 v_set_c42 v_seen_c42 v_pile_c42 hw _ _ ls hP hD hS (lv_sub hl [2, 3, 4, 1, 0] rfl)
          · have hw := hw.2 c45
            refine lv_iconst (v := 1) hx hb dX5_divide_48 (by decide) ?_
            refine lv_goto (tgt := 53) hx hb dX5_divide_49 (by decide) ?_
            exact J53 1 r_2 r_7 v_set_c42 v_seen_c42 v_pile_c42 hw _ _ ls hP hD hS (lv_sub hl [2, 3, 4, 1, 0] rfl)
abbrev rm_X5_isBeside : Room := { frames := 2, cells := 0, slots := 0, locals := 45 }
abbrev W_X5_isBeside (h : Nat) (a : Nat → Nat) (cI cJ cZ : ClassId) (v_thrown : Int32) (v_made : Int32) (v_of : Nat → Int32) (v_heart : Int32) (v_width : Int32) (v_sheets : Int32) (v_covered : Int32) : va_W := [(h, .inr (6, [.int v_thrown, .int v_made, .ref (a 2), .ref (a 3), .ref (a 4), .ref (a 5), .ref (a 6), .ref (a 7), .ref (a 8), .ref (a 9), .ref (a 10), .ref (a 11), .int v_heart, .int v_width, .ref (a 14), .ref (a 15), .ref (a 16), .ref (a 17), .ref (a 18), .ref (a 19), .ref (a 20), .ref (a 21), .int v_sheets, .int v_covered])), ((a 2), .inl (cI, 256, .inl v_of))]
def wp_X5_isBeside_45 (v_of : Nat → Int32) (p1 : Int32) (p2 : Int32) (post : Int32 → Prop) (K5 : Int32 → Int32 → Prop) (s0_j45 : Int32) (x4_j45 : Int32) : Prop := K5 s0_j45 (x4_j45 + 1)
def wp_X5_isBeside_5 (v_of : Nat → Int32) (p1 : Int32) (p2 : Int32) (post : Int32 → Prop) (K5 : Int32 → Int32 → Prop) (x3_j5 : Int32) (x4_j5 : Int32) : Prop := (4 ≤ x4_j5 → (x3_j5 = 0 ∨ x3_j5 = 1) ∧ post x3_j5) ∧ (¬ 4 ≤ x4_j5 → wp_X5_beside p1 x4_j5 (fun r_14 => (x3_j5 = 0 → (r_14 = (-1) → wp_X5_isBeside_45 v_of p1 p2 post K5 0 x4_j5) ∧ (¬ r_14 = (-1) → vp_in r_14 256 ∧ (((v_of r_14.toNatClampNeg) = p2 → wp_X5_isBeside_45 v_of p1 p2 post K5 1 x4_j5) ∧ (¬ (v_of r_14.toNatClampNeg) = p2 → wp_X5_isBeside_45 v_of p1 p2 post K5 0 x4_j5)))) ∧ (¬ x3_j5 = 0 → wp_X5_isBeside_45 v_of p1 p2 post K5 1 x4_j5)))
def lF_X5_isBeside_5 (v_of : Nat → Int32) (p1 : Int32) (p2 : Int32) (post : Int32 → Prop) : ((Int32 × Int32) → Prop) → (Int32 × Int32) → Prop := fun K s => wp_X5_isBeside_5 v_of p1 p2 post (fun b0 b1 => K (b0, b1)) s.1 s.2
def wp_X5_isBeside (v_of : Nat → Int32) (p1 : Int32) (p2 : Int32) (post : Int32 → Prop) : Prop := lp (lF_X5_isBeside_5 v_of p1 p2 post) (0, 0)
set_option maxHeartbeats 4000000 in
set_option maxRecDepth 100000 in
theorem c_X5_isBeside (l : Launch) (D : va_G) (cI cJ cZ cO : ClassId) (h : Nat) (a : Nat → Nat) (sz : Nat) (v_thrown : Int32) (v_made : Int32) (v_of : Nat → Int32) (v_heart : Int32) (v_width : Int32) (v_sheets : Int32) (v_covered : Int32) (p1 : Int32) (p2 : Int32) (post : Int32 → Prop) (hw : wp_X5_isBeside v_of p1 p2 post) : Met l yX5_isBeside wsX5_isBeside rm_X5_isBeside (va_Pc [.ref h, .int p1, .int p2] (PRE D cI cJ cZ cO (W_X5_isBeside h a cI cJ cZ v_thrown v_made v_of v_heart v_width v_sheets v_covered) sz)) (va_Qi (fun r (_ : Unit) => post r) (fun u t => POST D (va_A (W_X5_isBeside h a cI cJ cZ v_thrown v_made v_of v_heart v_width v_sheets v_covered) sz) (W_X5_isBeside h a cI cJ cZ v_thrown v_made v_of v_heart v_width v_sheets v_covered) t) (va_A (W_X5_isBeside h a cI cJ cZ v_thrown v_made v_of v_heart v_width v_sheets v_covered) sz)) 0 0 (va_A (W_X5_isBeside h a cI cJ cZ v_thrown v_made v_of v_heart v_width v_sheets v_covered) sz) := by
  refine met_go (cc := cX5_isBeside) (maxL := 6) (ret := some .boolean) RX5 rfl (by decide) rfl (Nat.le_of_ble_eq_true rfl) ?_
  intro p e s m args below meth c ls hx hb hr hts hown hlocks hin hml hsz hP hK hE hD hA hS hl
  have iRX5 : ∀ w ∈ u_ws RX5 TX5 24, w ∈ wsX5_isBeside := mem_seg 9 24 rfl
  generalize va_A (W_X5_isBeside h a cI cJ cZ v_thrown v_made v_of v_heart v_width v_sheets v_covered) sz = A at hD hA hS ⊢
  have RT : ∀ (v : Int32) (u : Unit) (H : Heap) (locs : List Loc) (pc : Nat) (ls : Array Slot), decode cX5_isBeside pc = .ok (.ireturn, 1) → (v = 0 ∨ v = 1) → post v → va_P D vwCl (W_X5_isBeside h a cI cJ cZ v_thrown v_made v_of v_heart v_width v_sheets v_covered) H → va_D A (W_X5_isBeside h a cI cJ cZ v_thrown v_made v_of v_heart v_width v_sheets v_covered) → va_S A s.heap H locs → W p l e rm_X5_isBeside s m args below meth c H locs 0 0 (MQ below (va_Qi (fun r (_ : Unit) => post r) (fun u t => POST D A (W_X5_isBeside h a cI cJ cZ v_thrown v_made v_of v_heart v_width v_sheets v_covered) t) A) args s 0 0 A) (F0 m pc ls [.int v]) := fun v u H locs pc ls d g0 g1 g2 g3 g4 => rt_z (Wf := fun u => (W_X5_isBeside h a cI cJ cZ v_thrown v_made v_of v_heart v_width v_sheets v_covered)) u hx hb hr hlocks g0 g1 g2 g3 g4 d
  generalize (MQ below (va_Qi (fun r (_ : Unit) => post r) (fun u t => POST D A (W_X5_isBeside h a cI cJ cZ v_thrown v_made v_of v_heart v_width v_sheets v_covered) t) A) args s 0 0 A) = QQ at RT ⊢
  have hl : lv_has ls 6 [(0, .ref h), (1, .int p1), (2, .int p2)] := hl
  have hP : va_P D vwCl (W_X5_isBeside h a cI cJ cZ v_thrown v_made v_of v_heart v_width v_sheets v_covered) s.heap := hP
  unfold wp_X5_isBeside at hw
  suffices GO : ∀ (H : Heap) (locs : List Loc), va_P D vwCl (W_X5_isBeside h a cI cJ cZ v_thrown v_made v_of v_heart v_width v_sheets v_covered) H → va_S A s.heap H locs → W p l e rm_X5_isBeside s m args below meth c H locs 0 0 QQ (F0 m 0 ls []) from GO _ _ hP hS
  clear hsz hP hS
  intro H locs hP hS
  have L5 : ∀ s0 : (Int32 × Int32), lp (lF_X5_isBeside_5 v_of p1 p2 post) s0 → ∀ (H : Heap) (locs : List Loc) (ls : Array Slot), va_P D vwCl (W_X5_isBeside h a cI cJ cZ v_thrown v_made v_of v_heart v_width v_sheets v_covered) H → va_D A (W_X5_isBeside h a cI cJ cZ v_thrown v_made v_of v_heart v_width v_sheets v_covered) → va_S A s.heap H locs → lv_has ls 6 [(0, .ref h), (1, .int p1), (2, .int p2), (3, .int s0.1), (4, .int s0.2)] → W p l e rm_X5_isBeside s m args below meth c H locs 0 0 QQ (F0 m 5 ls []) := by
    refine lp_elim (fun K5 ih5 s0 hw => ?_)
    obtain ⟨x3_j5, x4_j5⟩ := s0
    intro H locs ls hP hD hS hl
    have hw : wp_X5_isBeside_5 v_of p1 p2 post (fun b0 b1 => K5 (b0, b1)) x3_j5 x4_j5 := hw
    have hP : va_P D vwCl (W_X5_isBeside h a cI cJ cZ v_thrown v_made v_of v_heart v_width v_sheets v_covered) H := hP
    have hD : va_D A (W_X5_isBeside h a cI cJ cZ v_thrown v_made v_of v_heart v_width v_sheets v_covered) := hD
    have hl : lv_has ls 6 [(0, .ref h), (1, .int p1), (2, .int p2), (3, .int x3_j5), (4, .int x4_j5)] := hl
    have J45 : ∀ (s0_j45 : Int32) (x4_j45 : Int32) , wp_X5_isBeside_45 v_of p1 p2 post (fun b0 b1 => K5 (b0, b1)) s0_j45 x4_j45 → ∀ (H : Heap) (locs : List Loc) (ls : Array Slot), va_P D vwCl (W_X5_isBeside h a cI cJ cZ v_thrown v_made v_of v_heart v_width v_sheets v_covered) H → va_D A (W_X5_isBeside h a cI cJ cZ v_thrown v_made v_of v_heart v_width v_sheets v_covered) → va_S A s.heap H locs → lv_has ls 6 [(0, .ref h), (1, .int p1), (2, .int p2), (4, .int x4_j45)] → W p l e rm_X5_isBeside s m args below meth c H locs 0 0 QQ (F0 m 45 ls [.int s0_j45]) := by
      intro s0_j45 x4_j45 hw H locs ls hP hD hS hl
      unfold wp_X5_isBeside_45 at hw
      refine lv_istore_n (lv' := [(3, .int s0_j45), (0, .ref h), (1, .int p1), (2, .int p2), (4, .int x4_j45)]) hx hb dX5_isBeside_45 rfl hl (by decide) rfl (fun ls hl => ?_)
      refine lv_iinc (v := (x4_j45 + 1)) (lv' := [(4, .int (x4_j45 + 1)), (3, .int s0_j45), (0, .ref h), (1, .int p1), (2, .int p2)]) hx hb dX5_isBeside_46 hl (k := 4) rfl rfl (by decide) rfl (fun ls hl => ?_)
      refine lv_goto (tgt := 5) hx hb dX5_isBeside_49 (by decide) ?_
      exact ih5 (s0_j45, (x4_j45 + 1)) hw _ _ ls hP hD hS (lv_sub hl [2, 3, 4, 1, 0] rfl)
    unfold wp_X5_isBeside_5 at hw
    refine lv_iload hx hb dX5_isBeside_5 (lv_at hl 4 rfl) ?_
    refine lv_iconst (v := 4) hx hb dX5_isBeside_7 (by decide) ?_
    refine lv_icmp_ge (tgt := 52) hx hb dX5_isBeside_8 (by decide) (fun c8 => ?_) (fun c8 => ?_)
    · have hw := hw.1 c8
      refine lv_iload_n hx hb dX5_isBeside_52 rfl (lv_at hl 3 rfl) ?_
      exact RT x3_j5 () _ _ _ _ dX5_isBeside_53 hw.1 hw.2 hP hD hS
    · have hw := hw.2 c8
      refine lv_iload_n hx hb dX5_isBeside_11 rfl (lv_at hl 1 rfl) ?_
      refine lv_iload hx hb dX5_isBeside_12 (lv_at hl 4 rfl) ?_
      refine af_i (X := (W_X5_isBeside h a cI cJ cZ v_thrown v_made v_of v_heart v_width v_sheets v_covered)) (pl := []) (cx := ([] : va_W)) (w1 := fun (u : Unit) => ([] : va_W)) (X' := fun (u : Unit) => (W_X5_isBeside h a cI cJ cZ v_thrown v_made v_of v_heart v_width v_sheets v_covered)) hP hD hS hA [] [0, 1] [0, 1] rfl rfl (by decide) (by decide) (fun u => rfl) (by decide) (va_runS (As := [.int p1, .int x4_j5]) (rest := []) ⟨hx, hb, hml, hown, hts⟩ (c_X5_beside l D cI cJ cZ cO H.size p1 x4_j5 _ hw) (va_cwS 2 hts gX5_isBeside_X5_beside rfl rfl rfl (by decide +kernel) ⟨Nat.le_of_ble_eq_true rfl, Nat.le_of_ble_eq_true rfl⟩) (preS (X := (W_X5_isBeside h a cI cJ cZ v_thrown v_made v_of v_heart v_width v_sheets v_covered)) (pl := []) (cx := ([] : va_W)) hK hE hP hD [] (by decide) rfl) rfl rfl hl.1 rfl (lv_room (Nat.le_of_ble_eq_true rfl)) dX5_isBeside_14 ⟨Nat.zero_le _, Nat.zero_le _⟩) (fun r_14 _ H locs hw hP hD hS => ?_)
      try dsimp only at hw
      have hP : va_P D vwCl (W_X5_isBeside h a cI cJ cZ v_thrown v_made v_of v_heart v_width v_sheets v_covered) H := hP
      have hD : va_D A (W_X5_isBeside h a cI cJ cZ v_thrown v_made v_of v_heart v_width v_sheets v_covered) := hD
      refine lv_istore (lv' := [(5, .int r_14), (0, .ref h), (1, .int p1), (2, .int p2), (3, .int x3_j5), (4, .int x4_j5)]) hx hb dX5_isBeside_17 hl (by decide) rfl (fun ls hl => ?_)
      refine lv_iload_n hx hb dX5_isBeside_19 rfl (lv_at hl 4 rfl) ?_
      refine lv_if_ne (tgt := 40) hx hb dX5_isBeside_20 (by decide) (fun c20 => ?_) (fun c20 => ?_)
      · have hw := hw.2 c20
        refine lv_iconst (v := 1) hx hb dX5_isBeside_40 (by decide) ?_
        refine lv_goto (tgt := 45) hx hb dX5_isBeside_41 (by decide) ?_
        exact J45 1 x4_j5 hw _ _ ls hP hD hS (lv_sub hl [1, 2, 3, 5] rfl)
      · have hw := hw.1 c20
        refine lv_iload hx hb dX5_isBeside_23 (lv_at hl 0 rfl) ?_
        refine lv_iconst (v := (-1)) hx hb dX5_isBeside_25 (by decide) ?_
        refine lv_icmp_eq (tgt := 44) hx hb dX5_isBeside_26 (by decide) (fun c26 => ?_) (fun c26 => ?_)
        · have hw := hw.1 c26
          refine lv_iconst (v := 0) hx hb dX5_isBeside_44 (by decide) ?_
          exact J45 0 x4_j5 hw _ _ ls hP hD hS (lv_sub hl [1, 2, 3, 5] rfl)
        · have hw := hw.2 c26
          refine lv_aload_n hx hb dX5_isBeside_29 rfl (lv_at hl 1 rfl) ?_
          refine va_get (D := D) (ci := 6) (v := .ref (a 2)) (C := RX5) (T := TX5) (N := 24) hx hb hts iRX5 hown hK hP 0 rfl rfl 2 (by decide) (hts (.fieldLink RX5 13 "LeadlightModel" "of" "[I") (List.mem_of_getElem? (i := 1) rfl)) (fun _ h9 => h9) rfl dX5_isBeside_30 ?_
          refine lv_iload hx hb dX5_isBeside_33 (lv_at hl 0 rfl) ?_
          obtain ⟨hi_35, hw⟩ := hw
          refine va_iald hx hb hK hP 1 0 rfl rfl hi_35 dX5_isBeside_35 ?_
          refine lv_iload_n hx hb dX5_isBeside_36 rfl (lv_at hl 3 rfl) ?_
          refine lv_icmp_ne (tgt := 44) hx hb dX5_isBeside_37 (by decide) (fun c37 => ?_) (fun c37 => ?_)
          · have hw := hw.2 c37
            refine lv_iconst (v := 0) hx hb dX5_isBeside_44 (by decide) ?_
            exact J45 0 x4_j5 hw _ _ ls hP hD hS (lv_sub hl [1, 2, 3, 5] rfl)
          · have hw := hw.1 c37
            refine lv_iconst (v := 1) hx hb dX5_isBeside_40 (by decide) ?_
            refine lv_goto (tgt := 45) hx hb dX5_isBeside_41 (by decide) ?_
            exact J45 1 x4_j5 hw _ _ ls hP hD hS (lv_sub hl [1, 2, 3, 5] rfl)
  refine lv_iconst (v := 0) hx hb dX5_isBeside_0 (by decide) ?_
  refine lv_istore_n (lv' := [(3, .int 0), (0, .ref h), (1, .int p1), (2, .int p2)]) hx hb dX5_isBeside_1 rfl hl (by decide) rfl (fun ls hl => ?_)
  refine lv_iconst (v := 0) hx hb dX5_isBeside_2 (by decide) ?_
  refine lv_istore (lv' := [(4, .int 0), (3, .int 0), (0, .ref h), (1, .int p1), (2, .int p2)]) hx hb dX5_isBeside_3 hl (by decide) rfl (fun ls hl => ?_)
  exact L5 (0, 0) hw _ _ ls hP hD hS (lv_sub hl [2, 3, 4, 1, 0] rfl)
abbrev rm_X5_give : Room := { frames := 3, cells := 0, slots := 0, locals := 71 }
abbrev W_X5_give (h : Nat) (a : Nat → Nat) (cI cJ cZ : ClassId) (v_thrown : Int32) (v_made : Int32) (v_of : Nat → Int32) (v_many : Nat → Int32) (v_isOriginal : Nat → Int32) (v_things : Nat → Int32) (v_history : Nat → Int32) (v_heart : Int32) (v_width : Int32) (v_set : Nat → Int32) (v_seen : Nat → Int32) (v_pile : Nat → Int32) (v_sheets : Int32) (v_covered : Int32) : va_W := [(h, .inr (6, [.int v_thrown, .int v_made, .ref (a 2), .ref (a 3), .ref (a 4), .ref (a 5), .ref (a 6), .ref (a 7), .ref (a 8), .ref (a 9), .ref (a 10), .ref (a 11), .int v_heart, .int v_width, .ref (a 14), .ref (a 15), .ref (a 16), .ref (a 17), .ref (a 18), .ref (a 19), .ref (a 20), .ref (a 21), .int v_sheets, .int v_covered])), ((a 2), .inl (cI, 256, .inl v_of)), ((a 3), .inl (cI, 60, .inl v_many)), ((a 5), .inl (cZ, 60, .inl v_isOriginal)), ((a 10), .inl (cI, 60, .inl v_things)), ((a 11), .inl (cI, 1200, .inl v_history)), ((a 15), .inl (cZ, 256, .inl v_set)), ((a 16), .inl (cZ, 256, .inl v_seen)), ((a 17), .inl (cI, 256, .inl v_pile))]
def wp_X5_give_121 (v_thrown : Int32) (v_made : Int32) (v_of : Nat → Int32) (v_many : Nat → Int32) (v_isOriginal : Nat → Int32) (v_things : Nat → Int32) (v_history : Nat → Int32) (v_set : Nat → Int32) (v_seen : Nat → Int32) (v_pile : Nat → Int32) (p1 : Int32) (p2 : Int32) (post : Int32 → Int32 → (Nat → Int32) → (Nat → Int32) → (Nat → Int32) → (Nat → Int32) → (Nat → Int32) → (Nat → Int32) → (Nat → Int32) → Prop) (s1_j121 : Int32) (x4_j121 : Int32) (v_set_j121 : Nat → Int32) (v_seen_j121 : Nat → Int32) (v_pile_j121 : Nat → Int32) : Prop := wp_X5_goesWell v_thrown s1_j121 (fun r_121 v_thrown_c121 => (r_121 = 0 → post 0 v_thrown_c121 v_of v_many v_things v_history v_set_j121 v_seen_j121 v_pile_j121) ∧ (¬ r_121 = 0 → vp_in p1 256 ∧ (∀ v_of_t135 : Nat → Int32, v_of_t135 = upd v_of p1.toNatClampNeg p2 → vp_in p2 60 ∧ (vp_in p2 60 ∧ (∀ v_many_t145 : Nat → Int32, v_many_t145 = upd v_many p2.toNatClampNeg ((v_many p2.toNatClampNeg) + 1) → vp_in x4_j121 60 ∧ (vp_in x4_j121 60 ∧ (∀ v_many_t156 : Nat → Int32, v_many_t156 = upd v_many_t145 x4_j121.toNatClampNeg ((v_many_t145 x4_j121.toNatClampNeg) - 1) → wp_X5_note v_things v_history x4_j121 2 (fun v_things_c161 v_history_c161 => wp_X5_note v_things_c161 v_history_c161 p2 2 (fun v_things_c167 v_history_c167 => post x4_j121 v_thrown_c121 v_of_t135 v_many_t156 v_things_c167 v_history_c167 v_set_j121 v_seen_j121 v_pile_j121)))))))))
def wp_X5_give_100 (v_thrown : Int32) (v_made : Int32) (v_of : Nat → Int32) (v_many : Nat → Int32) (v_isOriginal : Nat → Int32) (v_things : Nat → Int32) (v_history : Nat → Int32) (v_set : Nat → Int32) (v_seen : Nat → Int32) (v_pile : Nat → Int32) (p1 : Int32) (p2 : Int32) (post : Int32 → Int32 → (Nat → Int32) → (Nat → Int32) → (Nat → Int32) → (Nat → Int32) → (Nat → Int32) → (Nat → Int32) → (Nat → Int32) → Prop) (s0_j100 : Int32) (x3_j100 : Int32) (x4_j100 : Int32) (v_set_j100 : Nat → Int32) (v_seen_j100 : Nat → Int32) (v_pile_j100 : Nat → Int32) : Prop := (x3_j100 = 0 → wp_X5_give_121 v_thrown v_made v_of v_many v_isOriginal v_things v_history v_set v_seen v_pile p1 p2 post 1 x4_j100 v_set_j100 v_seen_j100 v_pile_j100) ∧ (¬ x3_j100 = 0 → (s0_j100 = 0 → wp_X5_give_121 v_thrown v_made v_of v_many v_isOriginal v_things v_history v_set v_seen v_pile p1 p2 post 2 x4_j100 v_set_j100 v_seen_j100 v_pile_j100) ∧ (¬ s0_j100 = 0 → wp_X5_give_121 v_thrown v_made v_of v_many v_isOriginal v_things v_history v_set v_seen v_pile p1 p2 post 0 x4_j100 v_set_j100 v_seen_j100 v_pile_j100))
def wp_X5_give_38 (v_thrown : Int32) (v_made : Int32) (v_of : Nat → Int32) (v_many : Nat → Int32) (v_isOriginal : Nat → Int32) (v_things : Nat → Int32) (v_history : Nat → Int32) (v_set : Nat → Int32) (v_seen : Nat → Int32) (v_pile : Nat → Int32) (p1 : Int32) (p2 : Int32) (post : Int32 → Int32 → (Nat → Int32) → (Nat → Int32) → (Nat → Int32) → (Nat → Int32) → (Nat → Int32) → (Nat → Int32) → (Nat → Int32) → Prop) (s0_j38 : Int32) (x3_j38 : Int32) : Prop := (x3_j38 = 0 → wp_X5_give_100 v_thrown v_made v_of v_many v_isOriginal v_things v_history v_set v_seen v_pile p1 p2 post 0 x3_j38 s0_j38 v_set v_seen v_pile) ∧ (¬ x3_j38 = 0 → (s0_j38 = p2 → wp_X5_give_100 v_thrown v_made v_of v_many v_isOriginal v_things v_history v_set v_seen v_pile p1 p2 post 0 x3_j38 s0_j38 v_set v_seen v_pile) ∧ (¬ s0_j38 = p2 → wp_X5_isBeside v_of p1 p2 (fun r_53 => (r_53 = 0 → wp_X5_give_100 v_thrown v_made v_of v_many v_isOriginal v_things v_history v_set v_seen v_pile p1 p2 post 0 x3_j38 s0_j38 v_set v_seen v_pile) ∧ (¬ r_53 = 0 → vp_in s0_j38 60 ∧ (((v_isOriginal s0_j38.toNatClampNeg) = 0 → vp_in p2 60 ∧ (((v_isOriginal p2.toNatClampNeg) = 0 → wp_X5_setPiece v_of v_set s0_j38 p1 (fun r_82 v_set_c82 => (r_82 ≤ 0 → wp_X5_give_100 v_thrown v_made v_of v_many v_isOriginal v_things v_history v_set v_seen v_pile p1 p2 post 0 x3_j38 s0_j38 v_set_c82 v_seen v_pile) ∧ (¬ r_82 ≤ 0 → wp_X5_isOne v_set_c82 v_seen v_pile (fun r_89 v_seen_c89 v_pile_c89 => (r_89 = 0 → wp_X5_give_100 v_thrown v_made v_of v_many v_isOriginal v_things v_history v_set v_seen v_pile p1 p2 post 0 x3_j38 s0_j38 v_set_c82 v_seen_c89 v_pile_c89) ∧ (¬ r_89 = 0 → wp_X5_give_100 v_thrown v_made v_of v_many v_isOriginal v_things v_history v_set v_seen v_pile p1 p2 post 1 x3_j38 s0_j38 v_set_c82 v_seen_c89 v_pile_c89))))) ∧ (¬ (v_isOriginal p2.toNatClampNeg) = 0 → wp_X5_give_100 v_thrown v_made v_of v_many v_isOriginal v_things v_history v_set v_seen v_pile p1 p2 post 0 x3_j38 s0_j38 v_set v_seen v_pile))) ∧ (¬ (v_isOriginal s0_j38.toNatClampNeg) = 0 → wp_X5_give_100 v_thrown v_made v_of v_many v_isOriginal v_things v_history v_set v_seen v_pile p1 p2 post 0 x3_j38 s0_j38 v_set v_seen v_pile))))))
def wp_X5_give_20 (v_thrown : Int32) (v_made : Int32) (v_of : Nat → Int32) (v_many : Nat → Int32) (v_isOriginal : Nat → Int32) (v_things : Nat → Int32) (v_history : Nat → Int32) (v_set : Nat → Int32) (v_seen : Nat → Int32) (v_pile : Nat → Int32) (p1 : Int32) (p2 : Int32) (post : Int32 → Int32 → (Nat → Int32) → (Nat → Int32) → (Nat → Int32) → (Nat → Int32) → (Nat → Int32) → (Nat → Int32) → (Nat → Int32) → Prop) (s0_j20 : Int32) : Prop := wp_X5_isCell p1 (fun r_22 => (r_22 = 0 → wp_X5_give_38 v_thrown v_made v_of v_many v_isOriginal v_things v_history v_set v_seen v_pile p1 p2 post 0 s0_j20) ∧ (¬ r_22 = 0 → vp_in p1 256 ∧ (wp_X5_give_38 v_thrown v_made v_of v_many v_isOriginal v_things v_history v_set v_seen v_pile p1 p2 post (v_of p1.toNatClampNeg) s0_j20)))
def wp_X5_give (v_thrown : Int32) (v_made : Int32) (v_of : Nat → Int32) (v_many : Nat → Int32) (v_isOriginal : Nat → Int32) (v_things : Nat → Int32) (v_history : Nat → Int32) (v_set : Nat → Int32) (v_seen : Nat → Int32) (v_pile : Nat → Int32) (p1 : Int32) (p2 : Int32) (post : Int32 → Int32 → (Nat → Int32) → (Nat → Int32) → (Nat → Int32) → (Nat → Int32) → (Nat → Int32) → (Nat → Int32) → (Nat → Int32) → Prop) : Prop := wp_X5_isCell p1 (fun r_1 => (r_1 = 0 → wp_X5_give_20 v_thrown v_made v_of v_many v_isOriginal v_things v_history v_set v_seen v_pile p1 p2 post 0) ∧ (¬ r_1 = 0 → wp_X5_isPiece v_made v_many p2 (fun r_9 => (r_9 = 0 → wp_X5_give_20 v_thrown v_made v_of v_many v_isOriginal v_things v_history v_set v_seen v_pile p1 p2 post 0) ∧ (¬ r_9 = 0 → wp_X5_give_20 v_thrown v_made v_of v_many v_isOriginal v_things v_history v_set v_seen v_pile p1 p2 post 1))))
set_option maxHeartbeats 4000000 in
set_option maxRecDepth 100000 in
theorem c_X5_give (l : Launch) (D : va_G) (cI cJ cZ cO : ClassId) (h : Nat) (a : Nat → Nat) (sz : Nat) (v_thrown : Int32) (v_made : Int32) (v_of : Nat → Int32) (v_many : Nat → Int32) (v_isOriginal : Nat → Int32) (v_things : Nat → Int32) (v_history : Nat → Int32) (v_heart : Int32) (v_width : Int32) (v_set : Nat → Int32) (v_seen : Nat → Int32) (v_pile : Nat → Int32) (v_sheets : Int32) (v_covered : Int32) (p1 : Int32) (p2 : Int32) (post : Int32 → Int32 → (Nat → Int32) → (Nat → Int32) → (Nat → Int32) → (Nat → Int32) → (Nat → Int32) → (Nat → Int32) → (Nat → Int32) → Prop) (hw : wp_X5_give v_thrown v_made v_of v_many v_isOriginal v_things v_history v_set v_seen v_pile p1 p2 post) : Met l yX5_give wsX5_give rm_X5_give (va_Pc [.ref h, .int p1, .int p2] (PRE D cI cJ cZ cO (W_X5_give h a cI cJ cZ v_thrown v_made v_of v_many v_isOriginal v_things v_history v_heart v_width v_set v_seen v_pile v_sheets v_covered) sz)) (va_Qi (fun r (u : Int32 × (Nat → Int32) × (Nat → Int32) × (Nat → Int32) × (Nat → Int32) × (Nat → Int32) × (Nat → Int32) × (Nat → Int32)) => post r u.1 u.2.1 u.2.2.1 u.2.2.2.1 u.2.2.2.2.1 u.2.2.2.2.2.1 u.2.2.2.2.2.2.1 u.2.2.2.2.2.2.2) (fun u t => POST D (va_A (W_X5_give h a cI cJ cZ v_thrown v_made v_of v_many v_isOriginal v_things v_history v_heart v_width v_set v_seen v_pile v_sheets v_covered) sz) (W_X5_give h a cI cJ cZ u.1 v_made u.2.1 u.2.2.1 v_isOriginal u.2.2.2.1 u.2.2.2.2.1 v_heart v_width u.2.2.2.2.2.1 u.2.2.2.2.2.2.1 u.2.2.2.2.2.2.2 v_sheets v_covered) t) (va_A (W_X5_give h a cI cJ cZ v_thrown v_made v_of v_many v_isOriginal v_things v_history v_heart v_width v_set v_seen v_pile v_sheets v_covered) sz)) 0 0 (va_A (W_X5_give h a cI cJ cZ v_thrown v_made v_of v_many v_isOriginal v_things v_history v_heart v_width v_set v_seen v_pile v_sheets v_covered) sz) := by
  refine met_go (cc := cX5_give) (maxL := 6) (ret := some .int) RX5 rfl (by decide) rfl (Nat.le_of_ble_eq_true rfl) ?_
  intro p e s m args below meth c ls hx hb hr hts hown hlocks hin hml hsz hP hK hE hD hA hS hl
  have iRX5 : ∀ w ∈ u_ws RX5 TX5 24, w ∈ wsX5_give := mem_seg 45 24 rfl
  generalize va_A (W_X5_give h a cI cJ cZ v_thrown v_made v_of v_many v_isOriginal v_things v_history v_heart v_width v_set v_seen v_pile v_sheets v_covered) sz = A at hD hA hS ⊢
  have RT : ∀ (v : Int32) (u : Int32 × (Nat → Int32) × (Nat → Int32) × (Nat → Int32) × (Nat → Int32) × (Nat → Int32) × (Nat → Int32) × (Nat → Int32)) (H : Heap) (locs : List Loc) (pc : Nat) (ls : Array Slot), decode cX5_give pc = .ok (.ireturn, 1) → post v u.1 u.2.1 u.2.2.1 u.2.2.2.1 u.2.2.2.2.1 u.2.2.2.2.2.1 u.2.2.2.2.2.2.1 u.2.2.2.2.2.2.2 → va_P D vwCl (W_X5_give h a cI cJ cZ u.1 v_made u.2.1 u.2.2.1 v_isOriginal u.2.2.2.1 u.2.2.2.2.1 v_heart v_width u.2.2.2.2.2.1 u.2.2.2.2.2.2.1 u.2.2.2.2.2.2.2 v_sheets v_covered) H → va_D A (W_X5_give h a cI cJ cZ u.1 v_made u.2.1 u.2.2.1 v_isOriginal u.2.2.2.1 u.2.2.2.2.1 v_heart v_width u.2.2.2.2.2.1 u.2.2.2.2.2.2.1 u.2.2.2.2.2.2.2 v_sheets v_covered) → va_S A s.heap H locs → W p l e rm_X5_give s m args below meth c H locs 0 0 (MQ below (va_Qi (fun r (u : Int32 × (Nat → Int32) × (Nat → Int32) × (Nat → Int32) × (Nat → Int32) × (Nat → Int32) × (Nat → Int32) × (Nat → Int32)) => post r u.1 u.2.1 u.2.2.1 u.2.2.2.1 u.2.2.2.2.1 u.2.2.2.2.2.1 u.2.2.2.2.2.2.1 u.2.2.2.2.2.2.2) (fun u t => POST D A (W_X5_give h a cI cJ cZ u.1 v_made u.2.1 u.2.2.1 v_isOriginal u.2.2.2.1 u.2.2.2.2.1 v_heart v_width u.2.2.2.2.2.1 u.2.2.2.2.2.2.1 u.2.2.2.2.2.2.2 v_sheets v_covered) t) A) args s 0 0 A) (F0 m pc ls [.int v]) := fun v u H locs pc ls d g1 g2 g3 g4 => rt_i (Wf := fun u => (W_X5_give h a cI cJ cZ u.1 v_made u.2.1 u.2.2.1 v_isOriginal u.2.2.2.1 u.2.2.2.2.1 v_heart v_width u.2.2.2.2.2.1 u.2.2.2.2.2.2.1 u.2.2.2.2.2.2.2 v_sheets v_covered)) u hx hb hr hlocks g1 g2 g3 g4 d
  generalize (MQ below (va_Qi (fun r (u : Int32 × (Nat → Int32) × (Nat → Int32) × (Nat → Int32) × (Nat → Int32) × (Nat → Int32) × (Nat → Int32) × (Nat → Int32)) => post r u.1 u.2.1 u.2.2.1 u.2.2.2.1 u.2.2.2.2.1 u.2.2.2.2.2.1 u.2.2.2.2.2.2.1 u.2.2.2.2.2.2.2) (fun u t => POST D A (W_X5_give h a cI cJ cZ u.1 v_made u.2.1 u.2.2.1 v_isOriginal u.2.2.2.1 u.2.2.2.2.1 v_heart v_width u.2.2.2.2.2.1 u.2.2.2.2.2.2.1 u.2.2.2.2.2.2.2 v_sheets v_covered) t) A) args s 0 0 A) = QQ at RT ⊢
  have hl : lv_has ls 6 [(0, .ref h), (1, .int p1), (2, .int p2)] := hl
  have hP : va_P D vwCl (W_X5_give h a cI cJ cZ v_thrown v_made v_of v_many v_isOriginal v_things v_history v_heart v_width v_set v_seen v_pile v_sheets v_covered) s.heap := hP
  unfold wp_X5_give at hw
  suffices GO : ∀ (H : Heap) (locs : List Loc), va_P D vwCl (W_X5_give h a cI cJ cZ v_thrown v_made v_of v_many v_isOriginal v_things v_history v_heart v_width v_set v_seen v_pile v_sheets v_covered) H → va_S A s.heap H locs → W p l e rm_X5_give s m args below meth c H locs 0 0 QQ (F0 m 0 ls []) from GO _ _ hP hS
  clear hsz hP hS
  intro H locs hP hS
  have J121 : ∀ (s1_j121 : Int32) (x4_j121 : Int32) (v_set_j121 : Nat → Int32) (v_seen_j121 : Nat → Int32) (v_pile_j121 : Nat → Int32) , wp_X5_give_121 v_thrown v_made v_of v_many v_isOriginal v_things v_history v_set v_seen v_pile p1 p2 post s1_j121 x4_j121 v_set_j121 v_seen_j121 v_pile_j121 → ∀ (H : Heap) (locs : List Loc) (ls : Array Slot), va_P D vwCl (W_X5_give h a cI cJ cZ v_thrown v_made v_of v_many v_isOriginal v_things v_history v_heart v_width v_set_j121 v_seen_j121 v_pile_j121 v_sheets v_covered) H → va_D A (W_X5_give h a cI cJ cZ v_thrown v_made v_of v_many v_isOriginal v_things v_history v_heart v_width v_set_j121 v_seen_j121 v_pile_j121 v_sheets v_covered) → va_S A s.heap H locs → lv_has ls 6 [(0, .ref h), (1, .int p1), (2, .int p2), (4, .int x4_j121)] → W p l e rm_X5_give s m args below meth c H locs 0 0 QQ (F0 m 121 ls [.int s1_j121, .ref h]) := by
    intro s1_j121 x4_j121 v_set_j121 v_seen_j121 v_pile_j121 hw H locs ls hP hD hS hl
    unfold wp_X5_give_121 at hw
    refine af_i (X := (W_X5_give h a cI cJ cZ v_thrown v_made v_of v_many v_isOriginal v_things v_history v_heart v_width v_set_j121 v_seen_j121 v_pile_j121 v_sheets v_covered)) (pl := []) (cx := (W_X5_goesWell h a cI cJ cZ v_thrown v_made v_heart v_width v_sheets v_covered)) (w1 := fun (u : Int32) => (W_X5_goesWell h a cI cJ cZ u v_made v_heart v_width v_sheets v_covered)) (X' := fun (u : Int32) => (W_X5_give h a cI cJ cZ u v_made v_of v_many v_isOriginal v_things v_history v_heart v_width v_set_j121 v_seen_j121 v_pile_j121 v_sheets v_covered)) hP hD hS hA [0] [1, 2, 3, 4, 5, 6, 7, 8] [8, 0, 1, 2, 3, 4, 5, 6, 7] rfl rfl (by decide) (by decide) (fun u => rfl) (by decide) (va_runV (As := [.int s1_j121]) (rest := []) ⟨hx, hb, hml, hown, hts⟩ (c_X5_goesWell l D cI cJ cZ cO h a H.size v_thrown v_made v_heart v_width v_sheets v_covered s1_j121 _ hw) (cwV 1 hts gX5_give_X5_goesWell rfl rfl rfl (by decide +kernel) ⟨Nat.le_of_ble_eq_true rfl, Nat.le_of_ble_eq_true rfl⟩) (preV (X := (W_X5_give h a cI cJ cZ v_thrown v_made v_of v_many v_isOriginal v_things v_history v_heart v_width v_set_j121 v_seen_j121 v_pile_j121 v_sheets v_covered)) (pl := []) (cx := (W_X5_goesWell h a cI cJ cZ v_thrown v_made v_heart v_width v_sheets v_covered)) (qb := 0) (ci := 6) hK hE hP hD [0] (by decide) rfl rfl rfl) rfl rfl hl.1 rfl (lv_room (Nat.le_of_ble_eq_true rfl)) dX5_give_121 ⟨Nat.zero_le _, Nat.zero_le _⟩) (fun r_121 v_thrown_c121 H locs hw hP hD hS => ?_)
    try dsimp only at hw
    have hP : va_P D vwCl (W_X5_give h a cI cJ cZ v_thrown_c121 v_made v_of v_many v_isOriginal v_things v_history v_heart v_width v_set_j121 v_seen_j121 v_pile_j121 v_sheets v_covered) H := hP
    have hD : va_D A (W_X5_give h a cI cJ cZ v_thrown_c121 v_made v_of v_many v_isOriginal v_things v_history v_heart v_width v_set_j121 v_seen_j121 v_pile_j121 v_sheets v_covered) := hD
    refine lv_if_ne (tgt := 129) hx hb dX5_give_124 (by decide) (fun c124 => ?_) (fun c124 => ?_)
    · have hw := hw.2 c124
      refine lv_aload_n hx hb dX5_give_129 rfl (lv_at hl 0 rfl) ?_
      refine va_get (D := D) (ci := 6) (v := .ref (a 2)) (C := RX5) (T := TX5) (N := 24) hx hb hts iRX5 hown hK hP 0 rfl rfl 2 (by decide) (hts (.fieldLink RX5 13 "LeadlightModel" "of" "[I") (List.mem_of_getElem? (i := 1) rfl)) (fun _ h9 => h9) rfl dX5_give_130 ?_
      refine lv_iload_n hx hb dX5_give_133 rfl (lv_at hl 1 rfl) ?_
      refine lv_iload_n hx hb dX5_give_134 rfl (lv_at hl 2 rfl) ?_
      obtain ⟨hi_135, hw⟩ := hw
      refine st_i hx hb hK hP hD hS 1 0 rfl rfl hi_135 dX5_give_135 (fun v_of_t135 ev_of_t135 H locs hP hD hS => ?_)
      have hw := hw v_of_t135 ev_of_t135
      have hP : va_P D vwCl (W_X5_give h a cI cJ cZ v_thrown_c121 v_made v_of_t135 v_many v_isOriginal v_things v_history v_heart v_width v_set_j121 v_seen_j121 v_pile_j121 v_sheets v_covered) H := hP
      have hD : va_D A (W_X5_give h a cI cJ cZ v_thrown_c121 v_made v_of_t135 v_many v_isOriginal v_things v_history v_heart v_width v_set_j121 v_seen_j121 v_pile_j121 v_sheets v_covered) := hD
      refine lv_aload_n hx hb dX5_give_136 rfl (lv_at hl 0 rfl) ?_
      refine va_get (D := D) (ci := 6) (v := .ref (a 3)) (C := RX5) (T := TX5) (N := 24) hx hb hts iRX5 hown hK hP 0 rfl rfl 3 (by decide) (hts (.fieldLink RX5 17 "LeadlightModel" "many" "[I") (List.mem_of_getElem? (i := 3) rfl)) (fun _ h9 => h9) rfl dX5_give_137 ?_
      refine lv_iload_n hx hb dX5_give_140 rfl (lv_at hl 2 rfl) ?_
      refine lv_dup2_11 hx hb dX5_give_141 rfl rfl ?_
      obtain ⟨hi_142, hw⟩ := hw
      refine va_iald hx hb hK hP 2 0 rfl rfl hi_142 dX5_give_142 ?_
      refine lv_iconst (v := 1) hx hb dX5_give_143 (by decide) ?_
      refine lv_iadd hx hb dX5_give_144 ?_
      obtain ⟨hi_145, hw⟩ := hw
      refine st_i hx hb hK hP hD hS 2 0 rfl rfl hi_145 dX5_give_145 (fun v_many_t145 ev_many_t145 H locs hP hD hS => ?_)
      have hw := hw v_many_t145 ev_many_t145
      have hP : va_P D vwCl (W_X5_give h a cI cJ cZ v_thrown_c121 v_made v_of_t135 v_many_t145 v_isOriginal v_things v_history v_heart v_width v_set_j121 v_seen_j121 v_pile_j121 v_sheets v_covered) H := hP
      have hD : va_D A (W_X5_give h a cI cJ cZ v_thrown_c121 v_made v_of_t135 v_many_t145 v_isOriginal v_things v_history v_heart v_width v_set_j121 v_seen_j121 v_pile_j121 v_sheets v_covered) := hD
      refine lv_aload_n hx hb dX5_give_146 rfl (lv_at hl 0 rfl) ?_
      refine va_get (D := D) (ci := 6) (v := .ref (a 3)) (C := RX5) (T := TX5) (N := 24) hx hb hts iRX5 hown hK hP 0 rfl rfl 3 (by decide) (hts (.fieldLink RX5 17 "LeadlightModel" "many" "[I") (List.mem_of_getElem? (i := 3) rfl)) (fun _ h9 => h9) rfl dX5_give_147 ?_
      refine lv_iload hx hb dX5_give_150 (lv_at hl 3 rfl) ?_
      refine lv_dup2_11 hx hb dX5_give_152 rfl rfl ?_
      obtain ⟨hi_153, hw⟩ := hw
      refine va_iald hx hb hK hP 2 0 rfl rfl hi_153 dX5_give_153 ?_
      refine lv_iconst (v := 1) hx hb dX5_give_154 (by decide) ?_
      refine lv_isub hx hb dX5_give_155 ?_
      obtain ⟨hi_156, hw⟩ := hw
      refine st_i hx hb hK hP hD hS 2 0 rfl rfl hi_156 dX5_give_156 (fun v_many_t156 ev_many_t156 H locs hP hD hS => ?_)
      have hw := hw v_many_t156 ev_many_t156
      have hP : va_P D vwCl (W_X5_give h a cI cJ cZ v_thrown_c121 v_made v_of_t135 v_many_t156 v_isOriginal v_things v_history v_heart v_width v_set_j121 v_seen_j121 v_pile_j121 v_sheets v_covered) H := hP
      have hD : va_D A (W_X5_give h a cI cJ cZ v_thrown_c121 v_made v_of_t135 v_many_t156 v_isOriginal v_things v_history v_heart v_width v_set_j121 v_seen_j121 v_pile_j121 v_sheets v_covered) := hD
      refine lv_aload_n hx hb dX5_give_157 rfl (lv_at hl 0 rfl) ?_
      refine lv_iload hx hb dX5_give_158 (lv_at hl 3 rfl) ?_
      refine lv_iconst (v := 2) hx hb dX5_give_160 (by decide) ?_
      refine af_v (X := (W_X5_give h a cI cJ cZ v_thrown_c121 v_made v_of_t135 v_many_t156 v_isOriginal v_things v_history v_heart v_width v_set_j121 v_seen_j121 v_pile_j121 v_sheets v_covered)) (pl := []) (cx := (W_X5_note h a cI cJ cZ v_thrown_c121 v_made v_things v_history v_heart v_width v_sheets v_covered)) (w1 := fun (u : (Nat → Int32) × (Nat → Int32)) => (W_X5_note h a cI cJ cZ v_thrown_c121 v_made u.1 u.2 v_heart v_width v_sheets v_covered)) (X' := fun (u : (Nat → Int32) × (Nat → Int32)) => (W_X5_give h a cI cJ cZ v_thrown_c121 v_made v_of_t135 v_many_t156 v_isOriginal u.1 u.2 v_heart v_width v_set_j121 v_seen_j121 v_pile_j121 v_sheets v_covered)) hP hD hS hA [0, 4, 5] [1, 2, 3, 6, 7, 8] [6, 0, 1, 2, 7, 8, 3, 4, 5] rfl rfl (by decide) (by decide) (fun u => rfl) (by decide) (va_runV (As := [.int x4_j121, .int 2]) (rest := []) ⟨hx, hb, hml, hown, hts⟩ (c_X5_note l D cI cJ cZ cO h a H.size v_thrown_c121 v_made v_things v_history v_heart v_width v_sheets v_covered x4_j121 2 _ hw) (cwV 2 hts gX5_give_X5_note rfl rfl rfl (by decide +kernel) ⟨Nat.le_of_ble_eq_true rfl, Nat.le_of_ble_eq_true rfl⟩) (preV (X := (W_X5_give h a cI cJ cZ v_thrown_c121 v_made v_of_t135 v_many_t156 v_isOriginal v_things v_history v_heart v_width v_set_j121 v_seen_j121 v_pile_j121 v_sheets v_covered)) (pl := []) (cx := (W_X5_note h a cI cJ cZ v_thrown_c121 v_made v_things v_history v_heart v_width v_sheets v_covered)) (qb := 0) (ci := 6) hK hE hP hD [0, 4, 5] (by decide) rfl rfl rfl) rfl rfl hl.1 rfl (lv_room (Nat.le_of_ble_eq_true rfl)) dX5_give_161 ⟨Nat.zero_le _, Nat.zero_le _⟩) (fun u H locs hw hP hD hS => ?_)
      obtain ⟨v_things_c161, v_history_c161⟩ := u
      try dsimp only at hw
      have hP : va_P D vwCl (W_X5_give h a cI cJ cZ v_thrown_c121 v_made v_of_t135 v_many_t156 v_isOriginal v_things_c161 v_history_c161 v_heart v_width v_set_j121 v_seen_j121 v_pile_j121 v_sheets v_covered) H := hP
      have hD : va_D A (W_X5_give h a cI cJ cZ v_thrown_c121 v_made v_of_t135 v_many_t156 v_isOriginal v_things_c161 v_history_c161 v_heart v_width v_set_j121 v_seen_j121 v_pile_j121 v_sheets v_covered) := hD
      refine lv_aload_n hx hb dX5_give_164 rfl (lv_at hl 0 rfl) ?_
      refine lv_iload_n hx hb dX5_give_165 rfl (lv_at hl 2 rfl) ?_
      refine lv_iconst (v := 2) hx hb dX5_give_166 (by decide) ?_
      refine af_v (X := (W_X5_give h a cI cJ cZ v_thrown_c121 v_made v_of_t135 v_many_t156 v_isOriginal v_things_c161 v_history_c161 v_heart v_width v_set_j121 v_seen_j121 v_pile_j121 v_sheets v_covered)) (pl := []) (cx := (W_X5_note h a cI cJ cZ v_thrown_c121 v_made v_things_c161 v_history_c161 v_heart v_width v_sheets v_covered)) (w1 := fun (u : (Nat → Int32) × (Nat → Int32)) => (W_X5_note h a cI cJ cZ v_thrown_c121 v_made u.1 u.2 v_heart v_width v_sheets v_covered)) (X' := fun (u : (Nat → Int32) × (Nat → Int32)) => (W_X5_give h a cI cJ cZ v_thrown_c121 v_made v_of_t135 v_many_t156 v_isOriginal u.1 u.2 v_heart v_width v_set_j121 v_seen_j121 v_pile_j121 v_sheets v_covered)) hP hD hS hA [0, 4, 5] [1, 2, 3, 6, 7, 8] [6, 0, 1, 2, 7, 8, 3, 4, 5] rfl rfl (by decide) (by decide) (fun u => rfl) (by decide) (va_runV (As := [.int p2, .int 2]) (rest := []) ⟨hx, hb, hml, hown, hts⟩ (c_X5_note l D cI cJ cZ cO h a H.size v_thrown_c121 v_made v_things_c161 v_history_c161 v_heart v_width v_sheets v_covered p2 2 _ hw) (cwV 2 hts gX5_give_X5_note rfl rfl rfl (by decide +kernel) ⟨Nat.le_of_ble_eq_true rfl, Nat.le_of_ble_eq_true rfl⟩) (preV (X := (W_X5_give h a cI cJ cZ v_thrown_c121 v_made v_of_t135 v_many_t156 v_isOriginal v_things_c161 v_history_c161 v_heart v_width v_set_j121 v_seen_j121 v_pile_j121 v_sheets v_covered)) (pl := []) (cx := (W_X5_note h a cI cJ cZ v_thrown_c121 v_made v_things_c161 v_history_c161 v_heart v_width v_sheets v_covered)) (qb := 0) (ci := 6) hK hE hP hD [0, 4, 5] (by decide) rfl rfl rfl) rfl rfl hl.1 rfl (lv_room (Nat.le_of_ble_eq_true rfl)) dX5_give_167 ⟨Nat.zero_le _, Nat.zero_le _⟩) (fun u H locs hw hP hD hS => ?_)
      obtain ⟨v_things_c167, v_history_c167⟩ := u
      try dsimp only at hw
      have hP : va_P D vwCl (W_X5_give h a cI cJ cZ v_thrown_c121 v_made v_of_t135 v_many_t156 v_isOriginal v_things_c167 v_history_c167 v_heart v_width v_set_j121 v_seen_j121 v_pile_j121 v_sheets v_covered) H := hP
      have hD : va_D A (W_X5_give h a cI cJ cZ v_thrown_c121 v_made v_of_t135 v_many_t156 v_isOriginal v_things_c167 v_history_c167 v_heart v_width v_set_j121 v_seen_j121 v_pile_j121 v_sheets v_covered) := hD
      refine lv_iload hx hb dX5_give_170 (lv_at hl 3 rfl) ?_
      exact RT x4_j121 (v_thrown_c121, v_of_t135, v_many_t156, v_things_c167, v_history_c167, v_set_j121, v_seen_j121, v_pile_j121) _ _ _ _ dX5_give_172 hw hP hD hS
    · have hw := hw.1 c124
      refine lv_iconst (v := 0) hx hb dX5_give_127 (by decide) ?_
      exact RT 0 (v_thrown_c121, v_of, v_many, v_things, v_history, v_set_j121, v_seen_j121, v_pile_j121) _ _ _ _ dX5_give_128 hw hP hD hS
  have J100 : ∀ (s0_j100 : Int32) (x3_j100 : Int32) (x4_j100 : Int32) (v_set_j100 : Nat → Int32) (v_seen_j100 : Nat → Int32) (v_pile_j100 : Nat → Int32) , wp_X5_give_100 v_thrown v_made v_of v_many v_isOriginal v_things v_history v_set v_seen v_pile p1 p2 post s0_j100 x3_j100 x4_j100 v_set_j100 v_seen_j100 v_pile_j100 → ∀ (H : Heap) (locs : List Loc) (ls : Array Slot), va_P D vwCl (W_X5_give h a cI cJ cZ v_thrown v_made v_of v_many v_isOriginal v_things v_history v_heart v_width v_set_j100 v_seen_j100 v_pile_j100 v_sheets v_covered) H → va_D A (W_X5_give h a cI cJ cZ v_thrown v_made v_of v_many v_isOriginal v_things v_history v_heart v_width v_set_j100 v_seen_j100 v_pile_j100 v_sheets v_covered) → va_S A s.heap H locs → lv_has ls 6 [(0, .ref h), (1, .int p1), (2, .int p2), (3, .int x3_j100), (4, .int x4_j100)] → W p l e rm_X5_give s m args below meth c H locs 0 0 QQ (F0 m 100 ls [.int s0_j100]) := by
    intro s0_j100 x3_j100 x4_j100 v_set_j100 v_seen_j100 v_pile_j100 hw H locs ls hP hD hS hl
    unfold wp_X5_give_100 at hw
    refine lv_istore (lv' := [(5, .int s0_j100), (0, .ref h), (1, .int p1), (2, .int p2), (3, .int x3_j100), (4, .int x4_j100)]) hx hb dX5_give_100 hl (by decide) rfl (fun ls hl => ?_)
    refine lv_aload_n hx hb dX5_give_102 rfl (lv_at hl 1 rfl) ?_
    refine lv_iload_n hx hb dX5_give_103 rfl (lv_at hl 4 rfl) ?_
    refine lv_if_ne (tgt := 111) hx hb dX5_give_104 (by decide) (fun c104 => ?_) (fun c104 => ?_)
    · have hw := hw.2 c104
      refine lv_iload hx hb dX5_give_111 (lv_at hl 0 rfl) ?_
      refine lv_if_eq (tgt := 120) hx hb dX5_give_113 (by decide) (fun c113 => ?_) (fun c113 => ?_)
      · have hw := hw.1 c113
        refine lv_iconst (v := 2) hx hb dX5_give_120 (by decide) ?_
        exact J121 2 x4_j100 v_set_j100 v_seen_j100 v_pile_j100 hw _ _ ls hP hD hS (lv_sub hl [1, 2, 3, 5] rfl)
      · have hw := hw.2 c113
        refine lv_iconst (v := 0) hx hb dX5_give_116 (by decide) ?_
        refine lv_goto (tgt := 121) hx hb dX5_give_117 (by decide) ?_
        exact J121 0 x4_j100 v_set_j100 v_seen_j100 v_pile_j100 hw _ _ ls hP hD hS (lv_sub hl [1, 2, 3, 5] rfl)
    · have hw := hw.1 c104
      refine lv_iconst (v := 1) hx hb dX5_give_107 (by decide) ?_
      refine lv_goto (tgt := 121) hx hb dX5_give_108 (by decide) ?_
      exact J121 1 x4_j100 v_set_j100 v_seen_j100 v_pile_j100 hw _ _ ls hP hD hS (lv_sub hl [1, 2, 3, 5] rfl)
  have J38 : ∀ (s0_j38 : Int32) (x3_j38 : Int32) , wp_X5_give_38 v_thrown v_made v_of v_many v_isOriginal v_things v_history v_set v_seen v_pile p1 p2 post s0_j38 x3_j38 → ∀ (H : Heap) (locs : List Loc) (ls : Array Slot), va_P D vwCl (W_X5_give h a cI cJ cZ v_thrown v_made v_of v_many v_isOriginal v_things v_history v_heart v_width v_set v_seen v_pile v_sheets v_covered) H → va_D A (W_X5_give h a cI cJ cZ v_thrown v_made v_of v_many v_isOriginal v_things v_history v_heart v_width v_set v_seen v_pile v_sheets v_covered) → va_S A s.heap H locs → lv_has ls 6 [(0, .ref h), (1, .int p1), (2, .int p2), (3, .int x3_j38)] → W p l e rm_X5_give s m args below meth c H locs 0 0 QQ (F0 m 38 ls [.int s0_j38]) := by
    intro s0_j38 x3_j38 hw H locs ls hP hD hS hl
    unfold wp_X5_give_38 at hw
    refine lv_istore (lv' := [(4, .int s0_j38), (0, .ref h), (1, .int p1), (2, .int p2), (3, .int x3_j38)]) hx hb dX5_give_38 hl (by decide) rfl (fun ls hl => ?_)
    refine lv_iload_n hx hb dX5_give_40 rfl (lv_at hl 4 rfl) ?_
    refine lv_if_eq (tgt := 99) hx hb dX5_give_41 (by decide) (fun c41 => ?_) (fun c41 => ?_)
    · have hw := hw.1 c41
      refine lv_iconst (v := 0) hx hb dX5_give_99 (by decide) ?_
      exact J100 0 x3_j38 s0_j38 v_set v_seen v_pile hw _ _ ls hP hD hS (lv_sub hl [1, 2, 3, 4, 0] rfl)
    · have hw := hw.2 c41
      refine lv_iload hx hb dX5_give_44 (lv_at hl 0 rfl) ?_
      refine lv_iload_n hx hb dX5_give_46 rfl (lv_at hl 3 rfl) ?_
      refine lv_icmp_eq (tgt := 99) hx hb dX5_give_47 (by decide) (fun c47 => ?_) (fun c47 => ?_)
      · have hw := hw.1 c47
        refine lv_iconst (v := 0) hx hb dX5_give_99 (by decide) ?_
        exact J100 0 x3_j38 s0_j38 v_set v_seen v_pile hw _ _ ls hP hD hS (lv_sub hl [1, 2, 3, 4, 0] rfl)
      · have hw := hw.2 c47
        refine lv_aload_n hx hb dX5_give_50 rfl (lv_at hl 1 rfl) ?_
        refine lv_iload_n hx hb dX5_give_51 rfl (lv_at hl 2 rfl) ?_
        refine lv_iload_n hx hb dX5_give_52 rfl (lv_at hl 3 rfl) ?_
        refine af_i (X := (W_X5_give h a cI cJ cZ v_thrown v_made v_of v_many v_isOriginal v_things v_history v_heart v_width v_set v_seen v_pile v_sheets v_covered)) (pl := []) (cx := (W_X5_isBeside h a cI cJ cZ v_thrown v_made v_of v_heart v_width v_sheets v_covered)) (w1 := fun (u : Unit) => (W_X5_isBeside h a cI cJ cZ v_thrown v_made v_of v_heart v_width v_sheets v_covered)) (X' := fun (u : Unit) => (W_X5_give h a cI cJ cZ v_thrown v_made v_of v_many v_isOriginal v_things v_history v_heart v_width v_set v_seen v_pile v_sheets v_covered)) hP hD hS hA [0, 1] [2, 3, 4, 5, 6, 7, 8] [7, 8, 0, 1, 2, 3, 4, 5, 6] rfl rfl (by decide) (by decide) (fun u => rfl) (by decide) (va_runV (As := [.int p1, .int p2]) (rest := []) ⟨hx, hb, hml, hown, hts⟩ (c_X5_isBeside l D cI cJ cZ cO h a H.size v_thrown v_made v_of v_heart v_width v_sheets v_covered p1 p2 _ hw) (cwV 2 hts gX5_give_X5_isBeside rfl rfl rfl (by decide +kernel) ⟨Nat.le_of_ble_eq_true rfl, Nat.le_of_ble_eq_true rfl⟩) (preV (X := (W_X5_give h a cI cJ cZ v_thrown v_made v_of v_many v_isOriginal v_things v_history v_heart v_width v_set v_seen v_pile v_sheets v_covered)) (pl := []) (cx := (W_X5_isBeside h a cI cJ cZ v_thrown v_made v_of v_heart v_width v_sheets v_covered)) (qb := 0) (ci := 6) hK hE hP hD [0, 1] (by decide) rfl rfl rfl) rfl rfl hl.1 rfl (lv_room (Nat.le_of_ble_eq_true rfl)) dX5_give_53 ⟨Nat.zero_le _, Nat.zero_le _⟩) (fun r_53 _ H locs hw hP hD hS => ?_)
        try dsimp only at hw
        have hP : va_P D vwCl (W_X5_give h a cI cJ cZ v_thrown v_made v_of v_many v_isOriginal v_things v_history v_heart v_width v_set v_seen v_pile v_sheets v_covered) H := hP
        have hD : va_D A (W_X5_give h a cI cJ cZ v_thrown v_made v_of v_many v_isOriginal v_things v_history v_heart v_width v_set v_seen v_pile v_sheets v_covered) := hD
        refine lv_if_eq (tgt := 99) hx hb dX5_give_56 (by decide) (fun c56 => ?_) (fun c56 => ?_)
        · have hw := hw.1 c56
          refine lv_iconst (v := 0) hx hb dX5_give_99 (by decide) ?_
          exact J100 0 x3_j38 s0_j38 v_set v_seen v_pile hw _ _ ls hP hD hS (lv_sub hl [1, 2, 3, 4, 0] rfl)
        · have hw := hw.2 c56
          refine lv_aload_n hx hb dX5_give_59 rfl (lv_at hl 1 rfl) ?_
          refine va_get (D := D) (ci := 6) (v := .ref (a 5)) (C := RX5) (T := TX5) (N := 24) hx hb hts iRX5 hown hK hP 0 rfl rfl 5 (by decide) (hts (.fieldLink RX5 23 "LeadlightModel" "isOriginal" "[Z") (List.mem_of_getElem? (i := 2) rfl)) (fun _ h9 => h9) rfl dX5_give_60 ?_
          refine lv_iload hx hb dX5_give_63 (lv_at hl 0 rfl) ?_
          obtain ⟨hi_65, hw⟩ := hw
          refine va_zald hx hb hK hP 3 2 rfl rfl hi_65 dX5_give_65 ?_
          refine lv_if_ne (tgt := 99) hx hb dX5_give_66 (by decide) (fun c66 => ?_) (fun c66 => ?_)
          · have hw := hw.2 c66
            refine lv_iconst (v := 0) hx hb dX5_give_99 (by decide) ?_
            exact J100 0 x3_j38 s0_j38 v_set v_seen v_pile hw _ _ ls hP hD hS (lv_sub hl [1, 2, 3, 4, 0] rfl)
          · have hw := hw.1 c66
            refine lv_aload_n hx hb dX5_give_69 rfl (lv_at hl 1 rfl) ?_
            refine va_get (D := D) (ci := 6) (v := .ref (a 5)) (C := RX5) (T := TX5) (N := 24) hx hb hts iRX5 hown hK hP 0 rfl rfl 5 (by decide) (hts (.fieldLink RX5 23 "LeadlightModel" "isOriginal" "[Z") (List.mem_of_getElem? (i := 2) rfl)) (fun _ h9 => h9) rfl dX5_give_70 ?_
            refine lv_iload_n hx hb dX5_give_73 rfl (lv_at hl 3 rfl) ?_
            obtain ⟨hi_74, hw⟩ := hw
            refine va_zald hx hb hK hP 3 2 rfl rfl hi_74 dX5_give_74 ?_
            refine lv_if_ne (tgt := 99) hx hb dX5_give_75 (by decide) (fun c75 => ?_) (fun c75 => ?_)
            · have hw := hw.2 c75
              refine lv_iconst (v := 0) hx hb dX5_give_99 (by decide) ?_
              exact J100 0 x3_j38 s0_j38 v_set v_seen v_pile hw _ _ ls hP hD hS (lv_sub hl [1, 2, 3, 4, 0] rfl)
            · have hw := hw.1 c75
              refine lv_aload_n hx hb dX5_give_78 rfl (lv_at hl 1 rfl) ?_
              refine lv_iload hx hb dX5_give_79 (lv_at hl 0 rfl) ?_
              refine lv_iload_n hx hb dX5_give_81 rfl (lv_at hl 2 rfl) ?_
              refine af_i (X := (W_X5_give h a cI cJ cZ v_thrown v_made v_of v_many v_isOriginal v_things v_history v_heart v_width v_set v_seen v_pile v_sheets v_covered)) (pl := []) (cx := (W_X5_setPiece h a cI cJ cZ v_thrown v_made v_of v_heart v_width v_set v_sheets v_covered)) (w1 := fun (u : (Nat → Int32)) => (W_X5_setPiece h a cI cJ cZ v_thrown v_made v_of v_heart v_width u v_sheets v_covered)) (X' := fun (u : (Nat → Int32)) => (W_X5_give h a cI cJ cZ v_thrown v_made v_of v_many v_isOriginal v_things v_history v_heart v_width u v_seen v_pile v_sheets v_covered)) hP hD hS hA [0, 1, 6] [2, 3, 4, 5, 7, 8] [6, 7, 0, 1, 2, 3, 8, 4, 5] rfl rfl (by decide) (by decide) (fun u => rfl) (by decide) (va_runV (As := [.int s0_j38, .int p1]) (rest := []) ⟨hx, hb, hml, hown, hts⟩ (c_X5_setPiece l D cI cJ cZ cO h a H.size v_thrown v_made v_of v_heart v_width v_set v_sheets v_covered s0_j38 p1 _ hw) (cwV 2 hts gX5_give_X5_setPiece rfl rfl rfl (by decide +kernel) ⟨Nat.le_of_ble_eq_true rfl, Nat.le_of_ble_eq_true rfl⟩) (preV (X := (W_X5_give h a cI cJ cZ v_thrown v_made v_of v_many v_isOriginal v_things v_history v_heart v_width v_set v_seen v_pile v_sheets v_covered)) (pl := []) (cx := (W_X5_setPiece h a cI cJ cZ v_thrown v_made v_of v_heart v_width v_set v_sheets v_covered)) (qb := 0) (ci := 6) hK hE hP hD [0, 1, 6] (by decide) rfl rfl rfl) rfl rfl hl.1 rfl (lv_room (Nat.le_of_ble_eq_true rfl)) dX5_give_82 ⟨Nat.zero_le _, Nat.zero_le _⟩) (fun r_82 v_set_c82 H locs hw hP hD hS => ?_)
              try dsimp only at hw
              have hP : va_P D vwCl (W_X5_give h a cI cJ cZ v_thrown v_made v_of v_many v_isOriginal v_things v_history v_heart v_width v_set_c82 v_seen v_pile v_sheets v_covered) H := hP
              have hD : va_D A (W_X5_give h a cI cJ cZ v_thrown v_made v_of v_many v_isOriginal v_things v_history v_heart v_width v_set_c82 v_seen v_pile v_sheets v_covered) := hD
              refine lv_if_le (tgt := 99) hx hb dX5_give_85 (by decide) (fun c85 => ?_) (fun c85 => ?_)
              · have hw := hw.1 c85
                refine lv_iconst (v := 0) hx hb dX5_give_99 (by decide) ?_
                exact J100 0 x3_j38 s0_j38 v_set_c82 v_seen v_pile hw _ _ ls hP hD hS (lv_sub hl [1, 2, 3, 4, 0] rfl)
              · have hw := hw.2 c85
                refine lv_aload_n hx hb dX5_give_88 rfl (lv_at hl 1 rfl) ?_
                refine af_i (X := (W_X5_give h a cI cJ cZ v_thrown v_made v_of v_many v_isOriginal v_things v_history v_heart v_width v_set_c82 v_seen v_pile v_sheets v_covered)) (pl := []) (cx := (W_X5_isOne h a cI cJ cZ v_thrown v_made v_heart v_width v_set_c82 v_seen v_pile v_sheets v_covered)) (w1 := fun (u : (Nat → Int32) × (Nat → Int32)) => (W_X5_isOne h a cI cJ cZ v_thrown v_made v_heart v_width v_set_c82 u.1 u.2 v_sheets v_covered)) (X' := fun (u : (Nat → Int32) × (Nat → Int32)) => (W_X5_give h a cI cJ cZ v_thrown v_made v_of v_many v_isOriginal v_things v_history v_heart v_width v_set_c82 u.1 u.2 v_sheets v_covered)) hP hD hS hA [0, 6, 7, 8] [1, 2, 3, 4, 5] [5, 0, 1, 2, 3, 4, 6, 7, 8] rfl rfl (by decide) (by decide) (fun u => rfl) (by decide) (va_runV (As := []) (rest := []) ⟨hx, hb, hml, hown, hts⟩ (c_X5_isOne l D cI cJ cZ cO h a H.size v_thrown v_made v_heart v_width v_set_c82 v_seen v_pile v_sheets v_covered _ hw) (cwV 0 hts gX5_give_X5_isOne rfl rfl rfl (by decide +kernel) ⟨Nat.le_of_ble_eq_true rfl, Nat.le_of_ble_eq_true rfl⟩) (preV (X := (W_X5_give h a cI cJ cZ v_thrown v_made v_of v_many v_isOriginal v_things v_history v_heart v_width v_set_c82 v_seen v_pile v_sheets v_covered)) (pl := []) (cx := (W_X5_isOne h a cI cJ cZ v_thrown v_made v_heart v_width v_set_c82 v_seen v_pile v_sheets v_covered)) (qb := 0) (ci := 6) hK hE hP hD [0, 6, 7, 8] (by decide) rfl rfl rfl) rfl rfl hl.1 rfl (lv_room (Nat.le_of_ble_eq_true rfl)) dX5_give_89 ⟨Nat.zero_le _, Nat.zero_le _⟩) (fun r_89 u H locs hw hP hD hS => ?_)
                obtain ⟨v_seen_c89, v_pile_c89⟩ := u
                try dsimp only at hw
                have hP : va_P D vwCl (W_X5_give h a cI cJ cZ v_thrown v_made v_of v_many v_isOriginal v_things v_history v_heart v_width v_set_c82 v_seen_c89 v_pile_c89 v_sheets v_covered) H := hP
                have hD : va_D A (W_X5_give h a cI cJ cZ v_thrown v_made v_of v_many v_isOriginal v_things v_history v_heart v_width v_set_c82 v_seen_c89 v_pile_c89 v_sheets v_covered) := hD
                refine lv_if_eq (tgt := 99) hx hb dX5_give_92 (by decide) (fun c92 => ?_) (fun c92 => ?_)
                · have hw := hw.1 c92
                  refine lv_iconst (v := 0) hx hb dX5_give_99 (by decide) ?_
                  exact J100 0 x3_j38 s0_j38 v_set_c82 v_seen_c89 v_pile_c89 hw _ _ ls hP hD hS (lv_sub hl [1, 2, 3, 4, 0] rfl)
                · have hw := hw.2 c92
                  refine lv_iconst (v := 1) hx hb dX5_give_95 (by decide) ?_
                  refine lv_goto (tgt := 100) hx hb dX5_give_96 (by decide) ?_
                  exact J100 1 x3_j38 s0_j38 v_set_c82 v_seen_c89 v_pile_c89 hw _ _ ls hP hD hS (lv_sub hl [1, 2, 3, 4, 0] rfl)
  have J20 : ∀ (s0_j20 : Int32) , wp_X5_give_20 v_thrown v_made v_of v_many v_isOriginal v_things v_history v_set v_seen v_pile p1 p2 post s0_j20 → ∀ (H : Heap) (locs : List Loc) (ls : Array Slot), va_P D vwCl (W_X5_give h a cI cJ cZ v_thrown v_made v_of v_many v_isOriginal v_things v_history v_heart v_width v_set v_seen v_pile v_sheets v_covered) H → va_D A (W_X5_give h a cI cJ cZ v_thrown v_made v_of v_many v_isOriginal v_things v_history v_heart v_width v_set v_seen v_pile v_sheets v_covered) → va_S A s.heap H locs → lv_has ls 6 [(0, .ref h), (1, .int p1), (2, .int p2)] → W p l e rm_X5_give s m args below meth c H locs 0 0 QQ (F0 m 20 ls [.int s0_j20]) := by
    intro s0_j20 hw H locs ls hP hD hS hl
    unfold wp_X5_give_20 at hw
    refine lv_istore_n (lv' := [(3, .int s0_j20), (0, .ref h), (1, .int p1), (2, .int p2)]) hx hb dX5_give_20 rfl hl (by decide) rfl (fun ls hl => ?_)
    refine lv_iload_n hx hb dX5_give_21 rfl (lv_at hl 2 rfl) ?_
    refine af_i (X := (W_X5_give h a cI cJ cZ v_thrown v_made v_of v_many v_isOriginal v_things v_history v_heart v_width v_set v_seen v_pile v_sheets v_covered)) (pl := []) (cx := ([] : va_W)) (w1 := fun (u : Unit) => ([] : va_W)) (X' := fun (u : Unit) => (W_X5_give h a cI cJ cZ v_thrown v_made v_of v_many v_isOriginal v_things v_history v_heart v_width v_set v_seen v_pile v_sheets v_covered)) hP hD hS hA [] [0, 1, 2, 3, 4, 5, 6, 7, 8] [0, 1, 2, 3, 4, 5, 6, 7, 8] rfl rfl (by decide) (by decide) (fun u => rfl) (by decide) (va_runS (As := [.int p1]) (rest := []) ⟨hx, hb, hml, hown, hts⟩ (c_X5_isCell l D cI cJ cZ cO H.size p1 _ hw) (va_cwS 1 hts gX5_give_X5_isCell rfl rfl rfl (by decide +kernel) ⟨Nat.le_of_ble_eq_true rfl, Nat.le_of_ble_eq_true rfl⟩) (preS (X := (W_X5_give h a cI cJ cZ v_thrown v_made v_of v_many v_isOriginal v_things v_history v_heart v_width v_set v_seen v_pile v_sheets v_covered)) (pl := []) (cx := ([] : va_W)) hK hE hP hD [] (by decide) rfl) rfl rfl hl.1 rfl (lv_room (Nat.le_of_ble_eq_true rfl)) dX5_give_22 ⟨Nat.zero_le _, Nat.zero_le _⟩) (fun r_22 _ H locs hw hP hD hS => ?_)
    try dsimp only at hw
    have hP : va_P D vwCl (W_X5_give h a cI cJ cZ v_thrown v_made v_of v_many v_isOriginal v_things v_history v_heart v_width v_set v_seen v_pile v_sheets v_covered) H := hP
    have hD : va_D A (W_X5_give h a cI cJ cZ v_thrown v_made v_of v_many v_isOriginal v_things v_history v_heart v_width v_set v_seen v_pile v_sheets v_covered) := hD
    refine lv_if_eq (tgt := 37) hx hb dX5_give_25 (by decide) (fun c25 => ?_) (fun c25 => ?_)
    · have hw := hw.1 c25
      refine lv_iconst (v := 0) hx hb dX5_give_37 (by decide) ?_
      exact J38 0 s0_j20 hw _ _ ls hP hD hS (lv_sub hl [1, 2, 3, 0] rfl)
    · have hw := hw.2 c25
      refine lv_aload_n hx hb dX5_give_28 rfl (lv_at hl 1 rfl) ?_
      refine va_get (D := D) (ci := 6) (v := .ref (a 2)) (C := RX5) (T := TX5) (N := 24) hx hb hts iRX5 hown hK hP 0 rfl rfl 2 (by decide) (hts (.fieldLink RX5 13 "LeadlightModel" "of" "[I") (List.mem_of_getElem? (i := 1) rfl)) (fun _ h9 => h9) rfl dX5_give_29 ?_
      refine lv_iload_n hx hb dX5_give_32 rfl (lv_at hl 2 rfl) ?_
      obtain ⟨hi_33, hw⟩ := hw
      refine va_iald hx hb hK hP 1 0 rfl rfl hi_33 dX5_give_33 ?_
      refine lv_goto (tgt := 38) hx hb dX5_give_34 (by decide) ?_
      exact J38 (v_of p1.toNatClampNeg) s0_j20 hw _ _ ls hP hD hS (lv_sub hl [1, 2, 3, 0] rfl)
  refine lv_iload_n hx hb dX5_give_0 rfl (lv_at hl 1 rfl) ?_
  refine af_i (X := (W_X5_give h a cI cJ cZ v_thrown v_made v_of v_many v_isOriginal v_things v_history v_heart v_width v_set v_seen v_pile v_sheets v_covered)) (pl := []) (cx := ([] : va_W)) (w1 := fun (u : Unit) => ([] : va_W)) (X' := fun (u : Unit) => (W_X5_give h a cI cJ cZ v_thrown v_made v_of v_many v_isOriginal v_things v_history v_heart v_width v_set v_seen v_pile v_sheets v_covered)) hP hD hS hA [] [0, 1, 2, 3, 4, 5, 6, 7, 8] [0, 1, 2, 3, 4, 5, 6, 7, 8] rfl rfl (by decide) (by decide) (fun u => rfl) (by decide) (va_runS (As := [.int p1]) (rest := []) ⟨hx, hb, hml, hown, hts⟩ (c_X5_isCell l D cI cJ cZ cO H.size p1 _ hw) (va_cwS 1 hts gX5_give_X5_isCell rfl rfl rfl (by decide +kernel) ⟨Nat.le_of_ble_eq_true rfl, Nat.le_of_ble_eq_true rfl⟩) (preS (X := (W_X5_give h a cI cJ cZ v_thrown v_made v_of v_many v_isOriginal v_things v_history v_heart v_width v_set v_seen v_pile v_sheets v_covered)) (pl := []) (cx := ([] : va_W)) hK hE hP hD [] (by decide) rfl) rfl rfl hl.1 rfl (lv_room (Nat.le_of_ble_eq_true rfl)) dX5_give_1 ⟨Nat.zero_le _, Nat.zero_le _⟩) (fun r_1 _ H locs hw hP hD hS => ?_)
  try dsimp only at hw
  have hP : va_P D vwCl (W_X5_give h a cI cJ cZ v_thrown v_made v_of v_many v_isOriginal v_things v_history v_heart v_width v_set v_seen v_pile v_sheets v_covered) H := hP
  have hD : va_D A (W_X5_give h a cI cJ cZ v_thrown v_made v_of v_many v_isOriginal v_things v_history v_heart v_width v_set v_seen v_pile v_sheets v_covered) := hD
  refine lv_if_eq (tgt := 19) hx hb dX5_give_4 (by decide) (fun c4 => ?_) (fun c4 => ?_)
  · have hw := hw.1 c4
    refine lv_iconst (v := 0) hx hb dX5_give_19 (by decide) ?_
    exact J20 0 hw _ _ ls hP hD hS (lv_sub hl [0, 1, 2] rfl)
  · have hw := hw.2 c4
    refine lv_aload_n hx hb dX5_give_7 rfl (lv_at hl 0 rfl) ?_
    refine lv_iload_n hx hb dX5_give_8 rfl (lv_at hl 2 rfl) ?_
    refine af_i (X := (W_X5_give h a cI cJ cZ v_thrown v_made v_of v_many v_isOriginal v_things v_history v_heart v_width v_set v_seen v_pile v_sheets v_covered)) (pl := []) (cx := (W_X5_isPiece h a cI cJ cZ v_thrown v_made v_many v_heart v_width v_sheets v_covered)) (w1 := fun (u : Unit) => (W_X5_isPiece h a cI cJ cZ v_thrown v_made v_many v_heart v_width v_sheets v_covered)) (X' := fun (u : Unit) => (W_X5_give h a cI cJ cZ v_thrown v_made v_of v_many v_isOriginal v_things v_history v_heart v_width v_set v_seen v_pile v_sheets v_covered)) hP hD hS hA [0, 2] [1, 3, 4, 5, 6, 7, 8] [7, 0, 8, 1, 2, 3, 4, 5, 6] rfl rfl (by decide) (by decide) (fun u => rfl) (by decide) (va_runV (As := [.int p2]) (rest := []) ⟨hx, hb, hml, hown, hts⟩ (c_X5_isPiece l D cI cJ cZ cO h a H.size v_thrown v_made v_many v_heart v_width v_sheets v_covered p2 _ hw) (cwV 1 hts gX5_give_X5_isPiece rfl rfl rfl (by decide +kernel) ⟨Nat.le_of_ble_eq_true rfl, Nat.le_of_ble_eq_true rfl⟩) (preV (X := (W_X5_give h a cI cJ cZ v_thrown v_made v_of v_many v_isOriginal v_things v_history v_heart v_width v_set v_seen v_pile v_sheets v_covered)) (pl := []) (cx := (W_X5_isPiece h a cI cJ cZ v_thrown v_made v_many v_heart v_width v_sheets v_covered)) (qb := 0) (ci := 6) hK hE hP hD [0, 2] (by decide) rfl rfl rfl) rfl rfl hl.1 rfl (lv_room (Nat.le_of_ble_eq_true rfl)) dX5_give_9 ⟨Nat.zero_le _, Nat.zero_le _⟩) (fun r_9 _ H locs hw hP hD hS => ?_)
    try dsimp only at hw
    have hP : va_P D vwCl (W_X5_give h a cI cJ cZ v_thrown v_made v_of v_many v_isOriginal v_things v_history v_heart v_width v_set v_seen v_pile v_sheets v_covered) H := hP
    have hD : va_D A (W_X5_give h a cI cJ cZ v_thrown v_made v_of v_many v_isOriginal v_things v_history v_heart v_width v_set v_seen v_pile v_sheets v_covered) := hD
    refine lv_if_eq (tgt := 19) hx hb dX5_give_12 (by decide) (fun c12 => ?_) (fun c12 => ?_)
    · have hw := hw.1 c12
      refine lv_iconst (v := 0) hx hb dX5_give_19 (by decide) ?_
      exact J20 0 hw _ _ ls hP hD hS (lv_sub hl [0, 1, 2] rfl)
    · have hw := hw.2 c12
      refine lv_iconst (v := 1) hx hb dX5_give_15 (by decide) ?_
      refine lv_goto (tgt := 20) hx hb dX5_give_16 (by decide) ?_
      exact J20 1 hw _ _ ls hP hD hS (lv_sub hl [0, 1, 2] rfl)
abbrev rm_X5_join : Room := { frames := 3, cells := 0, slots := 0, locals := 70 }
abbrev W_X5_join (h : Nat) (a : Nat → Nat) (cI cJ cZ : ClassId) (v_thrown : Int32) (v_made : Int32) (v_of : Nat → Int32) (v_many : Nat → Int32) (v_isOriginal : Nat → Int32) (v_things : Nat → Int32) (v_history : Nat → Int32) (v_heart : Int32) (v_width : Int32) (v_sheets : Int32) (v_covered : Int32) : va_W := [(h, .inr (6, [.int v_thrown, .int v_made, .ref (a 2), .ref (a 3), .ref (a 4), .ref (a 5), .ref (a 6), .ref (a 7), .ref (a 8), .ref (a 9), .ref (a 10), .ref (a 11), .int v_heart, .int v_width, .ref (a 14), .ref (a 15), .ref (a 16), .ref (a 17), .ref (a 18), .ref (a 19), .ref (a 20), .ref (a 21), .int v_sheets, .int v_covered])), ((a 2), .inl (cI, 256, .inl v_of)), ((a 3), .inl (cI, 60, .inl v_many)), ((a 5), .inl (cZ, 60, .inl v_isOriginal)), ((a 10), .inl (cI, 60, .inl v_things)), ((a 11), .inl (cI, 1200, .inl v_history))]
def wp_X5_join_184 (v_thrown : Int32) (v_made : Int32) (v_of : Nat → Int32) (v_many : Nat → Int32) (v_isOriginal : Nat → Int32) (v_things : Nat → Int32) (v_history : Nat → Int32) (p1 : Int32) (p2 : Int32) (post : Int32 → Int32 → (Nat → Int32) → (Nat → Int32) → (Nat → Int32) → (Nat → Int32) → Prop) (K148 : Int32 → Int32 → (Nat → Int32) → Prop) (s1_j184 : Int32) (s2_j184 : Int32) (x6_j184 : Int32) (v_thrown_j184 : Int32) (v_of_j184 : Nat → Int32) : Prop := vp_in s1_j184 256 ∧ (∀ v_of_t184 : Nat → Int32, v_of_t184 = upd v_of_j184 s1_j184.toNatClampNeg s2_j184 → K148 (x6_j184 + 1) v_thrown_j184 v_of_t184)
def wp_X5_join_148 (v_thrown : Int32) (v_made : Int32) (v_of : Nat → Int32) (v_many : Nat → Int32) (v_isOriginal : Nat → Int32) (v_things : Nat → Int32) (v_history : Nat → Int32) (p1 : Int32) (p2 : Int32) (post : Int32 → Int32 → (Nat → Int32) → (Nat → Int32) → (Nat → Int32) → (Nat → Int32) → Prop) (K148 : Int32 → Int32 → (Nat → Int32) → Prop) (x6_j148 : Int32) (v_thrown_j148 : Int32) (v_of_j148 : Nat → Int32) : Prop := (256 ≤ x6_j148 → vp_in p1 60 ∧ (vp_in p2 60 ∧ (vp_in p1 60 ∧ (∀ v_many_t205 : Nat → Int32, v_many_t205 = upd v_many p1.toNatClampNeg ((v_many p1.toNatClampNeg) + (v_many p2.toNatClampNeg)) → vp_in p2 60 ∧ (∀ v_many_t212 : Nat → Int32, v_many_t212 = upd v_many_t205 p2.toNatClampNeg 0 → wp_X5_note v_things v_history p1 2 (fun v_things_c216 v_history_c216 => wp_X5_note v_things_c216 v_history_c216 p2 2 (fun v_things_c222 v_history_c222 => vp_in p1 60 ∧ (post (v_many_t212 p1.toNatClampNeg) v_thrown_j148 v_of_j148 v_many_t212 v_things_c222 v_history_c222)))))))) ∧ (¬ 256 ≤ x6_j148 → vp_in x6_j148 256 ∧ (((v_of_j148 x6_j148.toNatClampNeg) = p2 → wp_X5_join_184 v_thrown v_made v_of v_many v_isOriginal v_things v_history p1 p2 post K148 x6_j148 p1 x6_j148 v_thrown_j148 v_of_j148) ∧ (¬ (v_of_j148 x6_j148.toNatClampNeg) = p2 → vp_in x6_j148 256 ∧ (wp_X5_join_184 v_thrown v_made v_of v_many v_isOriginal v_things v_history p1 p2 post K148 x6_j148 (v_of_j148 x6_j148.toNatClampNeg) x6_j148 v_thrown_j148 v_of_j148))))
def lF_X5_join_148 (v_thrown : Int32) (v_made : Int32) (v_of : Nat → Int32) (v_many : Nat → Int32) (v_isOriginal : Nat → Int32) (v_things : Nat → Int32) (v_history : Nat → Int32) (p1 : Int32) (p2 : Int32) (post : Int32 → Int32 → (Nat → Int32) → (Nat → Int32) → (Nat → Int32) → (Nat → Int32) → Prop) : ((Int32 × Int32 × (Nat → Int32)) → Prop) → (Int32 × Int32 × (Nat → Int32)) → Prop := fun K s => wp_X5_join_148 v_thrown v_made v_of v_many v_isOriginal v_things v_history p1 p2 post (fun b0 b1 b2 => K (b0, b1, b2)) s.1 s.2.1 s.2.2
def wp_X5_join_137 (v_thrown : Int32) (v_made : Int32) (v_of : Nat → Int32) (v_many : Nat → Int32) (v_isOriginal : Nat → Int32) (v_things : Nat → Int32) (v_history : Nat → Int32) (p1 : Int32) (p2 : Int32) (post : Int32 → Int32 → (Nat → Int32) → (Nat → Int32) → (Nat → Int32) → (Nat → Int32) → Prop) (s1_j137 : Int32) : Prop := wp_X5_goesWell v_thrown s1_j137 (fun r_137 v_thrown_c137 => (r_137 = 0 → post 0 v_thrown_c137 v_of v_many v_things v_history) ∧ (¬ r_137 = 0 → lp (lF_X5_join_148 v_thrown v_made v_of v_many v_isOriginal v_things v_history p1 p2 post) (0, v_thrown_c137, v_of)))
def wp_X5_join_116 (v_thrown : Int32) (v_made : Int32) (v_of : Nat → Int32) (v_many : Nat → Int32) (v_isOriginal : Nat → Int32) (v_things : Nat → Int32) (v_history : Nat → Int32) (p1 : Int32) (p2 : Int32) (post : Int32 → Int32 → (Nat → Int32) → (Nat → Int32) → (Nat → Int32) → (Nat → Int32) → Prop) (s0_j116 : Int32) (x3_j116 : Int32) : Prop := (x3_j116 = 0 → wp_X5_join_137 v_thrown v_made v_of v_many v_isOriginal v_things v_history p1 p2 post 1) ∧ (¬ x3_j116 = 0 → (s0_j116 = 0 → wp_X5_join_137 v_thrown v_made v_of v_many v_isOriginal v_things v_history p1 p2 post 2) ∧ (¬ s0_j116 = 0 → wp_X5_join_137 v_thrown v_made v_of v_many v_isOriginal v_things v_history p1 p2 post 0))
def wp_X5_join_79 (v_thrown : Int32) (v_made : Int32) (v_of : Nat → Int32) (v_many : Nat → Int32) (v_isOriginal : Nat → Int32) (v_things : Nat → Int32) (v_history : Nat → Int32) (p1 : Int32) (p2 : Int32) (post : Int32 → Int32 → (Nat → Int32) → (Nat → Int32) → (Nat → Int32) → (Nat → Int32) → Prop) (x3_j79 : Int32) (x4_j79 : Int32) : Prop := (x3_j79 = 0 → wp_X5_join_116 v_thrown v_made v_of v_many v_isOriginal v_things v_history p1 p2 post 0 x3_j79) ∧ (¬ x3_j79 = 0 → (p1 = p2 → wp_X5_join_116 v_thrown v_made v_of v_many v_isOriginal v_things v_history p1 p2 post 0 x3_j79) ∧ (¬ p1 = p2 → (x4_j79 = 0 → wp_X5_join_116 v_thrown v_made v_of v_many v_isOriginal v_things v_history p1 p2 post 0 x3_j79) ∧ (¬ x4_j79 = 0 → vp_in p1 60 ∧ (((v_isOriginal p1.toNatClampNeg) = 0 → vp_in p2 60 ∧ (((v_isOriginal p2.toNatClampNeg) = 0 → wp_X5_join_116 v_thrown v_made v_of v_many v_isOriginal v_things v_history p1 p2 post 1 x3_j79) ∧ (¬ (v_isOriginal p2.toNatClampNeg) = 0 → wp_X5_join_116 v_thrown v_made v_of v_many v_isOriginal v_things v_history p1 p2 post 0 x3_j79))) ∧ (¬ (v_isOriginal p1.toNatClampNeg) = 0 → wp_X5_join_116 v_thrown v_made v_of v_many v_isOriginal v_things v_history p1 p2 post 0 x3_j79)))))
def wp_X5_join_71 (v_thrown : Int32) (v_made : Int32) (v_of : Nat → Int32) (v_many : Nat → Int32) (v_isOriginal : Nat → Int32) (v_things : Nat → Int32) (v_history : Nat → Int32) (p1 : Int32) (p2 : Int32) (post : Int32 → Int32 → (Nat → Int32) → (Nat → Int32) → (Nat → Int32) → (Nat → Int32) → Prop) (K28 : Int32 → Int32 → Int32 → Prop) (s0_j71 : Int32) (x3_j71 : Int32) (x5_j71 : Int32) : Prop := K28 x3_j71 s0_j71 (x5_j71 + 1)
def wp_X5_join_28 (v_thrown : Int32) (v_made : Int32) (v_of : Nat → Int32) (v_many : Nat → Int32) (v_isOriginal : Nat → Int32) (v_things : Nat → Int32) (v_history : Nat → Int32) (p1 : Int32) (p2 : Int32) (post : Int32 → Int32 → (Nat → Int32) → (Nat → Int32) → (Nat → Int32) → (Nat → Int32) → Prop) (K28 : Int32 → Int32 → Int32 → Prop) (x3_j28 : Int32) (x4_j28 : Int32) (x5_j28 : Int32) : Prop := (256 ≤ x5_j28 → wp_X5_join_79 v_thrown v_made v_of v_many v_isOriginal v_things v_history p1 p2 post x3_j28 x4_j28) ∧ (¬ 256 ≤ x5_j28 → (x3_j28 = 0 → wp_X5_join_79 v_thrown v_made v_of v_many v_isOriginal v_things v_history p1 p2 post x3_j28 x4_j28) ∧ (¬ x3_j28 = 0 → (x4_j28 = 0 → vp_in x5_j28 256 ∧ (((v_of x5_j28.toNatClampNeg) = p1 → wp_X5_isBeside v_of x5_j28 p2 (fun r_60 => (r_60 = 0 → wp_X5_join_71 v_thrown v_made v_of v_many v_isOriginal v_things v_history p1 p2 post K28 0 x3_j28 x5_j28) ∧ (¬ r_60 = 0 → wp_X5_join_71 v_thrown v_made v_of v_many v_isOriginal v_things v_history p1 p2 post K28 1 x3_j28 x5_j28))) ∧ (¬ (v_of x5_j28.toNatClampNeg) = p1 → wp_X5_join_71 v_thrown v_made v_of v_many v_isOriginal v_things v_history p1 p2 post K28 0 x3_j28 x5_j28))) ∧ (¬ x4_j28 = 0 → wp_X5_join_71 v_thrown v_made v_of v_many v_isOriginal v_things v_history p1 p2 post K28 1 x3_j28 x5_j28)))
def lF_X5_join_28 (v_thrown : Int32) (v_made : Int32) (v_of : Nat → Int32) (v_many : Nat → Int32) (v_isOriginal : Nat → Int32) (v_things : Nat → Int32) (v_history : Nat → Int32) (p1 : Int32) (p2 : Int32) (post : Int32 → Int32 → (Nat → Int32) → (Nat → Int32) → (Nat → Int32) → (Nat → Int32) → Prop) : ((Int32 × Int32 × Int32) → Prop) → (Int32 × Int32 × Int32) → Prop := fun K s => wp_X5_join_28 v_thrown v_made v_of v_many v_isOriginal v_things v_history p1 p2 post (fun b0 b1 b2 => K (b0, b1, b2)) s.1 s.2.1 s.2.2
def wp_X5_join_21 (v_thrown : Int32) (v_made : Int32) (v_of : Nat → Int32) (v_many : Nat → Int32) (v_isOriginal : Nat → Int32) (v_things : Nat → Int32) (v_history : Nat → Int32) (p1 : Int32) (p2 : Int32) (post : Int32 → Int32 → (Nat → Int32) → (Nat → Int32) → (Nat → Int32) → (Nat → Int32) → Prop) (s0_j21 : Int32) : Prop := lp (lF_X5_join_28 v_thrown v_made v_of v_many v_isOriginal v_things v_history p1 p2 post) (s0_j21, 0, 0)
def wp_X5_join (v_thrown : Int32) (v_made : Int32) (v_of : Nat → Int32) (v_many : Nat → Int32) (v_isOriginal : Nat → Int32) (v_things : Nat → Int32) (v_history : Nat → Int32) (p1 : Int32) (p2 : Int32) (post : Int32 → Int32 → (Nat → Int32) → (Nat → Int32) → (Nat → Int32) → (Nat → Int32) → Prop) : Prop := wp_X5_isPiece v_made v_many p1 (fun r_2 => (r_2 = 0 → wp_X5_join_21 v_thrown v_made v_of v_many v_isOriginal v_things v_history p1 p2 post 0) ∧ (¬ r_2 = 0 → wp_X5_isPiece v_made v_many p2 (fun r_10 => (r_10 = 0 → wp_X5_join_21 v_thrown v_made v_of v_many v_isOriginal v_things v_history p1 p2 post 0) ∧ (¬ r_10 = 0 → wp_X5_join_21 v_thrown v_made v_of v_many v_isOriginal v_things v_history p1 p2 post 1))))
set_option maxHeartbeats 4000000 in
set_option maxRecDepth 100000 in
theorem c_X5_join (l : Launch) (D : va_G) (cI cJ cZ cO : ClassId) (h : Nat) (a : Nat → Nat) (sz : Nat) (v_thrown : Int32) (v_made : Int32) (v_of : Nat → Int32) (v_many : Nat → Int32) (v_isOriginal : Nat → Int32) (v_things : Nat → Int32) (v_history : Nat → Int32) (v_heart : Int32) (v_width : Int32) (v_sheets : Int32) (v_covered : Int32) (p1 : Int32) (p2 : Int32) (post : Int32 → Int32 → (Nat → Int32) → (Nat → Int32) → (Nat → Int32) → (Nat → Int32) → Prop) (hw : wp_X5_join v_thrown v_made v_of v_many v_isOriginal v_things v_history p1 p2 post) : Met l yX5_join wsX5_join rm_X5_join (va_Pc [.ref h, .int p1, .int p2] (PRE D cI cJ cZ cO (W_X5_join h a cI cJ cZ v_thrown v_made v_of v_many v_isOriginal v_things v_history v_heart v_width v_sheets v_covered) sz)) (va_Qi (fun r (u : Int32 × (Nat → Int32) × (Nat → Int32) × (Nat → Int32) × (Nat → Int32)) => post r u.1 u.2.1 u.2.2.1 u.2.2.2.1 u.2.2.2.2) (fun u t => POST D (va_A (W_X5_join h a cI cJ cZ v_thrown v_made v_of v_many v_isOriginal v_things v_history v_heart v_width v_sheets v_covered) sz) (W_X5_join h a cI cJ cZ u.1 v_made u.2.1 u.2.2.1 v_isOriginal u.2.2.2.1 u.2.2.2.2 v_heart v_width v_sheets v_covered) t) (va_A (W_X5_join h a cI cJ cZ v_thrown v_made v_of v_many v_isOriginal v_things v_history v_heart v_width v_sheets v_covered) sz)) 0 0 (va_A (W_X5_join h a cI cJ cZ v_thrown v_made v_of v_many v_isOriginal v_things v_history v_heart v_width v_sheets v_covered) sz) := by
  refine met_go (cc := cX5_join) (maxL := 7) (ret := some .int) RX5 rfl (by decide) rfl (Nat.le_of_ble_eq_true rfl) ?_
  intro p e s m args below meth c ls hx hb hr hts hown hlocks hin hml hsz hP hK hE hD hA hS hl
  have iRX5 : ∀ w ∈ u_ws RX5 TX5 24, w ∈ wsX5_join := mem_seg 31 24 rfl
  generalize va_A (W_X5_join h a cI cJ cZ v_thrown v_made v_of v_many v_isOriginal v_things v_history v_heart v_width v_sheets v_covered) sz = A at hD hA hS ⊢
  have RT : ∀ (v : Int32) (u : Int32 × (Nat → Int32) × (Nat → Int32) × (Nat → Int32) × (Nat → Int32)) (H : Heap) (locs : List Loc) (pc : Nat) (ls : Array Slot), decode cX5_join pc = .ok (.ireturn, 1) → post v u.1 u.2.1 u.2.2.1 u.2.2.2.1 u.2.2.2.2 → va_P D vwCl (W_X5_join h a cI cJ cZ u.1 v_made u.2.1 u.2.2.1 v_isOriginal u.2.2.2.1 u.2.2.2.2 v_heart v_width v_sheets v_covered) H → va_D A (W_X5_join h a cI cJ cZ u.1 v_made u.2.1 u.2.2.1 v_isOriginal u.2.2.2.1 u.2.2.2.2 v_heart v_width v_sheets v_covered) → va_S A s.heap H locs → W p l e rm_X5_join s m args below meth c H locs 0 0 (MQ below (va_Qi (fun r (u : Int32 × (Nat → Int32) × (Nat → Int32) × (Nat → Int32) × (Nat → Int32)) => post r u.1 u.2.1 u.2.2.1 u.2.2.2.1 u.2.2.2.2) (fun u t => POST D A (W_X5_join h a cI cJ cZ u.1 v_made u.2.1 u.2.2.1 v_isOriginal u.2.2.2.1 u.2.2.2.2 v_heart v_width v_sheets v_covered) t) A) args s 0 0 A) (F0 m pc ls [.int v]) := fun v u H locs pc ls d g1 g2 g3 g4 => rt_i (Wf := fun u => (W_X5_join h a cI cJ cZ u.1 v_made u.2.1 u.2.2.1 v_isOriginal u.2.2.2.1 u.2.2.2.2 v_heart v_width v_sheets v_covered)) u hx hb hr hlocks g1 g2 g3 g4 d
  generalize (MQ below (va_Qi (fun r (u : Int32 × (Nat → Int32) × (Nat → Int32) × (Nat → Int32) × (Nat → Int32)) => post r u.1 u.2.1 u.2.2.1 u.2.2.2.1 u.2.2.2.2) (fun u t => POST D A (W_X5_join h a cI cJ cZ u.1 v_made u.2.1 u.2.2.1 v_isOriginal u.2.2.2.1 u.2.2.2.2 v_heart v_width v_sheets v_covered) t) A) args s 0 0 A) = QQ at RT ⊢
  have hl : lv_has ls 7 [(0, .ref h), (1, .int p1), (2, .int p2)] := hl
  have hP : va_P D vwCl (W_X5_join h a cI cJ cZ v_thrown v_made v_of v_many v_isOriginal v_things v_history v_heart v_width v_sheets v_covered) s.heap := hP
  unfold wp_X5_join at hw
  suffices GO : ∀ (H : Heap) (locs : List Loc), va_P D vwCl (W_X5_join h a cI cJ cZ v_thrown v_made v_of v_many v_isOriginal v_things v_history v_heart v_width v_sheets v_covered) H → va_S A s.heap H locs → W p l e rm_X5_join s m args below meth c H locs 0 0 QQ (F0 m 0 ls []) from GO _ _ hP hS
  clear hsz hP hS
  intro H locs hP hS
  have L148 : ∀ s0 : (Int32 × Int32 × (Nat → Int32)), lp (lF_X5_join_148 v_thrown v_made v_of v_many v_isOriginal v_things v_history p1 p2 post) s0 → ∀ (H : Heap) (locs : List Loc) (ls : Array Slot), va_P D vwCl (W_X5_join h a cI cJ cZ s0.2.1 v_made s0.2.2 v_many v_isOriginal v_things v_history v_heart v_width v_sheets v_covered) H → va_D A (W_X5_join h a cI cJ cZ s0.2.1 v_made s0.2.2 v_many v_isOriginal v_things v_history v_heart v_width v_sheets v_covered) → va_S A s.heap H locs → lv_has ls 7 [(0, .ref h), (1, .int p1), (2, .int p2), (6, .int s0.1)] → W p l e rm_X5_join s m args below meth c H locs 0 0 QQ (F0 m 148 ls []) := by
    refine lp_elim (fun K148 ih148 s0 hw => ?_)
    obtain ⟨x6_j148, v_thrown_j148, v_of_j148⟩ := s0
    intro H locs ls hP hD hS hl
    have hw : wp_X5_join_148 v_thrown v_made v_of v_many v_isOriginal v_things v_history p1 p2 post (fun b0 b1 b2 => K148 (b0, b1, b2)) x6_j148 v_thrown_j148 v_of_j148 := hw
    have hP : va_P D vwCl (W_X5_join h a cI cJ cZ v_thrown_j148 v_made v_of_j148 v_many v_isOriginal v_things v_history v_heart v_width v_sheets v_covered) H := hP
    have hD : va_D A (W_X5_join h a cI cJ cZ v_thrown_j148 v_made v_of_j148 v_many v_isOriginal v_things v_history v_heart v_width v_sheets v_covered) := hD
    have hl : lv_has ls 7 [(0, .ref h), (1, .int p1), (2, .int p2), (6, .int x6_j148)] := hl
    have J184 : ∀ (s1_j184 : Int32) (s2_j184 : Int32) (x6_j184 : Int32) (v_thrown_j184 : Int32) (v_of_j184 : Nat → Int32) , wp_X5_join_184 v_thrown v_made v_of v_many v_isOriginal v_things v_history p1 p2 post (fun b0 b1 b2 => K148 (b0, b1, b2)) s1_j184 s2_j184 x6_j184 v_thrown_j184 v_of_j184 → ∀ (H : Heap) (locs : List Loc) (ls : Array Slot), va_P D vwCl (W_X5_join h a cI cJ cZ v_thrown_j184 v_made v_of_j184 v_many v_isOriginal v_things v_history v_heart v_width v_sheets v_covered) H → va_D A (W_X5_join h a cI cJ cZ v_thrown_j184 v_made v_of_j184 v_many v_isOriginal v_things v_history v_heart v_width v_sheets v_covered) → va_S A s.heap H locs → lv_has ls 7 [(0, .ref h), (1, .int p1), (2, .int p2), (6, .int x6_j184)] → W p l e rm_X5_join s m args below meth c H locs 0 0 QQ (F0 m 184 ls [.int s2_j184, .int s1_j184, .ref (a 2)]) := by
      intro s1_j184 s2_j184 x6_j184 v_thrown_j184 v_of_j184 hw H locs ls hP hD hS hl
      unfold wp_X5_join_184 at hw
      obtain ⟨hi_184, hw⟩ := hw
      refine st_i hx hb hK hP hD hS 1 0 rfl rfl hi_184 dX5_join_184 (fun v_of_t184 ev_of_t184 H locs hP hD hS => ?_)
      have hw := hw v_of_t184 ev_of_t184
      have hP : va_P D vwCl (W_X5_join h a cI cJ cZ v_thrown_j184 v_made v_of_t184 v_many v_isOriginal v_things v_history v_heart v_width v_sheets v_covered) H := hP
      have hD : va_D A (W_X5_join h a cI cJ cZ v_thrown_j184 v_made v_of_t184 v_many v_isOriginal v_things v_history v_heart v_width v_sheets v_covered) := hD
      refine lv_iinc (v := (x6_j184 + 1)) (lv' := [(6, .int (x6_j184 + 1)), (0, .ref h), (1, .int p1), (2, .int p2)]) hx hb dX5_join_185 hl (k := 3) rfl rfl (by decide) rfl (fun ls hl => ?_)
      refine lv_goto (tgt := 148) hx hb dX5_join_188 (by decide) ?_
      exact ih148 ((x6_j184 + 1), v_thrown_j184, v_of_t184) hw _ _ ls hP hD hS (lv_sub hl [1, 2, 3, 0] rfl)
    unfold wp_X5_join_148 at hw
    refine lv_iload hx hb dX5_join_148 (lv_at hl 3 rfl) ?_
    refine lv_sipush (v := 256) hx hb dX5_join_150 (by decide) ?_
    refine lv_icmp_ge (tgt := 191) hx hb dX5_join_153 (by decide) (fun c153 => ?_) (fun c153 => ?_)
    · have hw := hw.1 c153
      refine lv_aload_n hx hb dX5_join_191 rfl (lv_at hl 0 rfl) ?_
      refine va_get (D := D) (ci := 6) (v := .ref (a 3)) (C := RX5) (T := TX5) (N := 24) hx hb hts iRX5 hown hK hP 0 rfl rfl 3 (by decide) (hts (.fieldLink RX5 17 "LeadlightModel" "many" "[I") (List.mem_of_getElem? (i := 3) rfl)) (fun _ h9 => h9) rfl dX5_join_192 ?_
      refine lv_iload_n hx hb dX5_join_195 rfl (lv_at hl 1 rfl) ?_
      refine lv_dup2_11 hx hb dX5_join_196 rfl rfl ?_
      obtain ⟨hi_197, hw⟩ := hw
      refine va_iald hx hb hK hP 2 0 rfl rfl hi_197 dX5_join_197 ?_
      refine lv_aload_n hx hb dX5_join_198 rfl (lv_at hl 0 rfl) ?_
      refine va_get (D := D) (ci := 6) (v := .ref (a 3)) (C := RX5) (T := TX5) (N := 24) hx hb hts iRX5 hown hK hP 0 rfl rfl 3 (by decide) (hts (.fieldLink RX5 17 "LeadlightModel" "many" "[I") (List.mem_of_getElem? (i := 3) rfl)) (fun _ h9 => h9) rfl dX5_join_199 ?_
      refine lv_iload_n hx hb dX5_join_202 rfl (lv_at hl 2 rfl) ?_
      obtain ⟨hi_203, hw⟩ := hw
      refine va_iald hx hb hK hP 2 0 rfl rfl hi_203 dX5_join_203 ?_
      refine lv_iadd hx hb dX5_join_204 ?_
      obtain ⟨hi_205, hw⟩ := hw
      refine st_i hx hb hK hP hD hS 2 0 rfl rfl hi_205 dX5_join_205 (fun v_many_t205 ev_many_t205 H locs hP hD hS => ?_)
      have hw := hw v_many_t205 ev_many_t205
      have hP : va_P D vwCl (W_X5_join h a cI cJ cZ v_thrown_j148 v_made v_of_j148 v_many_t205 v_isOriginal v_things v_history v_heart v_width v_sheets v_covered) H := hP
      have hD : va_D A (W_X5_join h a cI cJ cZ v_thrown_j148 v_made v_of_j148 v_many_t205 v_isOriginal v_things v_history v_heart v_width v_sheets v_covered) := hD
      refine lv_aload_n hx hb dX5_join_206 rfl (lv_at hl 0 rfl) ?_
      refine va_get (D := D) (ci := 6) (v := .ref (a 3)) (C := RX5) (T := TX5) (N := 24) hx hb hts iRX5 hown hK hP 0 rfl rfl 3 (by decide) (hts (.fieldLink RX5 17 "LeadlightModel" "many" "[I") (List.mem_of_getElem? (i := 3) rfl)) (fun _ h9 => h9) rfl dX5_join_207 ?_
      refine lv_iload_n hx hb dX5_join_210 rfl (lv_at hl 2 rfl) ?_
      refine lv_iconst (v := 0) hx hb dX5_join_211 (by decide) ?_
      obtain ⟨hi_212, hw⟩ := hw
      refine st_i hx hb hK hP hD hS 2 0 rfl rfl hi_212 dX5_join_212 (fun v_many_t212 ev_many_t212 H locs hP hD hS => ?_)
      have hw := hw v_many_t212 ev_many_t212
      have hP : va_P D vwCl (W_X5_join h a cI cJ cZ v_thrown_j148 v_made v_of_j148 v_many_t212 v_isOriginal v_things v_history v_heart v_width v_sheets v_covered) H := hP
      have hD : va_D A (W_X5_join h a cI cJ cZ v_thrown_j148 v_made v_of_j148 v_many_t212 v_isOriginal v_things v_history v_heart v_width v_sheets v_covered) := hD
      refine lv_aload_n hx hb dX5_join_213 rfl (lv_at hl 0 rfl) ?_
      refine lv_iload_n hx hb dX5_join_214 rfl (lv_at hl 1 rfl) ?_
      refine lv_iconst (v := 2) hx hb dX5_join_215 (by decide) ?_
      refine af_v (X := (W_X5_join h a cI cJ cZ v_thrown_j148 v_made v_of_j148 v_many_t212 v_isOriginal v_things v_history v_heart v_width v_sheets v_covered)) (pl := []) (cx := (W_X5_note h a cI cJ cZ v_thrown_j148 v_made v_things v_history v_heart v_width v_sheets v_covered)) (w1 := fun (u : (Nat → Int32) × (Nat → Int32)) => (W_X5_note h a cI cJ cZ v_thrown_j148 v_made u.1 u.2 v_heart v_width v_sheets v_covered)) (X' := fun (u : (Nat → Int32) × (Nat → Int32)) => (W_X5_join h a cI cJ cZ v_thrown_j148 v_made v_of_j148 v_many_t212 v_isOriginal u.1 u.2 v_heart v_width v_sheets v_covered)) hP hD hS hA [0, 4, 5] [1, 2, 3] [3, 0, 1, 2, 4, 5] rfl rfl (by decide) (by decide) (fun u => rfl) (by decide) (va_runV (As := [.int p1, .int 2]) (rest := []) ⟨hx, hb, hml, hown, hts⟩ (c_X5_note l D cI cJ cZ cO h a H.size v_thrown_j148 v_made v_things v_history v_heart v_width v_sheets v_covered p1 2 _ hw) (cwV 2 hts gX5_join_X5_note rfl rfl rfl (by decide +kernel) ⟨Nat.le_of_ble_eq_true rfl, Nat.le_of_ble_eq_true rfl⟩) (preV (X := (W_X5_join h a cI cJ cZ v_thrown_j148 v_made v_of_j148 v_many_t212 v_isOriginal v_things v_history v_heart v_width v_sheets v_covered)) (pl := []) (cx := (W_X5_note h a cI cJ cZ v_thrown_j148 v_made v_things v_history v_heart v_width v_sheets v_covered)) (qb := 0) (ci := 6) hK hE hP hD [0, 4, 5] (by decide) rfl rfl rfl) rfl rfl hl.1 rfl (lv_room (Nat.le_of_ble_eq_true rfl)) dX5_join_216 ⟨Nat.zero_le _, Nat.zero_le _⟩) (fun u H locs hw hP hD hS => ?_)
      obtain ⟨v_things_c216, v_history_c216⟩ := u
      try dsimp only at hw
      have hP : va_P D vwCl (W_X5_join h a cI cJ cZ v_thrown_j148 v_made v_of_j148 v_many_t212 v_isOriginal v_things_c216 v_history_c216 v_heart v_width v_sheets v_covered) H := hP
      have hD : va_D A (W_X5_join h a cI cJ cZ v_thrown_j148 v_made v_of_j148 v_many_t212 v_isOriginal v_things_c216 v_history_c216 v_heart v_width v_sheets v_covered) := hD
      refine lv_aload_n hx hb dX5_join_219 rfl (lv_at hl 0 rfl) ?_
      refine lv_iload_n hx hb dX5_join_220 rfl (lv_at hl 2 rfl) ?_
      refine lv_iconst (v := 2) hx hb dX5_join_221 (by decide) ?_
      refine af_v (X := (W_X5_join h a cI cJ cZ v_thrown_j148 v_made v_of_j148 v_many_t212 v_isOriginal v_things_c216 v_history_c216 v_heart v_width v_sheets v_covered)) (pl := []) (cx := (W_X5_note h a cI cJ cZ v_thrown_j148 v_made v_things_c216 v_history_c216 v_heart v_width v_sheets v_covered)) (w1 := fun (u : (Nat → Int32) × (Nat → Int32)) => (W_X5_note h a cI cJ cZ v_thrown_j148 v_made u.1 u.2 v_heart v_width v_sheets v_covered)) (X' := fun (u : (Nat → Int32) × (Nat → Int32)) => (W_X5_join h a cI cJ cZ v_thrown_j148 v_made v_of_j148 v_many_t212 v_isOriginal u.1 u.2 v_heart v_width v_sheets v_covered)) hP hD hS hA [0, 4, 5] [1, 2, 3] [3, 0, 1, 2, 4, 5] rfl rfl (by decide) (by decide) (fun u => rfl) (by decide) (va_runV (As := [.int p2, .int 2]) (rest := []) ⟨hx, hb, hml, hown, hts⟩ (c_X5_note l D cI cJ cZ cO h a H.size v_thrown_j148 v_made v_things_c216 v_history_c216 v_heart v_width v_sheets v_covered p2 2 _ hw) (cwV 2 hts gX5_join_X5_note rfl rfl rfl (by decide +kernel) ⟨Nat.le_of_ble_eq_true rfl, Nat.le_of_ble_eq_true rfl⟩) (preV (X := (W_X5_join h a cI cJ cZ v_thrown_j148 v_made v_of_j148 v_many_t212 v_isOriginal v_things_c216 v_history_c216 v_heart v_width v_sheets v_covered)) (pl := []) (cx := (W_X5_note h a cI cJ cZ v_thrown_j148 v_made v_things_c216 v_history_c216 v_heart v_width v_sheets v_covered)) (qb := 0) (ci := 6) hK hE hP hD [0, 4, 5] (by decide) rfl rfl rfl) rfl rfl hl.1 rfl (lv_room (Nat.le_of_ble_eq_true rfl)) dX5_join_222 ⟨Nat.zero_le _, Nat.zero_le _⟩) (fun u H locs hw hP hD hS => ?_)
      obtain ⟨v_things_c222, v_history_c222⟩ := u
      try dsimp only at hw
      have hP : va_P D vwCl (W_X5_join h a cI cJ cZ v_thrown_j148 v_made v_of_j148 v_many_t212 v_isOriginal v_things_c222 v_history_c222 v_heart v_width v_sheets v_covered) H := hP
      have hD : va_D A (W_X5_join h a cI cJ cZ v_thrown_j148 v_made v_of_j148 v_many_t212 v_isOriginal v_things_c222 v_history_c222 v_heart v_width v_sheets v_covered) := hD
      refine lv_aload_n hx hb dX5_join_225 rfl (lv_at hl 0 rfl) ?_
      refine va_get (D := D) (ci := 6) (v := .ref (a 3)) (C := RX5) (T := TX5) (N := 24) hx hb hts iRX5 hown hK hP 0 rfl rfl 3 (by decide) (hts (.fieldLink RX5 17 "LeadlightModel" "many" "[I") (List.mem_of_getElem? (i := 3) rfl)) (fun _ h9 => h9) rfl dX5_join_226 ?_
      refine lv_iload_n hx hb dX5_join_229 rfl (lv_at hl 1 rfl) ?_
      obtain ⟨hi_230, hw⟩ := hw
      refine va_iald hx hb hK hP 2 0 rfl rfl hi_230 dX5_join_230 ?_
      exact RT (v_many_t212 p1.toNatClampNeg) (v_thrown_j148, v_of_j148, v_many_t212, v_things_c222, v_history_c222) _ _ _ _ dX5_join_231 hw hP hD hS
    · have hw := hw.2 c153
      refine lv_aload_n hx hb dX5_join_156 rfl (lv_at hl 0 rfl) ?_
      refine va_get (D := D) (ci := 6) (v := .ref (a 2)) (C := RX5) (T := TX5) (N := 24) hx hb hts iRX5 hown hK hP 0 rfl rfl 2 (by decide) (hts (.fieldLink RX5 13 "LeadlightModel" "of" "[I") (List.mem_of_getElem? (i := 1) rfl)) (fun _ h9 => h9) rfl dX5_join_157 ?_
      refine lv_iload hx hb dX5_join_160 (lv_at hl 3 rfl) ?_
      refine lv_aload_n hx hb dX5_join_162 rfl (lv_at hl 0 rfl) ?_
      refine va_get (D := D) (ci := 6) (v := .ref (a 2)) (C := RX5) (T := TX5) (N := 24) hx hb hts iRX5 hown hK hP 0 rfl rfl 2 (by decide) (hts (.fieldLink RX5 13 "LeadlightModel" "of" "[I") (List.mem_of_getElem? (i := 1) rfl)) (fun _ h9 => h9) rfl dX5_join_163 ?_
      refine lv_iload hx hb dX5_join_166 (lv_at hl 3 rfl) ?_
      obtain ⟨hi_168, hw⟩ := hw
      refine va_iald hx hb hK hP 1 0 rfl rfl hi_168 dX5_join_168 ?_
      refine lv_iload_n hx hb dX5_join_169 rfl (lv_at hl 2 rfl) ?_
      refine lv_icmp_ne (tgt := 177) hx hb dX5_join_170 (by decide) (fun c170 => ?_) (fun c170 => ?_)
      · have hw := hw.2 c170
        refine lv_aload_n hx hb dX5_join_177 rfl (lv_at hl 0 rfl) ?_
        refine va_get (D := D) (ci := 6) (v := .ref (a 2)) (C := RX5) (T := TX5) (N := 24) hx hb hts iRX5 hown hK hP 0 rfl rfl 2 (by decide) (hts (.fieldLink RX5 13 "LeadlightModel" "of" "[I") (List.mem_of_getElem? (i := 1) rfl)) (fun _ h9 => h9) rfl dX5_join_178 ?_
        refine lv_iload hx hb dX5_join_181 (lv_at hl 3 rfl) ?_
        obtain ⟨hi_183, hw⟩ := hw
        refine va_iald hx hb hK hP 1 0 rfl rfl hi_183 dX5_join_183 ?_
        exact J184 x6_j148 (v_of_j148 x6_j148.toNatClampNeg) x6_j148 v_thrown_j148 v_of_j148 hw _ _ ls hP hD hS (lv_sub hl [0, 1, 2, 3] rfl)
      · have hw := hw.1 c170
        refine lv_iload_n hx hb dX5_join_173 rfl (lv_at hl 1 rfl) ?_
        refine lv_goto (tgt := 184) hx hb dX5_join_174 (by decide) ?_
        exact J184 x6_j148 p1 x6_j148 v_thrown_j148 v_of_j148 hw _ _ ls hP hD hS (lv_sub hl [0, 1, 2, 3] rfl)
  have J137 : ∀ (s1_j137 : Int32) , wp_X5_join_137 v_thrown v_made v_of v_many v_isOriginal v_things v_history p1 p2 post s1_j137 → ∀ (H : Heap) (locs : List Loc) (ls : Array Slot), va_P D vwCl (W_X5_join h a cI cJ cZ v_thrown v_made v_of v_many v_isOriginal v_things v_history v_heart v_width v_sheets v_covered) H → va_D A (W_X5_join h a cI cJ cZ v_thrown v_made v_of v_many v_isOriginal v_things v_history v_heart v_width v_sheets v_covered) → va_S A s.heap H locs → lv_has ls 7 [(0, .ref h), (1, .int p1), (2, .int p2)] → W p l e rm_X5_join s m args below meth c H locs 0 0 QQ (F0 m 137 ls [.int s1_j137, .ref h]) := by
    intro s1_j137 hw H locs ls hP hD hS hl
    unfold wp_X5_join_137 at hw
    refine af_i (X := (W_X5_join h a cI cJ cZ v_thrown v_made v_of v_many v_isOriginal v_things v_history v_heart v_width v_sheets v_covered)) (pl := []) (cx := (W_X5_goesWell h a cI cJ cZ v_thrown v_made v_heart v_width v_sheets v_covered)) (w1 := fun (u : Int32) => (W_X5_goesWell h a cI cJ cZ u v_made v_heart v_width v_sheets v_covered)) (X' := fun (u : Int32) => (W_X5_join h a cI cJ cZ u v_made v_of v_many v_isOriginal v_things v_history v_heart v_width v_sheets v_covered)) hP hD hS hA [0] [1, 2, 3, 4, 5] [5, 0, 1, 2, 3, 4] rfl rfl (by decide) (by decide) (fun u => rfl) (by decide) (va_runV (As := [.int s1_j137]) (rest := []) ⟨hx, hb, hml, hown, hts⟩ (c_X5_goesWell l D cI cJ cZ cO h a H.size v_thrown v_made v_heart v_width v_sheets v_covered s1_j137 _ hw) (cwV 1 hts gX5_join_X5_goesWell rfl rfl rfl (by decide +kernel) ⟨Nat.le_of_ble_eq_true rfl, Nat.le_of_ble_eq_true rfl⟩) (preV (X := (W_X5_join h a cI cJ cZ v_thrown v_made v_of v_many v_isOriginal v_things v_history v_heart v_width v_sheets v_covered)) (pl := []) (cx := (W_X5_goesWell h a cI cJ cZ v_thrown v_made v_heart v_width v_sheets v_covered)) (qb := 0) (ci := 6) hK hE hP hD [0] (by decide) rfl rfl rfl) rfl rfl hl.1 rfl (lv_room (Nat.le_of_ble_eq_true rfl)) dX5_join_137 ⟨Nat.zero_le _, Nat.zero_le _⟩) (fun r_137 v_thrown_c137 H locs hw hP hD hS => ?_)
    try dsimp only at hw
    have hP : va_P D vwCl (W_X5_join h a cI cJ cZ v_thrown_c137 v_made v_of v_many v_isOriginal v_things v_history v_heart v_width v_sheets v_covered) H := hP
    have hD : va_D A (W_X5_join h a cI cJ cZ v_thrown_c137 v_made v_of v_many v_isOriginal v_things v_history v_heart v_width v_sheets v_covered) := hD
    refine lv_if_ne (tgt := 145) hx hb dX5_join_140 (by decide) (fun c140 => ?_) (fun c140 => ?_)
    · have hw := hw.2 c140
      refine lv_iconst (v := 0) hx hb dX5_join_145 (by decide) ?_
      refine lv_istore (lv' := [(6, .int 0), (0, .ref h), (1, .int p1), (2, .int p2)]) hx hb dX5_join_146 hl (by decide) rfl (fun ls hl => ?_)
      exact L148 (0, v_thrown_c137, v_of) hw _ _ ls hP hD hS (lv_sub hl [1, 2, 3, 0] rfl)
    · have hw := hw.1 c140
      refine lv_iconst (v := 0) hx hb dX5_join_143 (by decide) ?_
      exact RT 0 (v_thrown_c137, v_of, v_many, v_things, v_history) _ _ _ _ dX5_join_144 hw hP hD hS
  have J116 : ∀ (s0_j116 : Int32) (x3_j116 : Int32) , wp_X5_join_116 v_thrown v_made v_of v_many v_isOriginal v_things v_history p1 p2 post s0_j116 x3_j116 → ∀ (H : Heap) (locs : List Loc) (ls : Array Slot), va_P D vwCl (W_X5_join h a cI cJ cZ v_thrown v_made v_of v_many v_isOriginal v_things v_history v_heart v_width v_sheets v_covered) H → va_D A (W_X5_join h a cI cJ cZ v_thrown v_made v_of v_many v_isOriginal v_things v_history v_heart v_width v_sheets v_covered) → va_S A s.heap H locs → lv_has ls 7 [(0, .ref h), (1, .int p1), (2, .int p2), (3, .int x3_j116)] → W p l e rm_X5_join s m args below meth c H locs 0 0 QQ (F0 m 116 ls [.int s0_j116]) := by
    intro s0_j116 x3_j116 hw H locs ls hP hD hS hl
    unfold wp_X5_join_116 at hw
    refine lv_istore (lv' := [(5, .int s0_j116), (0, .ref h), (1, .int p1), (2, .int p2), (3, .int x3_j116)]) hx hb dX5_join_116 hl (by decide) rfl (fun ls hl => ?_)
    refine lv_aload_n hx hb dX5_join_118 rfl (lv_at hl 1 rfl) ?_
    refine lv_iload_n hx hb dX5_join_119 rfl (lv_at hl 4 rfl) ?_
    refine lv_if_ne (tgt := 127) hx hb dX5_join_120 (by decide) (fun c120 => ?_) (fun c120 => ?_)
    · have hw := hw.2 c120
      refine lv_iload hx hb dX5_join_127 (lv_at hl 0 rfl) ?_
      refine lv_if_eq (tgt := 136) hx hb dX5_join_129 (by decide) (fun c129 => ?_) (fun c129 => ?_)
      · have hw := hw.1 c129
        refine lv_iconst (v := 2) hx hb dX5_join_136 (by decide) ?_
        exact J137 2 hw _ _ ls hP hD hS (lv_sub hl [1, 2, 3] rfl)
      · have hw := hw.2 c129
        refine lv_iconst (v := 0) hx hb dX5_join_132 (by decide) ?_
        refine lv_goto (tgt := 137) hx hb dX5_join_133 (by decide) ?_
        exact J137 0 hw _ _ ls hP hD hS (lv_sub hl [1, 2, 3] rfl)
    · have hw := hw.1 c120
      refine lv_iconst (v := 1) hx hb dX5_join_123 (by decide) ?_
      refine lv_goto (tgt := 137) hx hb dX5_join_124 (by decide) ?_
      exact J137 1 hw _ _ ls hP hD hS (lv_sub hl [1, 2, 3] rfl)
  have J79 : ∀ (x3_j79 : Int32) (x4_j79 : Int32) , wp_X5_join_79 v_thrown v_made v_of v_many v_isOriginal v_things v_history p1 p2 post x3_j79 x4_j79 → ∀ (H : Heap) (locs : List Loc) (ls : Array Slot), va_P D vwCl (W_X5_join h a cI cJ cZ v_thrown v_made v_of v_many v_isOriginal v_things v_history v_heart v_width v_sheets v_covered) H → va_D A (W_X5_join h a cI cJ cZ v_thrown v_made v_of v_many v_isOriginal v_things v_history v_heart v_width v_sheets v_covered) → va_S A s.heap H locs → lv_has ls 7 [(0, .ref h), (1, .int p1), (2, .int p2), (3, .int x3_j79), (4, .int x4_j79)] → W p l e rm_X5_join s m args below meth c H locs 0 0 QQ (F0 m 79 ls []) := by
    intro x3_j79 x4_j79 hw H locs ls hP hD hS hl
    unfold wp_X5_join_79 at hw
    refine lv_iload_n hx hb dX5_join_79 rfl (lv_at hl 3 rfl) ?_
    refine lv_if_eq (tgt := 115) hx hb dX5_join_80 (by decide) (fun c80 => ?_) (fun c80 => ?_)
    · have hw := hw.1 c80
      refine lv_iconst (v := 0) hx hb dX5_join_115 (by decide) ?_
      exact J116 0 x3_j79 hw _ _ ls hP hD hS (lv_sub hl [0, 1, 2, 3] rfl)
    · have hw := hw.2 c80
      refine lv_iload_n hx hb dX5_join_83 rfl (lv_at hl 1 rfl) ?_
      refine lv_iload_n hx hb dX5_join_84 rfl (lv_at hl 2 rfl) ?_
      refine lv_icmp_eq (tgt := 115) hx hb dX5_join_85 (by decide) (fun c85 => ?_) (fun c85 => ?_)
      · have hw := hw.1 c85
        refine lv_iconst (v := 0) hx hb dX5_join_115 (by decide) ?_
        exact J116 0 x3_j79 hw _ _ ls hP hD hS (lv_sub hl [0, 1, 2, 3] rfl)
      · have hw := hw.2 c85
        refine lv_iload hx hb dX5_join_88 (lv_at hl 4 rfl) ?_
        refine lv_if_eq (tgt := 115) hx hb dX5_join_90 (by decide) (fun c90 => ?_) (fun c90 => ?_)
        · have hw := hw.1 c90
          refine lv_iconst (v := 0) hx hb dX5_join_115 (by decide) ?_
          exact J116 0 x3_j79 hw _ _ ls hP hD hS (lv_sub hl [0, 1, 2, 3] rfl)
        · have hw := hw.2 c90
          refine lv_aload_n hx hb dX5_join_93 rfl (lv_at hl 0 rfl) ?_
          refine va_get (D := D) (ci := 6) (v := .ref (a 5)) (C := RX5) (T := TX5) (N := 24) hx hb hts iRX5 hown hK hP 0 rfl rfl 5 (by decide) (hts (.fieldLink RX5 23 "LeadlightModel" "isOriginal" "[Z") (List.mem_of_getElem? (i := 2) rfl)) (fun _ h9 => h9) rfl dX5_join_94 ?_
          refine lv_iload_n hx hb dX5_join_97 rfl (lv_at hl 1 rfl) ?_
          obtain ⟨hi_98, hw⟩ := hw
          refine va_zald hx hb hK hP 3 2 rfl rfl hi_98 dX5_join_98 ?_
          refine lv_if_ne (tgt := 115) hx hb dX5_join_99 (by decide) (fun c99 => ?_) (fun c99 => ?_)
          · have hw := hw.2 c99
            refine lv_iconst (v := 0) hx hb dX5_join_115 (by decide) ?_
            exact J116 0 x3_j79 hw _ _ ls hP hD hS (lv_sub hl [0, 1, 2, 3] rfl)
          · have hw := hw.1 c99
            refine lv_aload_n hx hb dX5_join_102 rfl (lv_at hl 0 rfl) ?_
            refine va_get (D := D) (ci := 6) (v := .ref (a 5)) (C := RX5) (T := TX5) (N := 24) hx hb hts iRX5 hown hK hP 0 rfl rfl 5 (by decide) (hts (.fieldLink RX5 23 "LeadlightModel" "isOriginal" "[Z") (List.mem_of_getElem? (i := 2) rfl)) (fun _ h9 => h9) rfl dX5_join_103 ?_
            refine lv_iload_n hx hb dX5_join_106 rfl (lv_at hl 2 rfl) ?_
            obtain ⟨hi_107, hw⟩ := hw
            refine va_zald hx hb hK hP 3 2 rfl rfl hi_107 dX5_join_107 ?_
            refine lv_if_ne (tgt := 115) hx hb dX5_join_108 (by decide) (fun c108 => ?_) (fun c108 => ?_)
            · have hw := hw.2 c108
              refine lv_iconst (v := 0) hx hb dX5_join_115 (by decide) ?_
              exact J116 0 x3_j79 hw _ _ ls hP hD hS (lv_sub hl [0, 1, 2, 3] rfl)
            · have hw := hw.1 c108
              refine lv_iconst (v := 1) hx hb dX5_join_111 (by decide) ?_
              refine lv_goto (tgt := 116) hx hb dX5_join_112 (by decide) ?_
              exact J116 1 x3_j79 hw _ _ ls hP hD hS (lv_sub hl [0, 1, 2, 3] rfl)
  have L28 : ∀ s0 : (Int32 × Int32 × Int32), lp (lF_X5_join_28 v_thrown v_made v_of v_many v_isOriginal v_things v_history p1 p2 post) s0 → ∀ (H : Heap) (locs : List Loc) (ls : Array Slot), va_P D vwCl (W_X5_join h a cI cJ cZ v_thrown v_made v_of v_many v_isOriginal v_things v_history v_heart v_width v_sheets v_covered) H → va_D A (W_X5_join h a cI cJ cZ v_thrown v_made v_of v_many v_isOriginal v_things v_history v_heart v_width v_sheets v_covered) → va_S A s.heap H locs → lv_has ls 7 [(0, .ref h), (1, .int p1), (2, .int p2), (3, .int s0.1), (4, .int s0.2.1), (5, .int s0.2.2)] → W p l e rm_X5_join s m args below meth c H locs 0 0 QQ (F0 m 28 ls []) := by
    refine lp_elim (fun K28 ih28 s0 hw => ?_)
    obtain ⟨x3_j28, x4_j28, x5_j28⟩ := s0
    intro H locs ls hP hD hS hl
    have hw : wp_X5_join_28 v_thrown v_made v_of v_many v_isOriginal v_things v_history p1 p2 post (fun b0 b1 b2 => K28 (b0, b1, b2)) x3_j28 x4_j28 x5_j28 := hw
    have hP : va_P D vwCl (W_X5_join h a cI cJ cZ v_thrown v_made v_of v_many v_isOriginal v_things v_history v_heart v_width v_sheets v_covered) H := hP
    have hD : va_D A (W_X5_join h a cI cJ cZ v_thrown v_made v_of v_many v_isOriginal v_things v_history v_heart v_width v_sheets v_covered) := hD
    have hl : lv_has ls 7 [(0, .ref h), (1, .int p1), (2, .int p2), (3, .int x3_j28), (4, .int x4_j28), (5, .int x5_j28)] := hl
    have J71 : ∀ (s0_j71 : Int32) (x3_j71 : Int32) (x5_j71 : Int32) , wp_X5_join_71 v_thrown v_made v_of v_many v_isOriginal v_things v_history p1 p2 post (fun b0 b1 b2 => K28 (b0, b1, b2)) s0_j71 x3_j71 x5_j71 → ∀ (H : Heap) (locs : List Loc) (ls : Array Slot), va_P D vwCl (W_X5_join h a cI cJ cZ v_thrown v_made v_of v_many v_isOriginal v_things v_history v_heart v_width v_sheets v_covered) H → va_D A (W_X5_join h a cI cJ cZ v_thrown v_made v_of v_many v_isOriginal v_things v_history v_heart v_width v_sheets v_covered) → va_S A s.heap H locs → lv_has ls 7 [(0, .ref h), (1, .int p1), (2, .int p2), (3, .int x3_j71), (5, .int x5_j71)] → W p l e rm_X5_join s m args below meth c H locs 0 0 QQ (F0 m 71 ls [.int s0_j71]) := by
      intro s0_j71 x3_j71 x5_j71 hw H locs ls hP hD hS hl
      unfold wp_X5_join_71 at hw
      refine lv_istore (lv' := [(4, .int s0_j71), (0, .ref h), (1, .int p1), (2, .int p2), (3, .int x3_j71), (5, .int x5_j71)]) hx hb dX5_join_71 hl (by decide) rfl (fun ls hl => ?_)
      refine lv_iinc (v := (x5_j71 + 1)) (lv' := [(5, .int (x5_j71 + 1)), (4, .int s0_j71), (0, .ref h), (1, .int p1), (2, .int p2), (3, .int x3_j71)]) hx hb dX5_join_73 hl (k := 5) rfl rfl (by decide) rfl (fun ls hl => ?_)
      refine lv_goto (tgt := 28) hx hb dX5_join_76 (by decide) ?_
      exact ih28 (x3_j71, s0_j71, (x5_j71 + 1)) hw _ _ ls hP hD hS (lv_sub hl [2, 3, 4, 5, 1, 0] rfl)
    unfold wp_X5_join_28 at hw
    refine lv_iload hx hb dX5_join_28 (lv_at hl 5 rfl) ?_
    refine lv_sipush (v := 256) hx hb dX5_join_30 (by decide) ?_
    refine lv_icmp_ge (tgt := 79) hx hb dX5_join_33 (by decide) (fun c33 => ?_) (fun c33 => ?_)
    · have hw := hw.1 c33
      exact J79 x3_j28 x4_j28 hw _ _ ls hP hD hS (lv_sub hl [0, 1, 2, 3, 4] rfl)
    · have hw := hw.2 c33
      refine lv_iload_n hx hb dX5_join_36 rfl (lv_at hl 3 rfl) ?_
      refine lv_if_eq (tgt := 79) hx hb dX5_join_37 (by decide) (fun c37 => ?_) (fun c37 => ?_)
      · have hw := hw.1 c37
        exact J79 x3_j28 x4_j28 hw _ _ ls hP hD hS (lv_sub hl [0, 1, 2, 3, 4] rfl)
      · have hw := hw.2 c37
        refine lv_iload hx hb dX5_join_40 (lv_at hl 4 rfl) ?_
        refine lv_if_ne (tgt := 66) hx hb dX5_join_42 (by decide) (fun c42 => ?_) (fun c42 => ?_)
        · have hw := hw.2 c42
          refine lv_iconst (v := 1) hx hb dX5_join_66 (by decide) ?_
          refine lv_goto (tgt := 71) hx hb dX5_join_67 (by decide) ?_
          exact J71 1 x3_j28 x5_j28 hw _ _ ls hP hD hS (lv_sub hl [0, 1, 2, 3, 5] rfl)
        · have hw := hw.1 c42
          refine lv_aload_n hx hb dX5_join_45 rfl (lv_at hl 0 rfl) ?_
          refine va_get (D := D) (ci := 6) (v := .ref (a 2)) (C := RX5) (T := TX5) (N := 24) hx hb hts iRX5 hown hK hP 0 rfl rfl 2 (by decide) (hts (.fieldLink RX5 13 "LeadlightModel" "of" "[I") (List.mem_of_getElem? (i := 1) rfl)) (fun _ h9 => h9) rfl dX5_join_46 ?_
          refine lv_iload hx hb dX5_join_49 (lv_at hl 5 rfl) ?_
          obtain ⟨hi_51, hw⟩ := hw
          refine va_iald hx hb hK hP 1 0 rfl rfl hi_51 dX5_join_51 ?_
          refine lv_iload_n hx hb dX5_join_52 rfl (lv_at hl 1 rfl) ?_
          refine lv_icmp_ne (tgt := 70) hx hb dX5_join_53 (by decide) (fun c53 => ?_) (fun c53 => ?_)
          · have hw := hw.2 c53
            refine lv_iconst (v := 0) hx hb dX5_join_70 (by decide) ?_
            exact J71 0 x3_j28 x5_j28 hw _ _ ls hP hD hS (lv_sub hl [0, 1, 2, 3, 5] rfl)
          · have hw := hw.1 c53
            refine lv_aload_n hx hb dX5_join_56 rfl (lv_at hl 0 rfl) ?_
            refine lv_iload hx hb dX5_join_57 (lv_at hl 5 rfl) ?_
            refine lv_iload_n hx hb dX5_join_59 rfl (lv_at hl 2 rfl) ?_
            refine af_i (X := (W_X5_join h a cI cJ cZ v_thrown v_made v_of v_many v_isOriginal v_things v_history v_heart v_width v_sheets v_covered)) (pl := []) (cx := (W_X5_isBeside h a cI cJ cZ v_thrown v_made v_of v_heart v_width v_sheets v_covered)) (w1 := fun (u : Unit) => (W_X5_isBeside h a cI cJ cZ v_thrown v_made v_of v_heart v_width v_sheets v_covered)) (X' := fun (u : Unit) => (W_X5_join h a cI cJ cZ v_thrown v_made v_of v_many v_isOriginal v_things v_history v_heart v_width v_sheets v_covered)) hP hD hS hA [0, 1] [2, 3, 4, 5] [4, 5, 0, 1, 2, 3] rfl rfl (by decide) (by decide) (fun u => rfl) (by decide) (va_runV (As := [.int x5_j28, .int p2]) (rest := []) ⟨hx, hb, hml, hown, hts⟩ (c_X5_isBeside l D cI cJ cZ cO h a H.size v_thrown v_made v_of v_heart v_width v_sheets v_covered x5_j28 p2 _ hw) (cwV 2 hts gX5_join_X5_isBeside rfl rfl rfl (by decide +kernel) ⟨Nat.le_of_ble_eq_true rfl, Nat.le_of_ble_eq_true rfl⟩) (preV (X := (W_X5_join h a cI cJ cZ v_thrown v_made v_of v_many v_isOriginal v_things v_history v_heart v_width v_sheets v_covered)) (pl := []) (cx := (W_X5_isBeside h a cI cJ cZ v_thrown v_made v_of v_heart v_width v_sheets v_covered)) (qb := 0) (ci := 6) hK hE hP hD [0, 1] (by decide) rfl rfl rfl) rfl rfl hl.1 rfl (lv_room (Nat.le_of_ble_eq_true rfl)) dX5_join_60 ⟨Nat.zero_le _, Nat.zero_le _⟩) (fun r_60 _ H locs hw hP hD hS => ?_)
            try dsimp only at hw
            have hP : va_P D vwCl (W_X5_join h a cI cJ cZ v_thrown v_made v_of v_many v_isOriginal v_things v_history v_heart v_width v_sheets v_covered) H := hP
            have hD : va_D A (W_X5_join h a cI cJ cZ v_thrown v_made v_of v_many v_isOriginal v_things v_history v_heart v_width v_sheets v_covered) := hD
            refine lv_if_eq (tgt := 70) hx hb dX5_join_63 (by decide) (fun c63 => ?_) (fun c63 => ?_)
            · have hw := hw.1 c63
              refine lv_iconst (v := 0) hx hb dX5_join_70 (by decide) ?_
              exact J71 0 x3_j28 x5_j28 hw _ _ ls hP hD hS (lv_sub hl [0, 1, 2, 3, 5] rfl)
            · have hw := hw.2 c63
              refine lv_iconst (v := 1) hx hb dX5_join_66 (by decide) ?_
              refine lv_goto (tgt := 71) hx hb dX5_join_67 (by decide) ?_
              exact J71 1 x3_j28 x5_j28 hw _ _ ls hP hD hS (lv_sub hl [0, 1, 2, 3, 5] rfl)
  have J21 : ∀ (s0_j21 : Int32) , wp_X5_join_21 v_thrown v_made v_of v_many v_isOriginal v_things v_history p1 p2 post s0_j21 → ∀ (H : Heap) (locs : List Loc) (ls : Array Slot), va_P D vwCl (W_X5_join h a cI cJ cZ v_thrown v_made v_of v_many v_isOriginal v_things v_history v_heart v_width v_sheets v_covered) H → va_D A (W_X5_join h a cI cJ cZ v_thrown v_made v_of v_many v_isOriginal v_things v_history v_heart v_width v_sheets v_covered) → va_S A s.heap H locs → lv_has ls 7 [(0, .ref h), (1, .int p1), (2, .int p2)] → W p l e rm_X5_join s m args below meth c H locs 0 0 QQ (F0 m 21 ls [.int s0_j21]) := by
    intro s0_j21 hw H locs ls hP hD hS hl
    unfold wp_X5_join_21 at hw
    refine lv_istore_n (lv' := [(3, .int s0_j21), (0, .ref h), (1, .int p1), (2, .int p2)]) hx hb dX5_join_21 rfl hl (by decide) rfl (fun ls hl => ?_)
    refine lv_iconst (v := 0) hx hb dX5_join_22 (by decide) ?_
    refine lv_istore (lv' := [(4, .int 0), (3, .int s0_j21), (0, .ref h), (1, .int p1), (2, .int p2)]) hx hb dX5_join_23 hl (by decide) rfl (fun ls hl => ?_)
    refine lv_iconst (v := 0) hx hb dX5_join_25 (by decide) ?_
    refine lv_istore (lv' := [(5, .int 0), (4, .int 0), (3, .int s0_j21), (0, .ref h), (1, .int p1), (2, .int p2)]) hx hb dX5_join_26 hl (by decide) rfl (fun ls hl => ?_)
    exact L28 (s0_j21, 0, 0) hw _ _ ls hP hD hS (lv_sub hl [3, 4, 5, 2, 1, 0] rfl)
  refine lv_aload_n hx hb dX5_join_0 rfl (lv_at hl 0 rfl) ?_
  refine lv_iload_n hx hb dX5_join_1 rfl (lv_at hl 1 rfl) ?_
  refine af_i (X := (W_X5_join h a cI cJ cZ v_thrown v_made v_of v_many v_isOriginal v_things v_history v_heart v_width v_sheets v_covered)) (pl := []) (cx := (W_X5_isPiece h a cI cJ cZ v_thrown v_made v_many v_heart v_width v_sheets v_covered)) (w1 := fun (u : Unit) => (W_X5_isPiece h a cI cJ cZ v_thrown v_made v_many v_heart v_width v_sheets v_covered)) (X' := fun (u : Unit) => (W_X5_join h a cI cJ cZ v_thrown v_made v_of v_many v_isOriginal v_things v_history v_heart v_width v_sheets v_covered)) hP hD hS hA [0, 2] [1, 3, 4, 5] [4, 0, 5, 1, 2, 3] rfl rfl (by decide) (by decide) (fun u => rfl) (by decide) (va_runV (As := [.int p1]) (rest := []) ⟨hx, hb, hml, hown, hts⟩ (c_X5_isPiece l D cI cJ cZ cO h a H.size v_thrown v_made v_many v_heart v_width v_sheets v_covered p1 _ hw) (cwV 1 hts gX5_join_X5_isPiece rfl rfl rfl (by decide +kernel) ⟨Nat.le_of_ble_eq_true rfl, Nat.le_of_ble_eq_true rfl⟩) (preV (X := (W_X5_join h a cI cJ cZ v_thrown v_made v_of v_many v_isOriginal v_things v_history v_heart v_width v_sheets v_covered)) (pl := []) (cx := (W_X5_isPiece h a cI cJ cZ v_thrown v_made v_many v_heart v_width v_sheets v_covered)) (qb := 0) (ci := 6) hK hE hP hD [0, 2] (by decide) rfl rfl rfl) rfl rfl hl.1 rfl (lv_room (Nat.le_of_ble_eq_true rfl)) dX5_join_2 ⟨Nat.zero_le _, Nat.zero_le _⟩) (fun r_2 _ H locs hw hP hD hS => ?_)
  try dsimp only at hw
  have hP : va_P D vwCl (W_X5_join h a cI cJ cZ v_thrown v_made v_of v_many v_isOriginal v_things v_history v_heart v_width v_sheets v_covered) H := hP
  have hD : va_D A (W_X5_join h a cI cJ cZ v_thrown v_made v_of v_many v_isOriginal v_things v_history v_heart v_width v_sheets v_covered) := hD
  refine lv_if_eq (tgt := 20) hx hb dX5_join_5 (by decide) (fun c5 => ?_) (fun c5 => ?_)
  · have hw := hw.1 c5
    refine lv_iconst (v := 0) hx hb dX5_join_20 (by decide) ?_
    exact J21 0 hw _ _ ls hP hD hS (lv_sub hl [0, 1, 2] rfl)
  · have hw := hw.2 c5
    refine lv_aload_n hx hb dX5_join_8 rfl (lv_at hl 0 rfl) ?_
    refine lv_iload_n hx hb dX5_join_9 rfl (lv_at hl 2 rfl) ?_
    refine af_i (X := (W_X5_join h a cI cJ cZ v_thrown v_made v_of v_many v_isOriginal v_things v_history v_heart v_width v_sheets v_covered)) (pl := []) (cx := (W_X5_isPiece h a cI cJ cZ v_thrown v_made v_many v_heart v_width v_sheets v_covered)) (w1 := fun (u : Unit) => (W_X5_isPiece h a cI cJ cZ v_thrown v_made v_many v_heart v_width v_sheets v_covered)) (X' := fun (u : Unit) => (W_X5_join h a cI cJ cZ v_thrown v_made v_of v_many v_isOriginal v_things v_history v_heart v_width v_sheets v_covered)) hP hD hS hA [0, 2] [1, 3, 4, 5] [4, 0, 5, 1, 2, 3] rfl rfl (by decide) (by decide) (fun u => rfl) (by decide) (va_runV (As := [.int p2]) (rest := []) ⟨hx, hb, hml, hown, hts⟩ (c_X5_isPiece l D cI cJ cZ cO h a H.size v_thrown v_made v_many v_heart v_width v_sheets v_covered p2 _ hw) (cwV 1 hts gX5_join_X5_isPiece rfl rfl rfl (by decide +kernel) ⟨Nat.le_of_ble_eq_true rfl, Nat.le_of_ble_eq_true rfl⟩) (preV (X := (W_X5_join h a cI cJ cZ v_thrown v_made v_of v_many v_isOriginal v_things v_history v_heart v_width v_sheets v_covered)) (pl := []) (cx := (W_X5_isPiece h a cI cJ cZ v_thrown v_made v_many v_heart v_width v_sheets v_covered)) (qb := 0) (ci := 6) hK hE hP hD [0, 2] (by decide) rfl rfl rfl) rfl rfl hl.1 rfl (lv_room (Nat.le_of_ble_eq_true rfl)) dX5_join_10 ⟨Nat.zero_le _, Nat.zero_le _⟩) (fun r_10 _ H locs hw hP hD hS => ?_)
    try dsimp only at hw
    have hP : va_P D vwCl (W_X5_join h a cI cJ cZ v_thrown v_made v_of v_many v_isOriginal v_things v_history v_heart v_width v_sheets v_covered) H := hP
    have hD : va_D A (W_X5_join h a cI cJ cZ v_thrown v_made v_of v_many v_isOriginal v_things v_history v_heart v_width v_sheets v_covered) := hD
    refine lv_if_eq (tgt := 20) hx hb dX5_join_13 (by decide) (fun c13 => ?_) (fun c13 => ?_)
    · have hw := hw.1 c13
      refine lv_iconst (v := 0) hx hb dX5_join_20 (by decide) ?_
      exact J21 0 hw _ _ ls hP hD hS (lv_sub hl [0, 1, 2] rfl)
    · have hw := hw.2 c13
      refine lv_iconst (v := 1) hx hb dX5_join_16 (by decide) ?_
      refine lv_goto (tgt := 21) hx hb dX5_join_17 (by decide) ?_
      exact J21 1 hw _ _ ls hP hD hS (lv_sub hl [0, 1, 2] rfl)
abbrev rm_X5_colour : Room := { frames := 2, cells := 0, slots := 0, locals := 43 }
abbrev W_X5_colour (h : Nat) (a : Nat → Nat) (cI cJ cZ : ClassId) (v_thrown : Int32) (v_made : Int32) (v_many : Nat → Int32) (v_colour : Nat → Int32) (v_isOriginal : Nat → Int32) (v_things : Nat → Int32) (v_history : Nat → Int32) (v_heart : Int32) (v_width : Int32) (v_sheets : Int32) (v_covered : Int32) : va_W := [(h, .inr (6, [.int v_thrown, .int v_made, .ref (a 2), .ref (a 3), .ref (a 4), .ref (a 5), .ref (a 6), .ref (a 7), .ref (a 8), .ref (a 9), .ref (a 10), .ref (a 11), .int v_heart, .int v_width, .ref (a 14), .ref (a 15), .ref (a 16), .ref (a 17), .ref (a 18), .ref (a 19), .ref (a 20), .ref (a 21), .int v_sheets, .int v_covered])), ((a 3), .inl (cI, 60, .inl v_many)), ((a 4), .inl (cI, 60, .inl v_colour)), ((a 5), .inl (cZ, 60, .inl v_isOriginal)), ((a 10), .inl (cI, 60, .inl v_things)), ((a 11), .inl (cI, 1200, .inl v_history))]
def wp_X5_colour_43 (v_thrown : Int32) (v_made : Int32) (v_many : Nat → Int32) (v_colour : Nat → Int32) (v_isOriginal : Nat → Int32) (v_things : Nat → Int32) (v_history : Nat → Int32) (p1 : Int32) (p2 : Int32) (post : Int32 → Int32 → (Nat → Int32) → (Nat → Int32) → (Nat → Int32) → Prop) (s1_j43 : Int32) : Prop := wp_X5_goesWell v_thrown s1_j43 (fun r_43 v_thrown_c43 => (r_43 = 0 → post 0 v_thrown_c43 v_colour v_things v_history) ∧ (¬ r_43 = 0 → vp_in p1 60 ∧ (vp_in p1 60 ∧ (∀ v_colour_t65 : Nat → Int32, v_colour_t65 = upd v_colour p1.toNatClampNeg p2 → ((v_colour p1.toNatClampNeg) = p2 → post (v_colour p1.toNatClampNeg) v_thrown_c43 v_colour_t65 v_things v_history) ∧ (¬ (v_colour p1.toNatClampNeg) = p2 → wp_X5_note v_things v_history p1 3 (fun v_things_c75 v_history_c75 => post (v_colour p1.toNatClampNeg) v_thrown_c43 v_colour_t65 v_things_c75 v_history_c75))))))
def wp_X5_colour (v_thrown : Int32) (v_made : Int32) (v_many : Nat → Int32) (v_colour : Nat → Int32) (v_isOriginal : Nat → Int32) (v_things : Nat → Int32) (v_history : Nat → Int32) (p1 : Int32) (p2 : Int32) (post : Int32 → Int32 → (Nat → Int32) → (Nat → Int32) → (Nat → Int32) → Prop) : Prop := wp_X5_isPiece v_made v_many p1 (fun r_2 => (r_2 = 0 → wp_X5_colour_43 v_thrown v_made v_many v_colour v_isOriginal v_things v_history p1 p2 post 1) ∧ (¬ r_2 = 0 → wp_X5_in p2 0 7 (fun r_19 => (r_19 = 0 → wp_X5_colour_43 v_thrown v_made v_many v_colour v_isOriginal v_things v_history p1 p2 post 2) ∧ (¬ r_19 = 0 → vp_in p1 60 ∧ (((v_isOriginal p1.toNatClampNeg) = 0 → wp_X5_colour_43 v_thrown v_made v_many v_colour v_isOriginal v_things v_history p1 p2 post 0) ∧ (¬ (v_isOriginal p1.toNatClampNeg) = 0 → wp_X5_colour_43 v_thrown v_made v_many v_colour v_isOriginal v_things v_history p1 p2 post 3))))))
set_option maxHeartbeats 4000000 in
set_option maxRecDepth 100000 in
theorem c_X5_colour (l : Launch) (D : va_G) (cI cJ cZ cO : ClassId) (h : Nat) (a : Nat → Nat) (sz : Nat) (v_thrown : Int32) (v_made : Int32) (v_many : Nat → Int32) (v_colour : Nat → Int32) (v_isOriginal : Nat → Int32) (v_things : Nat → Int32) (v_history : Nat → Int32) (v_heart : Int32) (v_width : Int32) (v_sheets : Int32) (v_covered : Int32) (p1 : Int32) (p2 : Int32) (post : Int32 → Int32 → (Nat → Int32) → (Nat → Int32) → (Nat → Int32) → Prop) (hw : wp_X5_colour v_thrown v_made v_many v_colour v_isOriginal v_things v_history p1 p2 post) : Met l yX5_colour wsX5_colour rm_X5_colour (va_Pc [.ref h, .int p1, .int p2] (PRE D cI cJ cZ cO (W_X5_colour h a cI cJ cZ v_thrown v_made v_many v_colour v_isOriginal v_things v_history v_heart v_width v_sheets v_covered) sz)) (va_Qi (fun r (u : Int32 × (Nat → Int32) × (Nat → Int32) × (Nat → Int32)) => post r u.1 u.2.1 u.2.2.1 u.2.2.2) (fun u t => POST D (va_A (W_X5_colour h a cI cJ cZ v_thrown v_made v_many v_colour v_isOriginal v_things v_history v_heart v_width v_sheets v_covered) sz) (W_X5_colour h a cI cJ cZ u.1 v_made v_many u.2.1 v_isOriginal u.2.2.1 u.2.2.2 v_heart v_width v_sheets v_covered) t) (va_A (W_X5_colour h a cI cJ cZ v_thrown v_made v_many v_colour v_isOriginal v_things v_history v_heart v_width v_sheets v_covered) sz)) 0 0 (va_A (W_X5_colour h a cI cJ cZ v_thrown v_made v_many v_colour v_isOriginal v_things v_history v_heart v_width v_sheets v_covered) sz) := by
  refine met_go (cc := cX5_colour) (maxL := 5) (ret := some .int) RX5 rfl (by decide) rfl (Nat.le_of_ble_eq_true rfl) ?_
  intro p e s m args below meth c ls hx hb hr hts hown hlocks hin hml hsz hP hK hE hD hA hS hl
  have iRX5 : ∀ w ∈ u_ws RX5 TX5 24, w ∈ wsX5_colour := mem_seg 24 24 rfl
  generalize va_A (W_X5_colour h a cI cJ cZ v_thrown v_made v_many v_colour v_isOriginal v_things v_history v_heart v_width v_sheets v_covered) sz = A at hD hA hS ⊢
  have RT : ∀ (v : Int32) (u : Int32 × (Nat → Int32) × (Nat → Int32) × (Nat → Int32)) (H : Heap) (locs : List Loc) (pc : Nat) (ls : Array Slot), decode cX5_colour pc = .ok (.ireturn, 1) → post v u.1 u.2.1 u.2.2.1 u.2.2.2 → va_P D vwCl (W_X5_colour h a cI cJ cZ u.1 v_made v_many u.2.1 v_isOriginal u.2.2.1 u.2.2.2 v_heart v_width v_sheets v_covered) H → va_D A (W_X5_colour h a cI cJ cZ u.1 v_made v_many u.2.1 v_isOriginal u.2.2.1 u.2.2.2 v_heart v_width v_sheets v_covered) → va_S A s.heap H locs → W p l e rm_X5_colour s m args below meth c H locs 0 0 (MQ below (va_Qi (fun r (u : Int32 × (Nat → Int32) × (Nat → Int32) × (Nat → Int32)) => post r u.1 u.2.1 u.2.2.1 u.2.2.2) (fun u t => POST D A (W_X5_colour h a cI cJ cZ u.1 v_made v_many u.2.1 v_isOriginal u.2.2.1 u.2.2.2 v_heart v_width v_sheets v_covered) t) A) args s 0 0 A) (F0 m pc ls [.int v]) := fun v u H locs pc ls d g1 g2 g3 g4 => rt_i (Wf := fun u => (W_X5_colour h a cI cJ cZ u.1 v_made v_many u.2.1 v_isOriginal u.2.2.1 u.2.2.2 v_heart v_width v_sheets v_covered)) u hx hb hr hlocks g1 g2 g3 g4 d
  generalize (MQ below (va_Qi (fun r (u : Int32 × (Nat → Int32) × (Nat → Int32) × (Nat → Int32)) => post r u.1 u.2.1 u.2.2.1 u.2.2.2) (fun u t => POST D A (W_X5_colour h a cI cJ cZ u.1 v_made v_many u.2.1 v_isOriginal u.2.2.1 u.2.2.2 v_heart v_width v_sheets v_covered) t) A) args s 0 0 A) = QQ at RT ⊢
  have hl : lv_has ls 5 [(0, .ref h), (1, .int p1), (2, .int p2)] := hl
  have hP : va_P D vwCl (W_X5_colour h a cI cJ cZ v_thrown v_made v_many v_colour v_isOriginal v_things v_history v_heart v_width v_sheets v_covered) s.heap := hP
  unfold wp_X5_colour at hw
  suffices GO : ∀ (H : Heap) (locs : List Loc), va_P D vwCl (W_X5_colour h a cI cJ cZ v_thrown v_made v_many v_colour v_isOriginal v_things v_history v_heart v_width v_sheets v_covered) H → va_S A s.heap H locs → W p l e rm_X5_colour s m args below meth c H locs 0 0 QQ (F0 m 0 ls []) from GO _ _ hP hS
  clear hsz hP hS
  intro H locs hP hS
  have J43 : ∀ (s1_j43 : Int32) , wp_X5_colour_43 v_thrown v_made v_many v_colour v_isOriginal v_things v_history p1 p2 post s1_j43 → ∀ (H : Heap) (locs : List Loc) (ls : Array Slot), va_P D vwCl (W_X5_colour h a cI cJ cZ v_thrown v_made v_many v_colour v_isOriginal v_things v_history v_heart v_width v_sheets v_covered) H → va_D A (W_X5_colour h a cI cJ cZ v_thrown v_made v_many v_colour v_isOriginal v_things v_history v_heart v_width v_sheets v_covered) → va_S A s.heap H locs → lv_has ls 5 [(0, .ref h), (1, .int p1), (2, .int p2)] → W p l e rm_X5_colour s m args below meth c H locs 0 0 QQ (F0 m 43 ls [.int s1_j43, .ref h]) := by
    intro s1_j43 hw H locs ls hP hD hS hl
    unfold wp_X5_colour_43 at hw
    refine af_i (X := (W_X5_colour h a cI cJ cZ v_thrown v_made v_many v_colour v_isOriginal v_things v_history v_heart v_width v_sheets v_covered)) (pl := []) (cx := (W_X5_goesWell h a cI cJ cZ v_thrown v_made v_heart v_width v_sheets v_covered)) (w1 := fun (u : Int32) => (W_X5_goesWell h a cI cJ cZ u v_made v_heart v_width v_sheets v_covered)) (X' := fun (u : Int32) => (W_X5_colour h a cI cJ cZ u v_made v_many v_colour v_isOriginal v_things v_history v_heart v_width v_sheets v_covered)) hP hD hS hA [0] [1, 2, 3, 4, 5] [5, 0, 1, 2, 3, 4] rfl rfl (by decide) (by decide) (fun u => rfl) (by decide) (va_runV (As := [.int s1_j43]) (rest := []) ⟨hx, hb, hml, hown, hts⟩ (c_X5_goesWell l D cI cJ cZ cO h a H.size v_thrown v_made v_heart v_width v_sheets v_covered s1_j43 _ hw) (cwV 1 hts gX5_colour_X5_goesWell rfl rfl rfl (by decide +kernel) ⟨Nat.le_of_ble_eq_true rfl, Nat.le_of_ble_eq_true rfl⟩) (preV (X := (W_X5_colour h a cI cJ cZ v_thrown v_made v_many v_colour v_isOriginal v_things v_history v_heart v_width v_sheets v_covered)) (pl := []) (cx := (W_X5_goesWell h a cI cJ cZ v_thrown v_made v_heart v_width v_sheets v_covered)) (qb := 0) (ci := 6) hK hE hP hD [0] (by decide) rfl rfl rfl) rfl rfl hl.1 rfl (lv_room (Nat.le_of_ble_eq_true rfl)) dX5_colour_43 ⟨Nat.zero_le _, Nat.zero_le _⟩) (fun r_43 v_thrown_c43 H locs hw hP hD hS => ?_)
    try dsimp only at hw
    have hP : va_P D vwCl (W_X5_colour h a cI cJ cZ v_thrown_c43 v_made v_many v_colour v_isOriginal v_things v_history v_heart v_width v_sheets v_covered) H := hP
    have hD : va_D A (W_X5_colour h a cI cJ cZ v_thrown_c43 v_made v_many v_colour v_isOriginal v_things v_history v_heart v_width v_sheets v_covered) := hD
    refine lv_if_ne (tgt := 51) hx hb dX5_colour_46 (by decide) (fun c46 => ?_) (fun c46 => ?_)
    · have hw := hw.2 c46
      refine lv_aload_n hx hb dX5_colour_51 rfl (lv_at hl 0 rfl) ?_
      refine va_get (D := D) (ci := 6) (v := .ref (a 4)) (C := RX5) (T := TX5) (N := 24) hx hb hts iRX5 hown hK hP 0 rfl rfl 4 (by decide) (hts (.fieldLink RX5 20 "LeadlightModel" "colour" "[I") (List.mem_of_getElem? (i := 2) rfl)) (fun _ h9 => h9) rfl dX5_colour_52 ?_
      refine lv_iload_n hx hb dX5_colour_55 rfl (lv_at hl 1 rfl) ?_
      obtain ⟨hi_56, hw⟩ := hw
      refine va_iald hx hb hK hP 2 0 rfl rfl hi_56 dX5_colour_56 ?_
      refine lv_istore (lv' := [(4, .int (v_colour p1.toNatClampNeg)), (0, .ref h), (1, .int p1), (2, .int p2)]) hx hb dX5_colour_57 hl (by decide) rfl (fun ls hl => ?_)
      refine lv_aload_n hx hb dX5_colour_59 rfl (lv_at hl 1 rfl) ?_
      refine va_get (D := D) (ci := 6) (v := .ref (a 4)) (C := RX5) (T := TX5) (N := 24) hx hb hts iRX5 hown hK hP 0 rfl rfl 4 (by decide) (hts (.fieldLink RX5 20 "LeadlightModel" "colour" "[I") (List.mem_of_getElem? (i := 2) rfl)) (fun _ h9 => h9) rfl dX5_colour_60 ?_
      refine lv_iload_n hx hb dX5_colour_63 rfl (lv_at hl 2 rfl) ?_
      refine lv_iload_n hx hb dX5_colour_64 rfl (lv_at hl 3 rfl) ?_
      obtain ⟨hi_65, hw⟩ := hw
      refine st_i hx hb hK hP hD hS 2 0 rfl rfl hi_65 dX5_colour_65 (fun v_colour_t65 ev_colour_t65 H locs hP hD hS => ?_)
      have hw := hw v_colour_t65 ev_colour_t65
      have hP : va_P D vwCl (W_X5_colour h a cI cJ cZ v_thrown_c43 v_made v_many v_colour_t65 v_isOriginal v_things v_history v_heart v_width v_sheets v_covered) H := hP
      have hD : va_D A (W_X5_colour h a cI cJ cZ v_thrown_c43 v_made v_many v_colour_t65 v_isOriginal v_things v_history v_heart v_width v_sheets v_covered) := hD
      refine lv_iload hx hb dX5_colour_66 (lv_at hl 0 rfl) ?_
      refine lv_iload_n hx hb dX5_colour_68 rfl (lv_at hl 3 rfl) ?_
      refine lv_icmp_eq (tgt := 78) hx hb dX5_colour_69 (by decide) (fun c69 => ?_) (fun c69 => ?_)
      · have hw := hw.1 c69
        refine lv_iload hx hb dX5_colour_78 (lv_at hl 0 rfl) ?_
        exact RT (v_colour p1.toNatClampNeg) (v_thrown_c43, v_colour_t65, v_things, v_history) _ _ _ _ dX5_colour_80 hw hP hD hS
      · have hw := hw.2 c69
        refine lv_aload_n hx hb dX5_colour_72 rfl (lv_at hl 1 rfl) ?_
        refine lv_iload_n hx hb dX5_colour_73 rfl (lv_at hl 2 rfl) ?_
        refine lv_iconst (v := 3) hx hb dX5_colour_74 (by decide) ?_
        refine af_v (X := (W_X5_colour h a cI cJ cZ v_thrown_c43 v_made v_many v_colour_t65 v_isOriginal v_things v_history v_heart v_width v_sheets v_covered)) (pl := []) (cx := (W_X5_note h a cI cJ cZ v_thrown_c43 v_made v_things v_history v_heart v_width v_sheets v_covered)) (w1 := fun (u : (Nat → Int32) × (Nat → Int32)) => (W_X5_note h a cI cJ cZ v_thrown_c43 v_made u.1 u.2 v_heart v_width v_sheets v_covered)) (X' := fun (u : (Nat → Int32) × (Nat → Int32)) => (W_X5_colour h a cI cJ cZ v_thrown_c43 v_made v_many v_colour_t65 v_isOriginal u.1 u.2 v_heart v_width v_sheets v_covered)) hP hD hS hA [0, 4, 5] [1, 2, 3] [3, 0, 1, 2, 4, 5] rfl rfl (by decide) (by decide) (fun u => rfl) (by decide) (va_runV (As := [.int p1, .int 3]) (rest := []) ⟨hx, hb, hml, hown, hts⟩ (c_X5_note l D cI cJ cZ cO h a H.size v_thrown_c43 v_made v_things v_history v_heart v_width v_sheets v_covered p1 3 _ hw) (cwV 2 hts gX5_colour_X5_note rfl rfl rfl (by decide +kernel) ⟨Nat.le_of_ble_eq_true rfl, Nat.le_of_ble_eq_true rfl⟩) (preV (X := (W_X5_colour h a cI cJ cZ v_thrown_c43 v_made v_many v_colour_t65 v_isOriginal v_things v_history v_heart v_width v_sheets v_covered)) (pl := []) (cx := (W_X5_note h a cI cJ cZ v_thrown_c43 v_made v_things v_history v_heart v_width v_sheets v_covered)) (qb := 0) (ci := 6) hK hE hP hD [0, 4, 5] (by decide) rfl rfl rfl) rfl rfl hl.1 rfl (lv_room (Nat.le_of_ble_eq_true rfl)) dX5_colour_75 ⟨Nat.zero_le _, Nat.zero_le _⟩) (fun u H locs hw hP hD hS => ?_)
        obtain ⟨v_things_c75, v_history_c75⟩ := u
        try dsimp only at hw
        have hP : va_P D vwCl (W_X5_colour h a cI cJ cZ v_thrown_c43 v_made v_many v_colour_t65 v_isOriginal v_things_c75 v_history_c75 v_heart v_width v_sheets v_covered) H := hP
        have hD : va_D A (W_X5_colour h a cI cJ cZ v_thrown_c43 v_made v_many v_colour_t65 v_isOriginal v_things_c75 v_history_c75 v_heart v_width v_sheets v_covered) := hD
        refine lv_iload hx hb dX5_colour_78 (lv_at hl 0 rfl) ?_
        exact RT (v_colour p1.toNatClampNeg) (v_thrown_c43, v_colour_t65, v_things_c75, v_history_c75) _ _ _ _ dX5_colour_80 hw hP hD hS
    · have hw := hw.1 c46
      refine lv_iconst (v := 0) hx hb dX5_colour_49 (by decide) ?_
      exact RT 0 (v_thrown_c43, v_colour, v_things, v_history) _ _ _ _ dX5_colour_50 hw hP hD hS
  refine lv_aload_n hx hb dX5_colour_0 rfl (lv_at hl 0 rfl) ?_
  refine lv_iload_n hx hb dX5_colour_1 rfl (lv_at hl 1 rfl) ?_
  refine af_i (X := (W_X5_colour h a cI cJ cZ v_thrown v_made v_many v_colour v_isOriginal v_things v_history v_heart v_width v_sheets v_covered)) (pl := []) (cx := (W_X5_isPiece h a cI cJ cZ v_thrown v_made v_many v_heart v_width v_sheets v_covered)) (w1 := fun (u : Unit) => (W_X5_isPiece h a cI cJ cZ v_thrown v_made v_many v_heart v_width v_sheets v_covered)) (X' := fun (u : Unit) => (W_X5_colour h a cI cJ cZ v_thrown v_made v_many v_colour v_isOriginal v_things v_history v_heart v_width v_sheets v_covered)) hP hD hS hA [0, 1] [2, 3, 4, 5] [4, 5, 0, 1, 2, 3] rfl rfl (by decide) (by decide) (fun u => rfl) (by decide) (va_runV (As := [.int p1]) (rest := []) ⟨hx, hb, hml, hown, hts⟩ (c_X5_isPiece l D cI cJ cZ cO h a H.size v_thrown v_made v_many v_heart v_width v_sheets v_covered p1 _ hw) (cwV 1 hts gX5_colour_X5_isPiece rfl rfl rfl (by decide +kernel) ⟨Nat.le_of_ble_eq_true rfl, Nat.le_of_ble_eq_true rfl⟩) (preV (X := (W_X5_colour h a cI cJ cZ v_thrown v_made v_many v_colour v_isOriginal v_things v_history v_heart v_width v_sheets v_covered)) (pl := []) (cx := (W_X5_isPiece h a cI cJ cZ v_thrown v_made v_many v_heart v_width v_sheets v_covered)) (qb := 0) (ci := 6) hK hE hP hD [0, 1] (by decide) rfl rfl rfl) rfl rfl hl.1 rfl (lv_room (Nat.le_of_ble_eq_true rfl)) dX5_colour_2 ⟨Nat.zero_le _, Nat.zero_le _⟩) (fun r_2 _ H locs hw hP hD hS => ?_)
  try dsimp only at hw
  have hP : va_P D vwCl (W_X5_colour h a cI cJ cZ v_thrown v_made v_many v_colour v_isOriginal v_things v_history v_heart v_width v_sheets v_covered) H := hP
  have hD : va_D A (W_X5_colour h a cI cJ cZ v_thrown v_made v_many v_colour v_isOriginal v_things v_history v_heart v_width v_sheets v_covered) := hD
  refine lv_istore_n (lv' := [(3, .int r_2), (0, .ref h), (1, .int p1), (2, .int p2)]) hx hb dX5_colour_5 rfl hl (by decide) rfl (fun ls hl => ?_)
  refine lv_aload_n hx hb dX5_colour_6 rfl (lv_at hl 1 rfl) ?_
  refine lv_iload_n hx hb dX5_colour_7 rfl (lv_at hl 0 rfl) ?_
  refine lv_if_ne (tgt := 15) hx hb dX5_colour_8 (by decide) (fun c8 => ?_) (fun c8 => ?_)
  · have hw := hw.2 c8
    refine lv_iload_n hx hb dX5_colour_15 rfl (lv_at hl 3 rfl) ?_
    refine lv_iconst (v := 0) hx hb dX5_colour_16 (by decide) ?_
    refine lv_bipush (v := 7) hx hb dX5_colour_17 (by decide) ?_
    refine af_i (X := (W_X5_colour h a cI cJ cZ v_thrown v_made v_many v_colour v_isOriginal v_things v_history v_heart v_width v_sheets v_covered)) (pl := []) (cx := ([] : va_W)) (w1 := fun (u : Unit) => ([] : va_W)) (X' := fun (u : Unit) => (W_X5_colour h a cI cJ cZ v_thrown v_made v_many v_colour v_isOriginal v_things v_history v_heart v_width v_sheets v_covered)) hP hD hS hA [] [0, 1, 2, 3, 4, 5] [0, 1, 2, 3, 4, 5] rfl rfl (by decide) (by decide) (fun u => rfl) (by decide) (va_runS (As := [.int p2, .int 0, .int 7]) (rest := [.ref h]) ⟨hx, hb, hml, hown, hts⟩ (c_X5_in l D cI cJ cZ cO H.size p2 0 7 _ hw) (va_cwS 3 hts gX5_colour_X5_in rfl rfl rfl (by decide +kernel) ⟨Nat.le_of_ble_eq_true rfl, Nat.le_of_ble_eq_true rfl⟩) (preS (X := (W_X5_colour h a cI cJ cZ v_thrown v_made v_many v_colour v_isOriginal v_things v_history v_heart v_width v_sheets v_covered)) (pl := []) (cx := ([] : va_W)) hK hE hP hD [] (by decide) rfl) rfl rfl hl.1 rfl (lv_room (Nat.le_of_ble_eq_true rfl)) dX5_colour_19 ⟨Nat.zero_le _, Nat.zero_le _⟩) (fun r_19 _ H locs hw hP hD hS => ?_)
    try dsimp only at hw
    have hP : va_P D vwCl (W_X5_colour h a cI cJ cZ v_thrown v_made v_many v_colour v_isOriginal v_things v_history v_heart v_width v_sheets v_covered) H := hP
    have hD : va_D A (W_X5_colour h a cI cJ cZ v_thrown v_made v_many v_colour v_isOriginal v_things v_history v_heart v_width v_sheets v_covered) := hD
    refine lv_if_ne (tgt := 29) hx hb dX5_colour_22 (by decide) (fun c22 => ?_) (fun c22 => ?_)
    · have hw := hw.2 c22
      refine lv_aload_n hx hb dX5_colour_29 rfl (lv_at hl 1 rfl) ?_
      refine va_get (D := D) (ci := 6) (v := .ref (a 5)) (C := RX5) (T := TX5) (N := 24) hx hb hts iRX5 hown hK hP 0 rfl rfl 5 (by decide) (hts (.fieldLink RX5 23 "LeadlightModel" "isOriginal" "[Z") (List.mem_of_getElem? (i := 1) rfl)) (fun _ h9 => h9) rfl dX5_colour_30 ?_
      refine lv_iload_n hx hb dX5_colour_33 rfl (lv_at hl 2 rfl) ?_
      obtain ⟨hi_34, hw⟩ := hw
      refine va_zald hx hb hK hP 3 2 rfl rfl hi_34 dX5_colour_34 ?_
      refine lv_if_eq (tgt := 42) hx hb dX5_colour_35 (by decide) (fun c35 => ?_) (fun c35 => ?_)
      · have hw := hw.1 c35
        refine lv_iconst (v := 0) hx hb dX5_colour_42 (by decide) ?_
        exact J43 0 hw _ _ ls hP hD hS (lv_sub hl [1, 2, 3] rfl)
      · have hw := hw.2 c35
        refine lv_iconst (v := 3) hx hb dX5_colour_38 (by decide) ?_
        refine lv_goto (tgt := 43) hx hb dX5_colour_39 (by decide) ?_
        exact J43 3 hw _ _ ls hP hD hS (lv_sub hl [1, 2, 3] rfl)
    · have hw := hw.1 c22
      refine lv_iconst (v := 2) hx hb dX5_colour_25 (by decide) ?_
      refine lv_goto (tgt := 43) hx hb dX5_colour_26 (by decide) ?_
      exact J43 2 hw _ _ ls hP hD hS (lv_sub hl [1, 2, 3] rfl)
  · have hw := hw.1 c8
    refine lv_iconst (v := 1) hx hb dX5_colour_11 (by decide) ?_
    refine lv_goto (tgt := 43) hx hb dX5_colour_12 (by decide) ?_
    exact J43 1 hw _ _ ls hP hD hS (lv_sub hl [1, 2, 3] rfl)
abbrev rm_X5_finish : Room := { frames := 1, cells := 0, slots := 0, locals := 22 }
abbrev W_X5_finish (h : Nat) (a : Nat → Nat) (cI cJ cZ : ClassId) (v_thrown : Int32) (v_made : Int32) (v_many : Nat → Int32) (v_isOriginal : Nat → Int32) (v_things : Nat → Int32) (v_history : Nat → Int32) (v_heart : Int32) (v_width : Int32) (v_sheets : Int32) (v_covered : Int32) : va_W := [(h, .inr (6, [.int v_thrown, .int v_made, .ref (a 2), .ref (a 3), .ref (a 4), .ref (a 5), .ref (a 6), .ref (a 7), .ref (a 8), .ref (a 9), .ref (a 10), .ref (a 11), .int v_heart, .int v_width, .ref (a 14), .ref (a 15), .ref (a 16), .ref (a 17), .ref (a 18), .ref (a 19), .ref (a 20), .ref (a 21), .int v_sheets, .int v_covered])), ((a 3), .inl (cI, 60, .inl v_many)), ((a 5), .inl (cZ, 60, .inl v_isOriginal)), ((a 10), .inl (cI, 60, .inl v_things)), ((a 11), .inl (cI, 1200, .inl v_history))]
def wp_X5_finish_9 (v_thrown : Int32) (v_made : Int32) (v_many : Nat → Int32) (v_isOriginal : Nat → Int32) (v_things : Nat → Int32) (v_history : Nat → Int32) (post : Int32 → Int32 → (Nat → Int32) → (Nat → Int32) → (Nat → Int32) → Prop) (K9 : Int32 → Int32 → Int32 → (Nat → Int32) → (Nat → Int32) → (Nat → Int32) → Prop) (x1_j9 : Int32) (x2_j9 : Int32) (v_thrown_j9 : Int32) (v_isOriginal_j9 : Nat → Int32) (v_things_j9 : Nat → Int32) (v_history_j9 : Nat → Int32) : Prop := (v_made ≤ x2_j9 → post x1_j9 v_thrown_j9 v_isOriginal_j9 v_things_j9 v_history_j9) ∧ (¬ v_made ≤ x2_j9 → vp_in x2_j9 60 ∧ (((v_many x2_j9.toNatClampNeg) ≤ 0 → K9 x1_j9 (x2_j9 + 1) v_thrown_j9 v_isOriginal_j9 v_things_j9 v_history_j9) ∧ (¬ (v_many x2_j9.toNatClampNeg) ≤ 0 → vp_in x2_j9 60 ∧ (((v_isOriginal_j9 x2_j9.toNatClampNeg) = 0 → vp_in x2_j9 60 ∧ (∀ v_isOriginal_t41 : Nat → Int32, v_isOriginal_t41 = upd v_isOriginal_j9 x2_j9.toNatClampNeg (vp_nar .boolean 1) → wp_X5_note v_things_j9 v_history_j9 x2_j9 6 (fun v_things_c46 v_history_c46 => K9 (x1_j9 + 1) (x2_j9 + 1) v_thrown_j9 v_isOriginal_t41 v_things_c46 v_history_c46))) ∧ (¬ (v_isOriginal_j9 x2_j9.toNatClampNeg) = 0 → K9 x1_j9 (x2_j9 + 1) v_thrown_j9 v_isOriginal_j9 v_things_j9 v_history_j9)))))
def lF_X5_finish_9 (v_thrown : Int32) (v_made : Int32) (v_many : Nat → Int32) (v_isOriginal : Nat → Int32) (v_things : Nat → Int32) (v_history : Nat → Int32) (post : Int32 → Int32 → (Nat → Int32) → (Nat → Int32) → (Nat → Int32) → Prop) : ((Int32 × Int32 × Int32 × (Nat → Int32) × (Nat → Int32) × (Nat → Int32)) → Prop) → (Int32 × Int32 × Int32 × (Nat → Int32) × (Nat → Int32) × (Nat → Int32)) → Prop := fun K s => wp_X5_finish_9 v_thrown v_made v_many v_isOriginal v_things v_history post (fun b0 b1 b2 b3 b4 b5 => K (b0, b1, b2, b3, b4, b5)) s.1 s.2.1 s.2.2.1 s.2.2.2.1 s.2.2.2.2.1 s.2.2.2.2.2
def wp_X5_finish (v_thrown : Int32) (v_made : Int32) (v_many : Nat → Int32) (v_isOriginal : Nat → Int32) (v_things : Nat → Int32) (v_history : Nat → Int32) (post : Int32 → Int32 → (Nat → Int32) → (Nat → Int32) → (Nat → Int32) → Prop) : Prop := ∀ v_thrown_t2 : Int32, v_thrown_t2 = 0 → lp (lF_X5_finish_9 v_thrown v_made v_many v_isOriginal v_things v_history post) (0, 0, v_thrown_t2, v_isOriginal, v_things, v_history)
set_option maxHeartbeats 4000000 in
set_option maxRecDepth 100000 in
theorem c_X5_finish (l : Launch) (D : va_G) (cI cJ cZ cO : ClassId) (h : Nat) (a : Nat → Nat) (sz : Nat) (v_thrown : Int32) (v_made : Int32) (v_many : Nat → Int32) (v_isOriginal : Nat → Int32) (v_things : Nat → Int32) (v_history : Nat → Int32) (v_heart : Int32) (v_width : Int32) (v_sheets : Int32) (v_covered : Int32) (post : Int32 → Int32 → (Nat → Int32) → (Nat → Int32) → (Nat → Int32) → Prop) (hw : wp_X5_finish v_thrown v_made v_many v_isOriginal v_things v_history post) : Met l yX5_finish wsX5_finish rm_X5_finish (va_Pc [.ref h] (PRE D cI cJ cZ cO (W_X5_finish h a cI cJ cZ v_thrown v_made v_many v_isOriginal v_things v_history v_heart v_width v_sheets v_covered) sz)) (va_Qi (fun r (u : Int32 × (Nat → Int32) × (Nat → Int32) × (Nat → Int32)) => post r u.1 u.2.1 u.2.2.1 u.2.2.2) (fun u t => POST D (va_A (W_X5_finish h a cI cJ cZ v_thrown v_made v_many v_isOriginal v_things v_history v_heart v_width v_sheets v_covered) sz) (W_X5_finish h a cI cJ cZ u.1 v_made v_many u.2.1 u.2.2.1 u.2.2.2 v_heart v_width v_sheets v_covered) t) (va_A (W_X5_finish h a cI cJ cZ v_thrown v_made v_many v_isOriginal v_things v_history v_heart v_width v_sheets v_covered) sz)) 0 0 (va_A (W_X5_finish h a cI cJ cZ v_thrown v_made v_many v_isOriginal v_things v_history v_heart v_width v_sheets v_covered) sz) := by
  refine met_go (cc := cX5_finish) (maxL := 3) (ret := some .int) RX5 rfl (by decide) rfl (Nat.le_of_ble_eq_true rfl) ?_
  intro p e s m args below meth c ls hx hb hr hts hown hlocks hin hml hsz hP hK hE hD hA hS hl
  have iRX5 : ∀ w ∈ u_ws RX5 TX5 24, w ∈ wsX5_finish := mem_seg 12 24 rfl
  generalize va_A (W_X5_finish h a cI cJ cZ v_thrown v_made v_many v_isOriginal v_things v_history v_heart v_width v_sheets v_covered) sz = A at hD hA hS ⊢
  have RT : ∀ (v : Int32) (u : Int32 × (Nat → Int32) × (Nat → Int32) × (Nat → Int32)) (H : Heap) (locs : List Loc) (pc : Nat) (ls : Array Slot), decode cX5_finish pc = .ok (.ireturn, 1) → post v u.1 u.2.1 u.2.2.1 u.2.2.2 → va_P D vwCl (W_X5_finish h a cI cJ cZ u.1 v_made v_many u.2.1 u.2.2.1 u.2.2.2 v_heart v_width v_sheets v_covered) H → va_D A (W_X5_finish h a cI cJ cZ u.1 v_made v_many u.2.1 u.2.2.1 u.2.2.2 v_heart v_width v_sheets v_covered) → va_S A s.heap H locs → W p l e rm_X5_finish s m args below meth c H locs 0 0 (MQ below (va_Qi (fun r (u : Int32 × (Nat → Int32) × (Nat → Int32) × (Nat → Int32)) => post r u.1 u.2.1 u.2.2.1 u.2.2.2) (fun u t => POST D A (W_X5_finish h a cI cJ cZ u.1 v_made v_many u.2.1 u.2.2.1 u.2.2.2 v_heart v_width v_sheets v_covered) t) A) args s 0 0 A) (F0 m pc ls [.int v]) := fun v u H locs pc ls d g1 g2 g3 g4 => rt_i (Wf := fun u => (W_X5_finish h a cI cJ cZ u.1 v_made v_many u.2.1 u.2.2.1 u.2.2.2 v_heart v_width v_sheets v_covered)) u hx hb hr hlocks g1 g2 g3 g4 d
  generalize (MQ below (va_Qi (fun r (u : Int32 × (Nat → Int32) × (Nat → Int32) × (Nat → Int32)) => post r u.1 u.2.1 u.2.2.1 u.2.2.2) (fun u t => POST D A (W_X5_finish h a cI cJ cZ u.1 v_made v_many u.2.1 u.2.2.1 u.2.2.2 v_heart v_width v_sheets v_covered) t) A) args s 0 0 A) = QQ at RT ⊢
  have hl : lv_has ls 3 [(0, .ref h)] := hl
  have hP : va_P D vwCl (W_X5_finish h a cI cJ cZ v_thrown v_made v_many v_isOriginal v_things v_history v_heart v_width v_sheets v_covered) s.heap := hP
  unfold wp_X5_finish at hw
  suffices GO : ∀ (H : Heap) (locs : List Loc), va_P D vwCl (W_X5_finish h a cI cJ cZ v_thrown v_made v_many v_isOriginal v_things v_history v_heart v_width v_sheets v_covered) H → va_S A s.heap H locs → W p l e rm_X5_finish s m args below meth c H locs 0 0 QQ (F0 m 0 ls []) from GO _ _ hP hS
  clear hsz hP hS
  intro H locs hP hS
  have L9 : ∀ s0 : (Int32 × Int32 × Int32 × (Nat → Int32) × (Nat → Int32) × (Nat → Int32)), lp (lF_X5_finish_9 v_thrown v_made v_many v_isOriginal v_things v_history post) s0 → ∀ (H : Heap) (locs : List Loc) (ls : Array Slot), va_P D vwCl (W_X5_finish h a cI cJ cZ s0.2.2.1 v_made v_many s0.2.2.2.1 s0.2.2.2.2.1 s0.2.2.2.2.2 v_heart v_width v_sheets v_covered) H → va_D A (W_X5_finish h a cI cJ cZ s0.2.2.1 v_made v_many s0.2.2.2.1 s0.2.2.2.2.1 s0.2.2.2.2.2 v_heart v_width v_sheets v_covered) → va_S A s.heap H locs → lv_has ls 3 [(0, .ref h), (1, .int s0.1), (2, .int s0.2.1)] → W p l e rm_X5_finish s m args below meth c H locs 0 0 QQ (F0 m 9 ls []) := by
    refine lp_elim (fun K9 ih9 s0 hw => ?_)
    obtain ⟨x1_j9, x2_j9, v_thrown_j9, v_isOriginal_j9, v_things_j9, v_history_j9⟩ := s0
    intro H locs ls hP hD hS hl
    have hw : wp_X5_finish_9 v_thrown v_made v_many v_isOriginal v_things v_history post (fun b0 b1 b2 b3 b4 b5 => K9 (b0, b1, b2, b3, b4, b5)) x1_j9 x2_j9 v_thrown_j9 v_isOriginal_j9 v_things_j9 v_history_j9 := hw
    have hP : va_P D vwCl (W_X5_finish h a cI cJ cZ v_thrown_j9 v_made v_many v_isOriginal_j9 v_things_j9 v_history_j9 v_heart v_width v_sheets v_covered) H := hP
    have hD : va_D A (W_X5_finish h a cI cJ cZ v_thrown_j9 v_made v_many v_isOriginal_j9 v_things_j9 v_history_j9 v_heart v_width v_sheets v_covered) := hD
    have hl : lv_has ls 3 [(0, .ref h), (1, .int x1_j9), (2, .int x2_j9)] := hl
    unfold wp_X5_finish_9 at hw
    refine lv_iload_n hx hb dX5_finish_9 rfl (lv_at hl 2 rfl) ?_
    refine lv_aload_n hx hb dX5_finish_10 rfl (lv_at hl 0 rfl) ?_
    refine va_get (D := D) (ci := 6) (v := .int v_made) (C := RX5) (T := TX5) (N := 24) hx hb hts iRX5 hown hK hP 0 rfl rfl 1 (by decide) (hts (.fieldLink RX5 7 "LeadlightModel" "made" "I") (List.mem_of_getElem? (i := 2) rfl)) (fun _ h9 => h9) rfl dX5_finish_11 ?_
    refine lv_icmp_ge (tgt := 58) hx hb dX5_finish_14 (by decide) (fun c14 => ?_) (fun c14 => ?_)
    · have hw := hw.1 c14
      refine lv_iload_n hx hb dX5_finish_58 rfl (lv_at hl 1 rfl) ?_
      exact RT x1_j9 (v_thrown_j9, v_isOriginal_j9, v_things_j9, v_history_j9) _ _ _ _ dX5_finish_59 hw hP hD hS
    · have hw := hw.2 c14
      refine lv_aload_n hx hb dX5_finish_17 rfl (lv_at hl 0 rfl) ?_
      refine va_get (D := D) (ci := 6) (v := .ref (a 3)) (C := RX5) (T := TX5) (N := 24) hx hb hts iRX5 hown hK hP 0 rfl rfl 3 (by decide) (hts (.fieldLink RX5 17 "LeadlightModel" "many" "[I") (List.mem_of_getElem? (i := 3) rfl)) (fun _ h9 => h9) rfl dX5_finish_18 ?_
      refine lv_iload_n hx hb dX5_finish_21 rfl (lv_at hl 2 rfl) ?_
      obtain ⟨hi_22, hw⟩ := hw
      refine va_iald hx hb hK hP 1 0 rfl rfl hi_22 dX5_finish_22 ?_
      refine lv_if_le (tgt := 52) hx hb dX5_finish_23 (by decide) (fun c23 => ?_) (fun c23 => ?_)
      · have hw := hw.1 c23
        refine lv_iinc (v := (x2_j9 + 1)) (lv' := [(2, .int (x2_j9 + 1)), (0, .ref h), (1, .int x1_j9)]) hx hb dX5_finish_52 hl (k := 2) rfl rfl (by decide) rfl (fun ls hl => ?_)
        refine lv_goto (tgt := 9) hx hb dX5_finish_55 (by decide) ?_
        exact ih9 (x1_j9, (x2_j9 + 1), v_thrown_j9, v_isOriginal_j9, v_things_j9, v_history_j9) hw _ _ ls hP hD hS (lv_sub hl [1, 2, 0] rfl)
      · have hw := hw.2 c23
        refine lv_aload_n hx hb dX5_finish_26 rfl (lv_at hl 0 rfl) ?_
        refine va_get (D := D) (ci := 6) (v := .ref (a 5)) (C := RX5) (T := TX5) (N := 24) hx hb hts iRX5 hown hK hP 0 rfl rfl 5 (by decide) (hts (.fieldLink RX5 23 "LeadlightModel" "isOriginal" "[Z") (List.mem_of_getElem? (i := 4) rfl)) (fun _ h9 => h9) rfl dX5_finish_27 ?_
        refine lv_iload_n hx hb dX5_finish_30 rfl (lv_at hl 2 rfl) ?_
        obtain ⟨hi_31, hw⟩ := hw
        refine va_zald hx hb hK hP 2 2 rfl rfl hi_31 dX5_finish_31 ?_
        refine lv_if_ne (tgt := 52) hx hb dX5_finish_32 (by decide) (fun c32 => ?_) (fun c32 => ?_)
        · have hw := hw.2 c32
          refine lv_iinc (v := (x2_j9 + 1)) (lv' := [(2, .int (x2_j9 + 1)), (0, .ref h), (1, .int x1_j9)]) hx hb dX5_finish_52 hl (k := 2) rfl rfl (by decide) rfl (fun ls hl => ?_)
          refine lv_goto (tgt := 9) hx hb dX5_finish_55 (by decide) ?_
          exact ih9 (x1_j9, (x2_j9 + 1), v_thrown_j9, v_isOriginal_j9, v_things_j9, v_history_j9) hw _ _ ls hP hD hS (lv_sub hl [1, 2, 0] rfl)
        · have hw := hw.1 c32
          refine lv_aload_n hx hb dX5_finish_35 rfl (lv_at hl 0 rfl) ?_
          refine va_get (D := D) (ci := 6) (v := .ref (a 5)) (C := RX5) (T := TX5) (N := 24) hx hb hts iRX5 hown hK hP 0 rfl rfl 5 (by decide) (hts (.fieldLink RX5 23 "LeadlightModel" "isOriginal" "[Z") (List.mem_of_getElem? (i := 4) rfl)) (fun _ h9 => h9) rfl dX5_finish_36 ?_
          refine lv_iload_n hx hb dX5_finish_39 rfl (lv_at hl 2 rfl) ?_
          refine lv_iconst (v := 1) hx hb dX5_finish_40 (by decide) ?_
          obtain ⟨hi_41, hw⟩ := hw
          refine st_z hx hb hK hP hD hS 2 2 rfl rfl hi_41 dX5_finish_41 (fun v_isOriginal_t41 ev_isOriginal_t41 H locs hP hD hS => ?_)
          have hw := hw v_isOriginal_t41 ev_isOriginal_t41
          have hP : va_P D vwCl (W_X5_finish h a cI cJ cZ v_thrown_j9 v_made v_many v_isOriginal_t41 v_things_j9 v_history_j9 v_heart v_width v_sheets v_covered) H := hP
          have hD : va_D A (W_X5_finish h a cI cJ cZ v_thrown_j9 v_made v_many v_isOriginal_t41 v_things_j9 v_history_j9 v_heart v_width v_sheets v_covered) := hD
          refine lv_aload_n hx hb dX5_finish_42 rfl (lv_at hl 0 rfl) ?_
          refine lv_iload_n hx hb dX5_finish_43 rfl (lv_at hl 2 rfl) ?_
          refine lv_bipush (v := 6) hx hb dX5_finish_44 (by decide) ?_
          refine af_v (X := (W_X5_finish h a cI cJ cZ v_thrown_j9 v_made v_many v_isOriginal_t41 v_things_j9 v_history_j9 v_heart v_width v_sheets v_covered)) (pl := []) (cx := (W_X5_note h a cI cJ cZ v_thrown_j9 v_made v_things_j9 v_history_j9 v_heart v_width v_sheets v_covered)) (w1 := fun (u : (Nat → Int32) × (Nat → Int32)) => (W_X5_note h a cI cJ cZ v_thrown_j9 v_made u.1 u.2 v_heart v_width v_sheets v_covered)) (X' := fun (u : (Nat → Int32) × (Nat → Int32)) => (W_X5_finish h a cI cJ cZ v_thrown_j9 v_made v_many v_isOriginal_t41 u.1 u.2 v_heart v_width v_sheets v_covered)) hP hD hS hA [0, 3, 4] [1, 2] [2, 0, 1, 3, 4] rfl rfl (by decide) (by decide) (fun u => rfl) (by decide) (va_runV (As := [.int x2_j9, .int 6]) (rest := []) ⟨hx, hb, hml, hown, hts⟩ (c_X5_note l D cI cJ cZ cO h a H.size v_thrown_j9 v_made v_things_j9 v_history_j9 v_heart v_width v_sheets v_covered x2_j9 6 _ hw) (cwV 2 hts gX5_finish_X5_note rfl rfl rfl (by decide +kernel) ⟨Nat.le_of_ble_eq_true rfl, Nat.le_of_ble_eq_true rfl⟩) (preV (X := (W_X5_finish h a cI cJ cZ v_thrown_j9 v_made v_many v_isOriginal_t41 v_things_j9 v_history_j9 v_heart v_width v_sheets v_covered)) (pl := []) (cx := (W_X5_note h a cI cJ cZ v_thrown_j9 v_made v_things_j9 v_history_j9 v_heart v_width v_sheets v_covered)) (qb := 0) (ci := 6) hK hE hP hD [0, 3, 4] (by decide) rfl rfl rfl) rfl rfl hl.1 rfl (lv_room (Nat.le_of_ble_eq_true rfl)) dX5_finish_46 ⟨Nat.zero_le _, Nat.zero_le _⟩) (fun u H locs hw hP hD hS => ?_)
          obtain ⟨v_things_c46, v_history_c46⟩ := u
          try dsimp only at hw
          have hP : va_P D vwCl (W_X5_finish h a cI cJ cZ v_thrown_j9 v_made v_many v_isOriginal_t41 v_things_c46 v_history_c46 v_heart v_width v_sheets v_covered) H := hP
          have hD : va_D A (W_X5_finish h a cI cJ cZ v_thrown_j9 v_made v_many v_isOriginal_t41 v_things_c46 v_history_c46 v_heart v_width v_sheets v_covered) := hD
          refine lv_iinc (v := (x1_j9 + 1)) (lv' := [(1, .int (x1_j9 + 1)), (0, .ref h), (2, .int x2_j9)]) hx hb dX5_finish_49 hl (k := 1) rfl rfl (by decide) rfl (fun ls hl => ?_)
          refine lv_iinc (v := (x2_j9 + 1)) (lv' := [(2, .int (x2_j9 + 1)), (1, .int (x1_j9 + 1)), (0, .ref h)]) hx hb dX5_finish_52 hl (k := 2) rfl rfl (by decide) rfl (fun ls hl => ?_)
          refine lv_goto (tgt := 9) hx hb dX5_finish_55 (by decide) ?_
          exact ih9 ((x1_j9 + 1), (x2_j9 + 1), v_thrown_j9, v_isOriginal_t41, v_things_c46, v_history_c46) hw _ _ ls hP hD hS (lv_sub hl [2, 1, 0] rfl)
  refine lv_aload_n hx hb dX5_finish_0 rfl (lv_at hl 0 rfl) ?_
  refine lv_iconst (v := 0) hx hb dX5_finish_1 (by decide) ?_
  refine lv_topi (fun v_thrown_t2 ev_thrown_t2 => ?_)
  have hw := hw v_thrown_t2 ev_thrown_t2
  refine va_put (D := D) (ci := 6) (v := .int v_thrown_t2) (ty := .int) (C := RX5) (T := TX5) (N := 24) hx hb hts iRX5 tyX5 tyX5_ok nmX5 hown hK hP hD hS 0 rfl rfl 0 (by decide) (hts (.fieldLink RX5 79 "LeadlightModel" "thrown" "I") (List.mem_of_getElem? (i := 1) rfl)) (fun _ h9 => h9) rfl (by decide +kernel) rfl rfl (Nat.le_of_ble_eq_true rfl) dX5_finish_2 (fun H locs hP hD hS => ?_)
  have hP : va_P D vwCl (W_X5_finish h a cI cJ cZ v_thrown_t2 v_made v_many v_isOriginal v_things v_history v_heart v_width v_sheets v_covered) H := hP
  have hD : va_D A (W_X5_finish h a cI cJ cZ v_thrown_t2 v_made v_many v_isOriginal v_things v_history v_heart v_width v_sheets v_covered) := hD
  refine lv_iconst (v := 0) hx hb dX5_finish_5 (by decide) ?_
  refine lv_istore_n (lv' := [(1, .int 0), (0, .ref h)]) hx hb dX5_finish_6 rfl hl (by decide) rfl (fun ls hl => ?_)
  refine lv_iconst (v := 0) hx hb dX5_finish_7 (by decide) ?_
  refine lv_istore_n (lv' := [(2, .int 0), (1, .int 0), (0, .ref h)]) hx hb dX5_finish_8 rfl hl (by decide) rfl (fun ls hl => ?_)
  exact L9 (0, 0, v_thrown_t2, v_isOriginal, v_things, v_history) hw _ _ ls hP hD hS (lv_sub hl [2, 1, 0] rfl)
abbrev rm_X5_heart : Room := { frames := 1, cells := 0, slots := 0, locals := 22 }
abbrev W_X5_heart (h : Nat) (a : Nat → Nat) (cI cJ cZ : ClassId) (v_thrown : Int32) (v_made : Int32) (v_heart : Int32) (v_width : Int32) (v_sheets : Int32) (v_covered : Int32) : va_W := [(h, .inr (6, [.int v_thrown, .int v_made, .ref (a 2), .ref (a 3), .ref (a 4), .ref (a 5), .ref (a 6), .ref (a 7), .ref (a 8), .ref (a 9), .ref (a 10), .ref (a 11), .int v_heart, .int v_width, .ref (a 14), .ref (a 15), .ref (a 16), .ref (a 17), .ref (a 18), .ref (a 19), .ref (a 20), .ref (a 21), .int v_sheets, .int v_covered]))]
def wp_X5_heart_15 (v_thrown : Int32) (v_heart : Int32) (p1 : Int32) (post : Int32 → Int32 → Int32 → Prop) (s1_j15 : Int32) : Prop := wp_X5_goesWell v_thrown s1_j15 (fun r_15 v_thrown_c15 => (r_15 = 0 → post 0 v_thrown_c15 v_heart) ∧ (¬ r_15 = 0 → ∀ v_heart_t30 : Int32, v_heart_t30 = p1 → post v_heart v_thrown_c15 v_heart_t30))
def wp_X5_heart (v_thrown : Int32) (v_heart : Int32) (p1 : Int32) (post : Int32 → Int32 → Int32 → Prop) : Prop := wp_X5_in p1 1 5 (fun r_4 => (r_4 = 0 → wp_X5_heart_15 v_thrown v_heart p1 post 1) ∧ (¬ r_4 = 0 → wp_X5_heart_15 v_thrown v_heart p1 post 0))
set_option maxHeartbeats 4000000 in
set_option maxRecDepth 100000 in
theorem c_X5_heart (l : Launch) (D : va_G) (cI cJ cZ cO : ClassId) (h : Nat) (a : Nat → Nat) (sz : Nat) (v_thrown : Int32) (v_made : Int32) (v_heart : Int32) (v_width : Int32) (v_sheets : Int32) (v_covered : Int32) (p1 : Int32) (post : Int32 → Int32 → Int32 → Prop) (hw : wp_X5_heart v_thrown v_heart p1 post) : Met l yX5_heart wsX5_heart rm_X5_heart (va_Pc [.ref h, .int p1] (PRE D cI cJ cZ cO (W_X5_heart h a cI cJ cZ v_thrown v_made v_heart v_width v_sheets v_covered) sz)) (va_Qi (fun r (u : Int32 × Int32) => post r u.1 u.2) (fun u t => POST D (va_A (W_X5_heart h a cI cJ cZ v_thrown v_made v_heart v_width v_sheets v_covered) sz) (W_X5_heart h a cI cJ cZ u.1 v_made u.2 v_width v_sheets v_covered) t) (va_A (W_X5_heart h a cI cJ cZ v_thrown v_made v_heart v_width v_sheets v_covered) sz)) 0 0 (va_A (W_X5_heart h a cI cJ cZ v_thrown v_made v_heart v_width v_sheets v_covered) sz) := by
  refine met_go (cc := cX5_heart) (maxL := 3) (ret := some .int) RX5 rfl (by decide) rfl (Nat.le_of_ble_eq_true rfl) ?_
  intro p e s m args below meth c ls hx hb hr hts hown hlocks hin hml hsz hP hK hE hD hA hS hl
  have iRX5 : ∀ w ∈ u_ws RX5 TX5 24, w ∈ wsX5_heart := mem_seg 11 24 rfl
  generalize va_A (W_X5_heart h a cI cJ cZ v_thrown v_made v_heart v_width v_sheets v_covered) sz = A at hD hA hS ⊢
  have RT : ∀ (v : Int32) (u : Int32 × Int32) (H : Heap) (locs : List Loc) (pc : Nat) (ls : Array Slot), decode cX5_heart pc = .ok (.ireturn, 1) → post v u.1 u.2 → va_P D vwCl (W_X5_heart h a cI cJ cZ u.1 v_made u.2 v_width v_sheets v_covered) H → va_D A (W_X5_heart h a cI cJ cZ u.1 v_made u.2 v_width v_sheets v_covered) → va_S A s.heap H locs → W p l e rm_X5_heart s m args below meth c H locs 0 0 (MQ below (va_Qi (fun r (u : Int32 × Int32) => post r u.1 u.2) (fun u t => POST D A (W_X5_heart h a cI cJ cZ u.1 v_made u.2 v_width v_sheets v_covered) t) A) args s 0 0 A) (F0 m pc ls [.int v]) := fun v u H locs pc ls d g1 g2 g3 g4 => rt_i (Wf := fun u => (W_X5_heart h a cI cJ cZ u.1 v_made u.2 v_width v_sheets v_covered)) u hx hb hr hlocks g1 g2 g3 g4 d
  generalize (MQ below (va_Qi (fun r (u : Int32 × Int32) => post r u.1 u.2) (fun u t => POST D A (W_X5_heart h a cI cJ cZ u.1 v_made u.2 v_width v_sheets v_covered) t) A) args s 0 0 A) = QQ at RT ⊢
  have hl : lv_has ls 3 [(0, .ref h), (1, .int p1)] := hl
  have hP : va_P D vwCl (W_X5_heart h a cI cJ cZ v_thrown v_made v_heart v_width v_sheets v_covered) s.heap := hP
  unfold wp_X5_heart at hw
  suffices GO : ∀ (H : Heap) (locs : List Loc), va_P D vwCl (W_X5_heart h a cI cJ cZ v_thrown v_made v_heart v_width v_sheets v_covered) H → va_S A s.heap H locs → W p l e rm_X5_heart s m args below meth c H locs 0 0 QQ (F0 m 0 ls []) from GO _ _ hP hS
  clear hsz hP hS
  intro H locs hP hS
  have J15 : ∀ (s1_j15 : Int32) , wp_X5_heart_15 v_thrown v_heart p1 post s1_j15 → ∀ (H : Heap) (locs : List Loc) (ls : Array Slot), va_P D vwCl (W_X5_heart h a cI cJ cZ v_thrown v_made v_heart v_width v_sheets v_covered) H → va_D A (W_X5_heart h a cI cJ cZ v_thrown v_made v_heart v_width v_sheets v_covered) → va_S A s.heap H locs → lv_has ls 3 [(0, .ref h), (1, .int p1)] → W p l e rm_X5_heart s m args below meth c H locs 0 0 QQ (F0 m 15 ls [.int s1_j15, .ref h]) := by
    intro s1_j15 hw H locs ls hP hD hS hl
    unfold wp_X5_heart_15 at hw
    refine af_i (X := (W_X5_heart h a cI cJ cZ v_thrown v_made v_heart v_width v_sheets v_covered)) (pl := []) (cx := (W_X5_goesWell h a cI cJ cZ v_thrown v_made v_heart v_width v_sheets v_covered)) (w1 := fun (u : Int32) => (W_X5_goesWell h a cI cJ cZ u v_made v_heart v_width v_sheets v_covered)) (X' := fun (u : Int32) => (W_X5_heart h a cI cJ cZ u v_made v_heart v_width v_sheets v_covered)) hP hD hS hA [0] [] [0] rfl rfl (by decide) (by decide) (fun u => rfl) (by decide) (va_runV (As := [.int s1_j15]) (rest := []) ⟨hx, hb, hml, hown, hts⟩ (c_X5_goesWell l D cI cJ cZ cO h a H.size v_thrown v_made v_heart v_width v_sheets v_covered s1_j15 _ hw) (cwV 1 hts gX5_heart_X5_goesWell rfl rfl rfl (by decide +kernel) ⟨Nat.le_of_ble_eq_true rfl, Nat.le_of_ble_eq_true rfl⟩) (preV (X := (W_X5_heart h a cI cJ cZ v_thrown v_made v_heart v_width v_sheets v_covered)) (pl := []) (cx := (W_X5_goesWell h a cI cJ cZ v_thrown v_made v_heart v_width v_sheets v_covered)) (qb := 0) (ci := 6) hK hE hP hD [0] (by decide) rfl rfl rfl) rfl rfl hl.1 rfl (lv_room (Nat.le_of_ble_eq_true rfl)) dX5_heart_15 ⟨Nat.zero_le _, Nat.zero_le _⟩) (fun r_15 v_thrown_c15 H locs hw hP hD hS => ?_)
    try dsimp only at hw
    have hP : va_P D vwCl (W_X5_heart h a cI cJ cZ v_thrown_c15 v_made v_heart v_width v_sheets v_covered) H := hP
    have hD : va_D A (W_X5_heart h a cI cJ cZ v_thrown_c15 v_made v_heart v_width v_sheets v_covered) := hD
    refine lv_if_ne (tgt := 23) hx hb dX5_heart_18 (by decide) (fun c18 => ?_) (fun c18 => ?_)
    · have hw := hw.2 c18
      refine lv_aload_n hx hb dX5_heart_23 rfl (lv_at hl 0 rfl) ?_
      refine va_get (D := D) (ci := 6) (v := .int v_heart) (C := RX5) (T := TX5) (N := 24) hx hb hts iRX5 hown hK hP 0 rfl rfl 12 (by decide) (hts (.fieldLink RX5 45 "LeadlightModel" "heart" "I") (List.mem_of_getElem? (i := 1) rfl)) (fun _ h9 => h9) rfl dX5_heart_24 ?_
      refine lv_istore_n (lv' := [(2, .int v_heart), (0, .ref h), (1, .int p1)]) hx hb dX5_heart_27 rfl hl (by decide) rfl (fun ls hl => ?_)
      refine lv_aload_n hx hb dX5_heart_28 rfl (lv_at hl 1 rfl) ?_
      refine lv_iload_n hx hb dX5_heart_29 rfl (lv_at hl 2 rfl) ?_
      refine lv_topi (fun v_heart_t30 ev_heart_t30 => ?_)
      have hw := hw v_heart_t30 ev_heart_t30
      refine va_put (D := D) (ci := 6) (v := .int v_heart_t30) (ty := .int) (C := RX5) (T := TX5) (N := 24) hx hb hts iRX5 tyX5 tyX5_ok nmX5 hown hK hP hD hS 0 rfl rfl 12 (by decide) (hts (.fieldLink RX5 45 "LeadlightModel" "heart" "I") (List.mem_of_getElem? (i := 1) rfl)) (fun _ h9 => h9) rfl (by decide +kernel) rfl rfl (Nat.le_of_ble_eq_true rfl) dX5_heart_30 (fun H locs hP hD hS => ?_)
      have hP : va_P D vwCl (W_X5_heart h a cI cJ cZ v_thrown_c15 v_made v_heart_t30 v_width v_sheets v_covered) H := hP
      have hD : va_D A (W_X5_heart h a cI cJ cZ v_thrown_c15 v_made v_heart_t30 v_width v_sheets v_covered) := hD
      refine lv_iload_n hx hb dX5_heart_33 rfl (lv_at hl 0 rfl) ?_
      exact RT v_heart (v_thrown_c15, v_heart_t30) _ _ _ _ dX5_heart_34 hw hP hD hS
    · have hw := hw.1 c18
      refine lv_iconst (v := 0) hx hb dX5_heart_21 (by decide) ?_
      exact RT 0 (v_thrown_c15, v_heart) _ _ _ _ dX5_heart_22 hw hP hD hS
  refine lv_aload_n hx hb dX5_heart_0 rfl (lv_at hl 0 rfl) ?_
  refine lv_iload_n hx hb dX5_heart_1 rfl (lv_at hl 1 rfl) ?_
  refine lv_iconst (v := 1) hx hb dX5_heart_2 (by decide) ?_
  refine lv_iconst (v := 5) hx hb dX5_heart_3 (by decide) ?_
  refine af_i (X := (W_X5_heart h a cI cJ cZ v_thrown v_made v_heart v_width v_sheets v_covered)) (pl := []) (cx := ([] : va_W)) (w1 := fun (u : Unit) => ([] : va_W)) (X' := fun (u : Unit) => (W_X5_heart h a cI cJ cZ v_thrown v_made v_heart v_width v_sheets v_covered)) hP hD hS hA [] [0] [0] rfl rfl (by decide) (by decide) (fun u => rfl) (by decide) (va_runS (As := [.int p1, .int 1, .int 5]) (rest := [.ref h]) ⟨hx, hb, hml, hown, hts⟩ (c_X5_in l D cI cJ cZ cO H.size p1 1 5 _ hw) (va_cwS 3 hts gX5_heart_X5_in rfl rfl rfl (by decide +kernel) ⟨Nat.le_of_ble_eq_true rfl, Nat.le_of_ble_eq_true rfl⟩) (preS (X := (W_X5_heart h a cI cJ cZ v_thrown v_made v_heart v_width v_sheets v_covered)) (pl := []) (cx := ([] : va_W)) hK hE hP hD [] (by decide) rfl) rfl rfl hl.1 rfl (lv_room (Nat.le_of_ble_eq_true rfl)) dX5_heart_4 ⟨Nat.zero_le _, Nat.zero_le _⟩) (fun r_4 _ H locs hw hP hD hS => ?_)
  try dsimp only at hw
  have hP : va_P D vwCl (W_X5_heart h a cI cJ cZ v_thrown v_made v_heart v_width v_sheets v_covered) H := hP
  have hD : va_D A (W_X5_heart h a cI cJ cZ v_thrown v_made v_heart v_width v_sheets v_covered) := hD
  refine lv_if_eq (tgt := 14) hx hb dX5_heart_7 (by decide) (fun c7 => ?_) (fun c7 => ?_)
  · have hw := hw.1 c7
    refine lv_iconst (v := 1) hx hb dX5_heart_14 (by decide) ?_
    exact J15 1 hw _ _ ls hP hD hS (lv_sub hl [0, 1] rfl)
  · have hw := hw.2 c7
    refine lv_iconst (v := 0) hx hb dX5_heart_10 (by decide) ?_
    refine lv_goto (tgt := 15) hx hb dX5_heart_11 (by decide) ?_
    exact J15 0 hw _ _ ls hP hD hS (lv_sub hl [0, 1] rfl)
abbrev rm_X5_sheet : Room := { frames := 1, cells := 0, slots := 0, locals := 22 }
abbrev W_X5_sheet (h : Nat) (a : Nat → Nat) (cI cJ cZ : ClassId) (v_thrown : Int32) (v_made : Int32) (v_heart : Int32) (v_width : Int32) (v_sheets : Int32) (v_covered : Int32) : va_W := [(h, .inr (6, [.int v_thrown, .int v_made, .ref (a 2), .ref (a 3), .ref (a 4), .ref (a 5), .ref (a 6), .ref (a 7), .ref (a 8), .ref (a 9), .ref (a 10), .ref (a 11), .int v_heart, .int v_width, .ref (a 14), .ref (a 15), .ref (a 16), .ref (a 17), .ref (a 18), .ref (a 19), .ref (a 20), .ref (a 21), .int v_sheets, .int v_covered]))]
def wp_X5_sheet_16 (v_thrown : Int32) (v_width : Int32) (p1 : Int32) (post : Int32 → Int32 → Int32 → Prop) (s1_j16 : Int32) : Prop := wp_X5_goesWell v_thrown s1_j16 (fun r_16 v_thrown_c16 => (r_16 = 0 → post 0 v_thrown_c16 v_width) ∧ (¬ r_16 = 0 → ∀ v_width_t31 : Int32, v_width_t31 = p1 → post v_width v_thrown_c16 v_width_t31))
def wp_X5_sheet (v_thrown : Int32) (v_width : Int32) (p1 : Int32) (post : Int32 → Int32 → Int32 → Prop) : Prop := wp_X5_in p1 4 40 (fun r_5 => (r_5 = 0 → wp_X5_sheet_16 v_thrown v_width p1 post 1) ∧ (¬ r_5 = 0 → wp_X5_sheet_16 v_thrown v_width p1 post 0))
set_option maxHeartbeats 4000000 in
set_option maxRecDepth 100000 in
theorem c_X5_sheet (l : Launch) (D : va_G) (cI cJ cZ cO : ClassId) (h : Nat) (a : Nat → Nat) (sz : Nat) (v_thrown : Int32) (v_made : Int32) (v_heart : Int32) (v_width : Int32) (v_sheets : Int32) (v_covered : Int32) (p1 : Int32) (post : Int32 → Int32 → Int32 → Prop) (hw : wp_X5_sheet v_thrown v_width p1 post) : Met l yX5_sheet wsX5_sheet rm_X5_sheet (va_Pc [.ref h, .int p1] (PRE D cI cJ cZ cO (W_X5_sheet h a cI cJ cZ v_thrown v_made v_heart v_width v_sheets v_covered) sz)) (va_Qi (fun r (u : Int32 × Int32) => post r u.1 u.2) (fun u t => POST D (va_A (W_X5_sheet h a cI cJ cZ v_thrown v_made v_heart v_width v_sheets v_covered) sz) (W_X5_sheet h a cI cJ cZ u.1 v_made v_heart u.2 v_sheets v_covered) t) (va_A (W_X5_sheet h a cI cJ cZ v_thrown v_made v_heart v_width v_sheets v_covered) sz)) 0 0 (va_A (W_X5_sheet h a cI cJ cZ v_thrown v_made v_heart v_width v_sheets v_covered) sz) := by
  refine met_go (cc := cX5_sheet) (maxL := 3) (ret := some .int) RX5 rfl (by decide) rfl (Nat.le_of_ble_eq_true rfl) ?_
  intro p e s m args below meth c ls hx hb hr hts hown hlocks hin hml hsz hP hK hE hD hA hS hl
  have iRX5 : ∀ w ∈ u_ws RX5 TX5 24, w ∈ wsX5_sheet := mem_seg 11 24 rfl
  generalize va_A (W_X5_sheet h a cI cJ cZ v_thrown v_made v_heart v_width v_sheets v_covered) sz = A at hD hA hS ⊢
  have RT : ∀ (v : Int32) (u : Int32 × Int32) (H : Heap) (locs : List Loc) (pc : Nat) (ls : Array Slot), decode cX5_sheet pc = .ok (.ireturn, 1) → post v u.1 u.2 → va_P D vwCl (W_X5_sheet h a cI cJ cZ u.1 v_made v_heart u.2 v_sheets v_covered) H → va_D A (W_X5_sheet h a cI cJ cZ u.1 v_made v_heart u.2 v_sheets v_covered) → va_S A s.heap H locs → W p l e rm_X5_sheet s m args below meth c H locs 0 0 (MQ below (va_Qi (fun r (u : Int32 × Int32) => post r u.1 u.2) (fun u t => POST D A (W_X5_sheet h a cI cJ cZ u.1 v_made v_heart u.2 v_sheets v_covered) t) A) args s 0 0 A) (F0 m pc ls [.int v]) := fun v u H locs pc ls d g1 g2 g3 g4 => rt_i (Wf := fun u => (W_X5_sheet h a cI cJ cZ u.1 v_made v_heart u.2 v_sheets v_covered)) u hx hb hr hlocks g1 g2 g3 g4 d
  generalize (MQ below (va_Qi (fun r (u : Int32 × Int32) => post r u.1 u.2) (fun u t => POST D A (W_X5_sheet h a cI cJ cZ u.1 v_made v_heart u.2 v_sheets v_covered) t) A) args s 0 0 A) = QQ at RT ⊢
  have hl : lv_has ls 3 [(0, .ref h), (1, .int p1)] := hl
  have hP : va_P D vwCl (W_X5_sheet h a cI cJ cZ v_thrown v_made v_heart v_width v_sheets v_covered) s.heap := hP
  unfold wp_X5_sheet at hw
  suffices GO : ∀ (H : Heap) (locs : List Loc), va_P D vwCl (W_X5_sheet h a cI cJ cZ v_thrown v_made v_heart v_width v_sheets v_covered) H → va_S A s.heap H locs → W p l e rm_X5_sheet s m args below meth c H locs 0 0 QQ (F0 m 0 ls []) from GO _ _ hP hS
  clear hsz hP hS
  intro H locs hP hS
  have J16 : ∀ (s1_j16 : Int32) , wp_X5_sheet_16 v_thrown v_width p1 post s1_j16 → ∀ (H : Heap) (locs : List Loc) (ls : Array Slot), va_P D vwCl (W_X5_sheet h a cI cJ cZ v_thrown v_made v_heart v_width v_sheets v_covered) H → va_D A (W_X5_sheet h a cI cJ cZ v_thrown v_made v_heart v_width v_sheets v_covered) → va_S A s.heap H locs → lv_has ls 3 [(0, .ref h), (1, .int p1)] → W p l e rm_X5_sheet s m args below meth c H locs 0 0 QQ (F0 m 16 ls [.int s1_j16, .ref h]) := by
    intro s1_j16 hw H locs ls hP hD hS hl
    unfold wp_X5_sheet_16 at hw
    refine af_i (X := (W_X5_sheet h a cI cJ cZ v_thrown v_made v_heart v_width v_sheets v_covered)) (pl := []) (cx := (W_X5_goesWell h a cI cJ cZ v_thrown v_made v_heart v_width v_sheets v_covered)) (w1 := fun (u : Int32) => (W_X5_goesWell h a cI cJ cZ u v_made v_heart v_width v_sheets v_covered)) (X' := fun (u : Int32) => (W_X5_sheet h a cI cJ cZ u v_made v_heart v_width v_sheets v_covered)) hP hD hS hA [0] [] [0] rfl rfl (by decide) (by decide) (fun u => rfl) (by decide) (va_runV (As := [.int s1_j16]) (rest := []) ⟨hx, hb, hml, hown, hts⟩ (c_X5_goesWell l D cI cJ cZ cO h a H.size v_thrown v_made v_heart v_width v_sheets v_covered s1_j16 _ hw) (cwV 1 hts gX5_sheet_X5_goesWell rfl rfl rfl (by decide +kernel) ⟨Nat.le_of_ble_eq_true rfl, Nat.le_of_ble_eq_true rfl⟩) (preV (X := (W_X5_sheet h a cI cJ cZ v_thrown v_made v_heart v_width v_sheets v_covered)) (pl := []) (cx := (W_X5_goesWell h a cI cJ cZ v_thrown v_made v_heart v_width v_sheets v_covered)) (qb := 0) (ci := 6) hK hE hP hD [0] (by decide) rfl rfl rfl) rfl rfl hl.1 rfl (lv_room (Nat.le_of_ble_eq_true rfl)) dX5_sheet_16 ⟨Nat.zero_le _, Nat.zero_le _⟩) (fun r_16 v_thrown_c16 H locs hw hP hD hS => ?_)
    try dsimp only at hw
    have hP : va_P D vwCl (W_X5_sheet h a cI cJ cZ v_thrown_c16 v_made v_heart v_width v_sheets v_covered) H := hP
    have hD : va_D A (W_X5_sheet h a cI cJ cZ v_thrown_c16 v_made v_heart v_width v_sheets v_covered) := hD
    refine lv_if_ne (tgt := 24) hx hb dX5_sheet_19 (by decide) (fun c19 => ?_) (fun c19 => ?_)
    · have hw := hw.2 c19
      refine lv_aload_n hx hb dX5_sheet_24 rfl (lv_at hl 0 rfl) ?_
      refine va_get (D := D) (ci := 6) (v := .int v_width) (C := RX5) (T := TX5) (N := 24) hx hb hts iRX5 hown hK hP 0 rfl rfl 13 (by decide) (hts (.fieldLink RX5 48 "LeadlightModel" "width" "I") (List.mem_of_getElem? (i := 1) rfl)) (fun _ h9 => h9) rfl dX5_sheet_25 ?_
      refine lv_istore_n (lv' := [(2, .int v_width), (0, .ref h), (1, .int p1)]) hx hb dX5_sheet_28 rfl hl (by decide) rfl (fun ls hl => ?_)
      refine lv_aload_n hx hb dX5_sheet_29 rfl (lv_at hl 1 rfl) ?_
      refine lv_iload_n hx hb dX5_sheet_30 rfl (lv_at hl 2 rfl) ?_
      refine lv_topi (fun v_width_t31 ev_width_t31 => ?_)
      have hw := hw v_width_t31 ev_width_t31
      refine va_put (D := D) (ci := 6) (v := .int v_width_t31) (ty := .int) (C := RX5) (T := TX5) (N := 24) hx hb hts iRX5 tyX5 tyX5_ok nmX5 hown hK hP hD hS 0 rfl rfl 13 (by decide) (hts (.fieldLink RX5 48 "LeadlightModel" "width" "I") (List.mem_of_getElem? (i := 1) rfl)) (fun _ h9 => h9) rfl (by decide +kernel) rfl rfl (Nat.le_of_ble_eq_true rfl) dX5_sheet_31 (fun H locs hP hD hS => ?_)
      have hP : va_P D vwCl (W_X5_sheet h a cI cJ cZ v_thrown_c16 v_made v_heart v_width_t31 v_sheets v_covered) H := hP
      have hD : va_D A (W_X5_sheet h a cI cJ cZ v_thrown_c16 v_made v_heart v_width_t31 v_sheets v_covered) := hD
      refine lv_iload_n hx hb dX5_sheet_34 rfl (lv_at hl 0 rfl) ?_
      exact RT v_width (v_thrown_c16, v_width_t31) _ _ _ _ dX5_sheet_35 hw hP hD hS
    · have hw := hw.1 c19
      refine lv_iconst (v := 0) hx hb dX5_sheet_22 (by decide) ?_
      exact RT 0 (v_thrown_c16, v_width) _ _ _ _ dX5_sheet_23 hw hP hD hS
  refine lv_aload_n hx hb dX5_sheet_0 rfl (lv_at hl 0 rfl) ?_
  refine lv_iload_n hx hb dX5_sheet_1 rfl (lv_at hl 1 rfl) ?_
  refine lv_iconst (v := 4) hx hb dX5_sheet_2 (by decide) ?_
  refine lv_bipush (v := 40) hx hb dX5_sheet_3 (by decide) ?_
  refine af_i (X := (W_X5_sheet h a cI cJ cZ v_thrown v_made v_heart v_width v_sheets v_covered)) (pl := []) (cx := ([] : va_W)) (w1 := fun (u : Unit) => ([] : va_W)) (X' := fun (u : Unit) => (W_X5_sheet h a cI cJ cZ v_thrown v_made v_heart v_width v_sheets v_covered)) hP hD hS hA [] [0] [0] rfl rfl (by decide) (by decide) (fun u => rfl) (by decide) (va_runS (As := [.int p1, .int 4, .int 40]) (rest := [.ref h]) ⟨hx, hb, hml, hown, hts⟩ (c_X5_in l D cI cJ cZ cO H.size p1 4 40 _ hw) (va_cwS 3 hts gX5_sheet_X5_in rfl rfl rfl (by decide +kernel) ⟨Nat.le_of_ble_eq_true rfl, Nat.le_of_ble_eq_true rfl⟩) (preS (X := (W_X5_sheet h a cI cJ cZ v_thrown v_made v_heart v_width v_sheets v_covered)) (pl := []) (cx := ([] : va_W)) hK hE hP hD [] (by decide) rfl) rfl rfl hl.1 rfl (lv_room (Nat.le_of_ble_eq_true rfl)) dX5_sheet_5 ⟨Nat.zero_le _, Nat.zero_le _⟩) (fun r_5 _ H locs hw hP hD hS => ?_)
  try dsimp only at hw
  have hP : va_P D vwCl (W_X5_sheet h a cI cJ cZ v_thrown v_made v_heart v_width v_sheets v_covered) H := hP
  have hD : va_D A (W_X5_sheet h a cI cJ cZ v_thrown v_made v_heart v_width v_sheets v_covered) := hD
  refine lv_if_eq (tgt := 15) hx hb dX5_sheet_8 (by decide) (fun c8 => ?_) (fun c8 => ?_)
  · have hw := hw.1 c8
    refine lv_iconst (v := 1) hx hb dX5_sheet_15 (by decide) ?_
    exact J16 1 hw _ _ ls hP hD hS (lv_sub hl [0, 1] rfl)
  · have hw := hw.2 c8
    refine lv_iconst (v := 0) hx hb dX5_sheet_11 (by decide) ?_
    refine lv_goto (tgt := 16) hx hb dX5_sheet_12 (by decide) ?_
    exact J16 0 hw _ _ ls hP hD hS (lv_sub hl [0, 1] rfl)
abbrev rm_X5_bars : Room := { frames := 0, cells := 0, slots := 0, locals := 0 }
abbrev W_X5_bars (h : Nat) (a : Nat → Nat) (cI cJ cZ : ClassId) (v_thrown : Int32) (v_made : Int32) (v_heart : Int32) (v_width : Int32) (v_hasBar : Nat → Int32) (v_sheets : Int32) (v_covered : Int32) : va_W := [(h, .inr (6, [.int v_thrown, .int v_made, .ref (a 2), .ref (a 3), .ref (a 4), .ref (a 5), .ref (a 6), .ref (a 7), .ref (a 8), .ref (a 9), .ref (a 10), .ref (a 11), .int v_heart, .int v_width, .ref (a 14), .ref (a 15), .ref (a 16), .ref (a 17), .ref (a 18), .ref (a 19), .ref (a 20), .ref (a 21), .int v_sheets, .int v_covered])), ((a 14), .inl (cZ, 15, .inl v_hasBar))]
def wp_X5_bars_25 (v_hasBar : Nat → Int32) (post : Int32 → Prop) (K4 : Int32 → Int32 → Prop) (s0_j25 : Int32) (s1_j25 : Int32) (x2_j25 : Int32) : Prop := K4 (s0_j25 + s1_j25) (x2_j25 + 1)
def wp_X5_bars_4 (v_hasBar : Nat → Int32) (post : Int32 → Prop) (K4 : Int32 → Int32 → Prop) (x1_j4 : Int32) (x2_j4 : Int32) : Prop := (15 ≤ x2_j4 → post x1_j4) ∧ (¬ 15 ≤ x2_j4 → vp_in x2_j4 15 ∧ (((v_hasBar x2_j4.toNatClampNeg) = 0 → wp_X5_bars_25 v_hasBar post K4 x1_j4 0 x2_j4) ∧ (¬ (v_hasBar x2_j4.toNatClampNeg) = 0 → wp_X5_bars_25 v_hasBar post K4 x1_j4 1 x2_j4)))
def lF_X5_bars_4 (v_hasBar : Nat → Int32) (post : Int32 → Prop) : ((Int32 × Int32) → Prop) → (Int32 × Int32) → Prop := fun K s => wp_X5_bars_4 v_hasBar post (fun b0 b1 => K (b0, b1)) s.1 s.2
def wp_X5_bars (v_hasBar : Nat → Int32) (post : Int32 → Prop) : Prop := lp (lF_X5_bars_4 v_hasBar post) (0, 0)
set_option maxHeartbeats 4000000 in
set_option maxRecDepth 100000 in
theorem c_X5_bars (l : Launch) (D : va_G) (cI cJ cZ cO : ClassId) (h : Nat) (a : Nat → Nat) (sz : Nat) (v_thrown : Int32) (v_made : Int32) (v_heart : Int32) (v_width : Int32) (v_hasBar : Nat → Int32) (v_sheets : Int32) (v_covered : Int32) (post : Int32 → Prop) (hw : wp_X5_bars v_hasBar post) : Met l yX5_bars wsX5_bars rm_X5_bars (va_Pc [.ref h] (PRE D cI cJ cZ cO (W_X5_bars h a cI cJ cZ v_thrown v_made v_heart v_width v_hasBar v_sheets v_covered) sz)) (va_Qi (fun r (_ : Unit) => post r) (fun u t => POST D (va_A (W_X5_bars h a cI cJ cZ v_thrown v_made v_heart v_width v_hasBar v_sheets v_covered) sz) (W_X5_bars h a cI cJ cZ v_thrown v_made v_heart v_width v_hasBar v_sheets v_covered) t) (va_A (W_X5_bars h a cI cJ cZ v_thrown v_made v_heart v_width v_hasBar v_sheets v_covered) sz)) 0 0 (va_A (W_X5_bars h a cI cJ cZ v_thrown v_made v_heart v_width v_hasBar v_sheets v_covered) sz) := by
  refine met_go (cc := cX5_bars) (maxL := 3) (ret := some .int) RX5 rfl (by decide) rfl (Nat.le_of_ble_eq_true rfl) ?_
  intro p e s m args below meth c ls hx hb hr hts hown hlocks hin hml hsz hP hK hE hD hA hS hl
  have iRX5 : ∀ w ∈ u_ws RX5 TX5 24, w ∈ wsX5_bars := mem_seg 2 24 rfl
  generalize va_A (W_X5_bars h a cI cJ cZ v_thrown v_made v_heart v_width v_hasBar v_sheets v_covered) sz = A at hD hA hS ⊢
  have RT : ∀ (v : Int32) (u : Unit) (H : Heap) (locs : List Loc) (pc : Nat) (ls : Array Slot), decode cX5_bars pc = .ok (.ireturn, 1) → post v → va_P D vwCl (W_X5_bars h a cI cJ cZ v_thrown v_made v_heart v_width v_hasBar v_sheets v_covered) H → va_D A (W_X5_bars h a cI cJ cZ v_thrown v_made v_heart v_width v_hasBar v_sheets v_covered) → va_S A s.heap H locs → W p l e rm_X5_bars s m args below meth c H locs 0 0 (MQ below (va_Qi (fun r (_ : Unit) => post r) (fun u t => POST D A (W_X5_bars h a cI cJ cZ v_thrown v_made v_heart v_width v_hasBar v_sheets v_covered) t) A) args s 0 0 A) (F0 m pc ls [.int v]) := fun v u H locs pc ls d g1 g2 g3 g4 => rt_i (Wf := fun u => (W_X5_bars h a cI cJ cZ v_thrown v_made v_heart v_width v_hasBar v_sheets v_covered)) u hx hb hr hlocks g1 g2 g3 g4 d
  generalize (MQ below (va_Qi (fun r (_ : Unit) => post r) (fun u t => POST D A (W_X5_bars h a cI cJ cZ v_thrown v_made v_heart v_width v_hasBar v_sheets v_covered) t) A) args s 0 0 A) = QQ at RT ⊢
  have hl : lv_has ls 3 [(0, .ref h)] := hl
  have hP : va_P D vwCl (W_X5_bars h a cI cJ cZ v_thrown v_made v_heart v_width v_hasBar v_sheets v_covered) s.heap := hP
  unfold wp_X5_bars at hw
  suffices GO : ∀ (H : Heap) (locs : List Loc), va_P D vwCl (W_X5_bars h a cI cJ cZ v_thrown v_made v_heart v_width v_hasBar v_sheets v_covered) H → va_S A s.heap H locs → W p l e rm_X5_bars s m args below meth c H locs 0 0 QQ (F0 m 0 ls []) from GO _ _ hP hS
  clear hsz hP hS
  intro H locs hP hS
  have L4 : ∀ s0 : (Int32 × Int32), lp (lF_X5_bars_4 v_hasBar post) s0 → ∀ (H : Heap) (locs : List Loc) (ls : Array Slot), va_P D vwCl (W_X5_bars h a cI cJ cZ v_thrown v_made v_heart v_width v_hasBar v_sheets v_covered) H → va_D A (W_X5_bars h a cI cJ cZ v_thrown v_made v_heart v_width v_hasBar v_sheets v_covered) → va_S A s.heap H locs → lv_has ls 3 [(0, .ref h), (1, .int s0.1), (2, .int s0.2)] → W p l e rm_X5_bars s m args below meth c H locs 0 0 QQ (F0 m 4 ls []) := by
    refine lp_elim (fun K4 ih4 s0 hw => ?_)
    obtain ⟨x1_j4, x2_j4⟩ := s0
    intro H locs ls hP hD hS hl
    have hw : wp_X5_bars_4 v_hasBar post (fun b0 b1 => K4 (b0, b1)) x1_j4 x2_j4 := hw
    have hP : va_P D vwCl (W_X5_bars h a cI cJ cZ v_thrown v_made v_heart v_width v_hasBar v_sheets v_covered) H := hP
    have hD : va_D A (W_X5_bars h a cI cJ cZ v_thrown v_made v_heart v_width v_hasBar v_sheets v_covered) := hD
    have hl : lv_has ls 3 [(0, .ref h), (1, .int x1_j4), (2, .int x2_j4)] := hl
    have J25 : ∀ (s0_j25 : Int32) (s1_j25 : Int32) (x2_j25 : Int32) , wp_X5_bars_25 v_hasBar post (fun b0 b1 => K4 (b0, b1)) s0_j25 s1_j25 x2_j25 → ∀ (H : Heap) (locs : List Loc) (ls : Array Slot), va_P D vwCl (W_X5_bars h a cI cJ cZ v_thrown v_made v_heart v_width v_hasBar v_sheets v_covered) H → va_D A (W_X5_bars h a cI cJ cZ v_thrown v_made v_heart v_width v_hasBar v_sheets v_covered) → va_S A s.heap H locs → lv_has ls 3 [(0, .ref h), (2, .int x2_j25)] → W p l e rm_X5_bars s m args below meth c H locs 0 0 QQ (F0 m 25 ls [.int s1_j25, .int s0_j25]) := by
      intro s0_j25 s1_j25 x2_j25 hw H locs ls hP hD hS hl
      unfold wp_X5_bars_25 at hw
      refine lv_iadd hx hb dX5_bars_25 ?_
      refine lv_istore_n (lv' := [(1, .int (s0_j25 + s1_j25)), (0, .ref h), (2, .int x2_j25)]) hx hb dX5_bars_26 rfl hl (by decide) rfl (fun ls hl => ?_)
      refine lv_iinc (v := (x2_j25 + 1)) (lv' := [(2, .int (x2_j25 + 1)), (1, .int (s0_j25 + s1_j25)), (0, .ref h)]) hx hb dX5_bars_27 hl (k := 2) rfl rfl (by decide) rfl (fun ls hl => ?_)
      refine lv_goto (tgt := 4) hx hb dX5_bars_30 (by decide) ?_
      exact ih4 ((s0_j25 + s1_j25), (x2_j25 + 1)) hw _ _ ls hP hD hS (lv_sub hl [2, 1, 0] rfl)
    unfold wp_X5_bars_4 at hw
    refine lv_iload_n hx hb dX5_bars_4 rfl (lv_at hl 2 rfl) ?_
    refine lv_bipush (v := 15) hx hb dX5_bars_5 (by decide) ?_
    refine lv_icmp_ge (tgt := 33) hx hb dX5_bars_7 (by decide) (fun c7 => ?_) (fun c7 => ?_)
    · have hw := hw.1 c7
      refine lv_iload_n hx hb dX5_bars_33 rfl (lv_at hl 1 rfl) ?_
      exact RT x1_j4 () _ _ _ _ dX5_bars_34 hw hP hD hS
    · have hw := hw.2 c7
      refine lv_iload_n hx hb dX5_bars_10 rfl (lv_at hl 1 rfl) ?_
      refine lv_aload_n hx hb dX5_bars_11 rfl (lv_at hl 0 rfl) ?_
      refine va_get (D := D) (ci := 6) (v := .ref (a 14)) (C := RX5) (T := TX5) (N := 24) hx hb hts iRX5 hown hK hP 0 rfl rfl 14 (by decide) (hts (.fieldLink RX5 51 "LeadlightModel" "hasBar" "[Z") (List.mem_of_getElem? (i := 1) rfl)) (fun _ h9 => h9) rfl dX5_bars_12 ?_
      refine lv_iload_n hx hb dX5_bars_15 rfl (lv_at hl 2 rfl) ?_
      obtain ⟨hi_16, hw⟩ := hw
      refine va_zald hx hb hK hP 1 2 rfl rfl hi_16 dX5_bars_16 ?_
      refine lv_if_eq (tgt := 24) hx hb dX5_bars_17 (by decide) (fun c17 => ?_) (fun c17 => ?_)
      · have hw := hw.1 c17
        refine lv_iconst (v := 0) hx hb dX5_bars_24 (by decide) ?_
        exact J25 x1_j4 0 x2_j4 hw _ _ ls hP hD hS (lv_sub hl [0, 2] rfl)
      · have hw := hw.2 c17
        refine lv_iconst (v := 1) hx hb dX5_bars_20 (by decide) ?_
        refine lv_goto (tgt := 25) hx hb dX5_bars_21 (by decide) ?_
        exact J25 x1_j4 1 x2_j4 hw _ _ ls hP hD hS (lv_sub hl [0, 2] rfl)
  refine lv_iconst (v := 0) hx hb dX5_bars_0 (by decide) ?_
  refine lv_istore_n (lv' := [(1, .int 0), (0, .ref h)]) hx hb dX5_bars_1 rfl hl (by decide) rfl (fun ls hl => ?_)
  refine lv_iconst (v := 0) hx hb dX5_bars_2 (by decide) ?_
  refine lv_istore_n (lv' := [(2, .int 0), (1, .int 0), (0, .ref h)]) hx hb dX5_bars_3 rfl hl (by decide) rfl (fun ls hl => ?_)
  exact L4 (0, 0) hw _ _ ls hP hD hS (lv_sub hl [2, 1, 0] rfl)
abbrev rm_X5_bar : Room := { frames := 1, cells := 0, slots := 0, locals := 22 }
abbrev W_X5_bar (h : Nat) (a : Nat → Nat) (cI cJ cZ : ClassId) (v_thrown : Int32) (v_made : Int32) (v_heart : Int32) (v_width : Int32) (v_hasBar : Nat → Int32) (v_sheets : Int32) (v_covered : Int32) : va_W := [(h, .inr (6, [.int v_thrown, .int v_made, .ref (a 2), .ref (a 3), .ref (a 4), .ref (a 5), .ref (a 6), .ref (a 7), .ref (a 8), .ref (a 9), .ref (a 10), .ref (a 11), .int v_heart, .int v_width, .ref (a 14), .ref (a 15), .ref (a 16), .ref (a 17), .ref (a 18), .ref (a 19), .ref (a 20), .ref (a 21), .int v_sheets, .int v_covered])), ((a 14), .inl (cZ, 15, .inl v_hasBar))]
def wp_X5_bar_66 (v_thrown : Int32) (v_hasBar : Nat → Int32) (p1 : Int32) (post : Int32 → Int32 → (Nat → Int32) → Prop) (s1_j66 : Int32) (s2_j66 : Int32) (v_thrown_j66 : Int32) : Prop := vp_in s1_j66 15 ∧ (∀ v_hasBar_t66 : Nat → Int32, v_hasBar_t66 = upd v_hasBar s1_j66.toNatClampNeg (vp_nar .boolean s2_j66) → vp_in p1 15 ∧ (((v_hasBar_t66 p1.toNatClampNeg) = 0 → post 1 v_thrown_j66 v_hasBar_t66) ∧ (¬ (v_hasBar_t66 p1.toNatClampNeg) = 0 → post 0 v_thrown_j66 v_hasBar_t66)))
def wp_X5_bar_39 (v_thrown : Int32) (v_hasBar : Nat → Int32) (p1 : Int32) (post : Int32 → Int32 → (Nat → Int32) → Prop) (s1_j39 : Int32) : Prop := wp_X5_goesWell v_thrown s1_j39 (fun r_39 v_thrown_c39 => (r_39 = 0 → post 0 v_thrown_c39 v_hasBar) ∧ (¬ r_39 = 0 → vp_in p1 15 ∧ (((v_hasBar p1.toNatClampNeg) = 0 → wp_X5_bar_66 v_thrown v_hasBar p1 post p1 1 v_thrown_c39) ∧ (¬ (v_hasBar p1.toNatClampNeg) = 0 → wp_X5_bar_66 v_thrown v_hasBar p1 post p1 0 v_thrown_c39))))
def wp_X5_bar (v_thrown : Int32) (v_hasBar : Nat → Int32) (p1 : Int32) (post : Int32 → Int32 → (Nat → Int32) → Prop) : Prop := wp_X5_in p1 0 14 (fun r_4 => (r_4 = 0 → wp_X5_bar_39 v_thrown v_hasBar p1 post 1) ∧ (¬ r_4 = 0 → vp_in p1 15 ∧ (((v_hasBar p1.toNatClampNeg) = 0 → wp_X5_bars v_hasBar (fun r_27 => (r_27 = 5 → wp_X5_bar_39 v_thrown v_hasBar p1 post 2) ∧ (¬ r_27 = 5 → wp_X5_bar_39 v_thrown v_hasBar p1 post 0))) ∧ (¬ (v_hasBar p1.toNatClampNeg) = 0 → wp_X5_bar_39 v_thrown v_hasBar p1 post 0))))
set_option maxHeartbeats 4000000 in
set_option maxRecDepth 100000 in
theorem c_X5_bar (l : Launch) (D : va_G) (cI cJ cZ cO : ClassId) (h : Nat) (a : Nat → Nat) (sz : Nat) (v_thrown : Int32) (v_made : Int32) (v_heart : Int32) (v_width : Int32) (v_hasBar : Nat → Int32) (v_sheets : Int32) (v_covered : Int32) (p1 : Int32) (post : Int32 → Int32 → (Nat → Int32) → Prop) (hw : wp_X5_bar v_thrown v_hasBar p1 post) : Met l yX5_bar wsX5_bar rm_X5_bar (va_Pc [.ref h, .int p1] (PRE D cI cJ cZ cO (W_X5_bar h a cI cJ cZ v_thrown v_made v_heart v_width v_hasBar v_sheets v_covered) sz)) (va_Qi (fun r (u : Int32 × (Nat → Int32)) => post r u.1 u.2) (fun u t => POST D (va_A (W_X5_bar h a cI cJ cZ v_thrown v_made v_heart v_width v_hasBar v_sheets v_covered) sz) (W_X5_bar h a cI cJ cZ u.1 v_made v_heart v_width u.2 v_sheets v_covered) t) (va_A (W_X5_bar h a cI cJ cZ v_thrown v_made v_heart v_width v_hasBar v_sheets v_covered) sz)) 0 0 (va_A (W_X5_bar h a cI cJ cZ v_thrown v_made v_heart v_width v_hasBar v_sheets v_covered) sz) := by
  refine met_go (cc := cX5_bar) (maxL := 3) (ret := some .boolean) RX5 rfl (by decide) rfl (Nat.le_of_ble_eq_true rfl) ?_
  intro p e s m args below meth c ls hx hb hr hts hown hlocks hin hml hsz hP hK hE hD hA hS hl
  have iRX5 : ∀ w ∈ u_ws RX5 TX5 24, w ∈ wsX5_bar := mem_seg 15 24 rfl
  generalize va_A (W_X5_bar h a cI cJ cZ v_thrown v_made v_heart v_width v_hasBar v_sheets v_covered) sz = A at hD hA hS ⊢
  have RT : ∀ (v : Int32) (u : Int32 × (Nat → Int32)) (H : Heap) (locs : List Loc) (pc : Nat) (ls : Array Slot), decode cX5_bar pc = .ok (.ireturn, 1) → (v = 0 ∨ v = 1) → post v u.1 u.2 → va_P D vwCl (W_X5_bar h a cI cJ cZ u.1 v_made v_heart v_width u.2 v_sheets v_covered) H → va_D A (W_X5_bar h a cI cJ cZ u.1 v_made v_heart v_width u.2 v_sheets v_covered) → va_S A s.heap H locs → W p l e rm_X5_bar s m args below meth c H locs 0 0 (MQ below (va_Qi (fun r (u : Int32 × (Nat → Int32)) => post r u.1 u.2) (fun u t => POST D A (W_X5_bar h a cI cJ cZ u.1 v_made v_heart v_width u.2 v_sheets v_covered) t) A) args s 0 0 A) (F0 m pc ls [.int v]) := fun v u H locs pc ls d g0 g1 g2 g3 g4 => rt_z (Wf := fun u => (W_X5_bar h a cI cJ cZ u.1 v_made v_heart v_width u.2 v_sheets v_covered)) u hx hb hr hlocks g0 g1 g2 g3 g4 d
  generalize (MQ below (va_Qi (fun r (u : Int32 × (Nat → Int32)) => post r u.1 u.2) (fun u t => POST D A (W_X5_bar h a cI cJ cZ u.1 v_made v_heart v_width u.2 v_sheets v_covered) t) A) args s 0 0 A) = QQ at RT ⊢
  have hl : lv_has ls 3 [(0, .ref h), (1, .int p1)] := hl
  have hP : va_P D vwCl (W_X5_bar h a cI cJ cZ v_thrown v_made v_heart v_width v_hasBar v_sheets v_covered) s.heap := hP
  unfold wp_X5_bar at hw
  suffices GO : ∀ (H : Heap) (locs : List Loc), va_P D vwCl (W_X5_bar h a cI cJ cZ v_thrown v_made v_heart v_width v_hasBar v_sheets v_covered) H → va_S A s.heap H locs → W p l e rm_X5_bar s m args below meth c H locs 0 0 QQ (F0 m 0 ls []) from GO _ _ hP hS
  clear hsz hP hS
  intro H locs hP hS
  have J66 : ∀ (s1_j66 : Int32) (s2_j66 : Int32) (v_thrown_j66 : Int32) , wp_X5_bar_66 v_thrown v_hasBar p1 post s1_j66 s2_j66 v_thrown_j66 → ∀ (H : Heap) (locs : List Loc) (ls : Array Slot), va_P D vwCl (W_X5_bar h a cI cJ cZ v_thrown_j66 v_made v_heart v_width v_hasBar v_sheets v_covered) H → va_D A (W_X5_bar h a cI cJ cZ v_thrown_j66 v_made v_heart v_width v_hasBar v_sheets v_covered) → va_S A s.heap H locs → lv_has ls 3 [(0, .ref h), (1, .int p1)] → W p l e rm_X5_bar s m args below meth c H locs 0 0 QQ (F0 m 66 ls [.int s2_j66, .int s1_j66, .ref (a 14)]) := by
    intro s1_j66 s2_j66 v_thrown_j66 hw H locs ls hP hD hS hl
    unfold wp_X5_bar_66 at hw
    obtain ⟨hi_66, hw⟩ := hw
    refine st_z hx hb hK hP hD hS 1 2 rfl rfl hi_66 dX5_bar_66 (fun v_hasBar_t66 ev_hasBar_t66 H locs hP hD hS => ?_)
    have hw := hw v_hasBar_t66 ev_hasBar_t66
    have hP : va_P D vwCl (W_X5_bar h a cI cJ cZ v_thrown_j66 v_made v_heart v_width v_hasBar_t66 v_sheets v_covered) H := hP
    have hD : va_D A (W_X5_bar h a cI cJ cZ v_thrown_j66 v_made v_heart v_width v_hasBar_t66 v_sheets v_covered) := hD
    refine lv_aload_n hx hb dX5_bar_67 rfl (lv_at hl 0 rfl) ?_
    refine va_get (D := D) (ci := 6) (v := .ref (a 14)) (C := RX5) (T := TX5) (N := 24) hx hb hts iRX5 hown hK hP 0 rfl rfl 14 (by decide) (hts (.fieldLink RX5 51 "LeadlightModel" "hasBar" "[Z") (List.mem_of_getElem? (i := 1) rfl)) (fun _ h9 => h9) rfl dX5_bar_68 ?_
    refine lv_iload_n hx hb dX5_bar_71 rfl (lv_at hl 1 rfl) ?_
    obtain ⟨hi_72, hw⟩ := hw
    refine va_zald hx hb hK hP 1 2 rfl rfl hi_72 dX5_bar_72 ?_
    refine lv_if_ne (tgt := 80) hx hb dX5_bar_73 (by decide) (fun c73 => ?_) (fun c73 => ?_)
    · have hw := hw.2 c73
      refine lv_iconst (v := 0) hx hb dX5_bar_80 (by decide) ?_
      exact RT 0 (v_thrown_j66, v_hasBar_t66) _ _ _ _ dX5_bar_81 (Or.inl rfl) hw hP hD hS
    · have hw := hw.1 c73
      refine lv_iconst (v := 1) hx hb dX5_bar_76 (by decide) ?_
      refine lv_goto (tgt := 81) hx hb dX5_bar_77 (by decide) ?_
      exact RT 1 (v_thrown_j66, v_hasBar_t66) _ _ _ _ dX5_bar_81 (Or.inr rfl) hw hP hD hS
  have J39 : ∀ (s1_j39 : Int32) , wp_X5_bar_39 v_thrown v_hasBar p1 post s1_j39 → ∀ (H : Heap) (locs : List Loc) (ls : Array Slot), va_P D vwCl (W_X5_bar h a cI cJ cZ v_thrown v_made v_heart v_width v_hasBar v_sheets v_covered) H → va_D A (W_X5_bar h a cI cJ cZ v_thrown v_made v_heart v_width v_hasBar v_sheets v_covered) → va_S A s.heap H locs → lv_has ls 3 [(0, .ref h), (1, .int p1)] → W p l e rm_X5_bar s m args below meth c H locs 0 0 QQ (F0 m 39 ls [.int s1_j39, .ref h]) := by
    intro s1_j39 hw H locs ls hP hD hS hl
    unfold wp_X5_bar_39 at hw
    refine af_i (X := (W_X5_bar h a cI cJ cZ v_thrown v_made v_heart v_width v_hasBar v_sheets v_covered)) (pl := []) (cx := (W_X5_goesWell h a cI cJ cZ v_thrown v_made v_heart v_width v_sheets v_covered)) (w1 := fun (u : Int32) => (W_X5_goesWell h a cI cJ cZ u v_made v_heart v_width v_sheets v_covered)) (X' := fun (u : Int32) => (W_X5_bar h a cI cJ cZ u v_made v_heart v_width v_hasBar v_sheets v_covered)) hP hD hS hA [0] [1] [1, 0] rfl rfl (by decide) (by decide) (fun u => rfl) (by decide) (va_runV (As := [.int s1_j39]) (rest := []) ⟨hx, hb, hml, hown, hts⟩ (c_X5_goesWell l D cI cJ cZ cO h a H.size v_thrown v_made v_heart v_width v_sheets v_covered s1_j39 _ hw) (cwV 1 hts gX5_bar_X5_goesWell rfl rfl rfl (by decide +kernel) ⟨Nat.le_of_ble_eq_true rfl, Nat.le_of_ble_eq_true rfl⟩) (preV (X := (W_X5_bar h a cI cJ cZ v_thrown v_made v_heart v_width v_hasBar v_sheets v_covered)) (pl := []) (cx := (W_X5_goesWell h a cI cJ cZ v_thrown v_made v_heart v_width v_sheets v_covered)) (qb := 0) (ci := 6) hK hE hP hD [0] (by decide) rfl rfl rfl) rfl rfl hl.1 rfl (lv_room (Nat.le_of_ble_eq_true rfl)) dX5_bar_39 ⟨Nat.zero_le _, Nat.zero_le _⟩) (fun r_39 v_thrown_c39 H locs hw hP hD hS => ?_)
    try dsimp only at hw
    have hP : va_P D vwCl (W_X5_bar h a cI cJ cZ v_thrown_c39 v_made v_heart v_width v_hasBar v_sheets v_covered) H := hP
    have hD : va_D A (W_X5_bar h a cI cJ cZ v_thrown_c39 v_made v_heart v_width v_hasBar v_sheets v_covered) := hD
    refine lv_if_ne (tgt := 47) hx hb dX5_bar_42 (by decide) (fun c42 => ?_) (fun c42 => ?_)
    · have hw := hw.2 c42
      refine lv_aload_n hx hb dX5_bar_47 rfl (lv_at hl 0 rfl) ?_
      refine va_get (D := D) (ci := 6) (v := .ref (a 14)) (C := RX5) (T := TX5) (N := 24) hx hb hts iRX5 hown hK hP 0 rfl rfl 14 (by decide) (hts (.fieldLink RX5 51 "LeadlightModel" "hasBar" "[Z") (List.mem_of_getElem? (i := 1) rfl)) (fun _ h9 => h9) rfl dX5_bar_48 ?_
      refine lv_iload_n hx hb dX5_bar_51 rfl (lv_at hl 1 rfl) ?_
      refine lv_aload_n hx hb dX5_bar_52 rfl (lv_at hl 0 rfl) ?_
      refine va_get (D := D) (ci := 6) (v := .ref (a 14)) (C := RX5) (T := TX5) (N := 24) hx hb hts iRX5 hown hK hP 0 rfl rfl 14 (by decide) (hts (.fieldLink RX5 51 "LeadlightModel" "hasBar" "[Z") (List.mem_of_getElem? (i := 1) rfl)) (fun _ h9 => h9) rfl dX5_bar_53 ?_
      refine lv_iload_n hx hb dX5_bar_56 rfl (lv_at hl 1 rfl) ?_
      obtain ⟨hi_57, hw⟩ := hw
      refine va_zald hx hb hK hP 1 2 rfl rfl hi_57 dX5_bar_57 ?_
      refine lv_if_ne (tgt := 65) hx hb dX5_bar_58 (by decide) (fun c58 => ?_) (fun c58 => ?_)
      · have hw := hw.2 c58
        refine lv_iconst (v := 0) hx hb dX5_bar_65 (by decide) ?_
        exact J66 p1 0 v_thrown_c39 hw _ _ ls hP hD hS (lv_sub hl [0, 1] rfl)
      · have hw := hw.1 c58
        refine lv_iconst (v := 1) hx hb dX5_bar_61 (by decide) ?_
        refine lv_goto (tgt := 66) hx hb dX5_bar_62 (by decide) ?_
        exact J66 p1 1 v_thrown_c39 hw _ _ ls hP hD hS (lv_sub hl [0, 1] rfl)
    · have hw := hw.1 c42
      refine lv_iconst (v := 0) hx hb dX5_bar_45 (by decide) ?_
      exact RT 0 (v_thrown_c39, v_hasBar) _ _ _ _ dX5_bar_46 (Or.inl rfl) hw hP hD hS
  refine lv_iload_n hx hb dX5_bar_0 rfl (lv_at hl 1 rfl) ?_
  refine lv_iconst (v := 0) hx hb dX5_bar_1 (by decide) ?_
  refine lv_bipush (v := 14) hx hb dX5_bar_2 (by decide) ?_
  refine af_i (X := (W_X5_bar h a cI cJ cZ v_thrown v_made v_heart v_width v_hasBar v_sheets v_covered)) (pl := []) (cx := ([] : va_W)) (w1 := fun (u : Unit) => ([] : va_W)) (X' := fun (u : Unit) => (W_X5_bar h a cI cJ cZ v_thrown v_made v_heart v_width v_hasBar v_sheets v_covered)) hP hD hS hA [] [0, 1] [0, 1] rfl rfl (by decide) (by decide) (fun u => rfl) (by decide) (va_runS (As := [.int p1, .int 0, .int 14]) (rest := []) ⟨hx, hb, hml, hown, hts⟩ (c_X5_in l D cI cJ cZ cO H.size p1 0 14 _ hw) (va_cwS 3 hts gX5_bar_X5_in rfl rfl rfl (by decide +kernel) ⟨Nat.le_of_ble_eq_true rfl, Nat.le_of_ble_eq_true rfl⟩) (preS (X := (W_X5_bar h a cI cJ cZ v_thrown v_made v_heart v_width v_hasBar v_sheets v_covered)) (pl := []) (cx := ([] : va_W)) hK hE hP hD [] (by decide) rfl) rfl rfl hl.1 rfl (lv_room (Nat.le_of_ble_eq_true rfl)) dX5_bar_4 ⟨Nat.zero_le _, Nat.zero_le _⟩) (fun r_4 _ H locs hw hP hD hS => ?_)
  try dsimp only at hw
  have hP : va_P D vwCl (W_X5_bar h a cI cJ cZ v_thrown v_made v_heart v_width v_hasBar v_sheets v_covered) H := hP
  have hD : va_D A (W_X5_bar h a cI cJ cZ v_thrown v_made v_heart v_width v_hasBar v_sheets v_covered) := hD
  refine lv_istore_n (lv' := [(2, .int r_4), (0, .ref h), (1, .int p1)]) hx hb dX5_bar_7 rfl hl (by decide) rfl (fun ls hl => ?_)
  refine lv_aload_n hx hb dX5_bar_8 rfl (lv_at hl 1 rfl) ?_
  refine lv_iload_n hx hb dX5_bar_9 rfl (lv_at hl 0 rfl) ?_
  refine lv_if_ne (tgt := 17) hx hb dX5_bar_10 (by decide) (fun c10 => ?_) (fun c10 => ?_)
  · have hw := hw.2 c10
    refine lv_aload_n hx hb dX5_bar_17 rfl (lv_at hl 1 rfl) ?_
    refine va_get (D := D) (ci := 6) (v := .ref (a 14)) (C := RX5) (T := TX5) (N := 24) hx hb hts iRX5 hown hK hP 0 rfl rfl 14 (by decide) (hts (.fieldLink RX5 51 "LeadlightModel" "hasBar" "[Z") (List.mem_of_getElem? (i := 1) rfl)) (fun _ h9 => h9) rfl dX5_bar_18 ?_
    refine lv_iload_n hx hb dX5_bar_21 rfl (lv_at hl 2 rfl) ?_
    obtain ⟨hi_22, hw⟩ := hw
    refine va_zald hx hb hK hP 1 2 rfl rfl hi_22 dX5_bar_22 ?_
    refine lv_if_ne (tgt := 38) hx hb dX5_bar_23 (by decide) (fun c23 => ?_) (fun c23 => ?_)
    · have hw := hw.2 c23
      refine lv_iconst (v := 0) hx hb dX5_bar_38 (by decide) ?_
      exact J39 0 hw _ _ ls hP hD hS (lv_sub hl [1, 2] rfl)
    · have hw := hw.1 c23
      refine lv_aload_n hx hb dX5_bar_26 rfl (lv_at hl 1 rfl) ?_
      refine af_i (X := (W_X5_bar h a cI cJ cZ v_thrown v_made v_heart v_width v_hasBar v_sheets v_covered)) (pl := []) (cx := (W_X5_bars h a cI cJ cZ v_thrown v_made v_heart v_width v_hasBar v_sheets v_covered)) (w1 := fun (u : Unit) => (W_X5_bars h a cI cJ cZ v_thrown v_made v_heart v_width v_hasBar v_sheets v_covered)) (X' := fun (u : Unit) => (W_X5_bar h a cI cJ cZ v_thrown v_made v_heart v_width v_hasBar v_sheets v_covered)) hP hD hS hA [0, 1] [] [0, 1] rfl rfl (by decide) (by decide) (fun u => rfl) (by decide) (va_runV (As := []) (rest := [.ref h]) ⟨hx, hb, hml, hown, hts⟩ (c_X5_bars l D cI cJ cZ cO h a H.size v_thrown v_made v_heart v_width v_hasBar v_sheets v_covered _ hw) (cwV 0 hts gX5_bar_X5_bars rfl rfl rfl (by decide +kernel) ⟨Nat.le_of_ble_eq_true rfl, Nat.le_of_ble_eq_true rfl⟩) (preV (X := (W_X5_bar h a cI cJ cZ v_thrown v_made v_heart v_width v_hasBar v_sheets v_covered)) (pl := []) (cx := (W_X5_bars h a cI cJ cZ v_thrown v_made v_heart v_width v_hasBar v_sheets v_covered)) (qb := 0) (ci := 6) hK hE hP hD [0, 1] (by decide) rfl rfl rfl) rfl rfl hl.1 rfl (lv_room (Nat.le_of_ble_eq_true rfl)) dX5_bar_27 ⟨Nat.zero_le _, Nat.zero_le _⟩) (fun r_27 _ H locs hw hP hD hS => ?_)
      try dsimp only at hw
      have hP : va_P D vwCl (W_X5_bar h a cI cJ cZ v_thrown v_made v_heart v_width v_hasBar v_sheets v_covered) H := hP
      have hD : va_D A (W_X5_bar h a cI cJ cZ v_thrown v_made v_heart v_width v_hasBar v_sheets v_covered) := hD
      refine lv_iconst (v := 5) hx hb dX5_bar_30 (by decide) ?_
      refine lv_icmp_ne (tgt := 38) hx hb dX5_bar_31 (by decide) (fun c31 => ?_) (fun c31 => ?_)
      · have hw := hw.2 c31
        refine lv_iconst (v := 0) hx hb dX5_bar_38 (by decide) ?_
        exact J39 0 hw _ _ ls hP hD hS (lv_sub hl [1, 2] rfl)
      · have hw := hw.1 c31
        refine lv_iconst (v := 2) hx hb dX5_bar_34 (by decide) ?_
        refine lv_goto (tgt := 39) hx hb dX5_bar_35 (by decide) ?_
        exact J39 2 hw _ _ ls hP hD hS (lv_sub hl [1, 2] rfl)
  · have hw := hw.1 c10
    refine lv_iconst (v := 1) hx hb dX5_bar_13 (by decide) ?_
    refine lv_goto (tgt := 39) hx hb dX5_bar_14 (by decide) ?_
    exact J39 1 hw _ _ ls hP hD hS (lv_sub hl [1, 2] rfl)
abbrev rm_X5_paint : Room := { frames := 2, cells := 0, slots := 0, locals := 43 }
abbrev W_X5_paint (h : Nat) (a : Nat → Nat) (cI cJ cZ : ClassId) (v_thrown : Int32) (v_made : Int32) (v_many : Nat → Int32) (v_layers : Nat → Int32) (v_heat : Nat → Int32) (v_burnt : Nat → Int32) (v_things : Nat → Int32) (v_history : Nat → Int32) (v_heart : Int32) (v_width : Int32) (v_sheets : Int32) (v_covered : Int32) : va_W := [(h, .inr (6, [.int v_thrown, .int v_made, .ref (a 2), .ref (a 3), .ref (a 4), .ref (a 5), .ref (a 6), .ref (a 7), .ref (a 8), .ref (a 9), .ref (a 10), .ref (a 11), .int v_heart, .int v_width, .ref (a 14), .ref (a 15), .ref (a 16), .ref (a 17), .ref (a 18), .ref (a 19), .ref (a 20), .ref (a 21), .int v_sheets, .int v_covered])), ((a 3), .inl (cI, 60, .inl v_many)), ((a 7), .inl (cI, 60, .inl v_layers)), ((a 8), .inl (cI, 300, .inl v_heat)), ((a 9), .inl (cI, 300, .inl v_burnt)), ((a 10), .inl (cI, 60, .inl v_things)), ((a 11), .inl (cI, 1200, .inl v_history))]
def wp_X5_paint_47 (v_thrown : Int32) (v_made : Int32) (v_many : Nat → Int32) (v_layers : Nat → Int32) (v_heat : Nat → Int32) (v_burnt : Nat → Int32) (v_things : Nat → Int32) (v_history : Nat → Int32) (p1 : Int32) (p2 : Int32) (post : Int32 → Int32 → (Nat → Int32) → (Nat → Int32) → (Nat → Int32) → (Nat → Int32) → (Nat → Int32) → Prop) (s1_j47 : Int32) : Prop := wp_X5_goesWell v_thrown s1_j47 (fun r_47 v_thrown_c47 => (r_47 = 0 → post 0 v_thrown_c47 v_layers v_heat v_burnt v_things v_history) ∧ (¬ r_47 = 0 → vp_in p1 60 ∧ (vp_in ((5 * p1) + (v_layers p1.toNatClampNeg)) 300 ∧ (∀ v_heat_t70 : Nat → Int32, v_heat_t70 = upd v_heat ((5 * p1) + (v_layers p1.toNatClampNeg)).toNatClampNeg p2 → vp_in p1 60 ∧ (vp_in ((5 * p1) + (v_layers p1.toNatClampNeg)) 300 ∧ (∀ v_burnt_t86 : Nat → Int32, v_burnt_t86 = upd v_burnt ((5 * p1) + (v_layers p1.toNatClampNeg)).toNatClampNeg 0 → vp_in p1 60 ∧ (vp_in p1 60 ∧ (∀ v_layers_t96 : Nat → Int32, v_layers_t96 = upd v_layers p1.toNatClampNeg ((v_layers p1.toNatClampNeg) + 1) → wp_X5_note v_things v_history p1 4 (fun v_things_c100 v_history_c100 => vp_in p1 60 ∧ (post (v_layers_t96 p1.toNatClampNeg) v_thrown_c47 v_layers_t96 v_heat_t70 v_burnt_t86 v_things_c100 v_history_c100))))))))))
def wp_X5_paint (v_thrown : Int32) (v_made : Int32) (v_many : Nat → Int32) (v_layers : Nat → Int32) (v_heat : Nat → Int32) (v_burnt : Nat → Int32) (v_things : Nat → Int32) (v_history : Nat → Int32) (p1 : Int32) (p2 : Int32) (post : Int32 → Int32 → (Nat → Int32) → (Nat → Int32) → (Nat → Int32) → (Nat → Int32) → (Nat → Int32) → Prop) : Prop := wp_X5_isPiece v_made v_many p1 (fun r_2 => (r_2 = 0 → wp_X5_paint_47 v_thrown v_made v_many v_layers v_heat v_burnt v_things v_history p1 p2 post 1) ∧ (¬ r_2 = 0 → wp_X5_in p2 500 700 (fun r_22 => (r_22 = 0 → wp_X5_paint_47 v_thrown v_made v_many v_layers v_heat v_burnt v_things v_history p1 p2 post 2) ∧ (¬ r_22 = 0 → vp_in p1 60 ∧ (((v_layers p1.toNatClampNeg) = 5 → wp_X5_paint_47 v_thrown v_made v_many v_layers v_heat v_burnt v_things v_history p1 p2 post 3) ∧ (¬ (v_layers p1.toNatClampNeg) = 5 → wp_X5_paint_47 v_thrown v_made v_many v_layers v_heat v_burnt v_things v_history p1 p2 post 0))))))
set_option maxHeartbeats 4000000 in
set_option maxRecDepth 100000 in
theorem c_X5_paint (l : Launch) (D : va_G) (cI cJ cZ cO : ClassId) (h : Nat) (a : Nat → Nat) (sz : Nat) (v_thrown : Int32) (v_made : Int32) (v_many : Nat → Int32) (v_layers : Nat → Int32) (v_heat : Nat → Int32) (v_burnt : Nat → Int32) (v_things : Nat → Int32) (v_history : Nat → Int32) (v_heart : Int32) (v_width : Int32) (v_sheets : Int32) (v_covered : Int32) (p1 : Int32) (p2 : Int32) (post : Int32 → Int32 → (Nat → Int32) → (Nat → Int32) → (Nat → Int32) → (Nat → Int32) → (Nat → Int32) → Prop) (hw : wp_X5_paint v_thrown v_made v_many v_layers v_heat v_burnt v_things v_history p1 p2 post) : Met l yX5_paint wsX5_paint rm_X5_paint (va_Pc [.ref h, .int p1, .int p2] (PRE D cI cJ cZ cO (W_X5_paint h a cI cJ cZ v_thrown v_made v_many v_layers v_heat v_burnt v_things v_history v_heart v_width v_sheets v_covered) sz)) (va_Qi (fun r (u : Int32 × (Nat → Int32) × (Nat → Int32) × (Nat → Int32) × (Nat → Int32) × (Nat → Int32)) => post r u.1 u.2.1 u.2.2.1 u.2.2.2.1 u.2.2.2.2.1 u.2.2.2.2.2) (fun u t => POST D (va_A (W_X5_paint h a cI cJ cZ v_thrown v_made v_many v_layers v_heat v_burnt v_things v_history v_heart v_width v_sheets v_covered) sz) (W_X5_paint h a cI cJ cZ u.1 v_made v_many u.2.1 u.2.2.1 u.2.2.2.1 u.2.2.2.2.1 u.2.2.2.2.2 v_heart v_width v_sheets v_covered) t) (va_A (W_X5_paint h a cI cJ cZ v_thrown v_made v_many v_layers v_heat v_burnt v_things v_history v_heart v_width v_sheets v_covered) sz)) 0 0 (va_A (W_X5_paint h a cI cJ cZ v_thrown v_made v_many v_layers v_heat v_burnt v_things v_history v_heart v_width v_sheets v_covered) sz) := by
  refine met_go (cc := cX5_paint) (maxL := 4) (ret := some .int) RX5 rfl (by decide) rfl (Nat.le_of_ble_eq_true rfl) ?_
  intro p e s m args below meth c ls hx hb hr hts hown hlocks hin hml hsz hP hK hE hD hA hS hl
  have iRX5 : ∀ w ∈ u_ws RX5 TX5 24, w ∈ wsX5_paint := mem_seg 25 24 rfl
  generalize va_A (W_X5_paint h a cI cJ cZ v_thrown v_made v_many v_layers v_heat v_burnt v_things v_history v_heart v_width v_sheets v_covered) sz = A at hD hA hS ⊢
  have RT : ∀ (v : Int32) (u : Int32 × (Nat → Int32) × (Nat → Int32) × (Nat → Int32) × (Nat → Int32) × (Nat → Int32)) (H : Heap) (locs : List Loc) (pc : Nat) (ls : Array Slot), decode cX5_paint pc = .ok (.ireturn, 1) → post v u.1 u.2.1 u.2.2.1 u.2.2.2.1 u.2.2.2.2.1 u.2.2.2.2.2 → va_P D vwCl (W_X5_paint h a cI cJ cZ u.1 v_made v_many u.2.1 u.2.2.1 u.2.2.2.1 u.2.2.2.2.1 u.2.2.2.2.2 v_heart v_width v_sheets v_covered) H → va_D A (W_X5_paint h a cI cJ cZ u.1 v_made v_many u.2.1 u.2.2.1 u.2.2.2.1 u.2.2.2.2.1 u.2.2.2.2.2 v_heart v_width v_sheets v_covered) → va_S A s.heap H locs → W p l e rm_X5_paint s m args below meth c H locs 0 0 (MQ below (va_Qi (fun r (u : Int32 × (Nat → Int32) × (Nat → Int32) × (Nat → Int32) × (Nat → Int32) × (Nat → Int32)) => post r u.1 u.2.1 u.2.2.1 u.2.2.2.1 u.2.2.2.2.1 u.2.2.2.2.2) (fun u t => POST D A (W_X5_paint h a cI cJ cZ u.1 v_made v_many u.2.1 u.2.2.1 u.2.2.2.1 u.2.2.2.2.1 u.2.2.2.2.2 v_heart v_width v_sheets v_covered) t) A) args s 0 0 A) (F0 m pc ls [.int v]) := fun v u H locs pc ls d g1 g2 g3 g4 => rt_i (Wf := fun u => (W_X5_paint h a cI cJ cZ u.1 v_made v_many u.2.1 u.2.2.1 u.2.2.2.1 u.2.2.2.2.1 u.2.2.2.2.2 v_heart v_width v_sheets v_covered)) u hx hb hr hlocks g1 g2 g3 g4 d
  generalize (MQ below (va_Qi (fun r (u : Int32 × (Nat → Int32) × (Nat → Int32) × (Nat → Int32) × (Nat → Int32) × (Nat → Int32)) => post r u.1 u.2.1 u.2.2.1 u.2.2.2.1 u.2.2.2.2.1 u.2.2.2.2.2) (fun u t => POST D A (W_X5_paint h a cI cJ cZ u.1 v_made v_many u.2.1 u.2.2.1 u.2.2.2.1 u.2.2.2.2.1 u.2.2.2.2.2 v_heart v_width v_sheets v_covered) t) A) args s 0 0 A) = QQ at RT ⊢
  have hl : lv_has ls 4 [(0, .ref h), (1, .int p1), (2, .int p2)] := hl
  have hP : va_P D vwCl (W_X5_paint h a cI cJ cZ v_thrown v_made v_many v_layers v_heat v_burnt v_things v_history v_heart v_width v_sheets v_covered) s.heap := hP
  unfold wp_X5_paint at hw
  suffices GO : ∀ (H : Heap) (locs : List Loc), va_P D vwCl (W_X5_paint h a cI cJ cZ v_thrown v_made v_many v_layers v_heat v_burnt v_things v_history v_heart v_width v_sheets v_covered) H → va_S A s.heap H locs → W p l e rm_X5_paint s m args below meth c H locs 0 0 QQ (F0 m 0 ls []) from GO _ _ hP hS
  clear hsz hP hS
  intro H locs hP hS
  have J47 : ∀ (s1_j47 : Int32) , wp_X5_paint_47 v_thrown v_made v_many v_layers v_heat v_burnt v_things v_history p1 p2 post s1_j47 → ∀ (H : Heap) (locs : List Loc) (ls : Array Slot), va_P D vwCl (W_X5_paint h a cI cJ cZ v_thrown v_made v_many v_layers v_heat v_burnt v_things v_history v_heart v_width v_sheets v_covered) H → va_D A (W_X5_paint h a cI cJ cZ v_thrown v_made v_many v_layers v_heat v_burnt v_things v_history v_heart v_width v_sheets v_covered) → va_S A s.heap H locs → lv_has ls 4 [(0, .ref h), (1, .int p1), (2, .int p2)] → W p l e rm_X5_paint s m args below meth c H locs 0 0 QQ (F0 m 47 ls [.int s1_j47, .ref h]) := by
    intro s1_j47 hw H locs ls hP hD hS hl
    unfold wp_X5_paint_47 at hw
    refine af_i (X := (W_X5_paint h a cI cJ cZ v_thrown v_made v_many v_layers v_heat v_burnt v_things v_history v_heart v_width v_sheets v_covered)) (pl := []) (cx := (W_X5_goesWell h a cI cJ cZ v_thrown v_made v_heart v_width v_sheets v_covered)) (w1 := fun (u : Int32) => (W_X5_goesWell h a cI cJ cZ u v_made v_heart v_width v_sheets v_covered)) (X' := fun (u : Int32) => (W_X5_paint h a cI cJ cZ u v_made v_many v_layers v_heat v_burnt v_things v_history v_heart v_width v_sheets v_covered)) hP hD hS hA [0] [1, 2, 3, 4, 5, 6] [6, 0, 1, 2, 3, 4, 5] rfl rfl (by decide) (by decide) (fun u => rfl) (by decide) (va_runV (As := [.int s1_j47]) (rest := []) ⟨hx, hb, hml, hown, hts⟩ (c_X5_goesWell l D cI cJ cZ cO h a H.size v_thrown v_made v_heart v_width v_sheets v_covered s1_j47 _ hw) (cwV 1 hts gX5_paint_X5_goesWell rfl rfl rfl (by decide +kernel) ⟨Nat.le_of_ble_eq_true rfl, Nat.le_of_ble_eq_true rfl⟩) (preV (X := (W_X5_paint h a cI cJ cZ v_thrown v_made v_many v_layers v_heat v_burnt v_things v_history v_heart v_width v_sheets v_covered)) (pl := []) (cx := (W_X5_goesWell h a cI cJ cZ v_thrown v_made v_heart v_width v_sheets v_covered)) (qb := 0) (ci := 6) hK hE hP hD [0] (by decide) rfl rfl rfl) rfl rfl hl.1 rfl (lv_room (Nat.le_of_ble_eq_true rfl)) dX5_paint_47 ⟨Nat.zero_le _, Nat.zero_le _⟩) (fun r_47 v_thrown_c47 H locs hw hP hD hS => ?_)
    try dsimp only at hw
    have hP : va_P D vwCl (W_X5_paint h a cI cJ cZ v_thrown_c47 v_made v_many v_layers v_heat v_burnt v_things v_history v_heart v_width v_sheets v_covered) H := hP
    have hD : va_D A (W_X5_paint h a cI cJ cZ v_thrown_c47 v_made v_many v_layers v_heat v_burnt v_things v_history v_heart v_width v_sheets v_covered) := hD
    refine lv_if_ne (tgt := 55) hx hb dX5_paint_50 (by decide) (fun c50 => ?_) (fun c50 => ?_)
    · have hw := hw.2 c50
      refine lv_aload_n hx hb dX5_paint_55 rfl (lv_at hl 0 rfl) ?_
      refine va_get (D := D) (ci := 6) (v := .ref (a 8)) (C := RX5) (T := TX5) (N := 24) hx hb hts iRX5 hown hK hP 0 rfl rfl 8 (by decide) (hts (.fieldLink RX5 33 "LeadlightModel" "heat" "[I") (List.mem_of_getElem? (i := 2) rfl)) (fun _ h9 => h9) rfl dX5_paint_56 ?_
      refine lv_iconst (v := 5) hx hb dX5_paint_59 (by decide) ?_
      refine lv_iload_n hx hb dX5_paint_60 rfl (lv_at hl 1 rfl) ?_
      refine lv_imul hx hb dX5_paint_61 ?_
      refine lv_aload_n hx hb dX5_paint_62 rfl (lv_at hl 0 rfl) ?_
      refine va_get (D := D) (ci := 6) (v := .ref (a 7)) (C := RX5) (T := TX5) (N := 24) hx hb hts iRX5 hown hK hP 0 rfl rfl 7 (by decide) (hts (.fieldLink RX5 30 "LeadlightModel" "layers" "[I") (List.mem_of_getElem? (i := 1) rfl)) (fun _ h9 => h9) rfl dX5_paint_63 ?_
      refine lv_iload_n hx hb dX5_paint_66 rfl (lv_at hl 1 rfl) ?_
      obtain ⟨hi_67, hw⟩ := hw
      refine va_iald hx hb hK hP 2 0 rfl rfl hi_67 dX5_paint_67 ?_
      refine lv_iadd hx hb dX5_paint_68 ?_
      refine lv_iload_n hx hb dX5_paint_69 rfl (lv_at hl 2 rfl) ?_
      obtain ⟨hi_70, hw⟩ := hw
      refine st_i hx hb hK hP hD hS 3 0 rfl rfl hi_70 dX5_paint_70 (fun v_heat_t70 ev_heat_t70 H locs hP hD hS => ?_)
      have hw := hw v_heat_t70 ev_heat_t70
      have hP : va_P D vwCl (W_X5_paint h a cI cJ cZ v_thrown_c47 v_made v_many v_layers v_heat_t70 v_burnt v_things v_history v_heart v_width v_sheets v_covered) H := hP
      have hD : va_D A (W_X5_paint h a cI cJ cZ v_thrown_c47 v_made v_many v_layers v_heat_t70 v_burnt v_things v_history v_heart v_width v_sheets v_covered) := hD
      refine lv_aload_n hx hb dX5_paint_71 rfl (lv_at hl 0 rfl) ?_
      refine va_get (D := D) (ci := 6) (v := .ref (a 9)) (C := RX5) (T := TX5) (N := 24) hx hb hts iRX5 hown hK hP 0 rfl rfl 9 (by decide) (hts (.fieldLink RX5 36 "LeadlightModel" "burnt" "[I") (List.mem_of_getElem? (i := 3) rfl)) (fun _ h9 => h9) rfl dX5_paint_72 ?_
      refine lv_iconst (v := 5) hx hb dX5_paint_75 (by decide) ?_
      refine lv_iload_n hx hb dX5_paint_76 rfl (lv_at hl 1 rfl) ?_
      refine lv_imul hx hb dX5_paint_77 ?_
      refine lv_aload_n hx hb dX5_paint_78 rfl (lv_at hl 0 rfl) ?_
      refine va_get (D := D) (ci := 6) (v := .ref (a 7)) (C := RX5) (T := TX5) (N := 24) hx hb hts iRX5 hown hK hP 0 rfl rfl 7 (by decide) (hts (.fieldLink RX5 30 "LeadlightModel" "layers" "[I") (List.mem_of_getElem? (i := 1) rfl)) (fun _ h9 => h9) rfl dX5_paint_79 ?_
      refine lv_iload_n hx hb dX5_paint_82 rfl (lv_at hl 1 rfl) ?_
      obtain ⟨hi_83, hw⟩ := hw
      refine va_iald hx hb hK hP 2 0 rfl rfl hi_83 dX5_paint_83 ?_
      refine lv_iadd hx hb dX5_paint_84 ?_
      refine lv_iconst (v := 0) hx hb dX5_paint_85 (by decide) ?_
      obtain ⟨hi_86, hw⟩ := hw
      refine st_i hx hb hK hP hD hS 4 0 rfl rfl hi_86 dX5_paint_86 (fun v_burnt_t86 ev_burnt_t86 H locs hP hD hS => ?_)
      have hw := hw v_burnt_t86 ev_burnt_t86
      have hP : va_P D vwCl (W_X5_paint h a cI cJ cZ v_thrown_c47 v_made v_many v_layers v_heat_t70 v_burnt_t86 v_things v_history v_heart v_width v_sheets v_covered) H := hP
      have hD : va_D A (W_X5_paint h a cI cJ cZ v_thrown_c47 v_made v_many v_layers v_heat_t70 v_burnt_t86 v_things v_history v_heart v_width v_sheets v_covered) := hD
      refine lv_aload_n hx hb dX5_paint_87 rfl (lv_at hl 0 rfl) ?_
      refine va_get (D := D) (ci := 6) (v := .ref (a 7)) (C := RX5) (T := TX5) (N := 24) hx hb hts iRX5 hown hK hP 0 rfl rfl 7 (by decide) (hts (.fieldLink RX5 30 "LeadlightModel" "layers" "[I") (List.mem_of_getElem? (i := 1) rfl)) (fun _ h9 => h9) rfl dX5_paint_88 ?_
      refine lv_iload_n hx hb dX5_paint_91 rfl (lv_at hl 1 rfl) ?_
      refine lv_dup2_11 hx hb dX5_paint_92 rfl rfl ?_
      obtain ⟨hi_93, hw⟩ := hw
      refine va_iald hx hb hK hP 2 0 rfl rfl hi_93 dX5_paint_93 ?_
      refine lv_iconst (v := 1) hx hb dX5_paint_94 (by decide) ?_
      refine lv_iadd hx hb dX5_paint_95 ?_
      obtain ⟨hi_96, hw⟩ := hw
      refine st_i hx hb hK hP hD hS 2 0 rfl rfl hi_96 dX5_paint_96 (fun v_layers_t96 ev_layers_t96 H locs hP hD hS => ?_)
      have hw := hw v_layers_t96 ev_layers_t96
      have hP : va_P D vwCl (W_X5_paint h a cI cJ cZ v_thrown_c47 v_made v_many v_layers_t96 v_heat_t70 v_burnt_t86 v_things v_history v_heart v_width v_sheets v_covered) H := hP
      have hD : va_D A (W_X5_paint h a cI cJ cZ v_thrown_c47 v_made v_many v_layers_t96 v_heat_t70 v_burnt_t86 v_things v_history v_heart v_width v_sheets v_covered) := hD
      refine lv_aload_n hx hb dX5_paint_97 rfl (lv_at hl 0 rfl) ?_
      refine lv_iload_n hx hb dX5_paint_98 rfl (lv_at hl 1 rfl) ?_
      refine lv_iconst (v := 4) hx hb dX5_paint_99 (by decide) ?_
      refine af_v (X := (W_X5_paint h a cI cJ cZ v_thrown_c47 v_made v_many v_layers_t96 v_heat_t70 v_burnt_t86 v_things v_history v_heart v_width v_sheets v_covered)) (pl := []) (cx := (W_X5_note h a cI cJ cZ v_thrown_c47 v_made v_things v_history v_heart v_width v_sheets v_covered)) (w1 := fun (u : (Nat → Int32) × (Nat → Int32)) => (W_X5_note h a cI cJ cZ v_thrown_c47 v_made u.1 u.2 v_heart v_width v_sheets v_covered)) (X' := fun (u : (Nat → Int32) × (Nat → Int32)) => (W_X5_paint h a cI cJ cZ v_thrown_c47 v_made v_many v_layers_t96 v_heat_t70 v_burnt_t86 u.1 u.2 v_heart v_width v_sheets v_covered)) hP hD hS hA [0, 5, 6] [1, 2, 3, 4] [4, 0, 1, 2, 3, 5, 6] rfl rfl (by decide) (by decide) (fun u => rfl) (by decide) (va_runV (As := [.int p1, .int 4]) (rest := []) ⟨hx, hb, hml, hown, hts⟩ (c_X5_note l D cI cJ cZ cO h a H.size v_thrown_c47 v_made v_things v_history v_heart v_width v_sheets v_covered p1 4 _ hw) (cwV 2 hts gX5_paint_X5_note rfl rfl rfl (by decide +kernel) ⟨Nat.le_of_ble_eq_true rfl, Nat.le_of_ble_eq_true rfl⟩) (preV (X := (W_X5_paint h a cI cJ cZ v_thrown_c47 v_made v_many v_layers_t96 v_heat_t70 v_burnt_t86 v_things v_history v_heart v_width v_sheets v_covered)) (pl := []) (cx := (W_X5_note h a cI cJ cZ v_thrown_c47 v_made v_things v_history v_heart v_width v_sheets v_covered)) (qb := 0) (ci := 6) hK hE hP hD [0, 5, 6] (by decide) rfl rfl rfl) rfl rfl hl.1 rfl (lv_room (Nat.le_of_ble_eq_true rfl)) dX5_paint_100 ⟨Nat.zero_le _, Nat.zero_le _⟩) (fun u H locs hw hP hD hS => ?_)
      obtain ⟨v_things_c100, v_history_c100⟩ := u
      try dsimp only at hw
      have hP : va_P D vwCl (W_X5_paint h a cI cJ cZ v_thrown_c47 v_made v_many v_layers_t96 v_heat_t70 v_burnt_t86 v_things_c100 v_history_c100 v_heart v_width v_sheets v_covered) H := hP
      have hD : va_D A (W_X5_paint h a cI cJ cZ v_thrown_c47 v_made v_many v_layers_t96 v_heat_t70 v_burnt_t86 v_things_c100 v_history_c100 v_heart v_width v_sheets v_covered) := hD
      refine lv_aload_n hx hb dX5_paint_103 rfl (lv_at hl 0 rfl) ?_
      refine va_get (D := D) (ci := 6) (v := .ref (a 7)) (C := RX5) (T := TX5) (N := 24) hx hb hts iRX5 hown hK hP 0 rfl rfl 7 (by decide) (hts (.fieldLink RX5 30 "LeadlightModel" "layers" "[I") (List.mem_of_getElem? (i := 1) rfl)) (fun _ h9 => h9) rfl dX5_paint_104 ?_
      refine lv_iload_n hx hb dX5_paint_107 rfl (lv_at hl 1 rfl) ?_
      obtain ⟨hi_108, hw⟩ := hw
      refine va_iald hx hb hK hP 2 0 rfl rfl hi_108 dX5_paint_108 ?_
      exact RT (v_layers_t96 p1.toNatClampNeg) (v_thrown_c47, v_layers_t96, v_heat_t70, v_burnt_t86, v_things_c100, v_history_c100) _ _ _ _ dX5_paint_109 hw hP hD hS
    · have hw := hw.1 c50
      refine lv_iconst (v := 0) hx hb dX5_paint_53 (by decide) ?_
      exact RT 0 (v_thrown_c47, v_layers, v_heat, v_burnt, v_things, v_history) _ _ _ _ dX5_paint_54 hw hP hD hS
  refine lv_aload_n hx hb dX5_paint_0 rfl (lv_at hl 0 rfl) ?_
  refine lv_iload_n hx hb dX5_paint_1 rfl (lv_at hl 1 rfl) ?_
  refine af_i (X := (W_X5_paint h a cI cJ cZ v_thrown v_made v_many v_layers v_heat v_burnt v_things v_history v_heart v_width v_sheets v_covered)) (pl := []) (cx := (W_X5_isPiece h a cI cJ cZ v_thrown v_made v_many v_heart v_width v_sheets v_covered)) (w1 := fun (u : Unit) => (W_X5_isPiece h a cI cJ cZ v_thrown v_made v_many v_heart v_width v_sheets v_covered)) (X' := fun (u : Unit) => (W_X5_paint h a cI cJ cZ v_thrown v_made v_many v_layers v_heat v_burnt v_things v_history v_heart v_width v_sheets v_covered)) hP hD hS hA [0, 1] [2, 3, 4, 5, 6] [5, 6, 0, 1, 2, 3, 4] rfl rfl (by decide) (by decide) (fun u => rfl) (by decide) (va_runV (As := [.int p1]) (rest := []) ⟨hx, hb, hml, hown, hts⟩ (c_X5_isPiece l D cI cJ cZ cO h a H.size v_thrown v_made v_many v_heart v_width v_sheets v_covered p1 _ hw) (cwV 1 hts gX5_paint_X5_isPiece rfl rfl rfl (by decide +kernel) ⟨Nat.le_of_ble_eq_true rfl, Nat.le_of_ble_eq_true rfl⟩) (preV (X := (W_X5_paint h a cI cJ cZ v_thrown v_made v_many v_layers v_heat v_burnt v_things v_history v_heart v_width v_sheets v_covered)) (pl := []) (cx := (W_X5_isPiece h a cI cJ cZ v_thrown v_made v_many v_heart v_width v_sheets v_covered)) (qb := 0) (ci := 6) hK hE hP hD [0, 1] (by decide) rfl rfl rfl) rfl rfl hl.1 rfl (lv_room (Nat.le_of_ble_eq_true rfl)) dX5_paint_2 ⟨Nat.zero_le _, Nat.zero_le _⟩) (fun r_2 _ H locs hw hP hD hS => ?_)
  try dsimp only at hw
  have hP : va_P D vwCl (W_X5_paint h a cI cJ cZ v_thrown v_made v_many v_layers v_heat v_burnt v_things v_history v_heart v_width v_sheets v_covered) H := hP
  have hD : va_D A (W_X5_paint h a cI cJ cZ v_thrown v_made v_many v_layers v_heat v_burnt v_things v_history v_heart v_width v_sheets v_covered) := hD
  refine lv_istore_n (lv' := [(3, .int r_2), (0, .ref h), (1, .int p1), (2, .int p2)]) hx hb dX5_paint_5 rfl hl (by decide) rfl (fun ls hl => ?_)
  refine lv_aload_n hx hb dX5_paint_6 rfl (lv_at hl 1 rfl) ?_
  refine lv_iload_n hx hb dX5_paint_7 rfl (lv_at hl 0 rfl) ?_
  refine lv_if_ne (tgt := 15) hx hb dX5_paint_8 (by decide) (fun c8 => ?_) (fun c8 => ?_)
  · have hw := hw.2 c8
    refine lv_iload_n hx hb dX5_paint_15 rfl (lv_at hl 3 rfl) ?_
    refine lv_sipush (v := 500) hx hb dX5_paint_16 (by decide) ?_
    refine lv_sipush (v := 700) hx hb dX5_paint_19 (by decide) ?_
    refine af_i (X := (W_X5_paint h a cI cJ cZ v_thrown v_made v_many v_layers v_heat v_burnt v_things v_history v_heart v_width v_sheets v_covered)) (pl := []) (cx := ([] : va_W)) (w1 := fun (u : Unit) => ([] : va_W)) (X' := fun (u : Unit) => (W_X5_paint h a cI cJ cZ v_thrown v_made v_many v_layers v_heat v_burnt v_things v_history v_heart v_width v_sheets v_covered)) hP hD hS hA [] [0, 1, 2, 3, 4, 5, 6] [0, 1, 2, 3, 4, 5, 6] rfl rfl (by decide) (by decide) (fun u => rfl) (by decide) (va_runS (As := [.int p2, .int 500, .int 700]) (rest := [.ref h]) ⟨hx, hb, hml, hown, hts⟩ (c_X5_in l D cI cJ cZ cO H.size p2 500 700 _ hw) (va_cwS 3 hts gX5_paint_X5_in rfl rfl rfl (by decide +kernel) ⟨Nat.le_of_ble_eq_true rfl, Nat.le_of_ble_eq_true rfl⟩) (preS (X := (W_X5_paint h a cI cJ cZ v_thrown v_made v_many v_layers v_heat v_burnt v_things v_history v_heart v_width v_sheets v_covered)) (pl := []) (cx := ([] : va_W)) hK hE hP hD [] (by decide) rfl) rfl rfl hl.1 rfl (lv_room (Nat.le_of_ble_eq_true rfl)) dX5_paint_22 ⟨Nat.zero_le _, Nat.zero_le _⟩) (fun r_22 _ H locs hw hP hD hS => ?_)
    try dsimp only at hw
    have hP : va_P D vwCl (W_X5_paint h a cI cJ cZ v_thrown v_made v_many v_layers v_heat v_burnt v_things v_history v_heart v_width v_sheets v_covered) H := hP
    have hD : va_D A (W_X5_paint h a cI cJ cZ v_thrown v_made v_many v_layers v_heat v_burnt v_things v_history v_heart v_width v_sheets v_covered) := hD
    refine lv_if_ne (tgt := 32) hx hb dX5_paint_25 (by decide) (fun c25 => ?_) (fun c25 => ?_)
    · have hw := hw.2 c25
      refine lv_aload_n hx hb dX5_paint_32 rfl (lv_at hl 1 rfl) ?_
      refine va_get (D := D) (ci := 6) (v := .ref (a 7)) (C := RX5) (T := TX5) (N := 24) hx hb hts iRX5 hown hK hP 0 rfl rfl 7 (by decide) (hts (.fieldLink RX5 30 "LeadlightModel" "layers" "[I") (List.mem_of_getElem? (i := 1) rfl)) (fun _ h9 => h9) rfl dX5_paint_33 ?_
      refine lv_iload_n hx hb dX5_paint_36 rfl (lv_at hl 2 rfl) ?_
      obtain ⟨hi_37, hw⟩ := hw
      refine va_iald hx hb hK hP 2 0 rfl rfl hi_37 dX5_paint_37 ?_
      refine lv_iconst (v := 5) hx hb dX5_paint_38 (by decide) ?_
      refine lv_icmp_ne (tgt := 46) hx hb dX5_paint_39 (by decide) (fun c39 => ?_) (fun c39 => ?_)
      · have hw := hw.2 c39
        refine lv_iconst (v := 0) hx hb dX5_paint_46 (by decide) ?_
        exact J47 0 hw _ _ ls hP hD hS (lv_sub hl [1, 2, 3] rfl)
      · have hw := hw.1 c39
        refine lv_iconst (v := 3) hx hb dX5_paint_42 (by decide) ?_
        refine lv_goto (tgt := 47) hx hb dX5_paint_43 (by decide) ?_
        exact J47 3 hw _ _ ls hP hD hS (lv_sub hl [1, 2, 3] rfl)
    · have hw := hw.1 c25
      refine lv_iconst (v := 2) hx hb dX5_paint_28 (by decide) ?_
      refine lv_goto (tgt := 47) hx hb dX5_paint_29 (by decide) ?_
      exact J47 2 hw _ _ ls hP hD hS (lv_sub hl [1, 2, 3] rfl)
  · have hw := hw.1 c8
    refine lv_iconst (v := 1) hx hb dX5_paint_11 (by decide) ?_
    refine lv_goto (tgt := 47) hx hb dX5_paint_12 (by decide) ?_
    exact J47 1 hw _ _ ls hP hD hS (lv_sub hl [1, 2, 3] rfl)
abbrev rm_X5_fire : Room := { frames := 2, cells := 0, slots := 0, locals := 43 }
abbrev W_X5_fire (h : Nat) (a : Nat → Nat) (cI cJ cZ : ClassId) (v_thrown : Int32) (v_made : Int32) (v_many : Nat → Int32) (v_layers : Nat → Int32) (v_heat : Nat → Int32) (v_burnt : Nat → Int32) (v_things : Nat → Int32) (v_history : Nat → Int32) (v_heart : Int32) (v_width : Int32) (v_sheets : Int32) (v_covered : Int32) : va_W := [(h, .inr (6, [.int v_thrown, .int v_made, .ref (a 2), .ref (a 3), .ref (a 4), .ref (a 5), .ref (a 6), .ref (a 7), .ref (a 8), .ref (a 9), .ref (a 10), .ref (a 11), .int v_heart, .int v_width, .ref (a 14), .ref (a 15), .ref (a 16), .ref (a 17), .ref (a 18), .ref (a 19), .ref (a 20), .ref (a 21), .int v_sheets, .int v_covered])), ((a 3), .inl (cI, 60, .inl v_many)), ((a 7), .inl (cI, 60, .inl v_layers)), ((a 8), .inl (cI, 300, .inl v_heat)), ((a 9), .inl (cI, 300, .inl v_burnt)), ((a 10), .inl (cI, 60, .inl v_things)), ((a 11), .inl (cI, 1200, .inl v_history))]
def wp_X5_fire_159 (v_thrown : Int32) (v_made : Int32) (v_many : Nat → Int32) (v_layers : Nat → Int32) (v_heat : Nat → Int32) (v_burnt : Nat → Int32) (v_things : Nat → Int32) (v_history : Nat → Int32) (p1 : Int32) (p2 : Int32) (post : Int32 → Int32 → (Nat → Int32) → (Nat → Int32) → (Nat → Int32) → Prop) (K49 : Int32 → Int32 → Int32 → (Nat → Int32) → Prop) (s1_j159 : Int32) (s2_j159 : Int32) (x4_j159 : Int32) (x5_j159 : Int32) (v_thrown_j159 : Int32) (v_burnt_j159 : Nat → Int32) : Prop := vp_in s1_j159 300 ∧ (∀ v_burnt_t159 : Nat → Int32, v_burnt_t159 = upd v_burnt_j159 s1_j159.toNatClampNeg s2_j159 → K49 x4_j159 (x5_j159 + 1) v_thrown_j159 v_burnt_t159)
def wp_X5_fire_108 (v_thrown : Int32) (v_made : Int32) (v_many : Nat → Int32) (v_layers : Nat → Int32) (v_heat : Nat → Int32) (v_burnt : Nat → Int32) (v_things : Nat → Int32) (v_history : Nat → Int32) (p1 : Int32) (p2 : Int32) (post : Int32 → Int32 → (Nat → Int32) → (Nat → Int32) → (Nat → Int32) → Prop) (K49 : Int32 → Int32 → Int32 → (Nat → Int32) → Prop) (s0_j108 : Int32) (s1_j108 : Int32) (x5_j108 : Int32) (x6_j108 : Int32) (v_thrown_j108 : Int32) (v_burnt_j108 : Nat → Int32) : Prop := (x6_j108 = 0 → vp_in x5_j108 300 ∧ (((v_burnt_j108 x5_j108.toNatClampNeg) = 2 → wp_X5_fire_159 v_thrown v_made v_many v_layers v_heat v_burnt v_things v_history p1 p2 post K49 x5_j108 2 (s0_j108 + s1_j108) x5_j108 v_thrown_j108 v_burnt_j108) ∧ (¬ (v_burnt_j108 x5_j108.toNatClampNeg) = 2 → vp_in x5_j108 300 ∧ ((p2 < (v_heat x5_j108.toNatClampNeg) → vp_in x5_j108 300 ∧ (wp_X5_fire_159 v_thrown v_made v_many v_layers v_heat v_burnt v_things v_history p1 p2 post K49 x5_j108 (v_burnt_j108 x5_j108.toNatClampNeg) (s0_j108 + s1_j108) x5_j108 v_thrown_j108 v_burnt_j108)) ∧ (¬ p2 < (v_heat x5_j108.toNatClampNeg) → wp_X5_fire_159 v_thrown v_made v_many v_layers v_heat v_burnt v_things v_history p1 p2 post K49 x5_j108 1 (s0_j108 + s1_j108) x5_j108 v_thrown_j108 v_burnt_j108))))) ∧ (¬ x6_j108 = 0 → wp_X5_fire_159 v_thrown v_made v_many v_layers v_heat v_burnt v_things v_history p1 p2 post K49 x5_j108 2 (s0_j108 + s1_j108) x5_j108 v_thrown_j108 v_burnt_j108)
def wp_X5_fire_83 (v_thrown : Int32) (v_made : Int32) (v_many : Nat → Int32) (v_layers : Nat → Int32) (v_heat : Nat → Int32) (v_burnt : Nat → Int32) (v_things : Nat → Int32) (v_history : Nat → Int32) (p1 : Int32) (p2 : Int32) (post : Int32 → Int32 → (Nat → Int32) → (Nat → Int32) → (Nat → Int32) → Prop) (K49 : Int32 → Int32 → Int32 → (Nat → Int32) → Prop) (s0_j83 : Int32) (x4_j83 : Int32) (x5_j83 : Int32) (v_thrown_j83 : Int32) (v_burnt_j83 : Nat → Int32) : Prop := (s0_j83 = 0 → wp_X5_fire_108 v_thrown v_made v_many v_layers v_heat v_burnt v_things v_history p1 p2 post K49 x4_j83 0 x5_j83 s0_j83 v_thrown_j83 v_burnt_j83) ∧ (¬ s0_j83 = 0 → vp_in x5_j83 300 ∧ (((v_burnt_j83 x5_j83.toNatClampNeg) = 2 → wp_X5_fire_108 v_thrown v_made v_many v_layers v_heat v_burnt v_things v_history p1 p2 post K49 x4_j83 0 x5_j83 s0_j83 v_thrown_j83 v_burnt_j83) ∧ (¬ (v_burnt_j83 x5_j83.toNatClampNeg) = 2 → wp_X5_fire_108 v_thrown v_made v_many v_layers v_heat v_burnt v_things v_history p1 p2 post K49 x4_j83 1 x5_j83 s0_j83 v_thrown_j83 v_burnt_j83)))
def wp_X5_fire_49 (v_thrown : Int32) (v_made : Int32) (v_many : Nat → Int32) (v_layers : Nat → Int32) (v_heat : Nat → Int32) (v_burnt : Nat → Int32) (v_things : Nat → Int32) (v_history : Nat → Int32) (p1 : Int32) (p2 : Int32) (post : Int32 → Int32 → (Nat → Int32) → (Nat → Int32) → (Nat → Int32) → Prop) (K49 : Int32 → Int32 → Int32 → (Nat → Int32) → Prop) (x4_j49 : Int32) (x5_j49 : Int32) (v_thrown_j49 : Int32) (v_burnt_j49 : Nat → Int32) : Prop := vp_in p1 60 ∧ ((((5 * p1) + (v_layers p1.toNatClampNeg)) ≤ x5_j49 → wp_X5_note v_things v_history p1 5 (fun v_things_c169 v_history_c169 => post x4_j49 v_thrown_j49 v_burnt_j49 v_things_c169 v_history_c169)) ∧ (¬ ((5 * p1) + (v_layers p1.toNatClampNeg)) ≤ x5_j49 → vp_in x5_j49 300 ∧ (((p2 - (v_heat x5_j49.toNatClampNeg)) ≤ 30 → wp_X5_fire_83 v_thrown v_made v_many v_layers v_heat v_burnt v_things v_history p1 p2 post K49 0 x4_j49 x5_j49 v_thrown_j49 v_burnt_j49) ∧ (¬ (p2 - (v_heat x5_j49.toNatClampNeg)) ≤ 30 → wp_X5_fire_83 v_thrown v_made v_many v_layers v_heat v_burnt v_things v_history p1 p2 post K49 1 x4_j49 x5_j49 v_thrown_j49 v_burnt_j49))))
def lF_X5_fire_49 (v_thrown : Int32) (v_made : Int32) (v_many : Nat → Int32) (v_layers : Nat → Int32) (v_heat : Nat → Int32) (v_burnt : Nat → Int32) (v_things : Nat → Int32) (v_history : Nat → Int32) (p1 : Int32) (p2 : Int32) (post : Int32 → Int32 → (Nat → Int32) → (Nat → Int32) → (Nat → Int32) → Prop) : ((Int32 × Int32 × Int32 × (Nat → Int32)) → Prop) → (Int32 × Int32 × Int32 × (Nat → Int32)) → Prop := fun K s => wp_X5_fire_49 v_thrown v_made v_many v_layers v_heat v_burnt v_things v_history p1 p2 post (fun b0 b1 b2 b3 => K (b0, b1, b2, b3)) s.1 s.2.1 s.2.2.1 s.2.2.2
def wp_X5_fire_33 (v_thrown : Int32) (v_made : Int32) (v_many : Nat → Int32) (v_layers : Nat → Int32) (v_heat : Nat → Int32) (v_burnt : Nat → Int32) (v_things : Nat → Int32) (v_history : Nat → Int32) (p1 : Int32) (p2 : Int32) (post : Int32 → Int32 → (Nat → Int32) → (Nat → Int32) → (Nat → Int32) → Prop) (s1_j33 : Int32) : Prop := wp_X5_goesWell v_thrown s1_j33 (fun r_33 v_thrown_c33 => (r_33 = 0 → post 0 v_thrown_c33 v_burnt v_things v_history) ∧ (¬ r_33 = 0 → lp (lF_X5_fire_49 v_thrown v_made v_many v_layers v_heat v_burnt v_things v_history p1 p2 post) (0, (5 * p1), v_thrown_c33, v_burnt)))
def wp_X5_fire (v_thrown : Int32) (v_made : Int32) (v_many : Nat → Int32) (v_layers : Nat → Int32) (v_heat : Nat → Int32) (v_burnt : Nat → Int32) (v_things : Nat → Int32) (v_history : Nat → Int32) (p1 : Int32) (p2 : Int32) (post : Int32 → Int32 → (Nat → Int32) → (Nat → Int32) → (Nat → Int32) → Prop) : Prop := wp_X5_isPiece v_made v_many p1 (fun r_2 => (r_2 = 0 → wp_X5_fire_33 v_thrown v_made v_many v_layers v_heat v_burnt v_things v_history p1 p2 post 1) ∧ (¬ r_2 = 0 → wp_X5_in p2 500 750 (fun r_22 => (r_22 = 0 → wp_X5_fire_33 v_thrown v_made v_many v_layers v_heat v_burnt v_things v_history p1 p2 post 2) ∧ (¬ r_22 = 0 → wp_X5_fire_33 v_thrown v_made v_many v_layers v_heat v_burnt v_things v_history p1 p2 post 0))))
set_option maxHeartbeats 4000000 in
set_option maxRecDepth 100000 in
theorem c_X5_fire (l : Launch) (D : va_G) (cI cJ cZ cO : ClassId) (h : Nat) (a : Nat → Nat) (sz : Nat) (v_thrown : Int32) (v_made : Int32) (v_many : Nat → Int32) (v_layers : Nat → Int32) (v_heat : Nat → Int32) (v_burnt : Nat → Int32) (v_things : Nat → Int32) (v_history : Nat → Int32) (v_heart : Int32) (v_width : Int32) (v_sheets : Int32) (v_covered : Int32) (p1 : Int32) (p2 : Int32) (post : Int32 → Int32 → (Nat → Int32) → (Nat → Int32) → (Nat → Int32) → Prop) (hw : wp_X5_fire v_thrown v_made v_many v_layers v_heat v_burnt v_things v_history p1 p2 post) : Met l yX5_fire wsX5_fire rm_X5_fire (va_Pc [.ref h, .int p1, .int p2] (PRE D cI cJ cZ cO (W_X5_fire h a cI cJ cZ v_thrown v_made v_many v_layers v_heat v_burnt v_things v_history v_heart v_width v_sheets v_covered) sz)) (va_Qi (fun r (u : Int32 × (Nat → Int32) × (Nat → Int32) × (Nat → Int32)) => post r u.1 u.2.1 u.2.2.1 u.2.2.2) (fun u t => POST D (va_A (W_X5_fire h a cI cJ cZ v_thrown v_made v_many v_layers v_heat v_burnt v_things v_history v_heart v_width v_sheets v_covered) sz) (W_X5_fire h a cI cJ cZ u.1 v_made v_many v_layers v_heat u.2.1 u.2.2.1 u.2.2.2 v_heart v_width v_sheets v_covered) t) (va_A (W_X5_fire h a cI cJ cZ v_thrown v_made v_many v_layers v_heat v_burnt v_things v_history v_heart v_width v_sheets v_covered) sz)) 0 0 (va_A (W_X5_fire h a cI cJ cZ v_thrown v_made v_many v_layers v_heat v_burnt v_things v_history v_heart v_width v_sheets v_covered) sz) := by
  refine met_go (cc := cX5_fire) (maxL := 7) (ret := some .int) RX5 rfl (by decide) rfl (Nat.le_of_ble_eq_true rfl) ?_
  intro p e s m args below meth c ls hx hb hr hts hown hlocks hin hml hsz hP hK hE hD hA hS hl
  have iRX5 : ∀ w ∈ u_ws RX5 TX5 24, w ∈ wsX5_fire := mem_seg 25 24 rfl
  generalize va_A (W_X5_fire h a cI cJ cZ v_thrown v_made v_many v_layers v_heat v_burnt v_things v_history v_heart v_width v_sheets v_covered) sz = A at hD hA hS ⊢
  have RT : ∀ (v : Int32) (u : Int32 × (Nat → Int32) × (Nat → Int32) × (Nat → Int32)) (H : Heap) (locs : List Loc) (pc : Nat) (ls : Array Slot), decode cX5_fire pc = .ok (.ireturn, 1) → post v u.1 u.2.1 u.2.2.1 u.2.2.2 → va_P D vwCl (W_X5_fire h a cI cJ cZ u.1 v_made v_many v_layers v_heat u.2.1 u.2.2.1 u.2.2.2 v_heart v_width v_sheets v_covered) H → va_D A (W_X5_fire h a cI cJ cZ u.1 v_made v_many v_layers v_heat u.2.1 u.2.2.1 u.2.2.2 v_heart v_width v_sheets v_covered) → va_S A s.heap H locs → W p l e rm_X5_fire s m args below meth c H locs 0 0 (MQ below (va_Qi (fun r (u : Int32 × (Nat → Int32) × (Nat → Int32) × (Nat → Int32)) => post r u.1 u.2.1 u.2.2.1 u.2.2.2) (fun u t => POST D A (W_X5_fire h a cI cJ cZ u.1 v_made v_many v_layers v_heat u.2.1 u.2.2.1 u.2.2.2 v_heart v_width v_sheets v_covered) t) A) args s 0 0 A) (F0 m pc ls [.int v]) := fun v u H locs pc ls d g1 g2 g3 g4 => rt_i (Wf := fun u => (W_X5_fire h a cI cJ cZ u.1 v_made v_many v_layers v_heat u.2.1 u.2.2.1 u.2.2.2 v_heart v_width v_sheets v_covered)) u hx hb hr hlocks g1 g2 g3 g4 d
  generalize (MQ below (va_Qi (fun r (u : Int32 × (Nat → Int32) × (Nat → Int32) × (Nat → Int32)) => post r u.1 u.2.1 u.2.2.1 u.2.2.2) (fun u t => POST D A (W_X5_fire h a cI cJ cZ u.1 v_made v_many v_layers v_heat u.2.1 u.2.2.1 u.2.2.2 v_heart v_width v_sheets v_covered) t) A) args s 0 0 A) = QQ at RT ⊢
  have hl : lv_has ls 7 [(0, .ref h), (1, .int p1), (2, .int p2)] := hl
  have hP : va_P D vwCl (W_X5_fire h a cI cJ cZ v_thrown v_made v_many v_layers v_heat v_burnt v_things v_history v_heart v_width v_sheets v_covered) s.heap := hP
  unfold wp_X5_fire at hw
  suffices GO : ∀ (H : Heap) (locs : List Loc), va_P D vwCl (W_X5_fire h a cI cJ cZ v_thrown v_made v_many v_layers v_heat v_burnt v_things v_history v_heart v_width v_sheets v_covered) H → va_S A s.heap H locs → W p l e rm_X5_fire s m args below meth c H locs 0 0 QQ (F0 m 0 ls []) from GO _ _ hP hS
  clear hsz hP hS
  intro H locs hP hS
  have L49 : ∀ s0 : (Int32 × Int32 × Int32 × (Nat → Int32)), lp (lF_X5_fire_49 v_thrown v_made v_many v_layers v_heat v_burnt v_things v_history p1 p2 post) s0 → ∀ (H : Heap) (locs : List Loc) (ls : Array Slot), va_P D vwCl (W_X5_fire h a cI cJ cZ s0.2.2.1 v_made v_many v_layers v_heat s0.2.2.2 v_things v_history v_heart v_width v_sheets v_covered) H → va_D A (W_X5_fire h a cI cJ cZ s0.2.2.1 v_made v_many v_layers v_heat s0.2.2.2 v_things v_history v_heart v_width v_sheets v_covered) → va_S A s.heap H locs → lv_has ls 7 [(0, .ref h), (1, .int p1), (2, .int p2), (4, .int s0.1), (5, .int s0.2.1)] → W p l e rm_X5_fire s m args below meth c H locs 0 0 QQ (F0 m 49 ls []) := by
    refine lp_elim (fun K49 ih49 s0 hw => ?_)
    obtain ⟨x4_j49, x5_j49, v_thrown_j49, v_burnt_j49⟩ := s0
    intro H locs ls hP hD hS hl
    have hw : wp_X5_fire_49 v_thrown v_made v_many v_layers v_heat v_burnt v_things v_history p1 p2 post (fun b0 b1 b2 b3 => K49 (b0, b1, b2, b3)) x4_j49 x5_j49 v_thrown_j49 v_burnt_j49 := hw
    have hP : va_P D vwCl (W_X5_fire h a cI cJ cZ v_thrown_j49 v_made v_many v_layers v_heat v_burnt_j49 v_things v_history v_heart v_width v_sheets v_covered) H := hP
    have hD : va_D A (W_X5_fire h a cI cJ cZ v_thrown_j49 v_made v_many v_layers v_heat v_burnt_j49 v_things v_history v_heart v_width v_sheets v_covered) := hD
    have hl : lv_has ls 7 [(0, .ref h), (1, .int p1), (2, .int p2), (4, .int x4_j49), (5, .int x5_j49)] := hl
    have J159 : ∀ (s1_j159 : Int32) (s2_j159 : Int32) (x4_j159 : Int32) (x5_j159 : Int32) (v_thrown_j159 : Int32) (v_burnt_j159 : Nat → Int32) , wp_X5_fire_159 v_thrown v_made v_many v_layers v_heat v_burnt v_things v_history p1 p2 post (fun b0 b1 b2 b3 => K49 (b0, b1, b2, b3)) s1_j159 s2_j159 x4_j159 x5_j159 v_thrown_j159 v_burnt_j159 → ∀ (H : Heap) (locs : List Loc) (ls : Array Slot), va_P D vwCl (W_X5_fire h a cI cJ cZ v_thrown_j159 v_made v_many v_layers v_heat v_burnt_j159 v_things v_history v_heart v_width v_sheets v_covered) H → va_D A (W_X5_fire h a cI cJ cZ v_thrown_j159 v_made v_many v_layers v_heat v_burnt_j159 v_things v_history v_heart v_width v_sheets v_covered) → va_S A s.heap H locs → lv_has ls 7 [(0, .ref h), (1, .int p1), (2, .int p2), (4, .int x4_j159), (5, .int x5_j159)] → W p l e rm_X5_fire s m args below meth c H locs 0 0 QQ (F0 m 159 ls [.int s2_j159, .int s1_j159, .ref (a 9)]) := by
      intro s1_j159 s2_j159 x4_j159 x5_j159 v_thrown_j159 v_burnt_j159 hw H locs ls hP hD hS hl
      unfold wp_X5_fire_159 at hw
      obtain ⟨hi_159, hw⟩ := hw
      refine st_i hx hb hK hP hD hS 4 0 rfl rfl hi_159 dX5_fire_159 (fun v_burnt_t159 ev_burnt_t159 H locs hP hD hS => ?_)
      have hw := hw v_burnt_t159 ev_burnt_t159
      have hP : va_P D vwCl (W_X5_fire h a cI cJ cZ v_thrown_j159 v_made v_many v_layers v_heat v_burnt_t159 v_things v_history v_heart v_width v_sheets v_covered) H := hP
      have hD : va_D A (W_X5_fire h a cI cJ cZ v_thrown_j159 v_made v_many v_layers v_heat v_burnt_t159 v_things v_history v_heart v_width v_sheets v_covered) := hD
      refine lv_iinc (v := (x5_j159 + 1)) (lv' := [(5, .int (x5_j159 + 1)), (0, .ref h), (1, .int p1), (2, .int p2), (4, .int x4_j159)]) hx hb dX5_fire_160 hl (k := 4) rfl rfl (by decide) rfl (fun ls hl => ?_)
      refine lv_goto (tgt := 49) hx hb dX5_fire_163 (by decide) ?_
      exact ih49 (x4_j159, (x5_j159 + 1), v_thrown_j159, v_burnt_t159) hw _ _ ls hP hD hS (lv_sub hl [1, 2, 3, 4, 0] rfl)
    have J108 : ∀ (s0_j108 : Int32) (s1_j108 : Int32) (x5_j108 : Int32) (x6_j108 : Int32) (v_thrown_j108 : Int32) (v_burnt_j108 : Nat → Int32) , wp_X5_fire_108 v_thrown v_made v_many v_layers v_heat v_burnt v_things v_history p1 p2 post (fun b0 b1 b2 b3 => K49 (b0, b1, b2, b3)) s0_j108 s1_j108 x5_j108 x6_j108 v_thrown_j108 v_burnt_j108 → ∀ (H : Heap) (locs : List Loc) (ls : Array Slot), va_P D vwCl (W_X5_fire h a cI cJ cZ v_thrown_j108 v_made v_many v_layers v_heat v_burnt_j108 v_things v_history v_heart v_width v_sheets v_covered) H → va_D A (W_X5_fire h a cI cJ cZ v_thrown_j108 v_made v_many v_layers v_heat v_burnt_j108 v_things v_history v_heart v_width v_sheets v_covered) → va_S A s.heap H locs → lv_has ls 7 [(0, .ref h), (1, .int p1), (2, .int p2), (5, .int x5_j108), (6, .int x6_j108)] → W p l e rm_X5_fire s m args below meth c H locs 0 0 QQ (F0 m 108 ls [.int s1_j108, .int s0_j108]) := by
      intro s0_j108 s1_j108 x5_j108 x6_j108 v_thrown_j108 v_burnt_j108 hw H locs ls hP hD hS hl
      unfold wp_X5_fire_108 at hw
      refine lv_iadd hx hb dX5_fire_108 ?_
      refine lv_istore (lv' := [(4, .int (s0_j108 + s1_j108)), (0, .ref h), (1, .int p1), (2, .int p2), (5, .int x5_j108), (6, .int x6_j108)]) hx hb dX5_fire_109 hl (by decide) rfl (fun ls hl => ?_)
      refine lv_aload_n hx hb dX5_fire_111 rfl (lv_at hl 1 rfl) ?_
      refine va_get (D := D) (ci := 6) (v := .ref (a 9)) (C := RX5) (T := TX5) (N := 24) hx hb hts iRX5 hown hK hP 0 rfl rfl 9 (by decide) (hts (.fieldLink RX5 36 "LeadlightModel" "burnt" "[I") (List.mem_of_getElem? (i := 3) rfl)) (fun _ h9 => h9) rfl dX5_fire_112 ?_
      refine lv_iload hx hb dX5_fire_115 (lv_at hl 4 rfl) ?_
      refine lv_iload hx hb dX5_fire_117 (lv_at hl 5 rfl) ?_
      refine lv_if_ne (tgt := 133) hx hb dX5_fire_119 (by decide) (fun c119 => ?_) (fun c119 => ?_)
      · have hw := hw.2 c119
        refine lv_iconst (v := 2) hx hb dX5_fire_133 (by decide) ?_
        refine lv_goto (tgt := 159) hx hb dX5_fire_134 (by decide) ?_
        exact J159 x5_j108 2 (s0_j108 + s1_j108) x5_j108 v_thrown_j108 v_burnt_j108 hw _ _ ls hP hD hS (lv_sub hl [1, 2, 3, 0, 4] rfl)
      · have hw := hw.1 c119
        refine lv_aload_n hx hb dX5_fire_122 rfl (lv_at hl 1 rfl) ?_
        refine va_get (D := D) (ci := 6) (v := .ref (a 9)) (C := RX5) (T := TX5) (N := 24) hx hb hts iRX5 hown hK hP 0 rfl rfl 9 (by decide) (hts (.fieldLink RX5 36 "LeadlightModel" "burnt" "[I") (List.mem_of_getElem? (i := 3) rfl)) (fun _ h9 => h9) rfl dX5_fire_123 ?_
        refine lv_iload hx hb dX5_fire_126 (lv_at hl 4 rfl) ?_
        obtain ⟨hi_128, hw⟩ := hw
        refine va_iald hx hb hK hP 4 0 rfl rfl hi_128 dX5_fire_128 ?_
        refine lv_iconst (v := 2) hx hb dX5_fire_129 (by decide) ?_
        refine lv_icmp_ne (tgt := 137) hx hb dX5_fire_130 (by decide) (fun c130 => ?_) (fun c130 => ?_)
        · have hw := hw.2 c130
          refine lv_aload_n hx hb dX5_fire_137 rfl (lv_at hl 1 rfl) ?_
          refine va_get (D := D) (ci := 6) (v := .ref (a 8)) (C := RX5) (T := TX5) (N := 24) hx hb hts iRX5 hown hK hP 0 rfl rfl 8 (by decide) (hts (.fieldLink RX5 33 "LeadlightModel" "heat" "[I") (List.mem_of_getElem? (i := 2) rfl)) (fun _ h9 => h9) rfl dX5_fire_138 ?_
          refine lv_iload hx hb dX5_fire_141 (lv_at hl 4 rfl) ?_
          obtain ⟨hi_143, hw⟩ := hw
          refine va_iald hx hb hK hP 3 0 rfl rfl hi_143 dX5_fire_143 ?_
          refine lv_iload_n hx hb dX5_fire_144 rfl (lv_at hl 3 rfl) ?_
          refine lv_icmp_gt (tgt := 152) hx hb dX5_fire_145 (by decide) (fun c145 => ?_) (fun c145 => ?_)
          · have hw := hw.1 c145
            refine lv_aload_n hx hb dX5_fire_152 rfl (lv_at hl 1 rfl) ?_
            refine va_get (D := D) (ci := 6) (v := .ref (a 9)) (C := RX5) (T := TX5) (N := 24) hx hb hts iRX5 hown hK hP 0 rfl rfl 9 (by decide) (hts (.fieldLink RX5 36 "LeadlightModel" "burnt" "[I") (List.mem_of_getElem? (i := 3) rfl)) (fun _ h9 => h9) rfl dX5_fire_153 ?_
            refine lv_iload hx hb dX5_fire_156 (lv_at hl 4 rfl) ?_
            obtain ⟨hi_158, hw⟩ := hw
            refine va_iald hx hb hK hP 4 0 rfl rfl hi_158 dX5_fire_158 ?_
            exact J159 x5_j108 (v_burnt_j108 x5_j108.toNatClampNeg) (s0_j108 + s1_j108) x5_j108 v_thrown_j108 v_burnt_j108 hw _ _ ls hP hD hS (lv_sub hl [1, 2, 3, 0, 4] rfl)
          · have hw := hw.2 c145
            refine lv_iconst (v := 1) hx hb dX5_fire_148 (by decide) ?_
            refine lv_goto (tgt := 159) hx hb dX5_fire_149 (by decide) ?_
            exact J159 x5_j108 1 (s0_j108 + s1_j108) x5_j108 v_thrown_j108 v_burnt_j108 hw _ _ ls hP hD hS (lv_sub hl [1, 2, 3, 0, 4] rfl)
        · have hw := hw.1 c130
          refine lv_iconst (v := 2) hx hb dX5_fire_133 (by decide) ?_
          refine lv_goto (tgt := 159) hx hb dX5_fire_134 (by decide) ?_
          exact J159 x5_j108 2 (s0_j108 + s1_j108) x5_j108 v_thrown_j108 v_burnt_j108 hw _ _ ls hP hD hS (lv_sub hl [1, 2, 3, 0, 4] rfl)
    have J83 : ∀ (s0_j83 : Int32) (x4_j83 : Int32) (x5_j83 : Int32) (v_thrown_j83 : Int32) (v_burnt_j83 : Nat → Int32) , wp_X5_fire_83 v_thrown v_made v_many v_layers v_heat v_burnt v_things v_history p1 p2 post (fun b0 b1 b2 b3 => K49 (b0, b1, b2, b3)) s0_j83 x4_j83 x5_j83 v_thrown_j83 v_burnt_j83 → ∀ (H : Heap) (locs : List Loc) (ls : Array Slot), va_P D vwCl (W_X5_fire h a cI cJ cZ v_thrown_j83 v_made v_many v_layers v_heat v_burnt_j83 v_things v_history v_heart v_width v_sheets v_covered) H → va_D A (W_X5_fire h a cI cJ cZ v_thrown_j83 v_made v_many v_layers v_heat v_burnt_j83 v_things v_history v_heart v_width v_sheets v_covered) → va_S A s.heap H locs → lv_has ls 7 [(0, .ref h), (1, .int p1), (2, .int p2), (4, .int x4_j83), (5, .int x5_j83)] → W p l e rm_X5_fire s m args below meth c H locs 0 0 QQ (F0 m 83 ls [.int s0_j83]) := by
      intro s0_j83 x4_j83 x5_j83 v_thrown_j83 v_burnt_j83 hw H locs ls hP hD hS hl
      unfold wp_X5_fire_83 at hw
      refine lv_istore (lv' := [(6, .int s0_j83), (0, .ref h), (1, .int p1), (2, .int p2), (4, .int x4_j83), (5, .int x5_j83)]) hx hb dX5_fire_83 hl (by decide) rfl (fun ls hl => ?_)
      refine lv_iload hx hb dX5_fire_85 (lv_at hl 4 rfl) ?_
      refine lv_iload hx hb dX5_fire_87 (lv_at hl 0 rfl) ?_
      refine lv_if_eq (tgt := 107) hx hb dX5_fire_89 (by decide) (fun c89 => ?_) (fun c89 => ?_)
      · have hw := hw.1 c89
        refine lv_iconst (v := 0) hx hb dX5_fire_107 (by decide) ?_
        exact J108 x4_j83 0 x5_j83 s0_j83 v_thrown_j83 v_burnt_j83 hw _ _ ls hP hD hS (lv_sub hl [1, 2, 3, 5, 0] rfl)
      · have hw := hw.2 c89
        refine lv_aload_n hx hb dX5_fire_92 rfl (lv_at hl 1 rfl) ?_
        refine va_get (D := D) (ci := 6) (v := .ref (a 9)) (C := RX5) (T := TX5) (N := 24) hx hb hts iRX5 hown hK hP 0 rfl rfl 9 (by decide) (hts (.fieldLink RX5 36 "LeadlightModel" "burnt" "[I") (List.mem_of_getElem? (i := 3) rfl)) (fun _ h9 => h9) rfl dX5_fire_93 ?_
        refine lv_iload hx hb dX5_fire_96 (lv_at hl 5 rfl) ?_
        obtain ⟨hi_98, hw⟩ := hw
        refine va_iald hx hb hK hP 4 0 rfl rfl hi_98 dX5_fire_98 ?_
        refine lv_iconst (v := 2) hx hb dX5_fire_99 (by decide) ?_
        refine lv_icmp_eq (tgt := 107) hx hb dX5_fire_100 (by decide) (fun c100 => ?_) (fun c100 => ?_)
        · have hw := hw.1 c100
          refine lv_iconst (v := 0) hx hb dX5_fire_107 (by decide) ?_
          exact J108 x4_j83 0 x5_j83 s0_j83 v_thrown_j83 v_burnt_j83 hw _ _ ls hP hD hS (lv_sub hl [1, 2, 3, 5, 0] rfl)
        · have hw := hw.2 c100
          refine lv_iconst (v := 1) hx hb dX5_fire_103 (by decide) ?_
          refine lv_goto (tgt := 108) hx hb dX5_fire_104 (by decide) ?_
          exact J108 x4_j83 1 x5_j83 s0_j83 v_thrown_j83 v_burnt_j83 hw _ _ ls hP hD hS (lv_sub hl [1, 2, 3, 5, 0] rfl)
    unfold wp_X5_fire_49 at hw
    refine lv_iload hx hb dX5_fire_49 (lv_at hl 4 rfl) ?_
    refine lv_iconst (v := 5) hx hb dX5_fire_51 (by decide) ?_
    refine lv_iload_n hx hb dX5_fire_52 rfl (lv_at hl 1 rfl) ?_
    refine lv_imul hx hb dX5_fire_53 ?_
    refine lv_aload_n hx hb dX5_fire_54 rfl (lv_at hl 0 rfl) ?_
    refine va_get (D := D) (ci := 6) (v := .ref (a 7)) (C := RX5) (T := TX5) (N := 24) hx hb hts iRX5 hown hK hP 0 rfl rfl 7 (by decide) (hts (.fieldLink RX5 30 "LeadlightModel" "layers" "[I") (List.mem_of_getElem? (i := 1) rfl)) (fun _ h9 => h9) rfl dX5_fire_55 ?_
    refine lv_iload_n hx hb dX5_fire_58 rfl (lv_at hl 1 rfl) ?_
    obtain ⟨hi_59, hw⟩ := hw
    refine va_iald hx hb hK hP 2 0 rfl rfl hi_59 dX5_fire_59 ?_
    refine lv_iadd hx hb dX5_fire_60 ?_
    refine lv_icmp_ge (tgt := 166) hx hb dX5_fire_61 (by decide) (fun c61 => ?_) (fun c61 => ?_)
    · have hw := hw.1 c61
      refine lv_aload_n hx hb dX5_fire_166 rfl (lv_at hl 0 rfl) ?_
      refine lv_iload_n hx hb dX5_fire_167 rfl (lv_at hl 1 rfl) ?_
      refine lv_iconst (v := 5) hx hb dX5_fire_168 (by decide) ?_
      refine af_v (X := (W_X5_fire h a cI cJ cZ v_thrown_j49 v_made v_many v_layers v_heat v_burnt_j49 v_things v_history v_heart v_width v_sheets v_covered)) (pl := []) (cx := (W_X5_note h a cI cJ cZ v_thrown_j49 v_made v_things v_history v_heart v_width v_sheets v_covered)) (w1 := fun (u : (Nat → Int32) × (Nat → Int32)) => (W_X5_note h a cI cJ cZ v_thrown_j49 v_made u.1 u.2 v_heart v_width v_sheets v_covered)) (X' := fun (u : (Nat → Int32) × (Nat → Int32)) => (W_X5_fire h a cI cJ cZ v_thrown_j49 v_made v_many v_layers v_heat v_burnt_j49 u.1 u.2 v_heart v_width v_sheets v_covered)) hP hD hS hA [0, 5, 6] [1, 2, 3, 4] [4, 0, 1, 2, 3, 5, 6] rfl rfl (by decide) (by decide) (fun u => rfl) (by decide) (va_runV (As := [.int p1, .int 5]) (rest := []) ⟨hx, hb, hml, hown, hts⟩ (c_X5_note l D cI cJ cZ cO h a H.size v_thrown_j49 v_made v_things v_history v_heart v_width v_sheets v_covered p1 5 _ hw) (cwV 2 hts gX5_fire_X5_note rfl rfl rfl (by decide +kernel) ⟨Nat.le_of_ble_eq_true rfl, Nat.le_of_ble_eq_true rfl⟩) (preV (X := (W_X5_fire h a cI cJ cZ v_thrown_j49 v_made v_many v_layers v_heat v_burnt_j49 v_things v_history v_heart v_width v_sheets v_covered)) (pl := []) (cx := (W_X5_note h a cI cJ cZ v_thrown_j49 v_made v_things v_history v_heart v_width v_sheets v_covered)) (qb := 0) (ci := 6) hK hE hP hD [0, 5, 6] (by decide) rfl rfl rfl) rfl rfl hl.1 rfl (lv_room (Nat.le_of_ble_eq_true rfl)) dX5_fire_169 ⟨Nat.zero_le _, Nat.zero_le _⟩) (fun u H locs hw hP hD hS => ?_)
      obtain ⟨v_things_c169, v_history_c169⟩ := u
      try dsimp only at hw
      have hP : va_P D vwCl (W_X5_fire h a cI cJ cZ v_thrown_j49 v_made v_many v_layers v_heat v_burnt_j49 v_things_c169 v_history_c169 v_heart v_width v_sheets v_covered) H := hP
      have hD : va_D A (W_X5_fire h a cI cJ cZ v_thrown_j49 v_made v_many v_layers v_heat v_burnt_j49 v_things_c169 v_history_c169 v_heart v_width v_sheets v_covered) := hD
      refine lv_iload hx hb dX5_fire_172 (lv_at hl 3 rfl) ?_
      exact RT x4_j49 (v_thrown_j49, v_burnt_j49, v_things_c169, v_history_c169) _ _ _ _ dX5_fire_174 hw hP hD hS
    · have hw := hw.2 c61
      refine lv_iload_n hx hb dX5_fire_64 rfl (lv_at hl 2 rfl) ?_
      refine lv_aload_n hx hb dX5_fire_65 rfl (lv_at hl 0 rfl) ?_
      refine va_get (D := D) (ci := 6) (v := .ref (a 8)) (C := RX5) (T := TX5) (N := 24) hx hb hts iRX5 hown hK hP 0 rfl rfl 8 (by decide) (hts (.fieldLink RX5 33 "LeadlightModel" "heat" "[I") (List.mem_of_getElem? (i := 2) rfl)) (fun _ h9 => h9) rfl dX5_fire_66 ?_
      refine lv_iload hx hb dX5_fire_69 (lv_at hl 4 rfl) ?_
      obtain ⟨hi_71, hw⟩ := hw
      refine va_iald hx hb hK hP 3 0 rfl rfl hi_71 dX5_fire_71 ?_
      refine lv_isub hx hb dX5_fire_72 ?_
      refine lv_bipush (v := 30) hx hb dX5_fire_73 (by decide) ?_
      refine lv_icmp_le (tgt := 82) hx hb dX5_fire_75 (by decide) (fun c75 => ?_) (fun c75 => ?_)
      · have hw := hw.1 c75
        refine lv_iconst (v := 0) hx hb dX5_fire_82 (by decide) ?_
        exact J83 0 x4_j49 x5_j49 v_thrown_j49 v_burnt_j49 hw _ _ ls hP hD hS (lv_sub hl [0, 1, 2, 3, 4] rfl)
      · have hw := hw.2 c75
        refine lv_iconst (v := 1) hx hb dX5_fire_78 (by decide) ?_
        refine lv_goto (tgt := 83) hx hb dX5_fire_79 (by decide) ?_
        exact J83 1 x4_j49 x5_j49 v_thrown_j49 v_burnt_j49 hw _ _ ls hP hD hS (lv_sub hl [0, 1, 2, 3, 4] rfl)
  have J33 : ∀ (s1_j33 : Int32) , wp_X5_fire_33 v_thrown v_made v_many v_layers v_heat v_burnt v_things v_history p1 p2 post s1_j33 → ∀ (H : Heap) (locs : List Loc) (ls : Array Slot), va_P D vwCl (W_X5_fire h a cI cJ cZ v_thrown v_made v_many v_layers v_heat v_burnt v_things v_history v_heart v_width v_sheets v_covered) H → va_D A (W_X5_fire h a cI cJ cZ v_thrown v_made v_many v_layers v_heat v_burnt v_things v_history v_heart v_width v_sheets v_covered) → va_S A s.heap H locs → lv_has ls 7 [(0, .ref h), (1, .int p1), (2, .int p2)] → W p l e rm_X5_fire s m args below meth c H locs 0 0 QQ (F0 m 33 ls [.int s1_j33, .ref h]) := by
    intro s1_j33 hw H locs ls hP hD hS hl
    unfold wp_X5_fire_33 at hw
    refine af_i (X := (W_X5_fire h a cI cJ cZ v_thrown v_made v_many v_layers v_heat v_burnt v_things v_history v_heart v_width v_sheets v_covered)) (pl := []) (cx := (W_X5_goesWell h a cI cJ cZ v_thrown v_made v_heart v_width v_sheets v_covered)) (w1 := fun (u : Int32) => (W_X5_goesWell h a cI cJ cZ u v_made v_heart v_width v_sheets v_covered)) (X' := fun (u : Int32) => (W_X5_fire h a cI cJ cZ u v_made v_many v_layers v_heat v_burnt v_things v_history v_heart v_width v_sheets v_covered)) hP hD hS hA [0] [1, 2, 3, 4, 5, 6] [6, 0, 1, 2, 3, 4, 5] rfl rfl (by decide) (by decide) (fun u => rfl) (by decide) (va_runV (As := [.int s1_j33]) (rest := []) ⟨hx, hb, hml, hown, hts⟩ (c_X5_goesWell l D cI cJ cZ cO h a H.size v_thrown v_made v_heart v_width v_sheets v_covered s1_j33 _ hw) (cwV 1 hts gX5_fire_X5_goesWell rfl rfl rfl (by decide +kernel) ⟨Nat.le_of_ble_eq_true rfl, Nat.le_of_ble_eq_true rfl⟩) (preV (X := (W_X5_fire h a cI cJ cZ v_thrown v_made v_many v_layers v_heat v_burnt v_things v_history v_heart v_width v_sheets v_covered)) (pl := []) (cx := (W_X5_goesWell h a cI cJ cZ v_thrown v_made v_heart v_width v_sheets v_covered)) (qb := 0) (ci := 6) hK hE hP hD [0] (by decide) rfl rfl rfl) rfl rfl hl.1 rfl (lv_room (Nat.le_of_ble_eq_true rfl)) dX5_fire_33 ⟨Nat.zero_le _, Nat.zero_le _⟩) (fun r_33 v_thrown_c33 H locs hw hP hD hS => ?_)
    try dsimp only at hw
    have hP : va_P D vwCl (W_X5_fire h a cI cJ cZ v_thrown_c33 v_made v_many v_layers v_heat v_burnt v_things v_history v_heart v_width v_sheets v_covered) H := hP
    have hD : va_D A (W_X5_fire h a cI cJ cZ v_thrown_c33 v_made v_many v_layers v_heat v_burnt v_things v_history v_heart v_width v_sheets v_covered) := hD
    refine lv_if_ne (tgt := 41) hx hb dX5_fire_36 (by decide) (fun c36 => ?_) (fun c36 => ?_)
    · have hw := hw.2 c36
      refine lv_iconst (v := 0) hx hb dX5_fire_41 (by decide) ?_
      refine lv_istore (lv' := [(4, .int 0), (0, .ref h), (1, .int p1), (2, .int p2)]) hx hb dX5_fire_42 hl (by decide) rfl (fun ls hl => ?_)
      refine lv_iconst (v := 5) hx hb dX5_fire_44 (by decide) ?_
      refine lv_iload_n hx hb dX5_fire_45 rfl (lv_at hl 2 rfl) ?_
      refine lv_imul hx hb dX5_fire_46 ?_
      refine lv_istore (lv' := [(5, .int (5 * p1)), (4, .int 0), (0, .ref h), (1, .int p1), (2, .int p2)]) hx hb dX5_fire_47 hl (by decide) rfl (fun ls hl => ?_)
      exact L49 (0, (5 * p1), v_thrown_c33, v_burnt) hw _ _ ls hP hD hS (lv_sub hl [2, 3, 4, 1, 0] rfl)
    · have hw := hw.1 c36
      refine lv_iconst (v := 0) hx hb dX5_fire_39 (by decide) ?_
      exact RT 0 (v_thrown_c33, v_burnt, v_things, v_history) _ _ _ _ dX5_fire_40 hw hP hD hS
  refine lv_aload_n hx hb dX5_fire_0 rfl (lv_at hl 0 rfl) ?_
  refine lv_iload_n hx hb dX5_fire_1 rfl (lv_at hl 1 rfl) ?_
  refine af_i (X := (W_X5_fire h a cI cJ cZ v_thrown v_made v_many v_layers v_heat v_burnt v_things v_history v_heart v_width v_sheets v_covered)) (pl := []) (cx := (W_X5_isPiece h a cI cJ cZ v_thrown v_made v_many v_heart v_width v_sheets v_covered)) (w1 := fun (u : Unit) => (W_X5_isPiece h a cI cJ cZ v_thrown v_made v_many v_heart v_width v_sheets v_covered)) (X' := fun (u : Unit) => (W_X5_fire h a cI cJ cZ v_thrown v_made v_many v_layers v_heat v_burnt v_things v_history v_heart v_width v_sheets v_covered)) hP hD hS hA [0, 1] [2, 3, 4, 5, 6] [5, 6, 0, 1, 2, 3, 4] rfl rfl (by decide) (by decide) (fun u => rfl) (by decide) (va_runV (As := [.int p1]) (rest := []) ⟨hx, hb, hml, hown, hts⟩ (c_X5_isPiece l D cI cJ cZ cO h a H.size v_thrown v_made v_many v_heart v_width v_sheets v_covered p1 _ hw) (cwV 1 hts gX5_fire_X5_isPiece rfl rfl rfl (by decide +kernel) ⟨Nat.le_of_ble_eq_true rfl, Nat.le_of_ble_eq_true rfl⟩) (preV (X := (W_X5_fire h a cI cJ cZ v_thrown v_made v_many v_layers v_heat v_burnt v_things v_history v_heart v_width v_sheets v_covered)) (pl := []) (cx := (W_X5_isPiece h a cI cJ cZ v_thrown v_made v_many v_heart v_width v_sheets v_covered)) (qb := 0) (ci := 6) hK hE hP hD [0, 1] (by decide) rfl rfl rfl) rfl rfl hl.1 rfl (lv_room (Nat.le_of_ble_eq_true rfl)) dX5_fire_2 ⟨Nat.zero_le _, Nat.zero_le _⟩) (fun r_2 _ H locs hw hP hD hS => ?_)
  try dsimp only at hw
  have hP : va_P D vwCl (W_X5_fire h a cI cJ cZ v_thrown v_made v_many v_layers v_heat v_burnt v_things v_history v_heart v_width v_sheets v_covered) H := hP
  have hD : va_D A (W_X5_fire h a cI cJ cZ v_thrown v_made v_many v_layers v_heat v_burnt v_things v_history v_heart v_width v_sheets v_covered) := hD
  refine lv_istore_n (lv' := [(3, .int r_2), (0, .ref h), (1, .int p1), (2, .int p2)]) hx hb dX5_fire_5 rfl hl (by decide) rfl (fun ls hl => ?_)
  refine lv_aload_n hx hb dX5_fire_6 rfl (lv_at hl 1 rfl) ?_
  refine lv_iload_n hx hb dX5_fire_7 rfl (lv_at hl 0 rfl) ?_
  refine lv_if_ne (tgt := 15) hx hb dX5_fire_8 (by decide) (fun c8 => ?_) (fun c8 => ?_)
  · have hw := hw.2 c8
    refine lv_iload_n hx hb dX5_fire_15 rfl (lv_at hl 3 rfl) ?_
    refine lv_sipush (v := 500) hx hb dX5_fire_16 (by decide) ?_
    refine lv_sipush (v := 750) hx hb dX5_fire_19 (by decide) ?_
    refine af_i (X := (W_X5_fire h a cI cJ cZ v_thrown v_made v_many v_layers v_heat v_burnt v_things v_history v_heart v_width v_sheets v_covered)) (pl := []) (cx := ([] : va_W)) (w1 := fun (u : Unit) => ([] : va_W)) (X' := fun (u : Unit) => (W_X5_fire h a cI cJ cZ v_thrown v_made v_many v_layers v_heat v_burnt v_things v_history v_heart v_width v_sheets v_covered)) hP hD hS hA [] [0, 1, 2, 3, 4, 5, 6] [0, 1, 2, 3, 4, 5, 6] rfl rfl (by decide) (by decide) (fun u => rfl) (by decide) (va_runS (As := [.int p2, .int 500, .int 750]) (rest := [.ref h]) ⟨hx, hb, hml, hown, hts⟩ (c_X5_in l D cI cJ cZ cO H.size p2 500 750 _ hw) (va_cwS 3 hts gX5_fire_X5_in rfl rfl rfl (by decide +kernel) ⟨Nat.le_of_ble_eq_true rfl, Nat.le_of_ble_eq_true rfl⟩) (preS (X := (W_X5_fire h a cI cJ cZ v_thrown v_made v_many v_layers v_heat v_burnt v_things v_history v_heart v_width v_sheets v_covered)) (pl := []) (cx := ([] : va_W)) hK hE hP hD [] (by decide) rfl) rfl rfl hl.1 rfl (lv_room (Nat.le_of_ble_eq_true rfl)) dX5_fire_22 ⟨Nat.zero_le _, Nat.zero_le _⟩) (fun r_22 _ H locs hw hP hD hS => ?_)
    try dsimp only at hw
    have hP : va_P D vwCl (W_X5_fire h a cI cJ cZ v_thrown v_made v_many v_layers v_heat v_burnt v_things v_history v_heart v_width v_sheets v_covered) H := hP
    have hD : va_D A (W_X5_fire h a cI cJ cZ v_thrown v_made v_many v_layers v_heat v_burnt v_things v_history v_heart v_width v_sheets v_covered) := hD
    refine lv_if_eq (tgt := 32) hx hb dX5_fire_25 (by decide) (fun c25 => ?_) (fun c25 => ?_)
    · have hw := hw.1 c25
      refine lv_iconst (v := 2) hx hb dX5_fire_32 (by decide) ?_
      exact J33 2 hw _ _ ls hP hD hS (lv_sub hl [1, 2, 3] rfl)
    · have hw := hw.2 c25
      refine lv_iconst (v := 0) hx hb dX5_fire_28 (by decide) ?_
      refine lv_goto (tgt := 33) hx hb dX5_fire_29 (by decide) ?_
      exact J33 0 hw _ _ ls hP hD hS (lv_sub hl [1, 2, 3] rfl)
  · have hw := hw.1 c8
    refine lv_iconst (v := 1) hx hb dX5_fire_11 (by decide) ?_
    refine lv_goto (tgt := 33) hx hb dX5_fire_12 (by decide) ?_
    exact J33 1 hw _ _ ls hP hD hS (lv_sub hl [1, 2, 3] rfl)
abbrev rm_X5_crack : Room := { frames := 2, cells := 0, slots := 0, locals := 42 }
abbrev W_X5_crack (h : Nat) (a : Nat → Nat) (cI cJ cZ : ClassId) (v_thrown : Int32) (v_made : Int32) (v_of : Nat → Int32) (v_state : Nat → Int32) (v_things : Nat → Int32) (v_history : Nat → Int32) (v_heart : Int32) (v_width : Int32) (v_sheets : Int32) (v_covered : Int32) : va_W := [(h, .inr (6, [.int v_thrown, .int v_made, .ref (a 2), .ref (a 3), .ref (a 4), .ref (a 5), .ref (a 6), .ref (a 7), .ref (a 8), .ref (a 9), .ref (a 10), .ref (a 11), .int v_heart, .int v_width, .ref (a 14), .ref (a 15), .ref (a 16), .ref (a 17), .ref (a 18), .ref (a 19), .ref (a 20), .ref (a 21), .int v_sheets, .int v_covered])), ((a 2), .inl (cI, 256, .inl v_of)), ((a 6), .inl (cI, 60, .inl v_state)), ((a 10), .inl (cI, 60, .inl v_things)), ((a 11), .inl (cI, 1200, .inl v_history))]
def wp_X5_crack_13 (v_thrown : Int32) (v_of : Nat → Int32) (v_state : Nat → Int32) (v_things : Nat → Int32) (v_history : Nat → Int32) (p1 : Int32) (post : Int32 → Int32 → (Nat → Int32) → (Nat → Int32) → (Nat → Int32) → Prop) (s1_j13 : Int32) : Prop := wp_X5_goesWell v_thrown s1_j13 (fun r_13 v_thrown_c13 => (r_13 = 0 → post 0 v_thrown_c13 v_state v_things v_history) ∧ (¬ r_13 = 0 → vp_in p1 256 ∧ (vp_in (v_of p1.toNatClampNeg) 60 ∧ (∀ v_state_t32 : Nat → Int32, v_state_t32 = upd v_state (v_of p1.toNatClampNeg).toNatClampNeg 1 → vp_in p1 256 ∧ (wp_X5_note v_things v_history (v_of p1.toNatClampNeg) 7 (fun v_things_c42 v_history_c42 => vp_in p1 256 ∧ (post (v_of p1.toNatClampNeg) v_thrown_c13 v_state_t32 v_things_c42 v_history_c42)))))))
def wp_X5_crack (v_thrown : Int32) (v_of : Nat → Int32) (v_state : Nat → Int32) (v_things : Nat → Int32) (v_history : Nat → Int32) (p1 : Int32) (post : Int32 → Int32 → (Nat → Int32) → (Nat → Int32) → (Nat → Int32) → Prop) : Prop := wp_X5_isCell p1 (fun r_2 => (r_2 = 0 → wp_X5_crack_13 v_thrown v_of v_state v_things v_history p1 post 1) ∧ (¬ r_2 = 0 → wp_X5_crack_13 v_thrown v_of v_state v_things v_history p1 post 0))
set_option maxHeartbeats 4000000 in
set_option maxRecDepth 100000 in
theorem c_X5_crack (l : Launch) (D : va_G) (cI cJ cZ cO : ClassId) (h : Nat) (a : Nat → Nat) (sz : Nat) (v_thrown : Int32) (v_made : Int32) (v_of : Nat → Int32) (v_state : Nat → Int32) (v_things : Nat → Int32) (v_history : Nat → Int32) (v_heart : Int32) (v_width : Int32) (v_sheets : Int32) (v_covered : Int32) (p1 : Int32) (post : Int32 → Int32 → (Nat → Int32) → (Nat → Int32) → (Nat → Int32) → Prop) (hw : wp_X5_crack v_thrown v_of v_state v_things v_history p1 post) : Met l yX5_crack wsX5_crack rm_X5_crack (va_Pc [.ref h, .int p1] (PRE D cI cJ cZ cO (W_X5_crack h a cI cJ cZ v_thrown v_made v_of v_state v_things v_history v_heart v_width v_sheets v_covered) sz)) (va_Qi (fun r (u : Int32 × (Nat → Int32) × (Nat → Int32) × (Nat → Int32)) => post r u.1 u.2.1 u.2.2.1 u.2.2.2) (fun u t => POST D (va_A (W_X5_crack h a cI cJ cZ v_thrown v_made v_of v_state v_things v_history v_heart v_width v_sheets v_covered) sz) (W_X5_crack h a cI cJ cZ u.1 v_made v_of u.2.1 u.2.2.1 u.2.2.2 v_heart v_width v_sheets v_covered) t) (va_A (W_X5_crack h a cI cJ cZ v_thrown v_made v_of v_state v_things v_history v_heart v_width v_sheets v_covered) sz)) 0 0 (va_A (W_X5_crack h a cI cJ cZ v_thrown v_made v_of v_state v_things v_history v_heart v_width v_sheets v_covered) sz) := by
  refine met_go (cc := cX5_crack) (maxL := 2) (ret := some .int) RX5 rfl (by decide) rfl (Nat.le_of_ble_eq_true rfl) ?_
  intro p e s m args below meth c ls hx hb hr hts hown hlocks hin hml hsz hP hK hE hD hA hS hl
  have iRX5 : ∀ w ∈ u_ws RX5 TX5 24, w ∈ wsX5_crack := mem_seg 21 24 rfl
  generalize va_A (W_X5_crack h a cI cJ cZ v_thrown v_made v_of v_state v_things v_history v_heart v_width v_sheets v_covered) sz = A at hD hA hS ⊢
  have RT : ∀ (v : Int32) (u : Int32 × (Nat → Int32) × (Nat → Int32) × (Nat → Int32)) (H : Heap) (locs : List Loc) (pc : Nat) (ls : Array Slot), decode cX5_crack pc = .ok (.ireturn, 1) → post v u.1 u.2.1 u.2.2.1 u.2.2.2 → va_P D vwCl (W_X5_crack h a cI cJ cZ u.1 v_made v_of u.2.1 u.2.2.1 u.2.2.2 v_heart v_width v_sheets v_covered) H → va_D A (W_X5_crack h a cI cJ cZ u.1 v_made v_of u.2.1 u.2.2.1 u.2.2.2 v_heart v_width v_sheets v_covered) → va_S A s.heap H locs → W p l e rm_X5_crack s m args below meth c H locs 0 0 (MQ below (va_Qi (fun r (u : Int32 × (Nat → Int32) × (Nat → Int32) × (Nat → Int32)) => post r u.1 u.2.1 u.2.2.1 u.2.2.2) (fun u t => POST D A (W_X5_crack h a cI cJ cZ u.1 v_made v_of u.2.1 u.2.2.1 u.2.2.2 v_heart v_width v_sheets v_covered) t) A) args s 0 0 A) (F0 m pc ls [.int v]) := fun v u H locs pc ls d g1 g2 g3 g4 => rt_i (Wf := fun u => (W_X5_crack h a cI cJ cZ u.1 v_made v_of u.2.1 u.2.2.1 u.2.2.2 v_heart v_width v_sheets v_covered)) u hx hb hr hlocks g1 g2 g3 g4 d
  generalize (MQ below (va_Qi (fun r (u : Int32 × (Nat → Int32) × (Nat → Int32) × (Nat → Int32)) => post r u.1 u.2.1 u.2.2.1 u.2.2.2) (fun u t => POST D A (W_X5_crack h a cI cJ cZ u.1 v_made v_of u.2.1 u.2.2.1 u.2.2.2 v_heart v_width v_sheets v_covered) t) A) args s 0 0 A) = QQ at RT ⊢
  have hl : lv_has ls 2 [(0, .ref h), (1, .int p1)] := hl
  have hP : va_P D vwCl (W_X5_crack h a cI cJ cZ v_thrown v_made v_of v_state v_things v_history v_heart v_width v_sheets v_covered) s.heap := hP
  unfold wp_X5_crack at hw
  suffices GO : ∀ (H : Heap) (locs : List Loc), va_P D vwCl (W_X5_crack h a cI cJ cZ v_thrown v_made v_of v_state v_things v_history v_heart v_width v_sheets v_covered) H → va_S A s.heap H locs → W p l e rm_X5_crack s m args below meth c H locs 0 0 QQ (F0 m 0 ls []) from GO _ _ hP hS
  clear hsz hP hS
  intro H locs hP hS
  have J13 : ∀ (s1_j13 : Int32) , wp_X5_crack_13 v_thrown v_of v_state v_things v_history p1 post s1_j13 → ∀ (H : Heap) (locs : List Loc) (ls : Array Slot), va_P D vwCl (W_X5_crack h a cI cJ cZ v_thrown v_made v_of v_state v_things v_history v_heart v_width v_sheets v_covered) H → va_D A (W_X5_crack h a cI cJ cZ v_thrown v_made v_of v_state v_things v_history v_heart v_width v_sheets v_covered) → va_S A s.heap H locs → lv_has ls 2 [(0, .ref h), (1, .int p1)] → W p l e rm_X5_crack s m args below meth c H locs 0 0 QQ (F0 m 13 ls [.int s1_j13, .ref h]) := by
    intro s1_j13 hw H locs ls hP hD hS hl
    unfold wp_X5_crack_13 at hw
    refine af_i (X := (W_X5_crack h a cI cJ cZ v_thrown v_made v_of v_state v_things v_history v_heart v_width v_sheets v_covered)) (pl := []) (cx := (W_X5_goesWell h a cI cJ cZ v_thrown v_made v_heart v_width v_sheets v_covered)) (w1 := fun (u : Int32) => (W_X5_goesWell h a cI cJ cZ u v_made v_heart v_width v_sheets v_covered)) (X' := fun (u : Int32) => (W_X5_crack h a cI cJ cZ u v_made v_of v_state v_things v_history v_heart v_width v_sheets v_covered)) hP hD hS hA [0] [1, 2, 3, 4] [4, 0, 1, 2, 3] rfl rfl (by decide) (by decide) (fun u => rfl) (by decide) (va_runV (As := [.int s1_j13]) (rest := []) ⟨hx, hb, hml, hown, hts⟩ (c_X5_goesWell l D cI cJ cZ cO h a H.size v_thrown v_made v_heart v_width v_sheets v_covered s1_j13 _ hw) (cwV 1 hts gX5_crack_X5_goesWell rfl rfl rfl (by decide +kernel) ⟨Nat.le_of_ble_eq_true rfl, Nat.le_of_ble_eq_true rfl⟩) (preV (X := (W_X5_crack h a cI cJ cZ v_thrown v_made v_of v_state v_things v_history v_heart v_width v_sheets v_covered)) (pl := []) (cx := (W_X5_goesWell h a cI cJ cZ v_thrown v_made v_heart v_width v_sheets v_covered)) (qb := 0) (ci := 6) hK hE hP hD [0] (by decide) rfl rfl rfl) rfl rfl hl.1 rfl (lv_room (Nat.le_of_ble_eq_true rfl)) dX5_crack_13 ⟨Nat.zero_le _, Nat.zero_le _⟩) (fun r_13 v_thrown_c13 H locs hw hP hD hS => ?_)
    try dsimp only at hw
    have hP : va_P D vwCl (W_X5_crack h a cI cJ cZ v_thrown_c13 v_made v_of v_state v_things v_history v_heart v_width v_sheets v_covered) H := hP
    have hD : va_D A (W_X5_crack h a cI cJ cZ v_thrown_c13 v_made v_of v_state v_things v_history v_heart v_width v_sheets v_covered) := hD
    refine lv_if_ne (tgt := 21) hx hb dX5_crack_16 (by decide) (fun c16 => ?_) (fun c16 => ?_)
    · have hw := hw.2 c16
      refine lv_aload_n hx hb dX5_crack_21 rfl (lv_at hl 0 rfl) ?_
      refine va_get (D := D) (ci := 6) (v := .ref (a 6)) (C := RX5) (T := TX5) (N := 24) hx hb hts iRX5 hown hK hP 0 rfl rfl 6 (by decide) (hts (.fieldLink RX5 27 "LeadlightModel" "state" "[I") (List.mem_of_getElem? (i := 1) rfl)) (fun _ h9 => h9) rfl dX5_crack_22 ?_
      refine lv_aload_n hx hb dX5_crack_25 rfl (lv_at hl 0 rfl) ?_
      refine va_get (D := D) (ci := 6) (v := .ref (a 2)) (C := RX5) (T := TX5) (N := 24) hx hb hts iRX5 hown hK hP 0 rfl rfl 2 (by decide) (hts (.fieldLink RX5 13 "LeadlightModel" "of" "[I") (List.mem_of_getElem? (i := 2) rfl)) (fun _ h9 => h9) rfl dX5_crack_26 ?_
      refine lv_iload_n hx hb dX5_crack_29 rfl (lv_at hl 1 rfl) ?_
      obtain ⟨hi_30, hw⟩ := hw
      refine va_iald hx hb hK hP 1 0 rfl rfl hi_30 dX5_crack_30 ?_
      refine lv_iconst (v := 1) hx hb dX5_crack_31 (by decide) ?_
      obtain ⟨hi_32, hw⟩ := hw
      refine st_i hx hb hK hP hD hS 2 0 rfl rfl hi_32 dX5_crack_32 (fun v_state_t32 ev_state_t32 H locs hP hD hS => ?_)
      have hw := hw v_state_t32 ev_state_t32
      have hP : va_P D vwCl (W_X5_crack h a cI cJ cZ v_thrown_c13 v_made v_of v_state_t32 v_things v_history v_heart v_width v_sheets v_covered) H := hP
      have hD : va_D A (W_X5_crack h a cI cJ cZ v_thrown_c13 v_made v_of v_state_t32 v_things v_history v_heart v_width v_sheets v_covered) := hD
      refine lv_aload_n hx hb dX5_crack_33 rfl (lv_at hl 0 rfl) ?_
      refine lv_aload_n hx hb dX5_crack_34 rfl (lv_at hl 0 rfl) ?_
      refine va_get (D := D) (ci := 6) (v := .ref (a 2)) (C := RX5) (T := TX5) (N := 24) hx hb hts iRX5 hown hK hP 0 rfl rfl 2 (by decide) (hts (.fieldLink RX5 13 "LeadlightModel" "of" "[I") (List.mem_of_getElem? (i := 2) rfl)) (fun _ h9 => h9) rfl dX5_crack_35 ?_
      refine lv_iload_n hx hb dX5_crack_38 rfl (lv_at hl 1 rfl) ?_
      obtain ⟨hi_39, hw⟩ := hw
      refine va_iald hx hb hK hP 1 0 rfl rfl hi_39 dX5_crack_39 ?_
      refine lv_bipush (v := 7) hx hb dX5_crack_40 (by decide) ?_
      refine af_v (X := (W_X5_crack h a cI cJ cZ v_thrown_c13 v_made v_of v_state_t32 v_things v_history v_heart v_width v_sheets v_covered)) (pl := []) (cx := (W_X5_note h a cI cJ cZ v_thrown_c13 v_made v_things v_history v_heart v_width v_sheets v_covered)) (w1 := fun (u : (Nat → Int32) × (Nat → Int32)) => (W_X5_note h a cI cJ cZ v_thrown_c13 v_made u.1 u.2 v_heart v_width v_sheets v_covered)) (X' := fun (u : (Nat → Int32) × (Nat → Int32)) => (W_X5_crack h a cI cJ cZ v_thrown_c13 v_made v_of v_state_t32 u.1 u.2 v_heart v_width v_sheets v_covered)) hP hD hS hA [0, 3, 4] [1, 2] [2, 0, 1, 3, 4] rfl rfl (by decide) (by decide) (fun u => rfl) (by decide) (va_runV (As := [.int (v_of p1.toNatClampNeg), .int 7]) (rest := []) ⟨hx, hb, hml, hown, hts⟩ (c_X5_note l D cI cJ cZ cO h a H.size v_thrown_c13 v_made v_things v_history v_heart v_width v_sheets v_covered (v_of p1.toNatClampNeg) 7 _ hw) (cwV 2 hts gX5_crack_X5_note rfl rfl rfl (by decide +kernel) ⟨Nat.le_of_ble_eq_true rfl, Nat.le_of_ble_eq_true rfl⟩) (preV (X := (W_X5_crack h a cI cJ cZ v_thrown_c13 v_made v_of v_state_t32 v_things v_history v_heart v_width v_sheets v_covered)) (pl := []) (cx := (W_X5_note h a cI cJ cZ v_thrown_c13 v_made v_things v_history v_heart v_width v_sheets v_covered)) (qb := 0) (ci := 6) hK hE hP hD [0, 3, 4] (by decide) rfl rfl rfl) rfl rfl hl.1 rfl (lv_room (Nat.le_of_ble_eq_true rfl)) dX5_crack_42 ⟨Nat.zero_le _, Nat.zero_le _⟩) (fun u H locs hw hP hD hS => ?_)
      obtain ⟨v_things_c42, v_history_c42⟩ := u
      try dsimp only at hw
      have hP : va_P D vwCl (W_X5_crack h a cI cJ cZ v_thrown_c13 v_made v_of v_state_t32 v_things_c42 v_history_c42 v_heart v_width v_sheets v_covered) H := hP
      have hD : va_D A (W_X5_crack h a cI cJ cZ v_thrown_c13 v_made v_of v_state_t32 v_things_c42 v_history_c42 v_heart v_width v_sheets v_covered) := hD
      refine lv_aload_n hx hb dX5_crack_45 rfl (lv_at hl 0 rfl) ?_
      refine va_get (D := D) (ci := 6) (v := .ref (a 2)) (C := RX5) (T := TX5) (N := 24) hx hb hts iRX5 hown hK hP 0 rfl rfl 2 (by decide) (hts (.fieldLink RX5 13 "LeadlightModel" "of" "[I") (List.mem_of_getElem? (i := 2) rfl)) (fun _ h9 => h9) rfl dX5_crack_46 ?_
      refine lv_iload_n hx hb dX5_crack_49 rfl (lv_at hl 1 rfl) ?_
      obtain ⟨hi_50, hw⟩ := hw
      refine va_iald hx hb hK hP 1 0 rfl rfl hi_50 dX5_crack_50 ?_
      exact RT (v_of p1.toNatClampNeg) (v_thrown_c13, v_state_t32, v_things_c42, v_history_c42) _ _ _ _ dX5_crack_51 hw hP hD hS
    · have hw := hw.1 c16
      refine lv_iconst (v := 0) hx hb dX5_crack_19 (by decide) ?_
      exact RT 0 (v_thrown_c13, v_state, v_things, v_history) _ _ _ _ dX5_crack_20 hw hP hD hS
  refine lv_aload_n hx hb dX5_crack_0 rfl (lv_at hl 0 rfl) ?_
  refine lv_iload_n hx hb dX5_crack_1 rfl (lv_at hl 1 rfl) ?_
  refine af_i (X := (W_X5_crack h a cI cJ cZ v_thrown v_made v_of v_state v_things v_history v_heart v_width v_sheets v_covered)) (pl := []) (cx := ([] : va_W)) (w1 := fun (u : Unit) => ([] : va_W)) (X' := fun (u : Unit) => (W_X5_crack h a cI cJ cZ v_thrown v_made v_of v_state v_things v_history v_heart v_width v_sheets v_covered)) hP hD hS hA [] [0, 1, 2, 3, 4] [0, 1, 2, 3, 4] rfl rfl (by decide) (by decide) (fun u => rfl) (by decide) (va_runS (As := [.int p1]) (rest := [.ref h]) ⟨hx, hb, hml, hown, hts⟩ (c_X5_isCell l D cI cJ cZ cO H.size p1 _ hw) (va_cwS 1 hts gX5_crack_X5_isCell rfl rfl rfl (by decide +kernel) ⟨Nat.le_of_ble_eq_true rfl, Nat.le_of_ble_eq_true rfl⟩) (preS (X := (W_X5_crack h a cI cJ cZ v_thrown v_made v_of v_state v_things v_history v_heart v_width v_sheets v_covered)) (pl := []) (cx := ([] : va_W)) hK hE hP hD [] (by decide) rfl) rfl rfl hl.1 rfl (lv_room (Nat.le_of_ble_eq_true rfl)) dX5_crack_2 ⟨Nat.zero_le _, Nat.zero_le _⟩) (fun r_2 _ H locs hw hP hD hS => ?_)
  try dsimp only at hw
  have hP : va_P D vwCl (W_X5_crack h a cI cJ cZ v_thrown v_made v_of v_state v_things v_history v_heart v_width v_sheets v_covered) H := hP
  have hD : va_D A (W_X5_crack h a cI cJ cZ v_thrown v_made v_of v_state v_things v_history v_heart v_width v_sheets v_covered) := hD
  refine lv_if_eq (tgt := 12) hx hb dX5_crack_5 (by decide) (fun c5 => ?_) (fun c5 => ?_)
  · have hw := hw.1 c5
    refine lv_iconst (v := 1) hx hb dX5_crack_12 (by decide) ?_
    exact J13 1 hw _ _ ls hP hD hS (lv_sub hl [0, 1] rfl)
  · have hw := hw.2 c5
    refine lv_iconst (v := 0) hx hb dX5_crack_8 (by decide) ?_
    refine lv_goto (tgt := 13) hx hb dX5_crack_9 (by decide) ?_
    exact J13 0 hw _ _ ls hP hD hS (lv_sub hl [0, 1] rfl)
abbrev rm_X5_broken : Room := { frames := 0, cells := 0, slots := 0, locals := 0 }
abbrev W_X5_broken (h : Nat) (a : Nat → Nat) (cI cJ cZ : ClassId) (v_thrown : Int32) (v_made : Int32) (v_many : Nat → Int32) (v_state : Nat → Int32) (v_heart : Int32) (v_width : Int32) (v_sheets : Int32) (v_covered : Int32) : va_W := [(h, .inr (6, [.int v_thrown, .int v_made, .ref (a 2), .ref (a 3), .ref (a 4), .ref (a 5), .ref (a 6), .ref (a 7), .ref (a 8), .ref (a 9), .ref (a 10), .ref (a 11), .int v_heart, .int v_width, .ref (a 14), .ref (a 15), .ref (a 16), .ref (a 17), .ref (a 18), .ref (a 19), .ref (a 20), .ref (a 21), .int v_sheets, .int v_covered])), ((a 3), .inl (cI, 60, .inl v_many)), ((a 6), .inl (cI, 60, .inl v_state))]
def wp_X5_broken_37 (v_made : Int32) (v_many : Nat → Int32) (v_state : Nat → Int32) (post : Int32 → Prop) (K4 : Int32 → Int32 → Prop) (s0_j37 : Int32) (s1_j37 : Int32) (x2_j37 : Int32) : Prop := K4 (s0_j37 + s1_j37) (x2_j37 + 1)
def wp_X5_broken_4 (v_made : Int32) (v_many : Nat → Int32) (v_state : Nat → Int32) (post : Int32 → Prop) (K4 : Int32 → Int32 → Prop) (x1_j4 : Int32) (x2_j4 : Int32) : Prop := (v_made ≤ x2_j4 → post x1_j4) ∧ (¬ v_made ≤ x2_j4 → vp_in x2_j4 60 ∧ (((v_many x2_j4.toNatClampNeg) ≤ 0 → wp_X5_broken_37 v_made v_many v_state post K4 x1_j4 0 x2_j4) ∧ (¬ (v_many x2_j4.toNatClampNeg) ≤ 0 → vp_in x2_j4 60 ∧ (((v_state x2_j4.toNatClampNeg) = 1 → wp_X5_broken_37 v_made v_many v_state post K4 x1_j4 1 x2_j4) ∧ (¬ (v_state x2_j4.toNatClampNeg) = 1 → wp_X5_broken_37 v_made v_many v_state post K4 x1_j4 0 x2_j4)))))
def lF_X5_broken_4 (v_made : Int32) (v_many : Nat → Int32) (v_state : Nat → Int32) (post : Int32 → Prop) : ((Int32 × Int32) → Prop) → (Int32 × Int32) → Prop := fun K s => wp_X5_broken_4 v_made v_many v_state post (fun b0 b1 => K (b0, b1)) s.1 s.2
def wp_X5_broken (v_made : Int32) (v_many : Nat → Int32) (v_state : Nat → Int32) (post : Int32 → Prop) : Prop := lp (lF_X5_broken_4 v_made v_many v_state post) (0, 0)
set_option maxHeartbeats 4000000 in
set_option maxRecDepth 100000 in
theorem c_X5_broken (l : Launch) (D : va_G) (cI cJ cZ cO : ClassId) (h : Nat) (a : Nat → Nat) (sz : Nat) (v_thrown : Int32) (v_made : Int32) (v_many : Nat → Int32) (v_state : Nat → Int32) (v_heart : Int32) (v_width : Int32) (v_sheets : Int32) (v_covered : Int32) (post : Int32 → Prop) (hw : wp_X5_broken v_made v_many v_state post) : Met l yX5_broken wsX5_broken rm_X5_broken (va_Pc [.ref h] (PRE D cI cJ cZ cO (W_X5_broken h a cI cJ cZ v_thrown v_made v_many v_state v_heart v_width v_sheets v_covered) sz)) (va_Qi (fun r (_ : Unit) => post r) (fun u t => POST D (va_A (W_X5_broken h a cI cJ cZ v_thrown v_made v_many v_state v_heart v_width v_sheets v_covered) sz) (W_X5_broken h a cI cJ cZ v_thrown v_made v_many v_state v_heart v_width v_sheets v_covered) t) (va_A (W_X5_broken h a cI cJ cZ v_thrown v_made v_many v_state v_heart v_width v_sheets v_covered) sz)) 0 0 (va_A (W_X5_broken h a cI cJ cZ v_thrown v_made v_many v_state v_heart v_width v_sheets v_covered) sz) := by
  refine met_go (cc := cX5_broken) (maxL := 3) (ret := some .int) RX5 rfl (by decide) rfl (Nat.le_of_ble_eq_true rfl) ?_
  intro p e s m args below meth c ls hx hb hr hts hown hlocks hin hml hsz hP hK hE hD hA hS hl
  have iRX5 : ∀ w ∈ u_ws RX5 TX5 24, w ∈ wsX5_broken := mem_seg 4 24 rfl
  generalize va_A (W_X5_broken h a cI cJ cZ v_thrown v_made v_many v_state v_heart v_width v_sheets v_covered) sz = A at hD hA hS ⊢
  have RT : ∀ (v : Int32) (u : Unit) (H : Heap) (locs : List Loc) (pc : Nat) (ls : Array Slot), decode cX5_broken pc = .ok (.ireturn, 1) → post v → va_P D vwCl (W_X5_broken h a cI cJ cZ v_thrown v_made v_many v_state v_heart v_width v_sheets v_covered) H → va_D A (W_X5_broken h a cI cJ cZ v_thrown v_made v_many v_state v_heart v_width v_sheets v_covered) → va_S A s.heap H locs → W p l e rm_X5_broken s m args below meth c H locs 0 0 (MQ below (va_Qi (fun r (_ : Unit) => post r) (fun u t => POST D A (W_X5_broken h a cI cJ cZ v_thrown v_made v_many v_state v_heart v_width v_sheets v_covered) t) A) args s 0 0 A) (F0 m pc ls [.int v]) := fun v u H locs pc ls d g1 g2 g3 g4 => rt_i (Wf := fun u => (W_X5_broken h a cI cJ cZ v_thrown v_made v_many v_state v_heart v_width v_sheets v_covered)) u hx hb hr hlocks g1 g2 g3 g4 d
  generalize (MQ below (va_Qi (fun r (_ : Unit) => post r) (fun u t => POST D A (W_X5_broken h a cI cJ cZ v_thrown v_made v_many v_state v_heart v_width v_sheets v_covered) t) A) args s 0 0 A) = QQ at RT ⊢
  have hl : lv_has ls 3 [(0, .ref h)] := hl
  have hP : va_P D vwCl (W_X5_broken h a cI cJ cZ v_thrown v_made v_many v_state v_heart v_width v_sheets v_covered) s.heap := hP
  unfold wp_X5_broken at hw
  suffices GO : ∀ (H : Heap) (locs : List Loc), va_P D vwCl (W_X5_broken h a cI cJ cZ v_thrown v_made v_many v_state v_heart v_width v_sheets v_covered) H → va_S A s.heap H locs → W p l e rm_X5_broken s m args below meth c H locs 0 0 QQ (F0 m 0 ls []) from GO _ _ hP hS
  clear hsz hP hS
  intro H locs hP hS
  have L4 : ∀ s0 : (Int32 × Int32), lp (lF_X5_broken_4 v_made v_many v_state post) s0 → ∀ (H : Heap) (locs : List Loc) (ls : Array Slot), va_P D vwCl (W_X5_broken h a cI cJ cZ v_thrown v_made v_many v_state v_heart v_width v_sheets v_covered) H → va_D A (W_X5_broken h a cI cJ cZ v_thrown v_made v_many v_state v_heart v_width v_sheets v_covered) → va_S A s.heap H locs → lv_has ls 3 [(0, .ref h), (1, .int s0.1), (2, .int s0.2)] → W p l e rm_X5_broken s m args below meth c H locs 0 0 QQ (F0 m 4 ls []) := by
    refine lp_elim (fun K4 ih4 s0 hw => ?_)
    obtain ⟨x1_j4, x2_j4⟩ := s0
    intro H locs ls hP hD hS hl
    have hw : wp_X5_broken_4 v_made v_many v_state post (fun b0 b1 => K4 (b0, b1)) x1_j4 x2_j4 := hw
    have hP : va_P D vwCl (W_X5_broken h a cI cJ cZ v_thrown v_made v_many v_state v_heart v_width v_sheets v_covered) H := hP
    have hD : va_D A (W_X5_broken h a cI cJ cZ v_thrown v_made v_many v_state v_heart v_width v_sheets v_covered) := hD
    have hl : lv_has ls 3 [(0, .ref h), (1, .int x1_j4), (2, .int x2_j4)] := hl
    have J37 : ∀ (s0_j37 : Int32) (s1_j37 : Int32) (x2_j37 : Int32) , wp_X5_broken_37 v_made v_many v_state post (fun b0 b1 => K4 (b0, b1)) s0_j37 s1_j37 x2_j37 → ∀ (H : Heap) (locs : List Loc) (ls : Array Slot), va_P D vwCl (W_X5_broken h a cI cJ cZ v_thrown v_made v_many v_state v_heart v_width v_sheets v_covered) H → va_D A (W_X5_broken h a cI cJ cZ v_thrown v_made v_many v_state v_heart v_width v_sheets v_covered) → va_S A s.heap H locs → lv_has ls 3 [(0, .ref h), (2, .int x2_j37)] → W p l e rm_X5_broken s m args below meth c H locs 0 0 QQ (F0 m 37 ls [.int s1_j37, .int s0_j37]) := by
      intro s0_j37 s1_j37 x2_j37 hw H locs ls hP hD hS hl
      unfold wp_X5_broken_37 at hw
      refine lv_iadd hx hb dX5_broken_37 ?_
      refine lv_istore_n (lv' := [(1, .int (s0_j37 + s1_j37)), (0, .ref h), (2, .int x2_j37)]) hx hb dX5_broken_38 rfl hl (by decide) rfl (fun ls hl => ?_)
      refine lv_iinc (v := (x2_j37 + 1)) (lv' := [(2, .int (x2_j37 + 1)), (1, .int (s0_j37 + s1_j37)), (0, .ref h)]) hx hb dX5_broken_39 hl (k := 2) rfl rfl (by decide) rfl (fun ls hl => ?_)
      refine lv_goto (tgt := 4) hx hb dX5_broken_42 (by decide) ?_
      exact ih4 ((s0_j37 + s1_j37), (x2_j37 + 1)) hw _ _ ls hP hD hS (lv_sub hl [2, 1, 0] rfl)
    unfold wp_X5_broken_4 at hw
    refine lv_iload_n hx hb dX5_broken_4 rfl (lv_at hl 2 rfl) ?_
    refine lv_aload_n hx hb dX5_broken_5 rfl (lv_at hl 0 rfl) ?_
    refine va_get (D := D) (ci := 6) (v := .int v_made) (C := RX5) (T := TX5) (N := 24) hx hb hts iRX5 hown hK hP 0 rfl rfl 1 (by decide) (hts (.fieldLink RX5 7 "LeadlightModel" "made" "I") (List.mem_of_getElem? (i := 1) rfl)) (fun _ h9 => h9) rfl dX5_broken_6 ?_
    refine lv_icmp_ge (tgt := 45) hx hb dX5_broken_9 (by decide) (fun c9 => ?_) (fun c9 => ?_)
    · have hw := hw.1 c9
      refine lv_iload_n hx hb dX5_broken_45 rfl (lv_at hl 1 rfl) ?_
      exact RT x1_j4 () _ _ _ _ dX5_broken_46 hw hP hD hS
    · have hw := hw.2 c9
      refine lv_iload_n hx hb dX5_broken_12 rfl (lv_at hl 1 rfl) ?_
      refine lv_aload_n hx hb dX5_broken_13 rfl (lv_at hl 0 rfl) ?_
      refine va_get (D := D) (ci := 6) (v := .ref (a 3)) (C := RX5) (T := TX5) (N := 24) hx hb hts iRX5 hown hK hP 0 rfl rfl 3 (by decide) (hts (.fieldLink RX5 17 "LeadlightModel" "many" "[I") (List.mem_of_getElem? (i := 2) rfl)) (fun _ h9 => h9) rfl dX5_broken_14 ?_
      refine lv_iload_n hx hb dX5_broken_17 rfl (lv_at hl 2 rfl) ?_
      obtain ⟨hi_18, hw⟩ := hw
      refine va_iald hx hb hK hP 1 0 rfl rfl hi_18 dX5_broken_18 ?_
      refine lv_if_le (tgt := 36) hx hb dX5_broken_19 (by decide) (fun c19 => ?_) (fun c19 => ?_)
      · have hw := hw.1 c19
        refine lv_iconst (v := 0) hx hb dX5_broken_36 (by decide) ?_
        exact J37 x1_j4 0 x2_j4 hw _ _ ls hP hD hS (lv_sub hl [0, 2] rfl)
      · have hw := hw.2 c19
        refine lv_aload_n hx hb dX5_broken_22 rfl (lv_at hl 0 rfl) ?_
        refine va_get (D := D) (ci := 6) (v := .ref (a 6)) (C := RX5) (T := TX5) (N := 24) hx hb hts iRX5 hown hK hP 0 rfl rfl 6 (by decide) (hts (.fieldLink RX5 27 "LeadlightModel" "state" "[I") (List.mem_of_getElem? (i := 3) rfl)) (fun _ h9 => h9) rfl dX5_broken_23 ?_
        refine lv_iload_n hx hb dX5_broken_26 rfl (lv_at hl 2 rfl) ?_
        obtain ⟨hi_27, hw⟩ := hw
        refine va_iald hx hb hK hP 2 0 rfl rfl hi_27 dX5_broken_27 ?_
        refine lv_iconst (v := 1) hx hb dX5_broken_28 (by decide) ?_
        refine lv_icmp_ne (tgt := 36) hx hb dX5_broken_29 (by decide) (fun c29 => ?_) (fun c29 => ?_)
        · have hw := hw.2 c29
          refine lv_iconst (v := 0) hx hb dX5_broken_36 (by decide) ?_
          exact J37 x1_j4 0 x2_j4 hw _ _ ls hP hD hS (lv_sub hl [0, 2] rfl)
        · have hw := hw.1 c29
          refine lv_iconst (v := 1) hx hb dX5_broken_32 (by decide) ?_
          refine lv_goto (tgt := 37) hx hb dX5_broken_33 (by decide) ?_
          exact J37 x1_j4 1 x2_j4 hw _ _ ls hP hD hS (lv_sub hl [0, 2] rfl)
  refine lv_iconst (v := 0) hx hb dX5_broken_0 (by decide) ?_
  refine lv_istore_n (lv' := [(1, .int 0), (0, .ref h)]) hx hb dX5_broken_1 rfl hl (by decide) rfl (fun ls hl => ?_)
  refine lv_iconst (v := 0) hx hb dX5_broken_2 (by decide) ?_
  refine lv_istore_n (lv' := [(2, .int 0), (1, .int 0), (0, .ref h)]) hx hb dX5_broken_3 rfl hl (by decide) rfl (fun ls hl => ?_)
  exact L4 (0, 0) hw _ _ ls hP hD hS (lv_sub hl [2, 1, 0] rfl)
abbrev rm_X5_mend : Room := { frames := 2, cells := 0, slots := 0, locals := 43 }
abbrev W_X5_mend (h : Nat) (a : Nat → Nat) (cI cJ cZ : ClassId) (v_thrown : Int32) (v_made : Int32) (v_many : Nat → Int32) (v_state : Nat → Int32) (v_things : Nat → Int32) (v_history : Nat → Int32) (v_heart : Int32) (v_width : Int32) (v_sheets : Int32) (v_covered : Int32) : va_W := [(h, .inr (6, [.int v_thrown, .int v_made, .ref (a 2), .ref (a 3), .ref (a 4), .ref (a 5), .ref (a 6), .ref (a 7), .ref (a 8), .ref (a 9), .ref (a 10), .ref (a 11), .int v_heart, .int v_width, .ref (a 14), .ref (a 15), .ref (a 16), .ref (a 17), .ref (a 18), .ref (a 19), .ref (a 20), .ref (a 21), .int v_sheets, .int v_covered])), ((a 3), .inl (cI, 60, .inl v_many)), ((a 6), .inl (cI, 60, .inl v_state)), ((a 10), .inl (cI, 60, .inl v_things)), ((a 11), .inl (cI, 1200, .inl v_history))]
def wp_X5_mend_30 (v_thrown : Int32) (v_made : Int32) (v_many : Nat → Int32) (v_state : Nat → Int32) (v_things : Nat → Int32) (v_history : Nat → Int32) (p1 : Int32) (post : Int32 → Int32 → (Nat → Int32) → (Nat → Int32) → (Nat → Int32) → Prop) (s1_j30 : Int32) : Prop := wp_X5_goesWell v_thrown s1_j30 (fun r_30 v_thrown_c30 => (r_30 = 0 → post 0 v_thrown_c30 v_state v_things v_history) ∧ (¬ r_30 = 0 → vp_in p1 60 ∧ (∀ v_state_t44 : Nat → Int32, v_state_t44 = upd v_state p1.toNatClampNeg 2 → wp_X5_note v_things v_history p1 8 (fun v_things_c49 v_history_c49 => wp_X5_broken v_made v_many v_state_t44 (fun r_53 => post r_53 v_thrown_c30 v_state_t44 v_things_c49 v_history_c49)))))
def wp_X5_mend (v_thrown : Int32) (v_made : Int32) (v_many : Nat → Int32) (v_state : Nat → Int32) (v_things : Nat → Int32) (v_history : Nat → Int32) (p1 : Int32) (post : Int32 → Int32 → (Nat → Int32) → (Nat → Int32) → (Nat → Int32) → Prop) : Prop := wp_X5_isPiece v_made v_many p1 (fun r_2 => (r_2 = 0 → wp_X5_mend_30 v_thrown v_made v_many v_state v_things v_history p1 post 1) ∧ (¬ r_2 = 0 → vp_in p1 60 ∧ (((v_state p1.toNatClampNeg) = 1 → wp_X5_mend_30 v_thrown v_made v_many v_state v_things v_history p1 post 0) ∧ (¬ (v_state p1.toNatClampNeg) = 1 → wp_X5_mend_30 v_thrown v_made v_many v_state v_things v_history p1 post 2))))
set_option maxHeartbeats 4000000 in
set_option maxRecDepth 100000 in
theorem c_X5_mend (l : Launch) (D : va_G) (cI cJ cZ cO : ClassId) (h : Nat) (a : Nat → Nat) (sz : Nat) (v_thrown : Int32) (v_made : Int32) (v_many : Nat → Int32) (v_state : Nat → Int32) (v_things : Nat → Int32) (v_history : Nat → Int32) (v_heart : Int32) (v_width : Int32) (v_sheets : Int32) (v_covered : Int32) (p1 : Int32) (post : Int32 → Int32 → (Nat → Int32) → (Nat → Int32) → (Nat → Int32) → Prop) (hw : wp_X5_mend v_thrown v_made v_many v_state v_things v_history p1 post) : Met l yX5_mend wsX5_mend rm_X5_mend (va_Pc [.ref h, .int p1] (PRE D cI cJ cZ cO (W_X5_mend h a cI cJ cZ v_thrown v_made v_many v_state v_things v_history v_heart v_width v_sheets v_covered) sz)) (va_Qi (fun r (u : Int32 × (Nat → Int32) × (Nat → Int32) × (Nat → Int32)) => post r u.1 u.2.1 u.2.2.1 u.2.2.2) (fun u t => POST D (va_A (W_X5_mend h a cI cJ cZ v_thrown v_made v_many v_state v_things v_history v_heart v_width v_sheets v_covered) sz) (W_X5_mend h a cI cJ cZ u.1 v_made v_many u.2.1 u.2.2.1 u.2.2.2 v_heart v_width v_sheets v_covered) t) (va_A (W_X5_mend h a cI cJ cZ v_thrown v_made v_many v_state v_things v_history v_heart v_width v_sheets v_covered) sz)) 0 0 (va_A (W_X5_mend h a cI cJ cZ v_thrown v_made v_many v_state v_things v_history v_heart v_width v_sheets v_covered) sz) := by
  refine met_go (cc := cX5_mend) (maxL := 3) (ret := some .int) RX5 rfl (by decide) rfl (Nat.le_of_ble_eq_true rfl) ?_
  intro p e s m args below meth c ls hx hb hr hts hown hlocks hin hml hsz hP hK hE hD hA hS hl
  have iRX5 : ∀ w ∈ u_ws RX5 TX5 24, w ∈ wsX5_mend := mem_seg 27 24 rfl
  generalize va_A (W_X5_mend h a cI cJ cZ v_thrown v_made v_many v_state v_things v_history v_heart v_width v_sheets v_covered) sz = A at hD hA hS ⊢
  have RT : ∀ (v : Int32) (u : Int32 × (Nat → Int32) × (Nat → Int32) × (Nat → Int32)) (H : Heap) (locs : List Loc) (pc : Nat) (ls : Array Slot), decode cX5_mend pc = .ok (.ireturn, 1) → post v u.1 u.2.1 u.2.2.1 u.2.2.2 → va_P D vwCl (W_X5_mend h a cI cJ cZ u.1 v_made v_many u.2.1 u.2.2.1 u.2.2.2 v_heart v_width v_sheets v_covered) H → va_D A (W_X5_mend h a cI cJ cZ u.1 v_made v_many u.2.1 u.2.2.1 u.2.2.2 v_heart v_width v_sheets v_covered) → va_S A s.heap H locs → W p l e rm_X5_mend s m args below meth c H locs 0 0 (MQ below (va_Qi (fun r (u : Int32 × (Nat → Int32) × (Nat → Int32) × (Nat → Int32)) => post r u.1 u.2.1 u.2.2.1 u.2.2.2) (fun u t => POST D A (W_X5_mend h a cI cJ cZ u.1 v_made v_many u.2.1 u.2.2.1 u.2.2.2 v_heart v_width v_sheets v_covered) t) A) args s 0 0 A) (F0 m pc ls [.int v]) := fun v u H locs pc ls d g1 g2 g3 g4 => rt_i (Wf := fun u => (W_X5_mend h a cI cJ cZ u.1 v_made v_many u.2.1 u.2.2.1 u.2.2.2 v_heart v_width v_sheets v_covered)) u hx hb hr hlocks g1 g2 g3 g4 d
  generalize (MQ below (va_Qi (fun r (u : Int32 × (Nat → Int32) × (Nat → Int32) × (Nat → Int32)) => post r u.1 u.2.1 u.2.2.1 u.2.2.2) (fun u t => POST D A (W_X5_mend h a cI cJ cZ u.1 v_made v_many u.2.1 u.2.2.1 u.2.2.2 v_heart v_width v_sheets v_covered) t) A) args s 0 0 A) = QQ at RT ⊢
  have hl : lv_has ls 3 [(0, .ref h), (1, .int p1)] := hl
  have hP : va_P D vwCl (W_X5_mend h a cI cJ cZ v_thrown v_made v_many v_state v_things v_history v_heart v_width v_sheets v_covered) s.heap := hP
  unfold wp_X5_mend at hw
  suffices GO : ∀ (H : Heap) (locs : List Loc), va_P D vwCl (W_X5_mend h a cI cJ cZ v_thrown v_made v_many v_state v_things v_history v_heart v_width v_sheets v_covered) H → va_S A s.heap H locs → W p l e rm_X5_mend s m args below meth c H locs 0 0 QQ (F0 m 0 ls []) from GO _ _ hP hS
  clear hsz hP hS
  intro H locs hP hS
  have J30 : ∀ (s1_j30 : Int32) , wp_X5_mend_30 v_thrown v_made v_many v_state v_things v_history p1 post s1_j30 → ∀ (H : Heap) (locs : List Loc) (ls : Array Slot), va_P D vwCl (W_X5_mend h a cI cJ cZ v_thrown v_made v_many v_state v_things v_history v_heart v_width v_sheets v_covered) H → va_D A (W_X5_mend h a cI cJ cZ v_thrown v_made v_many v_state v_things v_history v_heart v_width v_sheets v_covered) → va_S A s.heap H locs → lv_has ls 3 [(0, .ref h), (1, .int p1)] → W p l e rm_X5_mend s m args below meth c H locs 0 0 QQ (F0 m 30 ls [.int s1_j30, .ref h]) := by
    intro s1_j30 hw H locs ls hP hD hS hl
    unfold wp_X5_mend_30 at hw
    refine af_i (X := (W_X5_mend h a cI cJ cZ v_thrown v_made v_many v_state v_things v_history v_heart v_width v_sheets v_covered)) (pl := []) (cx := (W_X5_goesWell h a cI cJ cZ v_thrown v_made v_heart v_width v_sheets v_covered)) (w1 := fun (u : Int32) => (W_X5_goesWell h a cI cJ cZ u v_made v_heart v_width v_sheets v_covered)) (X' := fun (u : Int32) => (W_X5_mend h a cI cJ cZ u v_made v_many v_state v_things v_history v_heart v_width v_sheets v_covered)) hP hD hS hA [0] [1, 2, 3, 4] [4, 0, 1, 2, 3] rfl rfl (by decide) (by decide) (fun u => rfl) (by decide) (va_runV (As := [.int s1_j30]) (rest := []) ⟨hx, hb, hml, hown, hts⟩ (c_X5_goesWell l D cI cJ cZ cO h a H.size v_thrown v_made v_heart v_width v_sheets v_covered s1_j30 _ hw) (cwV 1 hts gX5_mend_X5_goesWell rfl rfl rfl (by decide +kernel) ⟨Nat.le_of_ble_eq_true rfl, Nat.le_of_ble_eq_true rfl⟩) (preV (X := (W_X5_mend h a cI cJ cZ v_thrown v_made v_many v_state v_things v_history v_heart v_width v_sheets v_covered)) (pl := []) (cx := (W_X5_goesWell h a cI cJ cZ v_thrown v_made v_heart v_width v_sheets v_covered)) (qb := 0) (ci := 6) hK hE hP hD [0] (by decide) rfl rfl rfl) rfl rfl hl.1 rfl (lv_room (Nat.le_of_ble_eq_true rfl)) dX5_mend_30 ⟨Nat.zero_le _, Nat.zero_le _⟩) (fun r_30 v_thrown_c30 H locs hw hP hD hS => ?_)
    try dsimp only at hw
    have hP : va_P D vwCl (W_X5_mend h a cI cJ cZ v_thrown_c30 v_made v_many v_state v_things v_history v_heart v_width v_sheets v_covered) H := hP
    have hD : va_D A (W_X5_mend h a cI cJ cZ v_thrown_c30 v_made v_many v_state v_things v_history v_heart v_width v_sheets v_covered) := hD
    refine lv_if_ne (tgt := 38) hx hb dX5_mend_33 (by decide) (fun c33 => ?_) (fun c33 => ?_)
    · have hw := hw.2 c33
      refine lv_aload_n hx hb dX5_mend_38 rfl (lv_at hl 0 rfl) ?_
      refine va_get (D := D) (ci := 6) (v := .ref (a 6)) (C := RX5) (T := TX5) (N := 24) hx hb hts iRX5 hown hK hP 0 rfl rfl 6 (by decide) (hts (.fieldLink RX5 27 "LeadlightModel" "state" "[I") (List.mem_of_getElem? (i := 1) rfl)) (fun _ h9 => h9) rfl dX5_mend_39 ?_
      refine lv_iload_n hx hb dX5_mend_42 rfl (lv_at hl 1 rfl) ?_
      refine lv_iconst (v := 2) hx hb dX5_mend_43 (by decide) ?_
      obtain ⟨hi_44, hw⟩ := hw
      refine st_i hx hb hK hP hD hS 2 0 rfl rfl hi_44 dX5_mend_44 (fun v_state_t44 ev_state_t44 H locs hP hD hS => ?_)
      have hw := hw v_state_t44 ev_state_t44
      have hP : va_P D vwCl (W_X5_mend h a cI cJ cZ v_thrown_c30 v_made v_many v_state_t44 v_things v_history v_heart v_width v_sheets v_covered) H := hP
      have hD : va_D A (W_X5_mend h a cI cJ cZ v_thrown_c30 v_made v_many v_state_t44 v_things v_history v_heart v_width v_sheets v_covered) := hD
      refine lv_aload_n hx hb dX5_mend_45 rfl (lv_at hl 0 rfl) ?_
      refine lv_iload_n hx hb dX5_mend_46 rfl (lv_at hl 1 rfl) ?_
      refine lv_bipush (v := 8) hx hb dX5_mend_47 (by decide) ?_
      refine af_v (X := (W_X5_mend h a cI cJ cZ v_thrown_c30 v_made v_many v_state_t44 v_things v_history v_heart v_width v_sheets v_covered)) (pl := []) (cx := (W_X5_note h a cI cJ cZ v_thrown_c30 v_made v_things v_history v_heart v_width v_sheets v_covered)) (w1 := fun (u : (Nat → Int32) × (Nat → Int32)) => (W_X5_note h a cI cJ cZ v_thrown_c30 v_made u.1 u.2 v_heart v_width v_sheets v_covered)) (X' := fun (u : (Nat → Int32) × (Nat → Int32)) => (W_X5_mend h a cI cJ cZ v_thrown_c30 v_made v_many v_state_t44 u.1 u.2 v_heart v_width v_sheets v_covered)) hP hD hS hA [0, 3, 4] [1, 2] [2, 0, 1, 3, 4] rfl rfl (by decide) (by decide) (fun u => rfl) (by decide) (va_runV (As := [.int p1, .int 8]) (rest := []) ⟨hx, hb, hml, hown, hts⟩ (c_X5_note l D cI cJ cZ cO h a H.size v_thrown_c30 v_made v_things v_history v_heart v_width v_sheets v_covered p1 8 _ hw) (cwV 2 hts gX5_mend_X5_note rfl rfl rfl (by decide +kernel) ⟨Nat.le_of_ble_eq_true rfl, Nat.le_of_ble_eq_true rfl⟩) (preV (X := (W_X5_mend h a cI cJ cZ v_thrown_c30 v_made v_many v_state_t44 v_things v_history v_heart v_width v_sheets v_covered)) (pl := []) (cx := (W_X5_note h a cI cJ cZ v_thrown_c30 v_made v_things v_history v_heart v_width v_sheets v_covered)) (qb := 0) (ci := 6) hK hE hP hD [0, 3, 4] (by decide) rfl rfl rfl) rfl rfl hl.1 rfl (lv_room (Nat.le_of_ble_eq_true rfl)) dX5_mend_49 ⟨Nat.zero_le _, Nat.zero_le _⟩) (fun u H locs hw hP hD hS => ?_)
      obtain ⟨v_things_c49, v_history_c49⟩ := u
      try dsimp only at hw
      have hP : va_P D vwCl (W_X5_mend h a cI cJ cZ v_thrown_c30 v_made v_many v_state_t44 v_things_c49 v_history_c49 v_heart v_width v_sheets v_covered) H := hP
      have hD : va_D A (W_X5_mend h a cI cJ cZ v_thrown_c30 v_made v_many v_state_t44 v_things_c49 v_history_c49 v_heart v_width v_sheets v_covered) := hD
      refine lv_aload_n hx hb dX5_mend_52 rfl (lv_at hl 0 rfl) ?_
      refine af_i (X := (W_X5_mend h a cI cJ cZ v_thrown_c30 v_made v_many v_state_t44 v_things_c49 v_history_c49 v_heart v_width v_sheets v_covered)) (pl := []) (cx := (W_X5_broken h a cI cJ cZ v_thrown_c30 v_made v_many v_state_t44 v_heart v_width v_sheets v_covered)) (w1 := fun (u : Unit) => (W_X5_broken h a cI cJ cZ v_thrown_c30 v_made v_many v_state_t44 v_heart v_width v_sheets v_covered)) (X' := fun (u : Unit) => (W_X5_mend h a cI cJ cZ v_thrown_c30 v_made v_many v_state_t44 v_things_c49 v_history_c49 v_heart v_width v_sheets v_covered)) hP hD hS hA [0, 1, 2] [3, 4] [2, 3, 4, 0, 1] rfl rfl (by decide) (by decide) (fun u => rfl) (by decide) (va_runV (As := []) (rest := []) ⟨hx, hb, hml, hown, hts⟩ (c_X5_broken l D cI cJ cZ cO h a H.size v_thrown_c30 v_made v_many v_state_t44 v_heart v_width v_sheets v_covered _ hw) (cwV 0 hts gX5_mend_X5_broken rfl rfl rfl (by decide +kernel) ⟨Nat.le_of_ble_eq_true rfl, Nat.le_of_ble_eq_true rfl⟩) (preV (X := (W_X5_mend h a cI cJ cZ v_thrown_c30 v_made v_many v_state_t44 v_things_c49 v_history_c49 v_heart v_width v_sheets v_covered)) (pl := []) (cx := (W_X5_broken h a cI cJ cZ v_thrown_c30 v_made v_many v_state_t44 v_heart v_width v_sheets v_covered)) (qb := 0) (ci := 6) hK hE hP hD [0, 1, 2] (by decide) rfl rfl rfl) rfl rfl hl.1 rfl (lv_room (Nat.le_of_ble_eq_true rfl)) dX5_mend_53 ⟨Nat.zero_le _, Nat.zero_le _⟩) (fun r_53 _ H locs hw hP hD hS => ?_)
      try dsimp only at hw
      have hP : va_P D vwCl (W_X5_mend h a cI cJ cZ v_thrown_c30 v_made v_many v_state_t44 v_things_c49 v_history_c49 v_heart v_width v_sheets v_covered) H := hP
      have hD : va_D A (W_X5_mend h a cI cJ cZ v_thrown_c30 v_made v_many v_state_t44 v_things_c49 v_history_c49 v_heart v_width v_sheets v_covered) := hD
      exact RT r_53 (v_thrown_c30, v_state_t44, v_things_c49, v_history_c49) _ _ _ _ dX5_mend_56 hw hP hD hS
    · have hw := hw.1 c33
      refine lv_iconst (v := 0) hx hb dX5_mend_36 (by decide) ?_
      exact RT 0 (v_thrown_c30, v_state, v_things, v_history) _ _ _ _ dX5_mend_37 hw hP hD hS
  refine lv_aload_n hx hb dX5_mend_0 rfl (lv_at hl 0 rfl) ?_
  refine lv_iload_n hx hb dX5_mend_1 rfl (lv_at hl 1 rfl) ?_
  refine af_i (X := (W_X5_mend h a cI cJ cZ v_thrown v_made v_many v_state v_things v_history v_heart v_width v_sheets v_covered)) (pl := []) (cx := (W_X5_isPiece h a cI cJ cZ v_thrown v_made v_many v_heart v_width v_sheets v_covered)) (w1 := fun (u : Unit) => (W_X5_isPiece h a cI cJ cZ v_thrown v_made v_many v_heart v_width v_sheets v_covered)) (X' := fun (u : Unit) => (W_X5_mend h a cI cJ cZ v_thrown v_made v_many v_state v_things v_history v_heart v_width v_sheets v_covered)) hP hD hS hA [0, 1] [2, 3, 4] [3, 4, 0, 1, 2] rfl rfl (by decide) (by decide) (fun u => rfl) (by decide) (va_runV (As := [.int p1]) (rest := []) ⟨hx, hb, hml, hown, hts⟩ (c_X5_isPiece l D cI cJ cZ cO h a H.size v_thrown v_made v_many v_heart v_width v_sheets v_covered p1 _ hw) (cwV 1 hts gX5_mend_X5_isPiece rfl rfl rfl (by decide +kernel) ⟨Nat.le_of_ble_eq_true rfl, Nat.le_of_ble_eq_true rfl⟩) (preV (X := (W_X5_mend h a cI cJ cZ v_thrown v_made v_many v_state v_things v_history v_heart v_width v_sheets v_covered)) (pl := []) (cx := (W_X5_isPiece h a cI cJ cZ v_thrown v_made v_many v_heart v_width v_sheets v_covered)) (qb := 0) (ci := 6) hK hE hP hD [0, 1] (by decide) rfl rfl rfl) rfl rfl hl.1 rfl (lv_room (Nat.le_of_ble_eq_true rfl)) dX5_mend_2 ⟨Nat.zero_le _, Nat.zero_le _⟩) (fun r_2 _ H locs hw hP hD hS => ?_)
  try dsimp only at hw
  have hP : va_P D vwCl (W_X5_mend h a cI cJ cZ v_thrown v_made v_many v_state v_things v_history v_heart v_width v_sheets v_covered) H := hP
  have hD : va_D A (W_X5_mend h a cI cJ cZ v_thrown v_made v_many v_state v_things v_history v_heart v_width v_sheets v_covered) := hD
  refine lv_istore_n (lv' := [(2, .int r_2), (0, .ref h), (1, .int p1)]) hx hb dX5_mend_5 rfl hl (by decide) rfl (fun ls hl => ?_)
  refine lv_aload_n hx hb dX5_mend_6 rfl (lv_at hl 1 rfl) ?_
  refine lv_iload_n hx hb dX5_mend_7 rfl (lv_at hl 0 rfl) ?_
  refine lv_if_ne (tgt := 15) hx hb dX5_mend_8 (by decide) (fun c8 => ?_) (fun c8 => ?_)
  · have hw := hw.2 c8
    refine lv_aload_n hx hb dX5_mend_15 rfl (lv_at hl 1 rfl) ?_
    refine va_get (D := D) (ci := 6) (v := .ref (a 6)) (C := RX5) (T := TX5) (N := 24) hx hb hts iRX5 hown hK hP 0 rfl rfl 6 (by decide) (hts (.fieldLink RX5 27 "LeadlightModel" "state" "[I") (List.mem_of_getElem? (i := 1) rfl)) (fun _ h9 => h9) rfl dX5_mend_16 ?_
    refine lv_iload_n hx hb dX5_mend_19 rfl (lv_at hl 2 rfl) ?_
    obtain ⟨hi_20, hw⟩ := hw
    refine va_iald hx hb hK hP 2 0 rfl rfl hi_20 dX5_mend_20 ?_
    refine lv_iconst (v := 1) hx hb dX5_mend_21 (by decide) ?_
    refine lv_icmp_ne (tgt := 29) hx hb dX5_mend_22 (by decide) (fun c22 => ?_) (fun c22 => ?_)
    · have hw := hw.2 c22
      refine lv_iconst (v := 2) hx hb dX5_mend_29 (by decide) ?_
      exact J30 2 hw _ _ ls hP hD hS (lv_sub hl [1, 2] rfl)
    · have hw := hw.1 c22
      refine lv_iconst (v := 0) hx hb dX5_mend_25 (by decide) ?_
      refine lv_goto (tgt := 30) hx hb dX5_mend_26 (by decide) ?_
      exact J30 0 hw _ _ ls hP hD hS (lv_sub hl [1, 2] rfl)
  · have hw := hw.1 c8
    refine lv_iconst (v := 1) hx hb dX5_mend_11 (by decide) ?_
    refine lv_goto (tgt := 30) hx hb dX5_mend_12 (by decide) ?_
    exact J30 1 hw _ _ ls hP hD hS (lv_sub hl [1, 2] rfl)
abbrev rm_X5_replace : Room := { frames := 2, cells := 0, slots := 0, locals := 43 }
abbrev W_X5_replace (h : Nat) (a : Nat → Nat) (cI cJ cZ : ClassId) (v_thrown : Int32) (v_made : Int32) (v_many : Nat → Int32) (v_colour : Nat → Int32) (v_isOriginal : Nat → Int32) (v_state : Nat → Int32) (v_layers : Nat → Int32) (v_things : Nat → Int32) (v_history : Nat → Int32) (v_heart : Int32) (v_width : Int32) (v_sheets : Int32) (v_covered : Int32) : va_W := [(h, .inr (6, [.int v_thrown, .int v_made, .ref (a 2), .ref (a 3), .ref (a 4), .ref (a 5), .ref (a 6), .ref (a 7), .ref (a 8), .ref (a 9), .ref (a 10), .ref (a 11), .int v_heart, .int v_width, .ref (a 14), .ref (a 15), .ref (a 16), .ref (a 17), .ref (a 18), .ref (a 19), .ref (a 20), .ref (a 21), .int v_sheets, .int v_covered])), ((a 3), .inl (cI, 60, .inl v_many)), ((a 4), .inl (cI, 60, .inl v_colour)), ((a 5), .inl (cZ, 60, .inl v_isOriginal)), ((a 6), .inl (cI, 60, .inl v_state)), ((a 7), .inl (cI, 60, .inl v_layers)), ((a 10), .inl (cI, 60, .inl v_things)), ((a 11), .inl (cI, 1200, .inl v_history))]
def wp_X5_replace_53 (v_thrown : Int32) (v_made : Int32) (v_many : Nat → Int32) (v_colour : Nat → Int32) (v_isOriginal : Nat → Int32) (v_state : Nat → Int32) (v_layers : Nat → Int32) (v_things : Nat → Int32) (v_history : Nat → Int32) (p1 : Int32) (p2 : Int32) (post : Int32 → Int32 → (Nat → Int32) → (Nat → Int32) → (Nat → Int32) → (Nat → Int32) → (Nat → Int32) → (Nat → Int32) → Prop) (s1_j53 : Int32) : Prop := wp_X5_goesWell v_thrown s1_j53 (fun r_53 v_thrown_c53 => (r_53 = 0 → post 0 v_thrown_c53 v_colour v_isOriginal v_state v_layers v_things v_history) ∧ (¬ r_53 = 0 → vp_in p1 60 ∧ (vp_in p1 60 ∧ (∀ v_colour_t75 : Nat → Int32, v_colour_t75 = upd v_colour p1.toNatClampNeg p2 → vp_in p1 60 ∧ (∀ v_state_t82 : Nat → Int32, v_state_t82 = upd v_state p1.toNatClampNeg 0 → vp_in p1 60 ∧ (∀ v_isOriginal_t89 : Nat → Int32, v_isOriginal_t89 = upd v_isOriginal p1.toNatClampNeg (vp_nar .boolean 0) → vp_in p1 60 ∧ (∀ v_layers_t96 : Nat → Int32, v_layers_t96 = upd v_layers p1.toNatClampNeg 0 → wp_X5_note v_things v_history p1 9 (fun v_things_c101 v_history_c101 => post (v_colour p1.toNatClampNeg) v_thrown_c53 v_colour_t75 v_isOriginal_t89 v_state_t82 v_layers_t96 v_things_c101 v_history_c101))))))))
def wp_X5_replace (v_thrown : Int32) (v_made : Int32) (v_many : Nat → Int32) (v_colour : Nat → Int32) (v_isOriginal : Nat → Int32) (v_state : Nat → Int32) (v_layers : Nat → Int32) (v_things : Nat → Int32) (v_history : Nat → Int32) (p1 : Int32) (p2 : Int32) (post : Int32 → Int32 → (Nat → Int32) → (Nat → Int32) → (Nat → Int32) → (Nat → Int32) → (Nat → Int32) → (Nat → Int32) → Prop) : Prop := wp_X5_isPiece v_made v_many p1 (fun r_2 => (r_2 = 0 → wp_X5_replace_53 v_thrown v_made v_many v_colour v_isOriginal v_state v_layers v_things v_history p1 p2 post 1) ∧ (¬ r_2 = 0 → wp_X5_in p2 0 7 (fun r_19 => (r_19 = 0 → wp_X5_replace_53 v_thrown v_made v_many v_colour v_isOriginal v_state v_layers v_things v_history p1 p2 post 2) ∧ (¬ r_19 = 0 → vp_in p1 60 ∧ (((v_isOriginal p1.toNatClampNeg) = 0 → wp_X5_replace_53 v_thrown v_made v_many v_colour v_isOriginal v_state v_layers v_things v_history p1 p2 post 0) ∧ (¬ (v_isOriginal p1.toNatClampNeg) = 0 → vp_in p1 60 ∧ (((v_state p1.toNatClampNeg) = 1 → wp_X5_replace_53 v_thrown v_made v_many v_colour v_isOriginal v_state v_layers v_things v_history p1 p2 post 0) ∧ (¬ (v_state p1.toNatClampNeg) = 1 → wp_X5_replace_53 v_thrown v_made v_many v_colour v_isOriginal v_state v_layers v_things v_history p1 p2 post 3))))))))
set_option maxHeartbeats 4000000 in
set_option maxRecDepth 100000 in
theorem c_X5_replace (l : Launch) (D : va_G) (cI cJ cZ cO : ClassId) (h : Nat) (a : Nat → Nat) (sz : Nat) (v_thrown : Int32) (v_made : Int32) (v_many : Nat → Int32) (v_colour : Nat → Int32) (v_isOriginal : Nat → Int32) (v_state : Nat → Int32) (v_layers : Nat → Int32) (v_things : Nat → Int32) (v_history : Nat → Int32) (v_heart : Int32) (v_width : Int32) (v_sheets : Int32) (v_covered : Int32) (p1 : Int32) (p2 : Int32) (post : Int32 → Int32 → (Nat → Int32) → (Nat → Int32) → (Nat → Int32) → (Nat → Int32) → (Nat → Int32) → (Nat → Int32) → Prop) (hw : wp_X5_replace v_thrown v_made v_many v_colour v_isOriginal v_state v_layers v_things v_history p1 p2 post) : Met l yX5_replace wsX5_replace rm_X5_replace (va_Pc [.ref h, .int p1, .int p2] (PRE D cI cJ cZ cO (W_X5_replace h a cI cJ cZ v_thrown v_made v_many v_colour v_isOriginal v_state v_layers v_things v_history v_heart v_width v_sheets v_covered) sz)) (va_Qi (fun r (u : Int32 × (Nat → Int32) × (Nat → Int32) × (Nat → Int32) × (Nat → Int32) × (Nat → Int32) × (Nat → Int32)) => post r u.1 u.2.1 u.2.2.1 u.2.2.2.1 u.2.2.2.2.1 u.2.2.2.2.2.1 u.2.2.2.2.2.2) (fun u t => POST D (va_A (W_X5_replace h a cI cJ cZ v_thrown v_made v_many v_colour v_isOriginal v_state v_layers v_things v_history v_heart v_width v_sheets v_covered) sz) (W_X5_replace h a cI cJ cZ u.1 v_made v_many u.2.1 u.2.2.1 u.2.2.2.1 u.2.2.2.2.1 u.2.2.2.2.2.1 u.2.2.2.2.2.2 v_heart v_width v_sheets v_covered) t) (va_A (W_X5_replace h a cI cJ cZ v_thrown v_made v_many v_colour v_isOriginal v_state v_layers v_things v_history v_heart v_width v_sheets v_covered) sz)) 0 0 (va_A (W_X5_replace h a cI cJ cZ v_thrown v_made v_many v_colour v_isOriginal v_state v_layers v_things v_history v_heart v_width v_sheets v_covered) sz) := by
  refine met_go (cc := cX5_replace) (maxL := 5) (ret := some .int) RX5 rfl (by decide) rfl (Nat.le_of_ble_eq_true rfl) ?_
  intro p e s m args below meth c ls hx hb hr hts hown hlocks hin hml hsz hP hK hE hD hA hS hl
  have iRX5 : ∀ w ∈ u_ws RX5 TX5 24, w ∈ wsX5_replace := mem_seg 26 24 rfl
  generalize va_A (W_X5_replace h a cI cJ cZ v_thrown v_made v_many v_colour v_isOriginal v_state v_layers v_things v_history v_heart v_width v_sheets v_covered) sz = A at hD hA hS ⊢
  have RT : ∀ (v : Int32) (u : Int32 × (Nat → Int32) × (Nat → Int32) × (Nat → Int32) × (Nat → Int32) × (Nat → Int32) × (Nat → Int32)) (H : Heap) (locs : List Loc) (pc : Nat) (ls : Array Slot), decode cX5_replace pc = .ok (.ireturn, 1) → post v u.1 u.2.1 u.2.2.1 u.2.2.2.1 u.2.2.2.2.1 u.2.2.2.2.2.1 u.2.2.2.2.2.2 → va_P D vwCl (W_X5_replace h a cI cJ cZ u.1 v_made v_many u.2.1 u.2.2.1 u.2.2.2.1 u.2.2.2.2.1 u.2.2.2.2.2.1 u.2.2.2.2.2.2 v_heart v_width v_sheets v_covered) H → va_D A (W_X5_replace h a cI cJ cZ u.1 v_made v_many u.2.1 u.2.2.1 u.2.2.2.1 u.2.2.2.2.1 u.2.2.2.2.2.1 u.2.2.2.2.2.2 v_heart v_width v_sheets v_covered) → va_S A s.heap H locs → W p l e rm_X5_replace s m args below meth c H locs 0 0 (MQ below (va_Qi (fun r (u : Int32 × (Nat → Int32) × (Nat → Int32) × (Nat → Int32) × (Nat → Int32) × (Nat → Int32) × (Nat → Int32)) => post r u.1 u.2.1 u.2.2.1 u.2.2.2.1 u.2.2.2.2.1 u.2.2.2.2.2.1 u.2.2.2.2.2.2) (fun u t => POST D A (W_X5_replace h a cI cJ cZ u.1 v_made v_many u.2.1 u.2.2.1 u.2.2.2.1 u.2.2.2.2.1 u.2.2.2.2.2.1 u.2.2.2.2.2.2 v_heart v_width v_sheets v_covered) t) A) args s 0 0 A) (F0 m pc ls [.int v]) := fun v u H locs pc ls d g1 g2 g3 g4 => rt_i (Wf := fun u => (W_X5_replace h a cI cJ cZ u.1 v_made v_many u.2.1 u.2.2.1 u.2.2.2.1 u.2.2.2.2.1 u.2.2.2.2.2.1 u.2.2.2.2.2.2 v_heart v_width v_sheets v_covered)) u hx hb hr hlocks g1 g2 g3 g4 d
  generalize (MQ below (va_Qi (fun r (u : Int32 × (Nat → Int32) × (Nat → Int32) × (Nat → Int32) × (Nat → Int32) × (Nat → Int32) × (Nat → Int32)) => post r u.1 u.2.1 u.2.2.1 u.2.2.2.1 u.2.2.2.2.1 u.2.2.2.2.2.1 u.2.2.2.2.2.2) (fun u t => POST D A (W_X5_replace h a cI cJ cZ u.1 v_made v_many u.2.1 u.2.2.1 u.2.2.2.1 u.2.2.2.2.1 u.2.2.2.2.2.1 u.2.2.2.2.2.2 v_heart v_width v_sheets v_covered) t) A) args s 0 0 A) = QQ at RT ⊢
  have hl : lv_has ls 5 [(0, .ref h), (1, .int p1), (2, .int p2)] := hl
  have hP : va_P D vwCl (W_X5_replace h a cI cJ cZ v_thrown v_made v_many v_colour v_isOriginal v_state v_layers v_things v_history v_heart v_width v_sheets v_covered) s.heap := hP
  unfold wp_X5_replace at hw
  suffices GO : ∀ (H : Heap) (locs : List Loc), va_P D vwCl (W_X5_replace h a cI cJ cZ v_thrown v_made v_many v_colour v_isOriginal v_state v_layers v_things v_history v_heart v_width v_sheets v_covered) H → va_S A s.heap H locs → W p l e rm_X5_replace s m args below meth c H locs 0 0 QQ (F0 m 0 ls []) from GO _ _ hP hS
  clear hsz hP hS
  intro H locs hP hS
  have J53 : ∀ (s1_j53 : Int32) , wp_X5_replace_53 v_thrown v_made v_many v_colour v_isOriginal v_state v_layers v_things v_history p1 p2 post s1_j53 → ∀ (H : Heap) (locs : List Loc) (ls : Array Slot), va_P D vwCl (W_X5_replace h a cI cJ cZ v_thrown v_made v_many v_colour v_isOriginal v_state v_layers v_things v_history v_heart v_width v_sheets v_covered) H → va_D A (W_X5_replace h a cI cJ cZ v_thrown v_made v_many v_colour v_isOriginal v_state v_layers v_things v_history v_heart v_width v_sheets v_covered) → va_S A s.heap H locs → lv_has ls 5 [(0, .ref h), (1, .int p1), (2, .int p2)] → W p l e rm_X5_replace s m args below meth c H locs 0 0 QQ (F0 m 53 ls [.int s1_j53, .ref h]) := by
    intro s1_j53 hw H locs ls hP hD hS hl
    unfold wp_X5_replace_53 at hw
    refine af_i (X := (W_X5_replace h a cI cJ cZ v_thrown v_made v_many v_colour v_isOriginal v_state v_layers v_things v_history v_heart v_width v_sheets v_covered)) (pl := []) (cx := (W_X5_goesWell h a cI cJ cZ v_thrown v_made v_heart v_width v_sheets v_covered)) (w1 := fun (u : Int32) => (W_X5_goesWell h a cI cJ cZ u v_made v_heart v_width v_sheets v_covered)) (X' := fun (u : Int32) => (W_X5_replace h a cI cJ cZ u v_made v_many v_colour v_isOriginal v_state v_layers v_things v_history v_heart v_width v_sheets v_covered)) hP hD hS hA [0] [1, 2, 3, 4, 5, 6, 7] [7, 0, 1, 2, 3, 4, 5, 6] rfl rfl (by decide) (by decide) (fun u => rfl) (by decide) (va_runV (As := [.int s1_j53]) (rest := []) ⟨hx, hb, hml, hown, hts⟩ (c_X5_goesWell l D cI cJ cZ cO h a H.size v_thrown v_made v_heart v_width v_sheets v_covered s1_j53 _ hw) (cwV 1 hts gX5_replace_X5_goesWell rfl rfl rfl (by decide +kernel) ⟨Nat.le_of_ble_eq_true rfl, Nat.le_of_ble_eq_true rfl⟩) (preV (X := (W_X5_replace h a cI cJ cZ v_thrown v_made v_many v_colour v_isOriginal v_state v_layers v_things v_history v_heart v_width v_sheets v_covered)) (pl := []) (cx := (W_X5_goesWell h a cI cJ cZ v_thrown v_made v_heart v_width v_sheets v_covered)) (qb := 0) (ci := 6) hK hE hP hD [0] (by decide) rfl rfl rfl) rfl rfl hl.1 rfl (lv_room (Nat.le_of_ble_eq_true rfl)) dX5_replace_53 ⟨Nat.zero_le _, Nat.zero_le _⟩) (fun r_53 v_thrown_c53 H locs hw hP hD hS => ?_)
    try dsimp only at hw
    have hP : va_P D vwCl (W_X5_replace h a cI cJ cZ v_thrown_c53 v_made v_many v_colour v_isOriginal v_state v_layers v_things v_history v_heart v_width v_sheets v_covered) H := hP
    have hD : va_D A (W_X5_replace h a cI cJ cZ v_thrown_c53 v_made v_many v_colour v_isOriginal v_state v_layers v_things v_history v_heart v_width v_sheets v_covered) := hD
    refine lv_if_ne (tgt := 61) hx hb dX5_replace_56 (by decide) (fun c56 => ?_) (fun c56 => ?_)
    · have hw := hw.2 c56
      refine lv_aload_n hx hb dX5_replace_61 rfl (lv_at hl 0 rfl) ?_
      refine va_get (D := D) (ci := 6) (v := .ref (a 4)) (C := RX5) (T := TX5) (N := 24) hx hb hts iRX5 hown hK hP 0 rfl rfl 4 (by decide) (hts (.fieldLink RX5 20 "LeadlightModel" "colour" "[I") (List.mem_of_getElem? (i := 3) rfl)) (fun _ h9 => h9) rfl dX5_replace_62 ?_
      refine lv_iload_n hx hb dX5_replace_65 rfl (lv_at hl 1 rfl) ?_
      obtain ⟨hi_66, hw⟩ := hw
      refine va_iald hx hb hK hP 2 0 rfl rfl hi_66 dX5_replace_66 ?_
      refine lv_istore (lv' := [(4, .int (v_colour p1.toNatClampNeg)), (0, .ref h), (1, .int p1), (2, .int p2)]) hx hb dX5_replace_67 hl (by decide) rfl (fun ls hl => ?_)
      refine lv_aload_n hx hb dX5_replace_69 rfl (lv_at hl 1 rfl) ?_
      refine va_get (D := D) (ci := 6) (v := .ref (a 4)) (C := RX5) (T := TX5) (N := 24) hx hb hts iRX5 hown hK hP 0 rfl rfl 4 (by decide) (hts (.fieldLink RX5 20 "LeadlightModel" "colour" "[I") (List.mem_of_getElem? (i := 3) rfl)) (fun _ h9 => h9) rfl dX5_replace_70 ?_
      refine lv_iload_n hx hb dX5_replace_73 rfl (lv_at hl 2 rfl) ?_
      refine lv_iload_n hx hb dX5_replace_74 rfl (lv_at hl 3 rfl) ?_
      obtain ⟨hi_75, hw⟩ := hw
      refine st_i hx hb hK hP hD hS 2 0 rfl rfl hi_75 dX5_replace_75 (fun v_colour_t75 ev_colour_t75 H locs hP hD hS => ?_)
      have hw := hw v_colour_t75 ev_colour_t75
      have hP : va_P D vwCl (W_X5_replace h a cI cJ cZ v_thrown_c53 v_made v_many v_colour_t75 v_isOriginal v_state v_layers v_things v_history v_heart v_width v_sheets v_covered) H := hP
      have hD : va_D A (W_X5_replace h a cI cJ cZ v_thrown_c53 v_made v_many v_colour_t75 v_isOriginal v_state v_layers v_things v_history v_heart v_width v_sheets v_covered) := hD
      refine lv_aload_n hx hb dX5_replace_76 rfl (lv_at hl 1 rfl) ?_
      refine va_get (D := D) (ci := 6) (v := .ref (a 6)) (C := RX5) (T := TX5) (N := 24) hx hb hts iRX5 hown hK hP 0 rfl rfl 6 (by decide) (hts (.fieldLink RX5 27 "LeadlightModel" "state" "[I") (List.mem_of_getElem? (i := 2) rfl)) (fun _ h9 => h9) rfl dX5_replace_77 ?_
      refine lv_iload_n hx hb dX5_replace_80 rfl (lv_at hl 2 rfl) ?_
      refine lv_iconst (v := 0) hx hb dX5_replace_81 (by decide) ?_
      obtain ⟨hi_82, hw⟩ := hw
      refine st_i hx hb hK hP hD hS 4 0 rfl rfl hi_82 dX5_replace_82 (fun v_state_t82 ev_state_t82 H locs hP hD hS => ?_)
      have hw := hw v_state_t82 ev_state_t82
      have hP : va_P D vwCl (W_X5_replace h a cI cJ cZ v_thrown_c53 v_made v_many v_colour_t75 v_isOriginal v_state_t82 v_layers v_things v_history v_heart v_width v_sheets v_covered) H := hP
      have hD : va_D A (W_X5_replace h a cI cJ cZ v_thrown_c53 v_made v_many v_colour_t75 v_isOriginal v_state_t82 v_layers v_things v_history v_heart v_width v_sheets v_covered) := hD
      refine lv_aload_n hx hb dX5_replace_83 rfl (lv_at hl 1 rfl) ?_
      refine va_get (D := D) (ci := 6) (v := .ref (a 5)) (C := RX5) (T := TX5) (N := 24) hx hb hts iRX5 hown hK hP 0 rfl rfl 5 (by decide) (hts (.fieldLink RX5 23 "LeadlightModel" "isOriginal" "[Z") (List.mem_of_getElem? (i := 1) rfl)) (fun _ h9 => h9) rfl dX5_replace_84 ?_
      refine lv_iload_n hx hb dX5_replace_87 rfl (lv_at hl 2 rfl) ?_
      refine lv_iconst (v := 0) hx hb dX5_replace_88 (by decide) ?_
      obtain ⟨hi_89, hw⟩ := hw
      refine st_z hx hb hK hP hD hS 3 2 rfl rfl hi_89 dX5_replace_89 (fun v_isOriginal_t89 ev_isOriginal_t89 H locs hP hD hS => ?_)
      have hw := hw v_isOriginal_t89 ev_isOriginal_t89
      have hP : va_P D vwCl (W_X5_replace h a cI cJ cZ v_thrown_c53 v_made v_many v_colour_t75 v_isOriginal_t89 v_state_t82 v_layers v_things v_history v_heart v_width v_sheets v_covered) H := hP
      have hD : va_D A (W_X5_replace h a cI cJ cZ v_thrown_c53 v_made v_many v_colour_t75 v_isOriginal_t89 v_state_t82 v_layers v_things v_history v_heart v_width v_sheets v_covered) := hD
      refine lv_aload_n hx hb dX5_replace_90 rfl (lv_at hl 1 rfl) ?_
      refine va_get (D := D) (ci := 6) (v := .ref (a 7)) (C := RX5) (T := TX5) (N := 24) hx hb hts iRX5 hown hK hP 0 rfl rfl 7 (by decide) (hts (.fieldLink RX5 30 "LeadlightModel" "layers" "[I") (List.mem_of_getElem? (i := 4) rfl)) (fun _ h9 => h9) rfl dX5_replace_91 ?_
      refine lv_iload_n hx hb dX5_replace_94 rfl (lv_at hl 2 rfl) ?_
      refine lv_iconst (v := 0) hx hb dX5_replace_95 (by decide) ?_
      obtain ⟨hi_96, hw⟩ := hw
      refine st_i hx hb hK hP hD hS 5 0 rfl rfl hi_96 dX5_replace_96 (fun v_layers_t96 ev_layers_t96 H locs hP hD hS => ?_)
      have hw := hw v_layers_t96 ev_layers_t96
      have hP : va_P D vwCl (W_X5_replace h a cI cJ cZ v_thrown_c53 v_made v_many v_colour_t75 v_isOriginal_t89 v_state_t82 v_layers_t96 v_things v_history v_heart v_width v_sheets v_covered) H := hP
      have hD : va_D A (W_X5_replace h a cI cJ cZ v_thrown_c53 v_made v_many v_colour_t75 v_isOriginal_t89 v_state_t82 v_layers_t96 v_things v_history v_heart v_width v_sheets v_covered) := hD
      refine lv_aload_n hx hb dX5_replace_97 rfl (lv_at hl 1 rfl) ?_
      refine lv_iload_n hx hb dX5_replace_98 rfl (lv_at hl 2 rfl) ?_
      refine lv_bipush (v := 9) hx hb dX5_replace_99 (by decide) ?_
      refine af_v (X := (W_X5_replace h a cI cJ cZ v_thrown_c53 v_made v_many v_colour_t75 v_isOriginal_t89 v_state_t82 v_layers_t96 v_things v_history v_heart v_width v_sheets v_covered)) (pl := []) (cx := (W_X5_note h a cI cJ cZ v_thrown_c53 v_made v_things v_history v_heart v_width v_sheets v_covered)) (w1 := fun (u : (Nat → Int32) × (Nat → Int32)) => (W_X5_note h a cI cJ cZ v_thrown_c53 v_made u.1 u.2 v_heart v_width v_sheets v_covered)) (X' := fun (u : (Nat → Int32) × (Nat → Int32)) => (W_X5_replace h a cI cJ cZ v_thrown_c53 v_made v_many v_colour_t75 v_isOriginal_t89 v_state_t82 v_layers_t96 u.1 u.2 v_heart v_width v_sheets v_covered)) hP hD hS hA [0, 6, 7] [1, 2, 3, 4, 5] [5, 0, 1, 2, 3, 4, 6, 7] rfl rfl (by decide) (by decide) (fun u => rfl) (by decide) (va_runV (As := [.int p1, .int 9]) (rest := []) ⟨hx, hb, hml, hown, hts⟩ (c_X5_note l D cI cJ cZ cO h a H.size v_thrown_c53 v_made v_things v_history v_heart v_width v_sheets v_covered p1 9 _ hw) (cwV 2 hts gX5_replace_X5_note rfl rfl rfl (by decide +kernel) ⟨Nat.le_of_ble_eq_true rfl, Nat.le_of_ble_eq_true rfl⟩) (preV (X := (W_X5_replace h a cI cJ cZ v_thrown_c53 v_made v_many v_colour_t75 v_isOriginal_t89 v_state_t82 v_layers_t96 v_things v_history v_heart v_width v_sheets v_covered)) (pl := []) (cx := (W_X5_note h a cI cJ cZ v_thrown_c53 v_made v_things v_history v_heart v_width v_sheets v_covered)) (qb := 0) (ci := 6) hK hE hP hD [0, 6, 7] (by decide) rfl rfl rfl) rfl rfl hl.1 rfl (lv_room (Nat.le_of_ble_eq_true rfl)) dX5_replace_101 ⟨Nat.zero_le _, Nat.zero_le _⟩) (fun u H locs hw hP hD hS => ?_)
      obtain ⟨v_things_c101, v_history_c101⟩ := u
      try dsimp only at hw
      have hP : va_P D vwCl (W_X5_replace h a cI cJ cZ v_thrown_c53 v_made v_many v_colour_t75 v_isOriginal_t89 v_state_t82 v_layers_t96 v_things_c101 v_history_c101 v_heart v_width v_sheets v_covered) H := hP
      have hD : va_D A (W_X5_replace h a cI cJ cZ v_thrown_c53 v_made v_many v_colour_t75 v_isOriginal_t89 v_state_t82 v_layers_t96 v_things_c101 v_history_c101 v_heart v_width v_sheets v_covered) := hD
      refine lv_iload hx hb dX5_replace_104 (lv_at hl 0 rfl) ?_
      exact RT (v_colour p1.toNatClampNeg) (v_thrown_c53, v_colour_t75, v_isOriginal_t89, v_state_t82, v_layers_t96, v_things_c101, v_history_c101) _ _ _ _ dX5_replace_106 hw hP hD hS
    · have hw := hw.1 c56
      refine lv_iconst (v := 0) hx hb dX5_replace_59 (by decide) ?_
      exact RT 0 (v_thrown_c53, v_colour, v_isOriginal, v_state, v_layers, v_things, v_history) _ _ _ _ dX5_replace_60 hw hP hD hS
  refine lv_aload_n hx hb dX5_replace_0 rfl (lv_at hl 0 rfl) ?_
  refine lv_iload_n hx hb dX5_replace_1 rfl (lv_at hl 1 rfl) ?_
  refine af_i (X := (W_X5_replace h a cI cJ cZ v_thrown v_made v_many v_colour v_isOriginal v_state v_layers v_things v_history v_heart v_width v_sheets v_covered)) (pl := []) (cx := (W_X5_isPiece h a cI cJ cZ v_thrown v_made v_many v_heart v_width v_sheets v_covered)) (w1 := fun (u : Unit) => (W_X5_isPiece h a cI cJ cZ v_thrown v_made v_many v_heart v_width v_sheets v_covered)) (X' := fun (u : Unit) => (W_X5_replace h a cI cJ cZ v_thrown v_made v_many v_colour v_isOriginal v_state v_layers v_things v_history v_heart v_width v_sheets v_covered)) hP hD hS hA [0, 1] [2, 3, 4, 5, 6, 7] [6, 7, 0, 1, 2, 3, 4, 5] rfl rfl (by decide) (by decide) (fun u => rfl) (by decide) (va_runV (As := [.int p1]) (rest := []) ⟨hx, hb, hml, hown, hts⟩ (c_X5_isPiece l D cI cJ cZ cO h a H.size v_thrown v_made v_many v_heart v_width v_sheets v_covered p1 _ hw) (cwV 1 hts gX5_replace_X5_isPiece rfl rfl rfl (by decide +kernel) ⟨Nat.le_of_ble_eq_true rfl, Nat.le_of_ble_eq_true rfl⟩) (preV (X := (W_X5_replace h a cI cJ cZ v_thrown v_made v_many v_colour v_isOriginal v_state v_layers v_things v_history v_heart v_width v_sheets v_covered)) (pl := []) (cx := (W_X5_isPiece h a cI cJ cZ v_thrown v_made v_many v_heart v_width v_sheets v_covered)) (qb := 0) (ci := 6) hK hE hP hD [0, 1] (by decide) rfl rfl rfl) rfl rfl hl.1 rfl (lv_room (Nat.le_of_ble_eq_true rfl)) dX5_replace_2 ⟨Nat.zero_le _, Nat.zero_le _⟩) (fun r_2 _ H locs hw hP hD hS => ?_)
  try dsimp only at hw
  have hP : va_P D vwCl (W_X5_replace h a cI cJ cZ v_thrown v_made v_many v_colour v_isOriginal v_state v_layers v_things v_history v_heart v_width v_sheets v_covered) H := hP
  have hD : va_D A (W_X5_replace h a cI cJ cZ v_thrown v_made v_many v_colour v_isOriginal v_state v_layers v_things v_history v_heart v_width v_sheets v_covered) := hD
  refine lv_istore_n (lv' := [(3, .int r_2), (0, .ref h), (1, .int p1), (2, .int p2)]) hx hb dX5_replace_5 rfl hl (by decide) rfl (fun ls hl => ?_)
  refine lv_aload_n hx hb dX5_replace_6 rfl (lv_at hl 1 rfl) ?_
  refine lv_iload_n hx hb dX5_replace_7 rfl (lv_at hl 0 rfl) ?_
  refine lv_if_ne (tgt := 15) hx hb dX5_replace_8 (by decide) (fun c8 => ?_) (fun c8 => ?_)
  · have hw := hw.2 c8
    refine lv_iload_n hx hb dX5_replace_15 rfl (lv_at hl 3 rfl) ?_
    refine lv_iconst (v := 0) hx hb dX5_replace_16 (by decide) ?_
    refine lv_bipush (v := 7) hx hb dX5_replace_17 (by decide) ?_
    refine af_i (X := (W_X5_replace h a cI cJ cZ v_thrown v_made v_many v_colour v_isOriginal v_state v_layers v_things v_history v_heart v_width v_sheets v_covered)) (pl := []) (cx := ([] : va_W)) (w1 := fun (u : Unit) => ([] : va_W)) (X' := fun (u : Unit) => (W_X5_replace h a cI cJ cZ v_thrown v_made v_many v_colour v_isOriginal v_state v_layers v_things v_history v_heart v_width v_sheets v_covered)) hP hD hS hA [] [0, 1, 2, 3, 4, 5, 6, 7] [0, 1, 2, 3, 4, 5, 6, 7] rfl rfl (by decide) (by decide) (fun u => rfl) (by decide) (va_runS (As := [.int p2, .int 0, .int 7]) (rest := [.ref h]) ⟨hx, hb, hml, hown, hts⟩ (c_X5_in l D cI cJ cZ cO H.size p2 0 7 _ hw) (va_cwS 3 hts gX5_replace_X5_in rfl rfl rfl (by decide +kernel) ⟨Nat.le_of_ble_eq_true rfl, Nat.le_of_ble_eq_true rfl⟩) (preS (X := (W_X5_replace h a cI cJ cZ v_thrown v_made v_many v_colour v_isOriginal v_state v_layers v_things v_history v_heart v_width v_sheets v_covered)) (pl := []) (cx := ([] : va_W)) hK hE hP hD [] (by decide) rfl) rfl rfl hl.1 rfl (lv_room (Nat.le_of_ble_eq_true rfl)) dX5_replace_19 ⟨Nat.zero_le _, Nat.zero_le _⟩) (fun r_19 _ H locs hw hP hD hS => ?_)
    try dsimp only at hw
    have hP : va_P D vwCl (W_X5_replace h a cI cJ cZ v_thrown v_made v_many v_colour v_isOriginal v_state v_layers v_things v_history v_heart v_width v_sheets v_covered) H := hP
    have hD : va_D A (W_X5_replace h a cI cJ cZ v_thrown v_made v_many v_colour v_isOriginal v_state v_layers v_things v_history v_heart v_width v_sheets v_covered) := hD
    refine lv_if_ne (tgt := 29) hx hb dX5_replace_22 (by decide) (fun c22 => ?_) (fun c22 => ?_)
    · have hw := hw.2 c22
      refine lv_aload_n hx hb dX5_replace_29 rfl (lv_at hl 1 rfl) ?_
      refine va_get (D := D) (ci := 6) (v := .ref (a 5)) (C := RX5) (T := TX5) (N := 24) hx hb hts iRX5 hown hK hP 0 rfl rfl 5 (by decide) (hts (.fieldLink RX5 23 "LeadlightModel" "isOriginal" "[Z") (List.mem_of_getElem? (i := 1) rfl)) (fun _ h9 => h9) rfl dX5_replace_30 ?_
      refine lv_iload_n hx hb dX5_replace_33 rfl (lv_at hl 2 rfl) ?_
      obtain ⟨hi_34, hw⟩ := hw
      refine va_zald hx hb hK hP 3 2 rfl rfl hi_34 dX5_replace_34 ?_
      refine lv_if_eq (tgt := 52) hx hb dX5_replace_35 (by decide) (fun c35 => ?_) (fun c35 => ?_)
      · have hw := hw.1 c35
        refine lv_iconst (v := 0) hx hb dX5_replace_52 (by decide) ?_
        exact J53 0 hw _ _ ls hP hD hS (lv_sub hl [1, 2, 3] rfl)
      · have hw := hw.2 c35
        refine lv_aload_n hx hb dX5_replace_38 rfl (lv_at hl 1 rfl) ?_
        refine va_get (D := D) (ci := 6) (v := .ref (a 6)) (C := RX5) (T := TX5) (N := 24) hx hb hts iRX5 hown hK hP 0 rfl rfl 6 (by decide) (hts (.fieldLink RX5 27 "LeadlightModel" "state" "[I") (List.mem_of_getElem? (i := 2) rfl)) (fun _ h9 => h9) rfl dX5_replace_39 ?_
        refine lv_iload_n hx hb dX5_replace_42 rfl (lv_at hl 2 rfl) ?_
        obtain ⟨hi_43, hw⟩ := hw
        refine va_iald hx hb hK hP 4 0 rfl rfl hi_43 dX5_replace_43 ?_
        refine lv_iconst (v := 1) hx hb dX5_replace_44 (by decide) ?_
        refine lv_icmp_eq (tgt := 52) hx hb dX5_replace_45 (by decide) (fun c45 => ?_) (fun c45 => ?_)
        · have hw := hw.1 c45
          refine lv_iconst (v := 0) hx hb dX5_replace_52 (by decide) ?_
          exact J53 0 hw _ _ ls hP hD hS (lv_sub hl [1, 2, 3] rfl)
        · have hw := hw.2 c45
          refine lv_iconst (v := 3) hx hb dX5_replace_48 (by decide) ?_
          refine lv_goto (tgt := 53) hx hb dX5_replace_49 (by decide) ?_
          exact J53 3 hw _ _ ls hP hD hS (lv_sub hl [1, 2, 3] rfl)
    · have hw := hw.1 c22
      refine lv_iconst (v := 2) hx hb dX5_replace_25 (by decide) ?_
      refine lv_goto (tgt := 53) hx hb dX5_replace_26 (by decide) ?_
      exact J53 2 hw _ _ ls hP hD hS (lv_sub hl [1, 2, 3] rfl)
  · have hw := hw.1 c8
    refine lv_iconst (v := 1) hx hb dX5_replace_11 (by decide) ?_
    refine lv_goto (tgt := 53) hx hb dX5_replace_12 (by decide) ?_
    exact J53 1 hw _ _ ls hP hD hS (lv_sub hl [1, 2, 3] rfl)
abbrev rm_X5_pieces : Room := { frames := 0, cells := 0, slots := 0, locals := 0 }
abbrev W_X5_pieces (h : Nat) (a : Nat → Nat) (cI cJ cZ : ClassId) (v_thrown : Int32) (v_made : Int32) (v_many : Nat → Int32) (v_heart : Int32) (v_width : Int32) (v_sheets : Int32) (v_covered : Int32) : va_W := [(h, .inr (6, [.int v_thrown, .int v_made, .ref (a 2), .ref (a 3), .ref (a 4), .ref (a 5), .ref (a 6), .ref (a 7), .ref (a 8), .ref (a 9), .ref (a 10), .ref (a 11), .int v_heart, .int v_width, .ref (a 14), .ref (a 15), .ref (a 16), .ref (a 17), .ref (a 18), .ref (a 19), .ref (a 20), .ref (a 21), .int v_sheets, .int v_covered])), ((a 3), .inl (cI, 60, .inl v_many))]
def wp_X5_pieces_32 (v_thrown : Int32) (v_made : Int32) (v_many : Nat → Int32) (post : Int32 → Int32 → Prop) (K9 : Int32 → Int32 → Int32 → Prop) (s0_j32 : Int32) (s1_j32 : Int32) (x2_j32 : Int32) (v_thrown_j32 : Int32) : Prop := K9 (s0_j32 + s1_j32) (x2_j32 + 1) v_thrown_j32
def wp_X5_pieces_9 (v_thrown : Int32) (v_made : Int32) (v_many : Nat → Int32) (post : Int32 → Int32 → Prop) (K9 : Int32 → Int32 → Int32 → Prop) (x1_j9 : Int32) (x2_j9 : Int32) (v_thrown_j9 : Int32) : Prop := (v_made ≤ x2_j9 → post x1_j9 v_thrown_j9) ∧ (¬ v_made ≤ x2_j9 → vp_in x2_j9 60 ∧ (((v_many x2_j9.toNatClampNeg) ≤ 0 → wp_X5_pieces_32 v_thrown v_made v_many post K9 x1_j9 0 x2_j9 v_thrown_j9) ∧ (¬ (v_many x2_j9.toNatClampNeg) ≤ 0 → wp_X5_pieces_32 v_thrown v_made v_many post K9 x1_j9 1 x2_j9 v_thrown_j9)))
def lF_X5_pieces_9 (v_thrown : Int32) (v_made : Int32) (v_many : Nat → Int32) (post : Int32 → Int32 → Prop) : ((Int32 × Int32 × Int32) → Prop) → (Int32 × Int32 × Int32) → Prop := fun K s => wp_X5_pieces_9 v_thrown v_made v_many post (fun b0 b1 b2 => K (b0, b1, b2)) s.1 s.2.1 s.2.2
def wp_X5_pieces (v_thrown : Int32) (v_made : Int32) (v_many : Nat → Int32) (post : Int32 → Int32 → Prop) : Prop := ∀ v_thrown_t2 : Int32, v_thrown_t2 = 0 → lp (lF_X5_pieces_9 v_thrown v_made v_many post) (0, 0, v_thrown_t2)
set_option maxHeartbeats 4000000 in
set_option maxRecDepth 100000 in
theorem c_X5_pieces (l : Launch) (D : va_G) (cI cJ cZ cO : ClassId) (h : Nat) (a : Nat → Nat) (sz : Nat) (v_thrown : Int32) (v_made : Int32) (v_many : Nat → Int32) (v_heart : Int32) (v_width : Int32) (v_sheets : Int32) (v_covered : Int32) (post : Int32 → Int32 → Prop) (hw : wp_X5_pieces v_thrown v_made v_many post) : Met l yX5_pieces wsX5_pieces rm_X5_pieces (va_Pc [.ref h] (PRE D cI cJ cZ cO (W_X5_pieces h a cI cJ cZ v_thrown v_made v_many v_heart v_width v_sheets v_covered) sz)) (va_Qi (fun r (u : Int32) => post r u) (fun u t => POST D (va_A (W_X5_pieces h a cI cJ cZ v_thrown v_made v_many v_heart v_width v_sheets v_covered) sz) (W_X5_pieces h a cI cJ cZ u v_made v_many v_heart v_width v_sheets v_covered) t) (va_A (W_X5_pieces h a cI cJ cZ v_thrown v_made v_many v_heart v_width v_sheets v_covered) sz)) 0 0 (va_A (W_X5_pieces h a cI cJ cZ v_thrown v_made v_many v_heart v_width v_sheets v_covered) sz) := by
  refine met_go (cc := cX5_pieces) (maxL := 3) (ret := some .int) RX5 rfl (by decide) rfl (Nat.le_of_ble_eq_true rfl) ?_
  intro p e s m args below meth c ls hx hb hr hts hown hlocks hin hml hsz hP hK hE hD hA hS hl
  have iRX5 : ∀ w ∈ u_ws RX5 TX5 24, w ∈ wsX5_pieces := mem_seg 4 24 rfl
  generalize va_A (W_X5_pieces h a cI cJ cZ v_thrown v_made v_many v_heart v_width v_sheets v_covered) sz = A at hD hA hS ⊢
  have RT : ∀ (v : Int32) (u : Int32) (H : Heap) (locs : List Loc) (pc : Nat) (ls : Array Slot), decode cX5_pieces pc = .ok (.ireturn, 1) → post v u → va_P D vwCl (W_X5_pieces h a cI cJ cZ u v_made v_many v_heart v_width v_sheets v_covered) H → va_D A (W_X5_pieces h a cI cJ cZ u v_made v_many v_heart v_width v_sheets v_covered) → va_S A s.heap H locs → W p l e rm_X5_pieces s m args below meth c H locs 0 0 (MQ below (va_Qi (fun r (u : Int32) => post r u) (fun u t => POST D A (W_X5_pieces h a cI cJ cZ u v_made v_many v_heart v_width v_sheets v_covered) t) A) args s 0 0 A) (F0 m pc ls [.int v]) := fun v u H locs pc ls d g1 g2 g3 g4 => rt_i (Wf := fun u => (W_X5_pieces h a cI cJ cZ u v_made v_many v_heart v_width v_sheets v_covered)) u hx hb hr hlocks g1 g2 g3 g4 d
  generalize (MQ below (va_Qi (fun r (u : Int32) => post r u) (fun u t => POST D A (W_X5_pieces h a cI cJ cZ u v_made v_many v_heart v_width v_sheets v_covered) t) A) args s 0 0 A) = QQ at RT ⊢
  have hl : lv_has ls 3 [(0, .ref h)] := hl
  have hP : va_P D vwCl (W_X5_pieces h a cI cJ cZ v_thrown v_made v_many v_heart v_width v_sheets v_covered) s.heap := hP
  unfold wp_X5_pieces at hw
  suffices GO : ∀ (H : Heap) (locs : List Loc), va_P D vwCl (W_X5_pieces h a cI cJ cZ v_thrown v_made v_many v_heart v_width v_sheets v_covered) H → va_S A s.heap H locs → W p l e rm_X5_pieces s m args below meth c H locs 0 0 QQ (F0 m 0 ls []) from GO _ _ hP hS
  clear hsz hP hS
  intro H locs hP hS
  have L9 : ∀ s0 : (Int32 × Int32 × Int32), lp (lF_X5_pieces_9 v_thrown v_made v_many post) s0 → ∀ (H : Heap) (locs : List Loc) (ls : Array Slot), va_P D vwCl (W_X5_pieces h a cI cJ cZ s0.2.2 v_made v_many v_heart v_width v_sheets v_covered) H → va_D A (W_X5_pieces h a cI cJ cZ s0.2.2 v_made v_many v_heart v_width v_sheets v_covered) → va_S A s.heap H locs → lv_has ls 3 [(0, .ref h), (1, .int s0.1), (2, .int s0.2.1)] → W p l e rm_X5_pieces s m args below meth c H locs 0 0 QQ (F0 m 9 ls []) := by
    refine lp_elim (fun K9 ih9 s0 hw => ?_)
    obtain ⟨x1_j9, x2_j9, v_thrown_j9⟩ := s0
    intro H locs ls hP hD hS hl
    have hw : wp_X5_pieces_9 v_thrown v_made v_many post (fun b0 b1 b2 => K9 (b0, b1, b2)) x1_j9 x2_j9 v_thrown_j9 := hw
    have hP : va_P D vwCl (W_X5_pieces h a cI cJ cZ v_thrown_j9 v_made v_many v_heart v_width v_sheets v_covered) H := hP
    have hD : va_D A (W_X5_pieces h a cI cJ cZ v_thrown_j9 v_made v_many v_heart v_width v_sheets v_covered) := hD
    have hl : lv_has ls 3 [(0, .ref h), (1, .int x1_j9), (2, .int x2_j9)] := hl
    have J32 : ∀ (s0_j32 : Int32) (s1_j32 : Int32) (x2_j32 : Int32) (v_thrown_j32 : Int32) , wp_X5_pieces_32 v_thrown v_made v_many post (fun b0 b1 b2 => K9 (b0, b1, b2)) s0_j32 s1_j32 x2_j32 v_thrown_j32 → ∀ (H : Heap) (locs : List Loc) (ls : Array Slot), va_P D vwCl (W_X5_pieces h a cI cJ cZ v_thrown_j32 v_made v_many v_heart v_width v_sheets v_covered) H → va_D A (W_X5_pieces h a cI cJ cZ v_thrown_j32 v_made v_many v_heart v_width v_sheets v_covered) → va_S A s.heap H locs → lv_has ls 3 [(0, .ref h), (2, .int x2_j32)] → W p l e rm_X5_pieces s m args below meth c H locs 0 0 QQ (F0 m 32 ls [.int s1_j32, .int s0_j32]) := by
      intro s0_j32 s1_j32 x2_j32 v_thrown_j32 hw H locs ls hP hD hS hl
      unfold wp_X5_pieces_32 at hw
      refine lv_iadd hx hb dX5_pieces_32 ?_
      refine lv_istore_n (lv' := [(1, .int (s0_j32 + s1_j32)), (0, .ref h), (2, .int x2_j32)]) hx hb dX5_pieces_33 rfl hl (by decide) rfl (fun ls hl => ?_)
      refine lv_iinc (v := (x2_j32 + 1)) (lv' := [(2, .int (x2_j32 + 1)), (1, .int (s0_j32 + s1_j32)), (0, .ref h)]) hx hb dX5_pieces_34 hl (k := 2) rfl rfl (by decide) rfl (fun ls hl => ?_)
      refine lv_goto (tgt := 9) hx hb dX5_pieces_37 (by decide) ?_
      exact ih9 ((s0_j32 + s1_j32), (x2_j32 + 1), v_thrown_j32) hw _ _ ls hP hD hS (lv_sub hl [2, 1, 0] rfl)
    unfold wp_X5_pieces_9 at hw
    refine lv_iload_n hx hb dX5_pieces_9 rfl (lv_at hl 2 rfl) ?_
    refine lv_aload_n hx hb dX5_pieces_10 rfl (lv_at hl 0 rfl) ?_
    refine va_get (D := D) (ci := 6) (v := .int v_made) (C := RX5) (T := TX5) (N := 24) hx hb hts iRX5 hown hK hP 0 rfl rfl 1 (by decide) (hts (.fieldLink RX5 7 "LeadlightModel" "made" "I") (List.mem_of_getElem? (i := 2) rfl)) (fun _ h9 => h9) rfl dX5_pieces_11 ?_
    refine lv_icmp_ge (tgt := 40) hx hb dX5_pieces_14 (by decide) (fun c14 => ?_) (fun c14 => ?_)
    · have hw := hw.1 c14
      refine lv_iload_n hx hb dX5_pieces_40 rfl (lv_at hl 1 rfl) ?_
      exact RT x1_j9 v_thrown_j9 _ _ _ _ dX5_pieces_41 hw hP hD hS
    · have hw := hw.2 c14
      refine lv_iload_n hx hb dX5_pieces_17 rfl (lv_at hl 1 rfl) ?_
      refine lv_aload_n hx hb dX5_pieces_18 rfl (lv_at hl 0 rfl) ?_
      refine va_get (D := D) (ci := 6) (v := .ref (a 3)) (C := RX5) (T := TX5) (N := 24) hx hb hts iRX5 hown hK hP 0 rfl rfl 3 (by decide) (hts (.fieldLink RX5 17 "LeadlightModel" "many" "[I") (List.mem_of_getElem? (i := 3) rfl)) (fun _ h9 => h9) rfl dX5_pieces_19 ?_
      refine lv_iload_n hx hb dX5_pieces_22 rfl (lv_at hl 2 rfl) ?_
      obtain ⟨hi_23, hw⟩ := hw
      refine va_iald hx hb hK hP 1 0 rfl rfl hi_23 dX5_pieces_23 ?_
      refine lv_if_le (tgt := 31) hx hb dX5_pieces_24 (by decide) (fun c24 => ?_) (fun c24 => ?_)
      · have hw := hw.1 c24
        refine lv_iconst (v := 0) hx hb dX5_pieces_31 (by decide) ?_
        exact J32 x1_j9 0 x2_j9 v_thrown_j9 hw _ _ ls hP hD hS (lv_sub hl [0, 2] rfl)
      · have hw := hw.2 c24
        refine lv_iconst (v := 1) hx hb dX5_pieces_27 (by decide) ?_
        refine lv_goto (tgt := 32) hx hb dX5_pieces_28 (by decide) ?_
        exact J32 x1_j9 1 x2_j9 v_thrown_j9 hw _ _ ls hP hD hS (lv_sub hl [0, 2] rfl)
  refine lv_aload_n hx hb dX5_pieces_0 rfl (lv_at hl 0 rfl) ?_
  refine lv_iconst (v := 0) hx hb dX5_pieces_1 (by decide) ?_
  refine lv_topi (fun v_thrown_t2 ev_thrown_t2 => ?_)
  have hw := hw v_thrown_t2 ev_thrown_t2
  refine va_put (D := D) (ci := 6) (v := .int v_thrown_t2) (ty := .int) (C := RX5) (T := TX5) (N := 24) hx hb hts iRX5 tyX5 tyX5_ok nmX5 hown hK hP hD hS 0 rfl rfl 0 (by decide) (hts (.fieldLink RX5 79 "LeadlightModel" "thrown" "I") (List.mem_of_getElem? (i := 1) rfl)) (fun _ h9 => h9) rfl (by decide +kernel) rfl rfl (Nat.le_of_ble_eq_true rfl) dX5_pieces_2 (fun H locs hP hD hS => ?_)
  have hP : va_P D vwCl (W_X5_pieces h a cI cJ cZ v_thrown_t2 v_made v_many v_heart v_width v_sheets v_covered) H := hP
  have hD : va_D A (W_X5_pieces h a cI cJ cZ v_thrown_t2 v_made v_many v_heart v_width v_sheets v_covered) := hD
  refine lv_iconst (v := 0) hx hb dX5_pieces_5 (by decide) ?_
  refine lv_istore_n (lv' := [(1, .int 0), (0, .ref h)]) hx hb dX5_pieces_6 rfl hl (by decide) rfl (fun ls hl => ?_)
  refine lv_iconst (v := 0) hx hb dX5_pieces_7 (by decide) ?_
  refine lv_istore_n (lv' := [(2, .int 0), (1, .int 0), (0, .ref h)]) hx hb dX5_pieces_8 rfl hl (by decide) rfl (fun ls hl => ?_)
  exact L9 (0, 0, v_thrown_t2) hw _ _ ls hP hD hS (lv_sub hl [2, 1, 0] rfl)
abbrev rm_X5_pieceOf : Room := { frames := 2, cells := 0, slots := 0, locals := 42 }
abbrev W_X5_pieceOf (h : Nat) (a : Nat → Nat) (cI cJ cZ : ClassId) (v_thrown : Int32) (v_made : Int32) (v_of : Nat → Int32) (v_heart : Int32) (v_width : Int32) (v_sheets : Int32) (v_covered : Int32) : va_W := [(h, .inr (6, [.int v_thrown, .int v_made, .ref (a 2), .ref (a 3), .ref (a 4), .ref (a 5), .ref (a 6), .ref (a 7), .ref (a 8), .ref (a 9), .ref (a 10), .ref (a 11), .int v_heart, .int v_width, .ref (a 14), .ref (a 15), .ref (a 16), .ref (a 17), .ref (a 18), .ref (a 19), .ref (a 20), .ref (a 21), .int v_sheets, .int v_covered])), ((a 2), .inl (cI, 256, .inl v_of))]
def wp_X5_pieceOf_13 (v_thrown : Int32) (v_of : Nat → Int32) (p1 : Int32) (post : Int32 → Int32 → Prop) (s1_j13 : Int32) : Prop := wp_X5_goesWell v_thrown s1_j13 (fun r_13 v_thrown_c13 => (r_13 = 0 → post 0 v_thrown_c13) ∧ (¬ r_13 = 0 → vp_in p1 256 ∧ (post (v_of p1.toNatClampNeg) v_thrown_c13)))
def wp_X5_pieceOf (v_thrown : Int32) (v_of : Nat → Int32) (p1 : Int32) (post : Int32 → Int32 → Prop) : Prop := wp_X5_isCell p1 (fun r_2 => (r_2 = 0 → wp_X5_pieceOf_13 v_thrown v_of p1 post 1) ∧ (¬ r_2 = 0 → wp_X5_pieceOf_13 v_thrown v_of p1 post 0))
set_option maxHeartbeats 4000000 in
set_option maxRecDepth 100000 in
theorem c_X5_pieceOf (l : Launch) (D : va_G) (cI cJ cZ cO : ClassId) (h : Nat) (a : Nat → Nat) (sz : Nat) (v_thrown : Int32) (v_made : Int32) (v_of : Nat → Int32) (v_heart : Int32) (v_width : Int32) (v_sheets : Int32) (v_covered : Int32) (p1 : Int32) (post : Int32 → Int32 → Prop) (hw : wp_X5_pieceOf v_thrown v_of p1 post) : Met l yX5_pieceOf wsX5_pieceOf rm_X5_pieceOf (va_Pc [.ref h, .int p1] (PRE D cI cJ cZ cO (W_X5_pieceOf h a cI cJ cZ v_thrown v_made v_of v_heart v_width v_sheets v_covered) sz)) (va_Qi (fun r (u : Int32) => post r u) (fun u t => POST D (va_A (W_X5_pieceOf h a cI cJ cZ v_thrown v_made v_of v_heart v_width v_sheets v_covered) sz) (W_X5_pieceOf h a cI cJ cZ u v_made v_of v_heart v_width v_sheets v_covered) t) (va_A (W_X5_pieceOf h a cI cJ cZ v_thrown v_made v_of v_heart v_width v_sheets v_covered) sz)) 0 0 (va_A (W_X5_pieceOf h a cI cJ cZ v_thrown v_made v_of v_heart v_width v_sheets v_covered) sz) := by
  refine met_go (cc := cX5_pieceOf) (maxL := 2) (ret := some .int) RX5 rfl (by decide) rfl (Nat.le_of_ble_eq_true rfl) ?_
  intro p e s m args below meth c ls hx hb hr hts hown hlocks hin hml hsz hP hK hE hD hA hS hl
  have iRX5 : ∀ w ∈ u_ws RX5 TX5 24, w ∈ wsX5_pieceOf := mem_seg 14 24 rfl
  generalize va_A (W_X5_pieceOf h a cI cJ cZ v_thrown v_made v_of v_heart v_width v_sheets v_covered) sz = A at hD hA hS ⊢
  have RT : ∀ (v : Int32) (u : Int32) (H : Heap) (locs : List Loc) (pc : Nat) (ls : Array Slot), decode cX5_pieceOf pc = .ok (.ireturn, 1) → post v u → va_P D vwCl (W_X5_pieceOf h a cI cJ cZ u v_made v_of v_heart v_width v_sheets v_covered) H → va_D A (W_X5_pieceOf h a cI cJ cZ u v_made v_of v_heart v_width v_sheets v_covered) → va_S A s.heap H locs → W p l e rm_X5_pieceOf s m args below meth c H locs 0 0 (MQ below (va_Qi (fun r (u : Int32) => post r u) (fun u t => POST D A (W_X5_pieceOf h a cI cJ cZ u v_made v_of v_heart v_width v_sheets v_covered) t) A) args s 0 0 A) (F0 m pc ls [.int v]) := fun v u H locs pc ls d g1 g2 g3 g4 => rt_i (Wf := fun u => (W_X5_pieceOf h a cI cJ cZ u v_made v_of v_heart v_width v_sheets v_covered)) u hx hb hr hlocks g1 g2 g3 g4 d
  generalize (MQ below (va_Qi (fun r (u : Int32) => post r u) (fun u t => POST D A (W_X5_pieceOf h a cI cJ cZ u v_made v_of v_heart v_width v_sheets v_covered) t) A) args s 0 0 A) = QQ at RT ⊢
  have hl : lv_has ls 2 [(0, .ref h), (1, .int p1)] := hl
  have hP : va_P D vwCl (W_X5_pieceOf h a cI cJ cZ v_thrown v_made v_of v_heart v_width v_sheets v_covered) s.heap := hP
  unfold wp_X5_pieceOf at hw
  suffices GO : ∀ (H : Heap) (locs : List Loc), va_P D vwCl (W_X5_pieceOf h a cI cJ cZ v_thrown v_made v_of v_heart v_width v_sheets v_covered) H → va_S A s.heap H locs → W p l e rm_X5_pieceOf s m args below meth c H locs 0 0 QQ (F0 m 0 ls []) from GO _ _ hP hS
  clear hsz hP hS
  intro H locs hP hS
  have J13 : ∀ (s1_j13 : Int32) , wp_X5_pieceOf_13 v_thrown v_of p1 post s1_j13 → ∀ (H : Heap) (locs : List Loc) (ls : Array Slot), va_P D vwCl (W_X5_pieceOf h a cI cJ cZ v_thrown v_made v_of v_heart v_width v_sheets v_covered) H → va_D A (W_X5_pieceOf h a cI cJ cZ v_thrown v_made v_of v_heart v_width v_sheets v_covered) → va_S A s.heap H locs → lv_has ls 2 [(0, .ref h), (1, .int p1)] → W p l e rm_X5_pieceOf s m args below meth c H locs 0 0 QQ (F0 m 13 ls [.int s1_j13, .ref h]) := by
    intro s1_j13 hw H locs ls hP hD hS hl
    unfold wp_X5_pieceOf_13 at hw
    refine af_i (X := (W_X5_pieceOf h a cI cJ cZ v_thrown v_made v_of v_heart v_width v_sheets v_covered)) (pl := []) (cx := (W_X5_goesWell h a cI cJ cZ v_thrown v_made v_heart v_width v_sheets v_covered)) (w1 := fun (u : Int32) => (W_X5_goesWell h a cI cJ cZ u v_made v_heart v_width v_sheets v_covered)) (X' := fun (u : Int32) => (W_X5_pieceOf h a cI cJ cZ u v_made v_of v_heart v_width v_sheets v_covered)) hP hD hS hA [0] [1] [1, 0] rfl rfl (by decide) (by decide) (fun u => rfl) (by decide) (va_runV (As := [.int s1_j13]) (rest := []) ⟨hx, hb, hml, hown, hts⟩ (c_X5_goesWell l D cI cJ cZ cO h a H.size v_thrown v_made v_heart v_width v_sheets v_covered s1_j13 _ hw) (cwV 1 hts gX5_pieceOf_X5_goesWell rfl rfl rfl (by decide +kernel) ⟨Nat.le_of_ble_eq_true rfl, Nat.le_of_ble_eq_true rfl⟩) (preV (X := (W_X5_pieceOf h a cI cJ cZ v_thrown v_made v_of v_heart v_width v_sheets v_covered)) (pl := []) (cx := (W_X5_goesWell h a cI cJ cZ v_thrown v_made v_heart v_width v_sheets v_covered)) (qb := 0) (ci := 6) hK hE hP hD [0] (by decide) rfl rfl rfl) rfl rfl hl.1 rfl (lv_room (Nat.le_of_ble_eq_true rfl)) dX5_pieceOf_13 ⟨Nat.zero_le _, Nat.zero_le _⟩) (fun r_13 v_thrown_c13 H locs hw hP hD hS => ?_)
    try dsimp only at hw
    have hP : va_P D vwCl (W_X5_pieceOf h a cI cJ cZ v_thrown_c13 v_made v_of v_heart v_width v_sheets v_covered) H := hP
    have hD : va_D A (W_X5_pieceOf h a cI cJ cZ v_thrown_c13 v_made v_of v_heart v_width v_sheets v_covered) := hD
    refine lv_if_eq (tgt := 28) hx hb dX5_pieceOf_16 (by decide) (fun c16 => ?_) (fun c16 => ?_)
    · have hw := hw.1 c16
      refine lv_iconst (v := 0) hx hb dX5_pieceOf_28 (by decide) ?_
      exact RT 0 v_thrown_c13 _ _ _ _ dX5_pieceOf_29 hw hP hD hS
    · have hw := hw.2 c16
      refine lv_aload_n hx hb dX5_pieceOf_19 rfl (lv_at hl 0 rfl) ?_
      refine va_get (D := D) (ci := 6) (v := .ref (a 2)) (C := RX5) (T := TX5) (N := 24) hx hb hts iRX5 hown hK hP 0 rfl rfl 2 (by decide) (hts (.fieldLink RX5 13 "LeadlightModel" "of" "[I") (List.mem_of_getElem? (i := 1) rfl)) (fun _ h9 => h9) rfl dX5_pieceOf_20 ?_
      refine lv_iload_n hx hb dX5_pieceOf_23 rfl (lv_at hl 1 rfl) ?_
      obtain ⟨hi_24, hw⟩ := hw
      refine va_iald hx hb hK hP 1 0 rfl rfl hi_24 dX5_pieceOf_24 ?_
      refine lv_goto (tgt := 29) hx hb dX5_pieceOf_25 (by decide) ?_
      exact RT (v_of p1.toNatClampNeg) v_thrown_c13 _ _ _ _ dX5_pieceOf_29 hw hP hD hS
  refine lv_aload_n hx hb dX5_pieceOf_0 rfl (lv_at hl 0 rfl) ?_
  refine lv_iload_n hx hb dX5_pieceOf_1 rfl (lv_at hl 1 rfl) ?_
  refine af_i (X := (W_X5_pieceOf h a cI cJ cZ v_thrown v_made v_of v_heart v_width v_sheets v_covered)) (pl := []) (cx := ([] : va_W)) (w1 := fun (u : Unit) => ([] : va_W)) (X' := fun (u : Unit) => (W_X5_pieceOf h a cI cJ cZ v_thrown v_made v_of v_heart v_width v_sheets v_covered)) hP hD hS hA [] [0, 1] [0, 1] rfl rfl (by decide) (by decide) (fun u => rfl) (by decide) (va_runS (As := [.int p1]) (rest := [.ref h]) ⟨hx, hb, hml, hown, hts⟩ (c_X5_isCell l D cI cJ cZ cO H.size p1 _ hw) (va_cwS 1 hts gX5_pieceOf_X5_isCell rfl rfl rfl (by decide +kernel) ⟨Nat.le_of_ble_eq_true rfl, Nat.le_of_ble_eq_true rfl⟩) (preS (X := (W_X5_pieceOf h a cI cJ cZ v_thrown v_made v_of v_heart v_width v_sheets v_covered)) (pl := []) (cx := ([] : va_W)) hK hE hP hD [] (by decide) rfl) rfl rfl hl.1 rfl (lv_room (Nat.le_of_ble_eq_true rfl)) dX5_pieceOf_2 ⟨Nat.zero_le _, Nat.zero_le _⟩) (fun r_2 _ H locs hw hP hD hS => ?_)
  try dsimp only at hw
  have hP : va_P D vwCl (W_X5_pieceOf h a cI cJ cZ v_thrown v_made v_of v_heart v_width v_sheets v_covered) H := hP
  have hD : va_D A (W_X5_pieceOf h a cI cJ cZ v_thrown v_made v_of v_heart v_width v_sheets v_covered) := hD
  refine lv_if_eq (tgt := 12) hx hb dX5_pieceOf_5 (by decide) (fun c5 => ?_) (fun c5 => ?_)
  · have hw := hw.1 c5
    refine lv_iconst (v := 1) hx hb dX5_pieceOf_12 (by decide) ?_
    exact J13 1 hw _ _ ls hP hD hS (lv_sub hl [0, 1] rfl)
  · have hw := hw.2 c5
    refine lv_iconst (v := 0) hx hb dX5_pieceOf_8 (by decide) ?_
    refine lv_goto (tgt := 13) hx hb dX5_pieceOf_9 (by decide) ?_
    exact J13 0 hw _ _ ls hP hD hS (lv_sub hl [0, 1] rfl)
