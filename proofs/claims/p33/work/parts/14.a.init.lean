/-! constructors: rows of their own -/
def sq : List Nat → Nat → Nat
  | [], _ => 0
  | x :: _, 0 => x
  | _ :: t, k + 1 => sq t k
theorem ty_i {U : State} {cA cB : ClassId} (h1 : va_RA U cA .int) (h2 : va_RA U cB .int) : cA = cB := Option.some.inj (Eq.trans (Eq.symm h1) h2)
theorem ty_l {U : State} {cA cB : ClassId} (h1 : va_RA U cA .long) (h2 : va_RA U cB .long) : cA = cB := Option.some.inj (Eq.trans (Eq.symm h1) h2)
theorem ty_z {U : State} {cA cB : ClassId} (h1 : va_RA U cA .boolean) (h2 : va_RA U cB .boolean) : cA = cB := Option.some.inj (Eq.trans (Eq.symm h1) h2)
theorem ty_o {U : State} {C : String} {cA cB : ClassId} (h1 : va_RA U cA (.object C)) (h2 : va_RA U cB (.object C)) : cA = cB := by
  obtain ⟨_, _, _, _, _, e1⟩ := h1
  obtain ⟨_, _, _, _, _, e2⟩ := h2
  exact Option.some.inj (e1.symm.trans e2)
section NW
variable {p : Program} {l : Launch} {e : Env} {R : Room} {s : State} {m : MethodId} {args : Array Value} {below : List Frame} {meth : Method} {c : Code} {H : Heap} {locs : List Loc} {cells slots : Nat} {Q : State → Prop}
variable {D : va_G} {cI cJ cZ cO : ClassId} {A : Nat → Prop} {H0 : Heap} {ws : va_W} {cc : ByteArray} {pc : Nat} {ls : Array Slot} {rest : List Value}
theorem nw_i (hx : p.tables.exec = Jvm.exec) (hb : c.code = cc) (harr : (Cond.arrayClass .int).before args s = true) (hK : va_K D vwCl (TY cI cJ cZ cO) s) (hP : va_P D vwCl ws H) (hD : va_D A ws) (hS : va_S A H0 H locs) (hA : ∀ q, H0.size ≤ q → A q) {n : Int32} {N' : Nat} (hn : ¬ n < 0) (hN : n.toNatClampNeg = N') (hbytes : N' * componentBytes .int ≤ 536870912) (hcells : cells + 1 ≤ R.cells) (hslots : slots + N' ≤ R.slots) (hdg : decode cc pc = .ok (.newarray .int, 2))
    (kk : ∀ (q : Nat) (H1 : Heap), va_P D vwCl (ws ++ [(q, .inl (cI, N', .inl (fun _ => 0)))]) H1 → va_D A (ws ++ [(q, .inl (cI, N', .inl (fun _ => 0)))]) → va_S A H0 H1 locs → W p l e R s m args below meth c H1 locs (cells + 1) (slots + N') Q (F0 m (pc + 2) ls (.ref q :: rest))) : W p l e R s m args below meth c H locs cells slots Q (F0 m pc ls (.int n :: rest)) := by
  refine va_newa (atype := .int) (ty := .int) (a0 := (N', .inl (fun _ => 0))) hx hb harr rfl hK hP hD hS hA (fun _ => rfl) hn hN hbytes hcells hslots hdg (fun q cA H1 hK1 hP1 hD1 hS1 => ?_)
  have e : cA = cI := ty_i (hK1.2 4 _ rfl).2 (hK.2 0 _ rfl).2
  subst e
  exact kk q H1 hP1 hD1 hS1
theorem nw_l (hx : p.tables.exec = Jvm.exec) (hb : c.code = cc) (harr : (Cond.arrayClass .long).before args s = true) (hK : va_K D vwCl (TY cI cJ cZ cO) s) (hP : va_P D vwCl ws H) (hD : va_D A ws) (hS : va_S A H0 H locs) (hA : ∀ q, H0.size ≤ q → A q) {n : Int32} {N' : Nat} (hn : ¬ n < 0) (hN : n.toNatClampNeg = N') (hbytes : N' * componentBytes .long ≤ 536870912) (hcells : cells + 1 ≤ R.cells) (hslots : slots + N' ≤ R.slots) (hdg : decode cc pc = .ok (.newarray .long, 2))
    (kk : ∀ (q : Nat) (H1 : Heap), va_P D vwCl (ws ++ [(q, .inl (cJ, N', .inr (.inl (fun _ => 0))))]) H1 → va_D A (ws ++ [(q, .inl (cJ, N', .inr (.inl (fun _ => 0))))]) → va_S A H0 H1 locs → W p l e R s m args below meth c H1 locs (cells + 1) (slots + N') Q (F0 m (pc + 2) ls (.ref q :: rest))) : W p l e R s m args below meth c H locs cells slots Q (F0 m pc ls (.int n :: rest)) := by
  refine va_newa (atype := .long) (ty := .long) (a0 := (N', .inr (.inl (fun _ => 0)))) hx hb harr rfl hK hP hD hS hA (fun _ => rfl) hn hN hbytes hcells hslots hdg (fun q cA H1 hK1 hP1 hD1 hS1 => ?_)
  have e : cA = cJ := ty_l (hK1.2 4 _ rfl).2 (hK.2 1 _ rfl).2
  subst e
  exact kk q H1 hP1 hD1 hS1
end NW
abbrev WS (cI : ClassId) (h : Nat) (a : Nat → Nat) (r1 r2 : Nat → Int32) : va_W := [(h, .inr (4, [.ref (a 0), .ref (a 1)])), (a 0, .inl (cI, 16, .inl r1)), (a 1, .inl (cI, 16, .inl r2))]
abbrev rm_X3_init : Room := { frames := 1, cells := 2, slots := 32, locals := 12 }
set_option maxHeartbeats 4000000 in
set_option maxRecDepth 100000 in
theorem c_X3_init (l : Launch) (D : va_G) (cI cJ cZ cO : ClassId) (h : Nat) (sz : Nat) : Met l yX3_init wsX3_init rm_X3_init (va_Pc [.ref h] (PRE D cI cJ cZ cO [(h, .inr (4, [.null, .null]))] sz)) (va_Qv (fun (u : Nat → Nat) => True) (fun u t => POST D (va_A [(h, .inr (4, [.null, .null]))] sz) (WS cI h u (fun _ => 0) (fun _ => 0)) t) (va_A [(h, .inr (4, [.null, .null]))] sz)) 2 32 (va_A [(h, .inr (4, [.null, .null]))] sz) := by
  refine met_go (cc := cX3_init) (maxL := 1) (ret := none) RX3 rfl (by decide) rfl (Nat.le_of_ble_eq_true rfl) ?_
  intro p e s m args below meth c ls hx hb hr hts hown hlocks hin hml hsz hP hK hE hD hA hS hl
  have iRX3 : ∀ w ∈ u_ws RX3 TX3 2, w ∈ wsX3_init := mem_seg 7 2 rfl
  generalize va_A [(h, .inr (4, [.null, .null]))] sz = A at hD hA hS ⊢
  have hl : lv_has ls 1 [(0, .ref h)] := hl
  have hP : va_P D vwCl [(h, .inr (4, [.null, .null]))] s.heap := hP
  refine lv_aload_n hx hb dX3_init_0 rfl (lv_at hl 0 rfl) ?_
  refine W.objInit hx hb hown (hts (.methodLink RX3 3 objectInit) (List.mem_of_getElem? (i := 1) rfl)) (hts (.instanceMethod objectInit) (List.mem_of_getElem? (i := 2) rfl)) (hts (.code objectInit ⟨#[0xb1]⟩ 1 none) (List.mem_of_getElem? (i := 3) rfl)) rfl (by rw [hml]; exact hl.1) rfl dX3_init_1 (Nat.le_of_ble_eq_true rfl) (Nat.le_of_ble_eq_true rfl) ?_
  refine W.eq (g2 := F0 m 4 ls []) rfl ?_
  refine lv_aload_n hx hb dX3_init_4 rfl (lv_at hl 0 rfl) ?_
  refine lv_bipush (v := 16) hx hb dX3_init_5 (by decide) ?_
  refine nw_i (N' := 16) hx hb (hts (.arrayClass .int) (List.mem_of_getElem? (i := 4) rfl)) hK hP hD hS hA (by decide) (by decide) (Nat.le_of_ble_eq_true rfl) (Nat.le_of_ble_eq_true rfl) (Nat.le_of_ble_eq_true rfl) dX3_init_7 (fun q7 H hP hD hS => ?_)
  have hP : va_P D vwCl [(h, .inr (4, [.null, .null])), (q7, .inl (cI, 16, .inl (fun _ => 0)))] H := hP
  have hD : va_D A [(h, .inr (4, [.null, .null])), (q7, .inl (cI, 16, .inl (fun _ => 0)))] := hD
  refine W.widen (k := 1) (n := 16) (Nat.le_of_ble_eq_true rfl) (Nat.le_of_ble_eq_true rfl) ?_
  refine va_putF (D := D) (ci := 4) (v := .ref q7) (ty := .array .int) (C := RX3) (T := TX3) (N := 2) hx hb hts iRX3 tyX3 tyX3_ok nmX3 hown hK hP hD hS 0 rfl rfl 0 (by decide) (hts (.fieldLink RX3 9 "Leadlight$Shape" "rows" "[I") (List.mem_of_getElem? (i := 5) rfl)) (fun _ h9 => h9) rfl hin rfl (by decide +kernel) rfl rfl (Nat.le_of_ble_eq_true rfl) dX3_init_9 (fun H locs hP hD hS => ?_)
  have hP : va_P D vwCl [(h, .inr (4, [.ref q7, .null])), (q7, .inl (cI, 16, .inl (fun _ => 0)))] H := hP
  have hD : va_D A [(h, .inr (4, [.ref q7, .null])), (q7, .inl (cI, 16, .inl (fun _ => 0)))] := hD
  refine lv_aload_n hx hb dX3_init_12 rfl (lv_at hl 0 rfl) ?_
  refine lv_bipush (v := 16) hx hb dX3_init_13 (by decide) ?_
  refine nw_i (N' := 16) hx hb (hts (.arrayClass .int) (List.mem_of_getElem? (i := 4) rfl)) hK hP hD hS hA (by decide) (by decide) (Nat.le_of_ble_eq_true rfl) (Nat.le_of_ble_eq_true rfl) (Nat.le_of_ble_eq_true rfl) dX3_init_15 (fun q15 H hP hD hS => ?_)
  have hP : va_P D vwCl [(h, .inr (4, [.ref q7, .null])), (q7, .inl (cI, 16, .inl (fun _ => 0))), (q15, .inl (cI, 16, .inl (fun _ => 0)))] H := hP
  have hD : va_D A [(h, .inr (4, [.ref q7, .null])), (q7, .inl (cI, 16, .inl (fun _ => 0))), (q15, .inl (cI, 16, .inl (fun _ => 0)))] := hD
  refine W.widen (k := 2) (n := 32) (Nat.le_of_ble_eq_true rfl) (Nat.le_of_ble_eq_true rfl) ?_
  refine va_putF (D := D) (ci := 4) (v := .ref q15) (ty := .array .int) (C := RX3) (T := TX3) (N := 2) hx hb hts iRX3 tyX3 tyX3_ok nmX3 hown hK hP hD hS 0 rfl rfl 1 (by decide) (hts (.fieldLink RX3 15 "Leadlight$Shape" "reached" "[I") (List.mem_of_getElem? (i := 6) rfl)) (fun _ h9 => h9) rfl hin rfl (by decide +kernel) rfl rfl (Nat.le_of_ble_eq_true rfl) dX3_init_17 (fun H locs hP hD hS => ?_)
  have hP : va_P D vwCl [(h, .inr (4, [.ref q7, .ref q15])), (q7, .inl (cI, 16, .inl (fun _ => 0))), (q15, .inl (cI, 16, .inl (fun _ => 0)))] H := hP
  have hD : va_D A [(h, .inr (4, [.ref q7, .ref q15])), (q7, .inl (cI, 16, .inl (fun _ => 0))), (q15, .inl (cI, 16, .inl (fun _ => 0)))] := hD
  refine W.widen (k := 2) (n := 32) (Nat.le_of_ble_eq_true rfl) (Nat.le_of_ble_eq_true rfl) ?_
  exact rt_v (S := Nat → Nat) (post := fun u => True) (Wf := fun u => (WS cI h u (fun _ => 0) (fun _ => 0))) (sq [q7, q15]) hx hb hr hlocks trivial hP hD hS dX3_init_20
abbrev WC (cI cJ : ClassId) (h : Nat) (a : Nat → Nat) (o : Nat → Int32) (f : Nat → Int64) : va_W := [(h, .inr (1, [.ref (a 0), .ref (a 1)])), (a 0, .inl (cI, 256, .inl o)), (a 1, .inl (cJ, 60, .inr (.inl f)))]
abbrev rm_X0_init : Room := { frames := 1, cells := 2, slots := 316, locals := 12 }
set_option maxHeartbeats 4000000 in
set_option maxRecDepth 100000 in
theorem c_X0_init (l : Launch) (D : va_G) (cI cJ cZ cO : ClassId) (h : Nat) (sz : Nat) : Met l yX0_init wsX0_init rm_X0_init (va_Pc [.ref h] (PRE D cI cJ cZ cO [(h, .inr (1, [.null, .null]))] sz)) (va_Qv (fun (u : Nat → Nat) => True) (fun u t => POST D (va_A [(h, .inr (1, [.null, .null]))] sz) (WC cI cJ h u (fun _ => 0) (fun _ => 0)) t) (va_A [(h, .inr (1, [.null, .null]))] sz)) 2 316 (va_A [(h, .inr (1, [.null, .null]))] sz) := by
  refine met_go (cc := cX0_init) (maxL := 1) (ret := none) RX0 rfl (by decide) rfl (Nat.le_of_ble_eq_true rfl) ?_
  intro p e s m args below meth c ls hx hb hr hts hown hlocks hin hml hsz hP hK hE hD hA hS hl
  have iRX0 : ∀ w ∈ u_ws RX0 TX0 2, w ∈ wsX0_init := mem_seg 8 2 rfl
  generalize va_A [(h, .inr (1, [.null, .null]))] sz = A at hD hA hS ⊢
  have hl : lv_has ls 1 [(0, .ref h)] := hl
  have hP : va_P D vwCl [(h, .inr (1, [.null, .null]))] s.heap := hP
  refine lv_aload_n hx hb dX0_init_0 rfl (lv_at hl 0 rfl) ?_
  refine W.objInit hx hb hown (hts (.methodLink RX0 3 objectInit) (List.mem_of_getElem? (i := 1) rfl)) (hts (.instanceMethod objectInit) (List.mem_of_getElem? (i := 2) rfl)) (hts (.code objectInit ⟨#[0xb1]⟩ 1 none) (List.mem_of_getElem? (i := 3) rfl)) rfl (by rw [hml]; exact hl.1) rfl dX0_init_1 (Nat.le_of_ble_eq_true rfl) (Nat.le_of_ble_eq_true rfl) ?_
  refine W.eq (g2 := F0 m 4 ls []) rfl ?_
  refine lv_aload_n hx hb dX0_init_4 rfl (lv_at hl 0 rfl) ?_
  refine lv_sipush (v := 256) hx hb dX0_init_5 (by decide) ?_
  refine nw_i (N' := 256) hx hb (hts (.arrayClass .int) (List.mem_of_getElem? (i := 4) rfl)) hK hP hD hS hA (by decide) (by decide) (Nat.le_of_ble_eq_true rfl) (Nat.le_of_ble_eq_true rfl) (Nat.le_of_ble_eq_true rfl) dX0_init_8 (fun q8 H hP hD hS => ?_)
  have hP : va_P D vwCl [(h, .inr (1, [.null, .null])), (q8, .inl (cI, 256, .inl (fun _ => 0)))] H := hP
  have hD : va_D A [(h, .inr (1, [.null, .null])), (q8, .inl (cI, 256, .inl (fun _ => 0)))] := hD
  refine W.widen (k := 1) (n := 256) (Nat.le_of_ble_eq_true rfl) (Nat.le_of_ble_eq_true rfl) ?_
  refine va_putF (D := D) (ci := 1) (v := .ref q8) (ty := .array .int) (C := RX0) (T := TX0) (N := 2) hx hb hts iRX0 tyX0 tyX0_ok nmX0 hown hK hP hD hS 0 rfl rfl 0 (by decide) (hts (.fieldLink RX0 9 "Leadlight$Cartoon" "owners" "[I") (List.mem_of_getElem? (i := 5) rfl)) (fun _ h9 => h9) rfl hin rfl (by decide +kernel) rfl rfl (Nat.le_of_ble_eq_true rfl) dX0_init_10 (fun H locs hP hD hS => ?_)
  have hP : va_P D vwCl [(h, .inr (1, [.ref q8, .null])), (q8, .inl (cI, 256, .inl (fun _ => 0)))] H := hP
  have hD : va_D A [(h, .inr (1, [.ref q8, .null])), (q8, .inl (cI, 256, .inl (fun _ => 0)))] := hD
  refine lv_aload_n hx hb dX0_init_13 rfl (lv_at hl 0 rfl) ?_
  refine lv_bipush (v := 60) hx hb dX0_init_14 (by decide) ?_
  refine nw_l (N' := 60) hx hb (hts (.arrayClass .long) (List.mem_of_getElem? (i := 6) rfl)) hK hP hD hS hA (by decide) (by decide) (Nat.le_of_ble_eq_true rfl) (Nat.le_of_ble_eq_true rfl) (Nat.le_of_ble_eq_true rfl) dX0_init_16 (fun q16 H hP hD hS => ?_)
  have hP : va_P D vwCl [(h, .inr (1, [.ref q8, .null])), (q8, .inl (cI, 256, .inl (fun _ => 0))), (q16, .inl (cJ, 60, .inr (.inl (fun _ => 0))))] H := hP
  have hD : va_D A [(h, .inr (1, [.ref q8, .null])), (q8, .inl (cI, 256, .inl (fun _ => 0))), (q16, .inl (cJ, 60, .inr (.inl (fun _ => 0))))] := hD
  refine W.widen (k := 2) (n := 316) (Nat.le_of_ble_eq_true rfl) (Nat.le_of_ble_eq_true rfl) ?_
  refine va_putF (D := D) (ci := 1) (v := .ref q16) (ty := .array .long) (C := RX0) (T := TX0) (N := 2) hx hb hts iRX0 tyX0 tyX0_ok nmX0 hown hK hP hD hS 0 rfl rfl 1 (by decide) (hts (.fieldLink RX0 15 "Leadlight$Cartoon" "supports" "[J") (List.mem_of_getElem? (i := 7) rfl)) (fun _ h9 => h9) rfl hin rfl (by decide +kernel) rfl rfl (Nat.le_of_ble_eq_true rfl) dX0_init_18 (fun H locs hP hD hS => ?_)
  have hP : va_P D vwCl [(h, .inr (1, [.ref q8, .ref q16])), (q8, .inl (cI, 256, .inl (fun _ => 0))), (q16, .inl (cJ, 60, .inr (.inl (fun _ => 0))))] H := hP
  have hD : va_D A [(h, .inr (1, [.ref q8, .ref q16])), (q8, .inl (cI, 256, .inl (fun _ => 0))), (q16, .inl (cJ, 60, .inr (.inl (fun _ => 0))))] := hD
  refine W.widen (k := 2) (n := 316) (Nat.le_of_ble_eq_true rfl) (Nat.le_of_ble_eq_true rfl) ?_
  exact rt_v (S := Nat → Nat) (post := fun u => True) (Wf := fun u => (WC cI cJ h u (fun _ => 0) (fun _ => 0))) (sq [q8, q16]) hx hb hr hlocks trivial hP hD hS dX0_init_21
abbrev WY (cI : ClassId) (h : Nat) (a : Nat → Nat) (f1 f2 f3 f4 : Nat → Int32) (x1 x2 x3 x4 x5 : Int32) : va_W := [(h, .inr (2, [.ref (a 0), .ref (a 1), .ref (a 2), .ref (a 3), .int x1, .int x2, .int x3, .int x4, .int x5])), (a 0, .inl (cI, 60, .inl f1)), (a 1, .inl (cI, 60, .inl f2)), (a 2, .inl (cI, 60, .inl f3)), (a 3, .inl (cI, 60, .inl f4))]
abbrev rm_X1_init : Room := { frames := 1, cells := 4, slots := 240, locals := 12 }
set_option maxHeartbeats 4000000 in
set_option maxRecDepth 100000 in
theorem c_X1_init (l : Launch) (D : va_G) (cI cJ cZ cO : ClassId) (h : Nat) (sz : Nat) : Met l yX1_init wsX1_init rm_X1_init (va_Pc [.ref h] (PRE D cI cJ cZ cO [(h, .inr (2, [.null, .null, .null, .null, .int 0, .int 0, .int 0, .int 0, .int 0]))] sz)) (va_Qv (fun (u : Nat → Nat) => True) (fun u t => POST D (va_A [(h, .inr (2, [.null, .null, .null, .null, .int 0, .int 0, .int 0, .int 0, .int 0]))] sz) (WY cI h u (fun _ => 0) (fun _ => 0) (fun _ => 0) (fun _ => 0) 0 0 0 0 0) t) (va_A [(h, .inr (2, [.null, .null, .null, .null, .int 0, .int 0, .int 0, .int 0, .int 0]))] sz)) 4 240 (va_A [(h, .inr (2, [.null, .null, .null, .null, .int 0, .int 0, .int 0, .int 0, .int 0]))] sz) := by
  refine met_go (cc := cX1_init) (maxL := 1) (ret := none) RX1 rfl (by decide) rfl (Nat.le_of_ble_eq_true rfl) ?_
  intro p e s m args below meth c ls hx hb hr hts hown hlocks hin hml hsz hP hK hE hD hA hS hl
  have iRX1 : ∀ w ∈ u_ws RX1 TX1 9, w ∈ wsX1_init := mem_seg 9 9 rfl
  generalize va_A [(h, .inr (2, [.null, .null, .null, .null, .int 0, .int 0, .int 0, .int 0, .int 0]))] sz = A at hD hA hS ⊢
  have hl : lv_has ls 1 [(0, .ref h)] := hl
  have hP : va_P D vwCl [(h, .inr (2, [.null, .null, .null, .null, .int 0, .int 0, .int 0, .int 0, .int 0]))] s.heap := hP
  refine lv_aload_n hx hb dX1_init_0 rfl (lv_at hl 0 rfl) ?_
  refine W.objInit hx hb hown (hts (.methodLink RX1 3 objectInit) (List.mem_of_getElem? (i := 1) rfl)) (hts (.instanceMethod objectInit) (List.mem_of_getElem? (i := 2) rfl)) (hts (.code objectInit ⟨#[0xb1]⟩ 1 none) (List.mem_of_getElem? (i := 3) rfl)) rfl (by rw [hml]; exact hl.1) rfl dX1_init_1 (Nat.le_of_ble_eq_true rfl) (Nat.le_of_ble_eq_true rfl) ?_
  refine W.eq (g2 := F0 m 4 ls []) rfl ?_
  refine lv_aload_n hx hb dX1_init_4 rfl (lv_at hl 0 rfl) ?_
  refine lv_bipush (v := 60) hx hb dX1_init_5 (by decide) ?_
  refine nw_i (N' := 60) hx hb (hts (.arrayClass .int) (List.mem_of_getElem? (i := 4) rfl)) hK hP hD hS hA (by decide) (by decide) (Nat.le_of_ble_eq_true rfl) (Nat.le_of_ble_eq_true rfl) (Nat.le_of_ble_eq_true rfl) dX1_init_7 (fun q7 H hP hD hS => ?_)
  have hP : va_P D vwCl [(h, .inr (2, [.null, .null, .null, .null, .int 0, .int 0, .int 0, .int 0, .int 0])), (q7, .inl (cI, 60, .inl (fun _ => 0)))] H := hP
  have hD : va_D A [(h, .inr (2, [.null, .null, .null, .null, .int 0, .int 0, .int 0, .int 0, .int 0])), (q7, .inl (cI, 60, .inl (fun _ => 0)))] := hD
  refine W.widen (k := 1) (n := 60) (Nat.le_of_ble_eq_true rfl) (Nat.le_of_ble_eq_true rfl) ?_
  refine va_putF (D := D) (ci := 2) (v := .ref q7) (ty := .array .int) (C := RX1) (T := TX1) (N := 9) hx hb hts iRX1 tyX1 tyX1_ok nmX1 hown hK hP hD hS 0 rfl rfl 0 (by decide) (hts (.fieldLink RX1 9 "Leadlight$Laying" "queue" "[I") (List.mem_of_getElem? (i := 5) rfl)) (fun _ h9 => h9) rfl hin rfl (by decide +kernel) rfl rfl (Nat.le_of_ble_eq_true rfl) dX1_init_9 (fun H locs hP hD hS => ?_)
  have hP : va_P D vwCl [(h, .inr (2, [.ref q7, .null, .null, .null, .int 0, .int 0, .int 0, .int 0, .int 0])), (q7, .inl (cI, 60, .inl (fun _ => 0)))] H := hP
  have hD : va_D A [(h, .inr (2, [.ref q7, .null, .null, .null, .int 0, .int 0, .int 0, .int 0, .int 0])), (q7, .inl (cI, 60, .inl (fun _ => 0)))] := hD
  refine lv_aload_n hx hb dX1_init_12 rfl (lv_at hl 0 rfl) ?_
  refine lv_bipush (v := 60) hx hb dX1_init_13 (by decide) ?_
  refine nw_i (N' := 60) hx hb (hts (.arrayClass .int) (List.mem_of_getElem? (i := 4) rfl)) hK hP hD hS hA (by decide) (by decide) (Nat.le_of_ble_eq_true rfl) (Nat.le_of_ble_eq_true rfl) (Nat.le_of_ble_eq_true rfl) dX1_init_15 (fun q15 H hP hD hS => ?_)
  have hP : va_P D vwCl [(h, .inr (2, [.ref q7, .null, .null, .null, .int 0, .int 0, .int 0, .int 0, .int 0])), (q7, .inl (cI, 60, .inl (fun _ => 0))), (q15, .inl (cI, 60, .inl (fun _ => 0)))] H := hP
  have hD : va_D A [(h, .inr (2, [.ref q7, .null, .null, .null, .int 0, .int 0, .int 0, .int 0, .int 0])), (q7, .inl (cI, 60, .inl (fun _ => 0))), (q15, .inl (cI, 60, .inl (fun _ => 0)))] := hD
  refine W.widen (k := 2) (n := 120) (Nat.le_of_ble_eq_true rfl) (Nat.le_of_ble_eq_true rfl) ?_
  refine va_putF (D := D) (ci := 2) (v := .ref q15) (ty := .array .int) (C := RX1) (T := TX1) (N := 9) hx hb hts iRX1 tyX1 tyX1_ok nmX1 hown hK hP hD hS 0 rfl rfl 1 (by decide) (hts (.fieldLink RX1 15 "Leadlight$Laying" "heights" "[I") (List.mem_of_getElem? (i := 6) rfl)) (fun _ h9 => h9) rfl hin rfl (by decide +kernel) rfl rfl (Nat.le_of_ble_eq_true rfl) dX1_init_17 (fun H locs hP hD hS => ?_)
  have hP : va_P D vwCl [(h, .inr (2, [.ref q7, .ref q15, .null, .null, .int 0, .int 0, .int 0, .int 0, .int 0])), (q7, .inl (cI, 60, .inl (fun _ => 0))), (q15, .inl (cI, 60, .inl (fun _ => 0)))] H := hP
  have hD : va_D A [(h, .inr (2, [.ref q7, .ref q15, .null, .null, .int 0, .int 0, .int 0, .int 0, .int 0])), (q7, .inl (cI, 60, .inl (fun _ => 0))), (q15, .inl (cI, 60, .inl (fun _ => 0)))] := hD
  refine lv_aload_n hx hb dX1_init_20 rfl (lv_at hl 0 rfl) ?_
  refine lv_bipush (v := 60) hx hb dX1_init_21 (by decide) ?_
  refine nw_i (N' := 60) hx hb (hts (.arrayClass .int) (List.mem_of_getElem? (i := 4) rfl)) hK hP hD hS hA (by decide) (by decide) (Nat.le_of_ble_eq_true rfl) (Nat.le_of_ble_eq_true rfl) (Nat.le_of_ble_eq_true rfl) dX1_init_23 (fun q23 H hP hD hS => ?_)
  have hP : va_P D vwCl [(h, .inr (2, [.ref q7, .ref q15, .null, .null, .int 0, .int 0, .int 0, .int 0, .int 0])), (q7, .inl (cI, 60, .inl (fun _ => 0))), (q15, .inl (cI, 60, .inl (fun _ => 0))), (q23, .inl (cI, 60, .inl (fun _ => 0)))] H := hP
  have hD : va_D A [(h, .inr (2, [.ref q7, .ref q15, .null, .null, .int 0, .int 0, .int 0, .int 0, .int 0])), (q7, .inl (cI, 60, .inl (fun _ => 0))), (q15, .inl (cI, 60, .inl (fun _ => 0))), (q23, .inl (cI, 60, .inl (fun _ => 0)))] := hD
  refine W.widen (k := 3) (n := 180) (Nat.le_of_ble_eq_true rfl) (Nat.le_of_ble_eq_true rfl) ?_
  refine va_putF (D := D) (ci := 2) (v := .ref q23) (ty := .array .int) (C := RX1) (T := TX1) (N := 9) hx hb hts iRX1 tyX1 tyX1_ok nmX1 hown hK hP hD hS 0 rfl rfl 2 (by decide) (hts (.fieldLink RX1 18 "Leadlight$Laying" "widths" "[I") (List.mem_of_getElem? (i := 7) rfl)) (fun _ h9 => h9) rfl hin rfl (by decide +kernel) rfl rfl (Nat.le_of_ble_eq_true rfl) dX1_init_25 (fun H locs hP hD hS => ?_)
  have hP : va_P D vwCl [(h, .inr (2, [.ref q7, .ref q15, .ref q23, .null, .int 0, .int 0, .int 0, .int 0, .int 0])), (q7, .inl (cI, 60, .inl (fun _ => 0))), (q15, .inl (cI, 60, .inl (fun _ => 0))), (q23, .inl (cI, 60, .inl (fun _ => 0)))] H := hP
  have hD : va_D A [(h, .inr (2, [.ref q7, .ref q15, .ref q23, .null, .int 0, .int 0, .int 0, .int 0, .int 0])), (q7, .inl (cI, 60, .inl (fun _ => 0))), (q15, .inl (cI, 60, .inl (fun _ => 0))), (q23, .inl (cI, 60, .inl (fun _ => 0)))] := hD
  refine lv_aload_n hx hb dX1_init_28 rfl (lv_at hl 0 rfl) ?_
  refine lv_bipush (v := 60) hx hb dX1_init_29 (by decide) ?_
  refine nw_i (N' := 60) hx hb (hts (.arrayClass .int) (List.mem_of_getElem? (i := 4) rfl)) hK hP hD hS hA (by decide) (by decide) (Nat.le_of_ble_eq_true rfl) (Nat.le_of_ble_eq_true rfl) (Nat.le_of_ble_eq_true rfl) dX1_init_31 (fun q31 H hP hD hS => ?_)
  have hP : va_P D vwCl [(h, .inr (2, [.ref q7, .ref q15, .ref q23, .null, .int 0, .int 0, .int 0, .int 0, .int 0])), (q7, .inl (cI, 60, .inl (fun _ => 0))), (q15, .inl (cI, 60, .inl (fun _ => 0))), (q23, .inl (cI, 60, .inl (fun _ => 0))), (q31, .inl (cI, 60, .inl (fun _ => 0)))] H := hP
  have hD : va_D A [(h, .inr (2, [.ref q7, .ref q15, .ref q23, .null, .int 0, .int 0, .int 0, .int 0, .int 0])), (q7, .inl (cI, 60, .inl (fun _ => 0))), (q15, .inl (cI, 60, .inl (fun _ => 0))), (q23, .inl (cI, 60, .inl (fun _ => 0))), (q31, .inl (cI, 60, .inl (fun _ => 0)))] := hD
  refine W.widen (k := 4) (n := 240) (Nat.le_of_ble_eq_true rfl) (Nat.le_of_ble_eq_true rfl) ?_
  refine va_putF (D := D) (ci := 2) (v := .ref q31) (ty := .array .int) (C := RX1) (T := TX1) (N := 9) hx hb hts iRX1 tyX1 tyX1_ok nmX1 hown hK hP hD hS 0 rfl rfl 3 (by decide) (hts (.fieldLink RX1 21 "Leadlight$Laying" "spots" "[I") (List.mem_of_getElem? (i := 8) rfl)) (fun _ h9 => h9) rfl hin rfl (by decide +kernel) rfl rfl (Nat.le_of_ble_eq_true rfl) dX1_init_33 (fun H locs hP hD hS => ?_)
  have hP : va_P D vwCl [(h, .inr (2, [.ref q7, .ref q15, .ref q23, .ref q31, .int 0, .int 0, .int 0, .int 0, .int 0])), (q7, .inl (cI, 60, .inl (fun _ => 0))), (q15, .inl (cI, 60, .inl (fun _ => 0))), (q23, .inl (cI, 60, .inl (fun _ => 0))), (q31, .inl (cI, 60, .inl (fun _ => 0)))] H := hP
  have hD : va_D A [(h, .inr (2, [.ref q7, .ref q15, .ref q23, .ref q31, .int 0, .int 0, .int 0, .int 0, .int 0])), (q7, .inl (cI, 60, .inl (fun _ => 0))), (q15, .inl (cI, 60, .inl (fun _ => 0))), (q23, .inl (cI, 60, .inl (fun _ => 0))), (q31, .inl (cI, 60, .inl (fun _ => 0)))] := hD
  refine W.widen (k := 4) (n := 240) (Nat.le_of_ble_eq_true rfl) (Nat.le_of_ble_eq_true rfl) ?_
  exact rt_v (S := Nat → Nat) (post := fun u => True) (Wf := fun u => (WY cI h u (fun _ => 0) (fun _ => 0) (fun _ => 0) (fun _ => 0) 0 0 0 0 0)) (sq [q7, q15, q23, q31, 0, 0, 0, 0, 0]) hx hb hr hlocks trivial hP hD hS dX1_init_36
theorem note_new : wp_X2_note (fun _ => 0) 0 1 (fun th c => th = upd (fun _ => 0) 0 1 ∧ c = 1) := by
  unfold wp_X2_note
  refine ⟨fun z => absurd z (by decide), fun _ => ⟨fun z => absurd z (by decide), fun _ => ⟨by unfold vp_in; decide, ?_⟩⟩⟩
  rintro _ rfl _ rfl
  exact ⟨rfl, rfl⟩
abbrev WP (cI : ClassId) (h : Nat) (a : Nat → Nat) (colour state layers cn org : Int32) (he fi th : Nat → Int32) : va_W := [(h, .inr (3, [.ref (a 0), .ref (a 1), .ref (a 2), .int colour, .int state, .int layers, .int cn, .int org])), (a 0, .inl (cI, 5, .inl he)), (a 1, .inl (cI, 5, .inl fi)), (a 2, .inl (cI, 20, .inl th))]
abbrev rm_X2_init : Room := { frames := 1, cells := 3, slots := 30, locals := 21 }
set_option maxHeartbeats 4000000 in
set_option maxRecDepth 100000 in
theorem c_X2_init (l : Launch) (D : va_G) (cI cJ cZ cO : ClassId) (h : Nat) (sz : Nat) (p1 : Int32) : Met l yX2_init wsX2_init rm_X2_init (va_Pc [.ref h, .int p1] (PRE D cI cJ cZ cO [(h, .inr (3, [.null, .null, .null, .int 0, .int 0, .int 0, .int 0, .int 0]))] sz)) (va_Qv (fun (u : Nat → Nat) => True) (fun u t => POST D (va_A [(h, .inr (3, [.null, .null, .null, .int 0, .int 0, .int 0, .int 0, .int 0]))] sz) (WP cI h u p1 0 0 1 0 (fun _ => 0) (fun _ => 0) (upd (fun _ => 0) 0 1)) t) (va_A [(h, .inr (3, [.null, .null, .null, .int 0, .int 0, .int 0, .int 0, .int 0]))] sz)) 3 30 (va_A [(h, .inr (3, [.null, .null, .null, .int 0, .int 0, .int 0, .int 0, .int 0]))] sz) := by
  refine met_go (cc := cX2_init) (maxL := 2) (ret := none) RX2 rfl (by decide) rfl (Nat.le_of_ble_eq_true rfl) ?_
  intro p e s m args below meth c ls hx hb hr hts hown hlocks hin hml hsz hP hK hE hD hA hS hl
  have iRX2 : ∀ w ∈ u_ws RX2 TX2 8, w ∈ wsX2_init := mem_seg 18 8 rfl
  generalize va_A [(h, .inr (3, [.null, .null, .null, .int 0, .int 0, .int 0, .int 0, .int 0]))] sz = A at hD hA hS ⊢
  have hl : lv_has ls 2 [(0, .ref h), (1, .int p1)] := hl
  have hP : va_P D vwCl [(h, .inr (3, [.null, .null, .null, .int 0, .int 0, .int 0, .int 0, .int 0]))] s.heap := hP
  refine lv_aload_n hx hb dX2_init_0 rfl (lv_at hl 0 rfl) ?_
  refine W.objInit hx hb hown (hts (.methodLink RX2 3 objectInit) (List.mem_of_getElem? (i := 1) rfl)) (hts (.instanceMethod objectInit) (List.mem_of_getElem? (i := 2) rfl)) (hts (.code objectInit ⟨#[0xb1]⟩ 1 none) (List.mem_of_getElem? (i := 3) rfl)) rfl (by rw [hml]; exact hl.1) rfl dX2_init_1 (Nat.le_of_ble_eq_true rfl) (Nat.le_of_ble_eq_true rfl) ?_
  refine W.eq (g2 := F0 m 4 ls []) rfl ?_
  refine lv_aload_n hx hb dX2_init_4 rfl (lv_at hl 0 rfl) ?_
  refine lv_iconst (v := 5) hx hb dX2_init_5 (by decide) ?_
  refine nw_i (N' := 5) hx hb (hts (.arrayClass .int) (List.mem_of_getElem? (i := 4) rfl)) hK hP hD hS hA (by decide) (by decide) (Nat.le_of_ble_eq_true rfl) (Nat.le_of_ble_eq_true rfl) (Nat.le_of_ble_eq_true rfl) dX2_init_6 (fun q6 H hP hD hS => ?_)
  have hP : va_P D vwCl [(h, .inr (3, [.null, .null, .null, .int 0, .int 0, .int 0, .int 0, .int 0])), (q6, .inl (cI, 5, .inl (fun _ => 0)))] H := hP
  have hD : va_D A [(h, .inr (3, [.null, .null, .null, .int 0, .int 0, .int 0, .int 0, .int 0])), (q6, .inl (cI, 5, .inl (fun _ => 0)))] := hD
  refine W.widen (k := 1) (n := 5) (Nat.le_of_ble_eq_true rfl) (Nat.le_of_ble_eq_true rfl) ?_
  refine va_putF (D := D) (ci := 3) (v := .ref q6) (ty := .array .int) (C := RX2) (T := TX2) (N := 8) hx hb hts iRX2 tyX2 tyX2_ok nmX2 hown hK hP hD hS 0 rfl rfl 0 (by decide) (hts (.fieldLink RX2 9 "Leadlight$Piece" "heats" "[I") (List.mem_of_getElem? (i := 5) rfl)) (fun _ h9 => h9) rfl hin rfl (by decide +kernel) rfl rfl (Nat.le_of_ble_eq_true rfl) dX2_init_8 (fun H locs hP hD hS => ?_)
  have hP : va_P D vwCl [(h, .inr (3, [.ref q6, .null, .null, .int 0, .int 0, .int 0, .int 0, .int 0])), (q6, .inl (cI, 5, .inl (fun _ => 0)))] H := hP
  have hD : va_D A [(h, .inr (3, [.ref q6, .null, .null, .int 0, .int 0, .int 0, .int 0, .int 0])), (q6, .inl (cI, 5, .inl (fun _ => 0)))] := hD
  refine lv_aload_n hx hb dX2_init_11 rfl (lv_at hl 0 rfl) ?_
  refine lv_iconst (v := 5) hx hb dX2_init_12 (by decide) ?_
  refine nw_i (N' := 5) hx hb (hts (.arrayClass .int) (List.mem_of_getElem? (i := 4) rfl)) hK hP hD hS hA (by decide) (by decide) (Nat.le_of_ble_eq_true rfl) (Nat.le_of_ble_eq_true rfl) (Nat.le_of_ble_eq_true rfl) dX2_init_13 (fun q13 H hP hD hS => ?_)
  have hP : va_P D vwCl [(h, .inr (3, [.ref q6, .null, .null, .int 0, .int 0, .int 0, .int 0, .int 0])), (q6, .inl (cI, 5, .inl (fun _ => 0))), (q13, .inl (cI, 5, .inl (fun _ => 0)))] H := hP
  have hD : va_D A [(h, .inr (3, [.ref q6, .null, .null, .int 0, .int 0, .int 0, .int 0, .int 0])), (q6, .inl (cI, 5, .inl (fun _ => 0))), (q13, .inl (cI, 5, .inl (fun _ => 0)))] := hD
  refine W.widen (k := 2) (n := 10) (Nat.le_of_ble_eq_true rfl) (Nat.le_of_ble_eq_true rfl) ?_
  refine va_putF (D := D) (ci := 3) (v := .ref q13) (ty := .array .int) (C := RX2) (T := TX2) (N := 8) hx hb hts iRX2 tyX2 tyX2_ok nmX2 hown hK hP hD hS 0 rfl rfl 1 (by decide) (hts (.fieldLink RX2 15 "Leadlight$Piece" "firings" "[I") (List.mem_of_getElem? (i := 6) rfl)) (fun _ h9 => h9) rfl hin rfl (by decide +kernel) rfl rfl (Nat.le_of_ble_eq_true rfl) dX2_init_15 (fun H locs hP hD hS => ?_)
  have hP : va_P D vwCl [(h, .inr (3, [.ref q6, .ref q13, .null, .int 0, .int 0, .int 0, .int 0, .int 0])), (q6, .inl (cI, 5, .inl (fun _ => 0))), (q13, .inl (cI, 5, .inl (fun _ => 0)))] H := hP
  have hD : va_D A [(h, .inr (3, [.ref q6, .ref q13, .null, .int 0, .int 0, .int 0, .int 0, .int 0])), (q6, .inl (cI, 5, .inl (fun _ => 0))), (q13, .inl (cI, 5, .inl (fun _ => 0)))] := hD
  refine lv_aload_n hx hb dX2_init_18 rfl (lv_at hl 0 rfl) ?_
  refine lv_bipush (v := 20) hx hb dX2_init_19 (by decide) ?_
  refine nw_i (N' := 20) hx hb (hts (.arrayClass .int) (List.mem_of_getElem? (i := 4) rfl)) hK hP hD hS hA (by decide) (by decide) (Nat.le_of_ble_eq_true rfl) (Nat.le_of_ble_eq_true rfl) (Nat.le_of_ble_eq_true rfl) dX2_init_21 (fun q21 H hP hD hS => ?_)
  have hP : va_P D vwCl [(h, .inr (3, [.ref q6, .ref q13, .null, .int 0, .int 0, .int 0, .int 0, .int 0])), (q6, .inl (cI, 5, .inl (fun _ => 0))), (q13, .inl (cI, 5, .inl (fun _ => 0))), (q21, .inl (cI, 20, .inl (fun _ => 0)))] H := hP
  have hD : va_D A [(h, .inr (3, [.ref q6, .ref q13, .null, .int 0, .int 0, .int 0, .int 0, .int 0])), (q6, .inl (cI, 5, .inl (fun _ => 0))), (q13, .inl (cI, 5, .inl (fun _ => 0))), (q21, .inl (cI, 20, .inl (fun _ => 0)))] := hD
  refine W.widen (k := 3) (n := 30) (Nat.le_of_ble_eq_true rfl) (Nat.le_of_ble_eq_true rfl) ?_
  refine va_putF (D := D) (ci := 3) (v := .ref q21) (ty := .array .int) (C := RX2) (T := TX2) (N := 8) hx hb hts iRX2 tyX2 tyX2_ok nmX2 hown hK hP hD hS 0 rfl rfl 2 (by decide) (hts (.fieldLink RX2 18 "Leadlight$Piece" "things" "[I") (List.mem_of_getElem? (i := 7) rfl)) (fun _ h9 => h9) rfl hin rfl (by decide +kernel) rfl rfl (Nat.le_of_ble_eq_true rfl) dX2_init_23 (fun H locs hP hD hS => ?_)
  have hP : va_P D vwCl [(h, .inr (3, [.ref q6, .ref q13, .ref q21, .int 0, .int 0, .int 0, .int 0, .int 0])), (q6, .inl (cI, 5, .inl (fun _ => 0))), (q13, .inl (cI, 5, .inl (fun _ => 0))), (q21, .inl (cI, 20, .inl (fun _ => 0)))] H := hP
  have hD : va_D A [(h, .inr (3, [.ref q6, .ref q13, .ref q21, .int 0, .int 0, .int 0, .int 0, .int 0])), (q6, .inl (cI, 5, .inl (fun _ => 0))), (q13, .inl (cI, 5, .inl (fun _ => 0))), (q21, .inl (cI, 20, .inl (fun _ => 0)))] := hD
  refine lv_aload_n hx hb dX2_init_26 rfl (lv_at hl 0 rfl) ?_
  refine lv_iconst (v := 0) hx hb dX2_init_27 (by decide) ?_
  refine va_put (D := D) (ci := 3) (v := .int 0) (ty := .int) (C := RX2) (T := TX2) (N := 8) hx hb hts iRX2 tyX2 tyX2_ok nmX2 hown hK hP hD hS 0 rfl rfl 4 (by decide) (hts (.fieldLink RX2 21 "Leadlight$Piece" "state" "I") (List.mem_of_getElem? (i := 8) rfl)) (fun _ h9 => h9) rfl (by decide +kernel) rfl rfl (Nat.le_of_ble_eq_true rfl) dX2_init_28 (fun H locs hP hD hS => ?_)
  have hP : va_P D vwCl [(h, .inr (3, [.ref q6, .ref q13, .ref q21, .int 0, .int 0, .int 0, .int 0, .int 0])), (q6, .inl (cI, 5, .inl (fun _ => 0))), (q13, .inl (cI, 5, .inl (fun _ => 0))), (q21, .inl (cI, 20, .inl (fun _ => 0)))] H := hP
  have hD : va_D A [(h, .inr (3, [.ref q6, .ref q13, .ref q21, .int 0, .int 0, .int 0, .int 0, .int 0])), (q6, .inl (cI, 5, .inl (fun _ => 0))), (q13, .inl (cI, 5, .inl (fun _ => 0))), (q21, .inl (cI, 20, .inl (fun _ => 0)))] := hD
  refine lv_aload_n hx hb dX2_init_31 rfl (lv_at hl 0 rfl) ?_
  refine lv_iconst (v := 0) hx hb dX2_init_32 (by decide) ?_
  refine va_put (D := D) (ci := 3) (v := .int 0) (ty := .int) (C := RX2) (T := TX2) (N := 8) hx hb hts iRX2 tyX2 tyX2_ok nmX2 hown hK hP hD hS 0 rfl rfl 5 (by decide) (hts (.fieldLink RX2 25 "Leadlight$Piece" "layers" "I") (List.mem_of_getElem? (i := 9) rfl)) (fun _ h9 => h9) rfl (by decide +kernel) rfl rfl (Nat.le_of_ble_eq_true rfl) dX2_init_33 (fun H locs hP hD hS => ?_)
  have hP : va_P D vwCl [(h, .inr (3, [.ref q6, .ref q13, .ref q21, .int 0, .int 0, .int 0, .int 0, .int 0])), (q6, .inl (cI, 5, .inl (fun _ => 0))), (q13, .inl (cI, 5, .inl (fun _ => 0))), (q21, .inl (cI, 20, .inl (fun _ => 0)))] H := hP
  have hD : va_D A [(h, .inr (3, [.ref q6, .ref q13, .ref q21, .int 0, .int 0, .int 0, .int 0, .int 0])), (q6, .inl (cI, 5, .inl (fun _ => 0))), (q13, .inl (cI, 5, .inl (fun _ => 0))), (q21, .inl (cI, 20, .inl (fun _ => 0)))] := hD
  refine lv_aload_n hx hb dX2_init_36 rfl (lv_at hl 0 rfl) ?_
  refine lv_iconst (v := 0) hx hb dX2_init_37 (by decide) ?_
  refine va_put (D := D) (ci := 3) (v := .int 0) (ty := .int) (C := RX2) (T := TX2) (N := 8) hx hb hts iRX2 tyX2 tyX2_ok nmX2 hown hK hP hD hS 0 rfl rfl 6 (by decide) (hts (.fieldLink RX2 28 "Leadlight$Piece" "thingCount" "I") (List.mem_of_getElem? (i := 10) rfl)) (fun _ h9 => h9) rfl (by decide +kernel) rfl rfl (Nat.le_of_ble_eq_true rfl) dX2_init_38 (fun H locs hP hD hS => ?_)
  have hP : va_P D vwCl [(h, .inr (3, [.ref q6, .ref q13, .ref q21, .int 0, .int 0, .int 0, .int 0, .int 0])), (q6, .inl (cI, 5, .inl (fun _ => 0))), (q13, .inl (cI, 5, .inl (fun _ => 0))), (q21, .inl (cI, 20, .inl (fun _ => 0)))] H := hP
  have hD : va_D A [(h, .inr (3, [.ref q6, .ref q13, .ref q21, .int 0, .int 0, .int 0, .int 0, .int 0])), (q6, .inl (cI, 5, .inl (fun _ => 0))), (q13, .inl (cI, 5, .inl (fun _ => 0))), (q21, .inl (cI, 20, .inl (fun _ => 0)))] := hD
  refine lv_aload_n hx hb dX2_init_41 rfl (lv_at hl 0 rfl) ?_
  refine lv_iconst (v := 0) hx hb dX2_init_42 (by decide) ?_
  refine va_put (D := D) (ci := 3) (v := .int 0) (ty := .boolean) (C := RX2) (T := TX2) (N := 8) hx hb hts iRX2 tyX2 tyX2_ok nmX2 hown hK hP hD hS 0 rfl rfl 7 (by decide) (hts (.fieldLink RX2 31 "Leadlight$Piece" "original" "Z") (List.mem_of_getElem? (i := 11) rfl)) (fun _ h9 => h9) rfl (by decide +kernel) rfl rfl (Nat.le_of_ble_eq_true rfl) dX2_init_43 (fun H locs hP hD hS => ?_)
  have hP : va_P D vwCl [(h, .inr (3, [.ref q6, .ref q13, .ref q21, .int 0, .int 0, .int 0, .int 0, .int 0])), (q6, .inl (cI, 5, .inl (fun _ => 0))), (q13, .inl (cI, 5, .inl (fun _ => 0))), (q21, .inl (cI, 20, .inl (fun _ => 0)))] H := hP
  have hD : va_D A [(h, .inr (3, [.ref q6, .ref q13, .ref q21, .int 0, .int 0, .int 0, .int 0, .int 0])), (q6, .inl (cI, 5, .inl (fun _ => 0))), (q13, .inl (cI, 5, .inl (fun _ => 0))), (q21, .inl (cI, 20, .inl (fun _ => 0)))] := hD
  refine lv_aload_n hx hb dX2_init_46 rfl (lv_at hl 0 rfl) ?_
  refine lv_iload_n hx hb dX2_init_47 rfl (lv_at hl 1 rfl) ?_
  refine va_put (D := D) (ci := 3) (v := .int p1) (ty := .int) (C := RX2) (T := TX2) (N := 8) hx hb hts iRX2 tyX2 tyX2_ok nmX2 hown hK hP hD hS 0 rfl rfl 3 (by decide) (hts (.fieldLink RX2 35 "Leadlight$Piece" "colour" "I") (List.mem_of_getElem? (i := 12) rfl)) (fun _ h9 => h9) rfl (by decide +kernel) rfl rfl (Nat.le_of_ble_eq_true rfl) dX2_init_48 (fun H locs hP hD hS => ?_)
  have hP : va_P D vwCl [(h, .inr (3, [.ref q6, .ref q13, .ref q21, .int p1, .int 0, .int 0, .int 0, .int 0])), (q6, .inl (cI, 5, .inl (fun _ => 0))), (q13, .inl (cI, 5, .inl (fun _ => 0))), (q21, .inl (cI, 20, .inl (fun _ => 0)))] H := hP
  have hD : va_D A [(h, .inr (3, [.ref q6, .ref q13, .ref q21, .int p1, .int 0, .int 0, .int 0, .int 0])), (q6, .inl (cI, 5, .inl (fun _ => 0))), (q13, .inl (cI, 5, .inl (fun _ => 0))), (q21, .inl (cI, 20, .inl (fun _ => 0)))] := hD
  refine lv_aload_n hx hb dX2_init_51 rfl (lv_at hl 0 rfl) ?_
  refine lv_iconst (v := 1) hx hb dX2_init_52 (by decide) ?_
  refine af_v (X := [(h, .inr (3, [.ref q6, .ref q13, .ref q21, .int p1, .int 0, .int 0, .int 0, .int 0])), (q6, .inl (cI, 5, .inl (fun _ => 0))), (q13, .inl (cI, 5, .inl (fun _ => 0))), (q21, .inl (cI, 20, .inl (fun _ => 0)))]) (pl := []) (cx := (W_X2_note h (sq [q6, q13, q21]) cI cJ cZ (fun _ => 0) p1 0 0 0 0)) (w1 := fun (u : (Nat → Int32) × Int32) => (W_X2_note h (sq [q6, q13, q21]) cI cJ cZ u.1 p1 0 0 u.2 0)) (X' := fun (u : (Nat → Int32) × Int32) => [(h, .inr (3, [.ref q6, .ref q13, .ref q21, .int p1, .int 0, .int 0, .int u.2, .int 0])), (q6, .inl (cI, 5, .inl (fun _ => 0))), (q13, .inl (cI, 5, .inl (fun _ => 0))), (q21, .inl (cI, 20, .inl u.1))]) hP hD hS hA [0, 3] [1, 2] [2, 0, 1, 3] rfl rfl (by decide) (by decide) (fun u => rfl) (by decide) (va_runV (As := [.int 1]) (rest := []) ⟨hx, hb, hml, hown, hts⟩ (c_X2_note l D cI cJ cZ cO h (sq [q6, q13, q21]) H.size (fun _ => 0) p1 0 0 0 0 1 (fun th c => th = upd (fun _ => 0) 0 1 ∧ c = 1) note_new) (cwV 1 hts gX2_init_X2_note rfl rfl rfl (by decide +kernel) ⟨Nat.le_of_ble_eq_true rfl, Nat.le_of_ble_eq_true rfl⟩) (preV (X := [(h, .inr (3, [.ref q6, .ref q13, .ref q21, .int p1, .int 0, .int 0, .int 0, .int 0])), (q6, .inl (cI, 5, .inl (fun _ => 0))), (q13, .inl (cI, 5, .inl (fun _ => 0))), (q21, .inl (cI, 20, .inl (fun _ => 0)))]) (pl := []) (qb := 0) (ci := 3) hK hE hP hD [0, 3] (by decide) rfl rfl rfl) rfl rfl hl.1 rfl (lv_room (Nat.le_of_ble_eq_true rfl)) dX2_init_53 ⟨Nat.le_of_ble_eq_true rfl, Nat.le_of_ble_eq_true rfl⟩) (fun u H locs hw hP hD hS => ?_)
  obtain ⟨th, cn⟩ := u
  obtain ⟨rfl, rfl⟩ : th = upd (fun _ => 0) 0 1 ∧ cn = 1 := hw
  have hP : va_P D vwCl [(h, .inr (3, [.ref q6, .ref q13, .ref q21, .int p1, .int 0, .int 0, .int 1, .int 0])), (q6, .inl (cI, 5, .inl (fun _ => 0))), (q13, .inl (cI, 5, .inl (fun _ => 0))), (q21, .inl (cI, 20, .inl (upd (fun _ => 0) 0 1)))] H := hP
  have hD : va_D A [(h, .inr (3, [.ref q6, .ref q13, .ref q21, .int p1, .int 0, .int 0, .int 1, .int 0])), (q6, .inl (cI, 5, .inl (fun _ => 0))), (q13, .inl (cI, 5, .inl (fun _ => 0))), (q21, .inl (cI, 20, .inl (upd (fun _ => 0) 0 1)))] := hD
  refine W.widen (k := 3) (n := 30) (Nat.le_of_ble_eq_true rfl) (Nat.le_of_ble_eq_true rfl) ?_
  exact rt_v (S := Nat → Nat) (post := fun u => True) (Wf := fun u => (WP cI h u p1 0 0 1 0 (fun _ => 0) (fun _ => 0) (upd (fun _ => 0) 0 1))) (sq [q6, q13, q21]) hx hb hr hlocks trivial hP hD hS dX2_init_56
