/-! what the start gives the law -/
theorem rA_of {s : State} {args : Array Value} {ty : FieldType} (hne : ∀ C, ty ≠ .object C) (h : (Cond.arrayClass ty).before args s = true) : ∃ cA, ArrOfT s cA ty ∧ va_RA s cA ty := by
  obtain ⟨c, k, comp, h1, h2, h3⟩ := Cond.arrayClass_spec h
  refine ⟨c, fun n z => ⟨(fun k h => by cases h), k, h2, comp, h3⟩, ?_⟩
  unfold va_RA
  cases ty <;> first | exact h1 | exact absurd rfl (hne _)
theorem rO_of {s : State} {args : Array Value} {C : String} (h : (Cond.arrayOver (.object C)).before args s = true) : ∃ cA, ArrOfT s cA (.object C) ∧ va_RA s cA (.object C) := by
  obtain ⟨comp, c, k, h1, h2, h3, h4, h5⟩ := Cond.arrayOver_spec h
  exact ⟨c, fun n z => ⟨(fun k h => by cases h), k, h3, comp, h4⟩, k, comp, h3, h4, h1, h5⟩
theorem str_of {s : State} {args : Array Value} {own tx : String} {k : Nat} (h : (Cond.stringRef own k tx).before args s = true) : ∃ a, vk_R own k tx a s := by
  have hcur : ∃ cur, s.vm.findClass own = some cur := by
    have h1 := h
    simp only [Cond.before, Cond.holds, Cond.value] at h1
    cases hc : s.vm.findClass own with
    | none => simp [hc] at h1
    | some cur => exact ⟨cur, rfl⟩
  obtain ⟨cur, hcur⟩ := hcur
  obtain ⟨k0, cf, i, a, -, -, -, -, -, hev⟩ := Cond.stringRef_spec hcur h
  exact ⟨a, vk_R.of h hev⟩
set_option maxRecDepth 100000 in
set_option maxHeartbeats 2000000 in
theorem start_facts {s : State} {b : Nat} (hts : ∀ w ∈ lw_tbl, w.before #[Value.ref b] s = true) (hg : (Jvm.Cond.and given_1 narrow_1).before #[Value.ref b] s = true) : ∃ (D : va_G) (cI cJ cZ cO : ClassId) (tD mi : Nat), va_K D vwCl (TY cI cJ cZ cO) s ∧ EN s ∧ THR (AL s) s s.heap ∧ LST tD mi (AL s) s s.heap ∧ NC s := by
  have hf := flat_of_before _ hg
  have hA : ∀ a : Nat, a < s.heap.size → ¬ AL s a := fun a h => Nat.not_le.mpr h
  obtain ⟨k0, i0, h0⟩ := u_known (C := RJx4a65c) (T := TJx4a65c) (N := 3) hts inJx4a65c (hts (.instantiable RJx4a65c 3) (List.mem_of_getElem? (i := 77) rfl))
  obtain ⟨k1, i1, h1⟩ := u_known (C := RX0) (T := TX0) (N := 2) hts inX0 (hts (.instantiable RX0 2) (List.mem_of_getElem? (i := 62) rfl))
  obtain ⟨k2, i2, h2⟩ := u_known (C := RX1) (T := TX1) (N := 9) hts inX1 (hts (.instantiable RX1 9) (List.mem_of_getElem? (i := 116) rfl))
  obtain ⟨k3, i3, h3⟩ := u_known (C := RX2) (T := TX2) (N := 8) hts inX2 (hts (.instantiable RX2 8) (List.mem_of_getElem? (i := 151) rfl))
  obtain ⟨k4, i4, h4⟩ := u_known (C := RX3) (T := TX3) (N := 2) hts inX3 (hts (.instantiable RX3 2) (List.mem_of_getElem? (i := 103) rfl))
  obtain ⟨k5, i5, h5⟩ := u_known (C := RX4) (T := TX4) (N := 9) hts inX4 (hts (.instantiable RX4 9) (List.mem_of_getElem? (i := 54) rfl))
  obtain ⟨cI, aI⟩ := rA_of (fun C z => by cases z) (hts (.arrayClass .int) (List.mem_of_getElem? (i := 74) rfl))
  obtain ⟨cJ, aJ⟩ := rA_of (fun C z => by cases z) (hts (.arrayClass .long) (List.mem_of_getElem? (i := 75) rfl))
  have hao : (Cond.arrayOver (.object "java/lang/Object")).before #[Value.ref b] s = true := (hts (.arrayOver (.object "java/lang/Object")) (List.mem_of_getElem? (i := 235) rfl))
  obtain ⟨cO, aO⟩ := rO_of hao
  obtain ⟨mi, hmi⟩ := va_Mi.of (hf (.isRef (.mirror "[Ljava/lang/Object;")) (List.mem_of_getElem? (i := 34) rfl))
  obtain ⟨tD, ht, hT⟩ := va_Tof (A := AL s) (N := 0) (f := fun _ => .null) (by decide) (hf (.arrayOf (.static "java/util/ArrayList" "DEFAULTCAPACITY_EMPTY_ELEMENTDATA" "[Ljava/lang/Object;") (.object "java/lang/Object")) (List.mem_of_getElem? (i := 5) rfl)) (va_eqt (hf (.eq (.length (.static "java/util/ArrayList" "DEFAULTCAPACITY_EMPTY_ELEMENTDATA" "[Ljava/lang/Object;")) (.int 0)) (List.mem_of_getElem? (i := 7) rfl))) (fun j hj => absurd hj (Nat.not_lt_zero j)) hA
  have hZ := va_Zref (A := AL s) (hts (.laysStatic "java/util/ArrayList" "DEFAULTCAPACITY_EMPTY_ELEMENTDATA" "[Ljava/lang/Object;") (List.mem_of_getElem? (i := 89) rfl)) (hts (.initialized "java/util/ArrayList") (List.mem_of_getElem? (i := 35) rfl)) ht hA
  refine ⟨(fun c => match c with | 0 => k0 | 1 => k1 | 2 => k2 | 3 => k3 | 4 => k4 | _ => k5, fun c => match c with | 0 => i0 | 1 => i1 | 2 => i2 | 3 => i3 | 4 => i4 | _ => i5), cI, cJ, cI, cO, tD, mi, ⟨fun c q hq => ?_, fun k q hq => ?_⟩, ⟨?_, ?_⟩, ⟨?_, ?_, ?_, ?_, ?_⟩, ⟨hZ, hT, va_AO.of hao, hmi, va_Dc.of (hts (.declares ⟨"java/lang/Object", "getClass", "()Ljava/lang/Class;"⟩) (List.mem_of_getElem? (i := 930) rfl)), va_Nw.of rfl (hts (.castable RX2 "java/lang/Object") (List.mem_of_getElem? (i := 922) rfl))⟩, va_Nc.of (hf (.not (.castable xIAE xIOB)) (List.mem_of_getElem? (i := 16) rfl)), va_Nc.of (hf (.not (.castable xISE xIOB)) (List.mem_of_getElem? (i := 17) rfl)), va_Nc.of (hf (.not (.castable xISE xIAE)) (List.mem_of_getElem? (i := 25) rfl))⟩
  · match c, hq with
    | 0, hq => exact Option.some.inj hq ▸ h0
    | 1, hq => exact Option.some.inj hq ▸ h1
    | 2, hq => exact Option.some.inj hq ▸ h2
    | 3, hq => exact Option.some.inj hq ▸ h3
    | 4, hq => exact Option.some.inj hq ▸ h4
    | 5, hq => exact Option.some.inj hq ▸ h5
    | n + 6, hq => exact absurd hq (by simp)
  · match k, hq with
    | 0, hq => exact Option.some.inj hq ▸ aI
    | 1, hq => exact Option.some.inj hq ▸ aJ
    | 2, hq => exact Option.some.inj hq ▸ aI
    | 3, hq => exact Option.some.inj hq ▸ aO
    | n + 4, hq => exact absurd hq (by simp)
  · intro w hw
    simp only [NESTM, List.mem_cons, List.not_mem_nil, or_false] at hw
    rcases hw with rfl | rfl | rfl | rfl | rfl | rfl
    · exact va_Nw.of rfl (hts (.methodLinkNest RX4 11 yX0_init RX4) (List.mem_of_getElem? (i := 63) rfl))
    · exact va_Nw.of rfl (hts (.methodLinkNest RX4 25 yX3_init RX4) (List.mem_of_getElem? (i := 104) rfl))
    · exact va_Nw.of rfl (hts (.methodLinkNest RX4 38 yX1_init RX4) (List.mem_of_getElem? (i := 117) rfl))
    · exact va_Nw.of rfl (hts (.methodLinkNest RX0 62 yX4_isNumber RX4) (List.mem_of_getElem? (i := 713) rfl))
    · exact va_Nw.of rfl (hts (.methodLinkNest RX1 37 yX4_isNumber RX4) (List.mem_of_getElem? (i := 765) rfl))
    · exact va_Nw.of rfl (hts (.methodLinkNest RX3 33 yX4_isRowLine RX4) (List.mem_of_getElem? (i := 653) rfl))
  · intro w hw
    simp only [NESTF, List.mem_cons, List.not_mem_nil, or_false] at hw
    rcases hw with rfl | rfl | rfl | rfl | rfl
    · exact va_Nw.of rfl (hts (.fieldLinkNest RX4 101 RX2 "colour" "I" RX4) (List.mem_of_getElem? (i := 164) rfl))
    · exact va_Nw.of rfl (hts (.fieldLinkNest RX4 172 RX2 "layers" "I" RX4) (List.mem_of_getElem? (i := 168) rfl))
    · exact va_Nw.of rfl (hts (.fieldLinkNest RX4 183 RX2 "state" "I" RX4) (List.mem_of_getElem? (i := 166) rfl))
    · exact va_Nw.of rfl (hts (.fieldLinkNest RX4 237 RX1 "sheetsUsed" "I" RX4) (List.mem_of_getElem? (i := 127) rfl))
    · exact va_Nw.of rfl (hts (.fieldLinkNest RX4 84 RX2 "original" "Z" RX4) (List.mem_of_getElem? (i := 171) rfl))
  · exact vx_Zqof (hts (.laysStatic Bundle.tN "UNASSIGNED_STACK" Bundle.steD) (List.mem_of_getElem? (i := 336) rfl)) (hts (.initialized Bundle.tN) (List.mem_of_getElem? (i := 43) rfl)) (hf (.isRef (.static Bundle.tN "UNASSIGNED_STACK" Bundle.steD)) (List.mem_of_getElem? (i := 8) rfl)) hA
  · exact vx_Zqof (hts (.laysStatic Bundle.tN "SUPPRESSED_SENTINEL" Bundle.listD) (List.mem_of_getElem? (i := 338) rfl)) (hts (.initialized Bundle.tN) (List.mem_of_getElem? (i := 43) rfl)) (hf (.isRef (.static Bundle.tN "SUPPRESSED_SENTINEL" Bundle.listD)) (List.mem_of_getElem? (i := 9) rfl)) hA
  · intro E hE
    simp only [List.mem_cons, List.not_mem_nil, or_false] at hE
    rcases hE with rfl | rfl | rfl
    · exact va_Nw.of rfl (hts (.castable xIOB xIOB) (List.mem_of_getElem? (i := 311) rfl))
    · exact va_Nw.of rfl (hts (.castable xIAE xIAE) (List.mem_of_getElem? (i := 399) rfl))
    · exact va_Nw.of rfl (hts (.castable xISE xISE) (List.mem_of_getElem? (i := 456) rfl))
  · intro q hq
    simp only [STRS, List.mem_cons, List.not_mem_nil, or_false] at hq
    rcases hq with rfl | rfl | rfl | rfl | rfl | rfl | rfl | rfl | rfl | rfl | rfl | rfl | rfl | rfl | rfl | rfl | rfl | rfl | rfl | rfl | rfl
    · exact str_of (hts (.stringRef RX4 72 "no such line") (List.mem_of_getElem? (i := 406) rfl))
    · exact str_of (hts (.stringRef RX4 98 "the piece cannot be divided by that line") (List.mem_of_getElem? (i := 463) rfl))
    · exact str_of (hts (.stringRef RX4 119 "the cell cannot be given to that piece") (List.mem_of_getElem? (i := 498) rfl))
    · exact str_of (hts (.stringRef RX4 124 "the cell cannot be taken from its piece") (List.mem_of_getElem? (i := 503) rfl))
    · exact str_of (hts (.stringRef RX4 132 "the pieces cannot be joined") (List.mem_of_getElem? (i := 520) rfl))
    · exact str_of (hts (.stringRef RX4 144 "the piece is original") (List.mem_of_getElem? (i := 546) rfl))
    · exact str_of (hts (.stringRef RX4 153 "no such heart") (List.mem_of_getElem? (i := 558) rfl))
    · exact str_of (hts (.stringRef RX4 155 "no such width") (List.mem_of_getElem? (i := 566) rfl))
    · exact str_of (hts (.stringRef RX4 168 "there are as many bars as can be") (List.mem_of_getElem? (i := 582) rfl))
    · exact str_of (hts (.stringRef RX4 170 "no such heat") (List.mem_of_getElem? (i := 590) rfl))
    · exact str_of (hts (.stringRef RX4 175 "the piece has as many layers as can be") (List.mem_of_getElem? (i := 591) rfl))
    · exact str_of (hts (.stringRef RX4 186 "the piece is not broken") (List.mem_of_getElem? (i := 625) rfl))
    · exact str_of (hts (.stringRef RX4 191 "the piece is original and not broken") (List.mem_of_getElem? (i := 637) rfl))
    · exact str_of (hts (.stringRef RX4 217 "no such thing to tell") (List.mem_of_getElem? (i := 825) rfl))
    · exact str_of (hts (.stringRef RX4 274 "no such panel") (List.mem_of_getElem? (i := 810) rfl))
    · exact str_of (hts (.stringRef RX4 277 "no such wind") (List.mem_of_getElem? (i := 811) rfl))
    · exact str_of (hts (.stringRef RX4 285 "there never was such a piece, or no such place") (List.mem_of_getElem? (i := 732) rfl))
    · exact str_of (hts (.stringRef RX4 293 "no such piece") (List.mem_of_getElem? (i := 350) rfl))
    · exact str_of (hts (.stringRef RX4 295 "no such cell") (List.mem_of_getElem? (i := 491) rfl))
    · exact str_of (hts (.stringRef RX4 300 "no such colour") (List.mem_of_getElem? (i := 545) rfl))
    · exact str_of (hts (.stringRef RX4 302 "no such hour") (List.mem_of_getElem? (i := 836) rfl))
  · intro X hX
    simp only [xSUP, List.mem_cons, List.not_mem_nil, or_false] at hX
    rcases hX with rfl | rfl | rfl
    · exact va_Nw.of rfl (hts (.declares (Bundle.initS "java/lang/RuntimeException")) (List.mem_of_getElem? (i := 313) rfl))
    · exact va_Nw.of rfl (hts (.declares (Bundle.initS "java/lang/Exception")) (List.mem_of_getElem? (i := 315) rfl))
    · exact va_Nw.of rfl (hts (.declares (Bundle.initS Bundle.tN)) (List.mem_of_getElem? (i := 317) rfl))
