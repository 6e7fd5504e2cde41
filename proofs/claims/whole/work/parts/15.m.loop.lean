/-! the law's loop -/
theorem and31 (x : Int32) : ∃ j, j < 32 ∧ x &&& 31 = nI j := by
  have h : (x &&& 31).toBitVec.toNat < 32 := by
    rw [Int32.toBitVec_and, BitVec.toNat_and]
    exact Nat.lt_of_le_of_lt Nat.and_le_right (by decide)
  refine ⟨(x &&& 31).toBitVec.toNat, h, Int32.toBitVec_inj.mp (BitVec.eq_of_toNat_eq ?_)⟩
  show _ = (Int32.ofNat _).toBitVec.toNat
  rw [show (Int32.ofNat (x &&& 31).toBitVec.toNat).toBitVec = BitVec.ofNat 32 (x &&& 31).toBitVec.toNat from rfl, BitVec.toNat_ofNat]
  exact (Nat.mod_eq_of_lt (by omega)).symm
theorem lt_len {L k : Nat} (hL : L ≤ 2048) (hk : 4 * k ≤ L) : ((nI L - 4) < nI (4 * k)) = (L < 4 * k + 4) := by
  rw [fa_lt, Int32.toInt_sub, nI_toInt (by omega), nI_toInt (by omega), show (4 : Int32).toInt = 4 from rfl]
  have e : ((L : Int) - 4).bmod (2 ^ 32) = (L : Int) - 4 := by
    rw [Int.bmod_def]
    split <;> omega
  rw [e]
  exact propext ⟨fun h => by omega, fun h => by omega⟩
section LOOP
variable {p : Program} {l : Launch} {e : Env} {s : State} {m : MethodId} {below : List Frame} {meth : Method} {c : Code} {b L : Nat} {xs : Nat → Int32} {D : va_G} {cI cJ cZ cO : ClassId} {tD mi h g o : Nat} {Q : State → Prop}
set_option maxHeartbeats 4000000 in
set_option maxRecDepth 100000 in
theorem k_loop (C : LC p l s m meth c b L xs D cI cJ cZ cO tD mi) (hL : L ≤ 2048) (hQ : ∀ (H : Heap) (ls : Array Slot), W p l e room_1 s m #[Value.ref b] below meth c H [] 601024 7293034 Q (F0 m 1745 ls [.int 1])) : ∀ (r k : Nat) (s0 : SG) (u : KT) (w : KM) (H : Heap) (locs : List Loc) (ls : Array Slot) (cells slots : Nat), L < 4 * k + 4 * r + 4 → 4 * k ≤ L → RCt s0 u → RMt s0 w → va_P D vwCl (WCt cI cJ cO h o u ++ WMt cI cZ g w) H → va_D (AL s) (WCt cI cJ cO h o u ++ WMt cI cZ g w) → va_S (AL s) s.heap H locs → lv_has ls 7 [(0, .ref b), (1, .ref h), (2, .ref g), (3, .ref o), (4, .int (nI (4 * k)))] → cells + 6 * r ≤ 601024 → slots + 134 * r ≤ 7293034 → W p l e room_1 s m #[Value.ref b] below meth c H locs cells slots Q (F0 m 23 ls []) := by
  intro r
  induction r with
  | zero =>
    intro k s0 u w H locs ls cells slots hr hk0 hR hM hP hD hS hl hcc hss
    obtain ⟨hx, hb, hrt, hml, hown, hts, hX, hbl, hlocks, hst, hK, hE, hT, hLS, hN⟩ := C
    refine lv_iload hx hb dL_law_23 (lv_at hl 4 rfl) ?_
    refine lv_aload_n hx hb dL_law_25 rfl (lv_at hl 0 rfl) ?_
    refine va_slen hx hb hX hbl (Nat.not_le.mpr hbl) hS dL_law_26 ?_
    refine lv_iconst (v := 4) hx hb dL_law_27 (by decide) ?_
    refine lv_isub hx hb dL_law_28 ?_
    have hlt : (nI L - 4) < nI (4 * k) := by rw [lt_len hL hk0]; omega
    refine lv_icmp_gt (tgt := 1744) hx hb dL_law_29 (by decide) (fun _ => ?_) (fun z9 => absurd hlt z9)
    refine W.widen (k := 601024) (n := 7293034) (by omega) (by omega) ?_
    refine va_forget hS.2.2 ?_
    refine lv_iconst (v := 1) hx hb dL_law_1744 (by decide) ?_
    exact hQ _ _
  | succ r ih =>
    intro k s0 u w H locs ls cells slots hr hk0 hR hM hP hD hS hl hcc hss
    have C0 := C
    obtain ⟨hx, hb, hrt, hml, hown, hts, hX, hbl, hlocks, hst, hK, hE, hT, hLS, hN⟩ := C
    refine lv_iload hx hb dL_law_23 (lv_at hl 4 rfl) ?_
    refine lv_aload_n hx hb dL_law_25 rfl (lv_at hl 0 rfl) ?_
    refine va_slen hx hb hX hbl (Nat.not_le.mpr hbl) hS dL_law_26 ?_
    refine lv_iconst (v := 4) hx hb dL_law_27 (by decide) ?_
    refine lv_isub hx hb dL_law_28 ?_
    refine lv_icmp_gt (tgt := 1744) hx hb dL_law_29 (by decide) (fun _ => ?_) (fun z9 => ?_)
    · refine W.widen (k := 601024) (n := 7293034) (by omega) (by omega) ?_
      refine va_forget hS.2.2 ?_
      refine lv_iconst (v := 1) hx hb dL_law_1744 (by decide) ?_
      exact hQ _ _
    · have hk : 4 * k + 4 ≤ L := by
        have z8 : ¬ (nI L - 4) < nI (4 * k) := z9
        rw [lt_len hL hk0] at z8
        omega
      refine lv_aload_n hx hb dL_law_32 rfl (lv_at hl 0 rfl) ?_
      refine lv_iload hx hb dL_law_33 (lv_at hl 4 rfl) ?_
      refine va_sld hx hb hX hbl (Nat.not_le.mpr hbl) hS (vp_in_nI (by omega) (by omega)) dL_law_35 ?_
      refine lv_bipush (v := 31) hx hb dL_law_36 (by decide) ?_
      refine lv_iand hx hb dL_law_38 ?_
      have K : NXT p l e s m below meth c b D cI cJ cZ cO h g o k cells slots Q := by
        intro s1 u1 w1 H1 locs1 ls1 hR1 hM1 hP1 hD1 hS1 hl1
        refine lv_iinc (k := 4) (v := nI (4 * (k + 1))) (lv' := [(4, .int (nI (4 * (k + 1)))), (0, .ref b), (1, .ref h), (2, .ref g), (3, .ref o)]) hx hb dL_law_1738 hl1 rfl (nI_add (4 * k) 4) (by decide) rfl (fun ls hl => ?_)
        refine lv_goto (tgt := 23) hx hb dL_law_1741 (by decide) ?_
        exact ih (k + 1) s1 u1 w1 H1 locs1 _ (cells + 6) (slots + 134) (by omega) (by omega) hR1 hM1 hP1 hD1 hS1 (lv_sub hl [1, 2, 3, 4, 0] rfl) (by omega) (by omega)
      obtain ⟨j, hj, ej⟩ := and31 (xs (nI (4 * k)).toNatClampNeg)
      rw [ej]
      have hj32 : j = 0 ∨ j = 1 ∨ j = 2 ∨ j = 3 ∨ j = 4 ∨ j = 5 ∨ j = 6 ∨ j = 7 ∨ j = 8 ∨ j = 9 ∨ j = 10 ∨ j = 11 ∨ j = 12 ∨ j = 13 ∨ j = 14 ∨ j = 15 ∨ j = 16 ∨ j = 17 ∨ j = 18 ∨ j = 19 ∨ j = 20 ∨ j = 21 ∨ j = 22 ∨ j = 23 ∨ j = 24 ∨ j = 25 ∨ j = 26 ∨ j = 27 ∨ j = 28 ∨ j = 29 ∨ j = 30 ∨ j = 31 := by omega
      rcases hj32 with rfl | rfl | rfl | rfl | rfl | rfl | rfl | rfl | rfl | rfl | rfl | rfl | rfl | rfl | rfl | rfl | rfl | rfl | rfl | rfl | rfl | rfl | rfl | rfl | rfl | rfl | rfl | rfl | rfl | rfl | rfl | rfl
      · refine lv_tableIn (off := 133) (tgt := 172) hx hb dL_law_39 (by decide) (by decide) (by decide) (by decide) ?_
        exact k_L_divide C0 hk hL hR hM hP hD hS hl (by omega) (by omega) K
      · refine lv_tableIn (off := 201) (tgt := 240) hx hb dL_law_39 (by decide) (by decide) (by decide) (by decide) ?_
        exact k_L_give C0 hk hL hR hM hP hD hS hl (by omega) (by omega) K
      · refine lv_tableIn (off := 269) (tgt := 308) hx hb dL_law_39 (by decide) (by decide) (by decide) (by decide) ?_
        exact k_L_join C0 hk hL hR hM hP hD hS hl (by omega) (by omega) K
      · refine lv_tableIn (off := 337) (tgt := 376) hx hb dL_law_39 (by decide) (by decide) (by decide) (by decide) ?_
        exact k_L_colour C0 hk hL hR hM hP hD hS hl (by omega) (by omega) K
      · refine lv_tableIn (off := 405) (tgt := 444) hx hb dL_law_39 (by decide) (by decide) (by decide) (by decide) ?_
        exact k_L_finish C0 hk hL hR hM hP hD hS hl (by omega) (by omega) K
      · refine lv_tableIn (off := 418) (tgt := 457) hx hb dL_law_39 (by decide) (by decide) (by decide) (by decide) ?_
        exact k_L_heart C0 hk hL hR hM hP hD hS hl (by omega) (by omega) K
      · refine lv_tableIn (off := 474) (tgt := 513) hx hb dL_law_39 (by decide) (by decide) (by decide) (by decide) ?_
        exact k_L_sheet C0 hk hL hR hM hP hD hS hl (by omega) (by omega) K
      · refine lv_tableIn (off := 530) (tgt := 569) hx hb dL_law_39 (by decide) (by decide) (by decide) (by decide) ?_
        exact k_L_bar C0 hk hL hR hM hP hD hS hl (by omega) (by omega) K
      · refine lv_tableIn (off := 593) (tgt := 632) hx hb dL_law_39 (by decide) (by decide) (by decide) (by decide) ?_
        exact k_L_paint C0 hk hL hR hM hP hD hS hl (by omega) (by omega) K
      · refine lv_tableIn (off := 661) (tgt := 700) hx hb dL_law_39 (by decide) (by decide) (by decide) (by decide) ?_
        exact k_L_fire C0 hk hL hR hM hP hD hS hl (by omega) (by omega) K
      · refine lv_tableIn (off := 729) (tgt := 768) hx hb dL_law_39 (by decide) (by decide) (by decide) (by decide) ?_
        exact k_L_crack C0 hk hL hR hM hP hD hS hl (by omega) (by omega) K
      · refine lv_tableIn (off := 785) (tgt := 824) hx hb dL_law_39 (by decide) (by decide) (by decide) (by decide) ?_
        exact k_L_mend C0 hk hL hR hM hP hD hS hl (by omega) (by omega) K
      · refine lv_tableIn (off := 841) (tgt := 880) hx hb dL_law_39 (by decide) (by decide) (by decide) (by decide) ?_
        exact k_L_replace C0 hk hL hR hM hP hD hS hl (by omega) (by omega) K
      · refine lv_tableIn (off := 909) (tgt := 948) hx hb dL_law_39 (by decide) (by decide) (by decide) (by decide) ?_
        exact k_L_pieces C0 hk hL hR hM hP hD hS hl (by omega) (by omega) K
      · refine lv_tableIn (off := 922) (tgt := 961) hx hb dL_law_39 (by decide) (by decide) (by decide) (by decide) ?_
        exact k_L_pieceOf C0 hk hL hR hM hP hD hS hl (by omega) (by omega) K
      · refine lv_tableIn (off := 978) (tgt := 1017) hx hb dL_law_39 (by decide) (by decide) (by decide) (by decide) ?_
        exact k_L_piece C0 hk hL hR hM hP hD hS hl (by omega) (by omega) K
      · refine lv_tableIn (off := 1046) (tgt := 1085) hx hb dL_law_39 (by decide) (by decide) (by decide) (by decide) ?_
        exact k_L_bestLine C0 hk hL hR hM hP hD hS hl (by omega) (by omega) K
      · refine lv_tableIn (off := 1102) (tgt := 1141) hx hb dL_law_39 (by decide) (by decide) (by decide) (by decide) ?_
        exact k_L_lead C0 hk hL hR hM hP hD hS hl (by omega) (by omega) K
      · refine lv_tableIn (off := 1115) (tgt := 1154) hx hb dL_law_39 (by decide) (by decide) (by decide) (by decide) ?_
        exact k_L_joints C0 hk hL hR hM hP hD hS hl (by omega) (by omega) K
      · refine lv_tableIn (off := 1128) (tgt := 1167) hx hb dL_law_39 (by decide) (by decide) (by decide) (by decide) ?_
        exact k_L_weight C0 hk hL hR hM hP hD hS hl (by omega) (by omega) K
      · refine lv_tableIn (off := 1141) (tgt := 1180) hx hb dL_law_39 (by decide) (by decide) (by decide) (by decide) ?_
        exact k_L_assembled C0 hk hL hR hM hP hD hS hl (by omega) (by omega) K
      · refine lv_tableIn (off := 1166) (tgt := 1205) hx hb dL_law_39 (by decide) (by decide) (by decide) (by decide) ?_
        exact k_L_sheets C0 hk hL hR hM hP hD hS hl (by omega) (by omega) K
      · refine lv_tableIn (off := 1222) (tgt := 1261) hx hb dL_law_39 (by decide) (by decide) (by decide) (by decide) ?_
        exact k_L_laid C0 hk hL hR hM hP hD hS hl (by omega) (by omega) K
      · refine lv_tableIn (off := 1278) (tgt := 1317) hx hb dL_law_39 (by decide) (by decide) (by decide) (by decide) ?_
        exact k_L_waste C0 hk hL hR hM hP hD hS hl (by omega) (by omega) K
      · refine lv_tableIn (off := 1334) (tgt := 1373) hx hb dL_law_39 (by decide) (by decide) (by decide) (by decide) ?_
        exact k_L_floor C0 hk hL hR hM hP hD hS hl (by omega) (by omega) K
      · refine lv_tableIn (off := 1414) (tgt := 1453) hx hb dL_law_39 (by decide) (by decide) (by decide) (by decide) ?_
        exact k_L_floorAnew C0 hk hL hR hM hP hD hS hl (by omega) (by omega) K
      · refine lv_tableIn (off := 1494) (tgt := 1533) hx hb dL_law_39 (by decide) (by decide) (by decide) (by decide) ?_
        exact k_L_crosses C0 hk hL hR hM hP hD hS hl (by omega) (by omega) K
      · refine lv_tableIn (off := 1550) (tgt := 1589) hx hb dL_law_39 (by decide) (by decide) (by decide) (by decide) ?_
        exact k_L_bends C0 hk hL hR hM hP hD hS hl (by omega) (by omega) K
      · refine lv_tableIn (off := 1618) (tgt := 1657) hx hb dL_law_39 (by decide) (by decide) (by decide) (by decide) ?_
        exact k_L_isShut C0 hk hL hR hM hP hD hS hl (by omega) (by omega) K
      · refine lv_tableIn (off := 1631) (tgt := 1670) hx hb dL_law_39 (by decide) (by decide) (by decide) (by decide) ?_
        exact k_L_history C0 hk hL hR hM hP hD hS hl (by omega) (by omega) K
      · refine lv_tableOut (tgt := 1738) hx hb dL_law_39 (by decide) (by decide) ?_
        refine W.widen (k := cells + 6) (n := slots + 134) (by omega) (by omega) ?_
        exact K s0 u w H locs ls hR hM hP hD hS hl
      · refine lv_tableOut (tgt := 1738) hx hb dL_law_39 (by decide) (by decide) ?_
        refine W.widen (k := cells + 6) (n := slots + 134) (by omega) (by omega) ?_
        exact K s0 u w H locs ls hR hM hP hD hS hl
end LOOP
