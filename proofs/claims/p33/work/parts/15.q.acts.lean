/-! what a call of the law comes to, and that it comes to one thing only -/
abbrev R_divide (s : SG) (p1 p2 : Int32) : Int32 → SG → Prop := RES (oC_divide s p1 p2) (oV_divide s p1 p2) s (oS_divide s p1 p2)
abbrev R_give (s : SG) (p1 p2 : Int32) : Int32 → SG → Prop := RES (oC_give s p1 p2) (oV_give s p1 p2) s (oS_give s p1 p2)
abbrev R_join (s : SG) (p1 p2 : Int32) : Int32 → SG → Prop := RES (oC_join s p1 p2) (oV_join s p1 p2) s (oS_join s p1 p2)
abbrev R_colour (s : SG) (p1 p2 : Int32) : Int32 → SG → Prop := RES (oC_colour s p1 p2) (oV_colour s p1 p2) s (oS_colour s p1 p2)
abbrev R_heart (s : SG) (p1 : Int32) : Int32 → SG → Prop := RES (oC_heart s p1) (oV_heart s p1) s (oS_heart s p1)
abbrev R_sheet (s : SG) (p1 : Int32) : Int32 → SG → Prop := RES (oC_sheet s p1) (oV_sheet s p1) s (oS_sheet s p1)
abbrev R_bar (s : SG) (p1 : Int32) : Int32 → SG → Prop := RES (oC_bar s p1) (oV_bar s p1) s (oS_bar s p1)
abbrev R_paint (s : SG) (p1 p2 : Int32) : Int32 → SG → Prop := RES (oC_paint s p1 p2) (oV_paint s p1 p2) s (oS_paint s p1 p2)
abbrev R_fire (s : SG) (p1 p2 : Int32) : Int32 → SG → Prop := RES (oC_fire s p1 p2) (oV_fire s p1 p2) s (oS_fire s p1 p2)
abbrev R_crack (s : SG) (p1 : Int32) : Int32 → SG → Prop := RES (oC_crack s p1) (oV_crack s p1) s (oS_crack s p1)
abbrev R_mend (s : SG) (p1 : Int32) : Int32 → SG → Prop := RES (oC_mend s p1) (oV_mend s p1) s (oS_mend s p1)
abbrev R_replace (s : SG) (p1 p2 : Int32) : Int32 → SG → Prop := RES (oC_replace s p1 p2) (oV_replace s p1 p2) s (oS_replace s p1 p2)
abbrev R_pieceOf (s : SG) (p1 : Int32) : Int32 → SG → Prop := RES (oC_pieceOf s p1) (oV_pieceOf s p1) s s
abbrev R_piece (s : SG) (p1 p2 : Int32) : Int32 → SG → Prop := RES (oC_piece s p1 p2) (oV_piece s p1 p2) s s
abbrev R_bestLine (s : SG) (p1 : Int32) : Int32 → SG → Prop := RES (oC_bestLine s p1) (oV_bestLine s p1) s s
abbrev R_laid (s : SG) (p1 : Int32) : Int32 → SG → Prop := RES (oC_laid s p1) (oV_laid s p1) s s
abbrev R_waste (s : SG) (p1 : Int32) : Int32 → SG → Prop := RES (oC_waste s p1) (oV_waste s p1) s s
abbrev R_floor (s : SG) (p1 p2 p3 : Int32) : Int32 → SG → Prop := RES (oC_floor s p1 p2 p3) (oV_floor s p1 p2 p3) s s
abbrev R_crosses (s : SG) (p1 : Int32) : Int32 → SG → Prop := RES (oC_crosses s p1) (oV_crosses s p1) s s
abbrev R_bends (s : SG) (p1 p2 : Int32) : Int32 → SG → Prop := RES (oC_bends s p1 p2) (oV_bends s p1 p2) s s
abbrev R_history (s : SG) (p1 p2 : Int32) : Int32 → SG → Prop := RES (oC_history s p1 p2) (oV_history s p1 p2) s s
abbrev R_finish (s : SG) : Int32 → SG → Prop := RES 0 (oV_finish s) s (oS_finish s)
abbrev R_pieces (s : SG) : Int32 → SG → Prop := RES 0 (oV_pieces s) s s
abbrev R_lead (s : SG) : Int32 → SG → Prop := RES 0 (oV_lead s) s s
abbrev R_joints (s : SG) : Int32 → SG → Prop := RES 0 (oV_joints s) s s
abbrev R_weight (s : SG) : Int32 → SG → Prop := RES 0 (oV_weight s) s s
abbrev R_isShut (s : SG) : Int32 → SG → Prop := RES 0 (oV_isShut s) s s
abbrev R_assembled (s : SG) (p1 : Int32) : Int32 → SG → Prop := RES 0 (oV_assembled s p1) s s
def lowI (x n : Int32) : Int32 := (x &&& 2147483647) - (x &&& 2147483647) / n * n
def remI (x n : Int32) : Int32 := x - x / n * n
def shI (v k : Int32) : Int32 := v >>> (k &&& 31)
def iteB (b : Bool) (x y : Int32) : Int32 := match b with
  | true => x
  | false => y
def oddB (v : Int32) : Bool := decide (lowI (shI v 26) 14 = 0)
def pcA (v : Int32) : Int32 := iteB (oddB v) (lowI (shI v 5) 64 - 2) (lowI (shI v 5) 5)
def otA (v : Int32) : Int32 := iteB (oddB v) (lowI (shI v 11) 64 - 2) (lowI (shI v 11) 5)
def ceA (v : Int32) : Int32 := iteB (oddB v) (shI v 8) (lowI (shI v 8) 256)
def muA (v : Int32) : Int32 := iteB (oddB v) (shI v 14) (lowI (shI v 14) 8)
noncomputable def ACTn (s : SG) (v e : Int32) : Nat → Int32 → SG → Prop
  | 0 => R_divide s (pcA v) (iteB (oddB v) (muA v) (lowI (shI v 8) 31))
  | 1 => R_divide s (pcA v) (iteB (oddB v) (muA v) (lowI (shI v 8) 31))
  | 2 => R_divide s (pcA v) (iteB (oddB v) (muA v) (lowI (shI v 8) 31))
  | 3 => R_divide s (pcA v) (iteB (oddB v) (muA v) (lowI (shI v 8) 31))
  | 4 => R_divide s (pcA v) (iteB (oddB v) (muA v) (lowI (shI v 8) 31))
  | 5 => R_give s (ceA v) (pcA v)
  | 6 => R_give s (ceA v) (pcA v)
  | 7 => R_give s (ceA v) (pcA v)
  | 8 => R_give s (ceA v) (pcA v)
  | 9 => R_join s (pcA v) (otA v)
  | 10 => R_colour s (pcA v) (muA v)
  | 11 => R_colour s (pcA v) (muA v)
  | 12 => if lowI (shI v 14) 6 = 0 then R_finish s else R_heart s (iteB (oddB v) (muA v) (lowI (shI v 15) 5 + 1))
  | 13 => R_sheet s (iteB (oddB v) (muA v) (4 + lowI (shI v 14) 37))
  | 14 => R_bar s (iteB (oddB v) (muA v) (lowI (shI v 14) 15))
  | 15 => R_paint s (pcA v) (iteB (oddB v) (muA v) (500 + lowI (shI v 14) 201))
  | 16 => R_paint s (pcA v) (iteB (oddB v) (muA v) (500 + lowI (shI v 14) 201))
  | 17 => R_fire s (pcA v) (iteB (oddB v) (muA v) (500 + lowI (shI v 14) 251))
  | 18 => R_crack s (ceA v)
  | 19 => R_crack s (ceA v)
  | 20 => R_mend s (pcA v)
  | 21 => R_replace s (pcA v) (muA v)
  | 22 => if remI e 16 = 9 then R_bestLine s (pcA v) else R_pieceOf s (ceA v)
  | 23 => if remI e 8 = 3 then R_assembled s (otA v) else R_history s (pcA v) (iteB (oddB v) (otA v) (lowI (shI v 11) 8))
  | 24 => if remI e 8 = 5 then R_laid s (pcA v) else R_crosses s (iteB (oddB v) (muA v) (lowI (shI v 14) 15))
  | 25 => R_bends s (iteB (oddB v) (muA v) (lowI (shI v 14) 4)) (iteB (oddB v) (ceA v) (lowI (shI v 8) 10))
  | 26 => if remI e 4 = 1 then R_piece s (pcA v) (iteB (oddB v) (muA v) (lowI (shI v 14) 10)) else R_history s (pcA v) 0
  | _ => R_floor s (lowI (shI v 8) 70) (lowI (shI v 14) 16) (iteB (oddB v) (muA v) (7 + lowI (shI v 17) 11))
theorem aN_0 (s : SG) (v e : Int32) : ACTn s v e 0 = (R_divide s (pcA v) (iteB (oddB v) (muA v) (lowI (shI v 8) 31))) := rfl
theorem aN_1 (s : SG) (v e : Int32) : ACTn s v e 1 = (R_divide s (pcA v) (iteB (oddB v) (muA v) (lowI (shI v 8) 31))) := rfl
theorem aN_2 (s : SG) (v e : Int32) : ACTn s v e 2 = (R_divide s (pcA v) (iteB (oddB v) (muA v) (lowI (shI v 8) 31))) := rfl
theorem aN_3 (s : SG) (v e : Int32) : ACTn s v e 3 = (R_divide s (pcA v) (iteB (oddB v) (muA v) (lowI (shI v 8) 31))) := rfl
theorem aN_4 (s : SG) (v e : Int32) : ACTn s v e 4 = (R_divide s (pcA v) (iteB (oddB v) (muA v) (lowI (shI v 8) 31))) := rfl
theorem aN_5 (s : SG) (v e : Int32) : ACTn s v e 5 = (R_give s (ceA v) (pcA v)) := rfl
theorem aN_6 (s : SG) (v e : Int32) : ACTn s v e 6 = (R_give s (ceA v) (pcA v)) := rfl
theorem aN_7 (s : SG) (v e : Int32) : ACTn s v e 7 = (R_give s (ceA v) (pcA v)) := rfl
theorem aN_8 (s : SG) (v e : Int32) : ACTn s v e 8 = (R_give s (ceA v) (pcA v)) := rfl
theorem aN_9 (s : SG) (v e : Int32) : ACTn s v e 9 = (R_join s (pcA v) (otA v)) := rfl
theorem aN_10 (s : SG) (v e : Int32) : ACTn s v e 10 = (R_colour s (pcA v) (muA v)) := rfl
theorem aN_11 (s : SG) (v e : Int32) : ACTn s v e 11 = (R_colour s (pcA v) (muA v)) := rfl
theorem aN_12 (s : SG) (v e : Int32) : ACTn s v e 12 = (if lowI (shI v 14) 6 = 0 then R_finish s else R_heart s (iteB (oddB v) (muA v) (lowI (shI v 15) 5 + 1))) := rfl
theorem aN_13 (s : SG) (v e : Int32) : ACTn s v e 13 = (R_sheet s (iteB (oddB v) (muA v) (4 + lowI (shI v 14) 37))) := rfl
theorem aN_14 (s : SG) (v e : Int32) : ACTn s v e 14 = (R_bar s (iteB (oddB v) (muA v) (lowI (shI v 14) 15))) := rfl
theorem aN_15 (s : SG) (v e : Int32) : ACTn s v e 15 = (R_paint s (pcA v) (iteB (oddB v) (muA v) (500 + lowI (shI v 14) 201))) := rfl
theorem aN_16 (s : SG) (v e : Int32) : ACTn s v e 16 = (R_paint s (pcA v) (iteB (oddB v) (muA v) (500 + lowI (shI v 14) 201))) := rfl
theorem aN_17 (s : SG) (v e : Int32) : ACTn s v e 17 = (R_fire s (pcA v) (iteB (oddB v) (muA v) (500 + lowI (shI v 14) 251))) := rfl
theorem aN_18 (s : SG) (v e : Int32) : ACTn s v e 18 = (R_crack s (ceA v)) := rfl
theorem aN_19 (s : SG) (v e : Int32) : ACTn s v e 19 = (R_crack s (ceA v)) := rfl
theorem aN_20 (s : SG) (v e : Int32) : ACTn s v e 20 = (R_mend s (pcA v)) := rfl
theorem aN_21 (s : SG) (v e : Int32) : ACTn s v e 21 = (R_replace s (pcA v) (muA v)) := rfl
theorem aN_22 (s : SG) (v e : Int32) : ACTn s v e 22 = (if remI e 16 = 9 then R_bestLine s (pcA v) else R_pieceOf s (ceA v)) := rfl
theorem aN_23 (s : SG) (v e : Int32) : ACTn s v e 23 = (if remI e 8 = 3 then R_assembled s (otA v) else R_history s (pcA v) (iteB (oddB v) (otA v) (lowI (shI v 11) 8))) := rfl
theorem aN_24 (s : SG) (v e : Int32) : ACTn s v e 24 = (if remI e 8 = 5 then R_laid s (pcA v) else R_crosses s (iteB (oddB v) (muA v) (lowI (shI v 14) 15))) := rfl
theorem aN_25 (s : SG) (v e : Int32) : ACTn s v e 25 = (R_bends s (iteB (oddB v) (muA v) (lowI (shI v 14) 4)) (iteB (oddB v) (ceA v) (lowI (shI v 8) 10))) := rfl
theorem aN_26 (s : SG) (v e : Int32) : ACTn s v e 26 = (if remI e 4 = 1 then R_piece s (pcA v) (iteB (oddB v) (muA v) (lowI (shI v 14) 10)) else R_history s (pcA v) 0) := rfl
theorem aN_27 (s : SG) (v e : Int32) : ACTn s v e 27 = (R_floor s (lowI (shI v 8) 70) (lowI (shI v 14) 16) (iteB (oddB v) (muA v) (7 + lowI (shI v 17) 11))) := rfl
theorem aN_28 (s : SG) (v e : Int32) : ACTn s v e 28 = (R_floor s (lowI (shI v 8) 70) (lowI (shI v 14) 16) (iteB (oddB v) (muA v) (7 + lowI (shI v 17) 11))) := rfl
theorem aN_29 (s : SG) (v e : Int32) : ACTn s v e 29 = (R_floor s (lowI (shI v 8) 70) (lowI (shI v 14) 16) (iteB (oddB v) (muA v) (7 + lowI (shI v 17) 11))) := rfl
theorem aN_30 (s : SG) (v e : Int32) : ACTn s v e 30 = (R_floor s (lowI (shI v 8) 70) (lowI (shI v 14) 16) (iteB (oddB v) (muA v) (7 + lowI (shI v 17) 11))) := rfl
theorem aN_31 (s : SG) (v e : Int32) : ACTn s v e 31 = (R_floor s (lowI (shI v 8) 70) (lowI (shI v 14) 16) (iteB (oddB v) (muA v) (7 + lowI (shI v 17) 11))) := rfl
noncomputable def ACT (s : SG) (v e : Int32) : Int32 → SG → Prop := ACTn s v e (lowI v 32).toNatClampNeg
theorem low_is (v : Int32) {b : Nat} (h1 : 0 < b) (h2 : b < 2147483648) : ∃ j, j < b ∧ lowI v (nI b) = nI j := by
  have hx : v &&& 2147483647 = nI (v.toBitVec.toNat % 2 ^ 31) := by
    refine Int32.toBitVec_inj.mp (BitVec.eq_of_toNat_eq ?_)
    rw [Int32.toBitVec_and, BitVec.toNat_and]
    show v.toBitVec.toNat &&& 2147483647 = (BitVec.ofNat 32 (v.toBitVec.toNat % 2 ^ 31)).toNat
    rw [BitVec.toNat_ofNat, show (2147483647 : Nat) = 2 ^ 31 - 1 from rfl, Nat.and_two_pow_sub_one_eq_mod]
    exact (Nat.mod_eq_of_lt (by omega)).symm
  refine ⟨v.toBitVec.toNat % 2 ^ 31 % b, Nat.mod_lt _ h1, ?_⟩
  unfold lowI
  rw [hx]
  exact pk_rem (Nat.mod_lt _ (by decide)) h1 h2
theorem low_32 (v : Int32) : ∃ j, j < 32 ∧ lowI v 32 = nI j := low_is v (b := 32) (by omega) (by omega)
theorem ACT_at {s : SG} {v e : Int32} {j : Nat} (hj : j < 32) (h : lowI v 32 = nI j) : ACT s v e = ACTn s v e j := by
  unfold ACT
  rw [h, nI_clamp (by omega)]
theorem fn_pieceOf {s : SG} (hJ : JS s) (p1 : Int32) : FN s (R_pieceOf s p1) := FN.res eq_fun (Or.inl rfl) hJ (fun _ => hJ)
theorem fn_piece {s : SG} (hJ : JS s) (p1 p2 : Int32) : FN s (R_piece s p1 p2) := FN.res eq_fun (Or.inl rfl) hJ (fun _ => hJ)
theorem fn_bestLine {s : SG} (hJ : JS s) (p1 : Int32) : FN s (R_bestLine s p1) := FN.res eq_fun (Or.inl rfl) hJ (fun _ => hJ)
theorem fn_floor {s : SG} (hJ : JS s) (p1 p2 p3 : Int32) : FN s (R_floor s p1 p2 p3) := FN.res eq_fun (Or.inl rfl) hJ (fun _ => hJ)
theorem fn_crosses {s : SG} (hJ : JS s) (p1 : Int32) : FN s (R_crosses s p1) := FN.res eq_fun (Or.inl rfl) hJ (fun _ => hJ)
theorem fn_bends {s : SG} (hJ : JS s) (p1 p2 : Int32) : FN s (R_bends s p1 p2) := FN.res eq_fun (Or.inl rfl) hJ (fun _ => hJ)
theorem fn_history {s : SG} (hJ : JS s) (p1 p2 : Int32) : FN s (R_history s p1 p2) := FN.res eq_fun (Or.inl rfl) hJ (fun _ => hJ)
theorem fn_laid {s : SG} (hJ : JS s) (p1 : Int32) : FN s (R_laid s p1) := FN.res laid_fun (Or.inl rfl) hJ (fun _ => hJ)
theorem fn_waste {s : SG} (hJ : JS s) (p1 : Int32) : FN s (R_waste s p1) := FN.res waste_fun (Or.inl rfl) hJ (fun _ => hJ)
theorem fn_pieces {s : SG} (hJ : JS s) : FN s (R_pieces s) := FN.res eq_fun (Or.inl rfl) hJ (fun _ => hJ)
theorem fn_lead {s : SG} (hJ : JS s) : FN s (R_lead s) := FN.res eq_fun (Or.inl rfl) hJ (fun _ => hJ)
theorem fn_joints {s : SG} (hJ : JS s) : FN s (R_joints s) := FN.res eq_fun (Or.inl rfl) hJ (fun _ => hJ)
theorem fn_weight {s : SG} (hJ : JS s) : FN s (R_weight s) := FN.res eq_fun (Or.inl rfl) hJ (fun _ => hJ)
theorem fn_isShut {s : SG} (hJ : JS s) : FN s (R_isShut s) := FN.res eq_fun (Or.inl rfl) hJ (fun _ => hJ)
theorem fn_assembled {s : SG} (hJ : JS s) (p1 : Int32) : FN s (R_assembled s p1) := FN.res eq_fun (Or.inl rfl) hJ (fun _ => hJ)
theorem isP_lt {n : Nat} {own : Nat → Nat} {p : Int32} (hn : n ≤ 60) (h : isP n own p = true) : tN p < n := tnP h hn
theorem fn_divide {s : SG} (hI : IS s) (hJ : JS s) (p1 p2 : Int32) : FN s (R_divide s p1 p2) := by
  obtain ⟨hO, hP, hs, hb⟩ := hI
  have hn := hO.2.1
  refine FN.res eq_fun (Or.inr (fun y _ hy => by rw [show y = nI s.1 from hy]; exact nI_no (by omega))) hJ (fun hc => ⟨hJ.1, ?_⟩)
  have hp : isP s.1 s.2.1 p1 = true := by
    cases e : isP s.1 s.2.1 p1
    · unfold oC_divide divC at hc
      rw [e, if_neg (by decide)] at hc
      omega
    · rfl
  exact HK.div hP (isP_lt hn hp) hJ.2
theorem fn_give {s : SG} (hI : IS s) (hJ : JS s) (p1 p2 : Int32) : FN s (R_give s p1 p2) := by
  obtain ⟨hO, hP, hs, hb⟩ := hI
  have hn := hO.2.1
  refine FN.res eq_fun (Or.inr (fun y hc hy => ?_)) hJ (fun hc => ⟨hJ.1, (hJ.2.note).note⟩)
  have hp : isC p1 = true := by
    cases e : isC p1
    · unfold oC_give giveC at hc
      rw [e, Bool.false_and, if_neg (by decide)] at hc
      omega
    · rfl
  rw [show y = nI (s.2.1 (tN p1)) from hy]
  have := hO.2.2.1 _ (tnC hp)
  exact nI_no (by omega)
theorem fn_join {s : SG} (hI : IS s) (hJ : JS s) (p1 p2 : Int32) : FN s (R_join s p1 p2) := by
  refine FN.res eq_fun (Or.inr (fun y hc hy => ?_)) hJ (fun hc => ⟨hJ.1, (hJ.2.note).note⟩)
  rw [show y = nI (cnt (ownJ s.2.1 (tN p2) (tN p1)) (tN p1)) from hy]
  have := cnt_le (ownJ s.2.1 (tN p2) (tN p1)) (tN p1)
  exact nI_no (by omega)
theorem fn_colour {s : SG} (hI : IS s) (hJ : JS s) (p1 p2 : Int32) : FN s (R_colour s p1 p2) := by
  refine FN.res eq_fun (Or.inr (fun y hc hy => ?_)) hJ (fun hc => ⟨hJ.1, hJ.2.col⟩)
  rw [show y = nI (s.2.2.1 (tN p1) 0) from hy]
  have := (hI.2.1.1 (tN p1)).1
  exact nI_no (by omega)
theorem fn_finish {s : SG} (hI : IS s) (hJ : JS s) : FN s (R_finish s) := by
  refine FN.res eq_fun (Or.inr (fun y hc hy => ?_)) hJ (fun hc => ⟨hJ.1, hJ.2.fin s.1⟩)
  rw [show y = nI (finN s.2.1 s.2.2.1 s.1) from hy]
  have h1 : finN s.2.1 s.2.2.1 s.1 ≤ s.1 := fb_ct_le _ _
  have h2 := hI.1.2.1
  exact nI_no (by omega)
theorem inR_t2 {p : Int32} {a b : Nat} (h : (if inR p a b then 0 else 1) = 0) : inR p a b = true := by
  cases e : inR p a b
  · rw [e, if_neg (by decide)] at h
    omega
  · rfl
theorem fn_heart {s : SG} (hI : IS s) (hJ : JS s) (p1 : Int32) : FN s (R_heart s p1) := by
  refine FN.res eq_fun (Or.inr (fun y hc hy => ?_)) hJ (fun hc => ⟨(tnR (by omega) (inR_t2 (a := 1) (b := 5) hc)).2, hJ.2⟩)
  rw [show y = nI s.2.2.2.1 from hy]
  have h2 := hJ.1
  exact nI_no (by omega)
theorem fn_sheet {s : SG} (hI : IS s) (hJ : JS s) (p1 : Int32) : FN s (R_sheet s p1) := by
  refine FN.res eq_fun (Or.inr (fun y hc hy => ?_)) hJ (fun hc => ⟨hJ.1, hJ.2⟩)
  rw [show y = nI s.2.2.2.2.1 from hy]
  have h2 := hI.2.2.1
  exact nI_no (by omega)
theorem fn_bar {s : SG} (hI : IS s) (hJ : JS s) (p1 : Int32) : FN s (R_bar s p1) := by
  refine FN.res eq_fun (Or.inr (fun y hc hy => ?_)) hJ (fun hc => ⟨hJ.1, hJ.2⟩)
  rw [show y = bI (s.2.2.2.2.2 (tN p1)) from hy]
  cases s.2.2.2.2.2 (tN p1) <;> decide
theorem fn_paint {s : SG} (hI : IS s) (hJ : JS s) (p1 p2 : Int32) : FN s (R_paint s p1 p2) := by
  have h2 := (hI.2.1.1 (tN p1)).2.2.1
  refine FN.res eq_fun (Or.inr (fun y hc hy => ?_)) hJ (fun hc => ⟨hJ.1, hJ.2.paint ?_⟩)
  · rw [show y = nI (s.2.2.1 (tN p1) 2 + 1) from hy]
    exact nI_no (by omega)
  · have g : ¬ s.2.2.1 (tN p1) 2 = 5 := fun z => by
      have hc : paintC s.1 s.2.1 s.2.2.1 p1 p2 = 0 := hc
      unfold paintC at hc
      rw [z] at hc
      revert hc
      split
      · split
        · rw [if_pos rfl]; omega
        · omega
      · omega
    omega
theorem fn_fire {s : SG} (hI : IS s) (hJ : JS s) (p1 p2 : Int32) : FN s (R_fire s p1 p2) := by
  have h2 := (hI.2.1.1 (tN p1)).2.2.1
  refine FN.res eq_fun (Or.inr (fun y hc hy => ?_)) hJ (fun hc => ⟨hJ.1, (hJ.2.fir h2).note⟩)
  rw [show y = nI (firN s.2.2.1 (tN p1) (tN p2) (s.2.2.1 (tN p1) 2)) from hy]
  have h1 : firN s.2.2.1 (tN p1) (tN p2) (s.2.2.1 (tN p1) 2) ≤ s.2.2.1 (tN p1) 2 := fb_ct_le _ _
  exact nI_no (by omega)
theorem fn_crack {s : SG} (hI : IS s) (hJ : JS s) (p1 : Int32) : FN s (R_crack s p1) := by
  have hn := hI.1.2.1
  refine FN.res eq_fun (Or.inr (fun y hc hy => ?_)) hJ (fun hc => ⟨hJ.1, (hJ.2.st (by omega)).note⟩)
  have hp : isC p1 = true := by
    cases e : isC p1
    · unfold oC_crack at hc
      rw [e, if_neg (by decide)] at hc
      omega
    · rfl
  rw [show y = nI (s.2.1 (tN p1)) from hy]
  have := hI.1.2.2.1 _ (tnC hp)
  exact nI_no (by omega)
theorem fn_mend {s : SG} (hI : IS s) (hJ : JS s) (p1 : Int32) : FN s (R_mend s p1) := by
  have hn := hI.1.2.1
  refine FN.res eq_fun (Or.inr (fun y hc hy => ?_)) hJ (fun hc => ⟨hJ.1, (hJ.2.st (by omega)).note⟩)
  rw [show y = nI (brk s.2.1 (noteP (st2 s.2.2.1 (tN p1) 1 2) (tN p1) 8) s.1) from hy]
  have h1 : brk s.2.1 (noteP (st2 s.2.2.1 (tN p1) 1 2) (tN p1) 8) s.1 ≤ s.1 := fb_ct_le _ _
  exact nI_no (by omega)
theorem fn_replace {s : SG} (hI : IS s) (hJ : JS s) (p1 p2 : Int32) : FN s (R_replace s p1 p2) := by
  refine FN.res eq_fun (Or.inr (fun y hc hy => ?_)) hJ (fun hc => ⟨hJ.1, hJ.2.repl⟩)
  rw [show y = nI (s.2.2.1 (tN p1) 0) from hy]
  have := (hI.2.1.1 (tN p1)).1
  exact nI_no (by omega)
theorem fn_act {s : SG} (hI : IS s) (hJ : JS s) (v e : Int32) : FN s (ACT s v e) := by
  obtain ⟨j, hj, h⟩ := low_32 v
  rw [ACT_at hj h]
  have hj32 : j = 0 ∨ j = 1 ∨ j = 2 ∨ j = 3 ∨ j = 4 ∨ j = 5 ∨ j = 6 ∨ j = 7 ∨ j = 8 ∨ j = 9 ∨ j = 10 ∨ j = 11 ∨ j = 12 ∨ j = 13 ∨ j = 14 ∨ j = 15 ∨ j = 16 ∨ j = 17 ∨ j = 18 ∨ j = 19 ∨ j = 20 ∨ j = 21 ∨ j = 22 ∨ j = 23 ∨ j = 24 ∨ j = 25 ∨ j = 26 ∨ j = 27 ∨ j = 28 ∨ j = 29 ∨ j = 30 ∨ j = 31 := by omega
  rcases hj32 with rfl | rfl | rfl | rfl | rfl | rfl | rfl | rfl | rfl | rfl | rfl | rfl | rfl | rfl | rfl | rfl | rfl | rfl | rfl | rfl | rfl | rfl | rfl | rfl | rfl | rfl | rfl | rfl | rfl | rfl | rfl | rfl
  · rw [aN_0]
    exact fn_divide hI hJ _ _
  · rw [aN_1]
    exact fn_divide hI hJ _ _
  · rw [aN_2]
    exact fn_divide hI hJ _ _
  · rw [aN_3]
    exact fn_divide hI hJ _ _
  · rw [aN_4]
    exact fn_divide hI hJ _ _
  · rw [aN_5]
    exact fn_give hI hJ _ _
  · rw [aN_6]
    exact fn_give hI hJ _ _
  · rw [aN_7]
    exact fn_give hI hJ _ _
  · rw [aN_8]
    exact fn_give hI hJ _ _
  · rw [aN_9]
    exact fn_join hI hJ _ _
  · rw [aN_10]
    exact fn_colour hI hJ _ _
  · rw [aN_11]
    exact fn_colour hI hJ _ _
  · rw [aN_12]
    split
    · exact fn_finish hI hJ
    · exact fn_heart hI hJ _
  · rw [aN_13]
    exact fn_sheet hI hJ _
  · rw [aN_14]
    exact fn_bar hI hJ _
  · rw [aN_15]
    exact fn_paint hI hJ _ _
  · rw [aN_16]
    exact fn_paint hI hJ _ _
  · rw [aN_17]
    exact fn_fire hI hJ _ _
  · rw [aN_18]
    exact fn_crack hI hJ _
  · rw [aN_19]
    exact fn_crack hI hJ _
  · rw [aN_20]
    exact fn_mend hI hJ _
  · rw [aN_21]
    exact fn_replace hI hJ _ _
  · rw [aN_22]
    split
    · exact fn_bestLine hJ _
    · exact fn_pieceOf hJ _
  · rw [aN_23]
    split
    · exact fn_assembled hJ _
    · exact fn_history hJ _ _
  · rw [aN_24]
    split
    · exact fn_laid hJ _
    · exact fn_crosses hJ _
  · rw [aN_25]
    exact fn_bends hJ _ _
  · rw [aN_26]
    split
    · exact fn_piece hJ _ _
    · exact fn_history hJ _ _
  · rw [aN_27]
    exact fn_floor hJ _ _ _
  · rw [aN_28]
    exact fn_floor hJ _ _ _
  · rw [aN_29]
    exact fn_floor hJ _ _ _
  · rw [aN_30]
    exact fn_floor hJ _ _ _
  · rw [aN_31]
    exact fn_floor hJ _ _ _
