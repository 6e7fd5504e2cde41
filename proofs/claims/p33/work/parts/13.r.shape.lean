/-! what stays true of the cells; the class: piece, bestLine, give, join -/
theorem Rch.mono {S S' : Nat → Bool} {a b : Nat} (h : ∀ c, c < 256 → S c = true → S' c = true) (H : Rch S a b) : Rch S' a b := fun T ha hcl => H T ha (fun c d hc hd hT hadj hSd => hcl c d hc hd hT hadj (h d hd hSd))
theorem one_union {S T : Nat → Bool} (h1 : One S) (h2 : One T) {c d : Nat} (hc : c < 256) (hd : d < 256) (hSc : S c = true) (hTd : T d = true) (hadj : adj c d) : One (fun x => S x || T x) := by
  obtain ⟨r, hr, hSr, hall⟩ := id h1
  refine ⟨r, hr, by show (S r || T r) = true; rw [hSr]; rfl, fun b hb hSb => ?_⟩
  have m1 : ∀ c, c < 256 → S c = true → (S c || T c) = true := fun c _ h => by rw [h]; rfl
  have m2 : ∀ c, c < 256 → T c = true → (S c || T c) = true := fun c _ h => by rw [h, Bool.or_true]
  have hSb : (S b || T b) = true := hSb
  rw [Bool.or_eq_true] at hSb
  rcases hSb with g | g
  · exact (hall b hb g).mono m1
  · exact (((hall c hc hSc).mono m1).step hc hd hadj (by rw [hTd, Bool.or_true])).trans ((h2.all hb hTd hd g).mono m2)
theorem one_single {c : Nat} (hc : c < 256) : One (fun x => decide (x = c)) := ⟨c, hc, decide_eq_true rfl, fun b _ hb => by rw [of_decide_eq_true hb]; exact Rch.rf⟩
theorem pres_cong {own own' : Nat → Nat} {p : Nat} (h : ∀ c, c < 256 → (own' c = p ↔ own c = p)) : pres own' p = pres own p := by
  unfold pres cnt
  rw [fb_ct_cong fun c hc => decide_eq_decide.mpr (h c hc)]
theorem inv_same {n : Nat} {own own' : Nat → Nat} {p : Nat} (hO : InvO n own) (h : ∀ c, c < 256 → (own' c = p ↔ own c = p)) (hp : pres own' p = true) : One (fun c => decide (own' c = p)) := by
  rw [pres_cong h] at hp
  exact (One.congr fun c hc => decide_eq_decide.mpr (h c hc)).mpr (hO.2.2.2 p hp)
theorem inv_G {n c q : Nat} {own : Nat → Nat} (hO : InvO n own) (hc : c < 256) (hq : q < n) (hpq : pres own q = true) (hne : own c ≠ q) (hb : besB own c q = true) (h1 : One (remS own c)) : InvO n (ownG own c q) := by
  obtain ⟨d, hd, hadj, hod⟩ := (besB_iff hc).mp hb
  refine ⟨hO.1, hO.2.1, fun x hx => ?_, fun p hp => ?_⟩
  · unfold ownG
    split
    · exact hq
    · exact hO.2.2.1 x hx
  · by_cases e1 : p = q
    · subst e1
      refine (One.congr fun x hx => ?_).mp (one_union (hO.2.2.2 p hpq) (one_single hc) hd hc (decide_eq_true hod) (decide_eq_true rfl) (adj_symm hadj))
      unfold ownG
      by_cases e : x = c
      · subst e; rw [decide_eq_true rfl, if_pos rfl, decide_eq_true rfl, Bool.or_true]
      · rw [decide_eq_false e, if_neg e, Bool.or_false]
    · by_cases e2 : p = own c
      · subst e2
        refine (One.congr fun x hx => ?_).mp h1
        unfold remS ownG
        by_cases e : x = c
        · subst e; rw [if_pos rfl, decide_eq_false (show ¬ q = own x from fun z => e1 z.symm)]; simp
        · rw [if_neg e, decide_eq_true (show x ≠ c from e), Bool.and_true]
      · refine inv_same hO (fun x hx => ?_) hp
        unfold ownG
        by_cases e : x = c
        · subst e; rw [if_pos rfl]; exact ⟨fun z => absurd z.symm e1, fun z => absurd z.symm e2⟩
        · rw [if_neg e]
theorem inv_J {n a b : Nat} {own : Nat → Nat} (hO : InvO n own) (ha : a < n) (hb : b < n) (hpa : pres own a = true) (hpb : pres own b = true) (hne : a ≠ b) (hadj : adjB own a b = true) : InvO n (ownJ own b a) := by
  obtain ⟨c, hc, g⟩ := anyB_iff.mp hadj
  rw [Bool.and_eq_true, decide_eq_true_iff] at g
  obtain ⟨d, hd, hcd, hod⟩ := (besB_iff hc).mp g.2
  refine ⟨hO.1, hO.2.1, fun x hx => ?_, fun p hp => ?_⟩
  · unfold ownJ
    split
    · exact ha
    · exact hO.2.2.1 x hx
  · by_cases e1 : p = a
    · subst e1
      refine (One.congr fun x hx => ?_).mp (one_union (hO.2.2.2 p hpa) (hO.2.2.2 b hpb) hc hd (decide_eq_true g.1) (decide_eq_true hod) hcd)
      unfold ownJ
      by_cases e : own x = b
      · rw [if_pos e, decide_eq_true e, decide_eq_true rfl, Bool.or_true]
      · rw [if_neg e, decide_eq_false e, Bool.or_false]
    · by_cases e2 : p = b
      · exfalso
        subst e2
        unfold pres cnt at hp
        rw [decide_eq_true_iff, fb_ct_pos] at hp
        obtain ⟨x, hx, h⟩ := hp
        have h := of_decide_eq_true h
        unfold ownJ at h
        by_cases e : own x = p
        · rw [if_pos e] at h; exact e1 h.symm
        · rw [if_neg e] at h; exact e h
      · refine inv_same hO (fun x hx => ?_) hp
        unfold ownJ
        by_cases e : own x = b
        · rw [if_pos e]; exact ⟨fun z => absurd z.symm e1, fun z => absurd (z.symm.trans e) e2⟩
        · rw [if_neg e]
theorem inv_D {n q line : Nat} {own : Nat → Nat} (hO : InvO n own) (hn : n < 60) (hq : q < n) (h2 : twoB (ofP own q) line = true) : InvO (n + 1) (ownD own q line n 256) := by
  unfold twoB at h2
  rw [Bool.and_eq_true, dP_iff, dP_iff] at h2
  refine ⟨by omega, by omega, fun x hx => ?_, fun p hp => ?_⟩
  · unfold ownD
    split
    · omega
    · have := hO.2.2.1 x hx; omega
  · by_cases e1 : p = n
    · subst e1
      refine (One.congr fun x hx => ?_).mp h2.1
      have hx1 := hO.2.2.1 x hx
      unfold sideS ofP ownD
      by_cases e : own x = q
      · by_cases e3 : byd x line = true
        · rw [if_pos ⟨hx, e, e3⟩, decide_eq_true e, decide_eq_true e3, decide_eq_true rfl]; rfl
        · rw [if_neg (fun z => e3 z.2.2), decide_eq_false e3, decide_eq_false (show ¬ own x = p by omega), Bool.and_false]
      · rw [if_neg (fun z => e z.2.1), decide_eq_false e, decide_eq_false (show ¬ own x = p by omega), Bool.false_and]
    · by_cases e2 : p = q
      · subst e2
        refine (One.congr fun x hx => ?_).mp h2.2
        unfold sideS ofP ownD
        by_cases e : own x = p
        · by_cases e3 : byd x line = true
          · rw [if_pos ⟨hx, e, e3⟩, decide_eq_false (show ¬ byd x line = false from fun z => by rw [e3] at z; cases z), decide_eq_false (show ¬ n = p from fun z => e1 z.symm), Bool.and_false]
          · rw [if_neg (fun z => e3 z.2.2), decide_eq_true e]
            have : byd x line = false := by
              cases g : byd x line
              · rfl
              · exact absurd g e3
            rw [decide_eq_true this]; rfl
        · rw [if_neg (fun z => e z.2.1), decide_eq_false e, Bool.false_and]
      · refine inv_same hO (fun x hx => ?_) hp
        unfold ownD
        by_cases e : x < 256 ∧ own x = q ∧ byd x line = true
        · rw [if_pos e]; exact ⟨fun z => absurd z.symm e1, fun z => absurd (z.symm.trans e.2.1) e2⟩
        · rw [if_neg e]
section OPS2
variable {n cap : Nat} {own : Nat → Nat} {pd : Nat → Nat → Nat} {of wr wre nr nre fr fre : Nat → Int32} {el : Nat → Option Nat} {qc qs ql qt qo : Nat → Int32} {qh qf qth : Nat → Nat → Int32}
theorem l_piece {p k : Int32} {post : Int32 → (Nat → Int32) → Prop} {px : String → (Nat → Int32) → Prop} (hO : InvO n own) (hP : InvP n pd) (ho : RO of own) (hc : n ≤ cap) (hc2 : cap < 2147483648) (c0 : CP qc pd 0 n) (c1 : CP qs pd 1 n) (c2 : CP ql pd 2 n) (c4 : CP qo pd 4 n) (c10 : CQ qf pd 10 5 n)
    (h0 : pieC n own p k ≠ 0 → px (x12 (pieC n own p k)) wr)
    (h1 : pieC n own p k = 0 → isP n own p = true → inR k 0 9 = true → ∀ wr', post (nI (pieA own pd (tN p) (tN k))) wr') : wp_X4_piece cap n of el (nI n) wr qc qs ql qo qf p k post px := by
  unfold wp_X4_piece
  refine k_thePiece hO ho hc hc2 (fun e => ?_) (fun e => ?_)
  · have eC : pieC n own p k = 1 := by unfold pieC; rw [e]; rfl
    rw [eC] at h0; exact h0 (by decide)
  obtain ⟨q, hq, hq60, rfl, hpr⟩ := isP_t e hO.2.1
  rw [tN_nI (by omega)] at h1 ⊢
  have eC : pieC n own (nI q) k = if inR k 0 9 then 0 else 2 := by unfold pieC; rw [e]; rfl
  rw [eC] at h0 h1
  cases e2 : inR k 0 9
  · rw [e2, if_neg (by decide)] at h0
    have h0 := h0 (by decide)
    unfold inR at e2
    rw [decide_eq_false_iff_not] at e2
    have bad : ∀ (a : Nat) (P : Prop), a < 10 → (k = nI a → P) := fun a P ha z => by
      rw [z, nI_toInt (by omega)] at e2
      exact absurd ⟨by omega, by omega⟩ e2
    exact ⟨bad 0 _ (by omega), bad 1 _ (by omega), bad 2 _ (by omega), bad 3 _ (by omega), bad 4 _ (by omega), bad 5 _ (by omega), bad 6 _ (by omega), bad 7 _ (by omega), bad 8 _ (by omega), bad 9 _ (by omega), fun _ _ _ _ _ _ _ _ _ _ => h0⟩
  · rw [e2, if_pos rfl] at h1
    have h1 := h1 rfl e rfl
    obtain ⟨i, rfl, hi1, hi2⟩ := inR_t e2
    rw [tN_nI (by omega)] at h1
    have shape : ∀ (P : (Nat → Int32) → Prop), (∀ wr', rr wr' (ofP own q) → P wr') → wp_X4_shapeOf of wr (nI q) P := fun P g => by
      unfold wp_X4_shapeOf
      exact k_trace hO ho hq60 g
    rw [c0 q hq, c1 q hq, c2 q hq, c4 q hq]
    have b4 := (hP.1 q).2.2.2.2
    have eqs : ∀ a, a < 10 → (nI i = nI a) = (i = a) := fun a ha => nI_inj (by omega) (by omega)
    have lay : ∀ its, its < 1000 → i = its + 7 → 1 ≤ its → wp_X2_layersThatAre (qf q) (nI (pd q 2)) (nI its) (fun r => post r wr) := fun its h2 h3 h4 => by
      refine k_layersThatAre (p := q) (n := n) hP h2 rfl (c10 q hq) ?_
      have g := h1 wr
      unfold pieA at g
      rw [if_neg (by omega), if_neg (by omega), if_neg (by omega), if_neg (by omega), if_neg (by omega), if_neg (by omega), if_neg (by omega), if_neg (by omega), show i - 7 = its by omega] at g
      exact g
    rw [show (0 : Int32) = nI 0 from rfl, show (1 : Int32) = nI 1 from rfl, show (2 : Int32) = nI 2 from rfl, show (3 : Int32) = nI 3 from rfl, show (4 : Int32) = nI 4 from rfl, show (5 : Int32) = nI 5 from rfl, show (6 : Int32) = nI 6 from rfl, show (7 : Int32) = nI 7 from rfl, show (8 : Int32) = nI 8 from rfl, show (9 : Int32) = nI 9 from rfl]
    rw [eqs 0 (by omega), eqs 1 (by omega), eqs 2 (by omega), eqs 3 (by omega), eqs 4 (by omega), eqs 5 (by omega), eqs 6 (by omega), eqs 7 (by omega), eqs 8 (by omega), eqs 9 (by omega)]
    refine ⟨fun z => ?_, fun z => ?_, fun z => ?_, fun z => ?_, fun z => ?_, fun z => ?_, fun z => ?_, fun z => ?_, fun z => ?_, fun z => ?_, fun z0 z1 z2 z3 z4 z5 z6 z7 z8 z9 => absurd hi2 (by omega)⟩
    · subst z; exact shape _ fun wr' hw => k_cellCount hw (h1 wr')
    · subst z; exact h1 wr
    · subst z
      have h1 : post (nI (pd q 4)) wr := h1 wr
      refine nI_br (by omega) (by omega) ?_
      split
      · rename_i e; rw [e] at h1; exact h1
      · rename_i e
        have : pd q 4 = 1 := by omega
        rw [this] at h1; exact h1
    · subst z; exact h1 wr
    · subst z; exact shape _ fun wr' hw => k_cutFault hw (h1 wr')
    · subst z; exact shape _ fun wr' hw => k_height hw (h1 wr')
    · subst z; exact shape _ fun wr' hw => k_width hw (h1 wr')
    · subst z; exact h1 wr
    · exact lay 1 (by omega) (by omega) (by omega)
    · exact lay 2 (by omega) (by omega) (by omega)
theorem k_isLine {p : Int32} {post : Int32 → Prop} (h : post (bI (lineB p.toInt))) : wp_X4_isLine p post := by
  unfold wp_X4_isLine
  have r := fb_rng p
  refine k_isRowLine ?_
  rw [bI_br]
  unfold lineB at h
  by_cases c : 0 ≤ p.toInt ∧ p.toInt < 15
  · rw [decide_eq_true c, if_pos rfl]
    rw [decide_eq_true (Or.inl ⟨by omega, by omega⟩)] at h; exact h
  · rw [decide_eq_false c, if_neg (by decide)]
    refine k_isRowLine ?_
    rw [bI_br]
    obtain ⟨z, hz, rfl⟩ := ex_z p
    rw [iI_toInt hz] at h c
    by_cases c2 : 16 ≤ z ∧ z ≤ 30
    · have e : iI z - 16 = iI (z - 16) := by rw [show (16 : Int32) = iI 16 from rfl, iI_sub]
      rw [e, iI_toInt (by omega), decide_eq_true (show 0 ≤ z - 16 ∧ z - 16 < 15 by omega), if_pos rfl]
      rw [decide_eq_true (Or.inr ⟨by omega, by omega⟩)] at h; exact h
    · rw [decide_eq_false (show ¬ ((0 ≤ z ∧ z ≤ 14) ∨ (16 ≤ z ∧ z ≤ 30)) by omega)] at h
      have e : decide (0 ≤ (iI z - 16).toInt ∧ (iI z - 16).toInt < 15) = false := by
        refine decide_eq_false fun g => ?_
        have k16 : (16 : Int32).toInt = 16 := rfl
        have h16 : (iI z - 16 + 16).toInt = (iI z - 16).toInt + (16 : Int32).toInt := fb_addI (by rw [k16]; omega) (by rw [k16]; omega)
        rw [Int32.sub_add_cancel, iI_toInt hz, k16] at h16
        omega
      rw [e, if_neg (by decide)]; exact h
theorem k_partsAreGood {line : Nat} {S : Nat → Bool} {w : Nat → Int32} {post : Int32 → (Nat → Int32) → (Nat → Int32) → (Nat → Int32) → (Nat → Int32) → Prop} (hl : line < 32) (hS : rr w S) (h : ∀ nr' nre' fr' fre', post (bI (goodB S line)) nr' nre' fr' fre') : wp_X4_partsAreGood w nr nre fr fre (nI line) post := by
  unfold wp_X4_partsAreGood wp_X4_splitWhole
  unfold goodB at h
  refine k_takeSide (b := false) hl hS fun nr1 g1 => ?_
  refine k_takeSide (b := true) hl hS fun fr1 g2 => ?_
  refine k_isGoodPart g1 fun nre1 => ?_
  rw [bI_br]
  cases e1 : (decide (cutN (sideS S line false) = 0) && dP (One (sideS S line false)))
  · rw [if_neg (by decide)]
    have h := h nr1 nre1 fr1 fre
    have e : (dP (One (sideS S line true)) && decide (cutN (sideS S line true) = 0) && dP (One (sideS S line false)) && decide (cutN (sideS S line false) = 0)) = false := by
      revert e1
      cases decide (cutN (sideS S line false) = 0) <;> cases dP (One (sideS S line false)) <;> simp
    rw [e] at h; exact h
  · rw [if_pos rfl]
    refine k_isGoodPart g2 fun fre1 => ?_
    rw [bI_br]
    have h := h nr1 nre1 fr1 fre1
    have e : (dP (One (sideS S line true)) && decide (cutN (sideS S line true) = 0) && dP (One (sideS S line false)) && decide (cutN (sideS S line false) = 0)) = (decide (cutN (sideS S line true) = 0) && dP (One (sideS S line true))) := by
      revert e1
      cases decide (cutN (sideS S line false) = 0) <;> cases dP (One (sideS S line false)) <;> cases decide (cutN (sideS S line true) = 0) <;> cases dP (One (sideS S line true)) <;> simp
    rw [e] at h
    cases e2 : (decide (cutN (sideS S line true) = 0) && dP (One (sideS S line true))) <;> rw [e2] at h <;> exact h
theorem al_le {S : Nat → Bool} {k : Nat} (h : k < 31) (h2 : k ≠ 15) : alN S k ≤ 16 := by
  rcases Nat.lt_or_ge k 15 with g | g
  · rw [al_row g]; exact fb_ct_le _ _
  · obtain ⟨j, rfl⟩ : ∃ j, k = 16 + j := ⟨k - 16, by omega⟩
    rw [al_col (by omega)]; exact fb_ct_le _ _
noncomputable def fewN (S : Nat → Bool) : Option Nat → Nat
  | none => 256
  | some b => alN S b
theorem l_bestLine {p : Int32} {post : Int32 → (Nat → Int32) → (Nat → Int32) → (Nat → Int32) → (Nat → Int32) → (Nat → Int32) → Prop} {px : String → (Nat → Int32) → (Nat → Int32) → (Nat → Int32) → (Nat → Int32) → (Nat → Int32) → Prop} (hO : InvO n own) (ho : RO of own) (hc : n ≤ cap) (hc2 : cap < 2147483648)
    (h0 : isP n own p = false → px xIOB wr nr nre fr fre)
    (h1 : isP n own p = true → ∀ wr' nr' nre' fr' fre', post (optI (bestB (ofP own (tN p)) 31)) wr' nr' nre' fr' fre') : wp_X4_bestLine cap n of el (nI n) wr nr nre fr fre p post px := by
  unfold wp_X4_bestLine
  refine k_thePiece hO ho hc hc2 h0 fun e => ?_
  have h1 := h1 e
  obtain ⟨q, hq, hq60, rfl, hpr⟩ := isP_t e hO.2.1
  rw [tN_nI (by omega)] at h1
  obtain ⟨S, hS⟩ : ∃ S, S = ofP own q := ⟨_, rfl⟩
  rw [← hS] at h1
  refine k_trace hO ho hq60 fun w1 hw1 => ?_
  rw [← hS] at hw1
  refine lp_cnt 32 (fun k (t : (Nat → Int32) × (Nat → Int32) × (Nat → Int32) × (Nat → Int32)) => (optI (bestB S (min k 31)), nI (fewN S (bestB S (min k 31))), nI k, w1, t)) (fun _ _ => True) ?_ ?_ 0 (nr, nre, fr, fre) (by omega) trivial
  · rintro K k ⟨a1, a2, a3, a4⟩ hk - hK
    have hK := fun t => hK t trivial
    show wp_X4_bestLine_27 _ _ _ _ _ _ _ _ _ _ _ _ _ _ _ _ _ _ _ _ _ _
    unfold wp_X4_bestLine_27
    dsimp only
    rw [nI_1 k]
    refine brle2 (a := 32) (by omega) (by omega) (fun z => absurd z (by omega)) (fun _ => k_isLine ?_)
    rw [bI_br, nI_toInt (by omega)]
    by_cases g : k < 31 ∧ k ≠ 15
    · have el : lineB (k : Int) = true := by
        unfold lineB
        exact decide_eq_true (by omega)
      rw [el, if_pos rfl]
      rw [show min (k + 1) 31 = k + 1 by omega] at hK
      rw [show min k 31 = k by omega]
      have al := al_le (S := S) g.1 g.2
      have eb : bestB S (k + 1) = if goodB S k then (match bestB S k with
        | none => some k
        | some b => if alN S k < alN S b then some k else some b) else bestB S k := by
        rw [bestB, decide_eq_true g.2, Bool.true_and]
        rfl
      have fl : fewN S (bestB S k) ≤ 256 := by
        cases hb : bestB S k with
        | none => exact Nat.le_refl _
        | some b => exact fb_ct_le _ _
      refine k_sidesAlong hw1 g.1 g.2 (brle2 (by omega) (by omega) (fun z => ?_) (fun z => k_partsAreGood (by omega) hw1 fun b1 b2 b3 b4 => ?_))
      · have e2 : bestB S (k + 1) = bestB S k := by
          rw [eb]
          cases hb : bestB S k with
          | none =>
            rw [hb] at z
            have z : 256 ≤ alN S k := z
            omega
          | some b =>
            rw [hb] at z
            have z : alN S b ≤ alN S k := z
            dsimp only
            rw [if_neg (show ¬ alN S k < alN S b by omega)]
            split <;> rfl
        rw [← e2]
        exact hK (a1, a2, a3, a4)
      · rw [bI_br]
        cases eg : goodB S k
        · rw [if_neg (by decide)]
          have e2 : bestB S (k + 1) = bestB S k := by rw [eb, eg]; rfl
          rw [← e2]
          exact hK (b1, b2, b3, b4)
        · rw [if_pos rfl]
          have e2 : bestB S (k + 1) = some k := by
            rw [eb, eg, if_pos rfl]
            cases hb : bestB S k with
            | none => rfl
            | some b =>
              rw [hb] at z
              have z : ¬ alN S b ≤ alN S k := z
              dsimp only
              rw [if_pos (by omega)]
          refine k_sidesAlong hw1 g.1 g.2 ?_
          rw [e2] at hK
          exact hK (b1, b2, b3, b4)
    · have el : lineB (k : Int) = false := by
        unfold lineB
        exact decide_eq_false (by omega)
      rw [el, if_neg (by decide)]
      have e2 : bestB S (min (k + 1) 31) = bestB S (min k 31) := by
        by_cases g2 : k = 15
        · subst g2
          show bestB S 16 = bestB S 15
          rw [bestB]; rfl
        · rw [show k = 31 by omega]; rfl
      rw [← e2]
      exact hK (a1, a2, a3, a4)
  · rintro K ⟨a1, a2, a3, a4⟩ -
    show wp_X4_bestLine_27 _ _ _ _ _ _ _ _ _ _ _ _ _ _ _ _ _ _ _ _ _ _
    unfold wp_X4_bestLine_27
    dsimp only
    exact ⟨fun _ => h1 _ _ _ _ _, fun z => absurd (show (32 : Int32) ≤ nI 32 by decide) z⟩
theorem l_give {c p : Int32} {post : Int32 → (Nat → Int32) → (Nat → Int32) → (Nat → Int32) → (Nat → Int32) → (Nat → Nat → Int32) → Prop} {px : String → (Nat → Int32) → (Nat → Int32) → (Nat → Int32) → (Nat → Int32) → (Nat → Nat → Int32) → Prop} (hO : InvO n own) (hP : InvP n pd) (ho : RO of own) (hc : n ≤ cap) (hc2 : cap < 2147483648) (c3 : CP qt pd 3 n) (c4 : CP qo pd 4 n) (c15 : CQ qth pd 15 20 n)
    (h0 : giveC n own pd c p ≠ 0 → ∀ wr' wre', px (x13 (giveC n own pd c p)) of wr' wre' qt qth)
    (h1 : giveC n own pd c p = 0 → isC c = true → isP n own p = true → InvO n (ownG own (tN c) (tN p)) → ∀ pd', pd' = noteP (noteP pd (own (tN c)) 2) (tN p) 2 → ∀ of' wr' wre' qt' qth', RO of' (ownG own (tN c) (tN p)) → CP qt' pd' 3 n → CQ qth' pd' 15 20 n → post (nI (own (tN c))) of' wr' wre' qt' qth') : wp_X4_give cap n of el (nI n) wr wre qt qo qth c p post px := by
  have hn := hO.2.1
  unfold wp_X4_give
  refine k_theOwner ho (fun e => ?_) (fun e => ?_)
  · have eC : giveC n own pd c p = 1 := by unfold giveC; rw [e]; rfl
    rw [eC] at h0; exact h0 (by decide) _ _
  obtain ⟨a, rfl, ha⟩ := isC_t e
  rw [tN_nI (by omega)] at h1 ⊢
  have hoa := hO.2.2.1 a ha
  have epa : pres own (own a) = true := decide_eq_true (cnt_pos ha)
  have e1 : isP n own (nI (own a)) = true := by rw [isP_nI hoa hn]; exact epa
  refine k_thePiece hO ho hc hc2 (fun e2 => by rw [e1] at e2; exact absurd e2 (by decide)) (fun _ => ?_)
  rw [tN_nI (by omega)]
  refine k_thePiece hO ho hc hc2 (fun e2 => ?_) (fun e2 => ?_)
  · have eC : giveC n own pd (nI a) p = 1 := by unfold giveC; rw [e2, Bool.and_false]; rfl
    rw [eC] at h0; exact h0 (by decide) _ _
  obtain ⟨q, hq, hq60, rfl, hpr⟩ := isP_t e2 hO.2.1
  rw [tN_nI (by omega)] at h1 ⊢
  have eC : giveC n own pd (nI a) (nI q) = if decide (own a ≠ q) && besB own a q && decide (pd (own a) 4 = 0) && decide (pd q 4 = 0) && dP (One (remS own a)) then 0 else 2 := by
    unfold giveC; rw [e, e2, tN_nI (by omega), tN_nI (by omega)]; rfl
  rw [eC] at h0 h1
  have bad : (if (decide (own a ≠ q) && besB own a q && decide (pd (own a) 4 = 0) && decide (pd q 4 = 0) && dP (One (remS own a))) = true then 0 else 2) = 2 → ∀ w1 w2, px xISE of w1 w2 qt qth := fun g w1 w2 => by
    rw [g] at h0
    exact h0 (by decide) w1 w2
  have b4a := (hP.1 (own a)).2.2.2.2
  have b4q := (hP.1 q).2.2.2.2
  have stop : (if (decide (own a ≠ q) && besB own a q && decide (pd (own a) 4 = 0) && decide (pd q 4 = 0) && dP (One (remS own a))) = true then 0 else 2) = 2 → wp_X4_give_53 cap n of el (nI n) wr wre qt qo qth (nI a) (nI q) post px := fun g => bad g _ _
  refine breq2 (by omega) (by omega) (fun z => stop (by rw [decide_eq_false (show ¬ own a ≠ q from fun w => w z)]; rfl)) (fun hne => ?_)
  rw [decide_eq_true (show own a ≠ q from hne), Bool.true_and] at bad stop h1
  rw [c4 _ hoa, c4 _ hq]
  refine breq2 (b := 0) (by omega) (by omega) (fun z4 => ?_) (fun z => stop (by rw [decide_eq_false z, Bool.and_false]; rfl))
  rw [decide_eq_true z4, Bool.and_true] at bad stop h1
  refine breq2 (b := 0) (by omega) (by omega) (fun z5 => ?_) (fun z => stop (by rw [decide_eq_false z, Bool.and_false]; rfl))
  rw [decide_eq_true z5, Bool.and_true] at bad stop h1
  refine k_touches hO ho ha hq60 ?_
  rw [bI_br]
  cases eB : besB own a q <;> rw [eB] at bad stop h1
  · exact stop rfl
  rw [if_pos rfl]
  refine k_trace hO ho (by omega) fun w1 hw1 => k_leave ha hw1 fun w2 hw2 => ?_
  refine k_isOnePart (S := remS own a) hw2 fun w3 => ?_
  rw [bI_br]
  cases eO : dP (One (remS own a)) <;> rw [eO] at bad h1
  · exact bad rfl _ _
  rw [if_pos rfl]
  have hinv := inv_G hO ha hq hpr hne eB (dP_iff.mp eO)
  have h1 := h1 rfl e e2 hinv _ rfl
  refine k_hand ho ha fun of' hof => ?_
  refine k_note (t := 2) hP hoa c3 c15 fun x y g3 g15 => ?_
  exact k_note (t := 2) (hP.note (t := 2) hoa (by omega)) hq g3 g15 fun x2 y2 k3 k15 => h1 _ _ _ _ _ hof k3 k15
theorem l_join {p o : Int32} {post : Int32 → (Nat → Int32) → (Nat → Int32) → (Nat → Int32) → (Nat → Nat → Int32) → Prop} {px : String → (Nat → Int32) → (Nat → Int32) → (Nat → Int32) → (Nat → Nat → Int32) → Prop} (hO : InvO n own) (hP : InvP n pd) (ho : RO of own) (hc : n ≤ cap) (hc2 : cap < 2147483648) (c3 : CP qt pd 3 n) (c4 : CP qo pd 4 n) (c15 : CQ qth pd 15 20 n)
    (h0 : joinC n own pd p o ≠ 0 → px (x13 (joinC n own pd p o)) of wr qt qth)
    (h1 : joinC n own pd p o = 0 → isP n own p = true → isP n own o = true → InvO n (ownJ own (tN o) (tN p)) → ∀ pd', pd' = noteP (noteP pd (tN p) 2) (tN o) 2 → ∀ of' wr' qt' qth', RO of' (ownJ own (tN o) (tN p)) → CP qt' pd' 3 n → CQ qth' pd' 15 20 n → post (nI (cnt (ownJ own (tN o) (tN p)) (tN p))) of' wr' qt' qth') : wp_X4_join cap n of el (nI n) wr qt qo qth p o post px := by
  have hn := hO.2.1
  unfold wp_X4_join
  refine k_thePiece hO ho hc hc2 (fun e => ?_) (fun e1 => ?_)
  · have eC : joinC n own pd p o = 1 := by unfold joinC; rw [e]; rfl
    rw [eC] at h0; exact h0 (by decide)
  obtain ⟨a, ha, ha60, rfl, hpa⟩ := isP_t e1 hO.2.1
  rw [tN_nI (by omega)] at h1 ⊢
  refine k_thePiece hO ho hc hc2 (fun e => ?_) (fun e2 => ?_)
  · have eC : joinC n own pd (nI a) o = 1 := by unfold joinC; rw [e, Bool.and_false]; rfl
    rw [eC] at h0; exact h0 (by decide)
  obtain ⟨b, hb, hb60, rfl, hpb⟩ := isP_t e2 hO.2.1
  rw [tN_nI (by omega)] at h1 ⊢
  have eC : joinC n own pd (nI a) (nI b) = if decide (a ≠ b) && adjB own a b && decide (pd a 4 = 0) && decide (pd b 4 = 0) then 0 else 2 := by
    unfold joinC; rw [e1, e2, tN_nI (by omega), tN_nI (by omega)]; rfl
  rw [eC] at h0 h1
  have b4a := (hP.1 a).2.2.2.2
  have b4b := (hP.1 b).2.2.2.2
  have stop : (if (decide (a ≠ b) && adjB own a b && decide (pd a 4 = 0) && decide (pd b 4 = 0)) = true then 0 else 2) = 2 → wp_X4_join_45 cap n of el (nI n) wr qt qo qth (nI a) (nI b) post px := fun g => by
    rw [g] at h0
    exact h0 (by decide)
  refine breq2 (by omega) (by omega) (fun z => stop (by rw [decide_eq_false (show ¬ a ≠ b from fun w => w z)]; rfl)) (fun hne => ?_)
  rw [decide_eq_true (show a ≠ b from hne), Bool.true_and] at stop h1
  rw [c4 _ ha, c4 _ hb]
  refine breq2 (b := 0) (by omega) (by omega) (fun z4 => ?_) (fun z => stop (by rw [decide_eq_false z, Bool.and_false]; rfl))
  rw [decide_eq_true z4, Bool.and_true] at stop h1
  refine breq2 (b := 0) (by omega) (by omega) (fun z5 => ?_) (fun z => stop (by rw [decide_eq_false z, Bool.and_false]; rfl))
  rw [decide_eq_true z5, Bool.and_true] at stop h1
  refine k_adjoin hO ho ha60 hb60 ?_
  rw [bI_br]
  cases eA : adjB own a b <;> rw [eA] at stop h1
  · exact stop rfl
  rw [if_pos rfl]
  have hinv := inv_J hO ha hb hpa hpb hne eA
  have h1 := h1 rfl e1 e2 hinv _ rfl
  refine k_trace hO ho hb60 fun w1 hw1 => k_hands ho hw1 fun of' hof => ?_
  have hof' : RO of' (ownJ own b a) := fun x hx => by
    rw [hof x hx]
    unfold ownS ownJ ofP
    by_cases e : own x = b
    · rw [if_pos ⟨hx, decide_eq_true e⟩, if_pos e]
    · rw [if_neg (fun z => e (of_decide_eq_true z.2)), if_neg e]
  refine k_note (t := 2) hP ha c3 c15 fun x y g3 g15 => ?_
  refine k_note (t := 2) (hP.note (t := 2) ha (by omega)) hb g3 g15 fun x2 y2 k3 k15 => ?_
  unfold wp_X4_shapeOf
  refine k_trace hinv hof' ha60 fun w2 hw2 => k_cellCount hw2 ?_
  exact h1 _ _ _ _ hof' k3 k15
end OPS2
