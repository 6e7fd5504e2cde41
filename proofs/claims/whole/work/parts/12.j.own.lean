/-! divide -/
def ownD (own : Nat → Nat) (p line f k : Nat) : Nat → Nat := fun x => if x < k ∧ own x = p ∧ byd x line = true then f else own x
theorem ownD_s {own : Nat → Nat} {p line f k : Nat} : ownD own p line f (k + 1) = if own k = p ∧ byd k line = true then ownG (ownD own p line f k) k f else ownD own p line f k := by
  split
  · rename_i e
    funext x
    unfold ownG ownD
    by_cases c : x = k
    · subst c; rw [if_pos ⟨by omega, e⟩, if_pos rfl]
    · rw [if_neg c]
      by_cases c2 : x < k ∧ own x = p ∧ byd x line = true
      · rw [if_pos c2, if_pos ⟨by omega, c2.2⟩]
      · rw [if_neg c2, if_neg (fun z => c2 ⟨by omega, z.2⟩)]
  · rename_i e
    funext x
    unfold ownD
    by_cases c2 : x < k ∧ own x = p ∧ byd x line = true
    · rw [if_pos c2, if_pos ⟨by omega, c2.2⟩]
    · rw [if_neg c2, if_neg (fun z => ?_)]
      by_cases c : x = k
      · subst c; exact e z.2
      · exact c2 ⟨by omega, z.2⟩
noncomputable def divC (n : Nat) (own : Nat → Nat) (pd : Nat → Nat → Nat) (p l : Int32) : Nat :=
  if isP n own p then (if lineB l.toInt then (if decide (pd (tN p) 4 = 0) && decide (n < 60) && twoB (ofP own (tN p)) (tN l) then 0 else 3) else 2) else 1
theorem twoB_congr {P Q : Nat → Bool} (h : ∀ c, c < 256 → P c = Q c) (line : Nat) : twoB P line = twoB Q line := by
  unfold twoB
  have hs : ∀ b c, c < 256 → sideS P line b c = sideS Q line b c := fun b c hc => by unfold sideS; rw [h c hc]
  rw [dP_congr (One.congr (hs true)), dP_congr (One.congr (hs false))]
theorem lineB_t {l : Int32} (h : lineB l.toInt = true) : ∃ k, l = nI k ∧ k < 31 ∧ k ≠ 15 := by
  unfold lineB at h
  rw [decide_eq_true_iff] at h
  refine ⟨l.toInt.toNat, ?_, by omega, by omega⟩
  rw [iI_nat, Int.toNat_of_nonneg (by omega)]
  exact iI_self l
theorem m_divide {n : Nat} {own : Nat → Nat} {pd : Nat → Nat → Nat} {of many colour org things history set seen pile : Nat → Int32} {t p l : Int32} {post : Int32 → Int32 → Int32 → (Nat → Int32) → (Nat → Int32) → (Nat → Int32) → (Nat → Int32) → (Nat → Int32) → (Nat → Int32) → (Nat → Int32) → (Nat → Int32) → Prop}
    (hO : InvO n own) (hP : InvP n pd) (ho : RO of own) (hm : RN many own) (r0 : RP colour pd 0) (r4 : RP org pd 4) (r3 : RP things pd 3) (rh : RQ history pd 15 20)
    (h0 : divC n own pd p l ≠ 0 → ∀ set' seen' pile', post 0 (nI (divC n own pd p l)) (nI n) of many colour things history set' seen' pile')
    (h1 : divC n own pd p l = 0 → isP n own p = true → lineB l.toInt = true → ∀ own' pd', own' = ownD own (tN p) (tN l) n 256 → pd' = noteP (noteP (st2 pd n 0 (pd (tN p) 0)) (tN p) 2) n 1 → ∀ of' many' colour' things' history' set' seen' pile', RO of' own' → RN many' own' → RP colour' pd' 0 → RP things' pd' 3 → RQ history' pd' 15 20 → post (nI n) 0 (nI (n + 1)) of' many' colour' things' history' set' seen' pile') : wp_X5_divide t (nI n) of many colour org things history set seen pile p l post := by
  have hn := hO.2.1
  have hn1 := hO.1
  have hlt : ∀ c, c < 256 → own c < 60 := fun c hc => by have := hO.2.2.1 c hc; omega
  unfold wp_X5_divide
  refine p_isPiece ⟨hO.1, hO.2.1⟩ hm ?_
  rw [w_isLine, bI_br]
  cases e1 : isP n own p
  · have eC : divC n own pd p l = 1 := by unfold divC; rw [e1]; rfl
    rw [eC] at h0
    rw [if_neg (show ¬ false = true by decide)]
    unfold wp_X5_divide_53 wp_X5_divide_83
    exact ⟨fun _ => p_gwN (by decide) ⟨fun _ => h0 (by decide) _ _ _, fun z => absurd rfl z⟩, fun z => absurd rfl z⟩
  rw [if_pos rfl, bI_br]
  cases e2 : lineB l.toInt
  · have eC : divC n own pd p l = 2 := by unfold divC; rw [e1, e2]; rfl
    rw [eC] at h0
    rw [if_neg (show ¬ false = true by decide)]
    unfold wp_X5_divide_53 wp_X5_divide_83
    exact ⟨ne1, fun _ => ⟨fun _ => p_gwN (by decide) ⟨fun _ => h0 (by decide) _ _ _, fun z => absurd rfl z⟩, fun z => absurd rfl z⟩⟩
  rw [if_pos rfl]
  obtain ⟨q, hq, hq60, rfl, hpr⟩ := isP_t e1 hO.2.1
  obtain ⟨i, rfl, hi, hi15⟩ := lineB_t e2
  rw [tN_nI (by omega), tN_nI (by omega)] at h1
  have eC : divC n own pd (nI q) (nI i) = if decide (pd q 4 = 0) && decide (n < 60) && twoB (ofP own q) i then 0 else 3 := by
    unfold divC; rw [e1, e2, tN_nI (by omega), tN_nI (by omega)]; rfl
  rw [eC] at h0 h1
  have bad : (if (decide (pd q 4 = 0) && decide (n < 60) && twoB (ofP own q) i) = true then 0 else 3) = 3 → ∀ s1 s2 s3, wp_X5_divide_53 t (nI n) of many colour org things history set seen pile (nI q) (nI i) post 0 (bI true) (bI true) s1 s2 s3 := fun e s1 s2 s3 => by
    rw [e] at h0
    unfold wp_X5_divide_53 wp_X5_divide_83
    exact ⟨ne1, fun _ => ⟨ne1, fun _ => ⟨fun _ => p_gwN (by decide) ⟨fun _ => h0 (by decide) _ _ _, fun z => absurd rfl z⟩, fun z => absurd rfl z⟩⟩⟩
  have b4 := (hP.1 q).2.2.2.2
  refine ⟨in60 hq60, ?_⟩
  rw [nI_clamp (by omega), r4 q hq60]
  refine nI_br (b := 0) (by omega) (by omega) ?_
  split
  case isFalse => rename_i z; exact bad (by rw [decide_eq_false z]; rfl) _ _ _
  rename_i z4
  rw [decide_eq_true z4] at bad h1
  refine nI_brl (a := 60) (by omega) (by omega) ?_
  split
  · rename_i z; exact bad (by rw [decide_eq_false (show ¬ n < 60 by omega)]; rfl) _ _ _
  rename_i z5
  have hn60 : n < 60 := by omega
  rw [decide_eq_true hn60] at bad h1
  refine m_isTwo (by omega) fun s1 s2 s3 => ?_
  rw [← twoB_congr (own_eq hO ho hq60), bI_br]
  cases e6 : twoB (ofP own q) i <;> rw [e6] at bad h1
  · exact bad rfl _ _ _
  rw [if_pos rfl]
  have h1 := h1 rfl e1 e2
  unfold wp_X5_divide_53
  refine ⟨ne1, fun _ => ⟨ne1, fun _ => ⟨ne1, fun _ => ?_⟩⟩⟩
  unfold wp_X5_divide_83
  refine p_gw0 ⟨ne1, fun _ => ?_⟩
  rw [nI_1]
  rintro _ rfl
  refine lp_cnt 256 (fun k (s : (Nat → Int32) × (Nat → Int32)) => (nI n, nI k, (0 : Int32), nI (n + 1), s.1, s.2, s1, s2, s3)) (fun k s => RO s.1 (ownD own q i n k) ∧ RN s.2 (ownD own q i n k)) ?_ ?_ 0 (of, many) (by omega) ?_
  · rintro K k ⟨o, m⟩ hk ⟨ho', hm'⟩ hK
    dsimp only at ho' hm'
    show wp_X5_divide_110 _ _ _ _ _ _ _ _ _ _ _ _ _ _ _ _ _ _ _ _ _ _ _ _
    unfold wp_X5_divide_110
    dsimp only
    have hok := hlt k hk
    have eok : ownD own q i n k k = own k := by unfold ownD; rw [if_neg (by omega)]
    rw [nI_clamp (show k < 2147483648 by omega), nI_clamp (show n < 2147483648 by omega), nI_clamp (show q < 2147483648 by omega), ho' k hk, eok, w_isBeyond hk (by omega), nI_1 k, bI_br]
    refine ⟨fun z => absurd z (lc_ge hk), fun _ => ⟨lc_in hk, nI_br (by omega) (by omega) ?_⟩⟩
    have eS := ownD_s (own := own) (p := q) (line := i) (f := n) (k := k)
    split
    · rename_i z
      cases e7 : byd k i
      · rw [if_neg (fun w => by rw [e7] at w; exact absurd w.2 (by decide))] at eS
        rw [if_neg (show ¬ false = true by decide)]
        exact hK (o, m) (by rw [eS]; exact ⟨ho', hm'⟩)
      · rw [if_pos ⟨z, e7⟩] at eS
        rw [if_pos rfl]
        refine ⟨lc_in hk, ?_⟩
        rintro _ rfl
        refine ⟨in60 hn60, in60 hn60, ?_⟩
        rintro _ rfl
        refine ⟨in60 hq60, in60 hq60, ?_⟩
        rintro _ rfl
        refine hK (_, _) ?_
        rw [eS]
        refine ⟨ho'.g k n, ?_⟩
        have := hm'.g (c := k) (q := n) hk (by omega) hn60 (by omega)
        rw [eok, z] at this
        exact this
    · rename_i z
      rw [if_neg (fun w => z w.1)] at eS
      exact hK (o, m) (by rw [eS]; exact ⟨ho', hm'⟩)
  · rintro K ⟨o, m⟩ ⟨ho', hm'⟩
    dsimp only at ho' hm'
    show wp_X5_divide_110 _ _ _ _ _ _ _ _ _ _ _ _ _ _ _ _ _ _ _ _ _ _ _ _
    unfold wp_X5_divide_110
    dsimp only
    refine ⟨fun _ => ⟨in60 hq60, in60 hn60, ?_⟩, fun z => absurd lc_end z⟩
    rw [nI_clamp (by omega), nI_clamp (by omega), r0 q hq60]
    rintro _ rfl
    have b0 := (hP.1 q).1
    have hP0 : InvP (n + 1) pd := ⟨hP.1, hP.2.1, fun p j h => hP.2.2.1 p j (by omega), hP.2.2.2⟩
    have hP1 : InvP (n + 1) (st2 pd n 0 (pd q 0)) := hP0.st (by omega) ⟨by omega, by omega, by omega, by omega, by omega, by omega, by omega⟩
    refine m_note (t := 2) hP1 hq60 (r3.ne (by omega)) (rh.ne (by omega)) fun t1 g1 a1 b1 => ?_
    refine m_note (t := 1) (hP1.note (t := 2) (by omega) (by omega)) hn60 a1 b1 fun t2 g2 a2 b2 => ?_
    exact h1 _ _ rfl rfl _ _ _ _ _ _ _ _ ho' hm' (RP.note (RP.note (r0.upd n _) (by omega)) (by omega)) a2 b2
  · have : ownD own q i n 0 = own := by funext x; unfold ownD; rw [if_neg (by omega)]
    rw [this]; exact ⟨ho, hm⟩
