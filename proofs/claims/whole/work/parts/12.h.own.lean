/-! changes of whose a cell is: give, join, divide -/
def ownG (own : Nat → Nat) (c q : Nat) : Nat → Nat := fun x => if x = c then q else own x
theorem cntG {own : Nat → Nat} {c q r : Nat} (hc : c < 256) : cnt (ownG own c q) r + (if own c = r then 1 else 0) = cnt own r + (if q = r then 1 else 0) := by
  have h := fb_ct_upd (fun x => decide (own x = r)) (decide (q = r)) hc
  have e : (fun k => if k = c then decide (q = r) else decide (own k = r)) = fun x => decide (ownG own c q x = r) := by
    funext x
    unfold ownG
    split <;> rfl
  rw [e] at h
  simp only [decide_eq_true_iff] at h
  exact h
theorem cnt_pos {own : Nat → Nat} {c : Nat} (hc : c < 256) : 0 < cnt own (own c) := fb_ct_pos.mpr ⟨c, hc, decide_eq_true rfl⟩
def RO (of : Nat → Int32) (own : Nat → Nat) : Prop := ∀ c, c < 256 → of c = nI (own c)
def RN (many : Nat → Int32) (own : Nat → Nat) : Prop := ∀ p, p < 60 → many p = nI (cnt own p)
theorem RO.g {of : Nat → Int32} {own : Nat → Nat} (h : RO of own) (c q : Nat) : RO (upd of c (nI q)) (ownG own c q) := fun x hx => by
  unfold ownG
  by_cases e : x = c
  · rw [e, upd_at, if_pos rfl]
  · rw [upd_ne _ _ e, if_neg e]; exact h x hx
theorem RN.g {many : Nat → Int32} {own : Nat → Nat} (h : RN many own) {c q : Nat} (hc : c < 256) (hne : own c ≠ q) (hq : q < 60) (ho : own c < 60) : RN (upd (upd many q (many q + 1)) (own c) (upd many q (many q + 1) (own c) - 1)) (ownG own c q) := fun r hr => by
  have hg := cntG (own := own) (q := q) (r := r) hc
  by_cases e1 : r = own c
  · subst e1
    have hp := cnt_pos (own := own) hc
    have hl := cnt_le own (own c)
    rw [upd_at, upd_ne _ _ hne, h _ hr, show (1 : Int32) = nI 1 from rfl, pk_sub (by omega)]
    rw [if_pos rfl, if_neg (fun z => hne z.symm)] at hg
    exact congrArg nI (by omega)
  · rw [upd_ne _ _ e1]
    by_cases e2 : r = q
    · subst e2
      rw [upd_at, h _ hr, nI_1]
      rw [if_neg hne, if_pos rfl] at hg
      exact congrArg nI (by omega)
    · rw [upd_ne _ _ e2, h _ hr]
      rw [if_neg (fun z => e1 z.symm), if_neg (fun z => e2 z.symm)] at hg
      exact congrArg nI (by omega)
def besB (own : Nat → Nat) (c q : Nat) : Bool := anyB (fun w => match besN c w with
  | none => false
  | some d => decide (own d = q)) 4
theorem besB_iff {own : Nat → Nat} {c q : Nat} (hc : c < 256) : besB own c q = true ↔ ∃ d, d < 256 ∧ adj c d ∧ own d = q := by
  unfold besB
  rw [anyB_iff]
  constructor
  · rintro ⟨w, hw, h⟩
    cases hb : besN c w with
    | none => rw [hb] at h; exact Bool.noConfusion h
    | some d =>
      rw [hb] at h
      have := besN_adj hc hb
      exact ⟨d, this.1, this.2, of_decide_eq_true h⟩
  · rintro ⟨d, hd, ha, e⟩
    obtain ⟨w, hw, hb⟩ := adj_besN hc hd ha
    refine ⟨w, hw, ?_⟩
    rw [hb]
    exact decide_eq_true e
theorem m_isBeside {own : Nat → Nat} {of : Nat → Int32} {c q : Nat} {post : Int32 → Prop} (ho : RO of own) (hlt : ∀ c, c < 256 → own c < 60) (hc : c < 256) (hq : q < 60) (h : post (bI (besB own c q))) : wp_X5_isBeside of (nI c) (nI q) post := by
  unfold wp_X5_isBeside
  obtain ⟨f, hf⟩ : ∃ f : Nat → Bool, f = (fun w => match besN c w with
  | none => false
  | some d => decide (own d = q)) := ⟨_, rfl⟩
  have hb : besB own c q = anyB f 4 := by rw [hf]; rfl
  rw [hb] at h
  refine lp_cnt 4 (fun k (_ : Unit) => (bI (anyB f k), nI k)) (fun _ _ => True) ?_ ?_ 0 () (by omega) trivial
  · rintro K k - hk - hK
    have hK := hK () trivial
    show wp_X5_isBeside_5 _ _ _ _ _ _ _
    unfold wp_X5_isBeside_5 wp_X5_isBeside_45
    dsimp only
    refine nI_brl (a := 4) (by omega) (by omega) ?_
    rw [if_neg (by omega), w_beside hc hk, nI_1 k, bI_br]
    rw [anyB] at hK
    cases e : anyB f k
    · rw [e] at hK
      rw [if_neg (show ¬ false = true by decide)]
      cases hbn : besN c k with
      | none =>
        have ef : f k = false := by rw [hf]; dsimp only; rw [hbn]
        rw [ef] at hK
        rw [besI_none hbn]
        exact ⟨fun _ => hK, fun z => absurd rfl z⟩
      | some d =>
        have ef : f k = decide (own d = q) := by rw [hf]; dsimp only; rw [hbn]
        rw [ef] at hK
        have hd := (besN_adj hc hbn).1
        have := hlt d hd
        rw [besI_some hbn, lc_N (by omega), ho d hd]
        refine ⟨fun z => absurd z (nI_ne_m1 (by omega)), fun _ => ⟨lc_in hd, nI_br (by omega) (by omega) ?_⟩⟩
        split
        · rename_i z; rw [decide_eq_true z] at hK; exact hK
        · rename_i z; rw [decide_eq_false z] at hK; exact hK
    · rw [e] at hK
      rw [if_pos rfl]
      exact hK
  · rintro K - -
    show wp_X5_isBeside_5 _ _ _ _ _ _ _
    unfold wp_X5_isBeside_5
    exact ⟨fun _ => ⟨bI_01 _, h⟩, fun z => absurd (show (4 : Int32) ≤ nI 4 by decide) z⟩
def remS (own : Nat → Nat) (c : Nat) : Nat → Bool := fun x => decide (own x = own c) && decide (x ≠ c)
noncomputable def giveC (n : Nat) (own : Nat → Nat) (pd : Nat → Nat → Nat) (c p : Int32) : Nat :=
  if isC c && isP n own p then (if decide (own (tN c) ≠ tN p) && besB own (tN c) (tN p) && decide (pd (own (tN c)) 4 = 0) && decide (pd (tN p) 4 = 0) && dP (One (remS own (tN c))) then 0 else 2) else 1
theorem m_give {n : Nat} {own : Nat → Nat} {pd : Nat → Nat → Nat} {of many org things history set seen pile : Nat → Int32} {t c p : Int32} {post : Int32 → Int32 → (Nat → Int32) → (Nat → Int32) → (Nat → Int32) → (Nat → Int32) → (Nat → Int32) → (Nat → Int32) → (Nat → Int32) → Prop}
    (hO : InvO n own) (hP : InvP n pd) (ho : RO of own) (hm : RN many own) (r4 : RP org pd 4) (r3 : RP things pd 3) (rh : RQ history pd 15 20)
    (h0 : giveC n own pd c p ≠ 0 → ∀ set' seen' pile', post 0 (nI (giveC n own pd c p)) of many things history set' seen' pile')
    (h1 : giveC n own pd c p = 0 → isC c = true → isP n own p = true → ∀ of' many' pd', pd' = noteP (noteP pd (own (tN c)) 2) (tN p) 2 → ∀ things' history' set' seen' pile', RO of' (ownG own (tN c) (tN p)) → RN many' (ownG own (tN c) (tN p)) → RP things' pd' 3 → RQ history' pd' 15 20 → post (nI (own (tN c))) 0 of' many' things' history' set' seen' pile') : wp_X5_give t (nI n) of many org things history set seen pile c p post := by
  have hn := hO.2.1
  have hlt : ∀ c, c < 256 → own c < 60 := fun c hc => by have := hO.2.2.1 c hc; omega
  -- not both
  have no : (isC c && isP n own p) = false → ∀ had, wp_X5_give_38 t (nI n) of many org things history set seen pile c p post had 0 := fun e had => by
    have : giveC n own pd c p = 1 := by unfold giveC; rw [e]; rfl
    rw [this] at h0
    unfold wp_X5_give_38 wp_X5_give_100 wp_X5_give_121
    refine ⟨fun _ => ⟨fun _ => ?_, fun z => absurd rfl z⟩, fun z => absurd rfl z⟩
    exact p_gwN (by decide) ⟨fun _ => h0 (by decide) _ _ _, fun z => absurd rfl z⟩
  have no20 : (isC c && isP n own p) = false → wp_X5_give_20 t (nI n) of many org things history set seen pile c p post 0 := fun e => by
    unfold wp_X5_give_20
    refine p_isCell ?_
    rw [bI_br]
    cases e1 : isC c
    · exact no e _
    · obtain ⟨a, rfl, ha⟩ := isC_t e1
      rw [if_pos rfl]
      exact ⟨lc_in ha, no e _⟩
  unfold wp_X5_give
  refine p_isCell ?_
  rw [bI_br]
  cases e1 : isC c
  · rw [if_neg (show ¬ false = true by decide)]
    exact no20 (by rw [e1]; rfl)
  rw [if_pos rfl]
  refine p_isPiece ⟨hO.1, hO.2.1⟩ hm ?_
  rw [bI_br]
  cases e2 : isP n own p
  · rw [if_neg (show ¬ false = true by decide)]
    exact no20 (by rw [e2, Bool.and_false])
  rw [if_pos rfl]
  obtain ⟨a, rfl, ha⟩ := isC_t e1
  obtain ⟨q, hq, hq60, rfl, hpr⟩ := isP_t e2 hO.2.1
  rw [tN_nI (by omega), tN_nI (by omega)] at h1
  have eC : giveC n own pd (nI a) (nI q) = if decide (own a ≠ q) && besB own a q && decide (pd (own a) 4 = 0) && decide (pd q 4 = 0) && dP (One (remS own a)) then 0 else 2 := by
    unfold giveC; rw [e1, e2, tN_nI (by omega), tN_nI (by omega)]; rfl
  rw [eC] at h0 h1
  unfold wp_X5_give_20
  refine p_isCell ?_
  rw [bI_br, e1, if_pos rfl]
  refine ⟨lc_in ha, ?_⟩
  have hoa := hlt a ha
  rw [lc_N (by omega), ho a ha]
  have bad : (if (decide (own a ≠ q) && besB own a q && decide (pd (own a) 4 = 0) && decide (pd q 4 = 0) && dP (One (remS own a))) = true then 0 else 2) = 2 → ∀ s1 s2 s3, wp_X5_give_100 t (nI n) of many org things history set seen pile (nI a) (nI q) post 0 1 (nI (own a)) s1 s2 s3 := fun e s1 s2 s3 => by
    rw [e] at h0
    unfold wp_X5_give_100 wp_X5_give_121
    refine ⟨ne1, fun _ => ⟨fun _ => ?_, fun z => absurd rfl z⟩⟩
    exact p_gwN (by decide) ⟨fun _ => h0 (by decide) _ _ _, fun z => absurd rfl z⟩
  unfold wp_X5_give_38
  refine ⟨ne1, fun _ => nI_br (by omega) (by omega) ?_⟩
  split
  · rename_i z; exact bad (by rw [decide_eq_false (show ¬ own a ≠ q by omega)]; rfl) _ _ _
  rename_i hne
  refine m_isBeside ho hlt ha hq60 ?_
  rw [bI_br]
  rw [decide_eq_true (show own a ≠ q from hne), Bool.true_and] at bad h1
  cases e3 : besB own a q <;> rw [e3] at bad h1
  · exact bad rfl _ _ _
  rw [if_pos rfl, nI_clamp (by omega), nI_clamp (by omega), r4 _ hoa, r4 q hq60]
  have b4 := fun x => (hP.1 x).2.2.2.2
  have b4a := b4 (own a)
  have b4q := b4 q
  refine ⟨in60 hoa, nI_br (b := 0) (by omega) (by omega) ?_⟩
  split
  case isFalse => rename_i z; exact bad (by rw [decide_eq_false z]; rfl) _ _ _
  rename_i z4
  rw [decide_eq_true z4] at bad h1
  refine ⟨in60 hq60, nI_br (b := 0) (by omega) (by omega) ?_⟩
  split
  case isFalse => rename_i z; exact bad (by rw [decide_eq_false z]; rfl) _ _ _
  rename_i z5
  rw [decide_eq_true z5] at bad h1
  refine m_setPiece (remS own a) (fun x hx => ?_) fun s1 f1 => ?_
  · unfold remS
    have hx60 := hlt x hx
    rw [ho x hx]
    congr 1
    · exact decide_eq_decide.mpr (nI_eq (by omega) (by omega)).symm
    · exact decide_eq_decide.mpr (not_congr (nI_eq (by omega) (by omega)).symm)
  rw [ct_le0]
  refine ⟨fun z => ?_, fun _ => ?_⟩
  · exact bad (by rw [one_ct z]; rfl) _ _ _
  refine m_isOne _ f1 fun s2 s3 => ?_
  rw [bI_br]
  cases e6 : dP (One (remS own a)) <;> rw [e6] at bad h1
  · exact bad rfl _ _ _
  rw [if_pos rfl]
  unfold wp_X5_give_100
  refine ⟨ne1, fun _ => ⟨ne1, fun _ => ?_⟩⟩
  unfold wp_X5_give_121
  refine p_gw0 ⟨ne1, fun _ => ⟨lc_in ha, ?_⟩⟩
  rw [lc_N (by omega)]
  rintro _ rfl
  refine ⟨in60 hq60, in60 hq60, ?_⟩
  rw [nI_clamp (by omega)]
  rintro _ rfl
  refine ⟨in60 hoa, in60 hoa, ?_⟩
  rw [nI_clamp (by omega)]
  rintro _ rfl
  refine m_note (t := 2) hP hoa r3 rh fun t1 h1' a1 b1 => ?_
  refine m_note (t := 2) (hP.note (t := 2) (hO.2.2.1 a ha) (by omega)) hq60 a1 b1 fun t2 h2' a2 b2 => ?_
  exact h1 rfl e1 e2 _ _ _ rfl _ _ _ _ _ (ho.g a q) (hm.g ha hne hq60 hoa) a2 b2
