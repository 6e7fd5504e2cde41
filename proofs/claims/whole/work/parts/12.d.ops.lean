/-! crack, mend, replace, pieces, history -/
def isC (p : Int32) : Bool := decide (0 ≤ p.toInt ∧ p.toInt < 256)
theorem isC_t {p : Int32} (h : isC p = true) : ∃ c, p = nI c ∧ c < 256 := by
  unfold isC at h
  rw [decide_eq_true_iff] at h
  refine ⟨p.toInt.toNat, ?_, by omega⟩
  rw [iI_nat, Int.toNat_of_nonneg h.1]
  exact iI_self p
theorem p_isCell {p : Int32} {post : Int32 → Prop} (h : post (bI (isC p))) : wp_X5_isCell p post := by
  rw [w_isCell]; exact h
def brk (own : Nat → Nat) (pd : Nat → Nat → Nat) (n : Nat) : Nat := fb_ct (fun p => pres own p && decide (pd p 1 = 1)) n
theorem many0 {own : Nat → Nat} {p : Nat} : (nI (cnt own p) ≤ 0) = (pres own p = false) := by
  have := cnt_le own p
  unfold pres
  rw [show (0 : Int32) = nI 0 from rfl, ge_lit (by omega) (by omega), decide_eq_false_iff_not]
  exact propext (by omega)
theorem many_br {own : Nat → Nat} {p : Nat} {A B : Prop} (h : if pres own p then B else A) : (nI (cnt own p) ≤ 0 → A) ∧ (¬ nI (cnt own p) ≤ 0 → B) := by
  rw [many0]
  cases e : pres own p <;> rw [e] at h
  · exact ⟨fun _ => h, fun z => absurd rfl z⟩
  · exact ⟨fun z => absurd z (by decide), fun _ => h⟩
theorem nI_br {a b : Nat} {A B : Prop} (ha : a < 2147483648) (hb : b < 2147483648) (h : if a = b then A else B) : (nI a = nI b → A) ∧ (¬ nI a = nI b → B) := by
  rw [nI_inj ha hb]
  split at h
  · rename_i e; exact ⟨fun _ => h, fun z => absurd e z⟩
  · rename_i e; exact ⟨fun z => absurd z e, fun _ => h⟩
theorem nI_brl {a b : Nat} {A B : Prop} (ha : a < 2147483648) (hb : b < 2147483648) (h : if a ≤ b then A else B) : (nI a ≤ nI b → A) ∧ (¬ nI a ≤ nI b → B) := by
  rw [ge_lit ha hb]
  split at h
  · rename_i e; exact ⟨fun _ => h, fun z => absurd e z⟩
  · rename_i e; exact ⟨fun z => absurd z e, fun _ => h⟩
theorem m_broken {n : Nat} {own : Nat → Nat} {pd : Nat → Nat → Nat} {many state : Nat → Int32} {post : Int32 → Prop} (hn : n ≤ 60) (hP : InvP n pd) (hm : ∀ p, p < 60 → many p = nI (cnt own p)) (r1 : RP state pd 1) (h : post (nI (brk own pd n))) : wp_X5_broken (nI n) many state post := by
  unfold wp_X5_broken
  refine lp_cnt n (fun k (_ : Unit) => (nI (brk own pd k), nI k)) (fun _ _ => True) ?_ ?_ 0 () (by omega) trivial
  · rintro K k - hk - hK
    have hK := hK () trivial
    show wp_X5_broken_4 _ _ _ _ _ _ _
    unfold wp_X5_broken_4 wp_X5_broken_37
    refine nI_brl (by omega) (by omega) ?_
    rw [if_neg (by omega), nI_clamp (by omega), hm k (by omega), r1 k (by omega), nI_1]
    refine ⟨in60 (by omega), many_br ?_⟩
    unfold brk at hK ⊢
    rw [← cnt_bI] at hK
    have b := (hP.1 k).2.1
    cases e : pres own k <;> rw [e] at hK
    · exact hK
    · rw [if_pos rfl]
      refine ⟨in60 (by omega), nI_br (b := 1) (by omega) (by omega) ?_⟩
      split
      · rename_i e2; rw [decide_eq_true e2] at hK; exact hK
      · rename_i e2; rw [decide_eq_false e2] at hK; exact hK
  · rintro K - -
    show wp_X5_broken_4 _ _ _ _ _ _ _
    unfold wp_X5_broken_4
    exact ⟨fun _ => h, fun z => absurd (Int32.le_refl _) z⟩
theorem m_crack {n : Nat} {own : Nat → Nat} {pd : Nat → Nat → Nat} {of state things history : Nat → Int32} {t c : Int32} {post : Int32 → Int32 → (Nat → Int32) → (Nat → Int32) → (Nat → Int32) → Prop}
    (hO : InvO n own) (hP : InvP n pd) (ho : ∀ c, c < 256 → of c = nI (own c)) (r1 : RP state pd 1) (r3 : RP things pd 3) (rh : RQ history pd 15 20)
    (h0 : isC c = false → post 0 1 state things history)
    (h1 : isC c = true → ∀ q, q = own (tN c) → ∀ pd', pd' = noteP (st2 pd q 1 1) q 7 → ∀ state' things' history', RP state' pd' 1 → RP things' pd' 3 → RQ history' pd' 15 20 → post (nI q) 0 state' things' history') : wp_X5_crack t of state things history c post := by
  unfold wp_X5_crack
  refine p_isCell ?_
  rw [bI_br]
  cases e : isC c
  · rw [if_neg (show ¬ false = true by decide)]
    exact p_gwN (by decide) ⟨fun _ => h0 e, fun z => absurd rfl z⟩
  rw [if_pos rfl]
  have h1 := h1 e
  obtain ⟨c, rfl, hc⟩ := isC_t e
  rw [tN_nI (by omega)] at h1
  refine p_gw0 ⟨ne1, fun _ => ⟨lc_in hc, ?_⟩⟩
  rw [lc_N (by omega), ho c hc]
  have hq := hO.2.2.1 c hc
  have hn := hO.2.1
  refine ⟨in60 (by omega), ?_⟩
  rw [nI_clamp (by omega)]
  rintro _ rfl
  refine ⟨lc_in hc, ?_⟩
  have hP2 : InvP n (st2 pd (own c) 1 1) := hP.st hq ⟨by omega, by omega, by omega, by omega, by omega, by omega, by omega⟩
  refine m_note hP2 (by omega) (r3.ne (by omega)) (rh.ne (by omega)) fun t' h' a b => ⟨lc_in hc, ?_⟩
  exact h1 _ rfl _ rfl _ _ _ (RP.note (r1.upd (own c) 1) (by omega)) a b
def mendC (n : Nat) (own : Nat → Nat) (pd : Nat → Nat → Nat) (p : Int32) : Nat := if isP n own p then (if pd (tN p) 1 = 1 then 0 else 2) else 1
theorem m_mend {n : Nat} {own : Nat → Nat} {pd : Nat → Nat → Nat} {many state things history : Nat → Int32} {t p : Int32} {post : Int32 → Int32 → (Nat → Int32) → (Nat → Int32) → (Nat → Int32) → Prop}
    (hO : InvO n own) (hP : InvP n pd) (hm : ∀ p, p < 60 → many p = nI (cnt own p)) (r1 : RP state pd 1) (r3 : RP things pd 3) (rh : RQ history pd 15 20)
    (h0 : mendC n own pd p ≠ 0 → post 0 (nI (mendC n own pd p)) state things history)
    (h1 : mendC n own pd p = 0 → isP n own p = true → ∀ pd', pd' = noteP (st2 pd (tN p) 1 2) (tN p) 8 → ∀ state' things' history', RP state' pd' 1 → RP things' pd' 3 → RQ history' pd' 15 20 → post (nI (brk own pd' n)) 0 state' things' history') : wp_X5_mend t (nI n) many state things history p post := by
  unfold wp_X5_mend
  refine p_isPiece ⟨hO.1, hO.2.1⟩ hm ?_
  rw [bI_br]
  cases e1 : isP n own p
  · have : mendC n own pd p = 1 := by unfold mendC; rw [e1]; rfl
    rw [this] at h0
    rw [if_neg (show ¬ false = true by decide)]
    exact p_gwN (by decide) ⟨fun _ => h0 (by decide), fun z => absurd rfl z⟩
  obtain ⟨q, hq, hq60, rfl, hpr⟩ := isP_t e1 hO.2.1
  rw [if_pos rfl, nI_clamp (by omega), r1 q hq60]
  have b1 := (hP.1 q).2.1
  rw [tN_nI (by omega)] at h1
  have e4 : mendC n own pd (nI q) = if pd q 1 = 1 then 0 else 2 := by unfold mendC; rw [e1, tN_nI (by omega)]; rfl
  rw [e4] at h0 h1
  refine ⟨in60 hq60, nI_br (b := 1) (by omega) (by omega) ?_⟩
  split
  · rename_i z
    rw [if_pos z] at h1
    refine p_gw0 ⟨ne1, fun _ => ⟨in60 hq60, ?_⟩⟩
    rw [nI_clamp (by omega)]
    rintro _ rfl
    have hP2 : InvP n (st2 pd q 1 2) := hP.st hq ⟨by omega, by omega, by omega, by omega, by omega, by omega, by omega⟩
    refine m_note hP2 hq60 (r3.ne (by omega)) (rh.ne (by omega)) fun t' h' a b => ?_
    have rs : RP (upd state q 2) (noteP (st2 pd q 1 2) q 8) 1 := RP.note (r1.upd q 2) (by omega)
    exact m_broken hO.2.1 (hP2.note hq (by omega)) hm rs (h1 rfl e1 _ rfl _ _ _ rs a b)
  · rename_i z
    rw [if_neg z] at h0
    exact p_gwN (by decide) ⟨fun _ => h0 (by decide), fun z => absurd rfl z⟩
def replC (n : Nat) (own : Nat → Nat) (pd : Nat → Nat → Nat) (p k : Int32) : Nat := if isP n own p then (if inR k 0 7 then (if pd (tN p) 4 = 0 then 0 else if pd (tN p) 1 = 1 then 0 else 3) else 2) else 1
def replP (pd : Nat → Nat → Nat) (q k : Nat) : Nat → Nat → Nat := noteP (st2 (st2 (st2 (st2 pd q 0 k) q 1 0) q 4 0) q 2 0) q 9
theorem m_replace {n : Nat} {own : Nat → Nat} {pd : Nat → Nat → Nat} {many colour org state layers things history : Nat → Int32} {t p k : Int32} {post : Int32 → Int32 → (Nat → Int32) → (Nat → Int32) → (Nat → Int32) → (Nat → Int32) → (Nat → Int32) → (Nat → Int32) → Prop}
    (hO : InvO n own) (hP : InvP n pd) (hm : ∀ p, p < 60 → many p = nI (cnt own p)) (r0 : RP colour pd 0) (r4 : RP org pd 4) (r1 : RP state pd 1) (r2 : RP layers pd 2) (r3 : RP things pd 3) (rh : RQ history pd 15 20)
    (h0 : replC n own pd p k ≠ 0 → post 0 (nI (replC n own pd p k)) colour org state layers things history)
    (h1 : replC n own pd p k = 0 → isP n own p = true → inR k 0 7 = true → ∀ pd', pd' = replP pd (tN p) (tN k) → ∀ colour' org' state' layers' things' history', RP colour' pd' 0 → RP org' pd' 4 → RP state' pd' 1 → RP layers' pd' 2 → RP things' pd' 3 → RQ history' pd' 15 20 → post (nI (pd (tN p) 0)) 0 colour' org' state' layers' things' history') : wp_X5_replace t (nI n) many colour org state layers things history p k post := by
  unfold wp_X5_replace
  refine p_isPiece ⟨hO.1, hO.2.1⟩ hm ?_
  rw [bI_br]
  cases e1 : isP n own p
  · have : replC n own pd p k = 1 := by unfold replC; rw [e1]; rfl
    rw [this] at h0
    rw [if_neg (show ¬ false = true by decide)]
    exact p_gwN (by decide) ⟨fun _ => h0 (by decide), fun z => absurd rfl z⟩
  obtain ⟨q, hq, hq60, rfl, hpr⟩ := isP_t e1 hO.2.1
  rw [if_pos rfl]
  refine p_inR 0 7 (by omega) (by omega) ?_
  rw [bI_br]
  cases e2 : inR k 0 7
  · have : replC n own pd (nI q) k = 2 := by unfold replC; rw [e1, e2]; rfl
    rw [this] at h0
    rw [if_neg (show ¬ false = true by decide)]
    exact p_gwN (by decide) ⟨fun _ => h0 (by decide), fun z => absurd rfl z⟩
  obtain ⟨k, rfl, hk1, hk2⟩ := inR_t e2
  rw [if_pos rfl, nI_clamp (by omega), r4 q hq60, r1 q hq60]
  obtain ⟨b0, b1, b2, b3, b4⟩ := hP.1 q
  rw [tN_nI (by omega), tN_nI (by omega)] at h1
  have e4 : replC n own pd (nI q) (nI k) = if pd q 4 = 0 then 0 else if pd q 1 = 1 then 0 else 3 := by unfold replC; rw [e1, e2, tN_nI (by omega)]; rfl
  rw [e4] at h0 h1
  have key : (if pd q 4 = 0 then 0 else if pd q 1 = 1 then 0 else 3) = 0 → wp_X5_replace_53 t (nI n) many colour org state layers things history (nI q) (nI k) post 0 := fun z => by
    unfold wp_X5_replace_53
    refine p_gw0 ⟨ne1, fun _ => ⟨in60 hq60, in60 hq60, ?_⟩⟩
    rw [nI_clamp (by omega)]
    rintro _ rfl
    refine ⟨in60 hq60, ?_⟩
    rintro _ rfl
    refine ⟨in60 hq60, ?_⟩
    rintro _ rfl
    refine ⟨in60 hq60, ?_⟩
    rintro _ rfl
    have hP2 : InvP n (st2 (st2 (st2 (st2 pd q 0 k) q 1 0) q 4 0) q 2 0) :=
      (((hP.st hq ⟨by omega, by omega, by omega, by omega, by omega, by omega, by omega⟩).st hq ⟨by omega, by omega, by omega, by omega, by omega, by omega, by omega⟩).st hq ⟨by omega, by omega, by omega, by omega, by omega, by omega, by omega⟩).st hq ⟨by omega, by omega, by omega, by omega, by omega, by omega, by omega⟩
    refine m_note hP2 hq60 ((((r3.ne (by omega)).ne (by omega)).ne (by omega)).ne (by omega)) ((((rh.ne (by omega)).ne (by omega)).ne (by omega)).ne (by omega)) fun t' h' a b => ?_
    rw [r0 q hq60]
    refine h1 z e1 e2 _ rfl _ _ _ _ _ _ (RP.note ?_ (by omega)) (RP.note ?_ (by omega)) (RP.note ?_ (by omega)) (RP.note ?_ (by omega)) a b
    · exact (((r0.upd q k).ne (by omega)).ne (by omega)).ne (by omega)
    · exact (((r4.ne (by omega)).ne (by omega)).upd q 0).ne (by omega)
    · exact (((r1.ne (by omega)).upd q 0).ne (by omega)).ne (by omega)
    · exact (((r2.ne (by omega)).ne (by omega)).ne (by omega)).upd q 0
  refine ⟨in60 hq60, nI_br (b := 0) (by omega) (by omega) ?_⟩
  split
  · rename_i z; exact key (if_pos z)
  · rename_i z
    refine ⟨in60 hq60, nI_br (b := 1) (by omega) (by omega) ?_⟩
    split
    · rename_i z2; exact key (by rw [if_neg z, if_pos z2])
    · rename_i z2
      rw [if_neg z, if_neg z2] at h0
      exact p_gwN (by decide) ⟨fun _ => h0 (by decide), fun z => absurd rfl z⟩
theorem m_pieces {n : Nat} {own : Nat → Nat} {many : Nat → Int32} {t : Int32} {post : Int32 → Int32 → Prop} (hn : n ≤ 60) (hm : ∀ p, p < 60 → many p = nI (cnt own p)) (h : post (nI (fb_ct (pres own) n)) 0) : wp_X5_pieces t (nI n) many post := by
  unfold wp_X5_pieces
  rintro _ rfl
  refine lp_cnt n (fun k (_ : Unit) => (nI (fb_ct (pres own) k), nI k, (0 : Int32))) (fun _ _ => True) ?_ ?_ 0 () (by omega) trivial
  · rintro K k - hk - hK
    have hK := hK () trivial
    show wp_X5_pieces_9 _ _ _ _ _ _ _ _
    unfold wp_X5_pieces_9 wp_X5_pieces_32
    refine nI_brl (by omega) (by omega) ?_
    rw [if_neg (by omega), nI_clamp (by omega), hm k (by omega), nI_1]
    refine ⟨in60 (by omega), many_br ?_⟩
    rw [← cnt_bI] at hK
    cases e : pres own k <;> rw [e] at hK
    · exact hK
    · exact hK
  · rintro K - -
    show wp_X5_pieces_9 _ _ _ _ _ _ _ _
    unfold wp_X5_pieces_9
    exact ⟨fun _ => h, fun z => absurd (Int32.le_refl _) z⟩
theorem m_pieceOf {own : Nat → Nat} {of : Nat → Int32} {t c : Int32} {post : Int32 → Int32 → Prop} (ho : ∀ c, c < 256 → of c = nI (own c)) (h0 : isC c = false → post 0 1) (h1 : isC c = true → post (nI (own (tN c))) 0) : wp_X5_pieceOf t of c post := by
  unfold wp_X5_pieceOf
  refine p_isCell ?_
  rw [bI_br]
  cases e : isC c
  · rw [if_neg (show ¬ false = true by decide)]
    exact p_gwN (by decide) ⟨fun _ => h0 e, fun z => absurd rfl z⟩
  rw [if_pos rfl]
  have h1 := h1 e
  obtain ⟨c, rfl, hc⟩ := isC_t e
  rw [tN_nI (by omega)] at h1
  refine p_gw0 ⟨ne1, fun _ => ⟨lc_in hc, ?_⟩⟩
  rw [lc_N (by omega), ho c hc]
  exact h1
theorem m_isShut {n : Nat} {own : Nat → Nat} {pd : Nat → Nat → Nat} {many state : Nat → Int32} {t : Int32} {post : Int32 → Int32 → Prop} (hn : n ≤ 60) (hP : InvP n pd) (hm : ∀ p, p < 60 → many p = nI (cnt own p)) (r1 : RP state pd 1) (h : post (bI (decide (brk own pd n = 0))) 0) : wp_X5_isShut t (nI n) many state post := by
  unfold wp_X5_isShut
  rintro _ rfl
  have b : brk own pd n ≤ n := fb_ct_le _ _
  refine m_broken hn hP hm r1 (nI_br (b := 0) (by omega) (by omega) ?_)
  split
  · rename_i e; rw [decide_eq_true e] at h; exact h
  · rename_i e; rw [decide_eq_false e] at h; exact h
def histC (n : Nat) (p k : Int32) : Bool := decide (0 ≤ p.toInt ∧ p.toInt < n ∧ 0 ≤ k.toInt)
def histA (pd : Nat → Nat → Nat) (q : Nat) (k : Int32) : Int32 := if k.toInt < pd q 3 then nI (pd q (15 + tN k)) else -1
theorem m_history {n : Nat} {pd : Nat → Nat → Nat} {things history : Nat → Int32} {t p k : Int32} {post : Int32 → Int32 → Prop} (hn : 1 ≤ n ∧ n ≤ 60) (hP : InvP n pd) (r3 : RP things pd 3) (rh : RQ history pd 15 20)
    (h0 : histC n p k = false → post 0 1) (h1 : histC n p k = true → post (histA pd (tN p) k) 0) : wp_X5_history t (nI n) things history p k post := by
  have key : (histC n p k = true → wp_X5_history_34 t (nI n) things history p k post 0) → wp_X5_history t (nI n) things history p k post := fun g => by
    have g1 : histC n p k = true → wp_X5_history_23 t (nI n) things history p k post 1 := fun e => ⟨ne1, fun _ => g e⟩
    have g0 : histC n p k = false → wp_X5_history_23 t (nI n) things history p k post 0 := fun e => ⟨fun _ => p_gwN (by decide) ⟨fun _ => h0 e, fun z => absurd rfl z⟩, fun z => absurd rfl z⟩
    unfold wp_X5_history
    rw [show (1 : Int32) = nI 1 from rfl, pk_sub (by omega)]
    refine p_inR 0 (n - 1) (by omega) (by omega) ?_
    rw [bI_br]
    unfold histC at g1 g0
    cases e : inR p 0 (n - 1)
    · rw [if_neg (show ¬ false = true by decide)]
      unfold inR at e
      rw [decide_eq_false_iff_not] at e
      exact g0 (decide_eq_false (by omega))
    · rw [if_pos rfl]
      unfold inR at e
      rw [decide_eq_true_iff] at e
      rw [fa_lt, show (0 : Int32).toInt = 0 from rfl]
      exact ⟨fun z => g0 (decide_eq_false (by omega)), fun z => g1 (decide_eq_true (by omega))⟩
  refine key fun e => p_gw0 ⟨ne1, fun _ => ?_⟩
  have h1 := h1 e
  unfold histC at e
  rw [decide_eq_true_iff] at e
  obtain ⟨q, hq⟩ : ∃ q, q = p.toInt.toNat := ⟨_, rfl⟩
  have hpq : p = nI q := by rw [hq, iI_nat, Int.toNat_of_nonneg e.1]; exact iI_self p
  subst hpq
  rw [tN_nI (by omega)] at h1
  have b3 := (hP.1 q).2.2.2.1
  rw [nI_clamp (by omega), r3 q (by omega)]
  refine ⟨in60 (by omega), ?_⟩
  obtain ⟨j, hj⟩ : ∃ j, j = k.toInt.toNat := ⟨_, rfl⟩
  have hkj : k = nI j := by rw [hj, iI_nat, Int.toNat_of_nonneg e.2.2]; exact iI_self k
  have rk := fb_rng k
  unfold histA at h1
  subst hkj
  rw [nI_toInt (by omega), tN_nI (by omega)] at h1
  refine nI_brl (by omega) (by omega) ?_
  split
  · rename_i z; rw [if_neg (by omega)] at h1; exact h1
  · rename_i z
    rw [if_pos (by omega)] at h1
    rw [show (20 : Int32) = nI 20 from rfl, pk_mul, nI_add, nI_clamp (by omega), rh q (by omega) j (by omega)]
    exact ⟨vp_in_nI (by omega) (by omega), h1⟩
