/-! sheets, laid, waste, crosses, bends -/
theorem m_sheets {n m sw : Nat} {own : Nat → Nat} {pd : Nat → Nat → Nat} {Q : Nat → Nat} {of many colour wh tried : Nat → Int32} {t p sh co : Int32} {post : Int32 → Int32 → (Nat → Int32) → (Nat → Int32) → Int32 → Int32 → Prop} (hO : InvO n own) (hP : InvP n pd) (hsw : sw ≤ 40) (ho : RO of own) (hm : RN many own) (r0 : RP colour pd 0)
    (h0 : inR p 0 7 = false → post 0 1 wh tried sh co)
    (h1 : inR p 0 7 = true → QS n own pd (tN p) m Q ∧ m ≤ 60 ∧ ∀ wh' tried' co', post (nI (layF own sw Q m).1) 0 wh' tried' (nI (layF own sw Q m).1) co') : wp_X5_sheets t (nI n) of many colour (nI sw) wh tried sh co p post := by
  unfold wp_X5_sheets
  refine p_inR 0 7 (by omega) (by omega) ?_
  rw [bI_br]
  cases e : inR p 0 7
  · rw [if_neg (show ¬ false = true by decide)]
    exact p_gwN (by decide) ⟨fun _ => h0 e, fun z => absurd rfl z⟩
  have h1 := h1 e
  obtain ⟨k, rfl, hk1, hk2⟩ := inR_t e
  rw [tN_nI (by omega)] at h1
  rw [if_pos rfl]
  exact p_gw0 ⟨ne1, fun _ => m_layAll hO hP (by omega) hsw ho hm r0 h1.1 h1.2.1 fun w tr _ => h1.2.2 w tr _⟩
theorem m_laid {n m sw : Nat} {own : Nat → Nat} {pd : Nat → Nat → Nat} {Q : Nat → Nat} {of many colour wh tried : Nat → Int32} {t p sh co : Int32} {post : Int32 → Int32 → (Nat → Int32) → (Nat → Int32) → Int32 → Int32 → Prop} (hO : InvO n own) (hP : InvP n pd) (hsw : sw ≤ 40) (ho : RO of own) (hm : RN many own) (r0 : RP colour pd 0)
    (h0 : isP n own p = false → post 0 1 wh tried sh co)
    (h1 : isP n own p = true → QS n own pd (pd (tN p) 0) m Q ∧ m ≤ 60 ∧ ∀ wh' tried' sh' co', post (optI ((layF own sw Q m).2.2.2.2 (tN p))) 0 wh' tried' sh' co') : wp_X5_laid t (nI n) of many colour (nI sw) wh tried sh co p post := by
  unfold wp_X5_laid
  refine p_isPiece ⟨hO.1, hO.2.1⟩ hm ?_
  rw [bI_br]
  cases e : isP n own p
  · rw [if_neg (show ¬ false = true by decide)]
    exact p_gwN (by decide) ⟨fun _ => h0 e, fun z => absurd rfl z⟩
  have h1 := h1 e
  obtain ⟨q, hq, hq60, rfl, hpr⟩ := isP_t e hO.2.1
  rw [tN_nI (by omega)] at h1
  rw [if_pos rfl]
  refine p_gw0 ⟨ne1, fun _ => ⟨in60 hq60, ?_⟩⟩
  rw [nI_clamp (by omega), r0 q hq60]
  have b0 := (hP.1 q).1
  refine m_layAll hO hP (by omega) hsw ho hm r0 h1.1 h1.2.1 fun w tr hw => ⟨in60 hq60, ?_⟩
  obtain ⟨i, hi, hiq⟩ := h1.1.2.1 q hq (by unfold cand; rw [hpr, decide_eq_true rfl]; rfl)
  have := hw i hi
  rw [hiq] at this
  rw [this]
  exact h1.2.2 _ _ _ _
theorem m_waste {n m sw : Nat} {own : Nat → Nat} {pd : Nat → Nat → Nat} {Q : Nat → Nat} {of many colour wh tried : Nat → Int32} {t p sh co : Int32} {post : Int32 → Int32 → (Nat → Int32) → (Nat → Int32) → Int32 → Int32 → Prop} (hO : InvO n own) (hP : InvP n pd) (hsw : sw ≤ 40) (ho : RO of own) (hm : RN many own) (r0 : RP colour pd 0)
    (h0 : inR p 0 7 = false → post 0 1 wh tried sh co)
    (h1 : inR p 0 7 = true → QS n own pd (tN p) m Q ∧ m ≤ 60 ∧ ∀ wh' tried' sh' co', post (iI ((layF own sw Q m).1 * 20 * sw - covN own sw Q m : Int)) 0 wh' tried' sh' co') : wp_X5_waste t (nI n) of many colour (nI sw) wh tried sh co p post := by
  unfold wp_X5_waste
  refine p_inR 0 7 (by omega) (by omega) ?_
  rw [bI_br]
  cases e : inR p 0 7
  · rw [if_neg (show ¬ false = true by decide)]
    exact p_gwN (by decide) ⟨fun _ => h0 e, fun z => absurd rfl z⟩
  have h1 := h1 e
  obtain ⟨k, rfl, hk1, hk2⟩ := inR_t e
  rw [tN_nI (by omega)] at h1
  rw [if_pos rfl]
  refine p_gw0 ⟨ne1, fun _ => m_layAll hO hP (by omega) hsw ho hm r0 h1.1 h1.2.1 fun w tr _ => ?_⟩
  have := h1.2.2 w tr (nI (layF own sw Q m).1) (nI (covN own sw Q m))
  rw [← iI_sub, ← iI_mul, ← iI_mul, ← iI_nat, ← iI_nat, ← iI_nat] at this
  exact this
theorem atZ_in {own : Nat → Nat} {r c : Nat} (hr : r < 16) (hc : c < 16) : atZ own r c = own (16 * r + c) := by
  unfold atZ
  rw [if_pos (by omega), Int.toNat_natCast, Int.toNat_natCast]
def crsB (own : Nat → Nat) (row k p : Nat) : Bool := anyB (fun c => decide (own (16 * row + c) = own (16 * (row + 1) + c)) && decide (p = own (16 * row + c))) k
def crsN (n : Nat) (own : Nat → Nat) (row : Nat) : Nat := fb_ct (crsB own row 16) n
theorem m_crosses {n : Nat} {own : Nat → Nat} {of isIn : Nat → Int32} {t p : Int32} {post : Int32 → Int32 → (Nat → Int32) → Prop} (hO : InvO n own) (ho : RO of own)
    (h0 : inR p 0 14 = false → post 0 1 isIn) (h1 : inR p 0 14 = true → ∀ isIn', post (nI (crsN n own (tN p))) 0 isIn') : wp_X5_crosses t (nI n) of isIn p post := by
  have hn := hO.2.1
  unfold wp_X5_crosses
  refine p_inR 0 14 (by omega) (by omega) ?_
  rw [bI_br]
  cases e : inR p 0 14
  · rw [if_neg (show ¬ false = true by decide)]
    exact p_gwN (by decide) ⟨fun _ => h0 e, fun z => absurd rfl z⟩
  have h1 := h1 e
  obtain ⟨r, rfl, hr1, hr2⟩ := inR_t e
  rw [tN_nI (by omega)] at h1
  rw [if_pos rfl]
  refine p_gw0 ⟨ne1, fun _ => ?_⟩
  refine lp_cnt n (fun k (s : Nat → Int32) => (nI k, (0 : Int32), s)) (fun k s => fillB (fun _ => false) k s) ?_ ?_ 0 isIn (by omega) (fillB_0 _ _)
  · rintro K k s hk hs hK
    show wp_X5_crosses_26 _ _ _ _ _ _ _ _ _ _
    unfold wp_X5_crosses_26
    dsimp only
    refine brle2 (by omega) (by omega) (fun z => absurd z (by omega)) (fun _ => ?_)
    rw [nI_clamp (by omega), nI_1 k]
    refine ⟨in60 (by omega), ?_⟩
    rintro _ rfl
    exact hK (upd s k (bI false)) (fillB_upd (S := fun _ => false) hs)
  · rintro K s hs
    show wp_X5_crosses_26 _ _ _ _ _ _ _ _ _ _
    unfold wp_X5_crosses_26
    dsimp only
    refine ⟨fun _ => ?_, fun z => absurd (Int32.le_refl _) z⟩
    have e00 : fb_ct (crsB own r 0) n = 0 := fb_ct_zero.mpr fun _ _ => rfl
    suffices g : lp (lF_X5_crosses_51 t (nI n) of isIn (nI r) post) (nI (fb_ct (crsB own r 0) n), nI 0, 0, s) by
      rw [e00] at g; exact g
    refine lp_cnt 16 (fun k (s : Nat → Int32) => (nI (fb_ct (crsB own r k) n), nI k, (0 : Int32), s)) (fun k s => fillB (crsB own r k) n s) ?_ ?_ 0 s (by omega) hs
    · rintro K k s hk hs hK
      show wp_X5_crosses_51 _ _ _ _ _ _ _ _ _ _ _
      unfold wp_X5_crosses_51
      dsimp only
      refine brle2 (a := 16) (by omega) (by omega) (fun z => absurd z (by omega)) (fun _ => ?_)
      refine m_at ho (m_at ho ?_)
      rw [nI_1 r, nI_toInt (by omega), nI_toInt (by omega), nI_toInt (by omega), atZ_in (by omega) hk, atZ_in (by omega) hk, ← iI_nat, ← iI_nat]
      have o1 := hO.2.2.1 (16 * r + k) (by omega)
      have o2 := hO.2.2.1 (16 * (r + 1) + k) (by omega)
      have eS : ∀ p, crsB own r (k + 1) p = (crsB own r k p || (decide (own (16 * r + k) = own (16 * (r + 1) + k)) && decide (p = own (16 * r + k)))) := fun p => rfl
      have same : (∀ p, p < n → crsB own r (k + 1) p = crsB own r k p) → K (nI (fb_ct (crsB own r k) n), nI (k + 1), 0, s) := fun hq => by
        have := hK s (fun j hj => by rw [hs j hj, hq j hj])
        rw [fb_ct_cong hq] at this
        exact this
      rw [nI_1 k, nI_clamp (by omega), hs _ o1, nI_1]
      refine breq2 (by omega) (by omega) (fun z => ⟨in60 (by omega), ?_⟩) (fun z => same fun p hp => by rw [eS, decide_eq_false z]; simp)
      rw [decide_eq_true z] at eS
      cases eB : crsB own r k (own (16 * r + k))
      · refine ⟨fun _ => ⟨in60 (by omega), ?_⟩, fun z => absurd rfl z⟩
        rintro _ rfl
        have hc := ct_add (V := crsB own r k) o1 eB
        have := hK (upd s (own (16 * r + k)) (bI true)) (fun j hj => by
          rw [eS j]
          by_cases c : j = own (16 * r + k)
          · rw [c, upd_at, decide_eq_true rfl]; simp
          · rw [upd_ne _ _ c, decide_eq_false c, hs j hj]; simp)
        have e2 : fb_ct (crsB own r (k + 1)) n = fb_ct (crsB own r k) n + 1 := by
          rw [← hc]
          exact fb_ct_cong fun p _ => by rw [eS]; simp
        rw [e2] at this
        exact this
      · refine ⟨ne1, fun _ => same fun p hp => ?_⟩
        rw [eS]
        by_cases c : p = own (16 * r + k)
        · rw [c, eB]; rfl
        · rw [decide_eq_false c]; simp
    · rintro K s hs
      show wp_X5_crosses_51 _ _ _ _ _ _ _ _ _ _ _
      unfold wp_X5_crosses_51
      dsimp only
      exact ⟨fun _ => h1 _, fun z => absurd (show (16 : Int32) ≤ nI 16 by decide) z⟩
def rowN (bar : Nat → Bool) (panel : Nat) : Nat := fb_ct (fun r => decide (fb_ct bar r = panel)) 16
def benC (bar : Nat → Bool) (p w : Int32) : Nat := if inR p 0 (fb_ct bar 15) then (if inR w 0 9 then 0 else 2) else 1
theorem m_bends {bar : Nat → Bool} {f : Nat → Int32} {t p w : Int32} {post : Int32 → Int32 → Prop} (hf : fillB bar 15 f)
    (h0 : benC bar p w ≠ 0 → post 0 (nI (benC bar p w))) (h1 : benC bar p w = 0 → inR p 0 15 = true → inR w 0 9 = true → post (nI (tN w * rowN bar (tN p) * rowN bar (tN p) * rowN bar (tN p) / 64)) 0) : wp_X5_bends t f p w post := by
  unfold wp_X5_bends
  have b15 := fb_ct_le bar 15
  refine m_bars hf (p_inR 0 (fb_ct bar 15) (by omega) (by omega) ?_)
  rw [bI_br]
  cases e1 : inR p 0 (fb_ct bar 15)
  · have : benC bar p w = 1 := by unfold benC; rw [e1]; rfl
    rw [this] at h0
    rw [if_neg (show ¬ false = true by decide)]
    exact p_gwN (by decide) ⟨fun _ => h0 (by decide), fun z => absurd rfl z⟩
  rw [if_pos rfl]
  refine p_inR 0 9 (by omega) (by omega) ?_
  rw [bI_br]
  cases e2 : inR w 0 9
  · have : benC bar p w = 2 := by unfold benC; rw [e1, e2]; rfl
    rw [this] at h0
    rw [if_neg (show ¬ false = true by decide)]
    exact p_gwN (by decide) ⟨fun _ => h0 (by decide), fun z => absurd rfl z⟩
  rw [if_pos rfl]
  obtain ⟨q, rfl, hq1, hq2⟩ := inR_t e1
  obtain ⟨v, rfl, hv1, hv2⟩ := inR_t e2
  have e3 : inR (nI q) 0 15 = true := by rw [inR_nI (by omega), decide_eq_true (by omega), decide_eq_true (by omega)]; rfl
  have h1 := h1 (by unfold benC; rw [e1, e2]; rfl) e3 e2
  rw [tN_nI (by omega), tN_nI (by omega)] at h1
  refine p_gw0 ⟨ne1, fun _ => ?_⟩
  refine lp_cnt 16 (fun k (_ : Unit) => (nI (fb_ct bar (min k 15)), nI (fb_ct (fun r => decide (fb_ct bar r = q)) k), nI k, (0 : Int32))) (fun _ _ => True) ?_ ?_ 0 () (by omega) trivial
  · rintro K k - hk - hK
    have hK := hK () trivial
    show wp_X5_bends_51 _ _ _ _ _ _ _ _ _ _
    unfold wp_X5_bends_51
    dsimp only
    have emk : min k 15 = k := by omega
    have bk := fb_ct_le bar k
    rw [emk]
    refine brle2 (a := 16) (by omega) (by omega) (fun z => absurd z (by omega)) (fun _ => ?_)
    rw [← cnt_bI] at hK
    have key : ∀ b : Bool, b = decide (fb_ct bar k = q) → wp_X5_bends_71 t f (nI q) (nI v) post (fun b0 b1 b2 b3 => K (b0, b1, b2, b3)) (nI (fb_ct (fun r => decide (fb_ct bar r = q)) k)) (bI b) (nI (fb_ct bar k)) (nI k) 0 := fun b hb => by
      rw [← hb] at hK
      unfold wp_X5_bends_71 wp_X5_bends_98
      rw [nI_1 k]
      refine brle2 (a := 15) (by omega) (by omega) (fun z => ?_) (fun z => ⟨vp_in_nI (by omega) (by omega), ?_⟩)
      · have e : min (k + 1) 15 = k := by omega
        rw [e] at hK
        rw [show nI (fb_ct bar k) + 0 = nI (fb_ct bar k) from by rw [show (0 : Int32) = nI 0 from rfl, nI_add]; rfl]
        exact hK
      · have e : min (k + 1) 15 = k + 1 := by omega
        rw [e, ← cnt_bI bar k] at hK
        rw [nI_clamp (by omega), hf k (by omega)]
        cases g : bar k <;> rw [g] at hK
        · exact ⟨fun _ => hK, fun z => absurd rfl z⟩
        · exact ⟨ne1, fun _ => hK⟩
    refine breq2 (by omega) (by omega) (fun z => key true (decide_eq_true z).symm) (fun z => key false (decide_eq_false z).symm)
  · rintro K - -
    show wp_X5_bends_51 _ _ _ _ _ _ _ _ _ _
    unfold wp_X5_bends_51
    dsimp only
    refine ⟨fun _ => ?_, fun z => absurd (show (16 : Int32) ≤ nI 16 by decide) z⟩
    have er : fb_ct (fun r => decide (fb_ct bar r = q)) 16 = rowN bar q := rfl
    have hr : rowN bar q ≤ 16 := fb_ct_le _ _
    have m1 : v * rowN bar q ≤ 9 * 16 := Nat.mul_le_mul hv2 hr
    have m2 : v * rowN bar q * rowN bar q ≤ 9 * 16 * 16 := Nat.mul_le_mul m1 hr
    have m3 : v * rowN bar q * rowN bar q * rowN bar q ≤ 9 * 16 * 16 * 16 := Nat.mul_le_mul m2 hr
    rw [er, pk_mul, pk_mul, pk_mul, show (64 : Int32) = nI 64 from rfl, pk_div (by omega) (by omega) (by omega)]
    exact h1
