/-! more of the model's plain calls -/
theorem p_gw0 {t : Int32} {post : Int32 → Int32 → Prop} (h : post 1 0) : wp_X5_goesWell t 0 post := by
  rw [w_goesWell]; exact h
theorem p_gwN {t c : Int32} {post : Int32 → Int32 → Prop} (hc : decide (c = 0) = false) (h : post 0 c) : wp_X5_goesWell t c post := by
  rw [w_goesWell, hc]; exact h
theorem ne1 {A : Prop} : ((1 : Int32) = 0 → A) := fun z => absurd z (by decide)
theorem m_heart {t p : Int32} {hw : Nat} {post : Int32 → Int32 → Int32 → Prop} (h0 : inR p 1 5 = false → post 0 1 (nI hw)) (h1 : inR p 1 5 = true → post (nI hw) 0 (nI (tN p))) : wp_X5_heart t (nI hw) p post := by
  unfold wp_X5_heart
  refine p_inR 1 5 (by omega) (by omega) ?_
  rw [bI_br]
  cases e : inR p 1 5
  · rw [if_neg (show ¬ false = true by decide)]
    exact p_gwN (by decide) ⟨fun _ => h0 e, fun z => absurd rfl z⟩
  · rw [if_pos rfl]
    refine p_gw0 ⟨ne1, fun _ => ?_⟩
    rintro _ rfl
    have h1 := h1 e
    obtain ⟨k, rfl, hk1, hk2⟩ := inR_t e
    rw [tN_nI (by omega)] at h1; exact h1
theorem m_sheet {t p : Int32} {sw : Nat} {post : Int32 → Int32 → Int32 → Prop} (h0 : inR p 4 40 = false → post 0 1 (nI sw)) (h1 : inR p 4 40 = true → post (nI sw) 0 (nI (tN p))) : wp_X5_sheet t (nI sw) p post := by
  unfold wp_X5_sheet
  refine p_inR 4 40 (by omega) (by omega) ?_
  rw [bI_br]
  cases e : inR p 4 40
  · rw [if_neg (show ¬ false = true by decide)]
    exact p_gwN (by decide) ⟨fun _ => h0 e, fun z => absurd rfl z⟩
  · rw [if_pos rfl]
    refine p_gw0 ⟨ne1, fun _ => ?_⟩
    rintro _ rfl
    have h1 := h1 e
    obtain ⟨k, rfl, hk1, hk2⟩ := inR_t e
    rw [tN_nI (by omega)] at h1; exact h1
theorem ge_lit {a k : Nat} (ha : a < 2147483648) (hk : k < 2147483648) : (nI a ≤ nI k) = (a ≤ k) := propext (by rw [nI_leI ha hk])
theorem m_bars {f : Nat → Int32} {bar : Nat → Bool} {post : Int32 → Prop} (hf : fillB bar 15 f) (h : post (nI (fb_ct bar 15))) : wp_X5_bars f post := by
  unfold wp_X5_bars
  refine lp_cnt 15 (fun k (_ : Unit) => (nI (fb_ct bar k), nI k)) (fun _ _ => True) ?_ ?_ 0 () (by omega) trivial
  · rintro K k - hk - hK
    have hK := hK () trivial
    show wp_X5_bars_4 _ _ _ _ _
    unfold wp_X5_bars_4 wp_X5_bars_25
    refine ⟨fun z => absurd z (by rw [show (15 : Int32) = nI 15 from rfl, ge_lit (by omega) (by omega)]; omega), fun _ => ⟨vp_in_nI (by omega) (by omega), ?_⟩⟩
    rw [lc_N (by omega), hf k hk, nI_1]
    rw [← cnt_bI] at hK
    cases e : bar k <;> rw [e] at hK
    · exact ⟨fun _ => hK, fun z => absurd rfl z⟩
    · exact ⟨ne1, fun _ => hK⟩
  · rintro K - -
    show wp_X5_bars_4 _ _ _ _ _
    unfold wp_X5_bars_4
    exact ⟨fun _ => h, fun z => absurd (show (15 : Int32) ≤ nI 15 by decide) z⟩
def barC (bar : Nat → Bool) (p : Int32) : Nat := if inR p 0 14 then (if !bar (tN p) && decide (fb_ct bar 15 = 5) then 2 else 0) else 1
def flip (bar : Nat → Bool) (k : Nat) : Nat → Bool := fun j => if j = k then !bar j else bar j
theorem m_bar {t p : Int32} {f : Nat → Int32} {bar : Nat → Bool} {post : Int32 → Int32 → (Nat → Int32) → Prop} (hf : fillB bar 15 f)
    (h0 : barC bar p ≠ 0 → post 0 (nI (barC bar p)) f) (h1 : barC bar p = 0 → inR p 0 14 = true → ∀ f', fillB (flip bar (tN p)) 15 f' → post (bI (bar (tN p))) 0 f') : wp_X5_bar t f p post := by
  unfold wp_X5_bar
  refine p_inR 0 14 (by omega) (by omega) ?_
  rw [bI_br]
  cases e : inR p 0 14
  · rw [if_neg (show ¬ false = true by decide)]
    have : barC bar p = 1 := by unfold barC; rw [e]; rfl
    rw [this] at h0
    exact p_gwN (by decide) ⟨fun _ => h0 (by decide), fun z => absurd rfl z⟩
  · rw [if_pos rfl]
    obtain ⟨k, rfl, hk1, hk2⟩ := inR_t e
    have hin : vp_in (nI k) 15 := vp_in_nI (by omega) (by omega)
    rw [tN_nI (by omega)] at h1
    have eC : barC bar (nI k) = if !bar k && decide (fb_ct bar 15 = 5) then 2 else 0 := by unfold barC; rw [e, tN_nI (by omega)]; rfl
    rw [eC] at h0 h1
    have h1 := fun q => h1 q e
    have hF : fillB (flip bar k) 15 (upd f k (bI (!bar k))) := fun j hj => by
      unfold flip
      by_cases z : j = k
      · rw [z, upd_at, if_pos rfl]
      · rw [upd_ne _ _ z, if_neg z]; exact hf j hj
    refine ⟨hin, ?_⟩
    rw [nI_clamp (by omega), hf k (by omega)]
    cases eb : bar k
    · rw [eb] at h0 h1 hF
      refine ⟨fun _ => ?_, fun z => absurd rfl z⟩
      refine m_bars hf ?_
      have b := fb_ct_le bar 15
      rw [show (5 : Int32) = nI 5 from rfl, nI_inj (by omega) (by omega)]
      refine ⟨fun z => ?_, fun z => ?_⟩
      · rw [decide_eq_true z] at h0
        exact p_gwN (by decide) ⟨fun _ => h0 (by decide), fun z => absurd rfl z⟩
      · rw [decide_eq_false z] at h1
        refine p_gw0 ⟨ne1, fun _ => ⟨hin, ?_⟩⟩
        rw [nI_clamp (by omega), hf k (by omega), eb]
        refine ⟨fun _ => ⟨hin, ?_⟩, fun z => absurd rfl z⟩
        rw [nI_clamp (by omega)]
        rintro _ rfl
        refine ⟨hin, ?_⟩
        rw [upd_at]
        exact ⟨fun z => absurd z (by decide), fun _ => h1 rfl _ hF⟩
    · rw [eb] at h0 h1 hF
      refine ⟨ne1, fun _ => ?_⟩
      refine p_gw0 ⟨ne1, fun _ => ⟨hin, ?_⟩⟩
      rw [nI_clamp (by omega), hf k (by omega), eb]
      refine ⟨ne1, fun _ => ⟨hin, ?_⟩⟩
      rw [nI_clamp (by omega)]
      rintro _ rfl
      refine ⟨hin, ?_⟩
      rw [upd_at]
      exact ⟨fun _ => h1 rfl _ hF, fun z => absurd (show vp_nar .boolean 0 = 0 from rfl) z⟩
theorem in60 {q : Nat} (h : q < 60) : vp_in (nI q) 60 := vp_in_nI h (by omega)
def paintC (n : Nat) (own : Nat → Nat) (pd : Nat → Nat → Nat) (p k : Int32) : Nat := if isP n own p then (if inR k 500 700 then (if pd (tN p) 2 = 5 then 3 else 0) else 2) else 1
def paintP (pd : Nat → Nat → Nat) (q k : Nat) : Nat → Nat → Nat := noteP (st2 (st2 (st2 pd q (5 + pd q 2) k) q (10 + pd q 2) 0) q 2 (pd q 2 + 1)) q 4
theorem m_paint {n : Nat} {own : Nat → Nat} {pd : Nat → Nat → Nat} {many layers heat burnt things history : Nat → Int32} {t p k : Int32} {post : Int32 → Int32 → (Nat → Int32) → (Nat → Int32) → (Nat → Int32) → (Nat → Int32) → (Nat → Int32) → Prop}
    (hO : InvO n own) (hP : InvP n pd) (hm : ∀ p, p < 60 → many p = nI (cnt own p)) (r2 : RP layers pd 2) (r3 : RP things pd 3) (rq : RQ heat pd 5 5) (rb : RQ burnt pd 10 5) (rh : RQ history pd 15 20)
    (h0 : paintC n own pd p k ≠ 0 → post 0 (nI (paintC n own pd p k)) layers heat burnt things history)
    (h1 : paintC n own pd p k = 0 → isP n own p = true → inR k 500 700 = true → ∀ pd', pd' = paintP pd (tN p) (tN k) → ∀ layers' heat' burnt' things' history', RP layers' pd' 2 → RQ heat' pd' 5 5 → RQ burnt' pd' 10 5 → RP things' pd' 3 → RQ history' pd' 15 20 → post (nI (pd (tN p) 2 + 1)) 0 layers' heat' burnt' things' history') : wp_X5_paint t (nI n) many layers heat burnt things history p k post := by
  unfold wp_X5_paint
  refine p_isPiece ⟨hO.1, hO.2.1⟩ hm ?_
  rw [bI_br]
  cases e1 : isP n own p
  · have : paintC n own pd p k = 1 := by unfold paintC; rw [e1]; rfl
    rw [this] at h0
    rw [if_neg (show ¬ false = true by decide)]
    exact p_gwN (by decide) ⟨fun _ => h0 (by decide), fun z => absurd rfl z⟩
  obtain ⟨q, hq, hq60, rfl, hpr⟩ := isP_t e1 hO.2.1
  rw [if_pos rfl]
  refine p_inR 500 700 (by omega) (by omega) ?_
  rw [bI_br]
  cases e2 : inR k 500 700
  · have : paintC n own pd (nI q) k = 2 := by unfold paintC; rw [e1, e2]; rfl
    rw [this] at h0
    rw [if_neg (show ¬ false = true by decide)]
    exact p_gwN (by decide) ⟨fun _ => h0 (by decide), fun z => absurd rfl z⟩
  obtain ⟨k, rfl, hk1, hk2⟩ := inR_t e2
  rw [if_pos rfl, nI_clamp (by omega), r2 q hq60]
  have b2 := (hP.1 q).2.2.1
  rw [tN_nI (by omega), tN_nI (by omega)] at h1
  have e4 : paintC n own pd (nI q) (nI k) = if pd q 2 = 5 then 3 else 0 := by unfold paintC; rw [e1, e2, tN_nI (by omega)]; rfl
  rw [e4] at h0 h1
  refine ⟨in60 hq60, ?_⟩
  rw [show (5 : Int32) = nI 5 from rfl, nI_inj (by omega) (by omega)]
  refine ⟨fun z => ?_, fun z => ?_⟩
  · rw [if_pos z] at h0
    exact p_gwN (by decide) ⟨fun _ => h0 (by decide), fun z => absurd rfl z⟩
  rw [if_neg z] at h1
  refine p_gw0 ⟨ne1, fun _ => ⟨in60 hq60, ?_⟩⟩
  rw [nI_clamp (by omega), r2 q hq60, show (5 : Int32) = nI 5 from rfl, pk_mul, nI_add, nI_clamp (by omega), nI_1]
  have hin : vp_in (nI (5 * q + pd q 2)) 300 := vp_in_nI (by omega) (by omega)
  refine ⟨hin, ?_⟩
  rintro _ rfl
  refine ⟨in60 hq60, hin, ?_⟩
  rintro _ rfl
  refine ⟨in60 hq60, in60 hq60, ?_⟩
  rintro _ rfl
  have hP2 : InvP n (st2 (st2 (st2 pd q (5 + pd q 2) k) q (10 + pd q 2) 0) q 2 (pd q 2 + 1)) :=
    ((hP.st hq ⟨by omega, by omega, by omega, by omega, by omega, by omega, by omega⟩).st hq ⟨by omega, by omega, by omega, by omega, by omega, by omega, by omega⟩).st hq ⟨by omega, by omega, by omega, by omega, by omega, by omega, by omega⟩
  refine m_note hP2 hq60 (((r3.ne (by omega)).ne (by omega)).ne (by omega)) (((rh.ne (by omega)).ne (by omega)).ne (by omega)) fun t' h' a b => ⟨in60 hq60, ?_⟩
  rw [upd_at]
  refine h1 rfl e1 e2 _ rfl _ _ _ _ _ (RP.note ?_ (by omega)) (RQ.note ?_ (by omega)) (RQ.note ?_ (by omega)) a b
  · exact ((r2.ne (by omega)).ne (by omega)).upd q _
  · exact ((rq.upd (by omega)).ne (by omega)).ne (by omega)
  · exact ((rb.ne (by omega)).upd (v := 0) (by omega)).ne (by omega)
