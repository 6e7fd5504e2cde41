/-! layAll -/
theorem brlt2 {a b : Nat} {A B : Prop} (ha : a < 2147483648) (hb : b < 2147483648) (h1 : a < b → A) (h2 : ¬ a < b → B) : (nI a < nI b → A) ∧ (¬ nI a < nI b → B) := by
  have e : (nI a < nI b) = (a < b) := by
    rw [fa_lt, nI_toInt ha, nI_toInt hb]; exact propext (by omega)
  rw [e]; exact ⟨h1, h2⟩
theorem brle2 {a b : Nat} {A B : Prop} (ha : a < 2147483648) (hb : b < 2147483648) (h1 : a ≤ b → A) (h2 : ¬ a ≤ b → B) : (nI a ≤ nI b → A) ∧ (¬ nI a ≤ nI b → B) := by
  rw [ge_lit ha hb]; exact ⟨h1, h2⟩
theorem breq2 {a b : Nat} {A B : Prop} (ha : a < 2147483648) (hb : b < 2147483648) (h1 : a = b → A) (h2 : ¬ a = b → B) : (nI a = nI b → A) ∧ (¬ nI a = nI b → B) := by
  rw [nI_inj ha hb]; exact ⟨h1, h2⟩
theorem m_layAll {n its m sw : Nat} {own : Nat → Nat} {pd : Nat → Nat → Nat} {Q : Nat → Nat} {of many colour wh tried : Nat → Int32} {sh co : Int32} {post : (Nat → Int32) → (Nat → Int32) → Int32 → Int32 → Prop} (hO : InvO n own) (hP : InvP n pd) (hi : its < 1000) (hsw : sw ≤ 40) (ho : RO of own) (hm : RN many own) (r0 : RP colour pd 0) (hQ : QS n own pd its m Q) (hm60 : m ≤ 60)
    (h : ∀ wh' tried', (∀ j, j < m → wh' (Q j) = optI ((layF own sw Q m).2.2.2.2 (Q j))) → post wh' tried' (nI (layF own sw Q m).1) (nI (covN own sw Q m))) : wp_X5_layAll (nI n) of many colour (nI sw) wh tried sh co (nI its) post := by
  have hn := hO.2.1
  unfold wp_X5_layAll
  rintro _ rfl _ rfl
  have hbox : ∀ p, p < 60 → pres own p = true → ∀ (rows : Bool) (post : Int32 → Prop), post (nI (ext (ofP own p) rows)) → wp_X5_box of (nI p) (bI rows) post := fun p hp hpr rows post h => m_box (own_eq hO ho hp) (hO.2.2.2 p hpr) h
  refine lp_cnt n (fun k (s : Nat → Int32) => (nI k, s, (0 : Int32), (0 : Int32))) (fun k s => fillB (fun _ => false) k s) ?_ ?_ 0 tried (by omega) (fillB_0 _ _)
  · rintro K k s hk hs hK
    show wp_X5_layAll_12 _ _ _ _ _ _ _ _ _ _ _ _ _ _ _ _
    unfold wp_X5_layAll_12
    dsimp only
    refine nI_brl (by omega) (by omega) ?_
    rw [if_neg (by omega), nI_clamp (by omega), nI_1 k]
    refine ⟨in60 (by omega), ?_⟩
    rintro _ rfl
    exact hK (upd s k (bI false)) (fillB_upd (S := fun _ => false) hs)
  · rintro K s hs
    show wp_X5_layAll_12 _ _ _ _ _ _ _ _ _ _ _ _ _ _ _ _
    unfold wp_X5_layAll_12
    dsimp only
    refine ⟨fun _ => ?_, fun z => absurd (Int32.le_refl _) z⟩
    refine m_firstOf hO hP hi ho hm r0 hQ (k := 0) (by omega) hs ?_
    have q1 := hQ.1
    have q3 := hQ.2.2
    refine lp_cnt m (fun k (s : (Nat → Int32) × (Nat → Int32)) => (nI (layF own sw Q k).2.1, nI (layF own sw Q k).2.2.1, nI (layF own sw Q k).2.2.2.1, qI m Q k, s.1, s.2, nI (layF own sw Q k).1, nI (covN own sw Q k))) (fun k s => (∀ j, j < k → s.1 (Q j) = optI ((layF own sw Q k).2.2.2.2 (Q j))) ∧ fillB (inQ Q k) n s.2) ?_ ?_ 0 (wh, s) (by omega) ⟨fun j hj => absurd hj (Nat.not_lt_zero j), hs⟩
    · rintro K k ⟨w, tr⟩ hk ⟨hw, htr⟩ hK
      dsimp only at hw htr
      show wp_X5_layAll_47 _ _ _ _ _ _ _ _ _ _ _ _ _ _ _ _ _ _ _ _
      unfold wp_X5_layAll_47
      dsimp only
      have eq : qI m Q k = nI (Q k) := by unfold qI; rw [if_pos hk]
      have hQk := q1 k hk
      have hpr : pres own (Q k) = true := by
        have := hQk.2
        unfold cand at this
        rw [Bool.and_eq_true] at this
        exact this.1
      have hdist : ∀ j, j < k → Q j ≠ Q k := fun j hj => bef_ne (q3 j k hj hk)
      rw [eq, nI_clamp (by omega)]
      refine ⟨fun z => absurd z (nI_ne_m1 (by omega)), fun _ => ⟨in60 (by omega), ?_⟩⟩
      rintro _ rfl
      refine hbox (Q k) (by omega) hpr true _ (hbox (Q k) (by omega) hpr false _ ⟨in60 (by omega), ?_⟩)
      rintro _ rfl
      obtain ⟨i1, i2, i3⟩ := layF_inv (own := own) (Q := Q) hsw (k := k)
      have hF : layF own sw Q (k + 1) = lay1 sw (hgt own (Q k)) (wid own (Q k)) (Q k) (layF own sw Q k) := rfl
      have hno := layF_no (own := own) (sw := sw) (k := k) hdist
      have hcov : covN own sw Q (k + 1) = covN own sw Q k + (if wid own (Q k) ≤ sw then cnt own (Q k) else 0) := fb_sm_succ _ _
      obtain ⟨L, hL⟩ : ∃ L, L = layF own sw Q k := ⟨_, rfl⟩
      rw [← hL] at hw hF hno i1 i2 i3 ⊢
      obtain ⟨ls, lb, lh, lx, lf⟩ := L
      dsimp only at hw hno i1 i2 i3 ⊢
      have l1 : hgt own (Q k) ≤ 16 := ext_le _ _
      have l2 : wid own (Q k) ≤ 16 := ext_le _ _
      have e1 : ext (ofP own (Q k)) true = hgt own (Q k) := rfl
      have e2 : ext (ofP own (Q k)) false = wid own (Q k) := rfl
      rw [e1, e2]
      have htr' : fillB (inQ Q (k + 1)) n (upd tr (Q k) (vp_nar .boolean 1)) := fun q hq => by
        by_cases c : q = Q k
        · rw [c, upd_at, inQ_s, decide_eq_true rfl, Bool.or_true]; rfl
        · rw [upd_ne _ _ c, inQ_s, decide_eq_false (fun z => c z.symm), Bool.or_false]; exact htr q hq
      -- what comes after
      have fin : ∀ (b hh x : Nat) (w' : Nat → Int32) (s c : Nat), layF own sw Q (k + 1) = (s, b, hh, x, (layF own sw Q (k + 1)).2.2.2.2) → c = covN own sw Q (k + 1) → (∀ j, j < k + 1 → w' (Q j) = optI ((layF own sw Q (k + 1)).2.2.2.2 (Q j))) →
          wp_X5_layAll_217 (nI n) of many colour (nI sw) wh tried 0 0 (nI its) post (fun b0 b1 b2 b3 b4 b5 b6 b7 => K (b0, b1, b2, b3, b4, b5, b6, b7)) (nI b) (nI hh) (nI x) w' (upd tr (Q k) (vp_nar .boolean 1)) (nI s) (nI c) := fun b hh x w' s c eL ec hw' => by
        unfold wp_X5_layAll_217
        refine m_firstOf hO hP hi ho hm r0 hQ (k := k + 1) (by omega) htr' ?_
        have := hK (w', upd tr (Q k) (vp_nar .boolean 1)) ⟨hw', htr'⟩
        rw [eL, ← ec] at this
        exact this
      have put : ∀ (s b hh x : Nat), 1 ≤ s → s < 100 → b < 100 → x < 100 → wid own (Q k) ≤ sw → layF own sw Q (k + 1) = (s, b, hh, x + wid own (Q k), setO lf (Q k) (10000 * (s - 1) + 100 * b + x)) →
          wp_X5_layAll_169 (nI n) of many colour (nI sw) wh tried 0 0 (nI its) post (fun b0 b1 b2 b3 b4 b5 b6 b7 => K (b0, b1, b2, b3, b4, b5, b6, b7)) (nI b) (nI hh) (nI x) (nI (Q k)) (nI (wid own (Q k))) (upd w (Q k) (-1)) (upd tr (Q k) (vp_nar .boolean 1)) (nI s) (nI (covN own sw Q k)) := fun s b hh x hs1 hs2 hb hx hwd eL => by
        unfold wp_X5_layAll_169
        rw [nI_clamp (show Q k < 2147483648 by omega)]
        refine ⟨in60 (by omega), ?_⟩
        rintro _ rfl
        refine ⟨in60 (by omega), ?_⟩
        rw [hm (Q k) (by omega), nI_add, nI_add]
        rintro _ rfl
        refine fin _ _ _ _ _ _ (by rw [eL]) (by rw [hcov, if_pos hwd]) fun j hj => ?_
        rw [eL]
        dsimp only
        by_cases c : j = k
        · rw [c, upd_at, setO_at, show (1 : Int32) = nI 1 from rfl, pk_sub hs1, show (10000 : Int32) = nI 10000 from rfl, show (100 : Int32) = nI 100 from rfl, pk_mul, pk_mul, nI_add, nI_add]
          rfl
        · have hd := hdist j (by omega)
          rw [upd_ne _ _ hd, upd_ne _ _ hd, setO_ne _ hd]
          exact hw j (by omega)
      unfold lay1 at hF
      dsimp only at hF
      refine brlt2 (by omega) (by omega) (fun z => ?_) (fun z => ?_)
      · rw [if_neg (by omega)] at hF
        refine fin _ _ _ _ _ _ (by rw [hF]) (by rw [hcov, if_neg (by omega)]; rfl) fun j hj => ?_
        rw [hF]
        dsimp only
        by_cases c : j = k
        · rw [c, upd_at, hno]; rfl
        · rw [upd_ne _ _ (hdist j (by omega))]
          exact hw j (by omega)
      rw [if_pos (by omega)] at hF
      have fresh : (ls = 0 ∨ (sw < lx + wid own (Q k) ∧ 20 < lb + lh + hgt own (Q k))) → wp_X5_layAll_126 (nI n) of many colour (nI sw) wh tried 0 0 (nI its) post (fun b0 b1 b2 b3 b4 b5 b6 b7 => K (b0, b1, b2, b3, b4, b5, b6, b7)) (nI (Q k)) (nI (hgt own (Q k))) (nI (wid own (Q k))) (upd w (Q k) (-1)) (upd tr (Q k) (vp_nar .boolean 1)) (nI ls) (nI (covN own sw Q k)) := fun g => by
        unfold wp_X5_layAll_126
        rw [nI_1 ls]
        rintro _ rfl
        rw [if_pos g] at hF
        refine put (ls + 1) 0 _ 0 (by omega) (by omega) (by omega) (by omega) (by omega) ?_
        rw [hF, Nat.add_sub_cancel, Nat.zero_add]
        rfl
      have old : ¬ (ls = 0 ∨ (sw < lx + wid own (Q k) ∧ 20 < lb + lh + hgt own (Q k))) → wp_X5_layAll_147 (nI n) of many colour (nI sw) wh tried 0 0 (nI its) post (fun b0 b1 b2 b3 b4 b5 b6 b7 => K (b0, b1, b2, b3, b4, b5, b6, b7)) (nI lb) (nI lh) (nI lx) (nI (Q k)) (nI (hgt own (Q k))) (nI (wid own (Q k))) (upd w (Q k) (-1)) (upd tr (Q k) (vp_nar .boolean 1)) (nI ls) (nI (covN own sw Q k)) := fun g => by
        unfold wp_X5_layAll_147
        rw [if_neg g] at hF
        rw [nI_add, nI_add]
        refine brle2 (by omega) (by omega) (fun z2 => ?_) (fun z2 => ?_)
        · rw [if_neg (by omega)] at hF
          exact put ls lb lh lx (by omega) (by omega) (by omega) (by omega) (by omega) hF
        · rw [if_pos (by omega)] at hF
          refine put ls (lb + lh) _ 0 (by omega) (by omega) (by omega) (by omega) (by omega) ?_
          rw [hF, Nat.zero_add]
          rfl
      refine breq2 (b := 0) (by omega) (by omega) (fun z2 => fresh (Or.inl z2)) (fun z2 => ?_)
      rw [nI_add, nI_add, nI_add]
      refine brle2 (by omega) (by omega) (fun z3 => old (by omega)) (fun z3 => ?_)
      exact brle2 (b := 20) (by omega) (by omega) (fun z4 => old (by omega)) (fun z4 => fresh (Or.inr ⟨by omega, by omega⟩))
    · rintro K ⟨w, tr⟩ ⟨hw, htr⟩
      show wp_X5_layAll_47 _ _ _ _ _ _ _ _ _ _ _ _ _ _ _ _ _ _ _ _
      unfold wp_X5_layAll_47
      dsimp only at hw ⊢
      have eq : qI m Q m = -1 := by unfold qI; rw [if_neg (by omega)]
      rw [eq]
      exact ⟨fun _ => h _ _ hw, fun z => absurd rfl z⟩
