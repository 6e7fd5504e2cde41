/-! leadLength, jointCount, trace -/
theorem df_symm (x y : Int) : df x y = df y x := by
  unfold df
  by_cases e : x = y
  · rw [if_pos e, if_pos e.symm]
  · rw [if_neg e, if_neg fun z => e z.symm]
theorem vE_16 {own : Nat → Nat} (a : Nat) : vE own a 16 = 0 := by
  unfold vE atZ
  rw [if_neg (by omega), if_neg (by omega)]; rfl
theorem hE_16 {own : Nat → Nat} (a : Nat) : hE own a 16 = 0 := by
  unfold hE atZ
  rw [if_neg (by omega), if_neg (by omega)]; rfl
theorem len_eq {own : Nat → Nat} : fb_sm (fun a => fb_sm (fun b => vE own a b + hE own b a) 17) 17 = lenN own := by
  have e1 : (fun a => fb_sm (fun b => vE own a b + hE own b a) 17) = fun a => fb_sm (fun b => vE own a b) 16 + fb_sm (fun b => hE own b a) 17 := by
    funext a
    rw [fb_sm_add, fb_sm_succ (fun b => vE own a b) 16, vE_16, Nat.add_zero]
  rw [e1, fb_sm_add, fb_sm_succ (fun a => fb_sm (fun b => hE own b a) 17) 16]
  have e2 : fb_sm (fun b => hE own b 16) 17 = 0 := by
    have : (fun b => hE own b 16) = fun _ => 0 := funext fun b => hE_16 b
    rw [this, fb_sm_const]
  rw [e2, Nat.add_zero, fubini (fun a b => hE own b a) 17 16, ← fb_sm_add]
  unfold lenN
  refine fb_sm_cong fun a _ => ?_
  rw [fb_sm_add]
theorem k_leadLength {n : Nat} {own : Nat → Nat} {of : Nat → Int32} {post : Int32 → Prop} (hO : InvO n own) (ho : RO of own) (h : post (nI (lenN own))) : wp_X0_leadLength of post := by
  rw [← len_eq] at h
  unfold wp_X0_leadLength
  refine lp_cnt 17 (fun k (_ : Unit) => (nI (fb_sm (fun a => fb_sm (fun b => vE own a b + hE own b a) 17) k), nI k)) (fun _ _ => True) ?_ ?_ 0 () (by omega) trivial
  · rintro K a - ha - hK
    have hK := hK () trivial
    rw [fb_sm_succ] at hK
    obtain ⟨L, hL⟩ : ∃ L, L = fb_sm (fun a => fb_sm (fun b => vE own a b + hE own b a) 17) a := ⟨_, rfl⟩
    rw [← hL] at hK ⊢
    show wp_X0_leadLength_4 _ _ _ _ _
    unfold wp_X0_leadLength_4
    dsimp only
    refine brlt2 (a := 16) (by omega) (by omega) (fun z => absurd z (by omega)) (fun _ => ?_)
    refine lp_cnt 17 (fun k (_ : Unit) => (nI (L + fb_sm (fun b => vE own a b + hE own b a) k), nI a, nI k)) (fun _ _ => True) ?_ ?_ 0 () (by omega) trivial
    · rintro K2 b - hb - hK2
      have hK2 := hK2 () trivial
      rw [fb_sm_succ] at hK2
      show wp_X0_leadLength_12 _ _ _ _ _ _ _
      unfold wp_X0_leadLength_12
      dsimp only
      refine brlt2 (a := 16) (by omega) (by omega) (fun z => absurd z (by omega)) (fun _ => ?_)
      have t1 := pm1 (a := a) (by omega)
      have t2 := nI_toInt (n := a) (by omega)
      have t3 := pm1 (a := b) (by omega)
      have t4 := nI_toInt (n := b) (by omega)
      refine k_ownerAt ho (k_ownerAt ho ?_)
      rw [t1, t2, t4]
      refine k_leadsBetween (atZ_rng hO _ _) (atZ_rng hO _ _) (k_ownerAt ho ?_)
      rw [t2, t3]
      refine k_leadsBetween (atZ_rng hO _ _) (atZ_rng hO _ _) ?_
      rw [nI_add, nI_add, nI_1 b, df_symm (atZ own a b), df_symm (atZ own a b), Nat.add_assoc, Nat.add_assoc]
      exact hK2
    · rintro K2 - -
      show wp_X0_leadLength_12 _ _ _ _ _ _ _
      unfold wp_X0_leadLength_12
      dsimp only
      rw [nI_1 a]
      exact ⟨fun _ => hK, fun z => absurd (show (16 : Int32) < nI 17 by decide) z⟩
  · rintro K - -
    show wp_X0_leadLength_4 _ _ _ _ _
    unfold wp_X0_leadLength_4
    exact ⟨fun _ => h, fun z => absurd (show (16 : Int32) < nI 17 by decide) z⟩
theorem k_jointCount {n : Nat} {own : Nat → Nat} {of : Nat → Int32} {post : Int32 → Prop} (hO : InvO n own) (ho : RO of own) (h : post (nI (joiN own))) : wp_X0_jointCount of post := by
  unfold wp_X0_jointCount
  refine lp_cnt 17 (fun k (_ : Unit) => (nI (fb_sm (fun a => fb_ct (fun b => decide (2 < sidN own a b)) 17) k), nI k)) (fun _ _ => True) ?_ ?_ 0 () (by omega) trivial
  · rintro K a - ha - hK
    have hK := hK () trivial
    rw [fb_sm_succ] at hK
    obtain ⟨L, hL⟩ : ∃ L, L = fb_sm (fun a => fb_ct (fun b => decide (2 < sidN own a b)) 17) a := ⟨_, rfl⟩
    rw [← hL] at hK ⊢
    show wp_X0_jointCount_4 _ _ _ _ _
    unfold wp_X0_jointCount_4
    dsimp only
    refine brlt2 (a := 16) (by omega) (by omega) (fun z => absurd z (by omega)) (fun _ => ?_)
    refine lp_cnt 17 (fun k (_ : Unit) => (nI (L + fb_ct (fun b => decide (2 < sidN own a b)) k), nI a, nI k)) (fun _ _ => True) ?_ ?_ 0 () (by omega) trivial
    · rintro K2 b - hb - hK2
      have hK2 := hK2 () trivial
      rw [fb_ct_succ] at hK2
      show wp_X0_jointCount_12 _ _ _ _ _ _ _
      unfold wp_X0_jointCount_12 wp_X0_leadsAtCorner
      dsimp only
      refine brlt2 (a := 16) (by omega) (by omega) (fun z => absurd z (by omega)) (fun _ => ?_)
      have t1 := pm1 (a := a) (by omega)
      have t2 := nI_toInt (n := a) (by omega)
      have t3 := pm1 (a := b) (by omega)
      have t4 := nI_toInt (n := b) (by omega)
      refine k_ownerAt ho (k_ownerAt ho (k_ownerAt ho (k_ownerAt ho ?_)))
      rw [t1, t2, t3, t4]
      refine k_leadsBetween (atZ_rng hO _ _) (atZ_rng hO _ _) (k_leadsBetween (atZ_rng hO _ _) (atZ_rng hO _ _) (k_leadsBetween (atZ_rng hO _ _) (atZ_rng hO _ _) (k_leadsBetween (atZ_rng hO _ _) (atZ_rng hO _ _) ?_)))
      rw [nI_add, nI_add, nI_add, nI_1 b, nI_1 (L + _)]
      have es : df (atZ own a b) (atZ own a ((b : Int) - 1)) + df (atZ own a b) (atZ own ((a : Int) - 1) b) + df (atZ own ((a : Int) - 1) ((b : Int) - 1)) (atZ own a ((b : Int) - 1)) + df (atZ own ((a : Int) - 1) ((b : Int) - 1)) (atZ own ((a : Int) - 1) b) = sidN own a b := by
        unfold sidN
        rw [df_symm (atZ own a b), df_symm (atZ own a b)]
        omega
      have sb : sidN own a b ≤ 4 := by
        unfold sidN
        have q1 := df_01 (atZ own ((a : Int) - 1) ((b : Int) - 1)) (atZ own ((a : Int) - 1) b)
        have q2 := df_01 (atZ own a ((b : Int) - 1)) (atZ own a b)
        have q3 := df_01 (atZ own ((a : Int) - 1) ((b : Int) - 1)) (atZ own a ((b : Int) - 1))
        have q4 := df_01 (atZ own ((a : Int) - 1) b) (atZ own a b)
        omega
      rw [es]
      refine brlt2 (b := 3) (by omega) (by omega) (fun z => ?_) (fun z => ?_)
      · rw [decide_eq_false (show ¬ 2 < sidN own a b by omega)] at hK2; exact hK2
      · rw [decide_eq_true (show 2 < sidN own a b by omega), if_pos rfl] at hK2; exact hK2
    · rintro K2 - -
      show wp_X0_jointCount_12 _ _ _ _ _ _ _
      unfold wp_X0_jointCount_12
      dsimp only
      rw [nI_1 a]
      exact ⟨fun _ => hK, fun z => absurd (show (16 : Int32) < nI 17 by decide) z⟩
  · rintro K - -
    show wp_X0_jointCount_4 _ _ _ _ _
    unfold wp_X0_jointCount_4
    exact ⟨fun _ => h, fun z => absurd (show (16 : Int32) < nI 17 by decide) z⟩
theorem b_1 : ∀ j, j < 32 → bt 1 j = decide (j = 0) := by decide +kernel
theorem b_bit {c i : Nat} (hc : c < 32) (hi : i < 32) : bt ((1 : Int32) <<< (nI c &&& 31)) i = decide (i = c) := by
  rw [b_shl c hc 1 hi]
  by_cases h : c ≤ i
  · rw [decide_eq_true h, Bool.true_and, b_1 _ (by omega)]
    exact decide_eq_decide.mpr (by omega)
  · rw [decide_eq_false h, decide_eq_false (show ¬ i = c by omega)]; rfl
theorem k_trace {n q : Nat} {own : Nat → Nat} {of rows : Nat → Int32} {post : (Nat → Int32) → Prop} (hO : InvO n own) (ho : RO of own) (hq : q < 60) (h : ∀ rows', rr rows' (ofP own q) → post rows') : wp_X3_trace rows of (nI q) post := by
  unfold wp_X3_trace
  refine lp_cnt 16 (fun k (s : Nat → Int32) => (nI k, s)) (fun k s => ∀ r, r < k → ∀ i, i < 32 → bt (s r) i = (decide (i < 16) && ofP own q (16 * r + i))) ?_ ?_ 0 rows (by omega) (fun r hr => absurd hr (Nat.not_lt_zero r))
  · rintro K r s hr hs hK
    show wp_X3_trace_2 _ _ _ _ _ _ _
    unfold wp_X3_trace_2
    dsimp only
    refine brle2 (a := 16) (by omega) (by omega) (fun z => absurd z (by omega)) (fun _ => ?_)
    refine lp_cnt 16 (fun k (x : Int32) => (nI r, x, nI k, s)) (fun k x => ∀ i, i < 32 → bt x i = (decide (i < k) && ofP own q (16 * r + i))) ?_ ?_ 0 0 (by omega) (fun i hi => by rw [b_0]; simp)
    · rintro K2 c x hc hx hK2
      show wp_X3_trace_14 _ _ _ _ _ _ _ _ _ _
      unfold wp_X3_trace_14
      dsimp only
      refine brle2 (a := 16) (by omega) (by omega) (fun z => absurd z (by omega)) (fun _ => ?_)
      refine k_ownerAt ho ?_
      have o1 := hO.2.2.1 (16 * r + c) (by omega)
      have o2 := hO.2.1
      rw [nI_toInt (by omega), nI_toInt (by omega), atZ_in hr hc, ← iI_nat, nI_1 c]
      refine breq2 (by omega) (by omega) (fun z => hK2 _ fun i hi => ?_) (fun z => hK2 _ fun i hi => ?_)
      · rw [b_or, hx i hi, b_bit (by omega) hi]
        by_cases e : i = c
        · subst e
          have : ofP own q (16 * r + i) = true := decide_eq_true z
          rw [this, decide_eq_true rfl, decide_eq_true (show i < i + 1 by omega)]; simp
        · rw [decide_eq_false e, Bool.or_false]
          congr 1
          exact decide_eq_decide.mpr (by omega)
      · rw [hx i hi]
        by_cases e : i = c
        · subst e
          have : ofP own q (16 * r + i) = false := decide_eq_false z
          rw [this, Bool.and_false, Bool.and_false]
        · congr 1
          exact decide_eq_decide.mpr (by omega)
    · rintro K2 x hx
      show wp_X3_trace_14 _ _ _ _ _ _ _ _ _ _
      unfold wp_X3_trace_14
      dsimp only
      refine ⟨fun _ => ⟨vp_in_nI (by omega) (by omega), ?_⟩, fun z => absurd (show (16 : Int32) ≤ nI 16 by decide) z⟩
      rw [nI_clamp (by omega), nI_1 r]
      rintro _ rfl
      refine hK _ fun r' hr' i hi => ?_
      by_cases e : r' = r
      · rw [e, upd_at]; exact hx i hi
      · rw [upd_ne _ _ e]; exact hs r' (by omega) i hi
  · rintro K s hs
    show wp_X3_trace_2 _ _ _ _ _ _ _
    unfold wp_X3_trace_2
    dsimp only
    exact ⟨fun _ => h s hs, fun z => absurd (show (16 : Int32) ≤ nI 16 by decide) z⟩
