/-! the class: isThin, cutFault -/
theorem k_isThin {rows : Nat → Int32} {S : Nat → Bool} {post : Int32 → Prop} (hS : rr rows S) (h : post (bI (!thk S))) : wp_X3_isThin rows post := by
  unfold wp_X3_isThin
  refine lp_cnt 16 (fun k (_ : Unit) => nI k) (fun k _ => ∀ c, c < 16 * k → (!S c || lies S c) = true) ?_ ?_ 0 () (by omega) (fun c hc => by omega)
  · rintro K r - hr hI hK
    show wp_X3_isThin_2 _ _ _ _
    unfold wp_X3_isThin_2
    refine brle2 (a := 16) (by omega) (by omega) (fun z => absurd z (by omega)) (fun _ => k_squaresBelow hS fun y1 h1 => k_squaresBelow hS fun y2 h2 => ⟨vp_in_nI hr (by omega), ?_⟩)
    rw [pm1 (by omega)] at h1
    rw [nI_toInt (by omega)] at h2
    rw [nI_clamp (by omega), nI_1 r]
    have hb : ∀ i, i < 16 → bt (rows r &&& (((y1 ||| y2) ||| ((y1 ||| y2) <<< (1 &&& 31))) ^^^ (-1))) i = !(!S (16 * r + i) || lies S (16 * r + i)) := fun i hi => by
      rw [b_and, b_xor, b_m1 i (by omega), b_or, show (1 : Int32) = nI 1 from rfl, b_shl 1 (by omega) _ (show i < 32 by omega), b_or, hS r hr i (by omega), decide_eq_true hi, Bool.true_and, h1 i (by omega), h2 i (by omega)]
      unfold lies
      rw [show (16 * r + i) / 16 = r by omega, show (16 * r + i) % 16 = i by omega]
      by_cases g : 1 ≤ i
      · rw [decide_eq_true g, b_or, h1 (i - 1) (by omega), h2 (i - 1) (by omega), show ((i - 1 : Nat) : Int) = (i : Int) - 1 by omega]
        cases S (16 * r + i) <;> cases sqI S (r : Int) (i : Int) <;> cases sqI S ((r : Int) - 1) (i : Int) <;> cases sqI S (r : Int) ((i : Int) - 1) <;> cases sqI S ((r : Int) - 1) ((i : Int) - 1) <;> rfl
      · have e0 : i = 0 := by omega
        subst e0
        have n1 : ∀ a, sqI S a (((0 : Nat) : Int) - 1) = false := fun a => by
          unfold sqI
          rw [decide_eq_false (show ¬ (0 : Int) ≤ ((0 : Nat) : Int) - 1 by omega)]; simp
        rw [n1, n1, decide_eq_false g]
        cases S (16 * r + 0) <;> cases sqI S (r : Int) ((0 : Nat) : Int) <;> cases sqI S ((r : Int) - 1) ((0 : Nat) : Int) <;> rfl
    have hb2 : ∀ i, i < 32 → ¬ i < 16 → bt (rows r &&& (((y1 ||| y2) ||| ((y1 ||| y2) <<< (1 &&& 31))) ^^^ (-1))) i = false := fun i hi g => by
      rw [b_and, hS r hr i hi, decide_eq_false g]; rfl
    refine ⟨fun z => hK () fun c hc => ?_, fun z => ?_⟩
    · by_cases g : c < 16 * r
      · exact hI c g
      · have := b_eq0.mp z (c % 16) (by omega)
        rw [hb _ (by omega), show 16 * r + c % 16 = c by omega] at this
        cases k : (!S c || lies S c)
        · rw [k] at this; exact absurd this (by decide)
        · rfl
    · have : thk S = false := by
        cases k : thk S
        · rfl
        · refine absurd (b_eq0.mpr fun i hi => ?_) z
          by_cases g : i < 16
          · rw [hb i g, (allB_iff.mp k (16 * r + i) (by omega))]; rfl
          · exact hb2 i hi g
      rw [this] at h; exact h
  · rintro K - hI
    show wp_X3_isThin_2 _ _ _ _
    unfold wp_X3_isThin_2
    have : thk S = true := allB_iff.mpr fun c hc => hI c (by omega)
    rw [this] at h
    exact ⟨fun _ => h, fun z => absurd (show (16 : Int32) ≤ nI 16 by decide) z⟩
theorem k_cutFault {rows : Nat → Int32} {S : Nat → Bool} {post : Int32 → Prop} (hS : rr rows S) (h : post (nI (cutN S))) : wp_X3_cutFault rows post := by
  unfold wp_X3_cutFault
  unfold cutN at h
  rw [tB_gap] at h
  refine k_hasGap hS ?_
  rw [bI_br]
  cases e : dP (gapS S) <;> rw [e] at h
  · rw [if_neg (by decide)]
    refine k_isThin hS ?_
    rw [bI_br]
    cases e2 : thk S <;> rw [e2] at h
    · exact h
    · exact h
  · exact h
