/-! the class: squaresBelow, isThin, cutFault -/
theorem k_isRowLine {x : Int32} {post : Int32 → Prop} (h : post (bI (decide (0 ≤ x.toInt ∧ x.toInt < 15)))) : wp_X4_isRowLine x post := by
  unfold wp_X4_isRowLine
  rw [fa_lt, show (0 : Int32).toInt = 0 from rfl]
  rw [fa_le, show (15 : Int32).toInt = 15 from rfl]
  by_cases c : 0 ≤ x.toInt ∧ x.toInt < 15
  · rw [decide_eq_true c] at h
    exact ⟨fun z => absurd z (by omega), fun _ => ⟨fun z => absurd z (by omega), fun _ => h⟩⟩
  · rw [decide_eq_false c] at h
    exact ⟨fun _ => h, fun z => ⟨fun _ => h, fun z2 => absurd ⟨by omega, by omega⟩ c⟩⟩
theorem k_squaresBelow {rows : Nat → Int32} {S : Nat → Bool} {x : Int32} {post : Int32 → Prop} (hS : rr rows S) (h : ∀ y, (∀ i, i < 32 → bt y i = sqI S x.toInt (i : Int)) → post y) : wp_X3_squaresBelow rows x post := by
  unfold wp_X3_squaresBelow
  refine k_isRowLine ?_
  rw [bI_br]
  by_cases c : 0 ≤ x.toInt ∧ x.toInt < 15
  · rw [decide_eq_true c, if_pos rfl]
    obtain ⟨r, hr⟩ : ∃ r, r = x.toInt.toNat := ⟨_, rfl⟩
    have ex : x = nI r := by rw [hr, iI_nat, Int.toNat_of_nonneg c.1]; exact iI_self x
    subst ex
    rw [nI_toInt (by omega)] at h
    rw [nI_1, nI_clamp (by omega), nI_clamp (by omega)]
    refine ⟨vp_in_nI (by omega) (by omega), vp_in_nI (by omega) (by omega), ?_⟩
    rintro _ rfl
    refine h _ fun i hi => ?_
    rw [b_and, show (1 : Int32) = nI 1 from rfl, b_ushr 1 (by omega), b_and, b_and]
    unfold sqI sqN
    rw [decide_eq_true (show (0 : Int) ≤ (r : Int) by omega), decide_eq_true (show (0 : Int) ≤ (i : Int) by omega), Int.toNat_natCast, Int.toNat_natCast, decide_eq_true (show r < 15 by omega)]
    by_cases g : i < 15
    · rw [hS r (by omega) i hi, hS (r + 1) (by omega) i hi, hS r (by omega) (1 + i) (by omega), hS (r + 1) (by omega) (1 + i) (by omega), decide_eq_true (show i < 16 by omega), decide_eq_true (show 1 + i < 16 by omega), decide_eq_true g, show 16 * (r + 1) + i = 16 * r + 16 + i by omega, show 16 * r + (1 + i) = 16 * r + i + 1 by omega, show 16 * (r + 1) + (1 + i) = 16 * r + 16 + i + 1 by omega]
      cases S (16 * r + i) <;> cases S (16 * r + i + 1) <;> cases S (16 * r + 16 + i) <;> cases S (16 * r + 16 + i + 1) <;> rfl
    · rw [decide_eq_false g]
      by_cases g2 : 1 + i < 32
      · rw [hS r (by omega) (1 + i) g2, decide_eq_false (show ¬ 1 + i < 16 by omega)]; simp
      · rw [b_big (show 32 ≤ 1 + i by omega)]; simp
  · rw [decide_eq_false c, if_neg (by decide)]
    refine h _ fun i hi => ?_
    rw [b_0]
    unfold sqI sqN
    by_cases g : 0 ≤ x.toInt
    · rw [decide_eq_false (show ¬ x.toInt.toNat < 15 by omega)]; simp
    · rw [decide_eq_false g]; simp
