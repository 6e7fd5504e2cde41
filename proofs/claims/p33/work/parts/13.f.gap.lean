/-! the class: hasGap -/
theorem dP_and (p q : Prop) : (dP p && dP q) = dP (p ∧ q) := by
  by_cases h1 : p
  · by_cases h2 : q
    · rw [dP_t h1, dP_t h2, dP_t ⟨h1, h2⟩]; rfl
    · rw [dP_t h1, dP_f h2, dP_f (show ¬ (p ∧ q) from fun z => h2 z.2)]; rfl
  · rw [dP_f h1, dP_f (show ¬ (p ∧ q) from fun z => h1 z.1)]; rfl
def gapS (S : Nat → Bool) : Prop := (∃ r, r < 16 ∧ gapB fun j => S (16 * r + j)) ∨ ∃ i, i < 16 ∧ gapB fun r => S (16 * r + i)
theorem tB_gap (S : Nat → Bool) : (tB S true && tB S false) = !dP (gapS S) := by
  unfold tB
  rw [dP_and]
  by_cases h : gapS S
  · rw [dP_t h]
    refine dP_f fun z => ?_
    rcases h with ⟨r, hr, g⟩ | ⟨i, hi, g⟩
    · exact (runs_gap _).mp (z.1 r hr) g
    · exact (runs_gap _).mp (z.2 i hi) g
  · rw [dP_f h]
    refine dP_t ⟨fun k hk => (runs_gap _).mpr fun g => h (Or.inl ⟨k, hk, g⟩), fun k hk => (runs_gap _).mpr fun g => h (Or.inr ⟨k, hk, g⟩)⟩
theorem k_hasGap {rows : Nat → Int32} {S : Nat → Bool} {post : Int32 → Prop} (hS : rr rows S) (h : post (bI (dP (gapS S)))) : wp_X3_hasGap rows post := by
  unfold wp_X3_hasGap
  refine lp_cnt 16 (fun k (s : Int32 × Int32) => (s.1, s.2, (16 : Int32), nI k)) (fun k s => (∀ i, i < 32 → (bt s.1 i = true ↔ i < 16 ∧ ∃ a, a < k ∧ S (16 * a + i) = true)) ∧ (∀ i, i < 32 → (bt s.2 i = true ↔ i < 16 ∧ ∃ a b, a < b ∧ b < k ∧ S (16 * a + i) = true ∧ S (16 * b + i) = false)) ∧ (∀ r, r < k → ¬ gapB fun j => S (16 * r + j)) ∧ ∀ i, i < 16 → ¬ ∃ a b c, a < b ∧ b < c ∧ c < k ∧ S (16 * a + i) = true ∧ S (16 * b + i) = false ∧ S (16 * c + i) = true) ?_ ?_ 0 (0, 0) (by omega) ?_
  · rintro K r ⟨met, ended⟩ hr ⟨h1, h2, h3, h4⟩ hK
    dsimp only at h1 h2
    show wp_X3_hasGap_16 _ _ _ _ _ _ _
    unfold wp_X3_hasGap_16
    dsimp only
    refine brle2 (a := 16) (by omega) (by omega) (fun z => absurd z (by omega)) (fun _ => ⟨vp_in_nI hr (by omega), ?_⟩)
    rw [nI_clamp (by omega), nI_1 r]
    rintro _ rfl _ rfl _ rfl
    have found : gapS S → post 1 := fun g => by
      rw [dP_t g] at h; exact h
    have hb : ∀ i, i < 32 → (bt (rows r) i = true ↔ i < 16 ∧ S (16 * r + i) = true) := fun i hi => by
      rw [hS r hr i hi, Bool.and_eq_true, decide_eq_true_iff]
    have hb0 : ∀ i, i < 16 → (bt (rows r) i = false ↔ S (16 * r + i) = false) := fun i hi => by
      rw [hS r hr i (by omega), decide_eq_true hi, Bool.true_and]
    have e2 : ∀ i, i < 32 → (bt (ended ||| (met &&& (rows r ^^^ (-1)))) i = true ↔ i < 16 ∧ ∃ a b, a < b ∧ b < r + 1 ∧ S (16 * a + i) = true ∧ S (16 * b + i) = false) := fun i hi => by
      rw [b_or, b_and, b_xor, b_m1 i hi, Bool.or_eq_true, Bool.and_eq_true, h2 i hi, h1 i hi]
      constructor
      · rintro (⟨hi16, a, b, ha, hbk, q1, q2⟩ | ⟨⟨hi16, a, ha, q1⟩, q2⟩)
        · exact ⟨hi16, a, b, ha, by omega, q1, q2⟩
        · refine ⟨hi16, a, r, ha, by omega, q1, ?_⟩
          rw [← hb0 i hi16]
          cases g : bt (rows r) i
          · rfl
          · rw [g] at q2; exact absurd q2 (by decide)
      · rintro ⟨hi16, a, b, ha, hbk, q1, q2⟩
        by_cases e : b = r
        · subst e
          refine Or.inr ⟨⟨hi16, a, ha, q1⟩, ?_⟩
          rw [(hb0 i hi16).mpr q2]; rfl
        · exact Or.inl ⟨hi16, a, b, ha, by omega, q1, q2⟩
    refine ⟨fun z => ⟨fun z2 => ?_, fun z2 => found ?_⟩, fun z => found ?_⟩
    · have hng : ¬ gapB fun j => S (16 * r + j) := by
        rintro ⟨a, b, c, q1, q2, q3, q4, q5, q6⟩
        exact (later_0 (rows r)).mp z ⟨a, b, c, q1, q2, by omega, (hb a (by omega)).mpr ⟨by omega, q4⟩, (hb0 b (by omega)).mpr q5, (hb c (by omega)).mpr ⟨q3, q6⟩⟩
      refine hK (_, _) ⟨fun i hi => ?_, e2, fun r' hr' => ?_, fun i hi => ?_⟩
      · dsimp only
        rw [b_or, Bool.or_eq_true, h1 i hi, hb i hi]
        constructor
        · rintro (⟨hi16, a, ha, q⟩ | ⟨hi16, q⟩)
          · exact ⟨hi16, a, by omega, q⟩
          · exact ⟨hi16, r, by omega, q⟩
        · rintro ⟨hi16, a, ha, q⟩
          by_cases e : a = r
          · subst e; exact Or.inr ⟨hi16, q⟩
          · exact Or.inl ⟨hi16, a, by omega, q⟩
      · by_cases e : r' = r
        · subst e; exact hng
        · exact h3 r' (by omega)
      · rintro ⟨a, b, c, q1, q2, q3, q4, q5, q6⟩
        by_cases e : c = r
        · subst e
          have := b_eq0.mp z2 i (by omega)
          rw [b_and, (e2 i (by omega)).mpr ⟨hi, a, b, q1, by omega, q4, q5⟩, (hb i (by omega)).mpr ⟨hi, q6⟩] at this
          exact absurd this (by decide)
        · exact h4 i hi ⟨a, b, c, q1, q2, by omega, q4, q5, q6⟩
    · refine Classical.byContradiction fun hno => z2 (b_eq0.mpr fun i hi => ?_)
      rw [b_and]
      cases g1 : bt (ended ||| (met &&& (rows r ^^^ (-1)))) i
      · rfl
      cases g2 : bt (rows r) i
      · rfl
      obtain ⟨hi16, a, b, q1, q2, q3, q4⟩ := (e2 i hi).mp g1
      have q5 := ((hb i hi).mp g2).2
      have hbr : b < r := by
        rcases Nat.lt_or_ge b r with g | g
        · exact g
        · have : b = r := by omega
          subst this
          rw [q4] at q5; exact absurd q5 (by decide)
      exact absurd (Or.inr ⟨i, hi16, a, b, r, q1, hbr, hr, q3, q4, q5⟩) hno
    · refine Classical.byContradiction fun hno => z ((later_0 (rows r)).mpr ?_)
      rintro ⟨a, b, c, q1, q2, q3, q4, q5, q6⟩
      have hc := (hb c q3).mp q6
      exact hno (Or.inl ⟨r, hr, a, b, c, q1, q2, hc.1, ((hb a (by omega)).mp q4).2, (hb0 b (by omega)).mp q5, hc.2⟩)
  · rintro K ⟨met, ended⟩ ⟨h1, h2, h3, h4⟩
    show wp_X3_hasGap_16 _ _ _ _ _ _ _
    unfold wp_X3_hasGap_16
    dsimp only
    refine ⟨fun _ => ?_, fun z => absurd (show (16 : Int32) ≤ nI 16 by decide) z⟩
    have : ¬ gapS S := by
      rintro (⟨r, hr, g⟩ | ⟨i, hi, a, b, c, q⟩)
      · exact h3 r hr g
      · exact h4 i hi ⟨a, b, c, q⟩
    rw [dP_f this] at h
    exact h
  · refine ⟨fun i hi => ?_, fun i hi => ?_, fun r hr => absurd hr (Nat.not_lt_zero r), fun i hi => ?_⟩
    · dsimp only
      rw [b_0]
      exact ⟨fun z => absurd z (by decide), fun ⟨_, a, ha, _⟩ => absurd ha (Nat.not_lt_zero a)⟩
    · dsimp only
      rw [b_0]
      exact ⟨fun z => absurd z (by decide), fun ⟨_, a, b, _, hb, _⟩ => absurd hb (Nat.not_lt_zero b)⟩
    · rintro ⟨a, b, c, q1, q2, q3, -⟩
      exact absurd q3 (Nat.not_lt_zero c)
