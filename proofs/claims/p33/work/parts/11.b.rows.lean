/-! a set of cells as rows of bits -/
def rr (rows : Nat → Int32) (S : Nat → Bool) : Prop := ∀ r, r < 16 → ∀ i, i < 32 → bt (rows r) i = (decide (i < 16) && S (16 * r + i))
theorem b_neg (x : Int32) {i : Nat} (hi : i < 32) : bt (-x) i = (bt x i ^^ dP (∃ j, j < i ∧ bt x j = true)) := by
  unfold bt
  rw [Int32.toBitVec_neg, BitVec.getLsbD_neg]
  have e : decide (i < 32) = true := decide_eq_true hi
  rw [e, Bool.true_and]
  congr 1
  by_cases h : ∃ j, j < i ∧ x.toBitVec.getLsbD j = true
  · rw [dP_t h]; exact decide_eq_true h
  · rw [dP_f h]; exact decide_eq_false h
theorem b_low (x : Int32) {i : Nat} (hi : i < 32) : bt (x &&& (-x)) i = (bt x i && !dP (∃ j, j < i ∧ bt x j = true)) := by
  rw [b_and, b_neg x hi]
  cases bt x i <;> simp
theorem b_eq0 {x : Int32} : x = 0 ↔ ∀ i, i < 32 → bt x i = false := by
  constructor
  · intro e i _; rw [e]; exact b_0 i
  · intro h; exact b_ext (fun i hi => by rw [h i hi, b_0])
/-- the least of them -/
theorem least {P : Nat → Prop} : ∀ {n : Nat}, P n → ∃ m, m ≤ n ∧ P m ∧ ∀ j, j < m → ¬ P j := by
  intro n h
  obtain ⟨k, h1, h2⟩ := pk_least P ⟨n, h⟩
  refine ⟨k, ?_, h1, h2⟩
  rcases Nat.lt_or_ge n k with q | q
  · exact absurd h (h2 n q)
  · exact q
theorem b_carry (x y : Int32) {m : Nat} (hm : m < 32) (hy : ∀ i, i < 32 → bt y i = decide (i = m)) : ∀ i, i ≤ 32 → BitVec.carry i x.toBitVec y.toBitVec false = dP (m < i ∧ ∀ j, m ≤ j → j < i → bt x j = true) := by
  intro i
  induction i with
  | zero => intro _; rw [BitVec.carry_zero, dP_f (fun h => absurd h.1 (Nat.not_lt_zero _))]
  | succ i ih =>
    intro hi
    rw [BitVec.carry_succ, ih (by omega)]
    show Bool.atLeastTwo (bt x i) (bt y i) _ = _
    rw [hy i (by omega)]
    by_cases e : i = m
    · subst e
      rw [dP_f (fun h => absurd h.1 (Nat.lt_irrefl _)), decide_eq_true rfl]
      cases hx : bt x i
      · rw [dP_f (fun h => by have := h.2 i (Nat.le_refl _) (by omega); rw [hx] at this; cases this)]; rfl
      · rw [dP_t ⟨by omega, fun j h1 h2 => by rw [show j = i by omega]; exact hx⟩]; rfl
    · rw [decide_eq_false e]
      by_cases h : m < i ∧ ∀ j, m ≤ j → j < i → bt x j = true
      · rw [dP_t h]
        cases hx : bt x i
        · rw [dP_f (fun g => by have := g.2 i (by omega) (by omega); rw [hx] at this; cases this)]; rfl
        · rw [dP_t ⟨by omega, fun j h1 h2 => by
            rcases Nat.lt_or_ge j i with q | q
            · exact h.2 j h1 q
            · rw [show j = i by omega]; exact hx⟩]; rfl
      · rw [dP_f h, dP_f (fun g => h ⟨by omega, fun j h1 h2 => g.2 j h1 (by omega)⟩)]
        cases bt x i <;> rfl
/-- what lies behind the first run -/
theorem later_0 (x : Int32) : (x &&& (x + (x &&& (-x)))) = 0 ↔ ¬ ∃ a b c, a < b ∧ b < c ∧ c < 32 ∧ bt x a = true ∧ bt x b = false ∧ bt x c = true := by
  by_cases hz : ∃ a, a < 32 ∧ bt x a = true
  · obtain ⟨a0, ha0, hxa0⟩ := hz
    obtain ⟨m, hm, hxm, hmin⟩ := least (P := fun k => bt x k = true) hxa0
    have hm32 : m < 32 := by omega
    have hlow : ∀ i, i < 32 → bt (x &&& (-x)) i = decide (i = m) := by
      intro i hi
      rw [b_low x hi]
      by_cases e : i = m
      · subst e
        rw [hxm, dP_f (fun ⟨j, h1, h2⟩ => hmin j h1 h2)]; simp
      · rw [decide_eq_false e]
        rcases Nat.lt_or_ge i m with q | q
        · have : bt x i = false := by
            cases hx : bt x i
            · rfl
            · exact absurd hx (hmin i q)
          rw [this]; rfl
        · rw [dP_t ⟨m, by omega, hxm⟩]; simp
    have hbit : ∀ i, i < 32 → bt (x &&& (x + (x &&& (-x)))) i = (bt x i && !(decide (i = m) ^^ dP (m < i ∧ ∀ j, m ≤ j → j < i → bt x j = true))) := by
      intro i hi
      rw [b_and]
      have : bt (x + (x &&& (-x))) i = (bt x i ^^ (decide (i = m) ^^ dP (m < i ∧ ∀ j, m ≤ j → j < i → bt x j = true))) := by
        unfold bt
        rw [Int32.toBitVec_add, BitVec.getLsbD_add hi, b_carry x _ hm32 hlow i (by omega)]
        have := hlow i hi
        unfold bt at this
        rw [this]
        rfl
      rw [this]
      cases bt x i <;> simp
    rw [b_eq0]
    constructor
    · rintro h ⟨a, b, c, hab, hbc, hc, h1, h2, h3⟩
      have k := h c hc
      rw [hbit c hc, h3] at k
      have hma : m ≤ a := by
        rcases Nat.lt_or_ge a m with q | q
        · exact absurd h1 (hmin a q)
        · exact q
      rw [decide_eq_false (by omega), dP_f (fun g => by have := g.2 b (by omega) hbc; rw [h2] at this; cases this)] at k
      simp at k
    · intro h i hi
      rw [hbit i hi]
      cases hx : bt x i
      · rfl
      · by_cases e : i = m
        · subst e
          rw [decide_eq_true rfl, dP_f (fun g => absurd g.1 (Nat.lt_irrefl _))]; rfl
        · have hmi : m < i := by
            rcases Nat.lt_or_ge i m with q | q
            · exact absurd hx (hmin i q)
            · omega
          rw [decide_eq_false e]
          have : ∀ j, m ≤ j → j < i → bt x j = true := by
            intro j h1 h2
            cases hj : bt x j
            · have hne : j ≠ m := fun z => by rw [z] at hj; rw [hxm] at hj; cases hj
              exact absurd ⟨m, j, i, by omega, h2, hi, hxm, hj, hx⟩ h
            · rfl
          rw [dP_t ⟨hmi, this⟩]; rfl
  · constructor
    · rintro - ⟨a, b, c, hab, hbc, hc, h1, -, -⟩
      exact hz ⟨a, by omega, h1⟩
    · intro _
      have e : x = 0 := b_eq0.mpr (fun i hi => by
        cases h : bt x i
        · rfl
        · exact absurd ⟨i, hi, h⟩ hz)
      rw [e]; rfl
/-- runs and gaps -/
def gapB (f : Nat → Bool) : Prop := ∃ a b c, a < b ∧ b < c ∧ c < 16 ∧ f a = true ∧ f b = false ∧ f c = true
theorem runs_gap (f : Nat → Bool) : fb_ct (stB f) 16 < 2 ↔ ¬ gapB f := by
  have start : ∀ (a lo : Nat), lo ≤ a → f a = true → (lo = 0 ∨ f (lo - 1) = false) → ∃ i, lo ≤ i ∧ i ≤ a ∧ stB f i = true := by
    intro a
    induction a with
    | zero =>
      intro lo h1 h2 _
      exact ⟨0, h1, Nat.le_refl _, by unfold stB; rw [h2]; rfl⟩
    | succ a ih =>
      intro lo h1 h2 h3
      rcases Nat.lt_or_ge a lo with q | q
      · have e : lo = a + 1 := by omega
        subst e
        refine ⟨a + 1, Nat.le_refl _, Nat.le_refl _, ?_⟩
        unfold stB
        rw [h2, Nat.add_sub_cancel]
        rcases h3 with h3 | h3
        · omega
        · rw [Nat.add_sub_cancel] at h3; rw [h3]; simp
      · cases hf : f a
        · refine ⟨a + 1, by omega, Nat.le_refl _, ?_⟩
          unfold stB
          rw [h2, Nat.add_sub_cancel, hf]; simp
        · obtain ⟨i, g1, g2, g3⟩ := ih lo q hf h3
          exact ⟨i, g1, by omega, g3⟩
  constructor
  · rintro h ⟨a, b, c, hab, hbc, hc, h1, h2, h3⟩
    obtain ⟨i1, -, g2, g3⟩ := start a 0 (Nat.zero_le _) h1 (Or.inl rfl)
    obtain ⟨i2, k1, k2, k3⟩ := start c (b + 1) (by omega) h3 (Or.inr (by rw [Nat.add_sub_cancel]; exact h2))
    have e1 := fb_ct_step (stB f) (i1 + 1) (i2 - (i1 + 1))
    rw [show i1 + 1 + (i2 - (i1 + 1)) = i2 by omega] at e1
    have e2 : fb_ct (stB f) (i1 + 1) = fb_ct (stB f) i1 + 1 := by rw [fb_ct_succ, g3]; rfl
    have e3 : fb_ct (stB f) (i2 + 1) = fb_ct (stB f) i2 + 1 := by rw [fb_ct_succ, k3]; rfl
    have e4 := fb_ct_step (stB f) (i2 + 1) (16 - (i2 + 1))
    rw [show i2 + 1 + (16 - (i2 + 1)) = 16 by omega] at e4
    omega
  · intro h
    rcases Nat.lt_or_ge (fb_ct (stB f) 16) 2 with q | q
    · exact q
    · exfalso
      obtain ⟨i1, h1, g1, c1⟩ := fb_ct_kth (p := stB f) (k := 0) (n := 16) (by omega)
      obtain ⟨i2, h2, g2, c2⟩ := fb_ct_kth (p := stB f) (k := 1) (n := 16) (by omega)
      have hlt : i1 < i2 := by
        rcases Nat.lt_or_ge i1 i2 with z | z
        · exact z
        · have := fb_ct_mono (stB f) z
          omega
      unfold stB at g1 g2
      simp only [Bool.and_eq_true, Bool.not_eq_true'] at g1 g2
      have hb : f (i2 - 1) = false := by
        have := g2.2
        rw [decide_eq_true (show 0 < i2 by omega), Bool.true_and] at this
        exact this
      have hne : i1 ≠ i2 - 1 := fun z => by rw [← z] at hb; rw [g1.1] at hb; cases hb
      exact h ⟨i1, i2 - 1, i2, by omega, by omega, h2, g1.1, hb, g2.1⟩
