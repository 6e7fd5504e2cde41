/-! the class: width, cellCount -/
theorem k_width {rows : Nat → Int32} {S : Nat → Bool} {post : Int32 → Prop} (hS : rr rows S) (h : post (nI (ext S false))) : wp_X3_width rows post := by
  unfold wp_X3_width
  refine lp_cnt 16 (fun k (x : Int32) => (x, (16 : Int32), nI k)) (fun k x => ∀ i, i < 32 → bt x i = (decide (i < 16) && anyB (fun r => S (16 * r + i)) k)) ?_ ?_ 0 0 (by omega) (fun i hi => by rw [b_0]; simp [anyB])
  · rintro K r x hr hx hK
    show wp_X3_width_13 _ _ _ _ _ _
    unfold wp_X3_width_13
    dsimp only
    refine brle2 (a := 16) (by omega) (by omega) (fun z => absurd z (by omega)) (fun _ => ⟨vp_in_nI hr (by omega), ?_⟩)
    rw [nI_clamp (by omega), nI_1 r]
    rintro _ rfl
    refine hK _ fun i hi => ?_
    rw [b_or, hx i hi, hS r hr i hi, anyB]
    cases decide (i < 16) <;> simp
  · rintro K x hx
    show wp_X3_width_13 _ _ _ _ _ _
    unfold wp_X3_width_13
    dsimp only
    refine ⟨fun _ => pc_w ?_, fun z => absurd (show (16 : Int32) ≤ nI 16 by decide) z⟩
    rw [pc16 fun i h1 h2 => by rw [hx i h2, decide_eq_false (show ¬ i < 16 by omega)]; rfl]
    have e : fb_ct (bt x) 16 = ext S false := fb_ct_cong fun i hi => by
      rw [hx i (by omega), decide_eq_true hi, Bool.true_and, Bool.eq_iff_iff, anyB_iff, extB_iff]
      constructor
      · rintro ⟨r, hr, g⟩
        exact ⟨16 * r + i, by omega, g, by show (16 * r + i) % 16 = i; omega⟩
      · rintro ⟨c, hc, g, e⟩
        have e : c % 16 = i := e
        refine ⟨c / 16, by omega, ?_⟩
        rw [show 16 * (c / 16) + i = c by omega]; exact g
    rw [e]; exact h
theorem k_cellCount {rows : Nat → Int32} {S : Nat → Bool} {post : Int32 → Prop} (hS : rr rows S) (h : post (nI (fb_ct S 256))) : wp_X3_cellCount rows post := by
  unfold wp_X3_cellCount
  refine lp_cnt 16 (fun k (_ : Unit) => (nI (fb_ct S (16 * k)), (16 : Int32), nI k)) (fun _ _ => True) ?_ ?_ 0 () (by omega) trivial
  · rintro K r - hr - hK
    have hK := hK () trivial
    show wp_X3_cellCount_13 _ _ _ _ _ _
    unfold wp_X3_cellCount_13
    dsimp only
    refine brle2 (a := 16) (by omega) (by omega) (fun z => absurd z (by omega)) (fun _ => ⟨vp_in_nI hr (by omega), pc_w ?_⟩)
    rw [nI_clamp (by omega), nI_1 r, pc16 fun i h1 h2 => by rw [hS r hr i h2, decide_eq_false (show ¬ i < 16 by omega)]; rfl, nI_add]
    have e : fb_ct (bt (rows r)) 16 = fb_ct (fun k => S (16 * r + k)) 16 := fb_ct_cong fun i hi => by
      rw [hS r hr i (by omega), decide_eq_true hi, Bool.true_and]
    rw [e, ← fb_ct_split, show 16 * r + 16 = 16 * (r + 1) by omega]
    exact hK
  · rintro K - -
    show wp_X3_cellCount_13 _ _ _ _ _ _
    unfold wp_X3_cellCount_13
    exact ⟨fun _ => h, fun z => absurd (show (16 : Int32) ≤ nI 16 by decide) z⟩
theorem nI_up (k : Nat) : nI k = iI (k : Int) := iI_nat k
theorem al_row {S : Nat → Bool} {r : Nat} (hr : r < 15) : alN S r = fb_ct (fun i => S (16 * r + i) && S (16 * (r + 1) + i)) 16 := by
  unfold alN
  have e : ∀ c, c < 256 → alB S r c = (decide (c / 16 = r) && (S c && S (c + 16))) := fun c hc => by
    unfold alB byd besN
    rw [if_pos (show r < 16 by omega), if_neg (show ¬ 1 = 0 by decide), if_pos rfl]
    by_cases h : c / 16 = 15
    · rw [if_pos h, decide_eq_false (show ¬ c / 16 = r by omega)]; rfl
    · rw [if_neg h]
      dsimp only
      rw [if_pos (show r < 16 by omega), if_pos (show r < 16 by omega)]
      by_cases g : c / 16 = r
      · rw [decide_eq_true g, decide_eq_false (show ¬ r < c / 16 by omega), decide_eq_true (show r < (c + 16) / 16 by omega)]
        cases S c <;> cases S (c + 16) <;> rfl
      · rw [decide_eq_false g]
        by_cases g2 : r < c / 16
        · rw [decide_eq_true g2]; cases S c <;> cases S (c + 16) <;> rfl
        · rw [decide_eq_false (show ¬ r < (c + 16) / 16 by omega)]; cases S c <;> cases S (c + 16) <;> cases decide (r < c / 16) <;> rfl
  rw [fb_ct_cong e, show 256 = 16 * r + (16 + (240 - 16 * r)) by omega, fb_ct_split, fb_ct_split]
  have z1 : fb_ct (fun c => decide (c / 16 = r) && (S c && S (c + 16))) (16 * r) = 0 := fb_ct_zero.mpr fun k hk => by
    rw [decide_eq_false (show ¬ k / 16 = r by omega)]; rfl
  have z2 : fb_ct (fun k => decide ((16 * r + (16 + k)) / 16 = r) && (S (16 * r + (16 + k)) && S (16 * r + (16 + k) + 16))) (240 - 16 * r) = 0 := fb_ct_zero.mpr fun k hk => by
    rw [decide_eq_false (show ¬ (16 * r + (16 + k)) / 16 = r by omega)]; rfl
  rw [z1, z2, Nat.zero_add, Nat.add_zero]
  exact fb_ct_cong fun i hi => by
    rw [decide_eq_true (show (16 * r + i) / 16 = r by omega), Bool.true_and, show 16 * (r + 1) + i = 16 * r + i + 16 by omega]
theorem ct_rows (P : Nat → Bool) : ∀ k, fb_ct P (16 * k) = fb_sm (fun r => fb_ct (fun i => P (16 * r + i)) 16) k
  | 0 => rfl
  | k + 1 => by rw [show 16 * (k + 1) = 16 * k + 16 by omega, fb_ct_split, ct_rows P k, fb_sm_succ]
theorem ct_one {P : Nat → Bool} {i n : Nat} (hi : i < n) (h : ∀ k, k < n → k ≠ i → P k = false) : fb_ct P n = if P i then 1 else 0 := by
  have h2 := fb_ct_upd P false hi
  have z : fb_ct (fun k => if k = i then false else P k) n = 0 := fb_ct_zero.mpr fun k hk => by
    by_cases e : k = i
    · rw [if_pos e]
    · rw [if_neg e]; exact h k hk e
  rw [z, if_neg (by decide : ¬ false = true)] at h2
  omega
theorem al_col {S : Nat → Bool} {j : Nat} (hj : j < 15) : alN S (16 + j) = fb_ct (fun r => S (16 * r + j) && S (16 * r + j + 1)) 16 := by
  have e1 : alN S (16 + j) = fb_sm (fun r => fb_ct (fun i => alB S (16 + j) (16 * r + i)) 16) 16 := ct_rows (alB S (16 + j)) 16
  rw [e1]
  have e : ∀ c, c < 256 → alB S (16 + j) c = (decide (c % 16 = j) && (S c && S (c + 1))) := fun c hc => by
    unfold alB byd besN
    rw [if_neg (show ¬ 16 + j < 16 by omega), if_neg (show ¬ 3 = 0 by decide), if_neg (show ¬ 3 = 1 by decide), if_neg (show ¬ 3 = 2 by decide)]
    by_cases h : c % 16 = 15
    · rw [if_pos h, decide_eq_false (show ¬ c % 16 = j by omega)]; rfl
    · rw [if_neg h]
      dsimp only
      rw [if_neg (show ¬ 16 + j < 16 by omega), if_neg (show ¬ 16 + j < 16 by omega), show 16 + j - 16 = j by omega]
      by_cases g : c % 16 = j
      · rw [decide_eq_true g, decide_eq_false (show ¬ j < c % 16 by omega), decide_eq_true (show j < (c + 1) % 16 by omega)]
        cases S c <;> cases S (c + 1) <;> rfl
      · rw [decide_eq_false g]
        by_cases g2 : j < c % 16
        · rw [decide_eq_true g2]; cases S c <;> cases S (c + 1) <;> rfl
        · rw [decide_eq_false (show ¬ j < (c + 1) % 16 by omega)]; cases S c <;> cases S (c + 1) <;> cases decide (j < c % 16) <;> rfl
  have key : ∀ m, m ≤ 16 → fb_sm (fun r => fb_ct (fun i => alB S (16 + j) (16 * r + i)) 16) m = fb_ct (fun r => S (16 * r + j) && S (16 * r + j + 1)) m := by
    intro m
    induction m with
    | zero => intro _; rfl
    | succ m ih =>
      intro hm
      rw [fb_sm_succ, ih (by omega), fb_ct_succ (fun r => S (16 * r + j) && S (16 * r + j + 1)) m]
      have one : fb_ct (fun i => alB S (16 + j) (16 * m + i)) 16 = if (S (16 * m + j) && S (16 * m + j + 1)) = true then 1 else 0 := by
        rw [ct_one (i := j) (by omega) (fun k hk hne => by rw [e _ (by omega), decide_eq_false (by omega)]; rfl), e _ (by omega), decide_eq_true (show (16 * m + j) % 16 = j by omega), Bool.true_and]
      rw [one]
  exact key 16 (Nat.le_refl _)
theorem b_at1 (x : Int32) {k : Nat} (hk : k < 32) : ((x.toUInt32 >>> ((nI k).toUInt32 &&& Int32.toUInt32 31)).toInt32 &&& 1) = bI (bt x k) := by
  refine b_ext fun i hi => ?_
  have one : ∀ i, i < 32 → bt 1 i = decide (i = 0) := by decide +kernel
  have bb : ∀ b : Bool, ∀ i, i < 32 → bt (bI b) i = (decide (i = 0) && b) := by decide +kernel
  rw [b_and, b_ushr k hk, one i hi, bb _ i hi]
  by_cases e : i = 0
  · subst e; rw [decide_eq_true rfl, Bool.and_true, Nat.add_zero, Bool.true_and]
  · rw [decide_eq_false e, Bool.and_false, Bool.false_and]
theorem k_sidesAlong {rows : Nat → Int32} {S : Nat → Bool} {line : Nat} {post : Int32 → Prop} (hS : rr rows S) (hl : line < 31) (hl2 : line ≠ 15) (h : post (nI (alN S line))) : wp_X3_sidesAlong rows (nI line) post := by
  unfold wp_X3_sidesAlong
  refine k_isRowLine ?_
  rw [bI_br, nI_toInt (by omega)]
  by_cases g : line < 15
  · rw [decide_eq_true (show (0 : Int) ≤ (line : Int) ∧ (line : Int) < 15 by omega), if_pos rfl]
    unfold wp_X3_sidesBehindRow
    refine k_isRowLine ?_
    rw [bI_br, nI_toInt (by omega), decide_eq_true (show (0 : Int) ≤ (line : Int) ∧ (line : Int) < 15 by omega), if_pos rfl, nI_1, nI_clamp (by omega), nI_clamp (by omega)]
    refine ⟨vp_in_nI (by omega) (by omega), vp_in_nI (by omega) (by omega), pc_w ?_⟩
    have hb : ∀ i, i < 32 → bt (rows line &&& rows (line + 1)) i = (decide (i < 16) && (S (16 * line + i) && S (16 * (line + 1) + i))) := fun i hi => by
      rw [b_and, hS line (by omega) i hi, hS (line + 1) (by omega) i hi]
      cases decide (i < 16) <;> rfl
    rw [pc16 fun i h1 h2 => by rw [hb i h2, decide_eq_false (show ¬ i < 16 by omega)]; rfl]
    rw [al_row g] at h
    have e : fb_ct (bt (rows line &&& rows (line + 1))) 16 = fb_ct (fun i => S (16 * line + i) && S (16 * (line + 1) + i)) 16 := fb_ct_cong fun i hi => by
      rw [hb i (by omega), decide_eq_true hi, Bool.true_and]
    rw [e]; exact h
  · obtain ⟨j, rfl⟩ : ∃ j, line = 16 + j := ⟨line - 16, by omega⟩
    rw [decide_eq_false (show ¬ ((0 : Int) ≤ ((16 + j : Nat) : Int) ∧ ((16 + j : Nat) : Int) < 15) by omega), if_neg (by decide)]
    rw [al_col (by omega)] at h
    have ej : nI (16 + j) - 16 = nI j := by
      rw [show (16 : Int32) = nI 16 from rfl, pk_sub (by omega)]
      exact congrArg nI (by omega)
    rw [ej]
    unfold wp_X3_sidesBehindColumn
    refine lp_cnt 16 (fun k (_ : Unit) => (nI (fb_ct (fun r => S (16 * r + j) && S (16 * r + j + 1)) k), (16 : Int32), nI k)) (fun _ _ => True) ?_ ?_ 0 () (by omega) trivial
    · rintro K r - hr - hK
      have hK := hK () trivial
      show wp_X3_sidesBehindColumn_14 _ _ _ _ _ _ _
      unfold wp_X3_sidesBehindColumn_14
      dsimp only
      refine brle2 (a := 16) (by omega) (by omega) (fun z => absurd z (by omega)) (fun _ => ⟨vp_in_nI hr (by omega), ?_⟩)
      rw [nI_clamp (by omega), nI_1 r]
      rintro y7 e7 y2 e2
      have eb : bt y7 j = (S (16 * r + j) && S (16 * r + j + 1)) := by
        rw [e7, b_and, show (1 : Int32) = nI 1 from rfl, b_ushr 1 (by omega), hS r hr j (by omega), hS r hr (1 + j) (by omega), decide_eq_true (show j < 16 by omega), decide_eq_true (show 1 + j < 16 by omega), Bool.true_and, Bool.true_and, show 16 * r + (1 + j) = 16 * r + j + 1 by omega]
      rw [b_at1 y7 (show j < 32 by omega), eb, cnt_bI (fun r => S (16 * r + j) && S (16 * r + j + 1))] at e2
      rw [e2]; exact hK
    · rintro K - -
      show wp_X3_sidesBehindColumn_14 _ _ _ _ _ _ _
      unfold wp_X3_sidesBehindColumn_14
      exact ⟨fun _ => h, fun z => absurd (show (16 : Int32) ≤ nI 16 by decide) z⟩
