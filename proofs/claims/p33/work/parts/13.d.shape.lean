/-! the class: Shape's plain methods -/
def cbB (line r i : Nat) : Bool := if line < 16 then decide (line < r) else decide (line - 16 < i)
theorem b_m2 : ∀ i, i < 32 → bt (-2) i = decide (0 < i) := by decide +kernel
theorem k_columnsBeyond {line r : Nat} {post : Int32 → Prop} (hl : line < 32) (hr : r < 16) (h : ∀ x, (∀ i, i < 32 → bt x i = cbB line r i) → post x) : wp_X3_columnsBeyond (nI line) (nI r) post := by
  unfold wp_X3_columnsBeyond
  unfold cbB at h
  refine brle2 (a := 16) (by omega) (by omega) (fun z => h _ fun i hi => ?_) (fun z => brle2 (by omega) (by omega) (fun z2 => h _ fun i hi => ?_) (fun z2 => h _ fun i hi => ?_))
  · rw [show (16 : Int32) = nI 16 from rfl, pk_sub z, b_shl _ (by omega) _ hi, if_neg (by omega)]
    by_cases g : line - 16 ≤ i
    · rw [decide_eq_true g, Bool.true_and, b_m2 _ (by omega)]
      exact decide_eq_decide.mpr (by omega)
    · rw [decide_eq_false g, decide_eq_false (by omega)]; rfl
  · rw [b_0, if_pos (by omega), decide_eq_false (by omega)]
  · rw [b_m1 i hi, if_pos (by omega), decide_eq_true (by omega)]
theorem byd_ri {line r i : Nat} (hi : i < 16) : byd (16 * r + i) line = cbB line r i := by
  unfold byd cbB
  rw [show (16 * r + i) / 16 = r by omega, show (16 * r + i) % 16 = i by omega]
theorem k_takeSide {line : Nat} {b : Bool} {rows from_ : Nat → Int32} {S : Nat → Bool} {post : (Nat → Int32) → Prop} (hl : line < 32) (hS : rr from_ S) (h : ∀ rows', rr rows' (sideS S line b) → post rows') : wp_X3_takeSide rows from_ (nI line) (bI b) post := by
  unfold wp_X3_takeSide
  refine lp_cnt 16 (fun k (s : Nat → Int32) => (nI k, s)) (fun k s => ∀ r, r < k → ∀ i, i < 32 → bt (s r) i = (decide (i < 16) && sideS S line b (16 * r + i))) ?_ ?_ 0 rows (by omega) (fun r hr => absurd hr (Nat.not_lt_zero r))
  · rintro K r s hr hs hK
    show wp_X3_takeSide_3 _ _ _ _ _ _ _ _
    unfold wp_X3_takeSide_3
    dsimp only
    refine brle2 (a := 16) (by omega) (by omega) (fun z => absurd z (by omega)) (fun _ => k_columnsBeyond hl hr fun x hx => ⟨vp_in_nI hr (by omega), ?_⟩)
    rw [nI_clamp (by omega)]
    have fin : ∀ y, (∀ i, i < 32 → i < 16 → bt y i = decide (cbB line r i = b)) → wp_X3_takeSide_44 rows from_ (nI line) (bI b) post (fun b0 b1 => K (b0, b1)) (nI r) (from_ r) y (nI r) s := fun y hy => by
      unfold wp_X3_takeSide_44
      refine ⟨vp_in_nI hr (by omega), ?_⟩
      rw [nI_clamp (by omega), nI_1 r]
      rintro _ rfl
      refine hK _ fun r' hr' i hi => ?_
      by_cases e : r' = r
      · rw [e, upd_at, b_and, hS r hr i hi]
        by_cases g : i < 16
        · rw [hy i hi g, decide_eq_true g]
          unfold sideS
          rw [byd_ri g]
          simp
        · rw [decide_eq_false g]; simp
      · rw [upd_ne _ _ e]; exact hs r' (by omega) i hi
    cases b
    · refine ⟨fun _ => fin _ fun i hi g => ?_, fun z => absurd rfl z⟩
      rw [b_xor, b_m1 i hi, hx i hi]
      cases cbB line r i <;> rfl
    · refine ⟨ne1, fun _ => fin _ fun i hi g => ?_⟩
      rw [hx i hi]
      cases cbB line r i <;> rfl
  · rintro K s hs
    show wp_X3_takeSide_3 _ _ _ _ _ _ _ _
    unfold wp_X3_takeSide_3
    dsimp only
    exact ⟨fun _ => h s hs, fun z => absurd (show (16 : Int32) ≤ nI 16 by decide) z⟩
theorem ge0 {a : Nat} (h : a < 2147483648) : ¬ nI a < 0 := by
  rw [fa_lt, nI_toInt h, show (0 : Int32).toInt = 0 from rfl]; omega
theorem k_leave {c : Nat} {rows : Nat → Int32} {S : Nat → Bool} {post : (Nat → Int32) → Prop} (hc : c < 256) (hS : rr rows S) (h : ∀ rows', rr rows' (fun x => S x && decide (x ≠ c)) → post rows') : wp_X3_leave rows (nI c) post := by
  unfold wp_X3_leave
  refine ⟨fun z => absurd z (ge0 (by omega)), fun _ => ⟨fun z => absurd z (lc_ge hc), fun _ => ?_⟩⟩
  rw [nrem hc, ndiv hc, nI_clamp (by omega)]
  refine ⟨vp_in_nI (by omega) (by omega), vp_in_nI (by omega) (by omega), ?_⟩
  rintro _ rfl
  refine h _ fun r hr i hi => ?_
  by_cases e : r = c / 16
  · rw [e, upd_at, b_and, b_xor, b_bit (by omega) hi, b_m1 i hi, hS _ (by omega) i hi, Bool.and_assoc]
    congr 1
    congr 1
    by_cases g : i = c % 16
    · rw [decide_eq_true g, decide_eq_false (show ¬ 16 * (c / 16) + i ≠ c by omega)]; rfl
    · rw [decide_eq_false g, decide_eq_true (show 16 * (c / 16) + i ≠ c by omega)]; rfl
  · rw [upd_ne _ _ e, hS r hr i hi]
    dsimp only
    by_cases g : i < 16
    · rw [decide_eq_true (show 16 * r + i ≠ c by omega), Bool.and_true]
    · rw [decide_eq_false g]; rfl
theorem b_low1 (x : Int32) : x &&& 1 = bI (bt x 0) := by
  refine b_ext fun i hi => ?_
  rw [b_and, b_1 i hi]
  by_cases e : i = 0
  · subst e
    cases bt x 0 <;> rfl
  · rw [decide_eq_false e, Bool.and_false]
    cases bt x 0
    · exact (b_0 i).symm
    · show false = bt 1 i
      rw [b_1 i hi, decide_eq_false e]
theorem k_has {c : Nat} {rows : Nat → Int32} {S : Nat → Bool} {post : Int32 → Prop} (hc : c < 256) (hS : rr rows S) (h : post (bI (S c))) : wp_X3_has rows (nI c) post := by
  unfold wp_X3_has
  refine ⟨fun z => absurd z (ge0 (by omega)), fun _ => ⟨fun z => absurd z (lc_ge hc), fun _ => ?_⟩⟩
  rw [nrem hc, ndiv hc, nI_clamp (by omega), b_low1, b_ushr _ (by omega), Nat.add_zero, hS _ (by omega) _ (by omega), decide_eq_true (show c % 16 < 16 by omega), Bool.true_and, show 16 * (c / 16) + c % 16 = c by omega]
  refine ⟨vp_in_nI (by omega) (by omega), ?_⟩
  cases e : S c <;> rw [e] at h
  · exact ⟨fun _ => h, fun z => absurd rfl z⟩
  · exact ⟨ne1, fun _ => h⟩
def ownS (own : Nat → Nat) (S : Nat → Bool) (q k : Nat) : Nat → Nat := fun x => if x < k ∧ S x = true then q else own x
theorem k_hands {q : Nat} {own : Nat → Nat} {of rows : Nat → Int32} {S : Nat → Bool} {post : (Nat → Int32) → Prop} (ho : RO of own) (hS : rr rows S) (h : ∀ of', RO of' (ownS own S q 256) → post of') : wp_X0_hand_ of rows (nI q) post := by
  unfold wp_X0_hand_
  refine lp_cnt 256 (fun k (s : Nat → Int32) => (nI k, s)) (fun k s => RO s (ownS own S q k)) ?_ ?_ 0 of (by omega) (fun c hc => by unfold ownS; rw [if_neg (by omega)]; exact ho c hc)
  · rintro K k s hk hs hK
    show wp_X0_hand__2 _ _ _ _ _ _ _
    unfold wp_X0_hand__2
    dsimp only
    refine ⟨fun z => absurd z (lc_ge hk), fun _ => k_has hk hS ?_⟩
    rw [nI_clamp (by omega), nI_1 k, bI_br]
    cases e : S k
    · refine hK s fun c hc => ?_
      rw [hs c hc]
      unfold ownS
      by_cases g : c < k ∧ S c = true
      · rw [if_pos g, if_pos ⟨by omega, g.2⟩]
      · rw [if_neg g, if_neg (fun z => ?_)]
        by_cases g2 : c = k
        · rw [g2, e] at z; exact absurd z.2 (by decide)
        · exact g ⟨by omega, z.2⟩
    · rw [if_pos rfl]
      refine ⟨lc_in hk, ?_⟩
      rintro _ rfl
      refine hK _ fun c hc => ?_
      unfold ownS
      by_cases g2 : c = k
      · rw [g2, upd_at, if_pos ⟨by omega, e⟩]
      · rw [upd_ne _ _ g2, hs c hc]
        unfold ownS
        by_cases g : c < k ∧ S c = true
        · rw [if_pos g, if_pos ⟨by omega, g.2⟩]
        · rw [if_neg g, if_neg (fun z => g ⟨by omega, z.2⟩)]
  · rintro K s hs
    show wp_X0_hand__2 _ _ _ _ _ _ _
    unfold wp_X0_hand__2
    exact ⟨fun _ => h s hs, fun z => absurd lc_end z⟩
theorem row0 {rows : Nat → Int32} {S : Nat → Bool} (hS : rr rows S) {r : Nat} (hr : r < 16) : (rows r = 0) = (extB S true r = false) := by
  refine propext ⟨fun h => ?_, fun h => ?_⟩
  · cases g : extB S true r
    · rfl
    · obtain ⟨c, hc, hSc, e⟩ := extB_iff.mp g
      have e : c / 16 = r := e
      have := b_eq0.mp h (c % 16) (by omega)
      rw [hS r hr _ (by omega), decide_eq_true (show c % 16 < 16 by omega), Bool.true_and, show 16 * r + c % 16 = c by omega, hSc] at this
      exact absurd this (by decide)
  · refine b_eq0.mpr fun i hi => ?_
    rw [hS r hr i hi]
    by_cases g : i < 16
    · rw [decide_eq_true g, Bool.true_and]
      cases k : S (16 * r + i)
      · rfl
      · have : extB S true r = true := extB_iff.mpr ⟨16 * r + i, by omega, k, by show (16 * r + i) / 16 = r; omega⟩
        rw [h] at this
        exact absurd this (by decide)
    · rw [decide_eq_false g]; rfl
theorem k_height {rows : Nat → Int32} {S : Nat → Bool} {post : Int32 → Prop} (hS : rr rows S) (h : post (nI (ext S true))) : wp_X3_height rows post := by
  unfold wp_X3_height
  refine lp_cnt 16 (fun k (_ : Unit) => (nI (fb_ct (extB S true) k), (16 : Int32), nI k)) (fun _ _ => True) ?_ ?_ 0 () (by omega) trivial
  · rintro K r - hr - hK
    have hK := hK () trivial
    rw [← cnt_bI] at hK
    show wp_X3_height_13 _ _ _ _ _ _
    unfold wp_X3_height_13
    dsimp only
    refine brle2 (a := 16) (by omega) (by omega) (fun z => absurd z (by omega)) (fun _ => ⟨vp_in_nI hr (by omega), ?_⟩)
    rw [nI_clamp (by omega), nI_1 r, row0 hS hr]
    cases e : extB S true r <;> rw [e] at hK
    · refine ⟨fun _ => ?_, fun z => absurd rfl z⟩
      have e0 : nI (fb_ct (extB S true) r) + bI false = nI (fb_ct (extB S true) r) := by
        show nI _ + nI 0 = _
        rw [nI_add]; rfl
      rw [e0] at hK; exact hK
    · exact ⟨fun z => absurd z (by decide), fun _ => hK⟩
  · rintro K - -
    show wp_X3_height_13 _ _ _ _ _ _
    unfold wp_X3_height_13
    exact ⟨fun _ => h, fun z => absurd (show (16 : Int32) ≤ nI 16 by decide) z⟩
