/-! box, along, piece -/
/-- the row, or the column, of a cell -/
def atN (rows : Bool) (c : Nat) : Nat := if rows then c / 16 else c % 16
theorem atN_lt {rows : Bool} {c : Nat} (h : c < 256) : atN rows c < 16 := by unfold atN; split <;> omega
def extB (S : Nat → Bool) (rows : Bool) (k : Nat) : Bool := anyB (fun c => S c && decide (atN rows c = k)) 256
def ext (S : Nat → Bool) (rows : Bool) : Nat := fb_ct (extB S rows) 16
theorem extB_iff {S : Nat → Bool} {rows : Bool} {k : Nat} : extB S rows k = true ↔ ∃ c, c < 256 ∧ S c = true ∧ atN rows c = k := by
  unfold extB
  rw [anyB_iff]
  refine ⟨fun ⟨c, hc, h⟩ => ?_, fun ⟨c, hc, h1, h2⟩ => ⟨c, hc, ?_⟩⟩
  · rw [Bool.and_eq_true, decide_eq_true_iff] at h; exact ⟨c, hc, h.1, h.2⟩
  · rw [h1, decide_eq_true h2]; rfl
theorem at_adj {rows : Bool} {a b : Nat} (h : adj a b) : atN rows b ≤ atN rows a + 1 := by
  unfold adj at h
  unfold atN
  split <;> omega
theorem One.between {S : Nat → Bool} (h : One S) {rows : Bool} {a b k : Nat} (ha : a < 256) (hb : b < 256) (hSa : S a = true) (hSb : S b = true) (h1 : atN rows a ≤ k) (h2 : k ≤ atN rows b) : ∃ c, c < 256 ∧ S c = true ∧ atN rows c = k := by
  refine Classical.byContradiction fun hno => ?_
  have hne : ∀ c, c < 256 → S c = true → ¬ atN rows c = k := fun c hc hS e => hno ⟨c, hc, hS, e⟩
  have := h.all hb hSa ha hSb (fun c => c < 256 ∧ atN rows c < k) ⟨ha, by have := hne a ha hSa; omega⟩ (fun c d hc hd ⟨_, hT⟩ hadj hSd => ⟨hd, by
    have := at_adj (rows := rows) hadj
    have := hne d hd hSd
    omega⟩)
  omega
theorem ct_iv : ∀ l, l < 16 → ∀ m, m < 16 → l ≤ m → fb_ct (fun k => decide (l ≤ k) && decide (k ≤ m)) 16 = m - l + 1 := by decide +kernel
theorem ext_iv {S : Nat → Bool} (h : One S) {rows : Bool} {l m : Nat} (hl : ∃ c, c < 256 ∧ S c = true ∧ atN rows c = l) (hm : ∃ c, c < 256 ∧ S c = true ∧ atN rows c = m) (hall : ∀ c, c < 256 → S c = true → l ≤ atN rows c ∧ atN rows c ≤ m) : ext S rows = m - l + 1 ∧ l ≤ m ∧ m < 16 := by
  obtain ⟨a, ha, hSa, ea⟩ := hl
  obtain ⟨b, hb, hSb, eb⟩ := hm
  have hlm := hall a ha hSa
  have hm16 := atN_lt (rows := rows) hb
  refine ⟨?_, by omega, by omega⟩
  rw [← ct_iv l (by omega) m (by omega) (by omega)]
  unfold ext
  refine fb_ct_cong fun k hk => ?_
  rw [Bool.eq_iff_iff, extB_iff, Bool.and_eq_true, decide_eq_true_iff, decide_eq_true_iff]
  refine ⟨fun ⟨c, hc, hS, e⟩ => ?_, fun ⟨h1, h2⟩ => h.between ha hb hSa hSb (by omega) (by omega)⟩
  have := hall c hc hS
  omega
/-- the least and the most so far -/
def boxI (S : Nat → Bool) (rows : Bool) (k : Nat) (l : Nat) (m : Int) : Prop := (l = 16 ∧ m = -1 ∧ ∀ c, c < k → S c = false) ∨ ((∃ c, c < k ∧ S c = true ∧ atN rows c = l) ∧ (∃ c, c < k ∧ S c = true ∧ (atN rows c : Int) = m) ∧ ∀ c, c < k → S c = true → l ≤ atN rows c ∧ (atN rows c : Int) ≤ m)
theorem boxI_no {S : Nat → Bool} {rows : Bool} {k l : Nat} {m : Int} (h : boxI S rows k l m) (hS : S k = false) : boxI S rows (k + 1) l m := by
  rcases h with ⟨h1, h2, h3⟩ | ⟨⟨c, hc, h1, h2⟩, ⟨d, hd, h3, h4⟩, h5⟩
  · refine Or.inl ⟨h1, h2, fun c hc => ?_⟩
    by_cases e : c = k
    · rw [e]; exact hS
    · exact h3 c (by omega)
  · refine Or.inr ⟨⟨c, by omega, h1, h2⟩, ⟨d, by omega, h3, h4⟩, fun c hc hSc => ?_⟩
    by_cases e : c = k
    · rw [e, hS] at hSc; exact absurd hSc (by decide)
    · exact h5 c (by omega) hSc
theorem boxI_yes {S : Nat → Bool} {rows : Bool} {k l : Nat} {m : Int} (hk : k < 256) (h : boxI S rows k l m) (hS : S k = true) : boxI S rows (k + 1) (if l ≤ atN rows k then l else atN rows k) (if (atN rows k : Int) ≤ m then m else (atN rows k : Int)) := by
  have b := atN_lt (rows := rows) hk
  refine Or.inr ?_
  rcases h with ⟨h1, h2, h3⟩ | ⟨⟨c, hc, h1, h2⟩, ⟨d, hd, h3, h4⟩, h5⟩
  · subst h1; subst h2
    rw [if_neg (by omega), if_neg (by omega)]
    refine ⟨⟨k, by omega, hS, rfl⟩, ⟨k, by omega, hS, rfl⟩, fun c hc hSc => ?_⟩
    by_cases e : c = k
    · rw [e]; omega
    · rw [h3 c (by omega)] at hSc; exact absurd hSc (by decide)
  · refine ⟨?_, ?_, fun c hc hSc => ?_⟩
    · split
      · exact ⟨c, by omega, h1, h2⟩
      · exact ⟨k, by omega, hS, rfl⟩
    · split
      · exact ⟨d, by omega, h3, h4⟩
      · exact ⟨k, by omega, hS, rfl⟩
    · by_cases e : c = k
      · rw [e]; refine ⟨?_, ?_⟩ <;> split <;> omega
      · have := h5 c (by omega) hSc
        refine ⟨?_, ?_⟩ <;> split <;> omega
theorem m_box {of : Nat → Int32} {p : Int32} {rows : Bool} {post : Int32 → Prop} {S : Nat → Bool} (hS : ∀ c, c < 256 → S c = decide (of c = p)) (hOne : One S) (h : post (nI (ext S rows))) : wp_X5_box of p (bI rows) post := by
  unfold wp_X5_box
  refine lp_cnt 256 (fun k (s : Nat × Int) => (nI s.1, iI s.2, nI k)) (fun k s => boxI S rows k s.1 s.2 ∧ s.1 ≤ 16 ∧ -1 ≤ s.2 ∧ s.2 ≤ 16) ?_ ?_ 0 (16, -1) (by omega) ⟨Or.inl ⟨rfl, rfl, fun c hc => absurd hc (Nat.not_lt_zero c)⟩, by dsimp only; omega, by dsimp only; omega, by dsimp only; omega⟩
  · rintro K k ⟨l, m⟩ hk ⟨hb, b1, b2, b3⟩ hK
    dsimp only at hb b1 b2 b3
    show wp_X5_box_9 _ _ _ _ _ _ _ _
    unfold wp_X5_box_9
    dsimp only
    refine ⟨fun z => absurd z (lc_ge hk), fun _ => ?_⟩
    rw [nrem hk, ndiv hk]
    have b := atN_lt (rows := rows) hk
    have key : wp_X5_box_34 of p (bI rows) post (fun b0 b1 b2 => K (b0, b1, b2)) (nI (atN rows k)) (nI l) (iI m) (nI k) := by
      unfold wp_X5_box_34 wp_X5_box_59 wp_X5_box_85
      rw [lc_N (by omega), nI_1 k]
      have le2 : (nI (atN rows k) ≤ iI m) = ((atN rows k : Int) ≤ m) := by rw [iI_nat, iI_le (by omega) (by omega)]
      cases e : S k
      · have e2 : ¬ of k = p := by
          have := hS k hk
          rw [e] at this
          exact of_decide_eq_false this.symm
        have hK := hK (l, m) ⟨boxI_no hb e, b1, b2, b3⟩
        exact ⟨lc_in hk, fun z => absurd z e2, fun _ => ⟨lc_in hk, fun z => absurd z e2, fun _ => hK⟩⟩
      · have e2 : of k = p := by
          have := hS k hk
          rw [e] at this
          exact of_decide_eq_true this.symm
        have hK := hK (if l ≤ atN rows k then l else atN rows k, if (atN rows k : Int) ≤ m then m else (atN rows k : Int)) ⟨boxI_yes hk hb e, by dsimp only; split <;> omega, by dsimp only; split <;> omega, by dsimp only; split <;> omega⟩
        dsimp only at hK
        refine ⟨lc_in hk, fun _ => nI_brl (by omega) (by omega) ?_, fun z => absurd e2 z⟩
        rw [le2]
        by_cases c1 : l ≤ atN rows k
        · rw [if_pos c1] at hK ⊢
          refine ⟨lc_in hk, fun _ => ⟨fun z => ?_, fun z => ?_⟩, fun z => absurd e2 z⟩
          · rw [if_pos z] at hK; exact hK
          · rw [if_neg z, ← iI_nat] at hK; exact hK
        · rw [if_neg c1] at hK ⊢
          refine ⟨lc_in hk, fun _ => ⟨fun z => ?_, fun z => ?_⟩, fun z => absurd e2 z⟩
          · rw [if_pos z] at hK; exact hK
          · rw [if_neg z, ← iI_nat] at hK; exact hK
    unfold atN at key
    cases rows
    · exact ⟨fun _ => key, fun z => absurd rfl z⟩
    · exact ⟨ne1, fun _ => key⟩
  · rintro K ⟨l, m⟩ ⟨hb, b1, b2, b3⟩
    dsimp only at hb b1 b2 b3
    show wp_X5_box_9 _ _ _ _ _ _ _ _
    unfold wp_X5_box_9
    dsimp only
    refine ⟨fun _ => ?_, fun z => absurd lc_end z⟩
    rcases hb with ⟨h1, h2, h3⟩ | ⟨⟨c, hc, h1, h2⟩, ⟨d, hd, h3, h4⟩, h5⟩
    · obtain ⟨a, ha, hSa, -⟩ := hOne
      rw [h3 a ha] at hSa
      exact absurd hSa (by decide)
    · obtain ⟨e1, e2, e3⟩ := ext_iv hOne (rows := rows) (l := l) (m := m.toNat) ⟨c, hc, h1, h2⟩ ⟨d, hd, h3, by omega⟩ (fun c hc hSc => by have := h5 c hc hSc; omega)
      have em : m = (m.toNat : Int) := by omega
      rw [em, ← iI_nat, pk_sub (by omega), nI_1, ← e1]
      exact h
def alB (S : Nat → Bool) (line c : Nat) : Bool := match besN c (if line < 16 then 1 else 3) with
  | none => false
  | some d => S c && S d && !byd c line && byd d line
def alN (S : Nat → Bool) (line : Nat) : Nat := fb_ct (alB S line) 256
theorem m_along {of : Nat → Int32} {p : Int32} {line : Nat} {post : Int32 → Prop} {S : Nat → Bool} (hS : ∀ c, c < 256 → S c = decide (of c = p)) (hl : line < 32) (h : post (nI (alN S line))) : wp_X5_along of p (nI line) post := by
  unfold wp_X5_along
  refine lp_cnt 256 (fun k (_ : Unit) => (nI (fb_ct (alB S line) k), nI k)) (fun _ _ => True) ?_ ?_ 0 () (by omega) trivial
  · rintro K k - hk - hK
    have hK := hK () trivial
    rw [← cnt_bI] at hK
    show wp_X5_along_5 _ _ _ _ _ _ _
    unfold wp_X5_along_5
    dsimp only
    refine ⟨fun z => absurd z (lc_ge hk), fun _ => ?_⟩
    have key : ∀ w, w < 4 → w = (if line < 16 then 1 else 3) → wp_X5_along_26 of p (nI line) post (fun b0 b1 => K (b0, b1)) (nI k) (nI w) (nI (fb_ct (alB S line) k)) (nI k) := fun w hw ew => by
      unfold wp_X5_along_26 wp_X5_along_83
      rw [w_beside hk hw, nI_1 k, lc_N (by omega)]
      cases hb : besN k w with
      | none =>
        rw [besI_none hb]
        have ea : alB S line k = false := by unfold alB; rw [← ew, hb]
        rw [ea] at hK
        exact ⟨fun _ => hK, fun z => absurd rfl z⟩
      | some d =>
        rw [besI_some hb]
        have ea : alB S line k = (S k && S d && !byd k line && byd d line) := by unfold alB; rw [← ew, hb]
        rw [ea] at hK
        have hd := (besN_adj hk hb).1
        rw [lc_N (by omega), w_isBeyond hk hl, w_isBeyond hd hl]
        refine ⟨fun z => absurd z (nI_ne_m1 (by omega)), fun _ => ⟨lc_in hk, ?_⟩⟩
        rw [hS k hk, hS d hd] at hK
        by_cases c1 : of k = p
        · rw [decide_eq_true c1] at hK
          refine ⟨fun _ => ⟨lc_in hd, ?_⟩, fun z => absurd c1 z⟩
          by_cases c2 : of d = p
          · rw [decide_eq_true c2] at hK
            refine ⟨fun _ => ?_, fun z => absurd c2 z⟩
            cases e1 : byd k line <;> rw [e1] at hK
            · cases e2 : byd d line
              · rw [e2] at hK; exact ⟨fun _ => ⟨fun _ => hK, fun z => absurd rfl z⟩, fun z => absurd rfl z⟩
              · rw [e2] at hK; exact ⟨fun _ => ⟨ne1, fun _ => hK⟩, fun z => absurd rfl z⟩
            · exact ⟨ne1, fun _ => hK⟩
          · rw [decide_eq_false c2] at hK
            exact ⟨fun z => absurd z c2, fun _ => hK⟩
        · rw [decide_eq_false c1] at hK
          exact ⟨fun z => absurd z c1, fun _ => hK⟩
    refine nI_brl (a := 16) (by omega) (by omega) ?_
    split
    · exact key 3 (by omega) (by rw [if_neg (by omega)])
    · exact key 1 (by omega) (by rw [if_pos (by omega)])
  · rintro K - -
    show wp_X5_along_5 _ _ _ _ _ _ _
    unfold wp_X5_along_5
    exact ⟨fun _ => h, fun z => absurd lc_end z⟩
