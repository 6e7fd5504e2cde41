/-! box, along, piece -/
/-- the row, or the column, of a cell -/
def atN (rows : Bool) (c : Nat) : Nat := if rows then c / 16 else c % 16
theorem atN_lt {rows : Bool} {c : Nat} (h : c < 256) : atN rows c < 16 := by unfold atN; split <;> omega
def extB (S : Nat → Bool) (rows : Bool) (k : Nat) : Bool := anyB (fun c => S c && decide (atN rows c = k)) 256
def ext (S : Nat → Bool) (rows : Bool) : Nat := fb_ct (extB S rows) 16
theorem extB_iff {S : Nat → Bool} {rows : Bool} {k : Nat} : extB S rows k = true ↔ ∃ c, c < 256 ∧ S c = true ∧ atN rows c = k := by
  unfold extB
  rw [anyB_iff]
  refine ⟨fun ⟨c, hc, h⟩ => ?_, fun ⟨c, hc, h1, h2⟩ => ⟨c, hc, ?_⟩⟩
  · rw [Bool.and_eq_true, decide_eq_true_iff] at h; exact ⟨c, hc, h.1, h.2⟩
  · rw [h1, decide_eq_true h2]; rfl
theorem at_adj {rows : Bool} {a b : Nat} (h : adj a b) : atN rows b ≤ atN rows a + 1 := by
  unfold adj at h
  unfold atN
  split <;> omega
theorem One.between {S : Nat → Bool} (h : One S) {rows : Bool} {a b k : Nat} (ha : a < 256) (hb : b < 256) (hSa : S a = true) (hSb : S b = true) (h1 : atN rows a ≤ k) (h2 : k ≤ atN rows b) : ∃ c, c < 256 ∧ S c = true ∧ atN rows c = k := by
  refine Classical.byContradiction fun hno => ?_
  have hne : ∀ c, c < 256 → S c = true → ¬ atN rows c = k := fun c hc hS e => hno ⟨c, hc, hS, e⟩
  have := h.all hb hSa ha hSb (fun c => c < 256 ∧ atN rows c < k) ⟨ha, by have := hne a ha hSa; omega⟩ (fun c d hc hd ⟨_, hT⟩ hadj hSd => ⟨hd, by
    have := at_adj (rows := rows) hadj
    have := hne d hd hSd
    omega⟩)
  omega
theorem ct_iv : ∀ l, l < 16 → ∀ m, m < 16 → l ≤ m → fb_ct (fun k => decide (l ≤ k) && decide (k ≤ m)) 16 = m - l + 1 := by decide +kernel
theorem ext_iv {S : Nat → Bool} (h : One S) {rows : Bool} {l m : Nat} (hl : ∃ c, c < 256 ∧ S c = true ∧ atN rows c = l) (hm : ∃ c, c < 256 ∧ S c = true ∧ atN rows c = m) (hall : ∀ c, c < 256 → S c = true → l ≤ atN rows c ∧ atN rows c ≤ m) : ext S rows = m - l + 1 ∧ l ≤ m ∧ m < 16 := by
  obtain ⟨a, ha, hSa, ea⟩ := hl
  obtain ⟨b, hb, hSb, eb⟩ := hm
  have hlm := hall a ha hSa
  have hm16 := atN_lt (rows := rows) hb
  refine ⟨?_, by omega, by omega⟩
  rw [← ct_iv l (by omega) m (by omega) (by omega)]
  unfold ext
  refine fb_ct_cong fun k hk => ?_
  rw [Bool.eq_iff_iff, extB_iff, Bool.and_eq_true, decide_eq_true_iff, decide_eq_true_iff]
  refine ⟨fun ⟨c, hc, hS, e⟩ => ?_, fun ⟨h1, h2⟩ => h.between ha hb hSa hSb (by omega) (by omega)⟩
  have := hall c hc hS
  omega
/-- the least and the most so far -/
def boxI (S : Nat → Bool) (rows : Bool) (k : Nat) (l : Nat) (m : Int) : Prop := (l = 16 ∧ m = -1 ∧ ∀ c, c < k → S c = false) ∨ ((∃ c, c < k ∧ S c = true ∧ atN rows c = l) ∧ (∃ c, c < k ∧ S c = true ∧ (atN rows c : Int) = m) ∧ ∀ c, c < k → S c = true → l ≤ atN rows c ∧ (atN rows c : Int) ≤ m)
theorem boxI_no {S : Nat → Bool} {rows : Bool} {k l : Nat} {m : Int} (h : boxI S rows k l m) (hS : S k = false) : boxI S rows (k + 1) l m := by
  rcases h with ⟨h1, h2, h3⟩ | ⟨⟨c, hc, h1, h2⟩, ⟨d, hd, h3, h4⟩, h5⟩
  · refine Or.inl ⟨h1, h2, fun c hc => ?_⟩
    by_cases e : c = k
    · rw [e]; exact hS
    · exact h3 c (by omega)
  · refine Or.inr ⟨⟨c, by omega, h1, h2⟩, ⟨d, by omega, h3, h4⟩, fun c hc hSc => ?_⟩
    by_cases e : c = k
    · rw [e, hS] at hSc; exact absurd hSc (by decide)
    · exact h5 c (by omega) hSc
theorem boxI_yes {S : Nat → Bool} {rows : Bool} {k l : Nat} {m : Int} (hk : k < 256) (h : boxI S rows k l m) (hS : S k = true) : boxI S rows (k + 1) (if l ≤ atN rows k then l else atN rows k) (if (atN rows k : Int) ≤ m then m else (atN rows k : Int)) := by
  have b := atN_lt (rows := rows) hk
  refine Or.inr ?_
  rcases h with ⟨h1, h2, h3⟩ | ⟨⟨c, hc, h1, h2⟩, ⟨d, hd, h3, h4⟩, h5⟩
  · subst h1; subst h2
    rw [if_neg (by omega), if_neg (by omega)]
    refine ⟨⟨k, by omega, hS, rfl⟩, ⟨k, by omega, hS, rfl⟩, fun c hc hSc => ?_⟩
    by_cases e : c = k
    · rw [e]; omega
    · rw [h3 c (by omega)] at hSc; exact absurd hSc (by decide)
  · refine ⟨?_, ?_, fun c hc hSc => ?_⟩
    · split
      · exact ⟨c, by omega, h1, h2⟩
      · exact ⟨k, by omega, hS, rfl⟩
    · split
      · exact ⟨d, by omega, h3, h4⟩
      · exact ⟨k, by omega, hS, rfl⟩
    · by_cases e : c = k
      · rw [e]; refine ⟨?_, ?_⟩ <;> split <;> omega
      · have := h5 c (by omega) hSc
        refine ⟨?_, ?_⟩ <;> split <;> omega
def alB (S : Nat → Bool) (line c : Nat) : Bool := match besN c (if line < 16 then 1 else 3) with
  | none => false
  | some d => S c && S d && !byd c line && byd d line
def alN (S : Nat → Bool) (line : Nat) : Nat := fb_ct (alB S line) 256
