/-! divide -/
def ownD (own : Nat → Nat) (p line f k : Nat) : Nat → Nat := fun x => if x < k ∧ own x = p ∧ byd x line = true then f else own x
theorem ownD_s {own : Nat → Nat} {p line f k : Nat} : ownD own p line f (k + 1) = if own k = p ∧ byd k line = true then ownG (ownD own p line f k) k f else ownD own p line f k := by
  split
  · rename_i e
    funext x
    unfold ownG ownD
    by_cases c : x = k
    · subst c; rw [if_pos ⟨by omega, e⟩, if_pos rfl]
    · rw [if_neg c]
      by_cases c2 : x < k ∧ own x = p ∧ byd x line = true
      · rw [if_pos c2, if_pos ⟨by omega, c2.2⟩]
      · rw [if_neg c2, if_neg (fun z => c2 ⟨by omega, z.2⟩)]
  · rename_i e
    funext x
    unfold ownD
    by_cases c2 : x < k ∧ own x = p ∧ byd x line = true
    · rw [if_pos c2, if_pos ⟨by omega, c2.2⟩]
    · rw [if_neg c2, if_neg (fun z => ?_)]
      by_cases c : x = k
      · subst c; exact e z.2
      · exact c2 ⟨by omega, z.2⟩
noncomputable def divC (n : Nat) (own : Nat → Nat) (pd : Nat → Nat → Nat) (p l : Int32) : Nat :=
  if isP n own p then (if lineB l.toInt then (if decide (pd (tN p) 4 = 0) && decide (n < 60) && twoB (ofP own (tN p)) (tN l) then 0 else 3) else 2) else 1
theorem twoB_congr {P Q : Nat → Bool} (h : ∀ c, c < 256 → P c = Q c) (line : Nat) : twoB P line = twoB Q line := by
  unfold twoB
  have hs : ∀ b c, c < 256 → sideS P line b c = sideS Q line b c := fun b c hc => by unfold sideS; rw [h c hc]
  rw [dP_congr (One.congr (hs true)), dP_congr (One.congr (hs false))]
theorem lineB_t {l : Int32} (h : lineB l.toInt = true) : ∃ k, l = nI k ∧ k < 31 ∧ k ≠ 15 := by
  unfold lineB at h
  rw [decide_eq_true_iff] at h
  refine ⟨l.toInt.toNat, ?_, by omega, by omega⟩
  rw [iI_nat, Int.toNat_of_nonneg (by omega)]
  exact iI_self l
