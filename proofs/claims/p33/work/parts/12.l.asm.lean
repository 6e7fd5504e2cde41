/-! canGoIn, assembled -/
def wtB (own : Nat → Nat) (I : Nat → Bool) (p c w : Nat) : Bool := match besN c w with
  | none => false
  | some d => decide (own d ≠ p) && !I (own d)
def canB (own : Nat → Nat) (I : Nat → Bool) (p : Nat) : Bool := allB (fun c => !(decide (own c = p) && (wtB own I p c 1 || wtB own I p c 2))) 256
def rdyB (own : Nat → Nat) (I : Nat → Bool) (p : Nat) : Bool := pres own p && !I p && canB own I p
def asI (own : Nat → Nat) (n : Nat) : Nat → Nat → Bool
  | 0 => fun _ => false
  | k + 1 => fun p => asI own n k p || decide (p = fa_first (rdyB own (asI own n k)) n)
def asO (own : Nat → Nat) (n k : Nat) : Nat := fa_first (rdyB own (asI own n k)) n
def asA (own : Nat → Nat) (n : Nat) (place : Int32) : Int32 :=
  if allB (fun k => decide (asO own n k < n)) (fb_ct (pres own) n) && decide (0 ≤ place.toInt ∧ place.toInt < (fb_ct (pres own) n : Int)) then nI (asO own n (tN place)) else -1
/-- the least ready from j on -/
def fromJ (P : Nat → Bool) (n j : Nat) (x : Int32) : Prop := (x = -1 ∧ ∀ p, j ≤ p → p < n → P p = false) ∨ ∃ b, x = nI b ∧ j ≤ b ∧ b < n ∧ P b = true ∧ ∀ p, j ≤ p → p < b → P p = false
theorem fromJ_0 {P : Nat → Bool} {n : Nat} {x : Int32} (h : fromJ P n 0 x) : (x = -1 ∧ ¬ fa_first P n < n) ∨ (x = nI (fa_first P n) ∧ fa_first P n < n) := by
  rcases h with ⟨h1, h2⟩ | ⟨b, h1, -, h3, h4, h5⟩
  · refine Or.inl ⟨h1, fun z => ?_⟩
    have := fa_first_yes P n z
    rw [h2 _ (by omega) z] at this
    exact absurd this (by decide)
  · have e : fa_first P n = b := by
      rcases Nat.lt_trichotomy (fa_first P n) b with g | g | g
      · have := fa_first_yes P n (by omega)
        rw [h5 _ (by omega) g] at this
        exact absurd this (by decide)
      · exact g
      · have := fa_first_no P n b g
        rw [h4] at this
        exact absurd this (by decide)
    rw [e]
    exact Or.inr ⟨h1, h3⟩
