/-! piece, bestLine -/
def ofP (own : Nat → Nat) (p : Nat) : Nat → Bool := fun c => decide (own c = p)
def pieC (n : Nat) (own : Nat → Nat) (p k : Int32) : Nat := if isP n own p then (if inR k 0 9 then 0 else 2) else 1
noncomputable def pieA (own : Nat → Nat) (pd : Nat → Nat → Nat) (q k : Nat) : Nat :=
  if k = 0 then cnt own q else if k = 1 then pd q 0 else if k = 2 then pd q 4 else if k = 3 then pd q 1 else if k = 4 then cutN (ofP own q) else if k = 5 then ext (ofP own q) true else if k = 6 then ext (ofP own q) false else if k = 7 then pd q 2 else layN pd q (k - 7)
theorem own_eq {n : Nat} {own : Nat → Nat} {of : Nat → Int32} (hO : InvO n own) (ho : ∀ c, c < 256 → of c = nI (own c)) {q : Nat} (hq : q < 60) : ∀ c, c < 256 → ofP own q c = decide (of c = nI q) := fun c hc => by
  have h1 := hO.2.2.1 c hc
  have h2 := hO.2.1
  unfold ofP
  rw [ho c hc]
  exact decide_eq_decide.mpr (nI_eq (by omega) (by omega)).symm
noncomputable def goodB (S : Nat → Bool) (line : Nat) : Bool := dP (One (sideS S line true)) && decide (cutN (sideS S line true) = 0) && dP (One (sideS S line false)) && decide (cutN (sideS S line false) = 0)
noncomputable def bestB (S : Nat → Bool) : Nat → Option Nat
  | 0 => none
  | k + 1 => if decide (k ≠ 15) && goodB S k then (match bestB S k with
    | none => some k
    | some b => if alN S k < alN S b then some k else some b) else bestB S k
def optI : Option Nat → Int32
  | none => -1
  | some b => nI b
theorem bestB_lt {S : Nat → Bool} : ∀ {k b : Nat}, bestB S k = some b → b < k
  | 0, b, h => by cases h
  | k + 1, b, h => by
    rw [bestB] at h
    split at h
    · split at h
      · injection h; omega
      · rename_i b' hb'
        have := bestB_lt hb'
        split at h <;> (injection h; omega)
    · have := bestB_lt h; omega
theorem cutN_3 (S : Nat → Bool) : cutN S < 3 := by
  unfold cutN; split
  · split <;> omega
  · omega
