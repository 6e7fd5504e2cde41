/-! the model: cut, isTwo -/
theorem sq_m : ∀ a, a < 16 → (nI a).toInt = (a : Int) ∧ (nI a - 1).toInt = (a : Int) - 1 := by decide +kernel
def lies (S : Nat → Bool) (c : Nat) : Bool := sqI S ((c / 16 : Nat) : Int) ((c % 16 : Nat) : Int) || (sqI S (((c / 16 : Nat) : Int) - 1) ((c % 16 : Nat) : Int) || (sqI S ((c / 16 : Nat) : Int) (((c % 16 : Nat) : Int) - 1) || sqI S (((c / 16 : Nat) : Int) - 1) (((c % 16 : Nat) : Int) - 1)))
def allB (P : Nat → Bool) : Nat → Bool
  | 0 => true
  | n + 1 => allB P n && P n
theorem allB_iff {P : Nat → Bool} : ∀ {n : Nat}, allB P n = true ↔ ∀ k, k < n → P k = true
  | 0 => ⟨fun _ k h => absurd h (Nat.not_lt_zero k), fun _ => rfl⟩
  | n + 1 => by
    rw [allB, Bool.and_eq_true, allB_iff (n := n)]
    refine ⟨fun ⟨h1, h2⟩ k hk => ?_, fun h => ⟨fun k hk => h k (by omega), h n (by omega)⟩⟩
    by_cases e : k = n
    · rw [e]; exact h2
    · exact h1 k (by omega)
def anyB (P : Nat → Bool) : Nat → Bool
  | 0 => false
  | n + 1 => anyB P n || P n
theorem anyB_iff {P : Nat → Bool} : ∀ {n : Nat}, anyB P n = true ↔ ∃ k, k < n ∧ P k = true
  | 0 => ⟨fun h => Bool.noConfusion h, fun ⟨k, h, _⟩ => absurd h (Nat.not_lt_zero k)⟩
  | n + 1 => by
    rw [anyB, Bool.or_eq_true, anyB_iff (n := n)]
    refine ⟨fun h => ?_, fun ⟨k, hk, h⟩ => ?_⟩
    · rcases h with ⟨k, hk, h⟩ | h
      · exact ⟨k, by omega, h⟩
      · exact ⟨n, by omega, h⟩
    · by_cases e : k = n
      · right; rw [← e]; exact h
      · left; exact ⟨k, by omega, h⟩
def thk (S : Nat → Bool) : Bool := allB (fun c => !S c || lies S c) 256
noncomputable def cutN (S : Nat → Bool) : Nat := if tB S true && tB S false then (if thk S then 0 else 2) else 1
/-- one side of a line -/
def sideS (P : Nat → Bool) (line : Nat) (b : Bool) (c : Nat) : Bool := P c && decide (byd c line = b)
noncomputable def twoB (P : Nat → Bool) (line : Nat) : Bool := dP (One (sideS P line true)) && dP (One (sideS P line false))
theorem one_ct {S : Nat → Bool} (h : fb_ct S 256 = 0) : dP (One S) = false := dP_f fun ⟨a, ha, hS, _⟩ => by
  rw [fb_ct_zero] at h
  have := h a ha
  rw [hS] at this
  exact absurd this (by decide)
theorem ct_le0 {S : Nat → Bool} : (nI (fb_ct S 256) ≤ 0) = (fb_ct S 256 = 0) := by
  have := fb_ct_le S 256
  rw [show (0 : Int32) = nI 0 from rfl, nI_leI (by omega) (by omega)]
  exact propext ⟨fun h => by omega, fun h => by omega⟩
