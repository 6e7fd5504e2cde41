/-! firstOf, layAll -/
def cand (own : Nat → Nat) (pd : Nat → Nat → Nat) (its p : Nat) : Bool := pres own p && decide (pd p 0 = its)
def hgt (own : Nat → Nat) (p : Nat) : Nat := ext (ofP own p) true
def wid (own : Nat → Nat) (p : Nat) : Nat := ext (ofP own p) false
theorem ext_le (S : Nat → Bool) (rows : Bool) : ext S rows ≤ 16 := fb_ct_le _ _
/-- one comes before the other -/
def bef (own : Nat → Nat) (p q : Nat) : Prop := hgt own q < hgt own p ∨ (hgt own q = hgt own p ∧ (wid own q < wid own p ∨ (wid own q = wid own p ∧ p < q)))
/-- Q is the queue of m -/
def QS (n : Nat) (own : Nat → Nat) (pd : Nat → Nat → Nat) (its m : Nat) (Q : Nat → Nat) : Prop := (∀ i, i < m → Q i < n ∧ cand own pd its (Q i) = true) ∧ (∀ p, p < n → cand own pd its p = true → ∃ i, i < m ∧ Q i = p) ∧ ∀ i j, i < j → j < m → bef own (Q i) (Q j)
theorem bef_ne {own : Nat → Nat} {p q : Nat} (h : bef own p q) : p ≠ q := by
  unfold bef at h
  intro e; subst e; omega
theorem bef_asymm {own : Nat → Nat} {p q : Nat} (h : bef own p q) : ¬ bef own q p := by
  unfold bef at *; omega
def inQ (Q : Nat → Nat) (k : Nat) (p : Nat) : Bool := anyB (fun j => decide (Q j = p)) k
theorem inQ_iff {Q : Nat → Nat} {k p : Nat} : inQ Q k p = true ↔ ∃ j, j < k ∧ Q j = p := by
  unfold inQ
  rw [anyB_iff]
  exact ⟨fun ⟨j, hj, h⟩ => ⟨j, hj, of_decide_eq_true h⟩, fun ⟨j, hj, h⟩ => ⟨j, hj, decide_eq_true h⟩⟩
theorem inQ_s {Q : Nat → Nat} {k p : Nat} : inQ Q (k + 1) p = (inQ Q k p || decide (Q k = p)) := rfl
def fstI (own : Nat → Nat) (C : Nat → Bool) (j : Nat) (x : Int32) : Prop := (x = -1 ∧ ∀ c, c < j → C c = false) ∨ ∃ b, x = nI b ∧ b < j ∧ C b = true ∧ ∀ c, c < j → C c = true → c ≠ b → bef own b c
theorem sub_le0 {a b : Nat} (ha : a ≤ 16) (hb : b ≤ 16) : (nI a - nI b ≤ 0) = (a ≤ b) := by
  have t1 : (nI a).toInt = (a : Int) := nI_toInt (by omega)
  have t2 : (nI b).toInt = (b : Int) := nI_toInt (by omega)
  rw [fa_le, fb_subI (by omega) (by omega), t1, t2, show (0 : Int32).toInt = 0 from rfl]
  exact propext (by omega)
theorem sub_eq0 {a b : Nat} (ha : a ≤ 16) (hb : b ≤ 16) : (nI a - nI b = 0) = (a = b) := by
  have t1 : (nI a).toInt = (a : Int) := nI_toInt (by omega)
  have t2 : (nI b).toInt = (b : Int) := nI_toInt (by omega)
  rw [fa_eq, fb_subI (by omega) (by omega), t1, t2, show (0 : Int32).toInt = 0 from rfl]
  exact propext (by omega)
def qI (m : Nat) (Q : Nat → Nat) (k : Nat) : Int32 := if k < m then nI (Q k) else -1
/-- how the sheets stand: sheets, shelf, its height, how far, the spots -/
abbrev LayS := Nat × Nat × Nat × Nat × (Nat → Option Nat)
def setO (f : Nat → Option Nat) (p v : Nat) : Nat → Option Nat := fun q => if q = p then some v else f q
def lay1 (sw tall wide p : Nat) (L : LayS) : LayS :=
  if wide ≤ sw then
    (if L.1 = 0 ∨ (sw < L.2.2.2.1 + wide ∧ 20 < L.2.1 + L.2.2.1 + tall) then (L.1 + 1, 0, tall, wide, setO L.2.2.2.2 p (10000 * L.1))
    else if sw < L.2.2.2.1 + wide then (L.1, L.2.1 + L.2.2.1, tall, wide, setO L.2.2.2.2 p (10000 * (L.1 - 1) + 100 * (L.2.1 + L.2.2.1)))
    else (L.1, L.2.1, L.2.2.1, L.2.2.2.1 + wide, setO L.2.2.2.2 p (10000 * (L.1 - 1) + 100 * L.2.1 + L.2.2.2.1)))
  else L
def layF (own : Nat → Nat) (sw : Nat) (Q : Nat → Nat) : Nat → LayS
  | 0 => (0, 0, 0, 0, fun _ => none)
  | k + 1 => lay1 sw (hgt own (Q k)) (wid own (Q k)) (Q k) (layF own sw Q k)
def covN (own : Nat → Nat) (sw : Nat) (Q : Nat → Nat) (k : Nat) : Nat := fb_sm (fun j => if wid own (Q j) ≤ sw then cnt own (Q j) else 0) k
theorem setO_at (f : Nat → Option Nat) (p v : Nat) : setO f p v p = some v := if_pos rfl
theorem setO_ne (f : Nat → Option Nat) {p v q : Nat} (h : q ≠ p) : setO f p v q = f q := if_neg h
theorem lay1_ne {sw tall wide p q : Nat} {L : LayS} (h : q ≠ p) : (lay1 sw tall wide p L).2.2.2.2 q = L.2.2.2.2 q := by
  unfold lay1
  split
  · split
    · exact setO_ne _ h
    · split
      · exact setO_ne _ h
      · exact setO_ne _ h
  · rfl
theorem layF_no {own : Nat → Nat} {sw : Nat} {Q : Nat → Nat} {p : Nat} : ∀ {k : Nat}, (∀ j, j < k → Q j ≠ p) → (layF own sw Q k).2.2.2.2 p = none
  | 0, _ => rfl
  | k + 1, h => by
    rw [layF, lay1_ne (fun z => h k (by omega) z.symm)]
    exact layF_no fun j hj => h j (by omega)
theorem layF_inv {own : Nat → Nat} {sw : Nat} {Q : Nat → Nat} (hsw : sw ≤ 40) : ∀ {k : Nat}, (layF own sw Q k).1 ≤ k ∧ (layF own sw Q k).2.1 + (layF own sw Q k).2.2.1 ≤ 20 ∧ (layF own sw Q k).2.2.2.1 ≤ 40
  | 0 => ⟨Nat.le_refl 0, Nat.zero_le 20, Nat.zero_le 40⟩
  | k + 1 => by
    obtain ⟨h1, h2, h3⟩ := layF_inv (own := own) (Q := Q) hsw (k := k)
    have l1 : hgt own (Q k) ≤ 16 := ext_le _ _
    have l2 : wid own (Q k) ≤ 16 := ext_le _ _
    rw [layF]
    unfold lay1
    split
    · split
      · refine ⟨?_, ?_, ?_⟩ <;> dsimp only <;> omega
      · split
        · refine ⟨?_, ?_, ?_⟩ <;> dsimp only <;> omega
        · refine ⟨?_, ?_, ?_⟩ <;> dsimp only <;> omega
    · refine ⟨?_, ?_, ?_⟩ <;> omega
