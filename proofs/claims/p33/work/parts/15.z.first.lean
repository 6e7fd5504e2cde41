/-! the law from its entry -/
def pd00 : Nat → Nat → Nat := fun p j => if p = 0 ∧ (j = 3 ∨ j = 15) then 1 else 0
def s00 : SG := (1, fun _ => 0, pd00, 2, 20, fun _ => false)
theorem rch_full : ∀ b, b < 256 → Rch (fun c => decide (0 = 0)) 0 b := by
  intro b
  induction b using Nat.strongRecOn with
  | _ b ih =>
    intro hb
    by_cases h0 : b = 0
    · subst h0; exact Rch.rf
    by_cases h1 : b % 16 = 0
    · exact (ih (b - 16) (by omega) (by omega)).step (by omega) hb (by unfold adj; omega) rfl
    · exact (ih (b - 1) (by omega) (by omega)).step (by omega) hb (by unfold adj; omega) rfl
theorem cnt00 (p : Nat) (hp : p ≠ 0) : cnt (fun _ => 0) p = 0 := fb_ct_zero.mpr fun k hk => decide_eq_false (fun e => hp e.symm)
theorem pd00_lo (p j : Nat) (h : j ≠ 3 ∧ j ≠ 15) : pd00 p j = 0 := if_neg (by omega)
theorem pd00_ne (p j : Nat) (h : p ≠ 0) : pd00 p j = 0 := if_neg (by omega)
theorem pd00_le (p j : Nat) : pd00 p j ≤ 1 := by
  unfold pd00
  split <;> omega
theorem is00 : IS s00 := by
  refine ⟨⟨Nat.le_refl 1, by decide, fun c hc => Nat.one_pos, fun p hp => ?_⟩, ⟨fun p => ?_, fun p j => ?_, fun p j hp => ?_, fun p k hk => ?_⟩, by decide, ?_⟩
  · by_cases h : p = 0
    · subst h
      exact ⟨0, by omega, rfl, fun b hb _ => rch_full b hb⟩
    · have e := cnt00 p h
      have hp2 : decide (0 < cnt (fun _ => 0) p) = true := hp
      rw [e] at hp2
      exact absurd hp2 (by decide)
  · have b1 := pd00_le p 1
    have b3 := pd00_le p 3
    have b4 := pd00_le p 4
    have e0 : pd00 p 0 = 0 := pd00_lo p 0 (by omega)
    have e2 : pd00 p 2 = 0 := pd00_lo p 2 (by omega)
    show pd00 p 0 < 8 ∧ pd00 p 1 < 3 ∧ pd00 p 2 ≤ 5 ∧ pd00 p 3 ≤ 20 ∧ pd00 p 4 ≤ 1
    omega
  · have := pd00_le p j
    show pd00 p j < 1000
    omega
  · have hp1 : 1 ≤ p := hp
    exact pd00_ne p j (by omega)
  · have := pd00_le p (10 + k)
    show pd00 p (10 + k) < 3
    omega
  · have e : fb_ct (fun _ => false) 15 = 0 := fb_ct_zero.mpr fun k hk => rfl
    show fb_ct (fun _ => false) 15 ≤ 5
    omega
theorem cp00 (k : Nat) (h : k ≠ 3 ∧ k ≠ 15) : CP (fun _ => 0) pd00 k 1 := fun p hp => by rw [pd00_lo p k h]; rfl
theorem cq00 (b : Nat) (h : 3 < b ∧ b + 5 ≤ 15) : CQ (fun _ => fun _ => 0) pd00 b 5 1 := fun p hp j hj => by rw [pd00_lo p (b + j) (by omega)]; rfl
theorem rc00 (u : Nat → Nat → Nat) : RCt s00 (1, 2, 20, 10, u 0, u 1, u 2, u 3, u 4, u 5, u 6, u 7, (fun _ => u 8), 0, 1, (va_up (fun _ => none) 0 (some (u 7 0))), (fun _ => 0), (fun _ => 0), (fun _ => 0), (fun _ => 0), (fun _ => 0), (fun _ => 0), (fun _ => 0), (fun _ => 0), (fun _ => 0), (fun _ => 0), (fun _ => 0), (fun _ => 0), 0, 0, 0, 0, 0, (fun _ => 0), (fun _ => 0), (fun _ => 0), (fun _ => 1), (fun _ => 0), (fun _ => (fun _ => 0)), (fun _ => (fun _ => 0)), (fun _ => upd (fun _ => 0) 0 1), (fun _ => 0)) := by
  refine ⟨is00, rfl, rfl, rfl, by omega, by omega, by omega, fun i hi => ?_, fun i hi hc => ?_, fun c hc => rfl, fun i hi => ?_, cp00 0 (by omega), cp00 1 (by omega), cp00 2 (by omega), fun p hp => ?_, cp00 4 (by omega), cq00 5 (by omega), cq00 10 (by omega), fun p hp j hj => ?_⟩
  · have e : i = 0 := by omega
    subst e
    exact va_up_self _ _ _
  · exact va_up_ne _ _ (by omega)
  · rw [b_0]
    show false = (decide (i < 15) && false)
    rw [Bool.and_false]
  · have e : p = 0 := by omega
    subst e
    rfl
  · have e : p = 0 := by omega
    subst e
    by_cases e : j = 0
    · subst e; rfl
    · have e1 : upd (fun _ => 0) 0 1 j = 0 := if_neg e
      have e2 : pd00 0 (15 + j) = 0 := pd00_lo 0 (15 + j) (by omega)
      show upd (fun _ => 0) 0 1 j = nI (pd00 0 (15 + j))
      rw [e1, e2]
      rfl
theorem js00 : JS s00 := by
  refine ⟨by decide, fun p hp => ?_⟩
  have e : p = 0 := by
    have hp : p < 1 := hp
    omega
  subst e
  exact ⟨rfl, by decide⟩
