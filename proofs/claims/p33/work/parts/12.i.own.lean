/-! join and divide -/
def ownJ (own : Nat → Nat) (o p : Nat) : Nat → Nat := fun x => if own x = o then p else own x
def ownJk (own : Nat → Nat) (o p k : Nat) : Nat → Nat := fun x => if x < k then ownJ own o p x else own x
theorem cntJ_p {own : Nat → Nat} {o p : Nat} (h : p ≠ o) : cnt (ownJ own o p) p = cnt own p + cnt own o := by
  have := fb_ct_or (p := fun c => decide (own c = p)) (q := fun c => decide (own c = o)) (n := 256) (fun k _ ⟨h1, h2⟩ => by
    rw [decide_eq_true_iff] at h1 h2; omega)
  unfold cnt
  rw [← this]
  refine fb_ct_cong fun k _ => ?_
  unfold ownJ
  by_cases e : own k = o
  · rw [if_pos e, decide_eq_true e, Bool.or_true]; exact decide_eq_true rfl
  · rw [if_neg e, decide_eq_false e, Bool.or_false]
theorem cntJ_o {own : Nat → Nat} {o p : Nat} (h : p ≠ o) : cnt (ownJ own o p) o = 0 := by
  refine fb_ct_zero.mpr fun k _ => decide_eq_false ?_
  unfold ownJ
  split <;> omega
theorem cntJ_r {own : Nat → Nat} {o p r : Nat} (h1 : r ≠ o) (h2 : r ≠ p) : cnt (ownJ own o p) r = cnt own r := by
  refine fb_ct_cong fun k _ => decide_eq_decide.mpr ?_
  unfold ownJ
  split <;> omega
def adjB (own : Nat → Nat) (p o : Nat) : Bool := anyB (fun c => decide (own c = p) && besB own c o) 256
noncomputable def joinC (n : Nat) (own : Nat → Nat) (pd : Nat → Nat → Nat) (p o : Int32) : Nat :=
  if isP n own p && isP n own o then (if decide (tN p ≠ tN o) && adjB own (tN p) (tN o) && decide (pd (tN p) 4 = 0) && decide (pd (tN o) 4 = 0) then 0 else 2) else 1
