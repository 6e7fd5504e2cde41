/-! finish, layersOf, fire -/
def finP (own : Nat → Nat) (pd : Nat → Nat → Nat) : Nat → Nat → Nat → Nat
  | 0 => pd
  | k + 1 => if pres own k && decide (pd k 4 = 0) then noteP (st2 (finP own pd k) k 4 1) k 6 else finP own pd k
def finN (own : Nat → Nat) (pd : Nat → Nat → Nat) (k : Nat) : Nat := fb_ct (fun p => pres own p && decide (pd p 4 = 0)) k
theorem finP_ge {own : Nat → Nat} {pd : Nat → Nat → Nat} : ∀ {k q j : Nat}, k ≤ q → finP own pd k q j = pd q j
  | 0, q, j, _ => rfl
  | k + 1, q, j, h => by
    rw [finP]
    split
    · rw [noteP_q (by omega), st2_ne _ (Or.inl (by omega))]; exact finP_ge (by omega)
    · exact finP_ge (by omega)
theorem finP_inv {n : Nat} {own : Nat → Nat} {pd : Nat → Nat → Nat} (h : InvP n pd) : ∀ {k : Nat}, k ≤ n → InvP n (finP own pd k)
  | 0, _ => h
  | k + 1, hk => by
    rw [finP]
    split
    · exact ((finP_inv h (k := k) (by omega)).st (by omega) ⟨by omega, by omega, by omega, by omega, by omega, by omega, by omega⟩).note (by omega) (by omega)
    · exact finP_inv h (by omega)
def layN (pd : Nat → Nat → Nat) (q its : Nat) : Nat := fb_ct (fun k => decide (pd q (10 + k) = its)) (pd q 2)
def newb (heat b h : Nat) : Nat := if heat + 30 < h ∨ b = 2 then 2 else if heat ≤ h then 1 else b
def firP (pd : Nat → Nat → Nat) (q h m : Nat) : Nat → Nat → Nat := fun a j => if a = q ∧ 10 ≤ j ∧ j < 10 + m then newb (pd q (j - 5)) (pd q j) h else pd a j
def firN (pd : Nat → Nat → Nat) (q h m : Nat) : Nat := fb_ct (fun k => decide (pd q (5 + k) + 30 < h) && decide (¬ pd q (10 + k) = 2)) m
def fireC (n : Nat) (own : Nat → Nat) (p k : Int32) : Nat := if isP n own p then (if inR k 500 750 then 0 else 2) else 1
theorem firP_0 (pd : Nat → Nat → Nat) (q h : Nat) : firP pd q h 0 = pd := by
  funext a j
  unfold firP
  rw [if_neg (by omega)]
theorem firP_s (pd : Nat → Nat → Nat) (q h m : Nat) : firP pd q h (m + 1) = st2 (firP pd q h m) q (10 + m) (newb (pd q (5 + m)) (pd q (10 + m)) h) := by
  funext a j
  unfold st2
  split
  · rename_i e
    unfold firP
    rw [if_pos (by omega), e.2, show 10 + m - 5 = 5 + m by omega]
  · rename_i e
    unfold firP
    by_cases c : a = q ∧ 10 ≤ j ∧ j < 10 + m
    · rw [if_pos c, if_pos (by omega)]
    · rw [if_neg c, if_neg (by omega)]
theorem newb_lt {heat b h : Nat} (hb : b < 3) : newb heat b h < 3 := by
  unfold newb; split
  · omega
  · split <;> omega
theorem firP_inv {n : Nat} {pd : Nat → Nat → Nat} {q h : Nat} (hP : InvP n pd) (hq : q < n) : ∀ {m : Nat}, m ≤ 5 → InvP n (firP pd q h m)
  | 0, _ => by rw [firP_0]; exact hP
  | m + 1, hm => by
    rw [firP_s]
    have := newb_lt (heat := pd q (5 + m)) (h := h) (hP.2.2.2 q m (by omega))
    exact (firP_inv hP hq (m := m) (by omega)).st hq ⟨by omega, by omega, by omega, by omega, by omega, by omega, by omega⟩
