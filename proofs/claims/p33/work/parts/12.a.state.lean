/-! what both sides know: how many pieces, whose each cell is, what is told of each piece.
 of a piece: 0 colour, 1 state, 2 layers, 3 things, 4 original, 5 to 9 heats, 10 to 14 firings, 15 to 34 its things -/
def cnt (own : Nat → Nat) (p : Nat) : Nat := fb_ct (fun c => decide (own c = p)) 256
def pres (own : Nat → Nat) (p : Nat) : Bool := decide (0 < cnt own p)
def st2 (pd : Nat → Nat → Nat) (p k v : Nat) : Nat → Nat → Nat := fun q j => if q = p ∧ j = k then v else pd q j
def noteP (pd : Nat → Nat → Nat) (p t : Nat) : Nat → Nat → Nat := if pd p 3 < 20 then st2 (st2 pd p (15 + pd p 3) t) p 3 (pd p 3 + 1) else pd
def InvO (n : Nat) (own : Nat → Nat) : Prop := 1 ≤ n ∧ n ≤ 60 ∧ (∀ c, c < 256 → own c < n) ∧ ∀ p, pres own p = true → One (fun c => decide (own c = p))
def InvP (n : Nat) (pd : Nat → Nat → Nat) : Prop := (∀ p, pd p 0 < 8 ∧ pd p 1 < 3 ∧ pd p 2 ≤ 5 ∧ pd p 3 ≤ 20 ∧ pd p 4 ≤ 1) ∧ (∀ p j, pd p j < 1000) ∧ (∀ p j, n ≤ p → pd p j = 0) ∧ ∀ p k, k < 5 → pd p (10 + k) < 3
/-- one array of the model, one number of each piece -/
def RP (f : Nat → Int32) (pd : Nat → Nat → Nat) (k : Nat) : Prop := ∀ p, p < 60 → f p = nI (pd p k)
/-- w numbers of each piece, from b on -/
def RQ (f : Nat → Int32) (pd : Nat → Nat → Nat) (b w : Nat) : Prop := ∀ p, p < 60 → ∀ k, k < w → f (w * p + k) = nI (pd p (b + k))
theorem st2_at (pd : Nat → Nat → Nat) (p k v : Nat) : st2 pd p k v p k = v := if_pos ⟨rfl, rfl⟩
theorem st2_ne (pd : Nat → Nat → Nat) {p k v q j : Nat} (h : q ≠ p ∨ j ≠ k) : st2 pd p k v q j = pd q j := if_neg (by omega)
theorem RP.upd {f : Nat → Int32} {pd : Nat → Nat → Nat} {k : Nat} (h : RP f pd k) (p v : Nat) : RP (upd f p (nI v)) (st2 pd p k v) k := fun q hq => by
  by_cases e : q = p
  · rw [e, upd_at, st2_at]
  · rw [upd_ne _ _ e, st2_ne _ (Or.inl e)]; exact h q hq
theorem RP.ne {f : Nat → Int32} {pd : Nat → Nat → Nat} {k : Nat} (h : RP f pd k) {p j v : Nat} (e : j ≠ k) : RP f (st2 pd p j v) k := fun q hq => by
  rw [st2_ne _ (Or.inr fun z => e z.symm)]; exact h q hq
theorem RQ.ne {f : Nat → Int32} {pd : Nat → Nat → Nat} {b w : Nat} (h : RQ f pd b w) {p j v : Nat} (e : j < b ∨ b + w ≤ j) : RQ f (st2 pd p j v) b w := fun q hq k hk => by
  rw [st2_ne _ (Or.inr (by omega))]; exact h q hq k hk
theorem RQ.upd {f : Nat → Int32} {pd : Nat → Nat → Nat} {b w : Nat} (h : RQ f pd b w) {p k v : Nat} (hk : k < w) : RQ (upd f (w * p + k) (nI v)) (st2 pd p (b + k) v) b w := fun q hq j hj => by
  by_cases e : q = p
  · subst e
    by_cases e2 : j = k
    · rw [e2, upd_at, st2_at]
    · rw [upd_ne _ _ (by omega), st2_ne _ (Or.inr (by omega))]; exact h q hq j hj
  · rw [upd_ne _ _ ?_, st2_ne _ (Or.inl e)]
    · exact h q hq j hj
    · intro z
      rcases Nat.lt_or_ge q p with g | g
      · have := Nat.mul_le_mul_left w (show q + 1 ≤ p by omega)
        rw [Nat.mul_add] at this
        omega
      · have := Nat.mul_le_mul_left w (show p + 1 ≤ q by omega)
        rw [Nat.mul_add] at this
        omega
theorem noteP_lo {pd : Nat → Nat → Nat} {p t q j : Nat} (h : j ≠ 3 ∧ j < 15) : noteP pd p t q j = pd q j := by
  unfold noteP
  split
  · rw [st2_ne _ (Or.inr h.1), st2_ne _ (Or.inr (by omega))]
  · rfl
theorem noteP_q {pd : Nat → Nat → Nat} {p t q j : Nat} (h : q ≠ p) : noteP pd p t q j = pd q j := by
  unfold noteP
  split
  · rw [st2_ne _ (Or.inl h), st2_ne _ (Or.inl h)]
  · rfl
theorem RP.note {f : Nat → Int32} {pd : Nat → Nat → Nat} {k : Nat} (h : RP f pd k) {p t : Nat} (e : k ≠ 3 ∧ k < 15) : RP f (noteP pd p t) k := fun q hq => by rw [noteP_lo e]; exact h q hq
theorem RQ.note {f : Nat → Int32} {pd : Nat → Nat → Nat} {b w : Nat} (h : RQ f pd b w) {p t : Nat} (e : 3 < b ∧ b + w ≤ 15) : RQ f (noteP pd p t) b w := fun q hq k hk => by rw [noteP_lo ⟨by omega, by omega⟩]; exact h q hq k hk
theorem InvP.st {n : Nat} {pd : Nat → Nat → Nat} (h : InvP n pd) {p k v : Nat} (hp : p < n) (hv : v < 1000 ∧ (k = 0 → v < 8) ∧ (k = 1 → v < 3) ∧ (k = 2 → v ≤ 5) ∧ (k = 3 → v ≤ 20) ∧ (k = 4 → v ≤ 1) ∧ (10 ≤ k → k < 15 → v < 3)) : InvP n (st2 pd p k v) := by
  obtain ⟨h1, h2, h3, h4⟩ := h
  refine ⟨fun q => ?_, fun q j => ?_, fun q j hq => ?_, fun q j hj => ?_⟩
  · obtain ⟨a0, a1, a2, a3, a4⟩ := h1 q
    refine ⟨?_, ?_, ?_, ?_, ?_⟩ <;> (unfold st2; split <;> omega)
  · have := h2 q j
    unfold st2; split <;> omega
  · have := h3 q j hq
    unfold st2; split <;> omega
  · have := h4 q j hj
    unfold st2; split <;> omega
theorem InvP.note {n : Nat} {pd : Nat → Nat → Nat} (h : InvP n pd) {p t : Nat} (hp : p < n) (ht : t < 1000) : InvP n (noteP pd p t) := by
  unfold noteP
  split
  · exact (h.st hp ⟨ht, by omega, by omega, by omega, by omega, by omega, by omega⟩).st hp ⟨by omega, by omega, by omega, by omega, by omega, by omega, by omega⟩
  · exact h
/-- the model's numbers of pieces -/
def RMP (pd : Nat → Nat → Nat) (colour isOriginal state layers heat burnt things history : Nat → Int32) : Prop := RP colour pd 0 ∧ RP state pd 1 ∧ RP layers pd 2 ∧ RP things pd 3 ∧ RP isOriginal pd 4 ∧ RQ heat pd 5 5 ∧ RQ burnt pd 10 5 ∧ RQ history pd 15 20
theorem cnt_le (own : Nat → Nat) (p : Nat) : cnt own p ≤ 256 := fb_ct_le _ _
def isP (n : Nat) (own : Nat → Nat) (p : Int32) : Bool := decide (0 ≤ p.toInt ∧ p.toInt < n) && pres own p.toInt.toNat
theorem isP_t {n : Nat} {own : Nat → Nat} {p : Int32} (h : isP n own p = true) (hn : n ≤ 60) : ∃ q, q < n ∧ q < 60 ∧ p = nI q ∧ pres own q = true := by
  unfold isP at h
  rw [Bool.and_eq_true, decide_eq_true_iff] at h
  refine ⟨p.toInt.toNat, by omega, by omega, ?_, h.2⟩
  rw [iI_nat, Int.toNat_of_nonneg h.1.1]
  exact iI_self p
theorem isP_nI {n : Nat} {own : Nat → Nat} {q : Nat} (hq : q < n) (hn : n ≤ 60) : isP n own (nI q) = pres own q := by
  unfold isP
  have e : (nI q).toInt = (q : Int) := by rw [iI_nat, iI_toInt (by omega)]
  rw [e, decide_eq_true (show (0 : Int) ≤ (q : Int) ∧ (q : Int) < (n : Int) by omega), Int.toNat_natCast, Bool.true_and]
