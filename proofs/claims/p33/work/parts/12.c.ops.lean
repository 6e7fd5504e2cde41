theorem ne1 {A : Prop} : ((1 : Int32) = 0 → A) := fun z => absurd z (by decide)
theorem ge_lit {a k : Nat} (ha : a < 2147483648) (hk : k < 2147483648) : (nI a ≤ nI k) = (a ≤ k) := propext (by rw [nI_leI ha hk])
def barC (bar : Nat → Bool) (p : Int32) : Nat := if inR p 0 14 then (if !bar (tN p) && decide (fb_ct bar 15 = 5) then 2 else 0) else 1
def flip (bar : Nat → Bool) (k : Nat) : Nat → Bool := fun j => if j = k then !bar j else bar j
theorem in60 {q : Nat} (h : q < 60) : vp_in (nI q) 60 := vp_in_nI h (by omega)
def paintC (n : Nat) (own : Nat → Nat) (pd : Nat → Nat → Nat) (p k : Int32) : Nat := if isP n own p then (if inR k 500 700 then (if pd (tN p) 2 = 5 then 3 else 0) else 2) else 1
def paintP (pd : Nat → Nat → Nat) (q k : Nat) : Nat → Nat → Nat := noteP (st2 (st2 (st2 pd q (5 + pd q 2) k) q (10 + pd q 2) 0) q 2 (pd q 2 + 1)) q 4
