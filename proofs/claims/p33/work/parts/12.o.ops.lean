theorem atZ_in {own : Nat → Nat} {r c : Nat} (hr : r < 16) (hc : c < 16) : atZ own r c = own (16 * r + c) := by
  unfold atZ
  rw [if_pos (by omega), Int.toNat_natCast, Int.toNat_natCast]
def crsB (own : Nat → Nat) (row k p : Nat) : Bool := anyB (fun c => decide (own (16 * row + c) = own (16 * (row + 1) + c)) && decide (p = own (16 * row + c))) k
def crsN (n : Nat) (own : Nat → Nat) (row : Nat) : Nat := fb_ct (crsB own row 16) n
def rowN (bar : Nat → Bool) (panel : Nat) : Nat := fb_ct (fun r => decide (fb_ct bar r = panel)) 16
def benC (bar : Nat → Bool) (p w : Int32) : Nat := if inR p 0 (fb_ct bar 15) then (if inR w 0 9 then 0 else 2) else 1
