/-! the calls of the law: codes, answers, new states -/
theorem CP.keep {f : Nat → Int32} {pd pd' : Nat → Nat → Nat} {k n : Nat} (h : CP f pd k n) (e : ∀ i, pd' i k = pd i k) : CP f pd' k n := fun i hi => by rw [e]; exact h i hi
theorem CQ.keep {f : Nat → Nat → Int32} {pd pd' : Nat → Nat → Nat} {b w n : Nat} (h : CQ f pd b w n) (e : ∀ i j, j < w → pd' i (b + j) = pd i (b + j)) : CQ f pd' b w n := fun i hi j hj => by rw [e i j hj]; exact h i hi j hj
theorem RP.keep {f : Nat → Int32} {pd pd' : Nat → Nat → Nat} {k : Nat} (h : RP f pd k) (e : ∀ i, pd' i k = pd i k) : RP f pd' k := fun i hi => by rw [e]; exact h i hi
theorem RQ.keep {f : Nat → Int32} {pd pd' : Nat → Nat → Nat} {b w : Nat} (h : RQ f pd b w) (e : ∀ i j, j < w → pd' i (b + j) = pd i (b + j)) : RQ f pd' b w := fun i hi j hj => by rw [e i j hj]; exact h i hi j hj
theorem lo_two {pd : Nat → Nat → Nat} {p q s t i j : Nat} (h : j ≠ 3 ∧ j < 15) : noteP (noteP pd p s) q t i j = pd i j := by rw [noteP_lo h, noteP_lo h]
theorem lo_col {pd : Nat → Nat → Nat} {q k i j : Nat} (h : j ≠ 0 ∧ j ≠ 3 ∧ j < 15) : colP pd q k i j = pd i j := by
  unfold colP
  split
  · rfl
  · rw [noteP_lo h.2, st2_ne _ (Or.inr h.1)]
theorem lo_fin {own : Nat → Nat} {pd : Nat → Nat → Nat} {i j : Nat} (h : j ≠ 4 ∧ j ≠ 3 ∧ j < 15) : ∀ k, finP own pd k i j = pd i j
  | 0 => rfl
  | k + 1 => by
    unfold finP
    split
    · rw [noteP_lo h.2, st2_ne _ (Or.inr h.1)]; exact lo_fin h k
    · exact lo_fin h k
theorem lo_paint {pd : Nat → Nat → Nat} {q k i j : Nat} (hb : pd q 2 ≤ 5) (h : j = 0 ∨ j = 1 ∨ j = 4) : paintP pd q k i j = pd i j := by
  unfold paintP
  rw [noteP_lo (by omega), st2_ne _ (by omega), st2_ne _ (by omega), st2_ne _ (by omega)]
theorem lo_fire {pd : Nat → Nat → Nat} {q g m t i j : Nat} (h : j ≠ 3 ∧ j < 10) : noteP (firP pd q g m) q t i j = pd i j := by
  rw [noteP_lo ⟨h.1, by omega⟩]
  unfold firP
  rw [if_neg (by omega)]
theorem lo_stt {pd : Nat → Nat → Nat} {q v t i j : Nat} (h : j ≠ 1 ∧ j ≠ 3 ∧ j < 15) : noteP (st2 pd q 1 v) q t i j = pd i j := by
  rw [noteP_lo h.2, st2_ne _ (Or.inr h.1)]
theorem lo_repl {pd : Nat → Nat → Nat} {q k i j : Nat} (h : 5 ≤ j ∧ j < 15) : replP pd q k i j = pd i j := by
  unfold replP
  rw [noteP_lo ⟨by omega, h.2⟩, st2_ne _ (by omega), st2_ne _ (by omega), st2_ne _ (by omega), st2_ne _ (by omega)]
theorem lo_div {n c p : Nat} {pd : Nat → Nat → Nat} (hP : InvP n pd) {i j : Nat} (h : j ≠ 0 ∧ j ≠ 3 ∧ j < 15) : noteP (noteP (st2 pd n 0 c) p 2) n 1 i j = pd i j := by
  rw [noteP_lo h.2, noteP_lo h.2, st2_ne _ (Or.inr h.1)]
/-- what a call comes to: refused, with nothing changed; or done -/
def RES (c : Nat) (V : Int32 → Prop) (s s' : SG) (r : Int32) (t : SG) : Prop := (c ≠ 0 ∧ r = -99999999 ∧ t = s) ∨ (c = 0 ∧ V r ∧ t = s')
/-- what a helper of the law hands over -/
def OUT (c : Nat) (V : Int32 → Prop) (s s' : SG) (r : Int32) (w : KT) : Prop := ∃ t, RES c V s s' r t ∧ RCt t w
theorem OUT.no {c : Nat} {V : Int32 → Prop} {s s' : SG} {w : KT} (h : c ≠ 0) (hR : RCt s w) : OUT c V s s' (-99999999) w := ⟨s, Or.inl ⟨h, rfl, rfl⟩, hR⟩
theorem OUT.yes {c : Nat} {V : Int32 → Prop} {s s' : SG} {r : Int32} {w : KT} (h : c = 0) (hV : V r) (hR : RCt s' w) : OUT c V s s' r w := ⟨s', Or.inr ⟨h, hV, rfl⟩, hR⟩
/-! the calls: code, answer, new state -/
noncomputable def oC_divide (s : SG) (p l : Int32) : Nat := divC s.1 s.2.1 s.2.2.1 p l
def oV_divide (s : SG) (p l y : Int32) : Prop := y = nI s.1
def oS_divide (s : SG) (p l : Int32) : SG := (s.1 + 1, ownD s.2.1 (tN p) (tN l) s.1 256, noteP (noteP (st2 s.2.2.1 s.1 0 (s.2.2.1 (tN p) 0)) (tN p) 2) s.1 1, s.2.2.2)
noncomputable def oC_give (s : SG) (c p : Int32) : Nat := giveC s.1 s.2.1 s.2.2.1 c p
def oV_give (s : SG) (c p y : Int32) : Prop := y = nI (s.2.1 (tN c))
def oS_give (s : SG) (c p : Int32) : SG := (s.1, ownG s.2.1 (tN c) (tN p), noteP (noteP s.2.2.1 (s.2.1 (tN c)) 2) (tN p) 2, s.2.2.2)
noncomputable def oC_join (s : SG) (p q : Int32) : Nat := joinC s.1 s.2.1 s.2.2.1 p q
def oV_join (s : SG) (p q y : Int32) : Prop := y = nI (cnt (ownJ s.2.1 (tN q) (tN p)) (tN p))
def oS_join (s : SG) (p q : Int32) : SG := (s.1, ownJ s.2.1 (tN q) (tN p), noteP (noteP s.2.2.1 (tN p) 2) (tN q) 2, s.2.2.2)
def oC_colour (s : SG) (p k : Int32) : Nat := colC s.1 s.2.1 s.2.2.1 p k
def oV_colour (s : SG) (p k y : Int32) : Prop := y = nI (s.2.2.1 (tN p) 0)
def oS_colour (s : SG) (p k : Int32) : SG := (s.1, s.2.1, colP s.2.2.1 (tN p) (tN k), s.2.2.2)
def oV_finish (s : SG) (y : Int32) : Prop := y = nI (finN s.2.1 s.2.2.1 s.1)
def oS_finish (s : SG) : SG := (s.1, s.2.1, finP s.2.1 s.2.2.1 s.1, s.2.2.2)
def oC_heart (s : SG) (p : Int32) : Nat := if inR p 1 5 then 0 else 1
def oV_heart (s : SG) (p y : Int32) : Prop := y = nI s.2.2.2.1
def oS_heart (s : SG) (p : Int32) : SG := (s.1, s.2.1, s.2.2.1, tN p, s.2.2.2.2)
def oC_sheet (s : SG) (p : Int32) : Nat := if inR p 4 40 then 0 else 1
def oV_sheet (s : SG) (p y : Int32) : Prop := y = nI s.2.2.2.2.1
def oS_sheet (s : SG) (p : Int32) : SG := (s.1, s.2.1, s.2.2.1, s.2.2.2.1, tN p, s.2.2.2.2.2)
def oC_bar (s : SG) (p : Int32) : Nat := barC s.2.2.2.2.2 p
def oV_bar (s : SG) (p y : Int32) : Prop := y = bI (s.2.2.2.2.2 (tN p))
def oS_bar (s : SG) (p : Int32) : SG := (s.1, s.2.1, s.2.2.1, s.2.2.2.1, s.2.2.2.2.1, flip s.2.2.2.2.2 (tN p))
def oC_paint (s : SG) (p k : Int32) : Nat := paintC s.1 s.2.1 s.2.2.1 p k
def oV_paint (s : SG) (p k y : Int32) : Prop := y = nI (s.2.2.1 (tN p) 2 + 1)
def oS_paint (s : SG) (p k : Int32) : SG := (s.1, s.2.1, paintP s.2.2.1 (tN p) (tN k), s.2.2.2)
def oC_fire (s : SG) (p k : Int32) : Nat := fireC s.1 s.2.1 p k
def oV_fire (s : SG) (p k y : Int32) : Prop := y = nI (firN s.2.2.1 (tN p) (tN k) (s.2.2.1 (tN p) 2))
def oS_fire (s : SG) (p k : Int32) : SG := (s.1, s.2.1, noteP (firP s.2.2.1 (tN p) (tN k) (s.2.2.1 (tN p) 2)) (tN p) 5, s.2.2.2)
def oC_crack (s : SG) (c : Int32) : Nat := if isC c then 0 else 1
def oV_crack (s : SG) (c y : Int32) : Prop := y = nI (s.2.1 (tN c))
def oS_crack (s : SG) (c : Int32) : SG := (s.1, s.2.1, noteP (st2 s.2.2.1 (s.2.1 (tN c)) 1 1) (s.2.1 (tN c)) 7, s.2.2.2)
def oC_mend (s : SG) (p : Int32) : Nat := mendC s.1 s.2.1 s.2.2.1 p
def oS_mend (s : SG) (p : Int32) : SG := (s.1, s.2.1, noteP (st2 s.2.2.1 (tN p) 1 2) (tN p) 8, s.2.2.2)
def oV_mend (s : SG) (p y : Int32) : Prop := y = nI (brk s.2.1 (noteP (st2 s.2.2.1 (tN p) 1 2) (tN p) 8) s.1)
def oC_replace (s : SG) (p k : Int32) : Nat := replC s.1 s.2.1 s.2.2.1 p k
def oV_replace (s : SG) (p k y : Int32) : Prop := y = nI (s.2.2.1 (tN p) 0)
def oS_replace (s : SG) (p k : Int32) : SG := (s.1, s.2.1, replP s.2.2.1 (tN p) (tN k), s.2.2.2)
def oV_pieces (s : SG) (y : Int32) : Prop := y = nI (fb_ct (pres s.2.1) s.1)
def oC_pieceOf (s : SG) (c : Int32) : Nat := if isC c then 0 else 1
def oV_pieceOf (s : SG) (c y : Int32) : Prop := y = nI (s.2.1 (tN c))
def oC_piece (s : SG) (p k : Int32) : Nat := pieC s.1 s.2.1 p k
def oV_piece (s : SG) (p k y : Int32) : Prop := y = nI (pieA s.2.1 s.2.2.1 (tN p) (tN k))
def oC_bestLine (s : SG) (p : Int32) : Nat := if isP s.1 s.2.1 p then 0 else 1
def oV_bestLine (s : SG) (p y : Int32) : Prop := y = optI (bestB (ofP s.2.1 (tN p)) 31)
def oV_lead (s : SG) (y : Int32) : Prop := y = nI (lenN s.2.1)
def oV_joints (s : SG) (y : Int32) : Prop := y = nI (joiN s.2.1)
def oV_weight (s : SG) (y : Int32) : Prop := y = nI (768 + s.2.2.2.1 * lenN s.2.1)
def oV_assembled (s : SG) (p y : Int32) : Prop := y = asA s.2.1 s.1 p
def oC_sheets (s : SG) (p : Int32) : Nat := if inR p 0 7 then 0 else 1
def oV_sheets (s : SG) (p y : Int32) : Prop := ∃ m Q, QS s.1 s.2.1 s.2.2.1 (tN p) m Q ∧ m ≤ 60 ∧ y = nI (layF s.2.1 s.2.2.2.2.1 Q m).1
def oC_laid (s : SG) (p : Int32) : Nat := if isP s.1 s.2.1 p then 0 else 1
def oV_laid (s : SG) (p y : Int32) : Prop := ∃ m Q, QS s.1 s.2.1 s.2.2.1 (s.2.2.1 (tN p) 0) m Q ∧ m ≤ 60 ∧ y = optI ((layF s.2.1 s.2.2.2.2.1 Q m).2.2.2.2 (tN p))
def oC_waste (s : SG) (p : Int32) : Nat := if inR p 0 7 then 0 else 1
def oV_waste (s : SG) (p y : Int32) : Prop := ∃ m Q, QS s.1 s.2.1 s.2.2.1 (tN p) m Q ∧ m ≤ 60 ∧ y = iI ((layF s.2.1 s.2.2.2.2.1 Q m).1 * 20 * s.2.2.2.2.1 - covN s.2.1 s.2.2.2.2.1 Q m : Int)
def oC_floor (s : SG) (d col p : Int32) : Nat := if inR p 7 17 then 0 else 1
def oV_floor (s : SG) (d col p y : Int32) : Prop := y = nI (shwN s.2.1 s.2.2.1 d col (tN p))
def oC_crosses (s : SG) (p : Int32) : Nat := if inR p 0 14 then 0 else 1
def oV_crosses (s : SG) (p y : Int32) : Prop := y = nI (crsN s.1 s.2.1 (tN p))
def oC_bends (s : SG) (p w : Int32) : Nat := benC s.2.2.2.2.2 p w
def oV_bends (s : SG) (p w y : Int32) : Prop := y = nI (tN w * rowN s.2.2.2.2.2 (tN p) * rowN s.2.2.2.2.2 (tN p) * rowN s.2.2.2.2.2 (tN p) / 64)
def oV_isShut (s : SG) (y : Int32) : Prop := y = bI (decide (brk s.2.1 s.2.2.1 s.1 = 0))
def oC_history (s : SG) (p k : Int32) : Nat := if histC s.1 p k then 0 else 1
def oV_history (s : SG) (p k y : Int32) : Prop := y = histA s.2.2.1 (tN p) k
