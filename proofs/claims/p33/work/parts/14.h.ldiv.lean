/-! the class's side of divide -/
def nrow (r : Nat → Nat) (t : Nat) : Nat → Nat := fun j => if r 3 < 20 then (if j = 3 then r 3 + 1 else if j = 15 + r 3 then t else r j) else r j
theorem noteP_at {pd : Nat → Nat → Nat} {p t q j : Nat} : noteP pd p t q j = if q = p then nrow (pd p) t j else pd q j := by
  by_cases e : q = p
  · rw [if_pos e]
    subst e
    unfold noteP nrow
    by_cases h : pd q 3 < 20
    · rw [if_pos h, if_pos h]
      unfold st2
      by_cases e3 : j = 3
      · rw [if_pos ⟨rfl, e3⟩, if_pos e3]
      · rw [if_neg (fun z => e3 z.2), if_neg e3]
        by_cases e5 : j = 15 + pd q 3
        · rw [if_pos ⟨rfl, e5⟩, if_pos e5]
        · rw [if_neg (fun z => e5 z.2), if_neg e5]
    · rw [if_neg h, if_neg h]
  · rw [if_neg e]; exact noteP_q e
theorem noteP_comm {pd : Nat → Nat → Nat} {p q s t : Nat} (h : p ≠ q) : noteP (noteP pd p s) q t = noteP (noteP pd q t) p s := by
  have e1 : noteP pd p s q = pd q := by funext j; exact noteP_q (fun z => h z.symm)
  have e2 : noteP pd q t p = pd p := by funext j; exact noteP_q h
  funext x j
  rw [noteP_at, noteP_at (pd := noteP pd q t), e1, e2]
  by_cases e3 : x = q
  · subst e3
    rw [if_pos rfl, if_neg (fun z => h z.symm), noteP_at, if_pos rfl]
  · rw [if_neg e3]
    by_cases e4 : x = p
    · subst e4
      rw [if_pos rfl, noteP_at, if_pos rfl]
    · rw [if_neg e4, noteP_q e4, noteP_q e3]
theorem CP.more {f : Nat → Int32} {pd pd' : Nat → Nat → Nat} {k n : Nat} {v : Int32} (h : CP f pd k n) (he : ∀ i, i < n → pd' i k = pd i k) (hv : v = nI (pd' n k)) : CP (va_up f n v) pd' k (n + 1) := fun i hi => by
  by_cases e : i = n
  · subst e; rw [va_up_self]; exact hv
  · rw [va_up_ne _ _ e, he i (by omega)]; exact h i (by omega)
theorem CQ.more {f : Nat → Nat → Int32} {pd pd' : Nat → Nat → Nat} {b w n : Nat} {v : Nat → Int32} (h : CQ f pd b w n) (he : ∀ i, i < n → ∀ j, pd' i (b + j) = pd i (b + j)) (hv : ∀ j, j < w → v j = nI (pd' n (b + j))) : CQ (va_up f n v) pd' b w (n + 1) := fun i hi j hj => by
  by_cases e : i = n
  · subst e; rw [va_up_self]; exact hv j hj
  · rw [va_up_ne _ _ e, he i (by omega)]; exact h i (by omega) j hj
theorem divP_new {n c j : Nat} {pd : Nat → Nat → Nat} (hP : InvP n pd) : noteP (st2 pd n 0 c) n 1 n j = if j = 0 then c else if j = 3 then 1 else if j = 15 then 1 else 0 := by
  have hz := fun k => hP.2.2.1 n k (Nat.le_refl n)
  have e3 : st2 pd n 0 c n 3 = 0 := by unfold st2; rw [if_neg (by omega)]; exact hz 3
  rw [noteP_at, if_pos rfl]
  unfold nrow
  rw [e3, if_pos (by omega)]
  by_cases h0 : j = 0
  · subst h0
    rw [if_neg (by omega), if_neg (by omega), if_pos rfl]
    unfold st2
    rw [if_pos ⟨rfl, rfl⟩]
  · rw [if_neg h0]
    by_cases h3 : j = 3
    · rw [if_pos h3, if_pos h3]
    · rw [if_neg h3, if_neg h3]
      by_cases h5 : j = 15
      · rw [if_pos h5, if_pos h5]
      · rw [if_neg h5, if_neg h5]
        unfold st2
        rw [if_neg (fun z => h0 z.2)]
        exact hz j
theorem divP_old {n c i j : Nat} {pd : Nat → Nat → Nat} (hi : i < n) : noteP (st2 pd n 0 c) n 1 i j = pd i j := by
  rw [noteP_q (by omega)]
  unfold st2
  rw [if_neg (by omega)]
theorem divP_inv {n c : Nat} {pd : Nat → Nat → Nat} (hP : InvP n pd) (hc : c < 8) : InvP (n + 1) (noteP (st2 pd n 0 c) n 1) := by
  have hP0 : InvP (n + 1) pd := ⟨hP.1, hP.2.1, fun p j h => hP.2.2.1 p j (by omega), hP.2.2.2⟩
  have hP1 : InvP (n + 1) (st2 pd n 0 c) := hP0.st (by omega) ⟨by omega, by omega, by omega, by omega, by omega, by omega, by omega⟩
  exact hP1.note (t := 1) (by omega) (by omega)
section LDIV
variable {n cap : Nat} {own : Nat → Nat} {pd : Nat → Nat → Nat} {of wr wre nr nre fr fre : Nat → Int32} {el : Nat → Option Nat} {qc qs ql qt qo : Nat → Int32} {qh qf qth : Nat → Nat → Int32}
theorem l_divide {md p li : Int32} {post : Int32 → (Nat → Int32) → (Nat → Int32) → (Nat → Int32) → (Nat → Int32) → (Nat → Int32) → (Nat → Int32) → (Nat → Int32) → (Nat → Int32) → (Nat → Int32) → (Nat → Int32) → (Nat → Int32) → (Nat → Nat → Int32) → (Nat → Nat → Int32) → (Nat → Nat → Int32) → Prop} {px : String → (Nat → Int32) → (Nat → Int32) → (Nat → Int32) → (Nat → Int32) → (Nat → Int32) → (Nat → Int32) → (Nat → Int32) → (Nat → Int32) → (Nat → Int32) → (Nat → Int32) → (Nat → Int32) → (Nat → Nat → Int32) → (Nat → Nat → Int32) → (Nat → Nat → Int32) → Prop}
    (hO : InvO n own) (hP : InvP n pd) (ho : RO of own) (hc : n ≤ cap) (hc2 : 2 ≤ cap) (hc3 : cap ≤ 90) (c0 : CP qc pd 0 n) (c1 : CP qs pd 1 n) (c2 : CP ql pd 2 n) (c3 : CP qt pd 3 n) (c4 : CP qo pd 4 n) (c5 : CQ qh pd 5 5 n) (c10 : CQ qf pd 10 5 n) (c15 : CQ qth pd 15 20 n)
    (h0 : divC n own pd p li ≠ 0 → ∀ wr' nr' nre' fr' fre', px (x123 (divC n own pd p li)) of wr' nr' nre' fr' fre' qc qs ql qt qo qh qf qth)
    (h1 : divC n own pd p li = 0 → isP n own p = true → lineB li.toInt = true → n < 60 → InvO (n + 1) (ownD own (tN p) (tN li) n 256) → ∀ own' pd', own' = ownD own (tN p) (tN li) n 256 → pd' = noteP (noteP (st2 pd n 0 (pd (tN p) 0)) (tN p) 2) n 1 → InvP (n + 1) pd' → ∀ of' wr' nr' nre' fr' fre' qc' qs' ql' qt' qo' qh' qf' qth', RO of' own' → CP qc' pd' 0 (n + 1) → CP qs' pd' 1 (n + 1) → CP ql' pd' 2 (n + 1) → CP qt' pd' 3 (n + 1) → CP qo' pd' 4 (n + 1) → CQ qh' pd' 5 5 (n + 1) → CQ qf' pd' 10 5 (n + 1) → CQ qth' pd' 15 20 (n + 1) → post (nI n) of' wr' nr' nre' fr' fre' qc' qs' ql' qt' qo' qh' qf' qth') : wp_X4_divide cap n of md el (nI n) wr nr nre fr fre qc qs ql qt qo qh qf qth p li post px := by
  have hn := hO.2.1
  unfold wp_X4_divide
  refine k_thePiece hO ho hc (by omega) (fun e => ?_) (fun e1 => ?_)
  · have eC : divC n own pd p li = 1 := by unfold divC; rw [e]; rfl
    rw [eC] at h0; exact h0 (by decide) _ _ _ _ _
  refine k_isLine ?_
  rw [bI_br]
  cases e2 : lineB li.toInt
  · have eC : divC n own pd p li = 2 := by unfold divC; rw [e1, e2]; rfl
    rw [eC] at h0
    rw [if_neg (show ¬ false = true by decide)]
    exact h0 (by decide) _ _ _ _ _
  rw [if_pos rfl]
  obtain ⟨q, hq, hq60, rfl, hpr⟩ := isP_t e1 hO.2.1
  obtain ⟨i, rfl, hi, hi15⟩ := lineB_t e2
  rw [tN_nI (by omega), tN_nI (by omega)] at h1
  rw [tN_nI (show q < 2147483648 by omega)]
  have eC : divC n own pd (nI q) (nI i) = if decide (pd q 4 = 0) && decide (n < 60) && twoB (ofP own q) i then 0 else 3 := by
    unfold divC; rw [e1, e2, tN_nI (by omega), tN_nI (by omega)]; rfl
  rw [eC] at h0 h1
  have bad : (if (decide (pd q 4 = 0) && decide (n < 60) && twoB (ofP own q) i) = true then 0 else 3) = 3 → ∀ w1 w2 w3 w4 w5, px xISE of w1 w2 w3 w4 w5 qc qs ql qt qo qh qf qth := fun g w1 w2 w3 w4 w5 => by
    rw [g] at h0
    exact h0 (by decide) w1 w2 w3 w4 w5
  refine k_trace hO ho hq60 fun w1 hw1 => ?_
  unfold wp_X4_splitWhole
  refine k_takeSide (b := false) (by omega) hw1 fun nr1 g1 => ?_
  refine k_takeSide (b := true) (by omega) hw1 fun fr1 g2 => ?_
  have b4 := (hP.1 q).2.2.2.2
  rw [c4 _ hq]
  unfold wp_Jx4a65c_size_8abf5
  refine breq2 (b := 0) (by omega) (by omega) (fun z4 => ?_) (fun z => bad (by rw [decide_eq_false z]; rfl) _ _ _ _ _)
  rw [decide_eq_true z4] at bad h1
  refine brle2 (a := 60) (by omega) (by omega) (fun z => bad (by rw [decide_eq_false (show ¬ n < 60 by omega)]; rfl) _ _ _ _ _) (fun z5 => ?_)
  have hn60 : n < 60 := by omega
  rw [decide_eq_true hn60, Bool.true_and] at bad h1
  refine k_isOnePart g1 fun nre1 => ?_
  rw [bI_br]
  cases eN : dP (One (sideS (ofP own q) i false))
  · rw [if_neg (show ¬ false = true by decide)]
    exact bad (by unfold twoB; rw [eN, Bool.and_false]; rfl) _ _ _ _ _
  rw [if_pos rfl]
  refine k_isOnePart g2 fun fre1 => ?_
  rw [bI_br]
  cases eF : dP (One (sideS (ofP own q) i true))
  · rw [if_neg (show ¬ false = true by decide)]
    exact bad (by unfold twoB; rw [eF, Bool.false_and]; rfl) _ _ _ _ _
  rw [if_pos rfl]
  have e6 : twoB (ofP own q) i = true := by unfold twoB; rw [eN, eF]; rfl
  rw [e6] at h1
  have hinv := inv_D hO hn60 hq e6
  have b0 := (hP.1 q).1
  have hIA := divP_inv (c := pd q 0) hP b0
  have hpd : noteP (noteP (st2 pd n 0 (pd q 0)) n 1) q 2 = noteP (noteP (st2 pd n 0 (pd q 0)) q 2) n 1 := noteP_comm (show n ≠ q by omega)
  have h1 := h1 rfl e1 e2 hn60 hinv _ _ rfl hpd (hIA.note (t := 2) (by omega) (by omega))
  refine ⟨⟨hn60, hc, hc2, hc3, rfl⟩, ?_⟩
  refine k_hands ho g2 fun of' hof => ?_
  have hof' : RO of' (ownD own q i n 256) := fun x hx => by
    rw [hof x hx]
    unfold ownS ownD sideS ofP
    refine congrArg nI ?_
    by_cases e : own x = q ∧ byd x i = true
    · rw [if_pos ⟨hx, by rw [decide_eq_true e.1, decide_eq_true e.2]; rfl⟩, if_pos ⟨hx, e⟩]
    · rw [if_neg (fun z => e ?_), if_neg (fun z => e z.2)]
      have z2 := z.2
      rw [Bool.and_eq_true] at z2
      exact ⟨of_decide_eq_true z2.1, of_decide_eq_true z2.2⟩
  have o : ∀ i j, i < n → noteP (st2 pd n 0 (pd q 0)) n 1 i j = pd i j := fun i j hi => divP_old hi
  have w : ∀ j, noteP (st2 pd n 0 (pd q 0)) n 1 n j = if j = 0 then pd q 0 else if j = 3 then 1 else if j = 15 then 1 else 0 := fun j => divP_new hP
  have k0 := c0.more (v := qc q) (pd' := noteP (st2 pd n 0 (pd q 0)) n 1) (fun i hi => o i _ hi) (by rw [w, if_pos rfl]; exact c0 q hq)
  have k1 := c1.more (v := 0) (pd' := noteP (st2 pd n 0 (pd q 0)) n 1) (fun i hi => o i _ hi) (by rw [w]; rfl)
  have k2 := c2.more (v := 0) (pd' := noteP (st2 pd n 0 (pd q 0)) n 1) (fun i hi => o i _ hi) (by rw [w]; rfl)
  have k3 := c3.more (v := 1) (pd' := noteP (st2 pd n 0 (pd q 0)) n 1) (fun i hi => o i _ hi) (by rw [w]; rfl)
  have k4 := c4.more (v := 0) (pd' := noteP (st2 pd n 0 (pd q 0)) n 1) (fun i hi => o i _ hi) (by rw [w]; rfl)
  have k5 := c5.more (v := fun _ => 0) (pd' := noteP (st2 pd n 0 (pd q 0)) n 1) (fun i hi j => o i _ hi) (fun j hj => by rw [w, if_neg (by omega), if_neg (by omega), if_neg (by omega)]; rfl)
  have k10 := c10.more (v := fun _ => 0) (pd' := noteP (st2 pd n 0 (pd q 0)) n 1) (fun i hi j => o i _ hi) (fun j hj => by rw [w, if_neg (by omega), if_neg (by omega), if_neg (by omega)]; rfl)
  have k15 := c15.more (v := upd (fun _ => 0) 0 1) (pd' := noteP (st2 pd n 0 (pd q 0)) n 1) (fun i hi j => o i _ hi) (fun j hj => by
    rw [w, if_neg (by omega), if_neg (by omega)]
    by_cases e : j = 0
    · subst e; rfl
    · rw [if_neg (by omega)]; exact if_neg e)
  refine k_note (t := 2) hIA (show q < n + 1 by omega) k3 k15 fun x y g3 g15 => ?_
  exact h1 _ _ _ _ _ _ _ _ _ _ _ _ _ _ hof' (k0.note (by omega)) (k1.note (by omega)) (k2.note (by omega)) g3 (k4.note (by omega)) (k5.note (by omega)) (k10.note (by omega)) g15
end LDIV
