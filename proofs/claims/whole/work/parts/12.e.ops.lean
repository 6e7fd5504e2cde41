/-! finish, layersOf, fire -/
def finP (own : Nat → Nat) (pd : Nat → Nat → Nat) : Nat → Nat → Nat → Nat
  | 0 => pd
  | k + 1 => if pres own k && decide (pd k 4 = 0) then noteP (st2 (finP own pd k) k 4 1) k 6 else finP own pd k
def finN (own : Nat → Nat) (pd : Nat → Nat → Nat) (k : Nat) : Nat := fb_ct (fun p => pres own p && decide (pd p 4 = 0)) k
theorem finP_ge {own : Nat → Nat} {pd : Nat → Nat → Nat} : ∀ {k q j : Nat}, k ≤ q → finP own pd k q j = pd q j
  | 0, q, j, _ => rfl
  | k + 1, q, j, h => by
    rw [finP]
    split
    · rw [noteP_q (by omega), st2_ne _ (Or.inl (by omega))]; exact finP_ge (by omega)
    · exact finP_ge (by omega)
theorem finP_inv {n : Nat} {own : Nat → Nat} {pd : Nat → Nat → Nat} (h : InvP n pd) : ∀ {k : Nat}, k ≤ n → InvP n (finP own pd k)
  | 0, _ => h
  | k + 1, hk => by
    rw [finP]
    split
    · exact ((finP_inv h (k := k) (by omega)).st (by omega) ⟨by omega, by omega, by omega, by omega, by omega, by omega, by omega⟩).note (by omega) (by omega)
    · exact finP_inv h (by omega)
theorem m_finish {n : Nat} {own : Nat → Nat} {pd : Nat → Nat → Nat} {many org things history : Nat → Int32} {t : Int32} {post : Int32 → Int32 → (Nat → Int32) → (Nat → Int32) → (Nat → Int32) → Prop}
    (hn : n ≤ 60) (hP : InvP n pd) (hm : ∀ p, p < 60 → many p = nI (cnt own p)) (r4 : RP org pd 4) (r3 : RP things pd 3) (rh : RQ history pd 15 20)
    (h : ∀ org' things' history', RP org' (finP own pd n) 4 → RP things' (finP own pd n) 3 → RQ history' (finP own pd n) 15 20 → post (nI (finN own pd n)) 0 org' things' history') : wp_X5_finish t (nI n) many org things history post := by
  unfold wp_X5_finish
  rintro _ rfl
  refine lp_cnt n (fun k (s : (Nat → Int32) × (Nat → Int32) × (Nat → Int32)) => (nI (finN own pd k), nI k, (0 : Int32), s.1, s.2.1, s.2.2)) (fun k s => RP s.1 (finP own pd k) 4 ∧ RP s.2.1 (finP own pd k) 3 ∧ RQ s.2.2 (finP own pd k) 15 20) ?_ ?_ 0 (org, things, history) (by omega) ⟨r4, r3, rh⟩
  · rintro K k ⟨o, th, hi⟩ hk ⟨a4, a3, ah⟩ hK
    dsimp only at a4 a3 ah
    show wp_X5_finish_9 _ _ _ _ _ _ _ _ _ _ _ _ _ _
    unfold wp_X5_finish_9
    dsimp only
    refine nI_brl (by omega) (by omega) ?_
    rw [if_neg (by omega), nI_clamp (by omega), hm k (by omega), nI_1]
    refine ⟨in60 (by omega), many_br ?_⟩
    have b4 := (hP.1 k).2.2.2.2
    have hPk := finP_inv (own := own) hP (k := k) (by omega)
    have e4 : o k = nI (pd k 4) := by rw [a4 k (by omega), finP_ge (Nat.le_refl k)]
    cases e : pres own k
    · have eP : finP own pd (k + 1) = finP own pd k := by rw [finP, e]; rfl
      have eN : finN own pd (k + 1) = finN own pd k := by unfold finN; rw [fb_ct_succ, e]; rfl
      rw [if_neg (show ¬ false = true by decide), ← eN]
      exact hK (o, th, hi) (by rw [eP]; exact ⟨a4, a3, ah⟩)
    · rw [if_pos rfl]
      refine ⟨in60 (by omega), ?_⟩
      rw [e4]
      refine nI_br (b := 0) (by omega) (by omega) ?_
      split
      · rename_i z
        have eP : finP own pd (k + 1) = noteP (st2 (finP own pd k) k 4 1) k 6 := by rw [finP, e, decide_eq_true z]; rfl
        have eN : finN own pd (k + 1) = finN own pd k + 1 := by unfold finN; rw [fb_ct_succ, e, decide_eq_true z]; rfl
        refine ⟨in60 (by omega), ?_⟩
        rintro _ rfl
        have hP2 : InvP n (st2 (finP own pd k) k 4 1) := hPk.st (by omega) ⟨by omega, by omega, by omega, by omega, by omega, by omega, by omega⟩
        refine m_note hP2 (by omega) (a3.ne (by omega)) (ah.ne (by omega)) fun t' h' a b => ?_
        rw [nI_1, ← eN]
        refine hK (_, t', h') ?_
        rw [eP]
        exact ⟨RP.note (a4.upd k 1) (by omega), a, b⟩
      · rename_i z
        have eP : finP own pd (k + 1) = finP own pd k := by rw [finP, e, decide_eq_false z]; rfl
        have eN : finN own pd (k + 1) = finN own pd k := by unfold finN; rw [fb_ct_succ, e, decide_eq_false z]; rfl
        rw [← eN]
        exact hK (o, th, hi) (by rw [eP]; exact ⟨a4, a3, ah⟩)
  · rintro K ⟨o, th, hi⟩ ⟨a4, a3, ah⟩
    show wp_X5_finish_9 _ _ _ _ _ _ _ _ _ _ _ _ _ _
    unfold wp_X5_finish_9
    dsimp only
    exact ⟨fun _ => h _ _ _ a4 a3 ah, fun z => absurd (Int32.le_refl _) z⟩
def layN (pd : Nat → Nat → Nat) (q its : Nat) : Nat := fb_ct (fun k => decide (pd q (10 + k) = its)) (pd q 2)
theorem m_layersOf {n q its : Nat} {pd : Nat → Nat → Nat} {layers burnt : Nat → Int32} {post : Int32 → Prop} (hP : InvP n pd) (hq : q < 60) (hi : its < 1000) (r2 : RP layers pd 2) (rb : RQ burnt pd 10 5) (h : post (nI (layN pd q its))) : wp_X5_layersOf layers burnt (nI q) (nI its) post := by
  unfold wp_X5_layersOf
  have b2 := (hP.1 q).2.2.1
  rw [show (5 : Int32) = nI 5 from rfl, pk_mul]
  refine lp_cnt (pd q 2) (fun k (_ : Unit) => (nI (fb_ct (fun k => decide (pd q (10 + k) = its)) k), nI (5 * q + k))) (fun _ _ => True) ?_ ?_ 0 () (by omega) trivial
  · rintro K k - hk - hK
    have hK := hK () trivial
    show wp_X5_layersOf_7 _ _ _ _ _ _ _ _
    unfold wp_X5_layersOf_7 wp_X5_layersOf_39
    dsimp only
    rw [show (5 : Int32) = nI 5 from rfl, pk_mul, nI_clamp (show q < 2147483648 by omega), r2 q hq, nI_add, nI_1 (5 * q + k), nI_clamp (by omega), rb q hq k (by omega)]
    refine ⟨in60 hq, nI_brl (by omega) (by omega) ?_⟩
    rw [if_neg (by omega)]
    have b := hP.2.1 q (10 + k)
    refine ⟨vp_in_nI (by omega) (by omega), nI_br (by omega) (by omega) ?_⟩
    rw [← cnt_bI] at hK
    split
    · rename_i e; rw [decide_eq_true e] at hK; exact hK
    · rename_i e; rw [decide_eq_false e] at hK; exact hK
  · rintro K - -
    show wp_X5_layersOf_7 _ _ _ _ _ _ _ _
    unfold wp_X5_layersOf_7
    dsimp only
    rw [show (5 : Int32) = nI 5 from rfl, pk_mul, nI_clamp (show q < 2147483648 by omega), r2 q hq, nI_add]
    refine ⟨in60 hq, nI_brl (by omega) (by omega) ?_⟩
    rw [if_pos (Nat.le_refl _)]
    exact h
def newb (heat b h : Nat) : Nat := if heat + 30 < h ∨ b = 2 then 2 else if heat ≤ h then 1 else b
def firP (pd : Nat → Nat → Nat) (q h m : Nat) : Nat → Nat → Nat := fun a j => if a = q ∧ 10 ≤ j ∧ j < 10 + m then newb (pd q (j - 5)) (pd q j) h else pd a j
def firN (pd : Nat → Nat → Nat) (q h m : Nat) : Nat := fb_ct (fun k => decide (pd q (5 + k) + 30 < h) && decide (¬ pd q (10 + k) = 2)) m
def fireC (n : Nat) (own : Nat → Nat) (p k : Int32) : Nat := if isP n own p then (if inR k 500 750 then 0 else 2) else 1
theorem firP_0 (pd : Nat → Nat → Nat) (q h : Nat) : firP pd q h 0 = pd := by
  funext a j
  unfold firP
  rw [if_neg (by omega)]
theorem firP_s (pd : Nat → Nat → Nat) (q h m : Nat) : firP pd q h (m + 1) = st2 (firP pd q h m) q (10 + m) (newb (pd q (5 + m)) (pd q (10 + m)) h) := by
  funext a j
  unfold st2
  split
  · rename_i e
    unfold firP
    rw [if_pos (by omega), e.2, show 10 + m - 5 = 5 + m by omega]
  · rename_i e
    unfold firP
    by_cases c : a = q ∧ 10 ≤ j ∧ j < 10 + m
    · rw [if_pos c, if_pos (by omega)]
    · rw [if_neg c, if_neg (by omega)]
theorem newb_lt {heat b h : Nat} (hb : b < 3) : newb heat b h < 3 := by
  unfold newb; split
  · omega
  · split <;> omega
theorem firP_inv {n : Nat} {pd : Nat → Nat → Nat} {q h : Nat} (hP : InvP n pd) (hq : q < n) : ∀ {m : Nat}, m ≤ 5 → InvP n (firP pd q h m)
  | 0, _ => by rw [firP_0]; exact hP
  | m + 1, hm => by
    rw [firP_s]
    have := newb_lt (heat := pd q (5 + m)) (h := h) (hP.2.2.2 q m (by omega))
    exact (firP_inv hP hq (m := m) (by omega)).st hq ⟨by omega, by omega, by omega, by omega, by omega, by omega, by omega⟩
theorem m_fire {n : Nat} {own : Nat → Nat} {pd : Nat → Nat → Nat} {many layers heat burnt things history : Nat → Int32} {t p k : Int32} {post : Int32 → Int32 → (Nat → Int32) → (Nat → Int32) → (Nat → Int32) → Prop}
    (hO : InvO n own) (hP : InvP n pd) (hm : ∀ p, p < 60 → many p = nI (cnt own p)) (r2 : RP layers pd 2) (r3 : RP things pd 3) (rq : RQ heat pd 5 5) (rb : RQ burnt pd 10 5) (rh : RQ history pd 15 20)
    (h0 : fireC n own p k ≠ 0 → post 0 (nI (fireC n own p k)) burnt things history)
    (h1 : fireC n own p k = 0 → isP n own p = true → inR k 500 750 = true → ∀ pd', pd' = noteP (firP pd (tN p) (tN k) (pd (tN p) 2)) (tN p) 5 → ∀ burnt' things' history', RQ burnt' pd' 10 5 → RP things' pd' 3 → RQ history' pd' 15 20 → post (nI (firN pd (tN p) (tN k) (pd (tN p) 2))) 0 burnt' things' history') : wp_X5_fire t (nI n) many layers heat burnt things history p k post := by
  unfold wp_X5_fire
  refine p_isPiece ⟨hO.1, hO.2.1⟩ hm ?_
  rw [bI_br]
  cases e1 : isP n own p
  · have : fireC n own p k = 1 := by unfold fireC; rw [e1]; rfl
    rw [this] at h0
    rw [if_neg (show ¬ false = true by decide)]
    exact p_gwN (by decide) ⟨fun _ => h0 (by decide), fun z => absurd rfl z⟩
  obtain ⟨q, hq, hq60, rfl, hpr⟩ := isP_t e1 hO.2.1
  rw [if_pos rfl]
  refine p_inR 500 750 (by omega) (by omega) ?_
  rw [bI_br]
  have e4 : fireC n own (nI q) k = if inR k 500 750 then 0 else 2 := by unfold fireC; rw [e1]; rfl
  rw [e4] at h0 h1
  cases e2 : inR k 500 750
  · rw [e2] at h0
    rw [if_neg (show ¬ false = true by decide)]
    exact p_gwN (by decide) ⟨fun _ => h0 (by decide), fun z => absurd rfl z⟩
  rw [e2] at h1
  obtain ⟨i, rfl, hi1, hi2⟩ := inR_t e2
  rw [tN_nI (by omega), tN_nI (by omega)] at h1
  rw [if_pos rfl]
  have b2 := (hP.1 q).2.2.1
  refine p_gw0 ⟨ne1, fun _ => ?_⟩
  rw [show (5 : Int32) = nI 5 from rfl, pk_mul]
  refine lp_cnt (pd q 2) (fun k (s : Nat → Int32) => (nI (firN pd q i k), nI (5 * q + k), (0 : Int32), s)) (fun k s => RQ s (firP pd q i k) 10 5) ?_ ?_ 0 burnt (by omega) (by rw [firP_0]; exact rb)
  · rintro K k bu hk hb hK
    show wp_X5_fire_49 _ _ _ _ _ _ _ _ _ _ _ _ _ _ _ _
    unfold wp_X5_fire_49
    dsimp only
    have hbk := hb q hq60 k (by omega)
    have e3 : firP pd q i k q (10 + k) = pd q (10 + k) := by unfold firP; rw [if_neg (by omega)]
    rw [e3] at hbk
    have vb := hP.2.2.2 q k (by omega)
    have vh := hP.2.1 q (5 + k)
    have hin : vp_in (nI (5 * q + k)) 300 := vp_in_nI (by omega) (by omega)
    rw [show (5 : Int32) = nI 5 from rfl, pk_mul, nI_clamp (show q < 2147483648 by omega), r2 q hq60, nI_add, nI_clamp (by omega), rq q hq60 k (by omega)]
    refine ⟨in60 hq60, nI_brl (by omega) (by omega) ?_⟩
    rw [if_neg (by omega)]
    have hN : firN pd q i (k + 1) = firN pd q i k + (if (decide (pd q (5 + k) + 30 < i) && decide (¬ pd q (10 + k) = 2)) = true then 1 else 0) := fb_ct_succ _ _
    have fin : ∀ v, v = newb (pd q (5 + k)) (pd q (10 + k)) i → wp_X5_fire_159 t (nI n) many layers heat burnt things history (nI q) (nI i) post (fun b0 b1 b2 b3 => K (b0, b1, b2, b3)) (nI (5 * q + k)) (nI v) (nI (firN pd q i (k + 1))) (nI (5 * q + k)) 0 bu := fun v hv => by
      unfold wp_X5_fire_159
      rw [nI_clamp (by omega), nI_1]
      refine ⟨hin, ?_⟩
      rintro _ rfl
      refine hK _ ?_
      rw [firP_s, ← hv]
      exact hb.upd (by omega)
    have le30 : (nI i - nI (pd q (5 + k)) ≤ 30) = ¬ (pd q (5 + k) + 30 < i) := by
      have t1 : (nI i).toInt = (i : Int) := nI_toInt (by omega)
      have t2 : (nI (pd q (5 + k))).toInt = (pd q (5 + k) : Int) := nI_toInt (by omega)
      rw [fa_le, fb_subI (by omega) (by omega), t1, t2, show (30 : Int32).toInt = 30 from rfl]
      exact propext (by omega)
    have lti : (nI i < nI (pd q (5 + k))) = (i < pd q (5 + k)) := by
      rw [fa_lt, nI_toInt (by omega), nI_toInt (by omega)]
      exact propext (by omega)
    have e108 : ∀ (x s : Nat), ((s = 1) ↔ pd q (5 + k) + 30 < i) → s ≤ 1 → firN pd q i k + x = firN pd q i (k + 1) → wp_X5_fire_108 t (nI n) many layers heat burnt things history (nI q) (nI i) post (fun b0 b1 b2 b3 => K (b0, b1, b2, b3)) (nI (firN pd q i k)) (nI x) (nI (5 * q + k)) (nI s) 0 bu := fun x s hs hs1 hx => by
      unfold wp_X5_fire_108
      rw [nI_add, hx, nI_clamp (by omega), hbk, rq q hq60 k (by omega), lti]
      refine nI_br (b := 0) (by omega) (by omega) ?_
      split
      · rename_i z
        refine ⟨hin, nI_br (b := 2) (by omega) (by omega) ?_⟩
        split
        · rename_i z2; exact fin 2 (by unfold newb; rw [if_pos (Or.inr z2)])
        · rename_i z2
          refine ⟨hin, fun z3 => ⟨hin, ?_⟩, fun z3 => ?_⟩
          · exact fin _ (by unfold newb; rw [if_neg (by omega), if_neg (by omega)])
          · exact fin 1 (by unfold newb; rw [if_neg (by omega), if_pos (by omega)])
      · rename_i z
        exact fin 2 (by unfold newb; rw [if_pos (by omega)])
    rw [le30]
    refine ⟨hin, fun z => ?_, fun z => ?_⟩
    · unfold wp_X5_fire_83
      refine ⟨fun _ => e108 0 0 (by omega) (by omega) ?_, fun z2 => absurd rfl z2⟩
      rw [hN, decide_eq_false z]; rfl
    · unfold wp_X5_fire_83
      rw [nI_clamp (by omega), hbk]
      refine ⟨ne1, fun _ => ⟨hin, nI_br (b := 2) (by omega) (by omega) ?_⟩⟩
      have z' : pd q (5 + k) + 30 < i := by omega
      rw [decide_eq_true z'] at hN
      split
      · rename_i z2
        exact e108 0 1 (by omega) (by omega) (by rw [hN, decide_eq_false (not_not_intro z2)]; rfl)
      · rename_i z2
        exact e108 1 1 (by omega) (by omega) (by rw [hN, decide_eq_true z2]; rfl)
  · rintro K bu hb
    show wp_X5_fire_49 _ _ _ _ _ _ _ _ _ _ _ _ _ _ _ _
    unfold wp_X5_fire_49
    dsimp only
    rw [show (5 : Int32) = nI 5 from rfl, pk_mul, nI_clamp (show q < 2147483648 by omega), r2 q hq60, nI_add]
    refine ⟨in60 hq60, nI_brl (by omega) (by omega) ?_⟩
    rw [if_pos (Nat.le_refl _)]
    have lo : ∀ a j, j < 10 ∨ 15 ≤ j → firP pd q i (pd q 2) a j = pd a j := fun a j hj => by unfold firP; rw [if_neg (by omega)]
    refine m_note (firP_inv hP hq b2) hq60 (fun a ha => ?_) (fun a ha j hj => ?_) fun t' h' a b => h1 rfl e1 rfl _ rfl _ _ _ (RQ.note hb (by omega)) a b
    · rw [lo _ _ (by omega)]; exact r3 a ha
    · rw [lo _ _ (by omega)]; exact rh a ha j hj
