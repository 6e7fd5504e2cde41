/-! the class: sheets, laid, waste -/
theorem lay1_lt {sw tall wide p k v : Nat} {L : LayS} (h1 : L.1 ≤ 60) (h2 : L.2.1 + L.2.2.1 ≤ 20) (h3 : L.2.2.2.1 ≤ 40) (h : (lay1 sw tall wide p L).2.2.2.2 k = some v) : L.2.2.2.2 k = some v ∨ v < 1000000 := by
  by_cases e : k = p
  · subst e
    unfold lay1 at h
    split at h
    · split at h
      · dsimp only at h; rw [setO_at] at h; right; injection h with h; omega
      · split at h
        · dsimp only at h; rw [setO_at] at h; right; injection h with h; omega
        · dsimp only at h; rw [setO_at] at h; right; injection h with h; omega
    · left; exact h
  · left
    rw [lay1_ne e] at h; exact h
def bdO (B : Nat) (f : Nat → Option Nat) : Prop := ∀ k v, f k = some v → v < B
theorem lay1_bd {sw tall wide p B : Nat} {L : LayS} (hB : ∀ x, x < 1000000 → x < B) (h1 : L.1 ≤ 60) (h2 : L.2.1 + L.2.2.1 ≤ 20) (h3 : L.2.2.2.1 ≤ 40) (h : bdO B L.2.2.2.2) : bdO B (lay1 sw tall wide p L).2.2.2.2 := fun k v e => by
  rcases lay1_lt h1 h2 h3 e with g | g
  · exact h k v g
  · exact hB v g
theorem lay_lt {own : Nat → Nat} {sw B : Nat} {Q : Nat → Nat} (hsw : sw ≤ 40) (hB : ∀ x, x < 1000000 → x < B) : ∀ m : Nat, m ≤ 60 → bdO B (layF own sw Q m).2.2.2.2 := by
  intro m
  induction m with
  | zero => exact fun _ k v h => absurd h.symm (Option.some_ne_none v)
  | succ m ih =>
    intro hm
    obtain ⟨v1, v2, v3⟩ := layF_inv (own := own) (Q := Q) hsw (k := m)
    rw [layF]
    exact lay1_bd hB (Nat.le_trans v1 (by omega)) v2 v3 (ih (by omega))
section LAY
variable {n cap : Nat} {own : Nat → Nat} {pd : Nat → Nat → Nat} {of wr : Nat → Int32} {el : Nat → Option Nat} {qc : Nat → Int32} {lq lh lw lsp : Nat → Int32} {lqd lsu lsb lsh lse : Int32}
theorem k_layColour {its sw : Nat} {post : (Nat → Int32) → (Nat → Int32) → (Nat → Int32) → (Nat → Int32) → (Nat → Int32) → Int32 → Int32 → Int32 → Int32 → Int32 → Prop} (hO : InvO n own) (hP : InvP n pd) (ho : RO of own) (hc : n ≤ cap) (hc2 : cap < 2147483648) (c0 : CP qc pd 0 n) (hi : its < 8) (hsw : sw ≤ 40)
    (h : ∀ m Q, QS n own pd its m Q → m ≤ 60 → ∀ w' a' b' d' sp' qd' sb' sh' se', (∀ p, p < 60 → sp' p = optI ((layF own sw Q m).2.2.2.2 p)) → post w' a' b' d' sp' qd' (nI (layF own sw Q m).1) sb' sh' se') : wp_X4_layColour cap n (nI sw) of el (nI n) wr lq lh lw lsp lqd lsu lsb lsh lse qc (nI its) post := by
  have hn := hO.2.1
  have hlt : ∀ c, c < 256 → own c < 60 := fun c hc => by have := hO.2.2.1 c hc; omega
  unfold wp_X4_layColour wp_X1_begin
  refine p_fill (by omega) fun sp0 hsp0 => ?_
  rintro _ rfl _ rfl
  refine lp_cnt n (fun k (t : (Nat → Int32) × (Nat → Int32) × (Nat → Int32) × (Nat → Int32) × (Nat → Int32) × Int32 × Int32) => (nI k, t)) (fun k t => (∃ m Q, m ≤ k ∧ QS k own pd its m Q ∧ rQ own m Q t.2.1 t.2.2.1 t.2.2.2.1 ∧ t.2.2.2.2.2.1 = nI m) ∧ (∀ p, p < 60 → t.2.2.2.2.1 p = -1) ∧ t.2.2.2.2.2.2 = 0) ?_ ?_ 0 (wr, lq, lh, lw, sp0, 0, 0) (by omega) ⟨⟨0, fun _ => 0, Nat.le_refl 0, ⟨fun i hi => absurd hi (Nat.not_lt_zero i), fun p hp => absurd hp (Nat.not_lt_zero p), fun i j _ hj => absurd hj (Nat.not_lt_zero j)⟩, ⟨fun i hi => absurd hi (Nat.not_lt_zero i), fun i hi => absurd hi (Nat.not_lt_zero i), fun i hi => absurd hi (Nat.not_lt_zero i)⟩, rfl⟩, hsp0, rfl⟩
  · rintro K k ⟨w, a, b, d, sp, qd, su⟩ hk ⟨⟨m, Q, hmk, hQ, hr, hqd⟩, hsp, hsu⟩ hK
    dsimp only at hr hqd hsp hsu
    subst hqd
    subst hsu
    show wp_X4_layColour_9 _ _ _ _ _ _ _ _ _ _ _ _ _ _ _ _ _ _ _ _ _ _ _ _ _ _ _ _
    unfold wp_X4_layColour_9 wp_Jx4a65c_size_8abf5
    dsimp only
    have skip : cand own pd its k = false → K (nI (k + 1), w, a, b, d, sp, nI m, 0) := fun e => hK (w, a, b, d, sp, nI m, 0) ⟨⟨m, Q, by omega, QS_skip hQ e, hr, rfl⟩, hsp, rfl⟩
    refine brle2 (by omega) (by omega) (fun z => absurd z (by omega)) (fun _ => k_get hn hc hc2 hk ⟨k, hk, rfl, ?_⟩)
    have b0 := (hP.1 k).1
    rw [c0 k hk, nI_1 k]
    refine breq2 (by omega) (by omega) (fun z => k_holds ho hlt (by omega) ?_) (fun z => skip ?_)
    · rw [bI_br]
      cases e : pres own k
      · rw [if_neg (by decide)]
        exact skip (by unfold cand; rw [e]; rfl)
      · rw [if_pos rfl]
        unfold wp_X4_shapeOf
        refine k_trace hO ho (by omega) fun w1 hw1 => k_height hw1 (k_width hw1 ?_)
        have ec : cand own pd its k = true := by unfold cand; rw [e, decide_eq_true z]; rfl
        exact k_enqueue hQ (by omega) hmk ec hr fun Q' f' h' w' hQ' hr' => hK (w1, f', h', w', sp, nI (m + 1), 0) ⟨⟨m + 1, Q', by omega, hQ', hr', rfl⟩, hsp, rfl⟩
    · unfold cand; rw [decide_eq_false z, Bool.and_false]
  · rintro K ⟨w, a, b, d, sp, qd, su⟩ ⟨⟨m, Q, hmk, hQ, hr, hqd⟩, hsp, hsu⟩
    dsimp only at hr hqd hsp hsu
    subst hqd
    subst hsu
    show wp_X4_layColour_9 _ _ _ _ _ _ _ _ _ _ _ _ _ _ _ _ _ _ _ _ _ _ _ _ _ _ _ _
    unfold wp_X4_layColour_9 wp_Jx4a65c_size_8abf5
    dsimp only
    refine ⟨fun _ => ?_, fun z => absurd (Int32.le_refl _) z⟩
    exact k_layAll hn (by omega) hsw hQ hr hsp fun sp' bo' he' en' hsp' => h m Q hQ (by omega) _ _ _ _ _ _ _ _ _ hsp'
theorem l_laid {sw : Nat} {p : Int32} {post : Int32 → (Nat → Int32) → (Nat → Int32) → (Nat → Int32) → (Nat → Int32) → (Nat → Int32) → Int32 → Int32 → Int32 → Int32 → Int32 → Prop} {px : String → (Nat → Int32) → (Nat → Int32) → (Nat → Int32) → (Nat → Int32) → (Nat → Int32) → Int32 → Int32 → Int32 → Int32 → Int32 → Prop} (hO : InvO n own) (hP : InvP n pd) (ho : RO of own) (hc : n ≤ cap) (hc2 : cap < 2147483648) (c0 : CP qc pd 0 n) (hsw : sw ≤ 40)
    (h0 : isP n own p = false → px xIOB wr lq lh lw lsp lqd lsu lsb lsh lse)
    (h1 : isP n own p = true → ∀ m Q, QS n own pd (pd (tN p) 0) m Q → m ≤ 60 → ∀ w' a' b' d' sp' qd' su' sb' sh' se', post (optI ((layF own sw Q m).2.2.2.2 (tN p))) w' a' b' d' sp' qd' su' sb' sh' se') : wp_X4_laid cap n (nI sw) of el (nI n) wr lq lh lw lsp lqd lsu lsb lsh lse qc p post px := by
  unfold wp_X4_laid
  refine k_thePiece hO ho hc hc2 h0 fun e => ?_
  have h1 := h1 e
  obtain ⟨q, hq, hq60, rfl, hpr⟩ := isP_t e hO.2.1
  rw [tN_nI (by omega)] at h1 ⊢
  rw [c0 q hq]
  exact k_layColour hO hP ho hc hc2 c0 (hP.1 q).1 hsw fun m Q hQ hm w' a' b' d' sp' qd' sb' sh' se' hsp => k_spotOf hq60 hsp (h1 m Q hQ hm _ _ _ _ _ _ _ _ _ _)
theorem cov_eq {its sw m : Nat} {Q : Nat → Nat} (hQ : QS n own pd its m Q) : ∀ k, k ≤ m → fb_sm (fun p => if (layF own sw Q k).2.2.2.2 p = none then 0 else cnt own p) n = covN own sw Q k := by
  intro k
  induction k with
  | zero =>
    intro _
    have e : (fun p => if (layF own sw Q 0).2.2.2.2 p = none then 0 else cnt own p) = fun _ => 0 := funext fun p => if_pos rfl
    rw [e, fb_sm_const]; rfl
  | succ k ih =>
    intro hk
    have ih := ih (by omega)
    have hq := (hQ.1 k (by omega)).1
    have hno : (layF own sw Q k).2.2.2.2 (Q k) = none := layF_no fun j hj e => bef_ne (hQ.2.2 j k hj (by omega)) e
    unfold covN at ih ⊢
    rw [fb_sm_succ _ k, ← ih]
    by_cases c : wid own (Q k) ≤ sw
    · rw [if_pos c]
      have e : (fun p => if (layF own sw Q (k + 1)).2.2.2.2 p = none then 0 else cnt own p) = fun p => if p = Q k then cnt own (Q k) else (if (layF own sw Q k).2.2.2.2 p = none then 0 else cnt own p) := by
        funext p
        by_cases g : p = Q k
        · rw [if_pos g, g, layF]
          unfold lay1
          rw [if_pos c]
          split
          · exact if_neg (fun z => by dsimp only at z; rw [setO_at] at z; cases z)
          · split
            · exact if_neg (fun z => by dsimp only at z; rw [setO_at] at z; cases z)
            · exact if_neg (fun z => by dsimp only at z; rw [setO_at] at z; cases z)
        · rw [if_neg g, layF, lay1_ne g]
      have u := fb_sm_upd (fun p => if (layF own sw Q k).2.2.2.2 p = none then 0 else cnt own p) (cnt own (Q k)) hq
      rw [← e] at u
      rw [if_pos hno] at u
      omega
    · rw [if_neg c, Nat.add_zero]
      have e : layF own sw Q (k + 1) = layF own sw Q k := by rw [layF]; unfold lay1; rw [if_neg c]
      rw [e, Nat.add_zero]
theorem l_waste {sw : Nat} {p : Int32} {post : Int32 → (Nat → Int32) → (Nat → Int32) → (Nat → Int32) → (Nat → Int32) → (Nat → Int32) → Int32 → Int32 → Int32 → Int32 → Int32 → Prop} {px : String → (Nat → Int32) → (Nat → Int32) → (Nat → Int32) → (Nat → Int32) → (Nat → Int32) → Int32 → Int32 → Int32 → Int32 → Int32 → Prop} (hO : InvO n own) (hP : InvP n pd) (ho : RO of own) (hc : n ≤ cap) (hc2 : cap < 2147483648) (c0 : CP qc pd 0 n) (hsw : sw ≤ 40)
    (h0 : inR p 0 7 = false → px xIAE wr lq lh lw lsp lqd lsu lsb lsh lse)
    (h1 : inR p 0 7 = true → ∀ m Q, QS n own pd (tN p) m Q → m ≤ 60 → ∀ w' a' b' d' sp' qd' su' sb' sh' se', post (iI ((layF own sw Q m).1 * 20 * sw - covN own sw Q m : Int)) w' a' b' d' sp' qd' su' sb' sh' se') : wp_X4_waste cap n (nI sw) of el (nI n) wr lq lh lw lsp lqd lsu lsb lsh lse qc p post px := by
  have hn := hO.2.1
  unfold wp_X4_waste
  refine k_testColour h0 fun e => ?_
  have h1 := h1 e
  obtain ⟨i, rfl, hi1, hi2⟩ := inR_t e
  rw [tN_nI (by omega)] at h1
  refine k_layColour hO hP ho hc hc2 c0 (by omega) hsw fun m Q hQ hm w' a' b' d' sp' qd' sb' sh' se' hsp => ?_
  have h1 := h1 m Q hQ hm
  rw [← cov_eq hQ m (Nat.le_refl m)] at h1
  obtain ⟨L, hL⟩ : ∃ L, L = layF own sw Q m := ⟨_, rfl⟩
  rw [← hL] at h1 hsp ⊢
  obtain ⟨F, hF⟩ : ∃ F : Nat → Nat, F = (fun p => if L.2.2.2.2 p = none then 0 else cnt own p) := ⟨_, rfl⟩
  rw [← hF] at h1
  have e0 : nI L.1 * 20 * nI sw = iI ((L.1 : Int) * 20 * (sw : Int)) := by
    rw [iI_nat, iI_nat, show (20 : Int32) = iI 20 from rfl, iI_mul, iI_mul]
  rw [e0]
  suffices g : lp (lF_X4_waste_27 cap n (nI sw) of el (nI n) wr lq lh lw lsp lqd lsu lsb lsh lse qc (nI i) post px) (iI ((L.1 : Int) * 20 * (sw : Int) - (fb_sm F 0 : Int)), nI 0, w', a', b', d', sp', qd', nI L.1, sb', sh', se') by
    have z : (L.1 : Int) * 20 * (sw : Int) - ((fb_sm F 0 : Nat) : Int) = (L.1 : Int) * 20 * (sw : Int) := Int.sub_zero _
    rw [z] at g; exact g
  refine lp_cnt n (fun k (w : Nat → Int32) => (iI ((L.1 : Int) * 20 * (sw : Int) - (fb_sm F k : Int)), nI k, w, a', b', d', sp', qd', nI L.1, sb', sh', se')) (fun _ _ => True) ?_ ?_ 0 w' (by omega) trivial
  · rintro K k w hk - hK
    have hK := fun w => hK w trivial
    show wp_X4_waste_27 _ _ _ _ _ _ _ _ _ _ _ _ _ _ _ _ _ _ _ _ _ _ _ _ _ _ _ _ _ _ _ _ _
    unfold wp_X4_waste_27 wp_Jx4a65c_size_8abf5
    dsimp only
    rw [fb_sm_succ] at hK
    refine brle2 (by omega) (by omega) (fun z => absurd z (by omega)) (fun _ => k_spotOf (L := L) (by omega) hsp ?_)
    rw [nI_1 k]
    have eF : F k = if L.2.2.2.2 k = none then 0 else cnt own k := by rw [hF]
    cases hs : L.2.2.2.2 k with
    | none =>
      rw [if_pos hs] at eF
      rw [eF, Nat.add_zero] at hK
      exact ⟨fun _ => hK w, fun z => absurd rfl z⟩
    | some v =>
      rw [if_neg (by rw [hs]; intro z; cases z)] at eF
      have hv : v < 2147483648 := by
        rw [hL] at hs
        exact lay_lt hsw (fun x hx => Nat.lt_trans hx (Nat.le_of_ble_eq_true rfl)) m hm k v hs
      refine ⟨fun z => absurd z (nI_ne_m1 hv), fun _ => ?_⟩
      unfold wp_X4_shapeOf
      refine k_trace hO ho (by omega) fun w1 hw1 => k_cellCount hw1 ?_
      have ec : fb_ct (ofP own k) 256 = F k := by rw [eF]; rfl
      rw [ec, iI_nat (F k), iI_sub]
      have e2 : (L.1 : Int) * 20 * (sw : Int) - (fb_sm F k : Int) - (F k : Int) = (L.1 : Int) * 20 * (sw : Int) - ((fb_sm F k + F k : Nat) : Int) := by
        rw [Int.natCast_add]; omega
      rw [e2]
      exact hK w1
  · rintro K w -
    show wp_X4_waste_27 _ _ _ _ _ _ _ _ _ _ _ _ _ _ _ _ _ _ _ _ _ _ _ _ _ _ _ _ _ _ _ _ _
    unfold wp_X4_waste_27 wp_Jx4a65c_size_8abf5
    dsimp only
    exact ⟨fun _ => h1 _ _ _ _ _ _ _ _ _ _, fun z => absurd (Int32.le_refl _) z⟩
end LAY
