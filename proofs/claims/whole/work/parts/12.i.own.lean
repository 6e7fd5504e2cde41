/-! join and divide -/
def ownJ (own : Nat → Nat) (o p : Nat) : Nat → Nat := fun x => if own x = o then p else own x
def ownJk (own : Nat → Nat) (o p k : Nat) : Nat → Nat := fun x => if x < k then ownJ own o p x else own x
theorem cntJ_p {own : Nat → Nat} {o p : Nat} (h : p ≠ o) : cnt (ownJ own o p) p = cnt own p + cnt own o := by
  have := fb_ct_or (p := fun c => decide (own c = p)) (q := fun c => decide (own c = o)) (n := 256) (fun k _ ⟨h1, h2⟩ => by
    rw [decide_eq_true_iff] at h1 h2; omega)
  unfold cnt
  rw [← this]
  refine fb_ct_cong fun k _ => ?_
  unfold ownJ
  by_cases e : own k = o
  · rw [if_pos e, decide_eq_true e, Bool.or_true]; exact decide_eq_true rfl
  · rw [if_neg e, decide_eq_false e, Bool.or_false]
theorem cntJ_o {own : Nat → Nat} {o p : Nat} (h : p ≠ o) : cnt (ownJ own o p) o = 0 := by
  refine fb_ct_zero.mpr fun k _ => decide_eq_false ?_
  unfold ownJ
  split <;> omega
theorem cntJ_r {own : Nat → Nat} {o p r : Nat} (h1 : r ≠ o) (h2 : r ≠ p) : cnt (ownJ own o p) r = cnt own r := by
  refine fb_ct_cong fun k _ => decide_eq_decide.mpr ?_
  unfold ownJ
  split <;> omega
def adjB (own : Nat → Nat) (p o : Nat) : Bool := anyB (fun c => decide (own c = p) && besB own c o) 256
noncomputable def joinC (n : Nat) (own : Nat → Nat) (pd : Nat → Nat → Nat) (p o : Int32) : Nat :=
  if isP n own p && isP n own o then (if decide (tN p ≠ tN o) && adjB own (tN p) (tN o) && decide (pd (tN p) 4 = 0) && decide (pd (tN o) 4 = 0) then 0 else 2) else 1
theorem m_join {n : Nat} {own : Nat → Nat} {pd : Nat → Nat → Nat} {of many org things history : Nat → Int32} {t p o : Int32} {post : Int32 → Int32 → (Nat → Int32) → (Nat → Int32) → (Nat → Int32) → (Nat → Int32) → Prop}
    (hO : InvO n own) (hP : InvP n pd) (ho : RO of own) (hm : RN many own) (r4 : RP org pd 4) (r3 : RP things pd 3) (rh : RQ history pd 15 20)
    (h0 : joinC n own pd p o ≠ 0 → post 0 (nI (joinC n own pd p o)) of many things history)
    (h1 : joinC n own pd p o = 0 → isP n own p = true → isP n own o = true → ∀ of' many' pd', pd' = noteP (noteP pd (tN p) 2) (tN o) 2 → ∀ things' history', RO of' (ownJ own (tN o) (tN p)) → RN many' (ownJ own (tN o) (tN p)) → RP things' pd' 3 → RQ history' pd' 15 20 → post (nI (cnt (ownJ own (tN o) (tN p)) (tN p))) 0 of' many' things' history') : wp_X5_join t (nI n) of many org things history p o post := by
  have hn := hO.2.1
  have hlt : ∀ c, c < 256 → own c < 60 := fun c hc => by have := hO.2.2.1 c hc; omega
  have no : (isP n own p && isP n own o) = false → wp_X5_join_21 t (nI n) of many org things history p o post 0 := fun e => by
    have : joinC n own pd p o = 1 := by unfold joinC; rw [e]; rfl
    rw [this] at h0
    unfold wp_X5_join_21
    refine ⟨1, ?_⟩
    show wp_X5_join_28 _ _ _ _ _ _ _ _ _ _ _ _ _ _
    unfold wp_X5_join_28
    dsimp only
    have g : ∀ x4, wp_X5_join_79 t (nI n) of many org things history p o post 0 x4 := fun x4 => by
      unfold wp_X5_join_79 wp_X5_join_116 wp_X5_join_137
      refine ⟨fun _ => ⟨fun _ => ?_, fun z => absurd rfl z⟩, fun z => absurd rfl z⟩
      exact p_gwN (by decide) ⟨fun _ => h0 (by decide), fun z => absurd rfl z⟩
    exact ⟨fun _ => g _, fun _ => ⟨fun _ => g _, fun z => absurd rfl z⟩⟩
  unfold wp_X5_join
  refine p_isPiece ⟨hO.1, hO.2.1⟩ hm ?_
  rw [bI_br]
  cases e1 : isP n own p
  · rw [if_neg (show ¬ false = true by decide)]
    exact no (by rw [e1]; rfl)
  rw [if_pos rfl]
  refine p_isPiece ⟨hO.1, hO.2.1⟩ hm ?_
  rw [bI_br]
  cases e2 : isP n own o
  · rw [if_neg (show ¬ false = true by decide)]
    exact no (by rw [e2, Bool.and_false])
  rw [if_pos rfl]
  obtain ⟨a, ha, ha60, rfl, hpr⟩ := isP_t e1 hO.2.1
  obtain ⟨b, hb, hb60, rfl, hpr2⟩ := isP_t e2 hO.2.1
  rw [tN_nI (by omega), tN_nI (by omega)] at h1
  have eC : joinC n own pd (nI a) (nI b) = if decide (a ≠ b) && adjB own a b && decide (pd a 4 = 0) && decide (pd b 4 = 0) then 0 else 2 := by
    unfold joinC; rw [e1, e2, tN_nI (by omega), tN_nI (by omega)]; rfl
  rw [eC] at h0 h1
  unfold wp_X5_join_21
  obtain ⟨f, hf⟩ : ∃ f : Nat → Bool, f = (fun c => decide (own c = a) && besB own c b) := ⟨_, rfl⟩
  have hadj : adjB own a b = anyB f 256 := by rw [hf]; rfl
  rw [hadj] at h0 h1
  refine lp_cnt 256 (fun k (_ : Unit) => ((1 : Int32), bI (anyB f k), nI k)) (fun _ _ => True) ?_ ?_ 0 () (by omega) trivial
  · rintro K k - hk - hK
    have hK := hK () trivial
    show wp_X5_join_28 _ _ _ _ _ _ _ _ _ _ _ _ _ _
    unfold wp_X5_join_28 wp_X5_join_71
    dsimp only
    refine ⟨fun z => absurd z (lc_ge hk), fun _ => ⟨ne1, fun _ => ?_⟩⟩
    rw [bI_br, nI_1 k, lc_N (by omega), ho k hk]
    rw [anyB] at hK
    cases e : anyB f k <;> rw [e] at hK
    · rw [if_neg (show ¬ false = true by decide)]
      have hok := hlt k hk
      refine ⟨lc_in hk, nI_br (by omega) (by omega) ?_⟩
      have ef : f k = (decide (own k = a) && besB own k b) := by rw [hf]
      rw [ef] at hK
      split
      · rename_i z
        rw [decide_eq_true z] at hK
        refine m_isBeside ho hlt hk hb60 ?_
        rw [bI_br]
        cases e3 : besB own k b <;> rw [e3] at hK
        · exact hK
        · exact hK
      · rename_i z
        rw [decide_eq_false z] at hK
        exact hK
    · rw [if_pos rfl]; exact hK
  · rintro K - -
    show wp_X5_join_28 _ _ _ _ _ _ _ _ _ _ _ _ _ _
    unfold wp_X5_join_28
    dsimp only
    refine ⟨fun _ => ?_, fun z => absurd lc_end z⟩
    have bad : (if (decide (a ≠ b) && anyB f 256 && decide (pd a 4 = 0) && decide (pd b 4 = 0)) = true then 0 else 2) = 2 → wp_X5_join_116 t (nI n) of many org things history (nI a) (nI b) post 0 1 := fun e => by
      rw [e] at h0
      unfold wp_X5_join_116 wp_X5_join_137
      refine ⟨ne1, fun _ => ⟨fun _ => ?_, fun z => absurd rfl z⟩⟩
      exact p_gwN (by decide) ⟨fun _ => h0 (by decide), fun z => absurd rfl z⟩
    unfold wp_X5_join_79
    refine ⟨ne1, fun _ => nI_br (by omega) (by omega) ?_⟩
    split
    · rename_i z; exact bad (by rw [decide_eq_false (show ¬ a ≠ b by omega)]; rfl)
    rename_i hne
    rw [decide_eq_true (show a ≠ b from hne), Bool.true_and] at bad h1
    rw [bI_br]
    cases e3 : anyB f 256 <;> rw [e3] at bad h1
    · exact bad rfl
    rw [if_pos rfl, nI_clamp (by omega), nI_clamp (by omega), r4 a ha60, r4 b hb60]
    have b4a := (hP.1 a).2.2.2.2
    have b4b := (hP.1 b).2.2.2.2
    refine ⟨in60 ha60, nI_br (b := 0) (by omega) (by omega) ?_⟩
    split
    case isFalse => rename_i z; exact bad (by rw [decide_eq_false z]; rfl)
    rename_i z4
    rw [decide_eq_true z4] at bad h1
    refine ⟨in60 hb60, nI_br (b := 0) (by omega) (by omega) ?_⟩
    split
    case isFalse => rename_i z; exact bad (by rw [decide_eq_false z]; rfl)
    rename_i z5
    rw [decide_eq_true z5] at bad h1
    have h1 := h1 rfl e1 e2
    unfold wp_X5_join_116
    refine ⟨ne1, fun _ => ⟨ne1, fun _ => ?_⟩⟩
    unfold wp_X5_join_137
    refine p_gw0 ⟨ne1, fun _ => ?_⟩
    refine lp_cnt 256 (fun k (s : Nat → Int32) => (nI k, (0 : Int32), s)) (fun k s => RO s (ownJk own b a k)) ?_ ?_ 0 of (by omega) (fun c hc => by unfold ownJk; rw [if_neg (by omega)]; exact ho c hc)
    · rintro K k s hk hs hK
      show wp_X5_join_148 _ _ _ _ _ _ _ _ _ _ _ _ _ _
      unfold wp_X5_join_148 wp_X5_join_184
      dsimp only
      refine ⟨fun z => absurd z (lc_ge hk), fun _ => ⟨lc_in hk, ?_⟩⟩
      have hok := hlt k hk
      have esk : s k = nI (own k) := by rw [hs k hk]; unfold ownJk; rw [if_neg (by omega)]
      rw [lc_N (by omega), esk, nI_1 k]
      have up : RO (upd s k (nI (ownJ own b a k))) (ownJk own b a (k + 1)) := fun x hx => by
        unfold ownJk
        by_cases e : x = k
        · rw [e, upd_at, if_pos (by omega)]
        · rw [upd_ne _ _ e, hs x hx]
          unfold ownJk
          by_cases e2 : x < k
          · rw [if_pos e2, if_pos (by omega)]
          · rw [if_neg e2, if_neg (by omega)]
      unfold ownJ at up
      refine nI_br (by omega) (by omega) ?_
      split
      · rename_i z
        rw [if_pos z] at up
        refine ⟨lc_in hk, ?_⟩
        rintro _ rfl
        exact hK _ up
      · rename_i z
        rw [if_neg z] at up
        refine ⟨lc_in hk, lc_in hk, ?_⟩
        rintro _ rfl
        exact hK _ up
    · rintro K s hs
      show wp_X5_join_148 _ _ _ _ _ _ _ _ _ _ _ _ _ _
      unfold wp_X5_join_148
      dsimp only
      refine ⟨fun _ => ⟨in60 ha60, in60 hb60, in60 ha60, ?_⟩, fun z => absurd lc_end z⟩
      have hs' : RO s (ownJ own b a) := fun c hc => by rw [hs c hc]; unfold ownJk; rw [if_pos hc]
      rw [nI_clamp (by omega), nI_clamp (by omega), hm a ha60, hm b hb60, nI_add]
      rintro _ rfl
      refine ⟨in60 hb60, ?_⟩
      rintro _ rfl
      refine m_note (t := 2) hP ha60 r3 rh fun t1 g1 a1 b1 => ?_
      refine m_note (t := 2) (hP.note (t := 2) ha (by omega)) hb60 a1 b1 fun t2 g2 a2 b2 => ⟨in60 ha60, ?_⟩
      rw [upd_ne _ _ hne, upd_at, ← cntJ_p hne]
      refine h1 _ _ _ rfl _ _ hs' (fun r hr => ?_) a2 b2
      by_cases r1 : r = b
      · rw [r1, upd_at, cntJ_o hne]; rfl
      · rw [upd_ne _ _ r1]
        by_cases r2 : r = a
        · rw [r2, upd_at]
        · rw [upd_ne _ _ r2, cntJ_r r1 r2]; exact hm r hr
