/-! piece, bestLine -/
def ofP (own : Nat → Nat) (p : Nat) : Nat → Bool := fun c => decide (own c = p)
def pieC (n : Nat) (own : Nat → Nat) (p k : Int32) : Nat := if isP n own p then (if inR k 0 9 then 0 else 2) else 1
noncomputable def pieA (own : Nat → Nat) (pd : Nat → Nat → Nat) (q k : Nat) : Nat :=
  if k = 0 then cnt own q else if k = 1 then pd q 0 else if k = 2 then pd q 4 else if k = 3 then pd q 1 else if k = 4 then cutN (ofP own q) else if k = 5 then ext (ofP own q) true else if k = 6 then ext (ofP own q) false else if k = 7 then pd q 2 else layN pd q (k - 7)
theorem own_eq {n : Nat} {own : Nat → Nat} {of : Nat → Int32} (hO : InvO n own) (ho : ∀ c, c < 256 → of c = nI (own c)) {q : Nat} (hq : q < 60) : ∀ c, c < 256 → ofP own q c = decide (of c = nI q) := fun c hc => by
  have h1 := hO.2.2.1 c hc
  have h2 := hO.2.1
  unfold ofP
  rw [ho c hc]
  exact decide_eq_decide.mpr (nI_eq (by omega) (by omega)).symm
theorem m_piece {n : Nat} {own : Nat → Nat} {pd : Nat → Nat → Nat} {of many colour org state layers burnt set : Nat → Int32} {t p k : Int32} {post : Int32 → Int32 → (Nat → Int32) → Prop}
    (hO : InvO n own) (hP : InvP n pd) (ho : ∀ c, c < 256 → of c = nI (own c)) (hm : ∀ p, p < 60 → many p = nI (cnt own p)) (r0 : RP colour pd 0) (r4 : RP org pd 4) (r1 : RP state pd 1) (r2 : RP layers pd 2) (rb : RQ burnt pd 10 5)
    (h0 : pieC n own p k ≠ 0 → post 0 (nI (pieC n own p k)) set)
    (h1 : pieC n own p k = 0 → isP n own p = true → inR k 0 9 = true → ∀ set', post (nI (pieA own pd (tN p) (tN k))) 0 set') : wp_X5_piece t (nI n) of many colour org state layers burnt set p k post := by
  unfold wp_X5_piece
  refine p_isPiece ⟨hO.1, hO.2.1⟩ hm ?_
  rw [bI_br]
  cases e1 : isP n own p
  · have : pieC n own p k = 1 := by unfold pieC; rw [e1]; rfl
    rw [this] at h0
    rw [if_neg (show ¬ false = true by decide)]
    exact p_gwN (by decide) ⟨fun _ => h0 (by decide), fun z => absurd rfl z⟩
  obtain ⟨q, hq, hq60, rfl, hpr⟩ := isP_t e1 hO.2.1
  rw [if_pos rfl]
  refine p_inR 0 9 (by omega) (by omega) ?_
  rw [bI_br]
  have e4 : pieC n own (nI q) k = if inR k 0 9 then 0 else 2 := by unfold pieC; rw [e1]; rfl
  rw [e4] at h0 h1
  cases e2 : inR k 0 9
  · rw [e2] at h0
    rw [if_neg (show ¬ false = true by decide)]
    exact p_gwN (by decide) ⟨fun _ => h0 (by decide), fun z => absurd rfl z⟩
  rw [e2] at h1
  obtain ⟨i, rfl, hi1, hi2⟩ := inR_t e2
  rw [tN_nI (by omega), tN_nI (by omega)] at h1
  rw [if_pos rfl]
  have h1 := h1 rfl e1 rfl
  have heq := own_eq hO ho hq60
  have hOne : One (ofP own q) := hO.2.2.2 q hpr
  refine p_gw0 ⟨ne1, fun _ => ?_⟩
  refine m_setPiece (ofP own q) (fun c hc => ?_) fun s f => ?_
  · rw [heq c hc, decide_eq_true (nI_ne_m1 (d := c) (by omega)), Bool.and_true]
  have h1 := h1 s
  have ecn : fb_ct (ofP own q) 256 = cnt own q := rfl
  have b4 := (hP.1 q).2.2.2.2
  rw [ecn, nI_clamp (by omega), r0 q hq60, r4 q hq60, r1 q hq60, r2 q hq60]
  rw [show (0 : Int32) = nI 0 from rfl, show (1 : Int32) = nI 1 from rfl, show (2 : Int32) = nI 2 from rfl, show (3 : Int32) = nI 3 from rfl, show (4 : Int32) = nI 4 from rfl, show (5 : Int32) = nI 5 from rfl, show (6 : Int32) = nI 6 from rfl, show (7 : Int32) = nI 7 from rfl]
  have eqs : ∀ a, a < 8 → (nI i = nI a) = (i = a) := fun a ha => nI_inj (by omega) (by omega)
  rw [eqs 0 (by omega), eqs 1 (by omega), eqs 2 (by omega), eqs 3 (by omega), eqs 4 (by omega), eqs 5 (by omega), eqs 6 (by omega), eqs 7 (by omega)]
  unfold pieA at h1
  refine ⟨fun z => ?_, fun z => ⟨in60 hq60, ?_⟩, fun z => ⟨in60 hq60, ?_⟩, fun z => ⟨in60 hq60, ?_⟩, fun z => m_cut f ?_, fun z => ?_, fun z => ?_, fun z => ⟨in60 hq60, ?_⟩, fun z0 z1 z2 z3 z4 z5 z6 z7 => ?_⟩
  · subst z; exact h1
  · subst z; exact h1
  · subst z
    have h1 : post (nI (pd q 4)) 0 s := h1
    refine nI_br (by omega) (by omega) ?_
    split
    · rename_i e; rw [e] at h1; exact h1
    · rename_i e
      have : pd q 4 = 1 := by omega
      rw [this] at h1; exact h1
  · subst z; exact h1
  · subst z; exact h1
  · subst z; exact m_box (rows := true) heq hOne h1
  · subst z; exact m_box (rows := false) heq hOne h1
  · subst z; exact h1
  · rw [if_neg z0, if_neg z1, if_neg z2, if_neg z3, if_neg z4, if_neg z5, if_neg z6, if_neg z7] at h1
    rw [pk_sub (by omega)]
    exact m_layersOf hP hq60 (by omega) r2 rb h1
noncomputable def goodB (S : Nat → Bool) (line : Nat) : Bool := dP (One (sideS S line true)) && decide (cutN (sideS S line true) = 0) && dP (One (sideS S line false)) && decide (cutN (sideS S line false) = 0)
noncomputable def bestB (S : Nat → Bool) : Nat → Option Nat
  | 0 => none
  | k + 1 => if decide (k ≠ 15) && goodB S k then (match bestB S k with
    | none => some k
    | some b => if alN S k < alN S b then some k else some b) else bestB S k
def optI : Option Nat → Int32
  | none => -1
  | some b => nI b
theorem bestB_lt {S : Nat → Bool} : ∀ {k b : Nat}, bestB S k = some b → b < k
  | 0, b, h => by cases h
  | k + 1, b, h => by
    rw [bestB] at h
    split at h
    · split at h
      · injection h; omega
      · rename_i b' hb'
        have := bestB_lt hb'
        split at h <;> (injection h; omega)
    · have := bestB_lt h; omega
theorem cutN_3 (S : Nat → Bool) : cutN S < 3 := by
  unfold cutN; split
  · split <;> omega
  · omega
theorem m_bestLine {n : Nat} {own : Nat → Nat} {of many set seen pile : Nat → Int32} {t p : Int32} {post : Int32 → Int32 → (Nat → Int32) → (Nat → Int32) → (Nat → Int32) → Prop}
    (hO : InvO n own) (ho : ∀ c, c < 256 → of c = nI (own c)) (hm : ∀ p, p < 60 → many p = nI (cnt own p))
    (h0 : isP n own p = false → post 0 1 set seen pile)
    (h1 : isP n own p = true → ∀ set' seen' pile', post (optI (bestB (ofP own (tN p)) 31)) 0 set' seen' pile') : wp_X5_bestLine t (nI n) of many set seen pile p post := by
  unfold wp_X5_bestLine
  refine p_isPiece ⟨hO.1, hO.2.1⟩ hm ?_
  rw [bI_br]
  cases e1 : isP n own p
  · rw [if_neg (show ¬ false = true by decide)]
    exact p_gwN (by decide) ⟨fun _ => h0 e1, fun z => absurd rfl z⟩
  obtain ⟨q, hq, hq60, rfl, hpr⟩ := isP_t e1 hO.2.1
  have h1 := h1 e1
  rw [tN_nI (by omega)] at h1
  rw [if_pos rfl]
  have heq := own_eq hO ho hq60
  refine p_gw0 ⟨ne1, fun _ => ?_⟩
  obtain ⟨S, eS⟩ : ∃ S, S = ofP own q := ⟨_, rfl⟩
  rw [← eS] at h1 heq
  have hside : ∀ line b c, c < 256 → sideS S line b c = sideS (fun c => decide (of c = nI q)) line b c := fun line b c hc => by
    unfold sideS; rw [heq c hc]
  have hfill : ∀ {line b f}, fillB (sideS (fun c => decide (of c = nI q)) line b) 256 f → fillB (sideS S line b) 256 f := fun hf j hj => by rw [hf j hj, hside _ _ j hj]
  have hct : ∀ line b, fb_ct (sideS (fun c => decide (of c = nI q)) line b) 256 = fb_ct (sideS S line b) 256 := fun line b => fb_ct_cong fun c hc => (hside line b c hc).symm
  refine lp_cnt 31 (fun k (s : (Nat → Int32) × (Nat → Int32) × (Nat → Int32)) => (optI (bestB S k), nI k, (0 : Int32), s.1, s.2.1, s.2.2)) (fun _ _ => True) ?_ ?_ 0 (set, seen, pile) (by omega) trivial
  · rintro K k ⟨s1, s2, s3⟩ hk - hK
    show wp_X5_bestLine_26 _ _ _ _ _ _ _ _ _ _ _ _ _ _ _ _
    unfold wp_X5_bestLine_26
    dsimp only
    refine nI_brl (a := 31) (by omega) (by omega) ?_
    rw [if_neg (by omega)]
    have key : ∀ x1 x2 x3, wp_X5_bestLine_91 t (nI n) of many set seen pile (nI q) post (fun b0 b1 b2 b3 b4 b5 => K (b0, b1, b2, b3, b4, b5)) (bI (decide (k ≠ 15) && goodB S k)) (optI (bestB S k)) (nI k) 0 x1 x2 x3 := fun x1 x2 x3 => by
      unfold wp_X5_bestLine_91 wp_X5_bestLine_123
      have hK := hK (x1, x2, x3) trivial
      dsimp only at hK
      rw [bI_br, nI_1 k]
      rw [bestB] at hK
      split
      · rename_i g
        rw [if_pos g] at hK
        cases hb : bestB S k with
        | none =>
          rw [hb] at hK
          exact ⟨fun _ => hK, fun z => absurd rfl z⟩
        | some b =>
          rw [hb] at hK
          have hbk := bestB_lt hb
          dsimp only at hK
          refine ⟨fun z => absurd z (nI_ne_m1 (show b < 2147483648 by omega)), fun _ => ?_⟩
          refine m_along heq (by omega) (m_along heq (by omega) ?_)
          have a1 : alN S k ≤ 256 := fb_ct_le _ _
          have a2 : alN S b ≤ 256 := fb_ct_le _ _
          refine nI_brl (by omega) (by omega) ?_
          split
          · rw [if_neg (by omega)] at hK; exact hK
          · rw [if_pos (by omega)] at hK; exact hK
      · rename_i g
        rw [if_neg g] at hK
        exact hK
    refine nI_br (b := 15) (by omega) (by omega) ?_
    split
    · rename_i z
      have := key s1 s2 s3
      rw [decide_eq_false (show ¬ k ≠ 15 by omega)] at this
      exact this
    rename_i z
    rw [decide_eq_true z, Bool.true_and] at key
    unfold goodB at key
    refine m_side (b := true) (by omega) fun f1 g1 => ?_
    have g1 := hfill g1
    rw [hct, ct_le0]
    refine ⟨fun z => ?_, fun _ => ?_⟩
    · rw [one_ct z] at key; exact key _ _ _
    refine m_isOne _ g1 fun f2 f3 => ?_
    rw [bI_br]
    cases e2 : dP (One (sideS S k true)) <;> rw [e2] at key
    · exact key _ _ _
    rw [if_pos rfl]
    refine m_cut g1 ?_
    have c3 := cutN_3 (sideS S k true)
    refine nI_br (b := 0) (by omega) (by omega) ?_
    split
    case isFalse => rename_i z; rw [decide_eq_false z] at key; exact key _ _ _
    rename_i z
    rw [decide_eq_true z] at key
    refine m_side (b := false) (by omega) fun f4 g4 => ?_
    have g4 := hfill g4
    rw [hct, ct_le0]
    refine ⟨fun z => ?_, fun _ => ?_⟩
    · rw [one_ct z] at key; exact key _ _ _
    refine m_isOne _ g4 fun f5 f6 => ?_
    rw [bI_br]
    cases e3 : dP (One (sideS S k false)) <;> rw [e3] at key
    · exact key _ _ _
    rw [if_pos rfl]
    refine m_cut g4 ?_
    have c3 := cutN_3 (sideS S k false)
    refine nI_br (b := 0) (by omega) (by omega) ?_
    split
    · rename_i z; rw [decide_eq_true z] at key; exact key _ _ _
    · rename_i z; rw [decide_eq_false z] at key; exact key _ _ _
  · rintro K ⟨s1, s2, s3⟩ -
    show wp_X5_bestLine_26 _ _ _ _ _ _ _ _ _ _ _ _ _ _ _ _
    unfold wp_X5_bestLine_26
    dsimp only
    exact ⟨fun _ => h1 _ _ _, fun z => absurd (show (31 : Int32) ≤ nI 31 by decide) z⟩
