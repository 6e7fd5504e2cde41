/-! the class: Leadlight's plain calls -/
def x123 (c : Nat) : String := if c = 1 then xIOB else if c = 2 then xIAE else xISE
def x13 (c : Nat) : String := if c = 1 then xIOB else xISE
def x12 (c : Nat) : String := if c = 1 then xIOB else xIAE
section OPS
variable {n cap : Nat} {own : Nat → Nat} {pd : Nat → Nat → Nat} {of : Nat → Int32} {el : Nat → Option Nat} {qc qs ql qt qo : Nat → Int32} {qh qf qth : Nat → Nat → Int32}
theorem l_colour {p k : Int32} {post : Int32 → (Nat → Int32) → (Nat → Int32) → (Nat → Nat → Int32) → Prop} {px : String → (Nat → Int32) → (Nat → Int32) → (Nat → Nat → Int32) → Prop} (hO : InvO n own) (hP : InvP n pd) (ho : RO of own) (hc : n ≤ cap) (hc2 : cap < 2147483648) (c0 : CP qc pd 0 n) (c3 : CP qt pd 3 n) (c4 : CP qo pd 4 n) (c15 : CQ qth pd 15 20 n)
    (h0 : colC n own pd p k ≠ 0 → px (x123 (colC n own pd p k)) qc qt qth)
    (h1 : colC n own pd p k = 0 → isP n own p = true → inR k 0 7 = true → ∀ qc' qt' qth', CP qc' (colP pd (tN p) (tN k)) 0 n → CP qt' (colP pd (tN p) (tN k)) 3 n → CQ qth' (colP pd (tN p) (tN k)) 15 20 n → post (nI (pd (tN p) 0)) qc' qt' qth') : wp_X4_colour cap n of el (nI n) qc qt qo qth p k post px := by
  unfold wp_X4_colour
  refine k_thePiece hO ho hc hc2 (fun e => ?_) (fun e => ?_)
  · have eC : colC n own pd p k = 1 := by unfold colC; rw [e]; rfl
    rw [eC] at h0; exact h0 (by decide)
  obtain ⟨q, hq, hq60, rfl, hpr⟩ := isP_t e hO.2.1
  rw [tN_nI (by omega)] at h1 ⊢
  refine k_testColour (fun e2 => ?_) (fun e2 => ?_)
  · have eC : colC n own pd (nI q) k = 2 := by unfold colC; rw [e, e2]; rfl
    rw [eC] at h0; exact h0 (by decide)
  obtain ⟨i, rfl, hi1, hi2⟩ := inR_t e2
  rw [tN_nI (by omega)] at h1
  have eC : colC n own pd (nI q) (nI i) = if pd q 4 = 0 then 0 else 3 := by unfold colC; rw [e, e2, tN_nI (by omega)]; rfl
  rw [eC] at h0 h1
  have b4 := (hP.1 q).2.2.2.2
  have b0 := (hP.1 q).1
  rw [c4 q hq, c0 q hq]
  refine breq2 (b := 0) (by omega) (by omega) (fun z => ?_) (fun z => ?_)
  · rw [if_pos z] at h1
    have h1 := h1 rfl e e2
    refine breq2 (by omega) (by omega) (fun z2 => ?_) (fun z2 => ?_)
    · have eP : colP pd q i = pd := if_pos z2
      rw [eP] at h1
      exact h1 _ _ _ c0 c3 c15
    · have eP : colP pd q i = noteP (st2 pd q 0 i) q 3 := if_neg z2
      rw [eP] at h1
      have hP2 : InvP n (st2 pd q 0 i) := hP.st hq ⟨by omega, by omega, by omega, by omega, by omega, by omega, by omega⟩
      exact k_note (t := 3) hP2 hq (c3.ne (by omega)) (c15.ne (by omega)) fun x y a3 a15 => h1 _ _ _ ((c0.up q i).note (by omega)) a3 a15
  · rw [if_neg z] at h0
    exact h0 (by decide)
theorem l_finish {post : Int32 → (Nat → Int32) → (Nat → Int32) → (Nat → Nat → Int32) → Prop} (hO : InvO n own) (hP : InvP n pd) (ho : RO of own) (hc : n ≤ cap) (hc2 : cap < 2147483648) (c3 : CP qt pd 3 n) (c4 : CP qo pd 4 n) (c15 : CQ qth pd 15 20 n)
    (h : ∀ qt' qo' qth', CP qt' (finP own pd n) 3 n → CP qo' (finP own pd n) 4 n → CQ qth' (finP own pd n) 15 20 n → post (nI (finN own pd n)) qt' qo' qth') : wp_X4_finish cap n of el (nI n) qt qo qth post := by
  have hn := hO.2.1
  have hlt : ∀ c, c < 256 → own c < 60 := fun c hc => by have := hO.2.2.1 c hc; omega
  unfold wp_X4_finish
  refine lp_cnt n (fun k (s : (Nat → Int32) × (Nat → Int32) × (Nat → Nat → Int32)) => (nI (finN own pd k), nI k, s)) (fun k s => CP s.1 (finP own pd k) 3 n ∧ CP s.2.1 (finP own pd k) 4 n ∧ CQ s.2.2 (finP own pd k) 15 20 n) ?_ ?_ 0 (qt, qo, qth) (by omega) ⟨c3, c4, c15⟩
  · rintro K k ⟨t, o, th⟩ hk ⟨a3, a4, a15⟩ hK
    dsimp only at a3 a4 a15
    show wp_X4_finish_4 _ _ _ _ _ _ _ _ _ _ _ _ _ _ _
    unfold wp_X4_finish_4 wp_Jx4a65c_size_8abf5
    dsimp only
    refine brle2 (by omega) (by omega) (fun z => absurd z (by omega)) (fun _ => k_get hn hc hc2 hk ⟨k, hk, rfl, ?_⟩)
    have b4 := (hP.1 k).2.2.2.2
    have hPk := finP_inv (own := own) hP (k := k) (by omega)
    have e4 : o k = nI (pd k 4) := by rw [a4 k hk, finP_ge (Nat.le_refl k)]
    rw [e4, nI_1 k]
    refine breq2 (b := 0) (by omega) (by omega) (fun z => k_holds ho hlt (by omega) ?_) (fun z => ?_)
    · rw [bI_br]
      cases e : pres own k
      · have eP : finP own pd (k + 1) = finP own pd k := by rw [finP, e]; rfl
        have eN : finN own pd (k + 1) = finN own pd k := by unfold finN; rw [fb_ct_succ, e]; rfl
        rw [if_neg (by decide), ← eN]
        exact hK (t, o, th) (by rw [eP]; exact ⟨a3, a4, a15⟩)
      · have eP : finP own pd (k + 1) = noteP (st2 (finP own pd k) k 4 1) k 6 := by rw [finP, e, decide_eq_true z]; rfl
        have eN : finN own pd (k + 1) = finN own pd k + 1 := by unfold finN; rw [fb_ct_succ, e, decide_eq_true z]; rfl
        rw [if_pos rfl, nI_1, ← eN]
        have hP2 : InvP n (st2 (finP own pd k) k 4 1) := hPk.st hk ⟨by omega, by omega, by omega, by omega, by omega, by omega, by omega⟩
        refine k_note (t := 6) hP2 hk (a3.ne (by omega)) (a15.ne (by omega)) fun x y g3 g15 => hK (_, _, _) ?_
        rw [eP]
        exact ⟨g3, CP.note (a4.up k 1) (by omega), g15⟩
    · have eP : finP own pd (k + 1) = finP own pd k := by rw [finP, decide_eq_false z, Bool.and_false]; rfl
      have eN : finN own pd (k + 1) = finN own pd k := by unfold finN; rw [fb_ct_succ, decide_eq_false z, Bool.and_false]; rfl
      rw [← eN]
      exact hK (t, o, th) (by rw [eP]; exact ⟨a3, a4, a15⟩)
  · rintro K ⟨t, o, th⟩ ⟨a3, a4, a15⟩
    show wp_X4_finish_4 _ _ _ _ _ _ _ _ _ _ _ _ _ _ _
    unfold wp_X4_finish_4 wp_Jx4a65c_size_8abf5
    dsimp only
    exact ⟨fun _ => h _ _ _ a3 a4 a15, fun z => absurd (Int32.le_refl _) z⟩
theorem l_heart {p : Int32} {hw : Nat} {post : Int32 → Int32 → Prop} {px : String → Int32 → Prop} (h0 : inR p 1 5 = false → px xIAE (nI hw)) (h1 : inR p 1 5 = true → post (nI hw) (nI (tN p))) : wp_X4_heart (nI hw) p post px := by
  unfold wp_X4_heart wp_X4_heart_10
  rw [fa_lt, show (1 : Int32).toInt = 1 from rfl, fa_le, show (5 : Int32).toInt = 5 from rfl]
  by_cases g : ((1 : Nat) : Int) ≤ p.toInt ∧ p.toInt ≤ ((5 : Nat) : Int)
  · have e : inR p 1 5 = true := decide_eq_true g
    have h1 := h1 e
    obtain ⟨k, rfl, hk1, hk2⟩ := inR_t e
    rw [tN_nI (by omega)] at h1
    refine ⟨fun z => absurd z (by omega), fun _ => ⟨fun _ => ?_, fun z => absurd z (by omega)⟩⟩
    rintro _ rfl
    exact h1
  · have h0 := h0 (decide_eq_false g)
    exact ⟨fun _ => h0, fun z => ⟨fun z2 => absurd ⟨by omega, by omega⟩ g, fun _ => h0⟩⟩
theorem l_sheet {p : Int32} {sw : Nat} {post : Int32 → Int32 → Prop} {px : String → Int32 → Prop} (h0 : inR p 4 40 = false → px xIAE (nI sw)) (h1 : inR p 4 40 = true → post (nI sw) (nI (tN p))) : wp_X4_sheet (nI sw) p post px := by
  unfold wp_X4_sheet wp_X4_sheet_11
  rw [fa_lt, show (4 : Int32).toInt = 4 from rfl, fa_le, show (40 : Int32).toInt = 40 from rfl]
  by_cases g : ((4 : Nat) : Int) ≤ p.toInt ∧ p.toInt ≤ ((40 : Nat) : Int)
  · have e : inR p 4 40 = true := decide_eq_true g
    have h1 := h1 e
    obtain ⟨k, rfl, hk1, hk2⟩ := inR_t e
    rw [tN_nI (by omega)] at h1
    refine ⟨fun z => absurd z (by omega), fun _ => ⟨fun _ => ?_, fun z => absurd z (by omega)⟩⟩
    rintro _ rfl
    exact h1
  · have h0 := h0 (decide_eq_false g)
    exact ⟨fun _ => h0, fun z => ⟨fun z2 => absurd ⟨by omega, by omega⟩ g, fun _ => h0⟩⟩
/-- the bars as bits -/
def rB (x : Int32) (bar : Nat → Bool) : Prop := ∀ i, i < 32 → bt x i = (decide (i < 15) && bar i)
theorem rB_ct {x : Int32} {bar : Nat → Bool} (h : rB x bar) : fb_ct (bt x) 32 = fb_ct bar 15 := by
  have e32 : fb_ct (bt x) 32 = fb_ct (bt x) 15 + fb_ct (fun k => bt x (15 + k)) 17 := fb_ct_split (bt x) 15 17
  have z : fb_ct (fun k => bt x (15 + k)) 17 = 0 := fb_ct_zero.mpr fun k hk => by rw [h _ (by omega), decide_eq_false (by omega)]; rfl
  have e : fb_ct (bt x) 15 = fb_ct bar 15 := fb_ct_cong fun i hi => by rw [h i (by omega), decide_eq_true hi, Bool.true_and]
  rw [e32, z, e, Nat.add_zero]
theorem k_hasBar {x : Int32} {bar : Nat → Bool} {r : Nat} {post : Int32 → Prop} (h : rB x bar) (hr : r < 32) (hp : post (bI (decide (r < 15) && bar r))) : wp_X4_hasBar x (nI r) post := by
  unfold wp_X4_hasBar
  rw [b_at1 x hr, bI_br, h r hr]
  cases e : (decide (r < 15) && bar r) <;> rw [e] at hp <;> exact hp
theorem l_bar {p x : Int32} {bar : Nat → Bool} {post : Int32 → Int32 → Prop} {px : String → Int32 → Prop} (hx : rB x bar) (hb5 : fb_ct bar 15 ≤ 5) (h0 : barC bar p ≠ 0 → px (x13 (barC bar p)) x)
    (h1 : barC bar p = 0 → inR p 0 14 = true → ∀ x', rB x' (flip bar (tN p)) → post (bI (bar (tN p))) x') : wp_X4_bar x p post px := by
  unfold wp_X4_bar
  refine k_testRowLine (fun e => ?_) (fun e => ?_)
  · have eC : barC bar p = 1 := by unfold barC; rw [e]; rfl
    rw [eC] at h0; exact h0 (by decide)
  obtain ⟨k, rfl, hk1, hk2⟩ := inR_t e
  rw [tN_nI (by omega)] at h1
  have eC : barC bar (nI k) = if !bar k && decide (fb_ct bar 15 = 5) then 2 else 0 := by unfold barC; rw [e, tN_nI (by omega)]; rfl
  rw [eC] at h0 h1
  refine k_hasBar hx (by omega) ?_
  rw [decide_eq_true (show k < 15 by omega), Bool.true_and, bI_br]
  have put : ∀ b : Bool, b = bar k → (if (!bar k && decide (fb_ct bar 15 = 5)) = true then 2 else 0) = 0 → wp_X4_bar_35 x (nI k) post px (bI b) := fun b hb g => by
    unfold wp_X4_bar_35
    rintro _ rfl
    refine ⟨bI_01 b, ?_⟩
    rw [hb]
    refine h1 g e _ fun i hi => ?_
    have one : bt ((1 : Int32) <<< (nI k &&& 31)) i = decide (i = k) := by
      have e1 : ∀ i, i < 32 → bt 1 i = decide (i = 0) := by decide +kernel
      rw [b_shl k (by omega) _ hi]
      by_cases c : k ≤ i
      · rw [decide_eq_true c, e1 _ (by omega), Bool.true_and]
        exact decide_eq_decide.mpr (by omega)
      · rw [decide_eq_false c, decide_eq_false (show ¬ i = k by omega)]; rfl
    rw [b_xor, hx i hi, one]
    unfold flip
    by_cases c : i = k
    · subst c; rw [decide_eq_true rfl, if_pos rfl, decide_eq_true (show i < 15 by omega)]; simp
    · rw [decide_eq_false c, if_neg c]; simp
  cases eb : bar k
  · rw [if_neg (by decide)]
    rw [eb] at put h0
    refine pc_w ?_
    rw [rB_ct hx]
    refine brlt2 (b := 5) (by omega) (by omega) (fun z => put false rfl ?_) (fun z => ?_)
    · rw [decide_eq_false (show ¬ fb_ct bar 15 = 5 by omega)]; rfl
    · rw [decide_eq_true (show fb_ct bar 15 = 5 by omega)] at h0
      exact h0 (by decide)
  · rw [if_pos rfl]
    rw [eb] at put
    exact put true rfl rfl
theorem l_paint {p k : Int32} {post : Int32 → (Nat → Int32) → (Nat → Int32) → (Nat → Nat → Int32) → (Nat → Nat → Int32) → (Nat → Nat → Int32) → Prop} {px : String → (Nat → Int32) → (Nat → Int32) → (Nat → Nat → Int32) → (Nat → Nat → Int32) → (Nat → Nat → Int32) → Prop} (hO : InvO n own) (hP : InvP n pd) (ho : RO of own) (hc : n ≤ cap) (hc2 : cap < 2147483648) (c2 : CP ql pd 2 n) (c3 : CP qt pd 3 n) (c5 : CQ qh pd 5 5 n) (c10 : CQ qf pd 10 5 n) (c15 : CQ qth pd 15 20 n)
    (h0 : paintC n own pd p k ≠ 0 → px (x123 (paintC n own pd p k)) ql qt qh qf qth)
    (h1 : paintC n own pd p k = 0 → isP n own p = true → inR k 500 700 = true → ∀ pd', pd' = paintP pd (tN p) (tN k) → ∀ ql' qt' qh' qf' qth', CP ql' pd' 2 n → CP qt' pd' 3 n → CQ qh' pd' 5 5 n → CQ qf' pd' 10 5 n → CQ qth' pd' 15 20 n → post (nI (pd (tN p) 2 + 1)) ql' qt' qh' qf' qth') : wp_X4_paint cap n of el (nI n) ql qt qh qf qth p k post px := by
  unfold wp_X4_paint wp_X4_paint_20
  refine k_thePiece hO ho hc hc2 (fun e => ?_) (fun e => ?_)
  · have eC : paintC n own pd p k = 1 := by unfold paintC; rw [e]; rfl
    rw [eC] at h0; exact h0 (by decide)
  obtain ⟨q, hq, hq60, rfl, hpr⟩ := isP_t e hO.2.1
  rw [tN_nI (by omega)] at h1 ⊢
  have eC : paintC n own pd (nI q) k = if inR k 500 700 then (if pd q 2 = 5 then 3 else 0) else 2 := by unfold paintC; rw [e, tN_nI (by omega)]; rfl
  rw [eC] at h0 h1
  rw [fa_lt, show (500 : Int32).toInt = 500 from rfl, fa_le, show (700 : Int32).toInt = 700 from rfl]
  by_cases g : ((500 : Nat) : Int) ≤ k.toInt ∧ k.toInt ≤ ((700 : Nat) : Int)
  · have e2 : inR k 500 700 = true := decide_eq_true g
    rw [e2, if_pos rfl] at h0 h1
    obtain ⟨i, rfl, hi1, hi2⟩ := inR_t e2
    rw [tN_nI (by omega)] at h1
    refine ⟨fun z => absurd z (by omega), fun _ => ⟨fun _ => ?_, fun z => absurd z (by omega)⟩⟩
    have b2 := (hP.1 q).2.2.1
    rw [c2 q hq]
    refine brlt2 (b := 5) (by omega) (by omega) (fun z => ?_) (fun z => ?_)
    · rw [if_neg (by omega)] at h1
      have h1 := h1 rfl e rfl _ rfl
      rw [← c2 q hq]
      refine k_addLayer hP hq (by omega) hq c2 c3 c5 c10 c15 z fun a b c y w g2 gy g3 g5 g10 g15 => ?_
      have := h1 _ _ _ _ _ g2 g3 g5 g10 g15
      rw [vu_at, gy]
      rw [gy] at this
      exact this
    · rw [if_pos (by omega)] at h0
      exact h0 (by decide)
  · have e2 : inR k 500 700 = false := decide_eq_false g
    rw [e2, if_neg (by decide)] at h0
    have h0 := h0 (by decide)
    exact ⟨fun _ => h0, fun z => ⟨fun z2 => absurd ⟨by omega, by omega⟩ g, fun _ => h0⟩⟩
theorem l_fire {p k : Int32} {post : Int32 → (Nat → Int32) → (Nat → Nat → Int32) → (Nat → Nat → Int32) → Prop} {px : String → (Nat → Int32) → (Nat → Nat → Int32) → (Nat → Nat → Int32) → Prop} (hO : InvO n own) (hP : InvP n pd) (ho : RO of own) (hc : n ≤ cap) (hc2 : cap < 2147483648) (c2 : CP ql pd 2 n) (c3 : CP qt pd 3 n) (c5 : CQ qh pd 5 5 n) (c10 : CQ qf pd 10 5 n) (c15 : CQ qth pd 15 20 n)
    (h0 : fireC n own p k ≠ 0 → px (x12 (fireC n own p k)) qt qf qth)
    (h1 : fireC n own p k = 0 → isP n own p = true → inR k 500 750 = true → ∀ pd', pd' = noteP (firP pd (tN p) (tN k) (pd (tN p) 2)) (tN p) 5 → ∀ qt' qf' qth', CP qt' pd' 3 n → CQ qf' pd' 10 5 n → CQ qth' pd' 15 20 n → post (nI (firN pd (tN p) (tN k) (pd (tN p) 2))) qt' qf' qth') : wp_X4_fire cap n of el (nI n) ql qt qh qf qth p k post px := by
  unfold wp_X4_fire wp_X4_fire_20
  refine k_thePiece hO ho hc hc2 (fun e => ?_) (fun e => ?_)
  · have eC : fireC n own p k = 1 := by unfold fireC; rw [e]; rfl
    rw [eC] at h0; exact h0 (by decide)
  obtain ⟨q, hq, hq60, rfl, hpr⟩ := isP_t e hO.2.1
  rw [tN_nI (by omega)] at h1 ⊢
  have eC : fireC n own (nI q) k = if inR k 500 750 then 0 else 2 := by unfold fireC; rw [e]; rfl
  rw [eC] at h0 h1
  rw [fa_lt, show (500 : Int32).toInt = 500 from rfl, fa_le, show (750 : Int32).toInt = 750 from rfl]
  by_cases g : ((500 : Nat) : Int) ≤ k.toInt ∧ k.toInt ≤ ((750 : Nat) : Int)
  · have e2 : inR k 500 750 = true := decide_eq_true g
    rw [e2, if_pos rfl] at h1
    obtain ⟨i, rfl, hi1, hi2⟩ := inR_t e2
    rw [tN_nI (by omega)] at h1
    refine ⟨fun z => absurd z (by omega), fun _ => ⟨fun _ => ?_, fun z => absurd z (by omega)⟩⟩
    have h1 := h1 rfl e rfl _ rfl
    exact k_bearHeat hP hq (by omega) (by omega) hq c2 c3 c5 c10 c15 fun b c z g3 g10 g15 => h1 _ _ _ g3 g10 g15
  · have e2 : inR k 500 750 = false := decide_eq_false g
    rw [e2, if_neg (by decide)] at h0
    have h0 := h0 (by decide)
    exact ⟨fun _ => h0, fun z => ⟨fun z2 => absurd ⟨by omega, by omega⟩ g, fun _ => h0⟩⟩
theorem l_crack {c : Int32} {post : Int32 → (Nat → Int32) → (Nat → Int32) → (Nat → Nat → Int32) → Prop} {px : String → (Nat → Int32) → (Nat → Int32) → (Nat → Nat → Int32) → Prop} (hO : InvO n own) (hP : InvP n pd) (ho : RO of own) (hc : n ≤ cap) (hc2 : cap < 2147483648) (c1 : CP qs pd 1 n) (c3 : CP qt pd 3 n) (c15 : CQ qth pd 15 20 n)
    (h0 : isC c = false → px xIOB qs qt qth)
    (h1 : isC c = true → ∀ q, q = own (tN c) → ∀ pd', pd' = noteP (st2 pd q 1 1) q 7 → ∀ qs' qt' qth', CP qs' pd' 1 n → CP qt' pd' 3 n → CQ qth' pd' 15 20 n → post (nI q) qs' qt' qth') : wp_X4_crack cap n of el (nI n) qs qt qth c post px := by
  unfold wp_X4_crack
  refine k_theOwner ho h0 fun e => ?_
  have h1 := h1 e _ rfl _ rfl
  obtain ⟨i, rfl, hi⟩ := isC_t e
  rw [tN_nI (by omega)] at h1 ⊢
  have hq := hO.2.2.1 i hi
  have hn := hO.2.1
  have e1 : isP n own (nI (own i)) = true := by rw [isP_nI hq hn]; exact decide_eq_true (cnt_pos hi)
  refine k_thePiece hO ho hc hc2 (fun e2 => by rw [e1] at e2; exact absurd e2 (by decide)) (fun _ => ?_)
  rw [tN_nI (by omega)]
  have hP2 : InvP n (st2 pd (own i) 1 1) := hP.st hq ⟨by omega, by omega, by omega, by omega, by omega, by omega, by omega⟩
  exact k_note (t := 7) hP2 hq (c3.ne (by omega)) (c15.ne (by omega)) fun x y a3 a15 => h1 _ _ _ ((c1.up _ 1).note (by omega)) a3 a15
theorem k_broken {post : Int32 → Prop} (hO : InvO n own) (hP : InvP n pd) (ho : RO of own) (hc : n ≤ cap) (hc2 : cap < 2147483648) (c1 : CP qs pd 1 n) (h : post (nI (brk own pd n))) : wp_X4_brokenPieces cap n of el (nI n) qs post := by
  have hn := hO.2.1
  have hlt : ∀ c, c < 256 → own c < 60 := fun c hc => by have := hO.2.2.1 c hc; omega
  unfold wp_X4_brokenPieces
  refine lp_cnt n (fun k (_ : Unit) => (nI (brk own pd k), nI k)) (fun _ _ => True) ?_ ?_ 0 () (by omega) trivial
  · rintro K k - hk - hK
    have hK := hK () trivial
    show wp_X4_brokenPieces_4 _ _ _ _ _ _ _ _ _ _
    unfold wp_X4_brokenPieces_4 wp_Jx4a65c_size_8abf5
    dsimp only
    refine brle2 (by omega) (by omega) (fun z => absurd z (by omega)) (fun _ => k_get hn hc hc2 hk ⟨k, hk, rfl, ?_⟩)
    have b1 := (hP.1 k).2.1
    rw [c1 k hk, nI_1 k]
    unfold brk at hK
    rw [fb_ct_succ] at hK
    refine breq2 (b := 1) (by omega) (by omega) (fun z => k_holds ho hlt (by omega) ?_) (fun z => ?_)
    · rw [bI_br]
      rw [decide_eq_true z, Bool.and_true] at hK
      cases e : pres own k
      · rw [e] at hK; exact hK
      · rw [e, if_pos rfl] at hK; rw [if_pos rfl, nI_1]; exact hK
    · rw [decide_eq_false z, Bool.and_false] at hK; exact hK
  · rintro K - -
    show wp_X4_brokenPieces_4 _ _ _ _ _ _ _ _ _ _
    unfold wp_X4_brokenPieces_4 wp_Jx4a65c_size_8abf5
    exact ⟨fun _ => h, fun z => absurd (Int32.le_refl _) z⟩
theorem l_mend {p : Int32} {post : Int32 → (Nat → Int32) → (Nat → Int32) → (Nat → Nat → Int32) → Prop} {px : String → (Nat → Int32) → (Nat → Int32) → (Nat → Nat → Int32) → Prop} (hO : InvO n own) (hP : InvP n pd) (ho : RO of own) (hc : n ≤ cap) (hc2 : cap < 2147483648) (c1 : CP qs pd 1 n) (c3 : CP qt pd 3 n) (c15 : CQ qth pd 15 20 n)
    (h0 : mendC n own pd p ≠ 0 → px (x13 (mendC n own pd p)) qs qt qth)
    (h1 : mendC n own pd p = 0 → isP n own p = true → ∀ pd', pd' = noteP (st2 pd (tN p) 1 2) (tN p) 8 → ∀ qs' qt' qth', CP qs' pd' 1 n → CP qt' pd' 3 n → CQ qth' pd' 15 20 n → post (nI (brk own pd' n)) qs' qt' qth') : wp_X4_mend cap n of el (nI n) qs qt qth p post px := by
  unfold wp_X4_mend
  refine k_thePiece hO ho hc hc2 (fun e => ?_) (fun e => ?_)
  · have eC : mendC n own pd p = 1 := by unfold mendC; rw [e]; rfl
    rw [eC] at h0; exact h0 (by decide)
  obtain ⟨q, hq, hq60, rfl, hpr⟩ := isP_t e hO.2.1
  rw [tN_nI (by omega)] at h1 ⊢
  have eC : mendC n own pd (nI q) = if pd q 1 = 1 then 0 else 2 := by unfold mendC; rw [e, tN_nI (by omega)]; rfl
  rw [eC] at h0 h1
  have b1 := (hP.1 q).2.1
  rw [c1 q hq]
  refine breq2 (b := 1) (by omega) (by omega) (fun z => ?_) (fun z => ?_)
  · rw [if_pos z] at h1
    have h1 := h1 rfl e _ rfl
    have hP2 : InvP n (st2 pd q 1 2) := hP.st hq ⟨by omega, by omega, by omega, by omega, by omega, by omega, by omega⟩
    refine k_note (t := 8) hP2 hq (c3.ne (by omega)) (c15.ne (by omega)) fun x y a3 a15 => ?_
    have a1 : CP (va_up qs q (nI 2)) (noteP (st2 pd q 1 2) q 8) 1 n := (c1.up q 2).note (by omega)
    exact k_broken hO (hP2.note (t := 8) hq (by omega)) ho hc hc2 a1 (h1 _ _ _ a1 a3 a15)
  · rw [if_neg z] at h0
    exact h0 (by decide)
theorem l_replace {p k : Int32} {post : Int32 → (Nat → Int32) → (Nat → Int32) → (Nat → Int32) → (Nat → Int32) → (Nat → Int32) → (Nat → Nat → Int32) → Prop} {px : String → (Nat → Int32) → (Nat → Int32) → (Nat → Int32) → (Nat → Int32) → (Nat → Int32) → (Nat → Nat → Int32) → Prop} (hO : InvO n own) (hP : InvP n pd) (ho : RO of own) (hc : n ≤ cap) (hc2 : cap < 2147483648) (c0 : CP qc pd 0 n) (c1 : CP qs pd 1 n) (c2 : CP ql pd 2 n) (c3 : CP qt pd 3 n) (c4 : CP qo pd 4 n) (c15 : CQ qth pd 15 20 n)
    (h0 : replC n own pd p k ≠ 0 → px (x123 (replC n own pd p k)) qc qs ql qt qo qth)
    (h1 : replC n own pd p k = 0 → isP n own p = true → inR k 0 7 = true → ∀ pd', pd' = replP pd (tN p) (tN k) → ∀ qc' qs' ql' qt' qo' qth', CP qc' pd' 0 n → CP qs' pd' 1 n → CP ql' pd' 2 n → CP qt' pd' 3 n → CP qo' pd' 4 n → CQ qth' pd' 15 20 n → post (nI (pd (tN p) 0)) qc' qs' ql' qt' qo' qth') : wp_X4_replace cap n of el (nI n) qc qs ql qt qo qth p k post px := by
  unfold wp_X4_replace
  refine k_thePiece hO ho hc hc2 (fun e => ?_) (fun e => ?_)
  · have eC : replC n own pd p k = 1 := by unfold replC; rw [e]; rfl
    rw [eC] at h0; exact h0 (by decide)
  obtain ⟨q, hq, hq60, rfl, hpr⟩ := isP_t e hO.2.1
  rw [tN_nI (by omega)] at h1 ⊢
  refine k_testColour (fun e2 => ?_) (fun e2 => ?_)
  · have eC : replC n own pd (nI q) k = 2 := by unfold replC; rw [e, e2]; rfl
    rw [eC] at h0; exact h0 (by decide)
  obtain ⟨i, rfl, hi1, hi2⟩ := inR_t e2
  rw [tN_nI (by omega)] at h1
  have eC : replC n own pd (nI q) (nI i) = if pd q 4 = 0 then 0 else if pd q 1 = 1 then 0 else 3 := by unfold replC; rw [e, e2, tN_nI (by omega)]; rfl
  rw [eC] at h0 h1
  have b4 := (hP.1 q).2.2.2.2
  have b1 := (hP.1 q).2.1
  have go : (if pd q 4 = 0 then 0 else if pd q 1 = 1 then 0 else 3) = 0 → wp_X4_replace_35 cap n of el (nI n) qc qs ql qt qo qth (nI q) (nI i) post px q := fun g => by
    have h1 := h1 g e e2 _ rfl
    unfold wp_X4_replace_35 wp_X2_makeAnew
    rintro _ rfl _ rfl _ rfl _ rfl
    have hP2 : InvP n (st2 (st2 (st2 (st2 pd q 0 i) q 1 0) q 4 0) q 2 0) := (((hP.st hq ⟨by omega, by omega, by omega, by omega, by omega, by omega, by omega⟩).st hq ⟨by omega, by omega, by omega, by omega, by omega, by omega, by omega⟩).st hq ⟨by omega, by omega, by omega, by omega, by omega, by omega, by omega⟩).st hq ⟨by omega, by omega, by omega, by omega, by omega, by omega, by omega⟩
    refine k_note (t := 9) hP2 hq ((((c3.ne (by omega)).ne (by omega)).ne (by omega)).ne (by omega)) ((((c15.ne (by omega)).ne (by omega)).ne (by omega)).ne (by omega)) fun x y a3 a15 => ?_
    rw [c0 q hq]
    refine h1 _ _ _ _ _ _ ?_ ?_ ?_ a3 ?_ a15
    · exact ((((c0.up q i).ne (by omega)).ne (by omega)).ne (by omega)).note (by omega)
    · exact ((((c1.ne (by omega)).up q 0).ne (by omega)).ne (by omega)).note (by omega)
    · exact ((((c2.ne (by omega)).ne (by omega)).ne (by omega)).up q 0).note (by omega)
    · exact ((((c4.ne (by omega)).ne (by omega)).up q 0).ne (by omega)).note (by omega)
  rw [c4 q hq, c1 q hq]
  refine breq2 (b := 0) (by omega) (by omega) (fun z => go (if_pos z)) (fun z => breq2 (b := 1) (by omega) (by omega) (fun z2 => go (by rw [if_neg z, if_pos z2])) (fun z2 => ?_))
  rw [if_neg z, if_neg z2] at h0
  exact h0 (by decide)
theorem l_pieceOf {c : Int32} {post : Int32 → Prop} {px : String → Prop} (ho : RO of own) (h0 : isC c = false → px xIOB) (h1 : isC c = true → post (nI (own (tN c)))) : wp_X4_pieceOf of c post px := by
  unfold wp_X4_pieceOf
  exact k_theOwner ho h0 h1
theorem l_isShut {post : Int32 → Prop} (hO : InvO n own) (hP : InvP n pd) (ho : RO of own) (hc : n ≤ cap) (hc2 : cap < 2147483648) (c1 : CP qs pd 1 n) (h : post (bI (decide (brk own pd n = 0)))) : wp_X4_isShut cap n of el (nI n) qs post := by
  unfold wp_X4_isShut
  have b : brk own pd n ≤ n := fb_ct_le _ _
  have hn := hO.2.1
  refine k_broken hO hP ho hc hc2 c1 (breq2 (b := 0) (by omega) (by omega) (fun z => ?_) (fun z => ?_))
  · rw [decide_eq_true z] at h; exact h
  · rw [decide_eq_false z] at h; exact h
theorem l_history {p k : Int32} {post : Int32 → Prop} {px : String → Prop} (hn : 1 ≤ n ∧ n ≤ 60) (hP : InvP n pd) (hc : n ≤ cap) (hc2 : cap < 2147483648) (c3 : CP qt pd 3 n) (c15 : CQ qth pd 15 20 n) (h0 : histC n p k = false → px xIOB) (h1 : histC n p k = true → post (histA pd (tN p) k)) : wp_X4_history cap n el (nI n) qt qth p k post px := by
  unfold wp_X4_history wp_X4_history_12
  refine k_isMade hn.2 ?_
  rw [bI_br]
  unfold histC at h0 h1
  by_cases c : 0 ≤ p.toInt ∧ p.toInt < n
  · rw [decide_eq_true c, if_pos rfl, fa_le, show (0 : Int32).toInt = 0 from rfl]
    obtain ⟨q, hq⟩ : ∃ q, q = p.toInt.toNat := ⟨_, rfl⟩
    have hpq : p = nI q := by rw [hq, iI_nat, Int.toNat_of_nonneg c.1]; exact iI_self p
    have hqn : q < n := by omega
    subst hpq
    rw [tN_nI (by omega)] at h1
    refine ⟨fun z => k_get hn.2 hc hc2 hqn ⟨q, hqn, rfl, ?_⟩, fun z => ?_⟩
    · exact k_thingAt hP hqn c3 c15 z (h1 (decide_eq_true ⟨c.1, c.2, z⟩))
    · exact h0 (decide_eq_false (fun g => z g.2.2))
  · rw [decide_eq_false c, if_neg (by decide)]
    exact h0 (decide_eq_false (fun g => c ⟨g.1, g.2.1⟩))
theorem k_rowsOf {x : Int32} {bar : Nat → Bool} {q : Nat} {post : Int32 → Prop} (hx : rB x bar) (hq : q < 1000) (h : post (nI (rowN bar q))) : wp_X4_rowsOf x (nI q) post := by
  unfold wp_X4_rowsOf
  refine lp_cnt 16 (fun k (_ : Unit) => (nI (fb_ct bar (min k 15)), nI (fb_ct (fun r => decide (fb_ct bar r = q)) k), nI k)) (fun _ _ => True) ?_ ?_ 0 () (by omega) trivial
  · rintro K k - hk - hK
    have hK := hK () trivial
    show wp_X4_rowsOf_7 _ _ _ _ _ _ _
    unfold wp_X4_rowsOf_7 wp_X4_rowsOf_22
    dsimp only
    have emk : min k 15 = k := by omega
    have bk := fb_ct_le bar k
    rw [emk, nI_1 k]
    rw [fb_ct_succ] at hK
    have key : ∀ r : Nat, r = fb_ct (fun r => decide (fb_ct bar r = q)) k + (if decide (fb_ct bar k = q) = true then 1 else 0) → wp_X4_hasBar x (nI k) (fun r_25 => (r_25 = 0 → K (nI (fb_ct bar k), nI r, nI (k + 1))) ∧ (¬ r_25 = 0 → K (nI (fb_ct bar k) + 1, nI r, nI (k + 1)))) := fun r hr => by
      rw [← hr] at hK
      refine k_hasBar hx (by omega) ?_
      rw [bI_br]
      by_cases c : k < 15
      · rw [decide_eq_true c, Bool.true_and]
        rw [show min (k + 1) 15 = k + 1 by omega, fb_ct_succ] at hK
        cases e : bar k <;> rw [e] at hK
        · exact hK
        · rw [if_pos rfl, nI_1]; exact hK
      · rw [decide_eq_false c, Bool.false_and, if_neg (by decide)]
        rw [show min (k + 1) 15 = k by omega] at hK
        exact hK
    refine brle2 (a := 16) (by omega) (by omega) (fun z => absurd z (by omega)) (fun _ => breq2 (by omega) (by omega) (fun z => ?_) (fun z => ?_))
    · rw [nI_1 (fb_ct (fun r => decide (fb_ct bar r = q)) k)]
      exact key _ (by rw [decide_eq_true z, if_pos rfl])
    · exact key _ (by rw [decide_eq_false z, if_neg (by decide)]; rfl)
  · rintro K - -
    show wp_X4_rowsOf_7 _ _ _ _ _ _ _
    unfold wp_X4_rowsOf_7
    exact ⟨fun _ => h, fun z => absurd (show (16 : Int32) ≤ nI 16 by decide) z⟩
theorem l_bends {x p w : Int32} {bar : Nat → Bool} {post : Int32 → Prop} {px : String → Prop} (hx : rB x bar)
    (h0 : benC bar p w ≠ 0 → px (x12 (benC bar p w))) (h1 : benC bar p w = 0 → inR p 0 15 = true → inR w 0 9 = true → post (nI (tN w * rowN bar (tN p) * rowN bar (tN p) * rowN bar (tN p) / 64))) : wp_X4_bends x p w post px := by
  unfold wp_X4_bends wp_X4_bends_15 wp_X4_bends_36
  have b15 := fb_ct_le bar 15
  rw [fa_lt, show (0 : Int32).toInt = 0 from rfl]
  by_cases g : ((0 : Nat) : Int) ≤ p.toInt ∧ p.toInt ≤ ((fb_ct bar 15 : Nat) : Int)
  · have e1 : inR p 0 (fb_ct bar 15) = true := decide_eq_true g
    refine ⟨fun z => absurd z (by omega), fun _ => pc_w ?_⟩
    rw [rB_ct hx]
    obtain ⟨q, rfl, hq1, hq2⟩ := inR_t e1
    have e3 : inR (nI q) 0 15 = true := by rw [inR_nI (by omega), decide_eq_true (by omega), decide_eq_true (by omega)]; rfl
    refine brle2 (by omega) (by omega) (fun _ => ?_) (fun z => absurd hq2 z)
    have eC : benC bar (nI q) w = if inR w 0 9 then 0 else 2 := by unfold benC; rw [e1]; rfl
    rw [eC] at h0 h1
    rw [fa_lt, show (0 : Int32).toInt = 0 from rfl, fa_le, show (9 : Int32).toInt = 9 from rfl]
    by_cases g2 : ((0 : Nat) : Int) ≤ w.toInt ∧ w.toInt ≤ ((9 : Nat) : Int)
    · have e2 : inR w 0 9 = true := decide_eq_true g2
      rw [e2, if_pos rfl] at h1
      refine ⟨fun z => absurd z (by omega), fun _ => ⟨fun _ => ?_, fun z => absurd z (by omega)⟩⟩
      have h1 := h1 rfl e3 rfl
      obtain ⟨v, rfl, hv1, hv2⟩ := inR_t e2
      rw [tN_nI (by omega), tN_nI (by omega)] at h1
      refine k_rowsOf hx (by omega) ?_
      have hr : rowN bar q ≤ 16 := fb_ct_le _ _
      have m1 : v * rowN bar q ≤ 9 * 16 := Nat.mul_le_mul hv2 hr
      have m2 : v * rowN bar q * rowN bar q ≤ 9 * 16 * 16 := Nat.mul_le_mul m1 hr
      have m3 : v * rowN bar q * rowN bar q * rowN bar q ≤ 9 * 16 * 16 * 16 := Nat.mul_le_mul m2 hr
      rw [pk_mul, pk_mul, pk_mul, show (64 : Int32) = nI 64 from rfl, pk_div (by omega) (by omega) (by omega)]
      exact h1
    · have e2 : inR w 0 9 = false := decide_eq_false g2
      rw [e2, if_neg (by decide)] at h0
      have h0 := h0 (by decide)
      exact ⟨fun _ => h0, fun z => ⟨fun z2 => absurd ⟨by omega, by omega⟩ g2, fun _ => h0⟩⟩
  · have e1 : inR p 0 (fb_ct bar 15) = false := decide_eq_false g
    have eC : benC bar p w = 1 := by unfold benC; rw [e1]; rfl
    rw [eC] at h0
    have h0 := h0 (by decide)
    refine ⟨fun _ => h0, fun z => pc_w ?_⟩
    rw [rB_ct hx, fa_le, nI_toInt (by omega)]
    exact ⟨fun z2 => absurd ⟨by omega, by omega⟩ g, fun _ => h0⟩
theorem l_crosses {p : Int32} {post : Int32 → Prop} {px : String → Prop} (hO : InvO n own) (ho : RO of own) (h0 : inR p 0 14 = false → px xIOB) (h1 : inR p 0 14 = true → post (nI (crsN n own (tN p)))) : wp_X4_crosses of p post px := by
  unfold wp_X4_crosses
  refine k_testRowLine h0 fun e => ?_
  have h1 := h1 e
  obtain ⟨k, rfl, hk1, hk2⟩ := inR_t e
  rw [tN_nI (by omega)] at h1
  exact k_crossedBehind hO ho (by omega) h1
theorem l_lead {post : Int32 → Prop} (hO : InvO n own) (ho : RO of own) (h : post (nI (lenN own))) : wp_X4_lead of post := by
  unfold wp_X4_lead
  exact k_leadLength hO ho h
theorem l_joints {post : Int32 → Prop} (hO : InvO n own) (ho : RO of own) (h : post (nI (joiN own))) : wp_X4_joints of post := by
  unfold wp_X4_joints
  exact k_jointCount hO ho h
theorem l_weight {hw : Nat} {post : Int32 → Prop} (hO : InvO n own) (ho : RO of own) (h : post (nI (768 + hw * lenN own))) : wp_X4_weight (nI hw) of post := by
  unfold wp_X4_weight
  refine k_leadLength hO ho ?_
  rw [show (768 : Int32) = nI 768 from rfl, pk_mul, nI_add]
  exact h
theorem l_assembled {f : Nat → Int64} {p : Int32} {post : Int32 → (Nat → Int64) → Prop} (hO : InvO n own) (ho : RO of own) (h : ∀ f', post (asA own n p) f') : wp_X4_assembled of f p post := by
  unfold wp_X4_assembled
  exact k_putInAt hO ho h
end OPS
