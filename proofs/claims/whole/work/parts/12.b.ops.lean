/-! the model's plain calls -/
def inR (v : Int32) (a b : Nat) : Bool := decide ((a : Int) ≤ v.toInt ∧ v.toInt ≤ (b : Int))
theorem p_inR {p : Int32} {post : Int32 → Prop} (a b : Nat) (ha : a < 2147483648) (hb : b < 2147483648) (h : post (bI (inR p a b))) : wp_X5_in p (nI a) (nI b) post := by
  rw [w_in, nI_toInt ha, nI_toInt hb]; exact h
theorem inR_t {v : Int32} {a b : Nat} (h : inR v a b = true) : ∃ k, v = nI k ∧ a ≤ k ∧ k ≤ b := by
  unfold inR at h
  rw [decide_eq_true_iff] at h
  refine ⟨v.toInt.toNat, ?_, by omega, by omega⟩
  rw [iI_nat, Int.toNat_of_nonneg (by omega)]
  exact iI_self v
theorem inR_nI {a b k : Nat} (h : k < 2147483648) : inR (nI k) a b = (decide (a ≤ k) && decide (k ≤ b)) := by
  unfold inR
  rw [nI_toInt h]
  by_cases h1 : a ≤ k <;> by_cases h2 : k ≤ b <;> simp [h1, h2]
theorem nI_inj {a b : Nat} (ha : a < 2147483648) (hb : b < 2147483648) : (nI a = nI b) = (a = b) := propext (nI_eq ha hb)
def tN (p : Int32) : Nat := p.toNatClampNeg
theorem tN_nI {a : Nat} (h : a < 2147483648) : tN (nI a) = a := nI_clamp h
def colC (n : Nat) (own : Nat → Nat) (pd : Nat → Nat → Nat) (p k : Int32) : Nat := if isP n own p then (if inR k 0 7 then (if pd (tN p) 4 = 0 then 0 else 3) else 2) else 1
def colP (pd : Nat → Nat → Nat) (q k : Nat) : Nat → Nat → Nat := if k = pd q 0 then pd else noteP (st2 pd q 0 k) q 3
theorem st2_same {pd : Nat → Nat → Nat} {q j v : Nat} (h : v = pd q j) : st2 pd q j v = pd := by
  funext a b
  unfold st2
  split
  · rename_i e; rw [e.1, e.2, h]
  · rfl
theorem m_colour {n : Nat} {own : Nat → Nat} {pd : Nat → Nat → Nat} {many colour org things history : Nat → Int32} {t p k : Int32} {post : Int32 → Int32 → (Nat → Int32) → (Nat → Int32) → (Nat → Int32) → Prop}
    (hO : InvO n own) (hP : InvP n pd) (hm : ∀ p, p < 60 → many p = nI (cnt own p)) (r0 : RP colour pd 0) (r4 : RP org pd 4) (r3 : RP things pd 3) (rh : RQ history pd 15 20)
    (h0 : colC n own pd p k ≠ 0 → post 0 (nI (colC n own pd p k)) colour things history)
    (h1 : colC n own pd p k = 0 → isP n own p = true → inR k 0 7 = true → ∀ colour' things' history', RP colour' (colP pd (tN p) (tN k)) 0 → RP things' (colP pd (tN p) (tN k)) 3 → RQ history' (colP pd (tN p) (tN k)) 15 20 → post (nI (pd (tN p) 0)) 0 colour' things' history') : wp_X5_colour t (nI n) many colour org things history p k post := by
  unfold wp_X5_colour
  refine p_isPiece ⟨hO.1, hO.2.1⟩ hm ?_
  rw [bI_br]
  cases e1 : isP n own p
  · have : colC n own pd p k = 1 := by unfold colC; rw [e1]; rfl
    rw [this] at h0
    rw [if_neg (show ¬ false = true by decide)]
    unfold wp_X5_colour_43
    rw [w_goesWell]
    exact ⟨fun _ => h0 (by decide), fun z => absurd (show bI (decide ((1 : Int32) = 0)) = 0 by decide) z⟩
  obtain ⟨q, hq, hq60, rfl, hpr⟩ := isP_t e1 hO.2.1
  rw [if_pos rfl]
  refine p_inR 0 7 (by omega) (by omega) ?_
  rw [bI_br]
  cases e2 : inR k 0 7
  · have : colC n own pd (nI q) k = 2 := by unfold colC; rw [e1, e2]; rfl
    rw [this] at h0
    rw [if_neg (show ¬ false = true by decide)]
    unfold wp_X5_colour_43
    rw [w_goesWell]
    exact ⟨fun _ => h0 (by decide), fun z => absurd (show bI (decide ((2 : Int32) = 0)) = 0 by decide) z⟩
  obtain ⟨k, rfl, hk1, hk2⟩ := inR_t e2
  rw [if_pos rfl, nI_clamp (by omega), r4 q hq60]
  have hin : vp_in (nI q) 60 := vp_in_nI (by omega) (by omega)
  have b4 := (hP.1 q).2.2.2.2
  rw [tN_nI (by omega), tN_nI (by omega)] at h1
  have e4 : colC n own pd (nI q) (nI k) = if pd q 4 = 0 then 0 else 3 := by unfold colC; rw [e1, e2, tN_nI (by omega)]; rfl
  rw [e4] at h0 h1
  refine ⟨hin, fun z => ?_, fun z => ?_⟩
  · rw [show (0 : Int32) = nI 0 from rfl, nI_inj (by omega) (by omega)] at z
    rw [if_pos z] at h1
    unfold wp_X5_colour_43
    rw [w_goesWell]
    refine ⟨fun z => absurd z (by decide), fun _ => ⟨hin, hin, ?_⟩⟩
    rw [nI_clamp (by omega), r0 q hq60]
    rintro _ rfl
    have b0 := (hP.1 q).1
    rw [nI_inj (by omega) (by omega)]
    have rc := r0.upd q k
    refine ⟨fun e => ?_, fun e => ?_⟩
    · have eP : colP pd q k = pd := if_pos e.symm
      rw [eP] at h1
      rw [st2_same e.symm] at rc
      exact h1 rfl e1 e2 _ _ _ rc r3 rh
    · have eP : colP pd q k = noteP (st2 pd q 0 k) q 3 := if_neg (fun z => e z.symm)
      rw [eP] at h1
      have hP2 : InvP n (st2 pd q 0 k) := hP.st hq ⟨by omega, by omega, by omega, by omega, by omega, by omega, by omega⟩
      exact m_note hP2 hq60 (r3.ne (by omega)) (rh.ne (by omega)) fun t' h' a b => h1 rfl e1 e2 _ _ _ (rc.note (by omega)) a b
  · rw [show (0 : Int32) = nI 0 from rfl, nI_inj (by omega) (by omega)] at z
    rw [if_neg z] at h0
    unfold wp_X5_colour_43
    rw [w_goesWell]
    exact ⟨fun _ => h0 (by decide), fun z => absurd (show bI (decide ((3 : Int32) = 0)) = 0 by decide) z⟩
