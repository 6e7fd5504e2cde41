/-! firstOf, layAll -/
def cand (own : Nat → Nat) (pd : Nat → Nat → Nat) (its p : Nat) : Bool := pres own p && decide (pd p 0 = its)
def hgt (own : Nat → Nat) (p : Nat) : Nat := ext (ofP own p) true
def wid (own : Nat → Nat) (p : Nat) : Nat := ext (ofP own p) false
theorem ext_le (S : Nat → Bool) (rows : Bool) : ext S rows ≤ 16 := fb_ct_le _ _
/-- one comes before the other -/
def bef (own : Nat → Nat) (p q : Nat) : Prop := hgt own q < hgt own p ∨ (hgt own q = hgt own p ∧ (wid own q < wid own p ∨ (wid own q = wid own p ∧ p < q)))
/-- Q is the queue of m -/
def QS (n : Nat) (own : Nat → Nat) (pd : Nat → Nat → Nat) (its m : Nat) (Q : Nat → Nat) : Prop := (∀ i, i < m → Q i < n ∧ cand own pd its (Q i) = true) ∧ (∀ p, p < n → cand own pd its p = true → ∃ i, i < m ∧ Q i = p) ∧ ∀ i j, i < j → j < m → bef own (Q i) (Q j)
theorem bef_ne {own : Nat → Nat} {p q : Nat} (h : bef own p q) : p ≠ q := by
  unfold bef at h
  intro e; subst e; omega
theorem bef_asymm {own : Nat → Nat} {p q : Nat} (h : bef own p q) : ¬ bef own q p := by
  unfold bef at *; omega
def inQ (Q : Nat → Nat) (k : Nat) (p : Nat) : Bool := anyB (fun j => decide (Q j = p)) k
theorem inQ_iff {Q : Nat → Nat} {k p : Nat} : inQ Q k p = true ↔ ∃ j, j < k ∧ Q j = p := by
  unfold inQ
  rw [anyB_iff]
  exact ⟨fun ⟨j, hj, h⟩ => ⟨j, hj, of_decide_eq_true h⟩, fun ⟨j, hj, h⟩ => ⟨j, hj, decide_eq_true h⟩⟩
theorem inQ_s {Q : Nat → Nat} {k p : Nat} : inQ Q (k + 1) p = (inQ Q k p || decide (Q k = p)) := rfl
def fstI (own : Nat → Nat) (C : Nat → Bool) (j : Nat) (x : Int32) : Prop := (x = -1 ∧ ∀ c, c < j → C c = false) ∨ ∃ b, x = nI b ∧ b < j ∧ C b = true ∧ ∀ c, c < j → C c = true → c ≠ b → bef own b c
theorem sub_le0 {a b : Nat} (ha : a ≤ 16) (hb : b ≤ 16) : (nI a - nI b ≤ 0) = (a ≤ b) := by
  have t1 : (nI a).toInt = (a : Int) := nI_toInt (by omega)
  have t2 : (nI b).toInt = (b : Int) := nI_toInt (by omega)
  rw [fa_le, fb_subI (by omega) (by omega), t1, t2, show (0 : Int32).toInt = 0 from rfl]
  exact propext (by omega)
theorem sub_eq0 {a b : Nat} (ha : a ≤ 16) (hb : b ≤ 16) : (nI a - nI b = 0) = (a = b) := by
  have t1 : (nI a).toInt = (a : Int) := nI_toInt (by omega)
  have t2 : (nI b).toInt = (b : Int) := nI_toInt (by omega)
  rw [fa_eq, fb_subI (by omega) (by omega), t1, t2, show (0 : Int32).toInt = 0 from rfl]
  exact propext (by omega)
theorem m_fstLoop {n its : Nat} {own : Nat → Nat} {pd : Nat → Nat → Nat} {of many colour tried : Nat → Int32} {T : Nat → Bool} {post : Int32 → Prop} (hO : InvO n own) (hP : InvP n pd) (hi : its < 1000) (ho : RO of own) (hm : RN many own) (r0 : RP colour pd 0) (ht : fillB T n tried)
    (h : ∀ x, fstI own (fun p => cand own pd its p && !T p) n x → post x) : wp_X5_firstOf (nI n) of many colour tried (nI its) post := by
  have hn := hO.2.1
  unfold wp_X5_firstOf
  obtain ⟨C, hC⟩ : ∃ C : Nat → Bool, C = (fun p => cand own pd its p && !T p) := ⟨_, rfl⟩
  rw [← hC] at h
  have hbox : ∀ p, p < 60 → pres own p = true → ∀ (rows : Bool) (post : Int32 → Prop), post (nI (ext (ofP own p) rows)) → wp_X5_box of (nI p) (bI rows) post := fun p hp hpr rows post h => m_box (own_eq hO ho hp) (hO.2.2.2 p hpr) h
  refine lp_cnt n (fun k (x : Int32) => (x, nI k)) (fun k x => fstI own C k x) ?_ ?_ 0 (-1) (by omega) (Or.inl ⟨rfl, fun c hc => absurd hc (Nat.not_lt_zero c)⟩)
  · rintro K k x hk hx hK
    show wp_X5_firstOf_4 _ _ _ _ _ _ _ _ _ _
    unfold wp_X5_firstOf_4
    dsimp only
    have eC : C k = (pres own k && decide (pd k 0 = its) && !T k) := by rw [hC]; rfl
    have skip : C k = false → K (x, nI (k + 1)) := fun e => by
      refine hK x ?_
      rcases hx with ⟨h1, h2⟩ | ⟨b, h1, h2, h3, h4⟩
      · refine Or.inl ⟨h1, fun c hc => ?_⟩
        by_cases g : c = k
        · rw [g]; exact e
        · exact h2 c (by omega)
      · refine Or.inr ⟨b, h1, by omega, h3, fun c hc hCc hne => ?_⟩
        by_cases g : c = k
        · rw [g, e] at hCc; exact absurd hCc (by decide)
        · exact h4 c (by omega) hCc hne
    have b0 := hP.2.1 k 0
    rw [nI_clamp (by omega), hm k (by omega), r0 k (by omega), ht k hk, nI_1 k]
    refine nI_brl (by omega) (by omega) ?_
    rw [if_neg (by omega)]
    refine ⟨in60 (by omega), many_br ?_⟩
    cases e1 : pres own k
    · exact skip (by rw [eC, e1]; rfl)
    rw [if_pos rfl]
    refine ⟨in60 (by omega), nI_br (by omega) (by omega) ?_⟩
    split
    case isFalse => rename_i z; exact skip (by rw [eC, e1, decide_eq_false z]; rfl)
    rename_i z0
    refine ⟨in60 (by omega), ?_⟩
    cases e2 : T k
    case true => exact ⟨ne1, fun _ => skip (by rw [eC, e2, Bool.and_comm]; rfl)⟩
    have eCk : C k = true := by rw [eC, e1, e2, decide_eq_true z0]; rfl
    refine ⟨fun _ => ?_, fun z => absurd rfl z⟩
    unfold wp_X5_firstOf_62 wp_X5_firstOf_87 wp_X5_firstOf_99
    rw [nI_1 k]
    rcases hx with ⟨rfl, h2⟩ | ⟨b, rfl, h2, h3, h4⟩
    · refine ⟨fun _ => ⟨fun z => absurd z (by decide), fun _ => ⟨fun z => absurd z (by decide), fun _ => ?_⟩⟩, fun z => absurd rfl z⟩
      refine hK _ (Or.inr ⟨k, rfl, by omega, eCk, fun c hc hCc hne => ?_⟩)
      rw [h2 c (by omega)] at hCc; exact absurd hCc (by decide)
    · refine ⟨fun z => absurd z (nI_ne_m1 (by omega)), fun _ => ?_⟩
      have hbp : pres own b = true := by
        have : C b = (pres own b && decide (pd b 0 = its) && !T b) := by rw [hC]; rfl
        rw [this] at h3
        cases g : pres own b
        · rw [g] at h3; exact Bool.noConfusion h3
        · rfl
      have win : bef own k b → K (nI k, nI (k + 1)) := fun g => by
        refine hK _ (Or.inr ⟨k, rfl, by omega, eCk, fun c hc hCc hne => ?_⟩)
        by_cases g2 : c = b
        · rw [g2]; exact g
        · have := h4 c (by omega) hCc g2
          unfold bef at *; omega
      have lose : bef own b k → K (nI b, nI (k + 1)) := fun g => by
        refine hK _ (Or.inr ⟨b, rfl, by omega, h3, fun c hc hCc hne => ?_⟩)
        by_cases g2 : c = k
        · rw [g2]; exact g
        · exact h4 c (by omega) hCc hne
      have l1 := ext_le (ofP own k) true
      have l2 := ext_le (ofP own b) true
      have l3 := ext_le (ofP own k) false
      have l4 := ext_le (ofP own b) false
      refine hbox k (by omega) e1 true _ (hbox b (by omega) hbp true _ ?_)
      rw [sub_eq0 l1 l2, sub_le0 l1 l2]
      refine ⟨fun z => ?_, fun z => ⟨fun z2 => lose ?_, fun z2 => win ?_⟩⟩
      · refine hbox k (by omega) e1 false _ (hbox b (by omega) hbp false _ ?_)
        rw [sub_le0 l3 l4]
        refine ⟨fun z2 => lose ?_, fun z2 => win ?_⟩
        · unfold bef hgt wid; omega
        · unfold bef hgt wid; omega
      · unfold bef hgt wid; omega
      · unfold bef hgt wid; omega
  · rintro K x hx
    show wp_X5_firstOf_4 _ _ _ _ _ _ _ _ _ _
    unfold wp_X5_firstOf_4
    exact ⟨fun _ => h x hx, fun z => absurd (Int32.le_refl _) z⟩
def qI (m : Nat) (Q : Nat → Nat) (k : Nat) : Int32 := if k < m then nI (Q k) else -1
theorem m_firstOf {n its m k : Nat} {own : Nat → Nat} {pd : Nat → Nat → Nat} {Q : Nat → Nat} {of many colour tried : Nat → Int32} {post : Int32 → Prop} (hO : InvO n own) (hP : InvP n pd) (hi : its < 1000) (ho : RO of own) (hm : RN many own) (r0 : RP colour pd 0) (hQ : QS n own pd its m Q) (hk : k ≤ m) (ht : fillB (inQ Q k) n tried)
    (h : post (qI m Q k)) : wp_X5_firstOf (nI n) of many colour tried (nI its) post := by
  refine m_fstLoop hO hP hi ho hm r0 ht fun x hx => ?_
  obtain ⟨q1, q2, q3⟩ := hQ
  have e : x = qI m Q k := by
    unfold qI
    have hC : ∀ i, k ≤ i → i < m → (cand own pd its (Q i) && !inQ Q k (Q i)) = true := fun i h1 h2 => by
      rw [(q1 i h2).2, Bool.true_and]
      cases g : inQ Q k (Q i)
      · rfl
      · obtain ⟨j, hj, hjq⟩ := inQ_iff.mp g
        exact absurd hjq (bef_ne (q3 j i (by omega) h2))
    rcases hx with ⟨h1, h2⟩ | ⟨b, h1, h2, h3, h4⟩
    · split
      · rename_i c
        have := h2 _ (q1 k c).1
        dsimp only at this
        rw [hC k (Nat.le_refl k) c] at this
        exact absurd this (by decide)
      · exact h1
    · rw [Bool.and_eq_true] at h3
      obtain ⟨i, hi, rfl⟩ := q2 b h2 h3.1
      have hik : k ≤ i := Nat.not_lt.mp fun z => by
        rw [inQ_iff.mpr ⟨i, z, rfl⟩] at h3
        exact absurd h3.2 (by decide)
      rw [if_pos (by omega)]
      by_cases c : i = k
      · rw [h1, c]
      · have g1 := q3 k i (by omega) hi
        have g2 := h4 _ (q1 k (by omega)).1 (hC k (Nat.le_refl k) (by omega)) (bef_ne g1)
        exact absurd g2 (bef_asymm g1)
  rw [e]; exact h
/-- how the sheets stand: sheets, shelf, its height, how far, the spots -/
abbrev LayS := Nat × Nat × Nat × Nat × (Nat → Option Nat)
def setO (f : Nat → Option Nat) (p v : Nat) : Nat → Option Nat := fun q => if q = p then some v else f q
def lay1 (sw tall wide p : Nat) (L : LayS) : LayS :=
  if wide ≤ sw then
    (if L.1 = 0 ∨ (sw < L.2.2.2.1 + wide ∧ 20 < L.2.1 + L.2.2.1 + tall) then (L.1 + 1, 0, tall, wide, setO L.2.2.2.2 p (10000 * L.1))
    else if sw < L.2.2.2.1 + wide then (L.1, L.2.1 + L.2.2.1, tall, wide, setO L.2.2.2.2 p (10000 * (L.1 - 1) + 100 * (L.2.1 + L.2.2.1)))
    else (L.1, L.2.1, L.2.2.1, L.2.2.2.1 + wide, setO L.2.2.2.2 p (10000 * (L.1 - 1) + 100 * L.2.1 + L.2.2.2.1)))
  else L
def layF (own : Nat → Nat) (sw : Nat) (Q : Nat → Nat) : Nat → LayS
  | 0 => (0, 0, 0, 0, fun _ => none)
  | k + 1 => lay1 sw (hgt own (Q k)) (wid own (Q k)) (Q k) (layF own sw Q k)
def covN (own : Nat → Nat) (sw : Nat) (Q : Nat → Nat) (k : Nat) : Nat := fb_sm (fun j => if wid own (Q j) ≤ sw then cnt own (Q j) else 0) k
theorem setO_at (f : Nat → Option Nat) (p v : Nat) : setO f p v p = some v := if_pos rfl
theorem setO_ne (f : Nat → Option Nat) {p v q : Nat} (h : q ≠ p) : setO f p v q = f q := if_neg h
theorem lay1_ne {sw tall wide p q : Nat} {L : LayS} (h : q ≠ p) : (lay1 sw tall wide p L).2.2.2.2 q = L.2.2.2.2 q := by
  unfold lay1
  split
  · split
    · exact setO_ne _ h
    · split
      · exact setO_ne _ h
      · exact setO_ne _ h
  · rfl
theorem layF_no {own : Nat → Nat} {sw : Nat} {Q : Nat → Nat} {p : Nat} : ∀ {k : Nat}, (∀ j, j < k → Q j ≠ p) → (layF own sw Q k).2.2.2.2 p = none
  | 0, _ => rfl
  | k + 1, h => by
    rw [layF, lay1_ne (fun z => h k (by omega) z.symm)]
    exact layF_no fun j hj => h j (by omega)
theorem layF_inv {own : Nat → Nat} {sw : Nat} {Q : Nat → Nat} (hsw : sw ≤ 40) : ∀ {k : Nat}, (layF own sw Q k).1 ≤ k ∧ (layF own sw Q k).2.1 + (layF own sw Q k).2.2.1 ≤ 20 ∧ (layF own sw Q k).2.2.2.1 ≤ 40
  | 0 => ⟨Nat.le_refl 0, Nat.zero_le 20, Nat.zero_le 40⟩
  | k + 1 => by
    obtain ⟨h1, h2, h3⟩ := layF_inv (own := own) (Q := Q) hsw (k := k)
    have l1 : hgt own (Q k) ≤ 16 := ext_le _ _
    have l2 : wid own (Q k) ≤ 16 := ext_le _ _
    rw [layF]
    unfold lay1
    split
    · split
      · refine ⟨?_, ?_, ?_⟩ <;> dsimp only <;> omega
      · split
        · refine ⟨?_, ?_, ?_⟩ <;> dsimp only <;> omega
        · refine ⟨?_, ?_, ?_⟩ <;> dsimp only <;> omega
    · refine ⟨?_, ?_, ?_⟩ <;> omega
