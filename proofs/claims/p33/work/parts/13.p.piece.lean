/-! the class: what is told of pieces; the list; small methods of Leadlight -/
def CP (f : Nat → Int32) (pd : Nat → Nat → Nat) (k n : Nat) : Prop := ∀ p, p < n → f p = nI (pd p k)
def CQ (f : Nat → Nat → Int32) (pd : Nat → Nat → Nat) (b w n : Nat) : Prop := ∀ p, p < n → ∀ j, j < w → f p j = nI (pd p (b + j))
theorem vu_at {α : Type} (f : Nat → α) (p : Nat) (x : α) : va_up f p x p = x := if_pos rfl
theorem CP.up {f : Nat → Int32} {pd : Nat → Nat → Nat} {k n : Nat} (h : CP f pd k n) (p v : Nat) : CP (va_up f p (nI v)) (st2 pd p k v) k n := fun q hq => by
  by_cases e : q = p
  · rw [e, vu_at, st2_at]
  · rw [va_up_ne _ _ e, st2_ne _ (Or.inl e)]; exact h q hq
theorem CP.ne {f : Nat → Int32} {pd : Nat → Nat → Nat} {k n : Nat} (h : CP f pd k n) {p j v : Nat} (e : j ≠ k) : CP f (st2 pd p j v) k n := fun q hq => by
  rw [st2_ne _ (Or.inr fun z => e z.symm)]; exact h q hq
theorem CQ.ne {f : Nat → Nat → Int32} {pd : Nat → Nat → Nat} {b w n : Nat} (h : CQ f pd b w n) {p j v : Nat} (e : j < b ∨ b + w ≤ j) : CQ f (st2 pd p j v) b w n := fun q hq k hk => by
  rw [st2_ne _ (Or.inr (by omega))]; exact h q hq k hk
theorem CQ.up {f : Nat → Nat → Int32} {pd : Nat → Nat → Nat} {b w n : Nat} (h : CQ f pd b w n) {p k v : Nat} : CQ (va_up f p (upd (f p) k (nI v))) (st2 pd p (b + k) v) b w n := fun q hq j hj => by
  by_cases e : q = p
  · subst e
    rw [vu_at]
    by_cases e2 : j = k
    · rw [e2, upd_at, st2_at]
    · rw [upd_ne _ _ e2, st2_ne _ (Or.inr (by omega))]; exact h q hq j hj
  · rw [va_up_ne _ _ e, st2_ne _ (Or.inl e)]; exact h q hq j hj
theorem vu_id {α : Type} (f : Nat → α) (p : Nat) : va_up f p (f p) = f := by
  funext q
  by_cases e : q = p
  · rw [e, vu_at]
  · rw [va_up_ne _ _ e]
theorem CP.note {f : Nat → Int32} {pd : Nat → Nat → Nat} {k n : Nat} (h : CP f pd k n) {p t : Nat} (e : k ≠ 3 ∧ k < 15) : CP f (noteP pd p t) k n := fun q hq => by rw [noteP_lo e]; exact h q hq
theorem CQ.note {f : Nat → Nat → Int32} {pd : Nat → Nat → Nat} {b w n : Nat} (h : CQ f pd b w n) {p t : Nat} (e : 3 < b ∧ b + w ≤ 15) : CQ f (noteP pd p t) b w n := fun q hq k hk => by rw [noteP_lo ⟨by omega, by omega⟩]; exact h q hq k hk
theorem k_note {n m p t : Nat} {pd : Nat → Nat → Nat} {cn : Nat → Int32} {th : Nat → Nat → Int32} {post : (Nat → Int32) → Int32 → Prop} (hI : InvP m pd) (hp : p < n) (h3 : CP cn pd 3 n) (hh : CQ th pd 15 20 n)
    (h : ∀ x y, CP (va_up cn p y) (noteP pd p t) 3 n → CQ (va_up th p x) (noteP pd p t) 15 20 n → post x y) : wp_X2_note (th p) (cn p) (nI t) post := by
  have b := (hI.1 p).2.2.2.1
  unfold wp_X2_note
  have keep : 20 ≤ pd p 3 → post (th p) (cn p) := fun c => by
    refine h _ _ ?_ ?_
    · unfold noteP; rw [if_neg (by omega), vu_id]; exact h3
    · unfold noteP; rw [if_neg (by omega), vu_id]; exact hh
  rw [h3 p hp] at keep ⊢
  refine ⟨fun z => absurd z (nI_pos (by omega)), fun _ => brle2 (a := 20) (by omega) (by omega) keep (fun c => ⟨vp_in_nI (by omega) (by omega), ?_⟩)⟩
  rw [nI_clamp (by omega), nI_1]
  rintro _ rfl _ rfl
  refine h _ _ ?_ ?_
  · unfold noteP; rw [if_pos (by omega)]
    exact (h3.ne (by omega)).up p _
  · unfold noteP; rw [if_pos (by omega)]
    exact (hh.up (k := pd p 3)).ne (by omega)
theorem k_thingAt {n m p : Nat} {pd : Nat → Nat → Nat} {cn : Nat → Int32} {th : Nat → Nat → Int32} {k : Int32} {post : Int32 → Prop} (hI : InvP m pd) (hp : p < n) (h3 : CP cn pd 3 n) (hh : CQ th pd 15 20 n) (hk : 0 ≤ k.toInt) (h : post (histA pd p k)) : wp_X2_thingAt (th p) (cn p) k post := by
  have b := (hI.1 p).2.2.2.1
  unfold wp_X2_thingAt
  unfold histA at h
  obtain ⟨j, hj⟩ : ∃ j, j = k.toInt.toNat := ⟨_, rfl⟩
  have hkj : k = nI j := by rw [hj, iI_nat, Int.toNat_of_nonneg hk]; exact iI_self k
  have rk := fb_rng k
  subst hkj
  rw [nI_toInt (by omega), tN_nI (by omega)] at h
  rw [h3 p hp]
  refine ⟨fun z => absurd z (nI_pos (by omega)), fun _ => brle2 (by omega) (by omega) (fun z => ?_) (fun z => brle2 (a := 20) (by omega) (by omega) (fun z2 => absurd z2 (by omega)) (fun z2 => ⟨vp_in_nI (by omega) (by omega), ?_⟩))⟩
  · rw [if_neg (by omega)] at h; exact h
  · rw [if_pos (by omega)] at h
    rw [nI_clamp (by omega), hh p hp j (by omega)]; exact h
theorem k_layersThatAre {n m p its : Nat} {pd : Nat → Nat → Nat} {g : Nat → Int32} {ly : Int32} {post : Int32 → Prop} (hI : InvP m pd) (hi : its < 1000) (h2 : ly = nI (pd p 2)) (hg : ∀ j, j < 5 → g j = nI (pd p (10 + j))) (h : post (nI (layN pd p its))) : wp_X2_layersThatAre g ly (nI its) post := by
  have b := (hI.1 p).2.2.1
  subst h2
  unfold wp_X2_layersThatAre
  refine lp_cnt (pd p 2) (fun k (_ : Unit) => (nI (fb_ct (fun k => decide (pd p (10 + k) = its)) k), nI k)) (fun _ _ => True) ?_ ?_ 0 () (by omega) trivial
  · rintro K k - hk - hK
    have hK := hK () trivial
    show wp_X2_layersThatAre_4 _ _ _ _ _ _ _
    unfold wp_X2_layersThatAre_4
    dsimp only
    rw [nI_clamp (show k < 2147483648 by omega), hg k (by omega), nI_1 k, nI_1]
    rw [fb_ct_succ] at hK
    have bb := hI.2.1 p (10 + k)
    refine brle2 (by omega) (by omega) (fun z => absurd z (by omega)) (fun _ => brle2 (a := 5) (by omega) (by omega) (fun z => absurd z (by omega)) (fun _ => ⟨vp_in_nI (by omega) (by omega), breq2 (by omega) (by omega) (fun z => ?_) (fun z => ?_)⟩))
    · rw [decide_eq_true z, if_pos rfl] at hK; exact hK
    · rw [decide_eq_false z] at hK; exact hK
  · rintro K - -
    show wp_X2_layersThatAre_4 _ _ _ _ _ _ _
    unfold wp_X2_layersThatAre_4
    exact ⟨fun _ => h, fun z => absurd (Int32.le_refl _) z⟩
theorem k_addLayer {n m p k : Nat} {pd : Nat → Nat → Nat} {ly cn : Nat → Int32} {he fi th : Nat → Nat → Int32} {post : (Nat → Int32) → (Nat → Int32) → (Nat → Int32) → Int32 → Int32 → Prop} (hI : InvP m pd) (hm : p < m) (hk : k < 1000) (hp : p < n) (h2 : CP ly pd 2 n) (h3 : CP cn pd 3 n) (q5 : CQ he pd 5 5 n) (q10 : CQ fi pd 10 5 n) (q15 : CQ th pd 15 20 n) (hl : pd p 2 < 5)
    (h : ∀ a b c y z, CP (va_up ly p y) (paintP pd p k) 2 n → y = nI (pd p 2 + 1) → CP (va_up cn p z) (paintP pd p k) 3 n → CQ (va_up he p a) (paintP pd p k) 5 5 n → CQ (va_up fi p b) (paintP pd p k) 10 5 n → CQ (va_up th p c) (paintP pd p k) 15 20 n → post a b c y z) : wp_X2_addLayer (he p) (fi p) (th p) (ly p) (cn p) (nI k) post := by
  unfold wp_X2_addLayer
  rw [h2 p hp]
  refine ⟨fun z => absurd z (nI_pos (by omega)), fun _ => brle2 (a := 5) (by omega) (by omega) (fun z => absurd z (by omega)) (fun _ => ⟨vp_in_nI (by omega) (by omega), ?_⟩)⟩
  rw [nI_clamp (by omega), nI_1]
  rintro _ rfl
  refine ⟨vp_in_nI (by omega) (by omega), ?_⟩
  rintro _ rfl _ rfl
  have v10 := hI.2.2.2
  have hI2 : InvP m (st2 (st2 (st2 pd p (5 + pd p 2) k) p (10 + pd p 2) 0) p 2 (pd p 2 + 1)) := ((hI.st hm ⟨by omega, by omega, by omega, by omega, by omega, by omega, by omega⟩).st hm ⟨by omega, by omega, by omega, by omega, by omega, by omega, by omega⟩).st hm ⟨by omega, by omega, by omega, by omega, by omega, by omega, by omega⟩
  refine k_note (t := 4) hI2 hp (((h3.ne (by omega)).ne (by omega)).ne (by omega)) (((q15.ne (by omega)).ne (by omega)).ne (by omega)) fun x y a3 a15 => ?_
  refine h _ _ _ _ _ ?_ rfl a3 ?_ ?_ a15
  · exact ((((h2.ne (by omega)).ne (by omega)).up p _)).note (by omega)
  · exact (((q5.up (k := pd p 2)).ne (by omega)).ne (by omega)).note (by omega)
  · exact (((q10.ne (by omega)).up (k := pd p 2)).ne (by omega)).note (by omega)
theorem spoil_1 (a b h : Nat) : (if decide (newb a b h = 2) = true then 1 else 0) = (if decide (b = 2) = true then 1 else 0) + (if (decide (a + 30 < h) && decide (¬ b = 2)) = true then 1 else 0) := by
  unfold newb
  by_cases c1 : a + 30 < h
  · by_cases c2 : b = 2
    · simp [c1, c2]
    · simp [c1, c2]
  · by_cases c2 : b = 2
    · simp [c2]
    · by_cases c3 : a ≤ h
      · simp [c1, c2, c3]
      · simp [c1, c2, c3]
theorem spoil_ct {pd : Nat → Nat → Nat} {q h : Nat} : ∀ {m : Nat}, fb_ct (fun k => decide (firP pd q h 5 q (10 + k) = 2)) m = fb_ct (fun k => decide (pd q (10 + k) = 2)) m + firN pd q h m ∨ 5 < m
  | 0 => Or.inl rfl
  | m + 1 => by
    rcases Nat.lt_or_ge 5 (m + 1) with g | g
    · exact Or.inr g
    · rcases spoil_ct (pd := pd) (q := q) (h := h) (m := m) with e | e
      · left
        unfold firN at e ⊢
        have ef : firP pd q h 5 q (10 + m) = newb (pd q (5 + m)) (pd q (10 + m)) h := by
          unfold firP
          rw [if_pos (by omega), show 10 + m - 5 = 5 + m by omega]
        have key := spoil_1 (pd q (5 + m)) (pd q (10 + m)) h
        rw [← ef] at key
        rw [fb_ct_succ, fb_ct_succ, fb_ct_succ, e, key]
        omega
      · exact Or.inr (by omega)
theorem k_bearHeat {n m p k : Nat} {pd : Nat → Nat → Nat} {ly cn : Nat → Int32} {he fi th : Nat → Nat → Int32} {post : Int32 → (Nat → Int32) → (Nat → Int32) → Int32 → Prop} (hI : InvP m pd) (hm : p < m) (hk1 : 500 ≤ k) (hk : k < 1000) (hp : p < n) (h2 : CP ly pd 2 n) (h3 : CP cn pd 3 n) (q5 : CQ he pd 5 5 n) (q10 : CQ fi pd 10 5 n) (q15 : CQ th pd 15 20 n)
    (h : ∀ b c z, CP (va_up cn p z) (noteP (firP pd p k (pd p 2)) p 5) 3 n → CQ (va_up fi p b) (noteP (firP pd p k (pd p 2)) p 5) 10 5 n → CQ (va_up th p c) (noteP (firP pd p k (pd p 2)) p 5) 15 20 n → post (nI (firN pd p k (pd p 2))) b c z) : wp_X2_bearHeat (he p) (fi p) (th p) (ly p) (cn p) (nI k) post := by
  have b2 := (hI.1 p).2.2.1
  unfold wp_X2_bearHeat
  refine k_layersThatAre (its := 2) (n := n) hI (by omega) (h2 p hp) (q10 p hp) ?_
  rw [h2 p hp]
  have bl : layN pd p 2 ≤ 5 := Nat.le_trans (fb_ct_le _ _) b2
  refine lp_cnt (pd p 2) (fun i (g : Nat → Int32) => (nI (layN pd p 2), nI i, g)) (fun i g => CQ (va_up fi p g) (firP pd p k i) 10 5 n) ?_ ?_ 0 (fi p) (by omega) (by rw [firP_0, vu_id]; exact q10)
  · rintro K i g hi hg hK
    show wp_X2_bearHeat_8 _ _ _ _ _ _ _ _ _ _ _
    unfold wp_X2_bearHeat_8
    dsimp only
    have hgi : g i = nI (pd p (10 + i)) := by
      have := hg p hp i (by omega)
      rw [vu_at] at this
      rw [this]
      unfold firP; rw [if_neg (by omega)]
    rw [nI_clamp (show i < 2147483648 by omega), q5 p hp i (by omega), hgi, nI_1 i, show (30 : Int32) = nI 30 from rfl, pk_sub (by omega)]
    have vh := hI.2.1 p (5 + i)
    have vb := hI.2.2.2 p i (by omega)
    have hin : vp_in (nI i) 5 := vp_in_nI (by omega) (by omega)
    have step : ∀ v, v = newb (pd p (5 + i)) (pd p (10 + i)) k → CQ (va_up fi p (upd g i (nI v))) (firP pd p k (i + 1)) 10 5 n := fun v hv => by
      rw [firP_s, ← hv]
      have := hg.up (p := p) (k := i) (v := v)
      rw [vu_at] at this
      have e : va_up (va_up fi p g) p (upd g i (nI v)) = va_up fi p (upd g i (nI v)) := by
        funext q
        by_cases e : q = p
        · rw [e, vu_at, vu_at]
        · rw [va_up_ne _ _ e, va_up_ne _ _ e, va_up_ne _ _ e]
      rw [e] at this; exact this
    have same : newb (pd p (5 + i)) (pd p (10 + i)) k = pd p (10 + i) → K (nI (layN pd p 2), nI (i + 1), g) := fun e => by
      refine hK g ?_
      have := step _ e.symm
      rw [fa_upd_same hgi] at this; exact this
    refine brle2 (by omega) (by omega) (fun z => absurd z (by omega)) (fun _ => brle2 (a := 5) (by omega) (by omega) (fun z => absurd z (by omega)) (fun _ => ⟨hin, brle2 (by omega) (by omega) (fun z => ⟨hin, brlt2 (by omega) (by omega) (fun z2 => same ?_) (fun z2 => ⟨hin, breq2 (b := 2) (by omega) (by omega) (fun z3 => same ?_) (fun z3 => ⟨hin, ?_⟩)⟩)⟩) (fun z => ⟨hin, ?_⟩)⟩))
    · unfold newb
      by_cases c : pd p (10 + i) = 2
      · rw [if_pos (Or.inr c), c]
      · rw [if_neg (by omega), if_neg (by omega)]
    · unfold newb; rw [if_pos (Or.inr z3), z3]
    · rintro _ rfl
      exact hK _ (step 1 (by unfold newb; rw [if_neg (by omega), if_pos (by omega)]))
    · rintro _ rfl
      exact hK _ (step 2 (by unfold newb; rw [if_pos (by omega)]))
  · rintro K g hg
    show wp_X2_bearHeat_8 _ _ _ _ _ _ _ _ _ _ _
    unfold wp_X2_bearHeat_8
    dsimp only
    refine ⟨fun _ => ?_, fun z => absurd (Int32.le_refl _) z⟩
    unfold wp_X2_bearHeat_77
    have hI2 : InvP m (firP pd p k (pd p 2)) := firP_inv hI hm b2
    have lo : ∀ a j, j < 10 ∨ 15 ≤ j → firP pd p k (pd p 2) a j = pd a j := fun a j hj => by unfold firP; rw [if_neg (by omega)]
    refine k_note (t := 5) hI2 hp (fun q hq => by rw [lo _ _ (by omega)]; exact h3 q hq) (fun q hq j hj => by rw [lo _ _ (by omega)]; exact q15 q hq j hj) fun x y a3 a15 => ?_
    refine k_layersThatAre (p := p) (its := 2) (n := n) hI2 (by omega) (by rw [lo _ _ (by omega)]) (fun j hj => by have := hg p hp j hj; rw [vu_at] at this; exact this) ?_
    have e : layN (firP pd p k (pd p 2)) p 2 = layN pd p 2 + firN pd p k (pd p 2) := by
      unfold layN
      rw [lo p 2 (by omega)]
      have e5 : ∀ j, j < pd p 2 → firP pd p k (pd p 2) p (10 + j) = firP pd p k 5 p (10 + j) := fun j hj => by
        unfold firP; rw [if_pos (by omega), if_pos (by omega)]
      rw [fb_ct_cong (q := fun j => decide (firP pd p k 5 p (10 + j) = 2)) fun j hj => by rw [e5 j hj]]
      rcases spoil_ct (pd := pd) (q := p) (h := k) (m := pd p 2) with e | e
      · exact e
      · omega
    rw [e, pk_sub (by omega), Nat.add_sub_cancel_left]
    exact h _ _ _ a3 (hg.note (by omega)) a15
/-! the list of pieces, the tests -/
theorem k_isMade {n : Nat} {p : Int32} {post : Int32 → Prop} (hn : n ≤ 60) (h : post (bI (decide (0 ≤ p.toInt ∧ p.toInt < n)))) : wp_X4_isMade (nI n) p post := by
  unfold wp_X4_isMade wp_Jx4a65c_size_8abf5
  dsimp only
  rw [fa_lt, show (0 : Int32).toInt = 0 from rfl, fa_le, nI_toInt (by omega)]
  by_cases c : 0 ≤ p.toInt ∧ p.toInt < n
  · rw [decide_eq_true c] at h
    exact ⟨fun z => absurd z (by omega), fun _ => ⟨fun z => absurd z (by omega), fun _ => h⟩⟩
  · rw [decide_eq_false c] at h
    exact ⟨fun _ => h, fun z => ⟨fun _ => h, fun z2 => absurd ⟨by omega, by omega⟩ c⟩⟩
theorem k_get {n cap q : Nat} {el : Nat → Option Nat} {post : Option Nat → Prop} (hn : n ≤ 60) (hc : n ≤ cap) (hc2 : cap < 2147483648) (hq : q < n) (h : post (el q)) : wp_Jx4a65c_get_915e3 cap el (nI n) (nI q) post := by
  unfold wp_Jx4a65c_get_915e3 wp_J15_checkIndex_7cf53 wp_J3_checkIndex_8e157 wp_Jx4a65c_elementData_915e3
  refine ⟨fun z => absurd z (nI_pos (by omega)), fun _ => brlt2 (by omega) (by omega) (fun _ => ⟨vp_in_nI (by omega) (by omega), ?_⟩) (fun z => absurd hq z)⟩
  rw [nI_clamp (by omega)]; exact h
theorem k_thePiece {n cap : Nat} {own : Nat → Nat} {of : Nat → Int32} {el : Nat → Option Nat} {p : Int32} {post : Nat → Prop} {px : String → Prop} (hO : InvO n own) (ho : RO of own) (hc : n ≤ cap) (hc2 : cap < 2147483648) (h0 : isP n own p = false → px xIOB) (h1 : isP n own p = true → post (tN p)) : wp_X4_thePiece cap n of el (nI n) p post px := by
  have hn := hO.2.1
  have hlt : ∀ c, c < 256 → own c < 60 := fun c hc => by have := hO.2.2.1 c hc; omega
  unfold wp_X4_thePiece wp_X4_thePiece_19
  refine k_isMade hn ?_
  rw [bI_br]
  unfold isP at h0 h1
  by_cases c : 0 ≤ p.toInt ∧ p.toInt < n
  · rw [decide_eq_true c, Bool.true_and] at h0 h1
    rw [decide_eq_true c, if_pos rfl]
    obtain ⟨q, hq⟩ : ∃ q, q = p.toInt.toNat := ⟨_, rfl⟩
    have hpq : p = nI q := by rw [hq, iI_nat, Int.toNat_of_nonneg c.1]; exact iI_self p
    rw [← hq] at h0 h1
    subst hpq
    rw [tN_nI (by omega)] at h1
    refine k_holds ho hlt (by omega) ?_
    rw [bI_br]
    cases e : pres own q
    · rw [if_neg (by decide)]; exact h0 e
    · rw [if_pos rfl]
      exact k_get hn hc hc2 (by omega) ⟨q, by omega, rfl, h1 e⟩
  · rw [decide_eq_false c, Bool.false_and] at h0
    rw [decide_eq_false c, if_neg (by decide)]
    exact h0 rfl
theorem k_theOwner {own : Nat → Nat} {of : Nat → Int32} {c : Int32} {post : Int32 → Prop} {px : String → Prop} (ho : RO of own) (h0 : isC c = false → px xIOB) (h1 : isC c = true → post (nI (own (tN c)))) : wp_X4_theOwner of c post px := by
  unfold wp_X4_theOwner wp_X4_theOwner_11
  rw [fa_lt, show (0 : Int32).toInt = 0 from rfl, fa_lt, show (256 : Int32).toInt = 256 from rfl]
  unfold isC at h0 h1
  by_cases g : 0 ≤ c.toInt ∧ c.toInt < 256
  · rw [decide_eq_true g] at h1
    refine ⟨fun z => absurd z (by omega), fun _ => ⟨fun _ => ?_, fun z => absurd z (by omega)⟩⟩
    obtain ⟨q, hq⟩ : ∃ q, q = c.toInt.toNat := ⟨_, rfl⟩
    have hpq : c = nI q := by rw [hq, iI_nat, Int.toNat_of_nonneg g.1]; exact iI_self c
    have hq2 : q < 256 := by omega
    subst hpq
    rw [tN_nI (by omega)] at h1
    rw [nrem hq2, ndiv hq2]
    refine k_ownerAt ho ?_
    rw [nI_toInt (by omega), nI_toInt (by omega), atZ_in (by omega) (by omega), ← iI_nat, show 16 * (q / 16) + q % 16 = q by omega]
    exact h1 rfl
  · rw [decide_eq_false g] at h0
    exact ⟨fun _ => h0 rfl, fun z => ⟨fun z2 => absurd ⟨by omega, by omega⟩ g, fun _ => h0 rfl⟩⟩
theorem k_testColour {p : Int32} {post : Prop} {px : String → Prop} (h0 : inR p 0 7 = false → px xIAE) (h1 : inR p 0 7 = true → post) : wp_X4_testColour p post px := by
  unfold wp_X4_testColour wp_X4_testColour_10
  rw [fa_lt, show (0 : Int32).toInt = 0 from rfl, fa_lt, show (8 : Int32).toInt = 8 from rfl]
  unfold inR at h0 h1
  by_cases g : ((0 : Nat) : Int) ≤ p.toInt ∧ p.toInt ≤ ((7 : Nat) : Int)
  · rw [decide_eq_true g] at h1
    exact ⟨fun z => absurd z (by omega), fun _ => ⟨fun _ => h1 rfl, fun z => absurd z (by omega)⟩⟩
  · rw [decide_eq_false g] at h0
    exact ⟨fun _ => h0 rfl, fun z => ⟨fun z2 => absurd ⟨by omega, by omega⟩ g, fun _ => h0 rfl⟩⟩
theorem k_testRowLine {p : Int32} {post : Prop} {px : String → Prop} (h0 : inR p 0 14 = false → px xIOB) (h1 : inR p 0 14 = true → post) : wp_X4_testRowLine p post px := by
  unfold wp_X4_testRowLine
  refine k_isRowLine ?_
  rw [bI_br]
  unfold inR at h0 h1
  by_cases g : 0 ≤ p.toInt ∧ p.toInt < 15
  · rw [decide_eq_true g, if_pos rfl]
    exact h1 (decide_eq_true (by omega))
  · rw [decide_eq_false g, if_neg (by decide)]
    exact h0 (decide_eq_false (by omega))
theorem k_testHour {p : Int32} {post : Prop} {px : String → Prop} (h0 : inR p 7 17 = false → px xIAE) (h1 : inR p 7 17 = true → post) : wp_X4_testHour p post px := by
  unfold wp_X4_testHour wp_X4_testHour_12
  rw [fa_lt, show (7 : Int32).toInt = 7 from rfl, fa_le, show (17 : Int32).toInt = 17 from rfl]
  unfold inR at h0 h1
  by_cases g : ((7 : Nat) : Int) ≤ p.toInt ∧ p.toInt ≤ ((17 : Nat) : Int)
  · rw [decide_eq_true g] at h1
    exact ⟨fun z => absurd z (by omega), fun _ => ⟨fun _ => h1 rfl, fun z => absurd z (by omega)⟩⟩
  · rw [decide_eq_false g] at h0
    exact ⟨fun _ => h0 rfl, fun z => ⟨fun z2 => absurd ⟨by omega, by omega⟩ g, fun _ => h0 rfl⟩⟩
