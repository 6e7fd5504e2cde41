/-! the law's mathematics: what is kept, what answers are, that the pieces fill the opening -/
/-! each piece's history begins with its coming about -/
def HK (n : Nat) (pd : Nat → Nat → Nat) : Prop := ∀ p, p < n → pd p 15 = 1 ∧ 1 ≤ pd p 3
theorem HK.st {n p k v : Nat} {pd : Nat → Nat → Nat} (h : HK n pd) (hk : k ≠ 15 ∧ k ≠ 3) : HK n (st2 pd p k v) := fun q hq => by
  rw [st2_ne pd (q := q) (j := 15) (Or.inr (by omega)), st2_ne pd (q := q) (j := 3) (Or.inr (by omega))]
  exact h q hq
theorem HK.note {n p t : Nat} {pd : Nat → Nat → Nat} (h : HK n pd) : HK n (noteP pd p t) := fun q hq => by
  have g := h q hq
  unfold noteP
  split
  · by_cases e : q = p
    · subst e
      rw [st2_at, st2_ne _ (Or.inr (by omega)), st2_ne _ (Or.inr (by omega))]
      exact ⟨g.1, by omega⟩
    · rw [st2_ne _ (Or.inl e), st2_ne _ (Or.inl e), st2_ne _ (Or.inl e), st2_ne _ (Or.inl e)]
      exact g
  · exact g
theorem HK.col {n q k : Nat} {pd : Nat → Nat → Nat} (h : HK n pd) : HK n (colP pd q k) := by
  unfold colP
  split
  · exact h
  · exact (h.st (by omega)).note
theorem HK.fin {n : Nat} {own : Nat → Nat} {pd : Nat → Nat → Nat} (h : HK n pd) : ∀ k, HK n (finP own pd k)
  | 0 => h
  | k + 1 => by
    unfold finP
    split
    · exact ((HK.fin h k).st (by omega)).note
    · exact HK.fin h k
theorem HK.paint {n q k : Nat} {pd : Nat → Nat → Nat} (h : HK n pd) (h5 : pd q 2 < 5) : HK n (paintP pd q k) := by
  unfold paintP
  exact (((h.st (by omega)).st (by omega)).st (by omega)).note
theorem HK.fir {n q g m : Nat} {pd : Nat → Nat → Nat} (h : HK n pd) (hm : m ≤ 5) : HK n (firP pd q g m) := fun p hp => by
  have e1 : firP pd q g m p 15 = pd p 15 := by unfold firP; rw [if_neg (by omega)]
  have e2 : firP pd q g m p 3 = pd p 3 := by unfold firP; rw [if_neg (by omega)]
  rw [e1, e2]
  exact h p hp
theorem HK.repl {n q k : Nat} {pd : Nat → Nat → Nat} (h : HK n pd) : HK n (replP pd q k) := by
  unfold replP
  exact ((((h.st (by omega)).st (by omega)).st (by omega)).st (by omega)).note
theorem HK.div {n p c : Nat} {pd : Nat → Nat → Nat} (hP : InvP n pd) (hp : p < n) (h : HK n pd) : HK (n + 1) (noteP (noteP (st2 pd n 0 c) p 2) n 1) := fun q hq => by
  by_cases e : q = n
  · subst e
    have e0 : ∀ j, j ≠ 0 → noteP (st2 pd q 0 c) p 2 q j = 0 := fun j hj => by
      rw [noteP_q (by omega), st2_ne _ (Or.inr hj)]
      exact hP.2.2.1 q j (Nat.le_refl q)
    unfold noteP at e0 ⊢
    rw [e0 3 (by omega), if_pos (by omega), st2_ne _ (Or.inr (by omega)), st2_at, st2_at]
    exact ⟨rfl, by omega⟩
  · have g : HK n (noteP (noteP (st2 pd n 0 c) p 2) n 1) := ((h.st (by omega)).note).note
    exact g q (by omega)
/-- what more is kept: the heart, the histories -/
def JS (s : SG) : Prop := s.2.2.2.1 ≤ 5 ∧ HK s.1 s.2.2.1
/-- an outcome: one only; where it is a refusal nothing has changed; what is kept -/
def FN (s : SG) (P : Int32 → SG → Prop) : Prop := (∀ r1 t1 r2 t2, P r1 t1 → P r2 t2 → r1 = r2 ∧ t1 = t2) ∧ (∀ t, P (-99999999) t → t = s) ∧ ∀ r t, P r t → JS t
theorem FN.res {c : Nat} {V : Int32 → Prop} {s s' : SG} (hV : ∀ y1 y2, V y1 → V y2 → y1 = y2) (hn : s' = s ∨ ∀ y, c = 0 → V y → y ≠ -99999999) (h0 : JS s) (h1 : c = 0 → JS s') : FN s (RES c V s s') := by
  refine ⟨fun r1 t1 r2 t2 a b => ?_, fun t a => ?_, fun r t a => ?_⟩
  · rcases a with ⟨a1, a2, a3⟩ | ⟨a1, a2, a3⟩ <;> rcases b with ⟨b1, b2, b3⟩ | ⟨b1, b2, b3⟩
    · exact ⟨a2.trans b2.symm, a3.trans b3.symm⟩
    · exact absurd b1 a1
    · exact absurd a1 b1
    · exact ⟨hV _ _ a2 b2, a3.trans b3.symm⟩
  · rcases a with ⟨a1, a2, a3⟩ | ⟨a1, a2, a3⟩
    · exact a3
    · rcases hn with e | e
      · exact a3.trans e
      · exact absurd rfl (e _ a1 a2)
  · rcases a with ⟨a1, a2, a3⟩ | ⟨a1, a2, a3⟩
    · exact a3 ▸ h0
    · exact a3 ▸ h1 a1
theorem eq_fun {a : Int32} : ∀ y1 y2 : Int32, y1 = a → y2 = a → y1 = y2 := fun _ _ h1 h2 => h1.trans h2.symm
theorem nI_no {n : Nat} (h : n < 2147483648) : nI n ≠ -99999999 := fun z => by
  have e := congrArg Int32.toInt z
  rw [nI_toInt h] at e
  have e2 : (-99999999 : Int32).toInt = -99999999 := by decide
  omega
/-! one order of what is laid -/
theorem bef_no {own : Nat → Nat} {p q : Nat} (h1 : bef own p q) (h2 : bef own q p) : False := by
  unfold bef at h1 h2
  omega
theorem QS.one {n its m1 m2 : Nat} {own : Nat → Nat} {pd : Nat → Nat → Nat} {Q1 Q2 : Nat → Nat} (h1 : QS n own pd its m1 Q1) (h2 : QS n own pd its m2 Q2) : m1 = m2 ∧ ∀ i, i < m1 → Q1 i = Q2 i := by
  obtain ⟨a1, a2, a3⟩ := h1
  obtain ⟨b1, b2, b3⟩ := h2
  have key : ∀ i, i < m1 → i < m2 → Q1 i = Q2 i := by
    intro i
    induction i using Nat.strongRecOn with
    | _ i ih =>
      intro hi1 hi2
      obtain ⟨i', hi', ei'⟩ := b2 (Q1 i) (a1 i hi1).1 (a1 i hi1).2
      obtain ⟨k, hk, ek⟩ := a2 (Q2 i) (b1 i hi2).1 (b1 i hi2).2
      rcases Nat.lt_trichotomy i' i with g | g | g
      · have e := ih i' g (by omega) hi'
        have e2 := a3 i' i g hi1
        rw [e, ei'] at e2
        exact (bef_no e2 e2).elim
      · rw [g] at ei'; exact ei'.symm
      · have e1 := b3 i i' g hi'
        rw [ei'] at e1
        rcases Nat.lt_trichotomy k i with f | f | f
        · have e := ih k f hk (by omega)
          have e2 := b3 k i f hi2
          rw [← e, ek] at e2
          exact (bef_no e2 e2).elim
        · rw [f] at ek; exact ek
        · have e2 := a3 i k f hk
          rw [ek] at e2
          exact (bef_no e1 e2).elim
  have hm : m1 = m2 := by
    rcases Nat.lt_trichotomy m1 m2 with g | g | g
    · obtain ⟨k, hk, ek⟩ := a2 (Q2 m1) (b1 m1 g).1 (b1 m1 g).2
      have e2 := b3 k m1 hk g
      rw [← key k hk (by omega), ek] at e2
      exact (bef_no e2 e2).elim
    · exact g
    · obtain ⟨k, hk, ek⟩ := b2 (Q1 m2) (a1 m2 g).1 (a1 m2 g).2
      have e2 := a3 k m2 hk g
      rw [key k (by omega) hk, ek] at e2
      exact (bef_no e2 e2).elim
  exact ⟨hm, fun i hi => key i hi (by omega)⟩
theorem layF_cong {own : Nat → Nat} {sw : Nat} {Q1 Q2 : Nat → Nat} : ∀ {m : Nat}, (∀ i, i < m → Q1 i = Q2 i) → layF own sw Q1 m = layF own sw Q2 m
  | 0, _ => rfl
  | m + 1, h => by
    rw [layF, layF, layF_cong (m := m) (fun i hi => h i (by omega)), h m (by omega)]
theorem covN_cong {own : Nat → Nat} {sw : Nat} {Q1 Q2 : Nat → Nat} {m : Nat} (h : ∀ i, i < m → Q1 i = Q2 i) : covN own sw Q1 m = covN own sw Q2 m := fb_sm_cong (fun k hk => by rw [h k hk])
theorem laid_fun {s : SG} {p : Int32} : ∀ y1 y2 : Int32, oV_laid s p y1 → oV_laid s p y2 → y1 = y2 := fun y1 y2 ⟨m1, Q1, h1, _, e1⟩ ⟨m2, Q2, h2, _, e2⟩ => by
  obtain ⟨rfl, hq⟩ := h1.one h2
  rw [e1, e2, layF_cong hq]
theorem waste_fun {s : SG} {p : Int32} : ∀ y1 y2 : Int32, oV_waste s p y1 → oV_waste s p y2 → y1 = y2 := fun y1 y2 ⟨m1, Q1, h1, _, e1⟩ ⟨m2, Q2, h2, _, e2⟩ => by
  obtain ⟨rfl, hq⟩ := h1.one h2
  rw [e1, e2, layF_cong hq, covN_cong hq]
/-! the pieces fill the opening -/
theorem sm_one (q : Nat) : ∀ M, fb_sm (fun p => if decide (q = p) = true then 1 else 0) M = if q < M then 1 else 0
  | 0 => rfl
  | M + 1 => by
    rw [fb_sm_succ, sm_one q M]
    by_cases e : q = M
    · rw [if_neg (by omega), if_pos (decide_eq_true e), if_pos (by omega)]
    · rw [if_neg (show ¬ decide (q = M) = true by rw [decide_eq_true_iff]; exact e)]
      by_cases g : q < M
      · rw [if_pos g, if_pos (by omega)]
      · rw [if_neg g, if_neg (by omega)]
theorem sum_own {own : Nat → Nat} {M : Nat} : ∀ {N : Nat}, (∀ c, c < N → own c < M) → fb_sm (fun p => fb_ct (fun c => decide (own c = p)) N) M = N
  | 0, _ => by
    have e : fb_sm (fun p => fb_ct (fun c => decide (own c = p)) 0) M = fb_sm (fun _ => 0) M := fb_sm_cong (fun k _ => rfl)
    rw [e, fb_sm_const]; omega
  | N + 1, h => by
    have e : fb_sm (fun p => fb_ct (fun c => decide (own c = p)) (N + 1)) M = fb_sm (fun p => fb_ct (fun c => decide (own c = p)) N + (if decide (own N = p) = true then 1 else 0)) M := fb_sm_cong (fun k _ => rfl)
    rw [e, fb_sm_add, sum_own (fun c hc => h c (by omega)), sm_one, if_pos (h N (by omega))]
theorem pres_own {own : Nat → Nat} {c : Nat} (hc : c < 256) : pres own (own c) = true := decide_eq_true (fb_ct_pos.mpr ⟨c, hc, decide_eq_true rfl⟩)
theorem pres_lt {n p : Nat} {own : Nat → Nat} (hO : InvO n own) (h : pres own p = true) : p < n := by
  obtain ⟨c, hc, e⟩ := fb_ct_pos.mp (of_decide_eq_true h)
  have e := of_decide_eq_true e
  rw [← e]
  exact hO.2.2.1 c hc
theorem ct_from {p : Nat → Bool} {n : Nat} : ∀ {m : Nat}, n ≤ m → (∀ k, n ≤ k → k < m → p k = false) → fb_ct p m = fb_ct p n
  | 0, h, _ => by rw [show n = 0 by omega]
  | m + 1, h, g => by
    by_cases e : n = m + 1
    · rw [e]
    · rw [fb_ct_succ, g m (by omega) (by omega), ct_from (m := m) (by omega) (fun k h1 h2 => g k h1 (by omega))]
      rfl
theorem pres_no {n : Nat} {own : Nat → Nat} (hO : InvO n own) : ∀ k, n ≤ k → pres own k = false := fun k hk => by
  cases e : pres own k
  · rfl
  · have := pres_lt hO e; omega
theorem ct_60 {n : Nat} {own : Nat → Nat} (hO : InvO n own) : fb_ct (pres own) 60 = fb_ct (pres own) n := ct_from hO.2.1 (fun k h1 _ => pres_no hO k h1)
theorem sm_256 {n : Nat} {own : Nat → Nat} (hO : InvO n own) : fb_sm (fun p => cnt own p) 60 = 256 := sum_own (fun c hc => by have := hO.2.2.1 c hc; have := hO.2.1; omega)
theorem ct_ge1 {n : Nat} {own : Nat → Nat} (hO : InvO n own) : 1 ≤ fb_ct (pres own) n := fb_ct_pos.mpr ⟨own 0, hO.2.2.1 0 (by omega), pres_own (by omega)⟩
theorem ct_two {p : Nat → Bool} {n i j : Nat} (hi : p i = true) (hj : p j = true) (h : i < j) (hn : j < n) : 2 ≤ fb_ct p n := by
  have e1 := fb_ct_succ p i
  have e2 := fb_ct_succ p j
  rw [hi] at e1
  rw [hj] at e2
  have m1 := fb_ct_mono p (show i + 1 ≤ j by omega)
  have m2 := fb_ct_mono p (show j + 1 ≤ n by omega)
  rw [if_pos rfl] at e1 e2
  omega
theorem one_piece {n : Nat} {own : Nat → Nat} (hO : InvO n own) : fb_ct (pres own) n = 1 ↔ ∀ c, c < 256 → own c = own 0 := by
  constructor
  · intro h c hc
    rcases Nat.lt_trichotomy (own c) (own 0) with g | g | g
    · have := ct_two (pres_own hc) (pres_own (own := own) (c := 0) (by omega)) g (hO.2.2.1 0 (by omega)); omega
    · exact g
    · have := ct_two (pres_own (own := own) (c := 0) (by omega)) (pres_own hc) g (hO.2.2.1 c hc); omega
  · intro h
    have e : ∀ p, pres own p = decide (own 0 = p) := fun p => by
      by_cases g : own 0 = p
      · rw [decide_eq_true g, ← g]; exact pres_own (by omega)
      · rw [decide_eq_false g]
        cases e : pres own p
        · rfl
        · obtain ⟨c, hc, e2⟩ := fb_ct_pos.mp (of_decide_eq_true e)
          have e2 := of_decide_eq_true e2
          rw [h c hc] at e2
          exact absurd e2 g
    have h0 := hO.2.2.1 0 (by omega)
    have e1 : fb_ct (pres own) n = fb_ct (fun p => decide (own 0 = p)) n := fb_ct_cong (fun k _ => e k)
    rw [e1]
    have key : ∀ m, fb_ct (fun p => decide (own 0 = p)) m = if own 0 < m then 1 else 0 := by
      intro m
      induction m with
      | zero => rfl
      | succ m ih =>
        rw [fb_ct_succ, ih]
        by_cases g : own 0 = m
        · rw [if_neg (by omega), if_pos (decide_eq_true g), if_pos (by omega)]
        · rw [if_neg (show ¬ decide (own 0 = m) = true by rw [decide_eq_true_iff]; exact g)]
          by_cases f : own 0 < m
          · rw [if_pos f, if_pos (by omega)]
          · rw [if_neg f, if_neg (by omega)]
    rw [key, if_pos h0]
/-! the leads -/
theorem atZ_ix (own : Nat → Nat) {r c : Nat} (hr : r < 16) (hc : c < 16) : atZ own r c = (own (16 * r + c) : Int) := by
  unfold atZ
  rw [if_pos (by omega), Int.toNat_natCast, Int.toNat_natCast]
theorem atZ_ox (own : Nat → Nat) {r c : Int} (h : r < 0 ∨ 15 < r ∨ c < 0 ∨ 15 < c) : atZ own r c = -1 := by
  unfold atZ
  rw [if_neg (by omega)]
theorem df_1 {x y : Int} (h : x ≠ y) : df x y = 1 := if_neg h
theorem df_0 {x y : Int} (h : x = y) : df x y = 0 := if_pos h
theorem edge_0 (own : Nat → Nat) {b : Nat} (hb : b < 16) : vE own 0 b + hE own 0 b = 2 := by
  have e1 : vE own 0 b = 1 := by
    unfold vE
    rw [atZ_ox own (Or.inl (by omega)), show ((0 : Nat) : Int) = ((0 : Nat) : Int) from rfl, atZ_ix own (r := 0) (c := b) (by omega) hb]
    exact df_1 (by omega)
  have e2 : hE own 0 b = 1 := by
    unfold hE
    rw [atZ_ox own (r := (b : Int)) (c := ((0 : Nat) : Int) - 1) (by omega), atZ_ix own (r := b) (c := 0) hb (by omega)]
    exact df_1 (by omega)
  omega
theorem edge_16 (own : Nat → Nat) {b : Nat} (hb : b < 16) : vE own 16 b + hE own 16 b = 2 := by
  have e1 : vE own 16 b = 1 := by
    unfold vE
    rw [atZ_ox own (r := ((16 : Nat) : Int)) (c := (b : Int)) (by omega), show ((16 : Nat) : Int) - 1 = ((15 : Nat) : Int) by omega, atZ_ix own (r := 15) (c := b) (by omega) hb]
    exact df_1 (by omega)
  have e2 : hE own 16 b = 1 := by
    unfold hE
    rw [atZ_ox own (r := (b : Int)) (c := ((16 : Nat) : Int)) (by omega), show ((16 : Nat) : Int) - 1 = ((15 : Nat) : Int) by omega, atZ_ix own (r := b) (c := 15) hb (by omega)]
    exact df_1 (by omega)
  omega
theorem edge_in (own : Nat → Nat) {a b : Nat} (ha : a < 15) (hb : b < 16) : vE own (a + 1) b = (if own (16 * a + b) = own (16 * (a + 1) + b) then 0 else 1) ∧ hE own (a + 1) b = (if own (16 * b + a) = own (16 * b + (a + 1)) then 0 else 1) := by
  have e : ((a + 1 : Nat) : Int) - 1 = (a : Int) := by omega
  constructor
  · unfold vE
    rw [e, atZ_ix own (r := a) (c := b) (by omega) hb, atZ_ix own (r := a + 1) (c := b) (by omega) hb]
    unfold df
    by_cases g : own (16 * a + b) = own (16 * (a + 1) + b)
    · rw [if_pos (by omega), if_pos g]
    · rw [if_neg (by omega), if_neg g]
  · unfold hE
    rw [e, atZ_ix own (r := b) (c := a) hb (by omega), atZ_ix own (r := b) (c := a + 1) hb (by omega)]
    unfold df
    by_cases g : own (16 * b + a) = own (16 * b + (a + 1))
    · rw [if_pos (by omega), if_pos g]
    · rw [if_neg (by omega), if_neg g]
def midN (own : Nat → Nat) : Nat := fb_sm (fun a => fb_sm (fun b => vE own (a + 1) b + hE own (a + 1) b) 16) 15
theorem len_mid (own : Nat → Nat) : lenN own = 64 + midN own := by
  have h0 : fb_sm (fun b => vE own 0 b + hE own 0 b) 16 = 32 := by
    rw [fb_sm_cong (g := fun _ => 2) (fun k hk => edge_0 own hk), fb_sm_const]
  have h16 : fb_sm (fun b => vE own 16 b + hE own 16 b) 16 = 32 := by
    rw [fb_sm_cong (g := fun _ => 2) (fun k hk => edge_16 own hk), fb_sm_const]
  have e1 : lenN own = fb_sm (fun a => fb_sm (fun b => vE own a b + hE own a b) 16) 16 + 32 := by
    have e := fb_sm_succ (fun a => fb_sm (fun b => vE own a b + hE own a b) 16) 16
    rw [h16] at e
    exact e
  have e2 := fb_sm_split (fun a => fb_sm (fun b => vE own a b + hE own a b) 16) 1 15
  have e3 : fb_sm (fun a => fb_sm (fun b => vE own a b + hE own a b) 16) 1 = 32 := by
    have e := fb_sm_succ (fun a => fb_sm (fun b => vE own a b + hE own a b) 16) 0
    rw [h0] at e
    exact e
  have e4 : fb_sm (fun k => fb_sm (fun b => vE own (1 + k) b + hE own (1 + k) b) 16) 15 = midN own := fb_sm_cong (fun k _ => by rw [Nat.add_comm 1 k])
  rw [e4, e3] at e2
  rw [e1]
  have e5 : fb_sm (fun a => fb_sm (fun b => vE own a b + hE own a b) 16) 16 = fb_sm (fun a => fb_sm (fun b => vE own a b + hE own a b) 16) (1 + 15) := rfl
  rw [e5, e2]
  omega
theorem mid_0 (own : Nat → Nat) : midN own = 0 ↔ ∀ c, c < 256 → own c = own 0 := by
  constructor
  · intro h
    have h1 : ∀ a, a < 15 → ∀ b, b < 16 → own (16 * a + b) = own (16 * (a + 1) + b) ∧ own (16 * b + a) = own (16 * b + (a + 1)) := fun a ha b hb => by
      have g := fb_sm_zero (fb_sm_zero h a ha) b hb
      have g : vE own (a + 1) b + hE own (a + 1) b = 0 := g
      obtain ⟨e1, e2⟩ := edge_in own ha hb
      rw [e1, e2] at g
      constructor
      · by_cases f : own (16 * a + b) = own (16 * (a + 1) + b)
        · exact f
        · rw [if_neg f] at g; omega
      · by_cases f : own (16 * b + a) = own (16 * b + (a + 1))
        · exact f
        · rw [if_neg f] at g; omega
    have hrow : ∀ r, r < 16 → own (16 * r) = own 0 := by
      intro r
      induction r with
      | zero => intro _; rfl
      | succ r ih =>
        intro hr
        have := (h1 r (by omega) 0 (by omega)).1
        rw [Nat.add_zero, Nat.add_zero] at this
        rw [← this]
        exact ih (by omega)
    have hcell : ∀ r, r < 16 → ∀ k, k < 16 → own (16 * r + k) = own 0 := by
      intro r hr k
      induction k with
      | zero => intro _; exact hrow r hr
      | succ k ih =>
        intro hk
        rw [← (h1 k (by omega) r hr).2]
        exact ih (by omega)
    intro c hc
    have := hcell (c / 16) (by omega) (c % 16) (by omega)
    rw [show 16 * (c / 16) + c % 16 = c by omega] at this
    exact this
  · intro h
    unfold midN
    have e : ∀ a, a < 15 → fb_sm (fun b => vE own (a + 1) b + hE own (a + 1) b) 16 = 0 := fun a ha => by
      rw [fb_sm_cong (g := fun _ => 0) (fun b hb => by
        obtain ⟨e1, e2⟩ := edge_in own ha hb
        rw [e1, e2, if_pos (by rw [h _ (by omega), h (16 * (a + 1) + b) (by omega)]), if_pos (by rw [h _ (by omega), h (16 * b + (a + 1)) (by omega)])]), fb_sm_const]
    rw [fb_sm_cong (g := fun _ => 0) e, fb_sm_const]
theorem len_64 {n : Nat} {own : Nat → Nat} (hO : InvO n own) : lenN own = 64 ↔ fb_ct (pres own) n = 1 := by
  rw [one_piece hO, ← mid_0, len_mid]
  omega
theorem len_small (own : Nat → Nat) : lenN own < 2000 := by
  have h : lenN own ≤ 17 * 32 := fb_sm_bound (fun a _ => by
    have g : fb_sm (fun b => vE own a b + hE own a b) 16 ≤ 16 * 2 := fb_sm_bound (fun b _ => by
      have d1 := df_01 (atZ own ((a : Int) - 1) b) (atZ own a b)
      have d2 := df_01 (atZ own b ((a : Int) - 1)) (atZ own b a)
      show df _ _ + df _ _ ≤ 2
      omega)
    exact g)
  omega
/-! the order of putting together -/
theorem asA_end {own : Nat → Nat} {n : Nat} (h : fb_ct (pres own) n < 2147483648) : asA own n (nI (fb_ct (pres own) n)) = -1 := by
  unfold asA
  rw [nI_toInt h, decide_eq_false (by omega), Bool.and_false]
  rfl
theorem nI_m1 {n : Nat} (h : n < 2147483648) : nI n ≠ -1 := fun z => by
  have e := congrArg Int32.toInt z
  rw [nI_toInt h] at e
  have e2 : (-1 : Int32).toInt = -1 := by decide
  omega
theorem asA_ends {own : Nat → Nat} {n : Nat} (hn : n ≤ 60) (h : 1 ≤ fb_ct (pres own) n) : (asA own n 0 = -1) ↔ (asA own n (nI (fb_ct (pres own) n - 1)) = -1) := by
  have hb : fb_ct (pres own) n ≤ 60 := Nat.le_trans (fb_ct_le _ _) hn
  unfold asA
  rw [nI_toInt (show fb_ct (pres own) n - 1 < 2147483648 by omega), show (0 : Int32).toInt = 0 from rfl, decide_eq_true (show (0 : Int) ≤ 0 ∧ (0 : Int) < (fb_ct (pres own) n : Int) by omega), decide_eq_true (show (0 : Int) ≤ ((fb_ct (pres own) n - 1 : Nat) : Int) ∧ ((fb_ct (pres own) n - 1 : Nat) : Int) < (fb_ct (pres own) n : Int) by omega), Bool.and_true]
  cases e : allB (fun k => decide (asO own n k < n)) (fb_ct (pres own) n)
  · exact ⟨fun _ => rfl, fun _ => rfl⟩
  · have hle : ∀ k, asO own n k < 2147483648 := fun k => by
      have := fa_first_le (rdyB own (asI own n k)) n
      unfold asO
      omega
    rw [if_pos rfl, if_pos rfl]
    exact ⟨fun z => absurd z (nI_m1 (hle _)), fun z => absurd z (nI_m1 (hle _))⟩
