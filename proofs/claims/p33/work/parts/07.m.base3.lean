/-! worlds with a pool of pieces; a cut out of a world and its way back; throws -/
section B3
variable {p : Program} {l : Launch} {e : Env} {R : Room} {s : State} {m : MethodId} {args : Array Value} {below : List Frame} {meth : Method} {c : Code} {H : Heap} {locs : List Loc} {cells slots : Nat} {Q : State → Prop}
variable {D : va_G} {cI cJ cZ cO : ClassId} {A0 : Nat → Prop} {H0 : Heap}
theorem va_P_app {w1 w2 : va_W} : va_P D vwCl (w1 ++ w2) H ↔ va_P D vwCl w1 H ∧ va_P D vwCl w2 H := by
  refine ⟨fun h => ⟨fun k q hk => h k q ?_, fun k q hk => h (w1.length + k) q ?_⟩, fun h => va_P.app h.1 h.2⟩
  · rw [List.getElem?_append_left (List.getElem?_eq_some_iff.mp hk).1]; exact hk
  · rw [List.getElem?_append_right (Nat.le_add_right _ _), Nat.add_sub_cancel_left]; exact hk
theorem va_D_app {w1 w2 : va_W} : va_D A0 (w1 ++ w2) ↔ va_D A0 w1 ∧ va_D A0 w2 ∧ ∀ p ∈ w1, ∀ q ∈ w2, p.1 ≠ q.1 := by
  constructor
  · intro h
    have g1 : ∀ (k : Nat) (q : Nat × va_E), w1[k]? = some q → (w1 ++ w2)[k]? = some q := fun k q hk => by
      rw [List.getElem?_append_left (List.getElem?_eq_some_iff.mp hk).1]; exact hk
    have g2 : ∀ (k : Nat) (q : Nat × va_E), w2[k]? = some q → (w1 ++ w2)[w1.length + k]? = some q := fun k q hk => by
      rw [List.getElem?_append_right (Nat.le_add_right _ _), Nat.add_sub_cancel_left]; exact hk
    refine ⟨⟨fun i j p q hi hj hpq => h.1 i j p q (g1 i p hi) (g1 j q hj) hpq, fun k q hk => h.2 k q (g1 k q hk)⟩, ⟨fun i j p q hi hj hpq => ?_, fun k q hk => h.2 _ q (g2 k q hk)⟩, fun p hp q hq hpq => ?_⟩
    · have := h.1 _ _ p q (g2 i p hi) (g2 j q hj) hpq
      omega
    · obtain ⟨i, hi⟩ := List.getElem?_of_mem hp
      obtain ⟨j, hj⟩ := List.getElem?_of_mem hq
      have h1 := h.1 _ _ p q (g1 i p hi) (g2 j q hj) hpq
      have h2 := (List.getElem?_eq_some_iff.mp hi).1
      omega
  · rintro ⟨h1, h2, h3⟩
    exact va_D.app h1 h2 (fun i j p q hi hj => h3 p (List.mem_of_getElem? hi) q (List.mem_of_getElem? hj))
/-- pieces: each with its own cells -/
def pool (F : Nat → va_W) (n : Nat) : va_W := (List.range n).flatMap F
theorem pool_split (F : Nat → va_W) {i n : Nat} (hi : i < n) : ∃ l1 l2 : List Nat, i ∉ l1 ∧ i ∉ l2 ∧ pool F n = l1.flatMap F ++ (F i ++ l2.flatMap F) ∧ ∀ F' : Nat → va_W, (∀ j, j ≠ i → F' j = F j) → pool F' n = l1.flatMap F ++ (F' i ++ l2.flatMap F) := by
  obtain ⟨l1, l2, h⟩ := List.append_of_mem (List.mem_range.mpr hi)
  have hnd : (l1 ++ i :: l2).Nodup := by rw [← h]; exact List.nodup_range
  have h1 : i ∉ l1 := fun hm => by
    have := (List.nodup_append.mp hnd).2.2 i hm i List.mem_cons_self
    exact this rfl
  have h2 : i ∉ l2 := by
    have := (List.nodup_append.mp hnd).2.1
    exact (List.nodup_cons.mp this).1
  refine ⟨l1, l2, h1, h2, ?_, fun F' hF' => ?_⟩
  · rw [pool, h, List.flatMap_append, List.flatMap_cons]
  · have e1 : ∀ l : List Nat, i ∉ l → l.flatMap F' = l.flatMap F := fun l hl => by
      induction l with
      | nil => rfl
      | cons a t ih =>
        rw [List.flatMap_cons, List.flatMap_cons, ih (fun z => hl (List.mem_cons_of_mem _ z)), hF' a (fun z => hl (z ▸ List.mem_cons_self))]
    rw [pool, h, List.flatMap_append, List.flatMap_cons, e1 l1 h1, e1 l2 h2]
theorem world_swap {X L1 E L2 : va_W} (h : va_P D vwCl (X ++ (L1 ++ (E ++ L2))) H ∧ va_D A0 (X ++ (L1 ++ (E ++ L2)))) : va_P D vwCl (E ++ (X ++ (L1 ++ L2))) H ∧ va_D A0 (E ++ (X ++ (L1 ++ L2))) := by
  simp only [va_P_app, va_D_app, List.mem_append] at h ⊢
  obtain ⟨⟨p1, p2, p3, p4⟩, ⟨d1, ⟨d2, ⟨d3, d4, x1⟩, x2⟩, x3⟩⟩ := h
  refine ⟨⟨p3, p1, p2, p4⟩, d3, ⟨d1, ⟨d2, d4, fun a ha b hb => x2 a ha b (Or.inr hb)⟩, fun a ha b hb => x3 a ha b (hb.elim Or.inl (fun z => Or.inr (Or.inr z)))⟩, fun a ha b hb => ?_⟩
  rcases hb with hb | hb | hb
  · exact fun z => x3 b hb a (Or.inr (Or.inl ha)) z.symm
  · exact fun z => x2 b hb a (Or.inl ha) z.symm
  · exact x1 a ha b hb
theorem world_back {X L1 E L2 : va_W} (h : va_P D vwCl (E ++ (X ++ (L1 ++ L2))) H ∧ va_D A0 (E ++ (X ++ (L1 ++ L2)))) : va_P D vwCl (X ++ (L1 ++ (E ++ L2))) H ∧ va_D A0 (X ++ (L1 ++ (E ++ L2))) := by
  simp only [va_P_app, va_D_app, List.mem_append] at h ⊢
  obtain ⟨⟨p3, p1, p2, p4⟩, d3, ⟨d1, ⟨d2, d4, y1⟩, y2⟩, y3⟩ := h
  refine ⟨⟨p1, p2, p3, p4⟩, d1, ⟨d2, ⟨d3, d4, fun a ha b hb => y3 a ha b (Or.inr (Or.inr hb))⟩, fun a ha b hb => ?_⟩, fun a ha b hb => ?_⟩
  · rcases hb with hb | hb
    · exact fun z => y3 b hb a (Or.inr (Or.inl ha)) z.symm
    · exact y1 a ha b hb
  · rcases hb with hb | hb | hb
    · exact y2 a ha b (Or.inl hb)
    · exact fun z => y3 b hb a (Or.inl ha) z.symm
    · exact y2 a ha b (Or.inr hb)
/-- one piece's cells in front, and back again with what it has become -/
theorem pool_out {X : va_W} {F : Nat → va_W} {n i : Nat} (hP : va_P D vwCl (X ++ pool F n) H) (hD : va_D A0 (X ++ pool F n)) (hi : i < n) : ∃ rest : va_W, va_P D vwCl (F i ++ rest) H ∧ va_D A0 (F i ++ rest) ∧
    ∀ (F' : Nat → va_W), (∀ j, j ≠ i → F' j = F j) → ∀ (H1 : Heap) (A1 : Nat → Prop), va_P D vwCl (F' i ++ rest) H1 → va_D A1 (F' i ++ rest) → va_P D vwCl (X ++ pool F' n) H1 ∧ va_D A1 (X ++ pool F' n) := by
  obtain ⟨l1, l2, -, -, h1, h2⟩ := pool_split F hi
  rw [h1] at hP hD
  obtain ⟨g1, g2⟩ := world_swap ⟨hP, hD⟩
  refine ⟨_, g1, g2, fun F' hF' H1 A1 k1 k2 => ?_⟩
  rw [h2 F' hF']
  exact world_back ⟨k1, k2⟩
theorem pool_at {X : va_W} {F : Nat → va_W} {n i : Nat} (hP : va_P D vwCl (X ++ pool F n) H) (hi : i < n) : ∃ rest : va_W, va_P D vwCl (F i ++ rest) H := by
  obtain ⟨l1, l2, -, -, h1, -⟩ := pool_split F hi
  rw [h1] at hP
  simp only [va_P_app] at hP
  exact ⟨[], by rw [List.append_nil]; exact hP.2.2.1⟩
/-- what a callee takes of the world, and the world behind it -/
def Cut (D : va_G) (A0 : Nat → Prop) (H : Heap) {S : Type} (wc : va_W) (w1 wa : S → va_W) : Prop :=
  va_P D vwCl wc H ∧ va_D (fun _ => True) wc ∧ (∀ q, va_A wc H.size q → A0 q) ∧
  ∀ (u : S) (H1 : Heap), va_P D vwCl (w1 u) H1 → va_D (va_A wc H.size) (w1 u) → (∀ q : Nat, q < H.size → ¬ va_A wc H.size q → H1[q]? = H[q]?) → va_P D vwCl (wa u) H1 ∧ va_D A0 (wa u)
theorem Cut.mono {S : Type} {wc : va_W} {w1 wa wb : S → va_W} (h : Cut D A0 H wc w1 wa) (hm : ∀ (u : S) (H1 : Heap), va_P D vwCl (wa u) H1 → va_D A0 (wa u) → va_P D vwCl (wb u) H1 ∧ va_D A0 (wb u)) : Cut D A0 H wc w1 wb :=
  ⟨h.1, h.2.1, h.2.2.1, fun u H1 h1 h2 h3 => by obtain ⟨k1, k2⟩ := h.2.2.2 u H1 h1 h2 h3; exact hm u H1 k1 k2⟩
theorem cut0 {S : Type} {X cx pl : va_W} {w1 X' : S → va_W} (hP : va_P D vwCl (X ++ pl) H) (hD : va_D A0 (X ++ pl)) (hS : va_S A0 H0 H locs) (hA : ∀ q, H0.size ≤ q → A0 q)
    (isC isR is2 : List Nat) (hC : isC.map (fun i => X[i]?) = cx.map some) (hR : isR.map (fun i => X[i]?) = (isR.filterMap (fun i => X[i]?)).map some) (hnC : va_nd isC = true) (hn : va_nd isR = true) (hdis : ∀ i ∈ isR, i ∉ isC) (hs2 : ∀ u, is2.map (fun i => (isR.filterMap (fun i => X[i]?) ++ w1 u)[i]?) = (X' u).map some) (hn2 : va_nd is2 = true) : Cut D A0 H cx w1 (fun u => X' u ++ pl) :=
  ⟨hP.pre isC hC, (hD.pre isC hnC hC).weaken (fun _ _ _ _ => trivial), va_free0 hD hS hA isC hC, fun u H1 h1 h2 h3 => by
    obtain ⟨g1, g2⟩ := va_joinQ hP hD isC isR hC hR hn hdis h3 (va_free0 hD hS hA isC hC) h1 h2
    exact ⟨g1.part is2 (hs2 u), g2.part is2 hn2 (hs2 u)⟩⟩
theorem va_freePP {X cx pl : va_W} (hD : va_D A0 (X ++ pl)) (hS : va_S A0 H0 H locs) (hA : ∀ q, H0.size ≤ q → A0 q) (isC : List Nat) (hC : isC.map (fun i => X[i]?) = cx.map some) : ∀ q, va_A (cx ++ pl) H.size q → A0 q := by
  intro q h
  rcases h with ⟨k, e, h⟩ | h
  · have h3 := va_part isC hC k (q, e) h
    exact hD.2 _ _ h3
  · exact hA q (Nat.le_trans hS.1 h)
theorem cutP {S : Type} {X cx pl : va_W} {rx pl1 X' : S → va_W} (hP : va_P D vwCl (X ++ pl) H) (hD : va_D A0 (X ++ pl)) (hS : va_S A0 H0 H locs) (hA : ∀ q, H0.size ≤ q → A0 q)
    (isC isR is2 : List Nat) (hC : isC.map (fun i => X[i]?) = cx.map some) (hR : isR.map (fun i => X[i]?) = (isR.filterMap (fun i => X[i]?)).map some) (hnC : va_nd isC = true) (hn : va_nd isR = true) (hdis : ∀ i ∈ isR, i ∉ isC) (hs2 : ∀ u, is2.map (fun i => (isR.filterMap (fun i => X[i]?) ++ rx u)[i]?) = (X' u).map some) (hn2 : va_nd is2 = true) : Cut D A0 H (cx ++ pl) (fun u => rx u ++ pl1 u) (fun u => X' u ++ pl1 u) :=
  ⟨hP.part isC hC, (hD.part isC hnC hC).weaken (fun _ _ _ _ => trivial), va_freePP hD hS hA isC hC, fun u H1 h1 h2 h3 => by
    obtain ⟨g1, g2⟩ := va_joinP hP hD isC isR hC hR hn hdis h3 (va_freePP hD hS hA isC hC) h1 h2
    exact ⟨g1.part is2 (hs2 u), g2.part is2 hn2 (hs2 u)⟩⟩
theorem cutE {S : Type} {X cx : va_W} {F : Nat → va_W} {F' : S → Nat → va_W} {Fi w1 : S → va_W} {n i : Nat} (hP : va_P D vwCl (X ++ pool F n) H) (hD : va_D A0 (X ++ pool F n)) (hS : va_S A0 H0 H locs) (hA : ∀ q, H0.size ≤ q → A0 q) (hi : i < n)
    (isC isR is2 : List Nat) (hC : isC.map (fun k => (F i)[k]?) = cx.map some) (hR : isR.map (fun k => (F i)[k]?) = (isR.filterMap (fun k => (F i)[k]?)).map some) (hnC : va_nd isC = true) (hn : va_nd isR = true) (hdis : ∀ k ∈ isR, k ∉ isC) (hs2 : ∀ u, is2.map (fun k => (isR.filterMap (fun k => (F i)[k]?) ++ w1 u)[k]?) = (Fi u).map some) (hn2 : va_nd is2 = true) (hFi : ∀ u, F' u i = Fi u) (hF : ∀ u j, j ≠ i → F' u j = F j) : Cut D A0 H cx w1 (fun u => X ++ pool (F' u) n) := by
  obtain ⟨rest, h1, h2, h3⟩ := pool_out hP hD hi
  exact (cut0 (X' := Fi) h1 h2 hS hA isC isR is2 hC hR hnC hn hdis hs2 hn2).mono (fun u H1 k1 k2 => h3 (F' u) (hF u) H1 A0 (by rw [hFi]; exact k1) (by rw [hFi]; exact k2))
theorem Cut.preS {S : Type} {wc : va_W} {w1 wa : S → va_W} {av : List Value} (h : Cut D A0 H wc w1 wa) (hK : va_K D vwCl (TY cI cJ cZ cO) s) (hE : EN s) : PreS s H (va_Pc av (PRE D cI cJ cZ cO wc H.size)) av :=
  ⟨PRE.blind, fun U hU hW => ⟨rfl, by rw [hU], by rw [hU]; exact h.1, va_K.moved hW.alike hK, h.2.1, hE.warm hW⟩⟩
theorem Cut.preV {S : Type} {wc : va_W} {w1 wa : S → va_W} {As : List Value} {C : String} {T : u_T} {N qb ci b : Nat} {fs : List Value} (h : Cut D A0 H wc w1 wa) (hK : va_K D vwCl (TY cI cJ cZ cO) s) (hE : EN s) (hb : wc[qb]? = some (b, .inr (ci, fs))) (hc : vwCl[ci]? = some (C, T, N)) : PreV s H C b (va_Pc (.ref b :: As) (PRE D cI cJ cZ cO wc H.size)) As :=
  ⟨PRE.blind, va_recv (q := (C, T, N)) hK h.1 hc hb, fun U hU hW => ⟨rfl, by rw [hU], by rw [hU]; exact h.1, va_K.moved hW.alike hK, h.2.1, hE.warm hW⟩⟩
section CA
variable {wc : va_W} {st0 rest : List Value} {pc mc ms : Nat} {ls : Array Slot} {av : Array Value}
theorem ca_i {S : Type} {post : Int32 → S → Prop} {w1 wa : S → va_W} (hC : Cut D A0 H wc w1 wa) (hS : va_S A0 H0 H locs)
    (hr : va_Run p l e R s m args below meth c H locs cells slots mc ms (F0 m pc ls st0) rest (va_Qi post (fun u t => POST D (va_A wc H.size) (w1 u) t) (va_A wc H.size) av) (va_A wc H.size))
    (kk : ∀ (r : Int32) (u : S) (H1 : Heap) (locs1 : List Loc), post r u → va_P D vwCl (wa u) H1 → va_D A0 (wa u) → va_S A0 H0 H1 locs1 → W p l e R s m args below meth c H1 locs1 (cells + mc) (slots + ms) Q (F0 m (pc + 3) ls (.int r :: rest))) : W p l e R s m args below meth c H locs cells slots Q (F0 m pc ls st0) := by
  refine va_calli hr hS (fun q _ h => hC.2.2.1 q h) hC.2.2.1 (fun r u t H1 locs1 ht hvm hw hB hz1 hk1 hS => ?_)
  obtain ⟨hP1, hD1⟩ := hB
  rw [ht] at hP1
  obtain ⟨hP, hD⟩ := hC.2.2.2 u H1 hP1 hD1 hk1
  exact kk r u H1 locs1 hw hP hD hS
theorem ca_l {S : Type} {post : Int64 → S → Prop} {w1 wa : S → va_W} (hC : Cut D A0 H wc w1 wa) (hS : va_S A0 H0 H locs)
    (hr : va_Run p l e R s m args below meth c H locs cells slots mc ms (F0 m pc ls st0) rest (va_Ql post (fun u t => POST D (va_A wc H.size) (w1 u) t) (va_A wc H.size) av) (va_A wc H.size))
    (kk : ∀ (r : Int64) (u : S) (H1 : Heap) (locs1 : List Loc), post r u → va_P D vwCl (wa u) H1 → va_D A0 (wa u) → va_S A0 H0 H1 locs1 → W p l e R s m args below meth c H1 locs1 (cells + mc) (slots + ms) Q (F0 m (pc + 3) ls (.long r :: rest))) : W p l e R s m args below meth c H locs cells slots Q (F0 m pc ls st0) := by
  refine va_calll hr hS (fun q _ h => hC.2.2.1 q h) hC.2.2.1 (fun r u t H1 locs1 ht hvm hw hB hz1 hk1 hS => ?_)
  obtain ⟨hP1, hD1⟩ := hB
  rw [ht] at hP1
  obtain ⟨hP, hD⟩ := hC.2.2.2 u H1 hP1 hD1 hk1
  exact kk r u H1 locs1 hw hP hD hS
theorem ca_v {S : Type} {post : S → Prop} {w1 wa : S → va_W} (hC : Cut D A0 H wc w1 wa) (hS : va_S A0 H0 H locs)
    (hr : va_Run p l e R s m args below meth c H locs cells slots mc ms (F0 m pc ls st0) rest (va_Qv post (fun u t => POST D (va_A wc H.size) (w1 u) t) (va_A wc H.size) av) (va_A wc H.size))
    (kk : ∀ (u : S) (H1 : Heap) (locs1 : List Loc), post u → va_P D vwCl (wa u) H1 → va_D A0 (wa u) → va_S A0 H0 H1 locs1 → W p l e R s m args below meth c H1 locs1 (cells + mc) (slots + ms) Q (F0 m (pc + 3) ls rest)) : W p l e R s m args below meth c H locs cells slots Q (F0 m pc ls st0) := by
  refine va_callv hr hS (fun q _ h => hC.2.2.1 q h) hC.2.2.1 (fun u t H1 locs1 ht hvm hw hB hz1 hk1 hS => ?_)
  obtain ⟨hP1, hD1⟩ := hB
  rw [ht] at hP1
  obtain ⟨hP, hD⟩ := hC.2.2.2 u H1 hP1 hD1 hk1
  exact kk u H1 locs1 hw hP hD hS
/-- a callee that answers a cell: which one, its post says ('ra' of the answer's tuple) -/
theorem ca_r {S : Type} {post : S → Prop} {ra : S → Nat} {w1 wa : S → va_W} (hC : Cut D A0 H wc w1 wa) (hS : va_S A0 H0 H locs)
    (hr : va_Run p l e R s m args below meth c H locs cells slots mc ms (F0 m pc ls st0) rest (va_Qr post (fun u a t => a = ra u ∧ POST D (va_A wc H.size) (w1 u) t) (va_A wc H.size) av) (va_A wc H.size))
    (kk : ∀ (u : S) (H1 : Heap) (locs1 : List Loc), post u → va_P D vwCl (wa u) H1 → va_D A0 (wa u) → va_S A0 H0 H1 locs1 → W p l e R s m args below meth c H1 locs1 (cells + mc) (slots + ms) Q (F0 m (pc + 3) ls (.ref (ra u) :: rest))) : W p l e R s m args below meth c H locs cells slots Q (F0 m pc ls st0) := by
  refine va_callr hr hS (fun q _ h => hC.2.2.1 q h) hC.2.2.1 (fun u a t H1 locs1 ht hvm hw hB hz1 hk1 hS => ?_)
  obtain ⟨rfl, hP1, hD1⟩ := hB
  rw [ht] at hP1
  obtain ⟨hP, hD⟩ := hC.2.2.2 u H1 hP1 hD1 hk1
  exact kk u H1 locs1 hw hP hD hS
/-- an answer that is a reference or null -/
theorem ca_q {S : Type} {post : Option Nat → S → Prop} {w1 wa : S → va_W} (hC : Cut D A0 H wc w1 wa) (hS : va_S A0 H0 H locs)
    (hr : va_Run p l e R s m args below meth c H locs cells slots mc ms (F0 m pc ls st0) rest (va_Qq post (fun u t => POST D (va_A wc H.size) (w1 u) t) (va_A wc H.size) av) (va_A wc H.size))
    (kk : ∀ (r : Option Nat) (u : S) (H1 : Heap) (locs1 : List Loc), post r u → va_P D vwCl (wa u) H1 → va_D A0 (wa u) → va_S A0 H0 H1 locs1 → W p l e R s m args below meth c H1 locs1 (cells + mc) (slots + ms) Q (F0 m (pc + 3) ls (va_rf r :: rest))) : W p l e R s m args below meth c H locs cells slots Q (F0 m pc ls st0) := by
  refine va_callq hr hS (fun q _ h => hC.2.2.1 q h) hC.2.2.1 (fun r u t H1 locs1 ht hvm hw hB hz1 hk1 hS => ?_)
  obtain ⟨hP1, hD1⟩ := hB
  rw [ht] at hP1
  obtain ⟨hP, hD⟩ := hC.2.2.2 u H1 hP1 hD1 hk1
  exact kk r u H1 locs1 hw hP hD hS
end CA
end B3
