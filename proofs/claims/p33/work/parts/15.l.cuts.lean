/-! cuts of one of two worlds -/
section CUTS
variable {D : va_G} {A0 : Nat → Prop} {H0 H : Heap} {locs : List Loc}
theorem part_free {P M wc : va_W} (hP : va_P D vwCl (P ++ M) H) (hD : va_D A0 (P ++ M)) (hF : ∀ q, va_A wc H.size q → va_A M H.size q) : ∀ a ∈ P, ¬ va_A wc H.size a.1 := by
  obtain ⟨p1, -⟩ := va_P_app.mp hP
  obtain ⟨-, -, x1⟩ := va_D_app.mp hD
  intro a ha hv
  obtain ⟨k, hk⟩ := List.mem_iff_getElem?.mp ha
  rcases hF _ hv with ⟨k2, e2, h⟩ | h
  · exact x1 a ha (a.1, e2) (List.mem_of_getElem? h) rfl
  · exact absurd (p1 k a hk).lt (Nat.not_lt.mpr h)
theorem Cut.right {S : Type} {P M wc : va_W} {w1 wa : S → va_W} (hP : va_P D vwCl (P ++ M) H) (hD : va_D A0 (P ++ M)) (hS : va_S A0 H0 H locs) (hA : ∀ q, H0.size ≤ q → A0 q) (C : Cut D (va_A M H.size) H wc w1 wa) : Cut D A0 H wc w1 (fun u => P ++ wa u) := by
  obtain ⟨p1, p2⟩ := va_P_app.mp hP
  obtain ⟨d1, d2, x1⟩ := va_D_app.mp hD
  have hF : ∀ q, va_A M H.size q → A0 q := by
    intro q h
    rcases h with ⟨k, e, h⟩ | h
    · exact d2.2 k _ h
    · exact hA q (Nat.le_trans hS.1 h)
  refine ⟨C.1, C.2.1, fun q h => hF q (C.2.2.1 q h), fun u H1 h1 h2 h3 => ?_⟩
  obtain ⟨g1, g2⟩ := C.2.2.2 u H1 h1 h2 h3
  have hno := part_free hP hD C.2.2.1
  have hnoM := part_free hP hD (fun q h => h)
  refine ⟨va_P_app.mpr ⟨fun k q hk => (p1 k q hk).kept (h3 q.1 (p1 k q hk).lt (hno q (List.mem_of_getElem? hk))), g1⟩, va_D_app.mpr ⟨d1, ⟨g2.1, fun k q hk => hF _ (g2.2 k q hk)⟩, fun a ha b hb e9 => ?_⟩⟩
  obtain ⟨k, hk⟩ := List.mem_iff_getElem?.mp hb
  exact hnoM a ha (e9 ▸ g2.2 k b hk)
theorem w_swap {P M : va_W} (h : va_P D vwCl (P ++ M) H ∧ va_D A0 (P ++ M)) : va_P D vwCl (M ++ P) H ∧ va_D A0 (M ++ P) := by
  simp only [va_P_app, va_D_app] at h ⊢
  exact ⟨⟨h.1.2, h.1.1⟩, h.2.2.1, h.2.1, fun a ha b hb z => h.2.2.2 b hb a ha z.symm⟩
theorem Cut.left {S : Type} {P M wc : va_W} {w1 wa : S → va_W} (hP : va_P D vwCl (P ++ M) H) (hD : va_D A0 (P ++ M)) (hS : va_S A0 H0 H locs) (hA : ∀ q, H0.size ≤ q → A0 q) (C : Cut D (va_A P H.size) H wc w1 wa) : Cut D A0 H wc w1 (fun u => wa u ++ M) := by
  obtain ⟨h1, h2⟩ := w_swap ⟨hP, hD⟩
  exact (Cut.right h1 h2 hS hA C).mono (fun u H1 k1 k2 => w_swap ⟨k1, k2⟩)
theorem va_D.inner {P M : va_W} {n : Nat} (hD : va_D A0 (P ++ M)) : va_D (va_A P n) P ∧ va_D (va_A M n) M := by
  obtain ⟨d1, d2, -⟩ := va_D_app.mp hD
  exact ⟨⟨d1.1, fun k q hk => Or.inl ⟨k, q.2, hk⟩⟩, ⟨d2.1, fun k q hk => Or.inl ⟨k, q.2, hk⟩⟩⟩
end CUTS
def AL (s : State) : Nat → Prop := fun q => s.heap.size ≤ q
