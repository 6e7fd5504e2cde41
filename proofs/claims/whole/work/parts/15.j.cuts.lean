/-! the reference's cells; the law's frame -/
abbrev KM : Type := Nat × Nat × Nat × (Nat → Nat) × Int32 × Int32 × Int32 × (Nat → Int32) × (Nat → Int32) × (Nat → Int32) × (Nat → Int32) × (Nat → Int32) × (Nat → Int32) × (Nat → Int32) × (Nat → Int32) × (Nat → Int32) × (Nat → Int32) × (Nat → Int32) × (Nat → Int32) × (Nat → Int32) × (Nat → Int32) × (Nat → Int32) × (Nat → Int32) × (Nat → Int32) × (Nat → Int32)
/-- the reference's cells stand for the state -/
def RMt (s : SG) : KM → Prop := fun ⟨n, hv, sw, _, _, _, _, of, many, colour, org, state, layers, heat, burnt, things, history, bars, _, _, _, _, _, _, _⟩ => n = s.1 ∧ hv = s.2.2.2.1 ∧ sw = s.2.2.2.2.1 ∧ RO of s.2.1 ∧ RN many s.2.1 ∧ RP colour s.2.2.1 0 ∧ RP state s.2.2.1 1 ∧ RP layers s.2.2.1 2 ∧ RP things s.2.2.1 3 ∧ RP org s.2.2.1 4 ∧ RQ heat s.2.2.1 5 5 ∧ RQ burnt s.2.2.1 10 5 ∧ RQ history s.2.2.1 15 20 ∧ fillB s.2.2.2.2.2 15 bars
abbrev WMt (cI cZ : ClassId) (g : Nat) : KM → va_W := fun ⟨n, hv, sw, a, t, sh, cv, of, many, colour, org, state, layers, heat, burnt, things, history, bars, set, seen, pile, isIn, order, whr, tried⟩ => WM cI cZ g a t (nI n) (nI hv) (nI sw) sh cv of many colour org state layers heat burnt things history bars set seen pile isIn order whr tried
section CUTS
variable {D : va_G} {A0 : Nat → Prop} {H0 H : Heap} {locs : List Loc}
theorem part_free {P M wc : va_W} (hP : va_P D vwCl (P ++ M) H) (hD : va_D A0 (P ++ M)) (hF : ∀ q, va_A wc H.size q → va_A M H.size q) : ∀ a ∈ P, ¬ va_A wc H.size a.1 := by
  obtain ⟨p1, -⟩ := va_P_app.mp hP
  obtain ⟨-, -, x1⟩ := va_D_app.mp hD
  intro a ha hv
  obtain ⟨k, hk⟩ := List.mem_iff_getElem?.mp ha
  rcases hF _ hv with ⟨k2, e2, h⟩ | h
  · exact x1 a ha (a.1, e2) (List.mem_of_getElem? h) rfl
  · exact absurd (p1 k a hk).lt (Nat.not_lt.mpr h)
theorem Cut.right {S : Type} {P M wc : va_W} {w1 wa : S → va_W} (hP : va_P D vwCl (P ++ M) H) (hD : va_D A0 (P ++ M)) (hS : va_S A0 H0 H locs) (hA : ∀ q, H0.size ≤ q → A0 q) (C : Cut D (va_A M H.size) H wc w1 wa) : Cut D A0 H wc w1 (fun u => P ++ wa u) := by
  obtain ⟨p1, p2⟩ := va_P_app.mp hP
  obtain ⟨d1, d2, x1⟩ := va_D_app.mp hD
  have hF : ∀ q, va_A M H.size q → A0 q := by
    intro q h
    rcases h with ⟨k, e, h⟩ | h
    · exact d2.2 k _ h
    · exact hA q (Nat.le_trans hS.1 h)
  refine ⟨C.1, C.2.1, fun q h => hF q (C.2.2.1 q h), fun u H1 h1 h2 h3 => ?_⟩
  obtain ⟨g1, g2⟩ := C.2.2.2 u H1 h1 h2 h3
  have hno := part_free hP hD C.2.2.1
  have hnoM := part_free hP hD (fun q h => h)
  refine ⟨va_P_app.mpr ⟨fun k q hk => (p1 k q hk).kept (h3 q.1 (p1 k q hk).lt (hno q (List.mem_of_getElem? hk))), g1⟩, va_D_app.mpr ⟨d1, ⟨g2.1, fun k q hk => hF _ (g2.2 k q hk)⟩, fun a ha b hb e9 => ?_⟩⟩
  obtain ⟨k, hk⟩ := List.mem_iff_getElem?.mp hb
  exact hnoM a ha (e9 ▸ g2.2 k b hk)
theorem w_swap {P M : va_W} (h : va_P D vwCl (P ++ M) H ∧ va_D A0 (P ++ M)) : va_P D vwCl (M ++ P) H ∧ va_D A0 (M ++ P) := by
  simp only [va_P_app, va_D_app] at h ⊢
  exact ⟨⟨h.1.2, h.1.1⟩, h.2.2.1, h.2.1, fun a ha b hb z => h.2.2.2 b hb a ha z.symm⟩
theorem Cut.left {S : Type} {P M wc : va_W} {w1 wa : S → va_W} (hP : va_P D vwCl (P ++ M) H) (hD : va_D A0 (P ++ M)) (hS : va_S A0 H0 H locs) (hA : ∀ q, H0.size ≤ q → A0 q) (C : Cut D (va_A P H.size) H wc w1 wa) : Cut D A0 H wc w1 (fun u => wa u ++ M) := by
  obtain ⟨h1, h2⟩ := w_swap ⟨hP, hD⟩
  exact (Cut.right h1 h2 hS hA C).mono (fun u H1 k1 k2 => w_swap ⟨k1, k2⟩)
theorem va_D.inner {P M : va_W} {n : Nat} (hD : va_D A0 (P ++ M)) : va_D (va_A P n) P ∧ va_D (va_A M n) M := by
  obtain ⟨d1, d2, -⟩ := va_D_app.mp hD
  exact ⟨⟨d1.1, fun k q hk => Or.inl ⟨k, q.2, hk⟩⟩, ⟨d2.1, fun k q hk => Or.inl ⟨k, q.2, hk⟩⟩⟩
end CUTS
def AL (s : State) : Nat → Prop := fun q => s.heap.size ≤ q
/-- what holds all the law long: the machine, the script, what the start gives -/
def LC (p : Program) (l : Launch) (s : State) (m : MethodId) (meth : Method) (c : Code) (b L : Nat) (xs : Nat → Int32) (D : va_G) (cI cJ cZ cO : ClassId) (tD mi : Nat) : Prop :=
  p.tables.exec = Jvm.exec ∧ c.code = cL_law ∧ meth.sig.returnType = some .boolean ∧ c.maxLocals = 7 ∧ s.vm.findClass RL = some m.cls ∧ (∀ w ∈ wsL_law, w.before #[Value.ref b] s = true) ∧ va_X b L xs s s.heap ∧ b < s.heap.size ∧ meth.locks = false ∧ l.stackTraces = false ∧ va_K D vwCl (TY cI cJ cZ cO) s ∧ EN s ∧ THR (AL s) s s.heap ∧ LST tD mi (AL s) s s.heap ∧ NC s
