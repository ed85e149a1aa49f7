/-! THE SMALL MACHINE IS THE JVM: by induction on its steps -/
def qRetOk (mi pc : Nat) (r : Option Value) : Prop := match r with
  | some (.int v) => decode (qMeth mi).2.1 pc = .ok (.ireturn, 1) ∧ ∃ ty, qRt mi = some ty ∧ narrow ty (.int v) = .int v
  | some (.long _) => decode (qMeth mi).2.1 pc = .ok (.lreturn, 1) ∧ qRt mi = some .long
  | none => decode (qMeth mi).2.1 pc = .ok (.return_, 1) ∧ qRt mi = none
  | _ => False
def qI (o : Option qAct) : Prop := ∀ x, o ≠ some (.inr x)
theorem qI_none : qI none := fun _ h => by cases h
theorem qI_N {pc : Nat} {st ls : List Value} {σ : qSg} {μ : qMu} {la : qLa} : qI (qN pc st ls σ μ la) := fun _ h => by cases h
theorem qI_ite {c : Prop} {hc : Decidable c} {a b : Option qAct} (ha : qI a) (hb : qI b) : qI (if c then a else b) := by
  by_cases h : c
  · rw [if_pos h]; exact ha
  · rw [if_neg h]; exact hb
theorem qI_bind {α : Type} {o : Option α} {f : α → Option qAct} (h : ∀ x, qI (f x)) : qI (o.bind f) := by
  cases o with
  | none => exact qI_none
  | some x => exact h x
theorem qI_pI {st : List Value} {k : Int32 → List Value → Option qAct} (h : ∀ x r, qI (k x r)) : qI (qpI st k) := fun y hq => by
  obtain ⟨x, r, -, h1⟩ := qpI_inv hq; exact h x r y h1
theorem qI_pL {st : List Value} {k : Int64 → List Value → Option qAct} (h : ∀ x r, qI (k x r)) : qI (qpL st k) := fun y hq => by
  obtain ⟨x, r, -, h1⟩ := qpL_inv hq; exact h x r y h1
theorem qI_pR {st : List Value} {k : Nat → List Value → Option qAct} (h : ∀ x r, qI (k x r)) : qI (qpR st k) := fun y hq => by
  obtain ⟨x, r, -, h1⟩ := qpR_inv hq; exact h x r y h1
theorem qI_p1 {st : List Value} {k : Value → List Value → Option qAct} (h : ∀ x r, qI (k x r)) : qI (qp1 st k) := fun y hq => by
  obtain ⟨x, r, -, h1, -⟩ := qp1_inv (E := (0, fun _ => 0, .null, (fun _ => 0, fun _ _ => 0), fun _ => 0)) hq; exact h x r y h1
theorem qI_sw {pc : Nat} {st ls : List Value} {σ : qSg} {μ : qMu} {la : qLa} {x : Int32} {dflt : Int} : ∀ {offs : List Int} {lo : Int}, qI (qSw pc st ls σ μ la x lo offs dflt)
  | [], lo => by unfold qSw; exact qI_bind fun _ => qI_N
  | o :: os, lo => by unfold qSw; exact qI_ite (qI_bind fun _ => qI_N) qI_sw
theorem qI_if {pc : Nat} {st ls : List Value} {σ : qSg} {μ : qMu} {la : qLa} {c : Prop} {hc : Decidable c} {off : Int} : qI (qIf pc st ls σ μ la c off) := by
  unfold qIf; exact qI_bind fun _ => qI_ite qI_N qI_N
set_option maxHeartbeats 4000000 in
theorem qStep_kind {pc : Nat} {st ls : List Value} {σ : qSg} {μ : qMu} {la : qLa} {mi : Nat} {i : Instr} : qI (qStep pc st ls σ μ la mi i) ∨ (i = .ireturn ∨ i = .lreturn ∨ i = .return_) ∨ (∃ idx, i = .invokestatic idx) ∨ (∃ idx, i = .invokevirtual idx) ∨ ∃ idx, i = .invokespecial idx := by
  unfold qStep
  split
  all_goals first
    | exact Or.inr (Or.inl (Or.inl rfl))
    | exact Or.inr (Or.inl (Or.inr (Or.inl rfl)))
    | exact Or.inr (Or.inl (Or.inr (Or.inr rfl)))
    | exact Or.inr (Or.inr (Or.inl ⟨_, rfl⟩))
    | exact Or.inr (Or.inr (Or.inr (Or.inl ⟨_, rfl⟩)))
    | exact Or.inr (Or.inr (Or.inr (Or.inr ⟨_, rfl⟩)))
    | left
  all_goals (try unfold qLdc)
  all_goals (try unfold qLdc2)
  all_goals (try unfold qStI)
  all_goals (try unfold qStR)
  all_goals (try unfold qStL)
  all_goals (try unfold qAast)
  all_goals (try unfold qGetf)
  all_goals (try unfold qPutf)
  all_goals (try unfold qGets)
  all_goals (try unfold qII)
  all_goals (try unfold qLL)
  all_goals (try unfold qNew)
  all_goals (try unfold qNewa)
  all_goals (try unfold qNewr)
  all_goals repeat' (first | exact qI_none | exact qI_if | exact qI_sw | exact qI_N | refine qI_ite ?_ ?_ | refine qI_bind (fun _ => ?_) | refine qI_pI (fun _ _ => ?_) | refine qI_pL (fun _ _ => ?_) | refine qI_pR (fun _ _ => ?_) | refine qI_p1 (fun _ _ => ?_) | split)
theorem qI_copy {pc : Nat} {st ls : List Value} {σ : qSg} {μ : qMu} {la : qLa} : qI (qCopy pc st ls σ μ la) := by
  unfold qCopy
  repeat' (first | exact qI_none | exact qI_N | refine qI_ite ?_ ?_ | refine qI_pI (fun _ _ => ?_) | refine qI_pR (fun _ _ => ?_))
theorem qCall_inv {pc m' : Nat} {as rest : List Value} {x : Option Value ⊕ (Nat × List Value × Nat × List Value)} (h : qCall pc m' as rest = some (.inr x)) : (rest.map fun v => v.category).sum ≤ 8 ∧ (qArgL as).length ≤ qMx m' ∧ x = .inr (m', as, pc + 3, rest) := by
  unfold qCall at h
  obtain ⟨⟨h1, h2⟩, h3⟩ := qif_inv h
  simp only [Option.some.injEq, Sum.inr.injEq] at h3
  exact ⟨h1, h2, h3.symm⟩
theorem qInvS_inv {pc c idx : Nat} {st ls : List Value} {σ : qSg} {μ : qMu} {la : qLa} {x : Option Value ⊕ (Nat × List Value × Nat × List Value)} (h : qInvS pc st ls σ μ la c idx = some (.inr x)) : ∃ m' na fl, qPl c idx = some (1, m', na, fl) ∧ (fl = 0 ∨ fl = 10) ∧ na ≤ st.length ∧ ((st.drop na).map fun v => v.category).sum ≤ 8 ∧ (qArgL (st.take na).reverse).length ≤ qMx m' ∧ x = .inr (m', (st.take na).reverse, pc + 3, st.drop na) := by
  unfold qInvS at h
  split at h
  · rename_i m' na hpl
    obtain ⟨h1, h2⟩ := qif_inv h
    obtain ⟨h3, h4, h5⟩ := qCall_inv h2
    exact ⟨m', na, 0, hpl, Or.inl rfl, h1, h3, h4, h5⟩
  · rename_i m' na hpl
    obtain ⟨h1, h2⟩ := qif_inv h
    obtain ⟨h3, h4, h5⟩ := qCall_inv h2
    exact ⟨m', na, 10, hpl, Or.inr rfl, h1, h3, h4, h5⟩
  · exact absurd h (qI_copy x)
  · exact absurd h (qI_pI (fun _ _ => qI_ite qI_N qI_none) x)
  · exact absurd h (qI_pI (fun _ _ => qI_pI fun _ _ => qI_ite qI_N qI_none) x)
  · exact absurd h (qI_pI (fun _ _ => qI_pI fun _ _ => qI_ite qI_N qI_none) x)
  · cases h
theorem qInvV_inv {pc c idx : Nat} {st : List Value} {σ : qSg} {x : Option Value ⊕ (Nat × List Value × Nat × List Value)} (h : qInvV pc st σ c idx = some (.inr x)) : ∃ m' na a r, qPl c idx = some (1, m', na, 1) ∧ st.drop na = .ref a :: r ∧ qRecv σ a (qOwn m') = true ∧ (r.map fun v => v.category).sum ≤ 8 ∧ (qArgL (.ref a :: (st.take na).reverse)).length ≤ qMx m' ∧ x = .inr (m', .ref a :: (st.take na).reverse, pc + 3, r) := by
  unfold qInvV at h
  split at h
  · rename_i m' na hpl
    obtain ⟨a, r, e1, h1⟩ := qpR_inv h
    obtain ⟨h2, h3⟩ := qif_inv h1
    obtain ⟨h4, h5, h6⟩ := qCall_inv h3
    exact ⟨m', na, a, r, hpl, e1, h2, h4, h5, h6⟩
  · cases h
theorem qInvI_inv {pc c idx : Nat} {st ls : List Value} {σ : qSg} {μ : qMu} {la : qLa} {x : Option Value ⊕ (Nat × List Value × Nat × List Value)} (h : qInvI pc st ls σ μ la c idx = some (.inr x)) : ∃ m' na fl a r, qPl c idx = some (1, m', na, fl) ∧ (fl = 2 ∨ fl = 12) ∧ st.drop na = .ref a :: r ∧ (r.map fun v => v.category).sum ≤ 8 ∧ (qArgL (.ref a :: (st.take na).reverse)).length ≤ qMx m' ∧ x = .inr (m', .ref a :: (st.take na).reverse, pc + 3, r) := by
  unfold qInvI at h
  split at h
  · rename_i m' na hpl
    obtain ⟨a, r, e1, h1⟩ := qpR_inv h
    obtain ⟨h4, h5, h6⟩ := qCall_inv h1
    exact ⟨m', na, 2, a, r, hpl, Or.inl rfl, e1, h4, h5, h6⟩
  · rename_i m' na hpl
    obtain ⟨a, r, e1, h1⟩ := qpR_inv h
    obtain ⟨h4, h5, h6⟩ := qCall_inv h1
    exact ⟨m', na, 12, a, r, hpl, Or.inr rfl, e1, h4, h5, h6⟩
  · exact absurd h (qI_pR (fun _ _ => qI_ite qI_N qI_none) x)
  · cases h
theorem qStep_ret (T : qTabs) {pc : Nat} {st ls : List Value} {σ : qSg} {μ : qMu} {la : qLa} {mi : Nat} {i : Instr} {r : Option Value} (hi : qIns mi pc = some i) (hs : qStep pc st ls σ μ la mi i = some (.inr (.inl r))) : st = r.toList ∧ qRetOk mi pc r := by
  obtain ⟨len, hd, hlen⟩ := T.2.1 mi pc i hi
  rcases qStep_kind (pc := pc) (st := st) (ls := ls) (σ := σ) (μ := μ) (la := la) (mi := mi) (i := i) with h | (rfl | rfl | rfl) | ⟨idx, rfl⟩ | ⟨idx, rfl⟩ | ⟨idx, rfl⟩
  · exact absurd hs (h _)
  · have hl : len = 1 := hlen.elim id (fun z => by cases z)
    subst hl
    have hs' : qRetI st mi = some (.inr (.inl r)) := hs
    unfold qRetI at hs'
    split at hs'
    · split at hs'
      · rename_i v hr
        cases hs'
        exact ⟨rfl, hd, .int, hr, rfl⟩
      · rename_i v hr
        obtain ⟨h01, h2⟩ := qif_inv hs'
        cases h2
        exact ⟨rfl, hd, .boolean, hr, by rcases h01 with rfl | rfl <;> rfl⟩
      · rename_i v hr
        obtain ⟨h01, h2⟩ := qif_inv hs'
        cases h2
        exact ⟨rfl, hd, .byte, hr, by show Value.int _ = _; rw [h01]⟩
      · rename_i v hr
        obtain ⟨h01, h2⟩ := qif_inv hs'
        cases h2
        exact ⟨rfl, hd, .char, hr, by show Value.int _ = _; rw [h01]⟩
      · cases hs'
    · cases hs'
  · have hl : len = 1 := hlen.elim id (fun z => by cases z)
    subst hl
    simp only [qStep] at hs
    split at hs
    · obtain ⟨h1, h2⟩ := qif_inv hs
      cases h2
      exact ⟨rfl, hd, h1⟩
    · cases hs
  · have hl : len = 1 := hlen.elim id (fun z => by cases z)
    subst hl
    simp only [qStep] at hs
    split at hs
    · obtain ⟨h1, h2⟩ := qif_inv hs
      cases h2
      exact ⟨rfl, hd, h1⟩
    · cases hs
  · obtain ⟨m', na, fl, -, -, -, -, -, h⟩ := qInvS_inv hs
    cases h
  · obtain ⟨m', na, a, r, -, -, -, -, -, h⟩ := qInvV_inv hs
    cases h
  · obtain ⟨m', na, fl, a, r, -, -, -, -, -, h⟩ := qInvI_inv hs
    cases h
