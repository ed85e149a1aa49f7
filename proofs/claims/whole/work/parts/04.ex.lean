/-! the machine's laws: more steps change nothing; an instruction, a row -/
theorem qGo_succ {n d m pc : Nat} {st ls : List Value} {σ : qSg} {μ : qMu} {la : qLa} {i : Instr} (h : qIns m pc = some i) : qGo (n + 1) d m pc st ls σ μ la = match qStep pc st ls σ μ la m i with
    | none => none
    | some (.inl (pc', st', ls', σ', μ', la')) => qGo n d m pc' st' ls' σ' μ' la'
    | some (.inr (.inl r)) => some (r, σ, μ, la)
    | some (.inr (.inr (m', as, pc', rest))) => match d with
      | 0 => none
      | d' + 1 => (qGo n d' m' 0 [] (qLs0 m' as) σ μ la).bind fun q => qGo n (d' + 1) m pc' (q.1.toList ++ rest) ls q.2.1 q.2.2.1 q.2.2.2 := by
  rw [qGo, h]; rfl
theorem qGo_mono : ∀ (n d m pc : Nat) (st ls : List Value) (σ : qSg) (μ : qMu) (la : qLa) (q : qRes), qGo n d m pc st ls σ μ la = some q → qGo (n + 1) d m pc st ls σ μ la = some q := by
  intro n
  induction n with
  | zero => intro d m pc st ls σ μ la q h; simp [qGo] at h
  | succ n ih =>
    intro d m pc st ls σ μ la q h
    cases hi : qIns m pc with
    | none => rw [qGo, hi] at h; simp at h
    | some i =>
      rw [qGo_succ hi] at h
      rw [qGo_succ hi]
      cases hs : qStep pc st ls σ μ la m i with
      | none => rw [hs] at h; simp at h
      | some act =>
        rw [hs] at h
        rcases act with ⟨pc', st', ls', σ', μ', la'⟩ | r | ⟨m', as, pc', rest⟩
        · exact ih _ _ _ _ _ _ _ _ _ h
        · exact h
        · cases d with
          | zero => simp at h
          | succ d' =>
            simp only at h ⊢
            cases hc : qGo n d' m' 0 [] (qLs0 m' as) σ μ la with
            | none => rw [hc] at h; simp at h
            | some q0 =>
              rw [hc] at h
              rw [ih _ _ _ _ _ _ _ _ _ hc]
              exact ih _ _ _ _ _ _ _ _ _ h
theorem qGo_le {n k d m pc : Nat} {st ls : List Value} {σ : qSg} {μ : qMu} {la : qLa} {q : qRes} (hk : n ≤ k) (h : qGo n d m pc st ls σ μ la = some q) : qGo k d m pc st ls σ μ la = some q := by
  induction hk with
  | refl => exact h
  | step _ ih => exact qGo_mono _ _ _ _ _ _ _ _ _ _ ih
def qExA (d m : Nat) (ls : List Value) (σ : qSg) (μ : qMu) (la : qLa) (Q : qPost) (o : Option qAct) : Prop := match o with
  | none => False
  | some (.inl (pc', st', ls', σ', μ', la')) => qEx d m pc' st' ls' σ' μ' la' Q
  | some (.inr (.inl r)) => Q r σ μ la
  | some (.inr (.inr (m', as, pc', rest))) => match d with
    | 0 => False
    | d' + 1 => qEx d' m' 0 [] (qLs0 m' as) σ μ la fun r σ' μ' la' => qEx (d' + 1) m pc' (r.toList ++ rest) ls σ' μ' la' Q
theorem qEx_eq {d m pc : Nat} {st ls : List Value} {σ : qSg} {μ : qMu} {la : qLa} {Q : qPost} {i : Instr} (h : qIns m pc = some i) : qEx d m pc st ls σ μ la Q ↔ qExA d m ls σ μ la Q (qStep pc st ls σ μ la m i) := by
  constructor
  · rintro ⟨n, q, hq, hQ⟩
    cases n with
    | zero => simp [qGo] at hq
    | succ n =>
      rw [qGo_succ h] at hq
      cases hs : qStep pc st ls σ μ la m i with
      | none => rw [hs] at hq; simp at hq
      | some act =>
        rw [hs] at hq
        rcases act with ⟨pc', st', ls', σ', μ', la'⟩ | r | ⟨m', as, pc', rest⟩
        · exact ⟨n, q, hq, hQ⟩
        · simp only [Option.some.injEq] at hq
          subst hq
          exact hQ
        · cases d with
          | zero => simp at hq
          | succ d' =>
            simp only at hq
            cases hc : qGo n d' m' 0 [] (qLs0 m' as) σ μ la with
            | none => rw [hc] at hq; simp at hq
            | some q0 =>
              rw [hc] at hq
              exact ⟨n, q0, hc, n, q, hq, hQ⟩
  · intro hA
    cases hs : qStep pc st ls σ μ la m i with
    | none => rw [hs] at hA; exact hA.elim
    | some act =>
      rw [hs] at hA
      rcases act with ⟨pc', st', ls', σ', μ', la'⟩ | r | ⟨m', as, pc', rest⟩
      · obtain ⟨n, q, hq, hQ⟩ := hA
        exact ⟨n + 1, q, by rw [qGo_succ h, hs]; exact hq, hQ⟩
      · exact ⟨1, (r, σ, μ, la), by rw [qGo_succ h, hs], hA⟩
      · cases d with
        | zero => exact hA.elim
        | succ d' =>
          obtain ⟨n, q0, hq0, k, q, hq, hQ⟩ := hA
          refine ⟨max n k + 1, q, ?_, hQ⟩
          rw [qGo_succ h, hs]
          simp only
          rw [qGo_le (Nat.le_max_left n k) hq0]
          exact qGo_le (Nat.le_max_right n k) hq
/-- what follows from the end holds too -/
theorem qEx_imp {d m pc : Nat} {st ls : List Value} {σ : qSg} {μ : qMu} {la : qLa} {Q Q' : qPost} (h : qEx d m pc st ls σ μ la Q) (hq : ∀ r σ' μ' la', Q r σ' μ' la' → Q' r σ' μ' la') : qEx d m pc st ls σ μ la Q' := by
  obtain ⟨n, q, h1, h2⟩ := h
  exact ⟨n, q, h1, hq _ _ _ _ h2⟩
theorem qExA_ite {d m : Nat} {ls : List Value} {σ : qSg} {μ : qMu} {la : qLa} {Q : qPost} {c : Prop} [hc : Decidable c] {a b : Option qAct} : qExA d m ls σ μ la Q (if c then a else b) ↔ (if c then qExA d m ls σ μ la Q a else qExA d m ls σ μ la Q b) := by
  by_cases h : c <;> simp [h]
theorem qExA_chk {d m : Nat} {ls : List Value} {σ : qSg} {μ : qMu} {la : qLa} {Q : qPost} {c : Prop} [hc : Decidable c] {a : Option qAct} : qExA d m ls σ μ la Q (if c then a else none) ↔ (c ∧ qExA d m ls σ μ la Q a) := by
  by_cases h : c <;> simp [h, qExA]
