/-! calls and returns: whatever the small machine comes to, the JVM comes to -/
def qM (σ : qSg) (o : Option qAct) : Prop := ∀ q : qSt, o = some (.inl q) → σ.1 ≤ q.2.2.2.1.1
theorem qM_none {σ : qSg} : qM σ none := fun _ h => by cases h
theorem qM_inr {σ : qSg} {x : Option Value ⊕ (Nat × List Value × Nat × List Value)} : qM σ (some (.inr x)) := fun _ h => by cases h
theorem qM_N {σ σ' : qSg} {pc : Nat} {st ls : List Value} {μ : qMu} {la : qLa} (h : σ.1 ≤ σ'.1) : qM σ (qN pc st ls σ' μ la) := fun q hq => by
  rw [qN_inv hq]; exact h
theorem qM_ite {σ : qSg} {c : Prop} {hc : Decidable c} {a b : Option qAct} (ha : qM σ a) (hb : qM σ b) : qM σ (if c then a else b) := by
  by_cases h : c
  · rw [if_pos h]; exact ha
  · rw [if_neg h]; exact hb
theorem qM_bind {σ : qSg} {α : Type} {o : Option α} {f : α → Option qAct} (h : ∀ x, qM σ (f x)) : qM σ (o.bind f) := by
  cases o with
  | none => exact qM_none
  | some x => exact h x
theorem qM_pI {σ : qSg} {st : List Value} {k : Int32 → List Value → Option qAct} (h : ∀ x r, qM σ (k x r)) : qM σ (qpI st k) := fun q hq => by
  obtain ⟨x, r, -, h1⟩ := qpI_inv hq; exact h x r q h1
theorem qM_pL {σ : qSg} {st : List Value} {k : Int64 → List Value → Option qAct} (h : ∀ x r, qM σ (k x r)) : qM σ (qpL st k) := fun q hq => by
  obtain ⟨x, r, -, h1⟩ := qpL_inv hq; exact h x r q h1
theorem qM_pR {σ : qSg} {st : List Value} {k : Nat → List Value → Option qAct} (h : ∀ x r, qM σ (k x r)) : qM σ (qpR st k) := fun q hq => by
  obtain ⟨x, r, -, h1⟩ := qpR_inv hq; exact h x r q h1
theorem qM_p1 {σ : qSg} {st : List Value} {k : Value → List Value → Option qAct} (h : ∀ x r, qM σ (k x r)) : qM σ (qp1 st k) := fun q hq => by
  obtain ⟨x, r, -, h1, -⟩ := qp1_inv (E := (0, fun _ => 0, .null, (fun _ => 0, fun _ _ => 0), fun _ => 0)) hq; exact h x r q h1
theorem qM_sw {σ : qSg} {pc : Nat} {st ls : List Value} {μ : qMu} {la : qLa} {x : Int32} {dflt : Int} {offs : List Int} {lo : Int} : qM σ (qSw pc st ls σ μ la x lo offs dflt) := fun q hq => by
  rcases qSw_inv _ _ hq with ⟨k, o', t, -, -, -, h⟩ | ⟨-, t, -, h⟩ <;> rw [h] <;> exact Nat.le_refl _
theorem qM_if {σ : qSg} {pc : Nat} {st ls : List Value} {μ : qMu} {la : qLa} {c : Prop} {hc : Decidable c} {off : Int} : qM σ (qIf pc st ls σ μ la c off) := fun q hq => by
  obtain ⟨t, -, ⟨-, h⟩ | ⟨-, h⟩⟩ := qIf_inv hq <;> rw [h] <;> exact Nat.le_refl _
set_option maxHeartbeats 4000000 in
theorem qStep_nx {pc : Nat} {st ls : List Value} {σ : qSg} {μ : qMu} {la : qLa} {mi : Nat} {i : Instr} : qM σ (qStep pc st ls σ μ la mi i) := by
  unfold qStep
  split
  all_goals (try unfold qLdc)
  all_goals (try unfold qLdc2)
  all_goals (try unfold qStI)
  all_goals (try unfold qStR)
  all_goals (try unfold qStL)
  all_goals (try unfold qAast)
  all_goals (try unfold qGetf)
  all_goals (try unfold qPutf)
  all_goals (try unfold qGets)
  all_goals (try unfold qII)
  all_goals (try unfold qLL)
  all_goals (try unfold qNew)
  all_goals (try unfold qNewa)
  all_goals (try unfold qNewr)
  all_goals (try unfold qInvS)
  all_goals (try unfold qInvV)
  all_goals (try unfold qInvI)
  all_goals (try unfold qRetI)
  all_goals (try unfold qCall)
  all_goals (try unfold qCopy)
  all_goals repeat' (first | exact qM_none | exact qM_inr | exact qM_if | exact qM_sw | exact qM_N (Nat.le_refl _) | exact qM_N (Nat.le_succ _) | refine qM_ite ?_ ?_ | refine qM_bind (fun _ => ?_) | refine qM_pI (fun _ _ => ?_) | refine qM_pL (fun _ _ => ?_) | refine qM_pR (fun _ _ => ?_) | refine qM_p1 (fun _ _ => ?_) | split)
theorem qGo_nx : ∀ (n d m pc : Nat) (st ls : List Value) (σ : qSg) (μ : qMu) (la : qLa) (q : qRes), qGo n d m pc st ls σ μ la = some q → σ.1 ≤ q.2.1.1 := by
  intro n
  induction n with
  | zero => intro d m pc st ls σ μ la q h; simp [qGo] at h
  | succ n ih =>
    intro d m pc st ls σ μ la q h
    cases hi : qIns m pc with
    | none => rw [qGo, hi] at h; simp at h
    | some i =>
      rw [qGo_succ hi] at h
      cases hs : qStep pc st ls σ μ la m i with
      | none => rw [hs] at h; simp at h
      | some act =>
        rw [hs] at h
        rcases act with ⟨pc', st', ls', σ', μ', la'⟩ | r | ⟨m', as, pc', rest⟩
        · exact Nat.le_trans (qStep_nx _ hs) (ih _ _ _ _ _ _ _ _ _ h)
        · simp only [Option.some.injEq] at h
          subst h
          exact Nat.le_refl _
        · cases d with
          | zero => simp at h
          | succ d' =>
            simp only at h
            obtain ⟨q0, h1, h2⟩ := qBind_inv h
            exact Nat.le_trans (ih _ _ _ _ _ _ _ _ _ h1) (ih _ _ _ _ _ _ _ _ _ h2)
/-! the locals with which a method begins -/
theorem qArg_len {E : qEnv} (hE : E.2.2.1.category = 1) : ∀ as : List Value, (lg_sl (as.map (qRv E))).length = (qArgL as).length
  | [] => rfl
  | v :: as => by
    have ih := qArg_len hE as
    have e : lg_sl ((v :: as).map (qRv E)) = (if (qRv E v).category = 2 then [.val (qRv E v), .second] else [.val (qRv E v)]) ++ lg_sl (as.map (qRv E)) := by simp [lg_sl]
    rw [e, List.length_append, ih]
    cases v with
    | retAddr k => rw [if_neg (by rw [show qRv E (.retAddr k) = E.2.2.1 from rfl, hE]; decide)]; simp [qArgL]; omega
    | long x => simp [qArgL, qRv, Value.category]; omega
    | double x => simp [qArgL, qRv, Value.category]; omega
    | _ => simp [qArgL, qRv, Value.category]; omega
theorem qArg_claim {E : qEnv} (hE : E.2.2.1.category = 1) : ∀ (as : List Value) (z : List Value) (k i : Nat) (v : Value), (∀ w ∈ z, w = qUn) → qClaim E (qArgL as ++ z) i = some v → (k + i, v) ∈ lv_args k (as.map (qRv E))
  | [], z, k, i, v, hz, h => by
    exfalso
    simp only [qArgL, List.nil_append, qClaim] at h
    cases hq : z[i]? with
    | none => rw [hq] at h; cases h
    | some w => rw [hq, hz w (List.mem_of_getElem? hq)] at h; cases h
  | a :: as, z, k, i, v, hz, h => by
    cases a with
    | long x =>
      simp only [qArgL, List.cons_append] at h
      rw [show lv_args k ((Value.long x :: as).map (qRv E)) = (k, .long x) :: lv_args (k + 2) (as.map (qRv E)) from rfl]
      match i, h with
      | 0, h => simp [qClaim] at h; subst h; exact List.mem_cons_self
      | 1, h => simp [qClaim] at h
      | i + 2, h =>
        have h2 : qClaim E (qArgL as ++ z) i = some v := by simpa [qClaim] using h
        have := qArg_claim hE as z (k + 2) i v hz h2
        rw [show k + 2 + i = k + (i + 2) by omega] at this
        exact List.mem_cons_of_mem _ this
    | int x =>
      simp only [qArgL, List.cons_append] at h
      rw [show lv_args k ((Value.int x :: as).map (qRv E)) = (k, .int x) :: lv_args (k + 1) (as.map (qRv E)) from rfl]
      match i, h with
      | 0, h => simp [qClaim] at h; subst h; exact List.mem_cons_self
      | i + 1, h =>
        have h2 : qClaim E (qArgL as ++ z) i = some v := by simpa [qClaim] using h
        have := qArg_claim hE as z (k + 1) i v hz h2
        rw [show k + 1 + i = k + (i + 1) by omega] at this
        exact List.mem_cons_of_mem _ this
    | ref x =>
      simp only [qArgL, List.cons_append] at h
      rw [show lv_args k ((Value.ref x :: as).map (qRv E)) = (k, .ref (qAd E x)) :: lv_args (k + 1) (as.map (qRv E)) from rfl]
      match i, h with
      | 0, h => simp [qClaim] at h; subst h; exact List.mem_cons_self
      | i + 1, h =>
        have h2 : qClaim E (qArgL as ++ z) i = some v := by simpa [qClaim] using h
        have := qArg_claim hE as z (k + 1) i v hz h2
        rw [show k + 1 + i = k + (i + 1) by omega] at this
        exact List.mem_cons_of_mem _ this
    | null =>
      simp only [qArgL, List.cons_append] at h
      rw [show lv_args k ((Value.null :: as).map (qRv E)) = (k, .null) :: lv_args (k + 1) (as.map (qRv E)) from rfl]
      match i, h with
      | 0, h => simp [qClaim] at h
      | i + 1, h =>
        have h2 : qClaim E (qArgL as ++ z) i = some v := by simpa [qClaim] using h
        have := qArg_claim hE as z (k + 1) i v hz h2
        rw [show k + 1 + i = k + (i + 1) by omega] at this
        exact List.mem_cons_of_mem _ this
    | float x =>
      simp only [qArgL, List.cons_append] at h
      rw [show lv_args k ((Value.float x :: as).map (qRv E)) = (k, .float x) :: lv_args (k + 1) (as.map (qRv E)) from rfl]
      match i, h with
      | 0, h => simp [qClaim] at h
      | i + 1, h =>
        have h2 : qClaim E (qArgL as ++ z) i = some v := by simpa [qClaim] using h
        have := qArg_claim hE as z (k + 1) i v hz h2
        rw [show k + 1 + i = k + (i + 1) by omega] at this
        exact List.mem_cons_of_mem _ this
    | retAddr x =>
      simp only [qArgL, List.cons_append] at h
      rw [show lv_args k ((Value.retAddr x :: as).map (qRv E)) = (k, E.2.2.1) :: lv_args (k + 1) (as.map (qRv E)) from (by show (k, E.2.2.1) :: lv_args (if E.2.2.1.category = 2 then k + 2 else k + 1) _ = _; rw [hE]; rfl)]
      match i, h with
      | 0, h => simp [qClaim] at h
      | i + 1, h =>
        have h2 : qClaim E (qArgL as ++ z) i = some v := by simpa [qClaim] using h
        have := qArg_claim hE as z (k + 1) i v hz h2
        rw [show k + 1 + i = k + (i + 1) by omega] at this
        exact List.mem_cons_of_mem _ this
    | double x =>
      simp only [qArgL, List.cons_append] at h
      rw [show lv_args k ((Value.double x :: as).map (qRv E)) = (k, .double x) :: lv_args (k + 2) (as.map (qRv E)) from rfl]
      match i, h with
      | 0, h => simp [qClaim] at h
      | 1, h => simp [qClaim] at h
      | i + 2, h =>
        have h2 : qClaim E (qArgL as ++ z) i = some v := by simpa [qClaim] using h
        have := qArg_claim hE as z (k + 2) i v hz h2
        rw [show k + 2 + i = k + (i + 2) by omega] at this
        exact List.mem_cons_of_mem _ this
theorem qLs0_LR {E : qEnv} (hE : E.2.2.1.category = 1) {m' : Nat} {as : List Value} (hl : (qArgL as).length ≤ qMx m') : qLR E ((lg_sl (as.map (qRv E)) ++ List.replicate (qMx m' - (lg_sl (as.map (qRv E))).length) Slot.unset).toArray) (qLs0 m' as) ∧ (qLs0 m' as).length = qMx m' := by
  have h := lv_entry (as.map (qRv E)) (n := qMx m') (by rw [qArg_len hE]; exact hl)
  have hlen : (qLs0 m' as).length = qMx m' := by simp [qLs0]; omega
  refine ⟨⟨by rw [h.1, hlen], h.2.1, fun i v hv => ?_⟩, hlen⟩
  have := qArg_claim hE as (List.replicate (qMx m' - (qArgL as).length) qUn) 0 i v (fun w hw => List.eq_of_mem_replicate hw) hv
  rw [Nat.zero_add] at this
  exact h.2.2 (i, v) this
