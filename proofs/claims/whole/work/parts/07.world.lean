/-! how a state of the small machine lies in the JVM's heap -/
abbrev qEnv : Type := Nat × (Nat → Nat) × Value × va_G × (Nat → ClassId)
def qAd (E : qEnv) (a : Nat) : Nat := if a < 1000 then E.1 + a else E.2.1 a
def qRv (E : qEnv) : Value → Value
  | .ref a => .ref (qAd E a)
  | .retAddr _ => E.2.2.1
  | v => v
def qA (E : qEnv) : Nat → Prop := fun q => E.1 ≤ q
def qTys (E : qEnv) : List (ClassId × FieldType) := [(E.2.2.2.2 10, .int), (E.2.2.2.2 11, .long), (E.2.2.2.2 12, .boolean), (E.2.2.2.2 13, .object RX4), (E.2.2.2.2 14, .object RX2)]
def qFs (E : qEnv) (σ : qSg) (μ : qMu) (ci a : Nat) : List Value := (List.range (qSh a).2).map fun k => if qFk ci k = true then .int (μ a k) else va_rf ((σ.2 a k).map (qAd E))
def qEnt (E : qEnv) (σ : qSg) (μ : qMu) (la : qLa) (a : Nat) : va_E :=
  if (qSh a).1 = 10 then .inl (E.2.2.2.2 10, (qSh a).2, .inl (μ a)) else
  if (qSh a).1 = 11 then .inl (E.2.2.2.2 11, (qSh a).2, .inr (.inl (la a))) else
  if (qSh a).1 = 12 then .inl (E.2.2.2.2 12, (qSh a).2, .inl (μ a)) else
  if (qSh a).1 = 13 then .inl (E.2.2.2.2 13, (qSh a).2, .inr (.inr (.inr (.inr fun j => (σ.2 a j).map (qAd E))))) else
  if (qSh a).1 = 14 then .inl (E.2.2.2.2 14, (qSh a).2, .inr (.inr (.inr (.inr fun j => (σ.2 a j).map (qAd E))))) else
  .inr ((qSh a).1, qFs E σ μ (qSh a).1 a)
theorem qEnt10 {E : qEnv} {σ : qSg} {μ : qMu} {la : qLa} {a : Nat} (h : (qSh a).1 = 10) : qEnt E σ μ la a = .inl (E.2.2.2.2 10, (qSh a).2, .inl (μ a)) := by simp [qEnt, h]
theorem qEnt11 {E : qEnv} {σ : qSg} {μ : qMu} {la : qLa} {a : Nat} (h : (qSh a).1 = 11) : qEnt E σ μ la a = .inl (E.2.2.2.2 11, (qSh a).2, .inr (.inl (la a))) := by simp [qEnt, h]
theorem qEnt12 {E : qEnv} {σ : qSg} {μ : qMu} {la : qLa} {a : Nat} (h : (qSh a).1 = 12) : qEnt E σ μ la a = .inl (E.2.2.2.2 12, (qSh a).2, .inl (μ a)) := by simp [qEnt, h]
theorem qEnt13 {E : qEnv} {σ : qSg} {μ : qMu} {la : qLa} {a : Nat} (h : (qSh a).1 = 13) : qEnt E σ μ la a = .inl (E.2.2.2.2 13, (qSh a).2, .inr (.inr (.inr (.inr fun j => (σ.2 a j).map (qAd E))))) := by simp [qEnt, h]
theorem qEnt14 {E : qEnv} {σ : qSg} {μ : qMu} {la : qLa} {a : Nat} (h : (qSh a).1 = 14) : qEnt E σ μ la a = .inl (E.2.2.2.2 14, (qSh a).2, .inr (.inr (.inr (.inr fun j => (σ.2 a j).map (qAd E))))) := by simp [qEnt, h]
theorem qEntO {E : qEnv} {σ : qSg} {μ : qMu} {la : qLa} {a ci : Nat} (h : (qSh a).1 = ci) (hc : ci < 8) : qEnt E σ μ la a = .inr (ci, qFs E σ μ ci a) := by
  simp only [qEnt, h]
  rw [if_neg (by omega), if_neg (by omega), if_neg (by omega), if_neg (by omega), if_neg (by omega)]
def qWr (E : qEnv) (σ : qSg) (μ : qMu) (la : qLa) : va_W := (List.range σ.1).map fun a => (E.1 + a, qEnt E σ μ la a)
theorem qWr_get {E : qEnv} {σ : qSg} {μ : qMu} {la : qLa} {a : Nat} (h : a < σ.1) : (qWr E σ μ la)[a]? = some (E.1 + a, qEnt E σ μ la a) := by
  simp [qWr, h]
theorem qWr_some {E : qEnv} {σ : qSg} {μ : qMu} {la : qLa} {a : Nat} {q : Nat × va_E} (h : (qWr E σ μ la)[a]? = some q) : a < σ.1 ∧ q = (E.1 + a, qEnt E σ μ la a) := by
  by_cases ha : a < σ.1
  · rw [qWr_get ha] at h
    exact ⟨ha, (Option.some.inj h).symm⟩
  · have : (qWr E σ μ la)[a]? = none := by simp [qWr]; omega
    rw [this] at h; cases h
theorem qWr_D {E : qEnv} {σ : qSg} {μ : qMu} {la : qLa} : va_D (qA E) (qWr E σ μ la) := by
  refine ⟨fun i j p q hi hj h => ?_, fun k q hk => ?_⟩
  · obtain ⟨-, rfl⟩ := qWr_some hi
    obtain ⟨-, rfl⟩ := qWr_some hj
    simp only at h
    omega
  · obtain ⟨-, rfl⟩ := qWr_some hk
    exact Nat.le_add_right _ _
theorem qWr_ext {E : qEnv} {σ : qSg} {μ : qMu} {la : qLa} {w : va_W} (hl : w.length = σ.1) (h : ∀ a, a < σ.1 → w[a]? = some (E.1 + a, qEnt E σ μ la a)) : w = qWr E σ μ la := by
  apply List.ext_getElem?
  intro a
  by_cases ha : a < σ.1
  · rw [h a ha, qWr_get ha]
  · rw [List.getElem?_eq_none (by omega), List.getElem?_eq_none (by simp [qWr]; omega)]
theorem qWr_set {E : qEnv} {σ σ' : qSg} {μ μ' : qMu} {la la' : qLa} {a : Nat} {x : va_E} (ha : a < σ.1) (hn : σ'.1 = σ.1) (hx : x = qEnt E σ' μ' la' a) (h : ∀ b, b ≠ a → qEnt E σ' μ' la' b = qEnt E σ μ la b) : (qWr E σ μ la).set a (E.1 + a, x) = qWr E σ' μ' la' := by
  refine qWr_ext (by simp [qWr, hn]) (fun b hb => ?_)
  rw [List.getElem?_set]
  by_cases hab : a = b
  · subst hab
    rw [if_pos rfl, if_pos (by simp [qWr]; omega), hx]
  · rw [if_neg hab, qWr_get (by omega), h b (fun z => hab z.symm)]
theorem qWr_push {E : qEnv} {nx : Nat} {ρ ρ' : qRho} {μ μ' : qMu} {la la' : qLa} {x : va_E} (hx : x = qEnt E (nx + 1, ρ') μ' la' nx) (h : ∀ b, b ≠ nx → qEnt E (nx + 1, ρ') μ' la' b = qEnt E (nx, ρ) μ la b) : qWr E (nx, ρ) μ la ++ [(E.1 + nx, x)] = qWr E (nx + 1, ρ') μ' la' := by
  refine qWr_ext (by simp [qWr]) (fun b hb => ?_)
  have hb' : b < nx + 1 := hb
  by_cases hq : b = nx
  · subst hq
    rw [List.getElem?_append_right (by simp [qWr])]
    simp [qWr, hx]
  · have h1 : b < nx := by omega
    rw [List.getElem?_append_left (by simp [qWr]; omega), qWr_get (show b < (nx, ρ).1 from h1), h b hq]
/-! locals -/
def qClaim (E : qEnv) (ls : List Value) (i : Nat) : Option Value := match ls[i]? with
  | some (.int x) => some (.int x)
  | some (.ref a) => some (.ref (qAd E a))
  | some (.long x) => if ls[i + 1]? = some qMk then some (.long x) else none
  | _ => none
def qLR (E : qEnv) (arr : Array Slot) (ls : List Value) : Prop := arr.size = ls.length ∧ lv_wf arr ∧ ∀ i v, qClaim E ls i = some v → arr[i]? = some (.val v)
def qLv (E : qEnv) (ls : List Value) : List (Nat × Value) := (List.range ls.length).filterMap fun i => (qClaim E ls i).map fun v => (i, v)
theorem qClaim_lt {E : qEnv} {ls : List Value} {i : Nat} {v : Value} (h : qClaim E ls i = some v) : i < ls.length := by
  by_cases hi : i < ls.length
  · exact hi
  · rw [qClaim, List.getElem?_eq_none (by omega)] at h
    cases h
theorem qLv_mem {E : qEnv} {ls : List Value} {i : Nat} {v : Value} : (i, v) ∈ qLv E ls ↔ qClaim E ls i = some v := by
  simp only [qLv, List.mem_filterMap, List.mem_range, Option.map_eq_some_iff, Prod.mk.injEq]
  constructor
  · rintro ⟨j, hj, w, hw, rfl, rfl⟩
    exact hw
  · intro h
    exact ⟨i, qClaim_lt h, v, h, rfl, rfl⟩
theorem qLR_has {E : qEnv} {arr : Array Slot} {ls : List Value} (h : qLR E arr ls) : lv_has arr ls.length (qLv E ls) :=
  ⟨h.1, h.2.1, fun q hq => h.2.2 q.1 q.2 (qLv_mem.mp hq)⟩
theorem qLR_set1 {E : qEnv} {arr : Array Slot} {ls : List Value} {i : Nat} {v w : Value} (hi : i < ls.length) (hw : w = qRv E v) (hv : (∃ x, v = .int x) ∨ ∃ x, v = .ref x) (h : lv_has arr ls.length ((i, w) :: (qLv E ls).filter (fun q => !(q.1 == i) && !(q.1 + 1 == i && q.2.category == 2)))) : qLR E arr (ls.set i v) := by
  refine ⟨by rw [h.1]; simp, h.2.1, fun j u hj => ?_⟩
  by_cases hji : j = i
  · subst hji
    have hu : u = w := by
      rcases hv with ⟨x, rfl⟩ | ⟨x, rfl⟩ <;> simp [qClaim, hi] at hj <;> rw [hw, ← hj] <;> rfl
    rw [hu]
    exact h.2.2 (j, w) List.mem_cons_self
  · have e1 : (ls.set i v)[j]? = ls[j]? := by rw [List.getElem?_set, if_neg (fun z => hji z.symm)]
    refine h.2.2 (j, u) (List.mem_cons_of_mem _ (List.mem_filter.mpr ⟨qLv_mem.mpr ?_, ?_⟩))
    · simp only [qClaim, e1] at hj ⊢
      cases hl : ls[j]? with
      | none => rw [hl] at hj; simp at hj
      | some z =>
        rw [hl] at hj
        cases z with
        | long x =>
          simp only at hj ⊢
          by_cases hk : j + 1 = i
          · rw [hk, List.getElem?_set, if_pos rfl, if_pos hi] at hj
            rcases hv with ⟨x, rfl⟩ | ⟨x, rfl⟩ <;> simp at hj
          · rw [List.getElem?_set, if_neg (show ¬ i = j + 1 from fun z => hk z.symm)] at hj
            exact hj
        | _ => exact hj
    · simp only [Bool.and_eq_true, Bool.not_eq_true', beq_eq_false_iff_ne, ne_eq, Bool.and_eq_false_iff]
      refine ⟨hji, ?_⟩
      by_cases hk : j + 1 = i
      · right
        simp only [qClaim, e1] at hj
        cases hl : ls[j]? with
        | none => rw [hl] at hj; simp at hj
        | some z =>
          rw [hl] at hj
          cases z with
          | long x =>
            simp only at hj
            rw [hk, List.getElem?_set, if_pos rfl, if_pos hi] at hj
            rcases hv with ⟨x, rfl⟩ | ⟨x, rfl⟩ <;> simp at hj
          | int x => simp at hj; subst hj; simp [Value.category]
          | ref x => simp at hj; subst hj; simp [Value.category]
          | _ => simp at hj
      · left; exact hk
theorem qLR_set2 {E : qEnv} {arr : Array Slot} {ls : List Value} {i : Nat} {x : Int64} (hi : i + 1 < ls.length) (h : lv_has arr ls.length ((i, .long x) :: (qLv E ls).filter (fun q => !(q.1 == i) && (!(q.1 == i + 1) && !(q.1 + 1 == i && q.2.category == 2))))) : qLR E arr ((ls.set i (.long x)).set (i + 1) qMk) := by
  refine ⟨by rw [h.1]; simp, h.2.1, fun j u hj => ?_⟩
  have g : ∀ k, ((ls.set i (.long x)).set (i + 1) qMk)[k]? = if k = i + 1 then some qMk else if k = i then some (.long x) else ls[k]? := by
    intro k
    rw [List.getElem?_set, List.getElem?_set]
    by_cases h1 : k = i + 1
    · subst h1; simp [hi]
    · rw [if_neg (fun z => h1 z.symm), if_neg h1]
      by_cases h2 : k = i
      · subst h2; simp; omega
      · rw [if_neg (fun z => h2 z.symm), if_neg h2]
  simp only [qClaim, g] at hj
  by_cases h1 : j = i + 1
  · rw [if_pos h1] at hj; simp at hj
  · rw [if_neg h1] at hj
    by_cases h2 : j = i
    · subst h2
      simp at hj
      subst hj
      exact h.2.2 (j, .long x) List.mem_cons_self
    · rw [if_neg h2] at hj
      cases hl : ls[j]? with
      | none => rw [hl] at hj; simp at hj
      | some z =>
        rw [hl] at hj
        refine h.2.2 (j, u) (List.mem_cons_of_mem _ (List.mem_filter.mpr ⟨qLv_mem.mpr ?_, ?_⟩))
        · cases z with
          | long y =>
            simp only at hj
            simp only [Nat.add_right_cancel_iff, h2, if_false] at hj
            by_cases h3 : j + 1 = i
            · rw [if_pos h3] at hj; simp at hj
            · rw [if_neg h3] at hj
              simp only [qClaim, hl]
              exact hj
          | _ => simp only [qClaim, hl]; exact hj
        · simp only [Bool.and_eq_true, Bool.not_eq_true', beq_eq_false_iff_ne, ne_eq, Bool.and_eq_false_iff]
          refine ⟨h2, h1, ?_⟩
          by_cases h3 : j + 1 = i
          · right
            cases z with
            | long y =>
              simp only at hj
              simp only [Nat.add_right_cancel_iff, h2, if_false] at hj
              rw [if_pos h3] at hj
              simp at hj
            | int y => simp at hj; subst hj; simp [Value.category]
            | ref y => simp at hj; subst hj; simp [Value.category]
            | _ => simp at hj
          · left; exact h3
