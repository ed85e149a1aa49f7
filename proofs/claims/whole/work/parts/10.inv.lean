/-! what a step that went on tells; the tables, class by class -/
theorem qpI_inv {α : Type} {st : List Value} {k : Int32 → List Value → Option α} {y : α} (h : qpI st k = some y) : ∃ x r, st = .int x :: r ∧ k x r = some y := by
  unfold qpI at h
  split at h
  · exact ⟨_, _, rfl, h⟩
  · cases h
theorem qpL_inv {α : Type} {st : List Value} {k : Int64 → List Value → Option α} {y : α} (h : qpL st k = some y) : ∃ x r, st = .long x :: r ∧ k x r = some y := by
  unfold qpL at h
  split at h
  · exact ⟨_, _, rfl, h⟩
  · cases h
theorem qpR_inv {α : Type} {st : List Value} {k : Nat → List Value → Option α} {y : α} (h : qpR st k = some y) : ∃ x r, st = .ref x :: r ∧ k x r = some y := by
  unfold qpR at h
  split at h
  · exact ⟨_, _, rfl, h⟩
  · cases h
theorem qp1_inv {α : Type} {E : qEnv} {st : List Value} {k : Value → List Value → Option α} {y : α} (h : qp1 st k = some y) : ∃ v r, st = v :: r ∧ k v r = some y ∧ (qRv E v).category = 1 := by
  unfold qp1 at h
  split at h
  · exact ⟨_, _, rfl, h, rfl⟩
  · exact ⟨_, _, rfl, h, rfl⟩
  · cases h
theorem qif_inv {α : Type} {c : Prop} {hc : Decidable c} {a : Option α} {y : α} (h : (if c then a else none) = some y) : c ∧ a = some y := by
  by_cases q : c
  · rw [if_pos q] at h; exact ⟨q, h⟩
  · rw [if_neg q] at h; cases h
theorem qN_inv {pc : Nat} {st ls : List Value} {σ : qSg} {μ : qMu} {la : qLa} {q : qSt} (h : qN pc st ls σ μ la = some (.inl q)) : q = (pc, st, ls, σ, μ, la) := by
  simp only [qN, Option.some.injEq, Sum.inl.injEq] at h
  exact h.symm
theorem qTg_inv {pc : Nat} {off : Int} {t : Nat} (h : qTg pc off = some t) : (pc : Int) + off = (t : Int) := by
  unfold qTg at h
  split at h
  · rename_i z hz
    cases h
    exact hz
  · cases h
theorem qgI_inv {E : qEnv} {arr : Array Slot} {ls : List Value} {i : Nat} {x : Int32} (hL : qLR E arr ls) (h : qgI ls i = some x) : arr[i]? = some (.val (.int x)) ∧ i < ls.length ∧ ls[i]? = some (.int x) := by
  unfold qgI at h
  split at h
  · rename_i y hy
    cases h
    exact ⟨hL.2.2 i _ (by simp [qClaim, hy]), (List.getElem?_eq_some_iff.mp hy).1, hy⟩
  · cases h
theorem qgR_inv {E : qEnv} {arr : Array Slot} {ls : List Value} {i : Nat} {x : Nat} (hL : qLR E arr ls) (h : qgR ls i = some x) : arr[i]? = some (.val (.ref (qAd E x))) := by
  unfold qgR at h
  split at h
  · rename_i y hy
    cases h
    exact hL.2.2 i _ (by simp [qClaim, hy])
  · cases h
theorem qgL_inv {E : qEnv} {arr : Array Slot} {ls : List Value} {i : Nat} {x : Int64} (hL : qLR E arr ls) (h : qgL ls i = some x) : arr[i]? = some (.val (.long x)) := by
  unfold qgL at h
  split at h
  · rename_i y hy hz
    cases h
    exact hL.2.2 i _ (by simp [qClaim, hy, hz])
  · cases h
theorem qOk_inv {σ : qSg} {a k : Nat} (h : qOk σ a k = true) : a < σ.1 ∧ (qSh a).1 = k := by
  simpa [qOk] using h
theorem qIn_inv {i : Int32} {n : Nat} (h : qIn i n = true) : vp_in i n ∧ i.toNatClampNeg < n := by
  simp only [qIn, Bool.and_eq_true, decide_eq_true_eq] at h
  refine ⟨fun q => ?_, h.2⟩
  rcases q with q | q
  · exact absurd h.1 (Int32.not_le.mpr q)
  · omega
theorem qClsOk (ci : Nat) (h : ci < 8) : vwCl[ci]? = some ((qCls ci).1, (qCls ci).2.1, (qCls ci).2.2) ∧ (qCls ci).1 = qRn ci ∧ (∀ w ∈ u_ws (qCls ci).1 (qCls ci).2.1 (qCls ci).2.2, w ∈ qG) ∧ (∀ k, k < (qCls ci).2.2 → parseFieldDescriptor ((qCls ci).2.1 k).2.2.1 = some (qFty ci k)) ∧ (∀ a, a < (qCls ci).2.2 → ∀ b, b < (qCls ci).2.2 → a ≠ b → ((qCls ci).2.1 a).2.1 ≠ ((qCls ci).2.1 b).2.1) := by
  match ci, h with
  | 0, _ => exact ⟨rfl, rfl, qU0, tyX0_ok, nmX0⟩
  | 1, _ => exact ⟨rfl, rfl, qU1, tyX1_ok, nmX1⟩
  | 2, _ => exact ⟨rfl, rfl, qU2, tyX2_ok, nmX2⟩
  | 3, _ => exact ⟨rfl, rfl, qU3, tyX3_ok, nmX3⟩
  | 4, _ => exact ⟨rfl, rfl, qU4, tyX4_ok, nmX4⟩
  | 5, _ => exact ⟨rfl, rfl, qU5, tyX5_ok, nmX5⟩
  | 6, _ => exact ⟨rfl, rfl, qU6, tyX6_ok, nmX6⟩
  | 7, _ => exact ⟨rfl, rfl, qU7, tyX7_ok, nmX7⟩
theorem qShL_ok : ∀ q ∈ qShL, q.1 < 8 → q.2 = (qCls q.1).2.2 := by decide +kernel
theorem qSh_lo {a : Nat} (h : a < 1000) : qSh a = qShL.getD a (99, 0) := by simp [qSh, h]
theorem qSh_hi {a : Nat} (h : 1000 ≤ a) : (qSh a).1 = 20 ∨ (qSh a).1 = 22 ∨ (qSh a).1 = 30 ∨ (qSh a).1 = 21 ∨ (qSh a).1 = 99 := by
  by_cases h0 : a = 1000
  · subst h0; decide
  by_cases h1 : a = 1001
  · subst h1; decide
  by_cases h2 : a = 1002
  · subst h2; decide
  by_cases h3 : a = 1003
  · subst h3; decide
  by_cases h4 : a = 1010
  · subst h4; decide
  by_cases h5 : a = 1011
  · subst h5; decide
  by_cases h6 : a = 1012
  · subst h6; decide
  by_cases h7 : a = 1013
  · subst h7; decide
  by_cases h8 : a = 1014
  · subst h8; decide
  by_cases h9 : a = 1020
  · subst h9; decide
  by_cases h10 : a = 1021
  · subst h10; decide
  by_cases h11 : a = 1022
  · subst h11; decide
  by_cases h12 : a = 1023
  · subst h12; decide
  by_cases h13 : a = 1024
  · subst h13; decide
  have hl : ¬ a < 1000 := by omega
  simp [qSh, hl, h0, h1, h2, h3, h4, h5, h6, h7, h8, h9, h10, h11, h12, h13]
theorem qSh_obj {a : Nat} (h : (qSh a).1 < 8) : (qSh a).2 = (qCls (qSh a).1).2.2 := by
  by_cases ha : a < 1000
  · rw [qSh_lo ha] at h ⊢
    rw [List.getD_eq_getElem?_getD] at h ⊢
    cases hq : qShL[a]? with
    | none => rw [hq] at h; simp at h
    | some q =>
      rw [hq] at h
      exact qShL_ok q (List.mem_of_getElem? hq) h
  · rcases qSh_hi (Nat.le_of_not_lt ha) with q | q | q | q | q <;> rw [q] at h <;> omega
theorem qSh_t {a k : Nat} (h : (qSh a).1 = k) (hk : k < 20) : a < 1000 := by
  by_cases ha : a < 1000
  · exact ha
  · rcases qSh_hi (Nat.le_of_not_lt ha) with q | q | q | q | q <;> rw [q] at h <;> omega
theorem qAd_lo {E : qEnv} {a : Nat} (h : a < 1000) : qAd E a = E.1 + a := by simp [qAd, h]
theorem qAd_hi {E : qEnv} {a : Nat} (h : 1000 ≤ a) : qAd E a = E.2.1 a := by
  simp [qAd]; omega
theorem qRv_qrf (E : qEnv) (o : Option Nat) : qRv E (qrf o) = va_rf (o.map (qAd E)) := by cases o <;> rfl
theorem qFs_get {E : qEnv} {σ : qSg} {μ : qMu} {ci a k : Nat} (h : k < (qSh a).2) : (qFs E σ μ ci a)[k]? = some (if qFk ci k = true then .int (μ a k) else va_rf ((σ.2 a k).map (qAd E))) := by
  simp [qFs, h]
theorem qEnt_mu {E : qEnv} {σ : qSg} {μ μ' : qMu} {la : qLa} {b : Nat} (h : μ' b = μ b) : qEnt E σ μ' la b = qEnt E σ μ la b := by
  unfold qEnt qFs; rw [h]
theorem qEnt_la {E : qEnv} {σ : qSg} {μ : qMu} {la la' : qLa} {b : Nat} (h : la' b = la b) : qEnt E σ μ la' b = qEnt E σ μ la b := by
  unfold qEnt; rw [h]
theorem qEnt_rho {E : qEnv} {σ σ' : qSg} {μ : qMu} {la : qLa} {b : Nat} (h : σ'.2 b = σ.2 b) : qEnt E σ' μ la b = qEnt E σ μ la b := by
  unfold qEnt qFs; rw [h]
theorem qset_ne {f : qMu} {a k b : Nat} {x : Int32} (h : b ≠ a) : qset f a k x b = f b := by
  funext j; simp [qset, h]
theorem qsetL_ne {f : qLa} {a k b : Nat} {x : Int64} (h : b ≠ a) : qsetL f a k x b = f b := by
  funext j; simp [qsetL, h]
theorem qsetR_ne {f : qRho} {a k b : Nat} {x : Option Nat} (h : b ≠ a) : qsetR f a k x b = f b := by
  funext j; simp [qsetR, h]
theorem qclr_ne {α : Type} {f : Nat → Nat → α} {a b : Nat} {z : α} (h : b ≠ a) : qclr f a z b = f b := by
  funext j; simp [qclr, h]
theorem qcpy_ne {α : Type} {f : Nat → Nat → α} {a0 sp a dp n b : Nat} (h : b ≠ a) : qcpy f a0 sp a dp n b = f b := by
  funext j; simp [qcpy, h]
theorem qset_eq {f : qMu} {a k : Nat} {x : Int32} : qset f a k x a = upd (f a) k x := by
  funext j; simp [qset, upd]
theorem qsetL_eq {f : qLa} {a k : Nat} {x : Int64} : qsetL f a k x a = vp_updL (f a) k x := by
  funext j; simp [qsetL, vp_updL]
theorem qcpy_eq {α : Type} {f : Nat → Nat → α} {a0 sp a dp n : Nat} : qcpy f a0 sp a dp n a = va_cpy (f a0) (f a) sp dp n := by
  funext j; simp [qcpy, va_cpy]
theorem qShL_30 : ∀ q ∈ qShL, ¬ q.1 = 30 := by decide +kernel
theorem qSh_30 {a : Nat} (h : 1000 ≤ a) (h30 : (qSh a).1 = 30) : ∃ i, i < 5 ∧ a = 1010 + i := by
  by_cases h0 : a = 1000
  · subst h0; exact absurd h30 (by decide)
  by_cases h1 : a = 1001
  · subst h1; exact absurd h30 (by decide)
  by_cases h2 : a = 1002
  · subst h2; exact absurd h30 (by decide)
  by_cases h3 : a = 1003
  · subst h3; exact absurd h30 (by decide)
  by_cases h4 : a = 1010
  · exact ⟨0, by omega, h4⟩
  by_cases h5 : a = 1011
  · exact ⟨1, by omega, h5⟩
  by_cases h6 : a = 1012
  · exact ⟨2, by omega, h6⟩
  by_cases h7 : a = 1013
  · exact ⟨3, by omega, h7⟩
  by_cases h8 : a = 1014
  · exact ⟨4, by omega, h8⟩
  by_cases h9 : a = 1020
  · subst h9; exact absurd h30 (by decide)
  by_cases h10 : a = 1021
  · subst h10; exact absurd h30 (by decide)
  by_cases h11 : a = 1022
  · subst h11; exact absurd h30 (by decide)
  by_cases h12 : a = 1023
  · subst h12; exact absurd h30 (by decide)
  by_cases h13 : a = 1024
  · subst h13; exact absurd h30 (by decide)
  have hl : ¬ a < 1000 := by omega
  simp [qSh, hl, h0, h1, h2, h3, h4, h5, h6, h7, h8, h9, h10, h11, h12, h13] at h30
theorem qShL_20 : ∀ q ∈ qShL, ¬ q.1 = 20 ∧ ¬ q.1 = 21 ∧ ¬ q.1 = 22 := by decide +kernel
theorem qSh_not {a : Nat} (h : a < 1000) : ¬ (qSh a).1 = 20 ∧ ¬ (qSh a).1 = 21 ∧ ¬ (qSh a).1 = 22 := by
  rw [qSh_lo h, List.getD_eq_getElem?_getD]
  cases hq : qShL[a]? with
  | none => simp
  | some z => exact qShL_20 z (List.mem_of_getElem? hq)
theorem qSh_20 {a : Nat} (ht : (qSh a).1 = 20) : ∃ i, i < 3 ∧ a = 1000 + i := by
  have hl : ¬ a < 1000 := fun z => absurd ht (qSh_not z).1
  by_cases h0 : a = 1000
  · exact ⟨0, by omega, h0⟩
  by_cases h1 : a = 1001
  · exact ⟨1, by omega, h1⟩
  by_cases h2 : a = 1002
  · exact ⟨2, by omega, h2⟩
  by_cases h3 : a = 1003
  · subst h3; exact absurd ht (by decide)
  by_cases h4 : a = 1010
  · subst h4; exact absurd ht (by decide)
  by_cases h5 : a = 1011
  · subst h5; exact absurd ht (by decide)
  by_cases h6 : a = 1012
  · subst h6; exact absurd ht (by decide)
  by_cases h7 : a = 1013
  · subst h7; exact absurd ht (by decide)
  by_cases h8 : a = 1014
  · subst h8; exact absurd ht (by decide)
  by_cases h9 : a = 1020
  · subst h9; exact absurd ht (by decide)
  by_cases h10 : a = 1021
  · subst h10; exact absurd ht (by decide)
  by_cases h11 : a = 1022
  · subst h11; exact absurd ht (by decide)
  by_cases h12 : a = 1023
  · subst h12; exact absurd ht (by decide)
  by_cases h13 : a = 1024
  · subst h13; exact absurd ht (by decide)
  simp [qSh, hl, h0, h1, h2, h3, h4, h5, h6, h7, h8, h9, h10, h11, h12, h13] at ht
theorem qSh_21 {a : Nat} (ht : (qSh a).1 = 21) : ∃ i, i < 5 ∧ a = 1020 + i := by
  have hl : ¬ a < 1000 := fun z => absurd ht (qSh_not z).2.1
  by_cases h0 : a = 1000
  · subst h0; exact absurd ht (by decide)
  by_cases h1 : a = 1001
  · subst h1; exact absurd ht (by decide)
  by_cases h2 : a = 1002
  · subst h2; exact absurd ht (by decide)
  by_cases h3 : a = 1003
  · subst h3; exact absurd ht (by decide)
  by_cases h4 : a = 1010
  · subst h4; exact absurd ht (by decide)
  by_cases h5 : a = 1011
  · subst h5; exact absurd ht (by decide)
  by_cases h6 : a = 1012
  · subst h6; exact absurd ht (by decide)
  by_cases h7 : a = 1013
  · subst h7; exact absurd ht (by decide)
  by_cases h8 : a = 1014
  · subst h8; exact absurd ht (by decide)
  by_cases h9 : a = 1020
  · exact ⟨0, by omega, h9⟩
  by_cases h10 : a = 1021
  · exact ⟨1, by omega, h10⟩
  by_cases h11 : a = 1022
  · exact ⟨2, by omega, h11⟩
  by_cases h12 : a = 1023
  · exact ⟨3, by omega, h12⟩
  by_cases h13 : a = 1024
  · exact ⟨4, by omega, h13⟩
  simp [qSh, hl, h0, h1, h2, h3, h4, h5, h6, h7, h8, h9, h10, h11, h12, h13] at ht
theorem qSh_22 {a : Nat} (ht : (qSh a).1 = 22) : a = 1003 := by
  have hl : ¬ a < 1000 := fun z => absurd ht (qSh_not z).2.2
  by_cases h0 : a = 1000
  · subst h0; exact absurd ht (by decide)
  by_cases h1 : a = 1001
  · subst h1; exact absurd ht (by decide)
  by_cases h2 : a = 1002
  · subst h2; exact absurd ht (by decide)
  by_cases h3 : a = 1003
  · exact h3
  by_cases h4 : a = 1010
  · subst h4; exact absurd ht (by decide)
  by_cases h5 : a = 1011
  · subst h5; exact absurd ht (by decide)
  by_cases h6 : a = 1012
  · subst h6; exact absurd ht (by decide)
  by_cases h7 : a = 1013
  · subst h7; exact absurd ht (by decide)
  by_cases h8 : a = 1014
  · subst h8; exact absurd ht (by decide)
  by_cases h9 : a = 1020
  · subst h9; exact absurd ht (by decide)
  by_cases h10 : a = 1021
  · subst h10; exact absurd ht (by decide)
  by_cases h11 : a = 1022
  · subst h11; exact absurd ht (by decide)
  by_cases h12 : a = 1023
  · subst h12; exact absurd ht (by decide)
  by_cases h13 : a = 1024
  · subst h13; exact absurd ht (by decide)
  simp [qSh, hl, h0, h1, h2, h3, h4, h5, h6, h7, h8, h9, h10, h11, h12, h13] at ht
theorem qLen_inv {σ : qSg} {i : Int32} {k a : Nat} (h : qIn i (qLen σ k a) = true) : vp_in i (qSh a).2 ∧ i.toNatClampNeg < (qSh a).2 ∧ a < σ.1 ∧ (qSh a).1 = k := by
  obtain ⟨h1, h2⟩ := qIn_inv h
  unfold qLen at h1 h2
  by_cases hok : qOk σ a k = true
  · rw [if_pos hok] at h1 h2
    exact ⟨h1, h2, qOk_inv hok⟩
  · rw [if_neg hok] at h2
    exact absurd h2 (Nat.not_lt_zero _)
