/-! the class's towns and walks: how they lie, and what their reading methods answer -/
/-- a town of the class lies at t -/
def qTown (σ : qSg) (t : Nat) : Prop := t + 7 < σ.1 ∧ qSh t = (4, 13) ∧ qSh (t + 1) = (10, 64) ∧ (∀ k, 2 ≤ k → k ≤ 6 → qSh (t + k) = (10, 6)) ∧ qSh (t + 7) = (10, 24) ∧ ∀ k, 6 ≤ k → k ≤ 12 → σ.2 t k = some (t + (k - 5))
def qWalk (σ : qSg) (w : Nat) : Prop := w + 1 < σ.1 ∧ qSh w = (5, 5) ∧ qSh (w + 1) = (10, 8) ∧ σ.2 w 0 = some (w + 1)
/-- the class's constant rows -/
def qRo (μ : qMu) : Prop := (∀ j, μ 1000 j = ([1, 0, 2, 2, 3] : List Int32).getD j 0) ∧ (∀ j, μ 1001 j = ([3, 5, 9, 30] : List Int32).getD j 0) ∧ ∀ j, μ 1002 j = ([-1, 0, 1, 1, 0, 4] : List Int32).getD j 0
/-- the town at t is T -/
def qTw (μ : qMu) (t : Nat) (T : qT) : Prop :=
  μ t 0 = nI (T 113) ∧ μ t 1 = nI (T 114) ∧ μ t 2 = nI (T 115) ∧ μ t 3 = nI (T 0) ∧ μ t 4 = nI (T 116) ∧ μ t 5 = nI (T 117) ∧
  (∀ c, inT T c → μ (t + 1) c = nI (T (49 + c))) ∧
  ∀ p, p < T 115 → μ (t + 2) p = nI (T (118 + p)) ∧ μ (t + 3) p = nI (T (1 + p)) ∧ μ (t + 4) p = nI (T (7 + p)) ∧ μ (t + 5) p = nI (T (13 + p)) ∧ μ (t + 6) p = nI (T (19 + p)) ∧ ∀ k, k < 4 → μ (t + 7) (4 * p + k) = nI (T (25 + 4 * p + k))
theorem qTw_frame {μ μ' : qMu} {t : Nat} {T : qT} (h : qTw μ t T) (hf : ∀ a, t ≤ a → a ≤ t + 7 → μ' a = μ a) : qTw μ' t T := by
  unfold qTw at h ⊢
  rw [hf t (by omega) (by omega), hf (t + 1) (by omega) (by omega), hf (t + 2) (by omega) (by omega), hf (t + 3) (by omega) (by omega), hf (t + 4) (by omega) (by omega), hf (t + 5) (by omega) (by omega), hf (t + 6) (by omega) (by omega), hf (t + 7) (by omega) (by omega)]
  exact h
section
variable {σ : qSg} {μ : qMu} {t w : Nat}
theorem qtOk (h : qTown σ t) : qOk σ t 4 = true := by
  obtain ⟨h1, h2, -⟩ := h
  simp [qOk, h2]; omega
theorem qtR (h : qTown σ t) : σ.2 t 6 = some (t + 1) ∧ σ.2 t 7 = some (t + 2) ∧ σ.2 t 8 = some (t + 3) ∧ σ.2 t 9 = some (t + 4) ∧ σ.2 t 10 = some (t + 5) ∧ σ.2 t 11 = some (t + 6) ∧ σ.2 t 12 = some (t + 7) := by
  obtain ⟨-, -, -, -, -, h⟩ := h
  exact ⟨h 6 (by omega) (by omega), h 7 (by omega) (by omega), h 8 (by omega) (by omega), h 9 (by omega) (by omega), h 10 (by omega) (by omega), h 11 (by omega) (by omega), h 12 (by omega) (by omega)⟩
theorem qIld10 {a n : Nat} (h1 : a < σ.1) (h2 : qSh a = (10, n)) : qIld σ μ a = n := by simp [qIld, h1, h2]
theorem qLen10 {a n k : Nat} (h1 : a < σ.1) (h2 : qSh a = (k, n)) : qLen σ k a = n := by simp [qLen, qOk, h1, h2]
theorem qtSh (h : qTown σ t) : qSh (t + 1) = (10, 64) ∧ qSh (t + 2) = (10, 6) ∧ qSh (t + 3) = (10, 6) ∧ qSh (t + 4) = (10, 6) ∧ qSh (t + 5) = (10, 6) ∧ qSh (t + 6) = (10, 6) ∧ qSh (t + 7) = (10, 24) := by
  obtain ⟨h1, h2, h3, h4, h5, h6⟩ := h
  exact ⟨h3, h4 2 (by omega) (by omega), h4 3 (by omega) (by omega), h4 4 (by omega) (by omega), h4 5 (by omega) (by omega), h4 6 (by omega) (by omega), h5⟩
theorem qtI (h : qTown σ t) : qIld σ μ (t + 1) = 64 ∧ qIld σ μ (t + 2) = 6 ∧ qIld σ μ (t + 3) = 6 ∧ qIld σ μ (t + 4) = 6 ∧ qIld σ μ (t + 5) = 6 ∧ qIld σ μ (t + 6) = 6 ∧ qIld σ μ (t + 7) = 24 := by
  have h1 := h.1
  obtain ⟨a1, a2, a3, a4, a5, a6, a7⟩ := qtSh h
  exact ⟨qIld10 (by omega) a1, qIld10 (by omega) a2, qIld10 (by omega) a3, qIld10 (by omega) a4, qIld10 (by omega) a5, qIld10 (by omega) a6, qIld10 (by omega) a7⟩
theorem qtL (h : qTown σ t) : qLen σ 10 (t + 1) = 64 ∧ qLen σ 10 (t + 2) = 6 ∧ qLen σ 10 (t + 3) = 6 ∧ qLen σ 10 (t + 4) = 6 ∧ qLen σ 10 (t + 5) = 6 ∧ qLen σ 10 (t + 6) = 6 ∧ qLen σ 10 (t + 7) = 24 := by
  have h1 := h.1
  obtain ⟨a1, a2, a3, a4, a5, a6, a7⟩ := qtSh h
  exact ⟨qLen10 (by omega) a1, qLen10 (by omega) a2, qLen10 (by omega) a3, qLen10 (by omega) a4, qLen10 (by omega) a5, qLen10 (by omega) a6, qLen10 (by omega) a7⟩
theorem qwOk (h : qWalk σ w) : qOk σ w 5 = true ∧ σ.2 w 0 = some (w + 1) ∧ qIld σ μ (w + 1) = 8 ∧ qLen σ 10 (w + 1) = 8 := by
  obtain ⟨h1, h2, h3, h4⟩ := h
  refine ⟨by simp [qOk, h2]; omega, h4, qIld10 (by omega) h3, qLen10 (by omega) h3⟩
theorem qIld0 : qIld σ μ 1000 = 5 ∧ qIld σ μ 1001 = 4 ∧ qIld σ μ 1002 = 6 := ⟨rfl, rfl, rfl⟩
end
theorem qIn_nI {k n : Nat} (h : k < n) (hn : n < 2 ^ 31) : qIn (nI k) n = true := by
  simp only [qIn, Bool.and_eq_true, decide_eq_true_eq, nI_clamp (Nat.lt_trans h hn)]
  exact ⟨nI_pos' (Nat.lt_trans h hn), h⟩
theorem nI_ex {x : Int32} {n : Nat} (h0 : ¬ x < 0) (h1 : ¬ nI n ≤ x) (hn : n < 2 ^ 31) : ∃ k, k < n ∧ x = nI k := by
  have e1 := nI_toInt hn
  have g0 : 0 ≤ x.toInt := by have := Int32.le_iff_toInt_le.mp (Int32.not_lt.mp h0); simpa using this
  have g1 : x.toInt < (nI n).toInt := by have := Int32.lt_iff_toInt_lt.mp (Int32.not_le.mp h1); exact this
  refine ⟨x.toInt.toNat, by omega, ?_⟩
  apply Int32.toInt_inj.mp
  rw [nI_toInt (by omega)]
  omega
theorem nI_nle' {a b : Nat} (h : b < a) (ha : a < 2 ^ 31) : ¬ nI a ≤ nI b := nI_ge h ha
theorem nI_sub {a b : Nat} (h : b ≤ a) : nI a - nI b = nI (a - b) := by
  have e : nI (a - b) + nI b = nI a := by rw [nI_add, Nat.sub_add_cancel h]
  rw [← e]
  grind
theorem nI_lit (n : Nat) : (OfNat.ofNat n : Int32) = nI n := rfl
section
variable {d : Nat} {σ : qSg} {μ : qMu} {la : qLa} {Q : qPost} {t : Nat} {T : qT} {c N : Nat}
theorem c_has {x : Int32} (hT : qTown σ t) (hw : qTw μ t T) (h1 : ∀ p, p < T 115 → x = nI p → Q (some (.int 1)) σ μ la) (h0 : (¬ ∃ p, p < T 115 ∧ x = nI p) → Q (some (.int 0)) σ μ la) (h6 : T 115 ≤ 6) : qEx d 60 0 [] [.ref t, .int x] σ μ la Q := by
  simp only [x60_0, x60_1, x60_4, x60_5, x60_6, x60_9, x60_12, x60_13, x60_16, x60_17, qtOk hT, true_and, hw.2.2.1]
  by_cases hx : x < 0
  · rw [if_pos hx]
    refine ⟨by decide, h0 ?_⟩
    rintro ⟨p, hp, rfl⟩
    exact absurd hx (nI_pos (by omega))
  · rw [if_neg hx]
    by_cases hy : nI (T 115) ≤ x
    · rw [if_pos hy]
      refine ⟨by decide, h0 ?_⟩
      rintro ⟨p, hp, rfl⟩
      exact absurd hy (nI_ge hp (by omega))
    · rw [if_neg hy]
      obtain ⟨p, hp, rfl⟩ := nI_ex hx hy (by omega)
      exact ⟨by decide, h1 p hp rfl⟩
theorem c_inside {x : Int32} (hT : qTown σ t) (hw : qTw μ t T) (hwf : wfT N T) (h1 : ∀ c, inT T c → x = nI c → Q (some (.int 1)) σ μ la) (h0 : (¬ ∃ c, inT T c ∧ x = nI c) → Q (some (.int 0)) σ μ la) : qEx d 61 0 [] [.ref t, .int x] σ μ la Q := by
  have hr := hwf.2.2.1
  have hcl := hwf.2.1
  simp only [x61_0, x61_1, x61_4, x61_5, x61_7, x61_10, x61_11, x61_13, x61_14, x61_15, x61_18, x61_21, x61_22, x61_24, x61_25, x61_26, x61_29, x61_32, x61_33, x61_36, x61_37, qtOk hT, true_and, hw.1, hw.2.1]
  by_cases hx : x < 0
  · rw [if_pos hx]
    refine ⟨by decide, h0 ?_⟩
    rintro ⟨p, hp, rfl⟩
    exact absurd hx (nI_pos (by have := inT_lt hwf hp; omega))
  · rw [if_neg hx]
    by_cases hy : (64 : Int32) ≤ x
    · rw [if_pos hy]
      refine ⟨by decide, h0 ?_⟩
      rintro ⟨p, hp, rfl⟩
      exact absurd hy (nI_ge (b := 64) (inT_lt hwf hp) (by omega))
    · rw [if_neg hy]
      obtain ⟨c, hc, rfl⟩ := nI_ex (n := 64) hx hy (by omega)
      rw [show (8 : Int32) = nI 8 from rfl, nI_reml (by omega) (by omega), nI_divl (by omega) (by omega)]
      refine ⟨by decide, ?_⟩
      by_cases h3 : T 114 ≤ c / 8
      · rw [if_pos (nI_le h3 (by omega))]
        refine ⟨by decide, h0 ?_⟩
        rintro ⟨c', hc', e⟩
        have := (nI_eq (by omega) (by have := inT_lt hwf hc'; omega)).mp e
        subst this
        have := hc'.1
        omega
      · rw [if_neg (nI_ge (by omega) (by omega))]
        refine ⟨by decide, ?_⟩
        by_cases h4 : T 113 ≤ c % 8
        · rw [if_pos (nI_le h4 (by omega))]
          refine ⟨by decide, h0 ?_⟩
          rintro ⟨c', hc', e⟩
          have := (nI_eq (by omega) (by have := inT_lt hwf hc'; omega)).mp e
          subst this
          have := hc'.2
          omega
        · rw [if_neg (nI_ge (by omega) (by omega))]
          exact ⟨by decide, h1 c ⟨by omega, by omega⟩ rfl⟩
theorem c_standing_loop (hT : qTown σ t) (hw : qTw μ t T) (hwf : wfT N T) (hc : c < 64) : ∀ n k, k + n = T 115 → Q (some (.int (noneV (whoF T c k n)))) σ μ la → qEx d 62 2 [] [.ref t, .int (nI c), .int (nI k)] σ μ la Q := by
  have h6 := hwf.1
  intro n
  induction n with
  | zero =>
    intro k hk hQ
    rw [x62_2]
    simp only [x62_0, x62_1, x62_3, x62_4, x62_7, x62_10, x62_11, x62_14, x62_15, x62_16, x62_17, x62_20, x62_21, x62_22, x62_25, x62_28, x62_30, qtOk hT, true_and, hw.2.2.1]
    rw [if_pos (nI_le (by omega) (by omega))]
    exact hQ
  | succ n ih =>
    intro k hk hQ
    rw [x62_2]
    simp only [x62_0, x62_1, x62_3, x62_4, x62_7, x62_10, x62_11, x62_14, x62_15, x62_16, x62_17, x62_20, x62_21, x62_22, x62_25, x62_28, x62_30, qtOk hT, true_and, hw.2.2.1, (qtR hT).2.2.1, qrf, (qtI hT).2.2.1]
    rw [if_neg (nI_ge (by omega) (by omega))]
    refine ⟨qIn_nI (by omega) (by omega), ?_⟩
    have e1 := (hw.2.2.2.2.2.2.2 k (by omega)).2.1
    have e2 := inT_lt hwf (hwf.2.2.2.2.2.2.2.1 k (by omega)).2.1
    rw [nI_clamp (by omega), e1]
    unfold whoF at hQ
    by_cases h : T (1 + k) = c
    · rw [if_pos h] at hQ
      rw [if_neg (by rw [h]; simp)]
      exact hQ
    · rw [if_neg h] at hQ
      rw [if_pos (by rw [nI_eq (by omega) (by omega)]; exact h), nI_1]
      exact ih (k + 1) (by omega) hQ
theorem c_standing (hT : qTown σ t) (hw : qTw μ t T) (hwf : wfT N T) (hc : c < 64) (hQ : Q (some (.int (noneV (whoT T c)))) σ μ la) : qEx d 62 0 [] [.ref t, .int (nI c), .retAddr 0] σ μ la Q := by
  simp only [x62_0, x62_1]
  exact c_standing_loop hT hw hwf hc (T 115) 0 (by omega) hQ
theorem c_beside {side : Nat} (hT : qTown σ t) (hw : qTw μ t T) (hwf : wfT N T) (hc : inT T c) (hs : side < 4) (hQ : Q (some (.int (besV (besT T c side)))) σ μ la) : qEx d 63 0 [] [.ref t, .int (nI c), .int (nI side), .retAddr 0, .retAddr 0] σ μ la Q := by
  have h64 := inT_lt hwf hc
  have hr := hwf.2.2.1
  have hcl := hwf.2.1
  simp only [x63_0, x63_1, x63_3, x63_4, x63_5, x63_6, x63_8, x63_9, x63_11, x63_12, x63_40, x63_42, x63_45, x63_46, x63_48, x63_49, x63_52, x63_53, x63_54, x63_55, x63_56, x63_57, x63_58, x63_61, x63_64, x63_65, x63_66, x63_67, x63_70, x63_71, x63_72, x63_74, x63_75, x63_76, x63_77, x63_80, x63_83, x63_84, x63_86, x63_87, x63_90, x63_91, x63_92, x63_93, x63_96, x63_97, x63_98, x63_99, x63_102, x63_103, qtOk hT, true_and, hw.1, hw.2.1]
  rw [show (8 : Int32) = nI 8 from rfl, nI_reml (by omega) (by omega), nI_divl (by omega) (by omega), nI_toInt (by omega)]
  refine ⟨by decide, by decide, ?_⟩
  rw [show (1 : Int32) = nI 1 from rfl, show (0 : Int32) = nI 0 from rfl]
  simp only [nI_add]
  unfold besT at hQ
  rcases (show side = 0 ∨ side = 1 ∨ side = 2 ∨ side = 3 by omega) with rfl | rfl | rfl | rfl
  · rw [if_pos (by decide)]
    rw [if_pos rfl] at hQ
    by_cases h : 0 < c / 8
    · rw [if_neg (nI_nle' (by omega) (by omega))]
      rw [if_pos h] at hQ
      rw [nI_sub (by omega)]
      exact hQ
    · rw [if_pos (nI_le (by omega) (by omega))]
      rw [if_neg h] at hQ
      exact hQ
  · rw [if_neg (by decide), if_pos (by decide)]
    rw [if_neg (by decide), if_pos rfl] at hQ
    by_cases h : c % 8 + 1 < T 113
    · rw [if_neg (nI_ge h (by omega))]
      rw [if_pos h] at hQ
      exact hQ
    · rw [if_pos (nI_le (by omega) (by omega))]
      rw [if_neg h] at hQ
      exact hQ
  · rw [if_neg (by decide), if_neg (by decide), if_pos (by decide)]
    rw [if_neg (by decide), if_neg (by decide), if_pos rfl] at hQ
    by_cases h : c / 8 + 1 < T 114
    · rw [if_neg (nI_ge h (by omega))]
      rw [if_pos h] at hQ
      exact hQ
    · rw [if_pos (nI_le (by omega) (by omega))]
      rw [if_neg h] at hQ
      exact hQ
  · rw [if_neg (by decide), if_neg (by decide), if_neg (by decide)]
    rw [if_neg (by decide), if_neg (by decide), if_neg (by decide)] at hQ
    by_cases h : 0 < c % 8
    · rw [if_neg (nI_nle' (by omega) (by omega))]
      rw [if_pos h] at hQ
      rw [nI_sub (by omega)]
      exact hQ
    · rw [if_pos (nI_le (by omega) (by omega))]
      rw [if_neg h] at hQ
      exact hQ
end
