/-! the class's passNoon, commit, owedInAll, enteredInAll -/
section
variable {d : Nat} {σ : qSg} {la : qLa} {Q : qPost} {t w : Nat} {N : Nat}
set_option maxHeartbeats 4000000 in
theorem c_passNoon_loop (hT : qTown σ t) (hW : qWalk σ w) (hdis : w + 1 < t ∨ t + 7 < w) (hw1 : w + 1 < 1000) (ht1 : t + 7 < 1000) : ∀ (n k cells : Nat) (T : qT) (μ : qMu), k + n = T 115 → wfT N T → qTw μ t T → qRo μ →
    (∀ μ' : qMu, (∀ a, ¬ (a = w ∨ a = w + 1) → ¬ (t ≤ a ∧ a ≤ t + 7) → μ' a = μ a) → qTw μ' t (upT (noonF k n T cells).1 0 ((noonF k n T cells).1 0 + 1)) → wfT N (noonF k n T cells).1 → Q (some (.int (nI (noonF k n T cells).2))) σ μ' la) →
    qEx (d + 3) 67 4 [] [.ref t, .ref w, .int (nI cells), .int (nI k)] σ μ la Q := by
  intro n
  induction n with
  | zero =>
    intro k cells T μ hk hwf hw hr hQ
    have h6 := hwf.1
    rw [x67_4]
    simp only [x67_0, x67_1, x67_2, x67_3, x67_5, x67_6, x67_9, x67_12, x67_13, x67_16, x67_17, x67_18, x67_21, x67_22, x67_23, x67_27, x67_28, x67_29, x67_32, x67_33, x67_34, x67_37, x67_40, x67_41, x67_42, x67_45, x67_46, x67_47, x67_50, x67_51, qtOk hT, true_and, hw.2.2.1, hw.2.2.2.1]
    rw [if_pos (nI_le (by omega) (by omega)), nI_1]
    exact hQ _ (fun a h1 h2 => qset_ne (by omega)) (qTw_noon hw hwf.1 hwf.2.2.1) hwf
  | succ n ih =>
    intro k cells T μ hk hwf hw hr hQ
    have h6 := hwf.1
    have hkp : k < T 115 := by omega
    obtain ⟨⟨k1, k5⟩, hin, hf4, ho, hdd⟩ := hwf.2.2.2.2.2.2.2.1 k hkp
    have b5 := (hw.2.2.2.2.2.2.2 k hkp).2.2.2.1
    rw [x67_4]
    simp only [x67_5, x67_6, x67_9, x67_12, x67_13, x67_16, x67_17, x67_18, qtOk hT, true_and, hw.2.2.1, (qtR hT).2.2.2.2.1, qrf, (qtI hT).2.2.2.2.1]
    rw [if_neg (nI_ge hkp (by omega))]
    refine ⟨qIn_nI (by omega) (by omega), ?_⟩
    rw [nI_clamp (by omega), b5]
    by_cases h0 : 0 < T (13 + k)
    · have hF : noonF k (n + 1) T cells = noonF (k + 1) n (walkInT T k) (cells + (ownT T k).1.length) := by
        show (if 0 < T (13 + k) then _ else _) = _
        rw [if_pos h0]
      rw [hF] at hQ
      rw [if_neg (by rw [show (0 : Int32) = nI 0 from rfl]; exact nI_ge h0 (by omega))]
      simp only [x67_21, x67_22, x67_23, x67_24, qtOk hT, true_and]
      refine c_walkAtNoon hT hW hdis hw1 ht1 hwf hkp hw hr fun μ1 hf1 ht2 hk2 => ?_
      simp only [Option.toList_none, List.nil_append, x67_27, x67_28, x67_29, x67_32, x67_33, x67_34, x67_37, (qwOk (μ := μ) hW).1, true_and, hk2.1]
      rw [nI_add, nI_1]
      refine ih (k + 1) _ (walkInT T k) μ1 (by rw [walkInT_hi (by omega) (by omega)]; omega) (wf_walkIn hwf hkp) ht2 (qRo_fr hr (hf1 _ (by omega) (by omega)) (hf1 _ (by omega) (by omega)) (hf1 _ (by omega) (by omega))) ?_
      intro μ' hf hq hwf'
      exact hQ μ' (fun a h1 h2 => (hf a h1 h2).trans (hf1 a h1 (by omega))) hq hwf'
    · have hF : noonF k (n + 1) T cells = noonF (k + 1) n T cells := by
        show (if 0 < T (13 + k) then _ else _) = _
        rw [if_neg h0]
      rw [hF] at hQ
      rw [if_pos (by rw [show (0 : Int32) = nI 0 from rfl]; exact nI_le (by omega) (by omega))]
      simp only [x67_34, x67_37]
      rw [nI_1]
      exact ih (k + 1) cells T μ (by omega) hwf hw hr hQ
theorem noonF_115 : ∀ (n k cells : Nat) (T : qT), T 115 ≤ 6 → k + n ≤ T 115 → ∀ j, 113 ≤ j → (noonF k n T cells).1 j = T j := by
  intro n
  induction n with
  | zero => intro k cells T h6 hk j hj; rfl
  | succ n ih =>
    intro k cells T h6 hk j hj
    unfold noonF
    split
    · rw [ih _ _ _ (by rw [walkInT_hi (by omega) (by omega)]; exact h6) (by rw [walkInT_hi (by omega) (by omega)]; omega) j hj, walkInT_hi (by omega) hj]
    · exact ih _ _ _ h6 (by omega) j hj
theorem wf_up0 {T : qT} {v : Nat} (h : wfT N T) : wfT N (upT T 0 v) := by
  obtain ⟨w1, w2, w3, w4, w5, w6, w7, w8, w9⟩ := h
  have hin : ∀ c, inT (upT T 0 v) c ↔ inT T c := fun c => by unfold inT; rw [upT_o (by omega), upT_o (by omega)]
  refine ⟨by rw [upT_o (by omega)]; exact w1, by rw [upT_o (by omega)]; exact w2, by rw [upT_o (by omega)]; exact w3, Nat.zero_le _, by rw [upT_o (by omega)]; exact w5, by rw [upT_o (by omega)]; exact w6, fun c hc => by rw [upT_o (by omega)]; exact w7 c ((hin c).mp hc), fun q hq => ?_, fun q r hq hr he => ?_⟩
  · rw [upT_o (by omega)] at hq
    obtain ⟨r1, r2, r3, r4, r5⟩ := w8 q hq
    rw [upT_o (by omega), upT_o (by omega), upT_o (by omega), upT_o (by omega)]
    exact ⟨r1, (hin _).mpr r2, r3, r4, fun k hk => by rw [upT_o (by omega)]; exact r5 k hk⟩
  · rw [upT_o (by omega)] at hq hr
    rw [upT_o (by omega), upT_o (by omega)] at he
    exact w9 q r hq hr he
theorem c_passNoon {T : qT} {μ : qMu} (hT : qTown σ t) (hW : qWalk σ w) (hdis : w + 1 < t ∨ t + 7 < w) (hw1 : w + 1 < 1000) (ht1 : t + 7 < 1000) (hwf : wfT N T) (hw : qTw μ t T) (hr : qRo μ)
    (hQ : ∀ μ' : qMu, (∀ a, ¬ (a = w ∨ a = w + 1) → ¬ (t ≤ a ∧ a ≤ t + 7) → μ' a = μ a) → qTw μ' t (noonT T).1 → wfT N (noonT T).1 → Q (some (.int (nI (noonT T).2))) σ μ' la) :
    qEx (d + 3) 67 0 [] [.ref t, .ref w, .retAddr 0, .retAddr 0] σ μ la Q := by
  simp only [x67_0, x67_1, x67_2, x67_3]
  exact c_passNoon_loop (N := N) hT hW hdis hw1 ht1 (T 115) 0 0 T μ (by omega) hwf hw hr fun μ' hf hq hwf' => hQ μ' hf hq (wf_up0 hwf')
/-- all that is owed, from k on -/
def owedF (T : qT) : Nat → Nat → Nat → Nat
  | _, 0, s => s
  | k, n + 1, s => owedF T (k + 1) n (s + T (13 + k))
def entF (T : qT) : Nat → Nat → Nat → Nat
  | _, 0, s => s
  | k, n + 1, s => entF T (k + 1) n (s + T (19 + k))
theorem c_owed_loop {T : qT} {μ : qMu} (hT : qTown σ t) (h6 : T 115 ≤ 6) (hw : qTw μ t T) : ∀ (n k s : Nat), k + n = T 115 → Q (some (.int (nI (owedF T k n s)))) σ μ la → qEx d 68 4 [] [.ref t, .int (nI s), .int (nI k)] σ μ la Q := by
  intro n
  induction n with
  | zero =>
    intro k s hk hQ
    rw [x68_4]
    simp only [x68_0, x68_1, x68_2, x68_3, x68_5, x68_6, x68_9, x68_12, x68_13, x68_14, x68_17, x68_18, x68_19, x68_20, x68_21, x68_24, x68_27, x68_28, qtOk hT, true_and, hw.2.2.1]
    rw [if_pos (nI_le (by omega) (by omega))]
    exact hQ
  | succ n ih =>
    intro k s hk hQ
    rw [x68_4]
    simp only [x68_0, x68_1, x68_2, x68_3, x68_5, x68_6, x68_9, x68_12, x68_13, x68_14, x68_17, x68_18, x68_19, x68_20, x68_21, x68_24, x68_27, x68_28, qtOk hT, true_and, hw.2.2.1, (qtR hT).2.2.2.2.1, qrf, (qtI hT).2.2.2.2.1]
    rw [if_neg (nI_ge (by omega) (by omega))]
    refine ⟨qIn_nI (by omega) (by omega), ?_⟩
    rw [nI_clamp (by omega), (hw.2.2.2.2.2.2.2 k (by omega)).2.2.2.1, nI_add, nI_1]
    exact ih (k + 1) _ (by omega) hQ
theorem c_owed {T : qT} {μ : qMu} (hT : qTown σ t) (h6 : T 115 ≤ 6) (hw : qTw μ t T) (hQ : Q (some (.int (nI (owedF T 0 (T 115) 0)))) σ μ la) : qEx d 68 0 [] [.ref t, .retAddr 0, .retAddr 0] σ μ la Q := by
  simp only [x68_0, x68_1, x68_2, x68_3]
  exact c_owed_loop hT h6 hw (T 115) 0 0 (by omega) hQ
theorem c_ent_loop {T : qT} {μ : qMu} (hT : qTown σ t) (h6 : T 115 ≤ 6) (hw : qTw μ t T) : ∀ (n k s : Nat), k + n = T 115 → Q (some (.int (nI (entF T k n s)))) σ μ la → qEx d 69 4 [] [.ref t, .int (nI s), .int (nI k)] σ μ la Q := by
  intro n
  induction n with
  | zero =>
    intro k s hk hQ
    rw [x69_4]
    simp only [x69_0, x69_1, x69_2, x69_3, x69_5, x69_6, x69_9, x69_12, x69_13, x69_14, x69_17, x69_18, x69_19, x69_20, x69_21, x69_24, x69_27, x69_28, qtOk hT, true_and, hw.2.2.1]
    rw [if_pos (nI_le (by omega) (by omega))]
    exact hQ
  | succ n ih =>
    intro k s hk hQ
    rw [x69_4]
    simp only [x69_0, x69_1, x69_2, x69_3, x69_5, x69_6, x69_9, x69_12, x69_13, x69_14, x69_17, x69_18, x69_19, x69_20, x69_21, x69_24, x69_27, x69_28, qtOk hT, true_and, hw.2.2.1, (qtR hT).2.2.2.2.2.1, qrf, (qtI hT).2.2.2.2.2.1]
    rw [if_neg (nI_ge (by omega) (by omega))]
    refine ⟨qIn_nI (by omega) (by omega), ?_⟩
    rw [nI_clamp (by omega), (hw.2.2.2.2.2.2.2 k (by omega)).2.2.2.2.1, nI_add, nI_1]
    exact ih (k + 1) _ (by omega) hQ
theorem c_ent {T : qT} {μ : qMu} (hT : qTown σ t) (h6 : T 115 ≤ 6) (hw : qTw μ t T) (hQ : Q (some (.int (nI (entF T 0 (T 115) 0)))) σ μ la) : qEx d 69 0 [] [.ref t, .retAddr 0, .retAddr 0] σ μ la Q := by
  simp only [x69_0, x69_1, x69_2, x69_3]
  exact c_ent_loop hT h6 hw (T 115) 0 0 (by omega) hQ
end
