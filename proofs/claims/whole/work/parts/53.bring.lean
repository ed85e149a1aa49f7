/-! the reference's bring -/
theorem qcpy_0 {f : qMu} {a i b j : Nat} : qcpy f a i b j 0 = f := by
  funext c x; unfold qcpy; rw [if_neg (by omega)]
theorem qcpy_s {f : qMu} {a i b j k : Nat} (h : ¬ a = b ∨ j ≤ i) : qset (qcpy f a i b j k) b (j + k) (qcpy f a i b j k a (i + k)) = qcpy f a i b j (k + 1) := by
  have e : qcpy f a i b j k a (i + k) = f a (i + k) := by unfold qcpy; rw [if_neg (by omega)]
  rw [e]
  funext c x
  unfold qset
  by_cases h1 : c = b ∧ x = j + k
  · rw [if_pos h1]
    unfold qcpy
    rw [if_pos ⟨h1.1, by omega, by omega⟩, show i + (x - j) = i + k by omega]
  · rw [if_neg h1]
    unfold qcpy
    by_cases h2 : c = b ∧ j ≤ x ∧ x < j + k
    · rw [if_pos h2, if_pos ⟨h2.1, h2.2.1, by omega⟩]
    · rw [if_neg h2, if_neg (fun z => by
        have : x = j + k ∨ x < j + k := by omega
        rcases this with q | q
        · exact h1 ⟨z.1, q⟩
        · exact h2 ⟨z.1, z.2.1, q⟩)]
section
variable {d : Nat} {σ : qSg} {μ : qMu} {la : qLa} {Q : qPost} {a b i j n la' lb' : Nat}
theorem c_bring_loop (ha : qArr σ a la') (hb : qArr σ b lb') (hla : i + n ≤ la') (hlb : j + n ≤ lb') (h1 : la' < 10000) (h2 : lb' < 10000) (hab : ¬ a = b ∨ j ≤ i) (hQ : Q none σ (qcpy μ a i b j n) la) : ∀ m k : Nat, k + m = n → qEx d 120 3 [] [.ref a, .int (nI i), .ref b, .int (nI j), .int (nI n), .int (nI k)] σ (qcpy μ a i b j k) la Q := by
  intro m
  induction m with
  | zero =>
    intro k hk
    have : k = n := by omega
    subst this
    rw [x120_3]
    simp only [x120_0, x120_1, x120_5, x120_7, x120_10, x120_11, x120_12, x120_14, x120_15, x120_16, x120_17, x120_19, x120_20, x120_21, x120_22, x120_25, x120_28]
    rw [if_pos (nI_le (Nat.le_refl _) (by omega))]
    exact hQ
  | succ m ih =>
    intro k hk
    rw [x120_3]
    simp only [x120_0, x120_1, x120_5, x120_7, x120_10, x120_11, x120_12, x120_14, x120_15, x120_16, x120_17, x120_19, x120_20, x120_21, x120_22, x120_25, x120_28, (qaI (μ := qcpy μ a i b j k) ha).1, (qaI (μ := μ) hb).2.1]
    rw [if_neg (nI_ge (by omega) (by omega)), nI_add, nI_add, nI_clamp (by omega), nI_clamp (by omega), qcpy_s hab, nI_1]
    exact ⟨qIn_nI (by omega) (by omega), qIn_nI (by omega) (by omega), ih (k + 1) (by omega)⟩
theorem c_bring (ha : qArr σ a la') (hb : qArr σ b lb') (hla : i + n ≤ la') (hlb : j + n ≤ lb') (h1 : la' < 10000) (h2 : lb' < 10000) (hab : ¬ a = b ∨ j ≤ i) (hQ : Q none σ (qcpy μ a i b j n) la) : qEx d 120 0 [] [.ref a, .int (nI i), .ref b, .int (nI j), .int (nI n), .retAddr 0] σ μ la Q := by
  simp only [x120_0, x120_1]
  have := c_bring_loop (d := d) (μ := μ) ha hb hla hlb h1 h2 hab hQ n 0 (by omega)
  rw [qcpy_0] at this
  exact this
end
