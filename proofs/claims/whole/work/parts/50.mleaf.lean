/-! THE REFERENCE: its object, its leaves -/
def qArr (σ : qSg) (a n : Nat) : Prop := a < σ.1 ∧ qSh a = (10, n)
/-- the row a is the town T -/
def qMA (μ : qMu) (a : Nat) (T : qT) : Prop := ∀ k, k < 124 → μ a k = nI (T k)
/-- the reference as it was made -/
def qBM (σ : qSg) : Prop := σ.1 = 315 ∧ σ.2 297 0 = some 298 ∧ σ.2 297 1 = some 299 ∧ σ.2 297 2 = some 300 ∧ σ.2 297 4 = some 301 ∧ σ.2 297 6 = some 302 ∧ σ.2 297 7 = some 303 ∧ σ.2 297 8 = some 304 ∧ σ.2 297 9 = some 305 ∧ σ.2 297 10 = some 306 ∧ σ.2 297 11 = some 307 ∧ σ.2 297 12 = some 308 ∧ σ.2 297 14 = some 309 ∧ σ.2 297 19 = some 310 ∧ σ.2 297 20 = some 311 ∧ σ.2 297 21 = some 312 ∧ σ.2 297 24 = some 313 ∧ σ.2 297 25 = some 314
section
variable {d : Nat} {σ : qSg} {μ : qMu} {la : qLa} {Q : qPost} {a : Nat} {T : qT} {N : Nat}
theorem mOk (h : qBM σ) : qOk σ 297 7 = true := by
  unfold qOk; rw [h.1]; decide +kernel
theorem qaI {n : Nat} (h : qArr σ a n) : qIld σ μ a = n ∧ qLen σ 10 a = n ∧ qOk σ a 10 = true := ⟨qIld10 h.1 h.2, qLen10 h.1 h.2, by simp [qOk, h.1, h.2]⟩
theorem mArr (h : qBM σ) : qArr σ 298 4 ∧ qArr σ 299 4 ∧ qArr σ 301 140 ∧ qArr σ 302 124 ∧ qArr σ 303 124 ∧ qArr σ 304 124 ∧ qArr σ 305 496 ∧ qArr σ 306 248 ∧ qArr σ 308 2712 ∧ qArr σ 309 8 ∧ qArr σ 311 6 ∧ qArr σ 312 6 ∧ qArr σ 313 64 := by
  unfold qArr; rw [h.1]; decide +kernel
theorem c_in {v lo hi : Int32} : qEx d 118 0 [] [.int v, .int lo, .int hi] σ μ la Q ↔ Q (some (.int (if v < lo then 0 else if hi < v then 0 else 1))) σ μ la := by
  simp only [x118_0, x118_1, x118_2, x118_5, x118_6, x118_7, x118_10, x118_11, x118_14, x118_15]
  split
  · simp
  · split <;> simp
theorem c_mcost {g : Nat} (hg : g < 5) : qEx d 144 0 [] [.int (nI g)] σ μ la Q ↔ Q (some (.int (nI (costT g)))) σ μ la := by
  simp only [x144_0, x144_1, x144_4, x144_5, x144_8, x144_9, x144_10, x144_13, x144_14, x144_17, x144_18]
  rcases (show g = 0 ∨ g = 1 ∨ g = 2 ∨ g = 3 ∨ g = 4 by omega) with rfl | rfl | rfl | rfl | rfl <;> simp [nI, costT]
theorem c_mfor {g : Nat} (hg : g < 4) : qEx d 152 0 [] [.int (nI g)] σ μ la Q ↔ Q (some (.int (nI (fineT g)))) σ μ la := by
  simp only [x152_0, x152_1, x152_4, x152_5, x152_8, x152_9, x152_10, x152_13, x152_14, x152_17, x152_18, x152_19, x152_22, x152_24, x152_27, x152_29]
  rcases (show g = 0 ∨ g = 1 ∨ g = 2 ∨ g = 3 by omega) with rfl | rfl | rfl | rfl <;> simp [nI, fineT]
/-- the last who stands there -/
def whoL (T : qT) (c : Nat) : Nat → Nat → Option Nat → Option Nat
  | _, 0, o => o
  | k, n + 1, o => whoL T c (k + 1) n (if T (1 + k) = c then some k else o)
theorem c_mstand_loop {c : Nat} (ha : qArr σ a 124) (hm : qMA μ a T) (hwf : wfT N T) (hc : c < 64) : ∀ (n k : Nat) (o : Option Nat), k + n = T 115 → Q (some (.int (noneV (whoL T c k n o)))) σ μ la → qEx d 141 5 [] [.ref a, .int (nI c), .int (noneV o), .int (nI k)] σ μ la Q := by
  have h6 := hwf.1
  intro n
  induction n with
  | zero =>
    intro k o hk hQ
    rw [x141_5]
    simp only [x141_0, x141_2, x141_3, x141_4, x141_6, x141_7, x141_9, x141_10, x141_13, x141_14, x141_15, x141_16, x141_17, x141_18, x141_19, x141_22, x141_23, x141_26, x141_27, x141_28, x141_31, x141_34, x141_35, (qaI (μ := μ) ha).1]
    refine ⟨by decide, ?_⟩
    rw [show (115 : Int32).toNatClampNeg = 115 from rfl, hm 115 (by omega), if_pos (nI_le (by omega) (by omega))]
    exact hQ
  | succ n ih =>
    intro k o hk hQ
    have e2 := inT_lt hwf (hwf.2.2.2.2.2.2.2.1 k (by omega)).2.1
    rw [x141_5]
    simp only [x141_0, x141_2, x141_3, x141_4, x141_6, x141_7, x141_9, x141_10, x141_13, x141_14, x141_15, x141_16, x141_17, x141_18, x141_19, x141_22, x141_23, x141_26, x141_27, x141_28, x141_31, x141_34, x141_35, (qaI (μ := μ) ha).1]
    refine ⟨by decide, ?_⟩
    rw [show (115 : Int32).toNatClampNeg = 115 from rfl, hm 115 (by omega), if_neg (nI_ge (by omega) (by omega)), show (1 : Int32) = nI 1 from rfl, nI_add]
    refine ⟨qIn_nI (by omega) (by omega), ?_⟩
    rw [nI_clamp (by omega), hm (1 + k) (by omega), nI_add]
    unfold whoL at hQ
    by_cases h : T (1 + k) = c
    · rw [if_pos h] at hQ
      rw [if_neg (by rw [h]; simp)]
      exact ih (k + 1) (some k) (by omega) hQ
    · rw [if_neg h] at hQ
      rw [if_pos (by rw [nI_eq (by omega) (by omega)]; exact h)]
      exact ih (k + 1) o (by omega) hQ
theorem whoL_eq {c : Nat} (hd : ∀ p q, p < T 115 → q < T 115 → T (1 + p) = T (1 + q) → p = q) : ∀ (n k : Nat) (o : Option Nat), k + n = T 115 → (∀ p, o = some p → p < k ∧ T (1 + p) = c) → whoL T c k n o = (match o with | some p => some p | none => whoF T c k n) := by
  intro n
  induction n with
  | zero => intro k o hk ho; cases o <;> rfl
  | succ n ih =>
    intro k o hk ho
    unfold whoL
    by_cases h : T (1 + k) = c
    · rw [if_pos h, ih (k + 1) (some k) (by omega) (fun p hp => by cases hp; exact ⟨by omega, h⟩)]
      cases o with
      | none => simp only; unfold whoF; rw [if_pos h]
      | some p =>
        obtain ⟨h1, h2⟩ := ho p rfl
        have := hd p k (by omega) (by omega) (h2.trans h.symm)
        omega
    · rw [if_neg h, ih (k + 1) o (by omega) (fun p hp => ⟨by have := (ho p hp).1; omega, (ho p hp).2⟩)]
      cases o with
      | none => simp only; conv => rhs; unfold whoF
                rw [if_neg h]
      | some p => rfl
theorem c_mstand {c : Nat} (ha : qArr σ a 124) (hm : qMA μ a T) (hwf : wfT N T) (hc : c < 64) (hQ : Q (some (.int (noneV (whoT T c)))) σ μ la) : qEx d 141 0 [] [.ref a, .int (nI c), .retAddr 0, .retAddr 0] σ μ la Q := by
  simp only [x141_0, x141_2, x141_3, x141_4]
  refine c_mstand_loop (T := T) ha hm hwf hc (T 115) 0 none (by omega) ?_
  rw [whoL_eq hwf.2.2.2.2.2.2.2.2 (T 115) 0 none (by omega) (fun p hp => by cases hp)]
  exact hQ
theorem c_mway {kind side : Nat} (ha : qArr σ a 124) (hm : qMA μ a T) (hwf : wfT N T) (hk : kind ≤ 5) (hs : side < 4) (hQ : Q (some (.int (nI (wayT T kind side)))) σ μ la) : qEx d 146 0 [] [.ref a, .int (nI kind), .int (nI side), .retAddr 0] σ μ la Q := by
  have h116 := hwf.2.2.2.2.1
  have hA : ∀ lk : Nat, lk < 4 → lk = (if T 116 = 1 then 0 else side) → qEx d 146 14 [] [.ref a, .int (nI kind), .int (nI side), .int (nI lk)] σ μ la Q := by
    intro lk hlk e
    unfold wayT at hQ
    rw [← e] at hQ
    simp only [x146_14, x146_15, x146_16, x146_19, x146_20, x146_21, x146_22, x146_23, x146_24, x146_27, x146_28, x146_29, x146_30, x146_31, x146_32]
    by_cases h3 : kind = 3
    · rw [if_pos h3] at hQ
      rw [if_neg (by rw [h3]; decide), show (3 : Int32) = nI 3 from rfl, show (4 : Int32) = nI 4 from rfl, nI_add, nI_reml (by omega) (by omega)]
      exact ⟨by decide, hQ⟩
    · rw [if_neg h3] at hQ
      rw [if_pos (by rw [show (3 : Int32) = nI 3 from rfl, nI_eq (by omega) (by omega)]; exact h3), show (2 : Int32) = nI 2 from rfl, show (4 : Int32) = nI 4 from rfl, nI_add, nI_reml (by omega) (by omega)]
      exact ⟨by decide, hQ⟩
  simp only [x146_0, x146_1, x146_3, x146_4, x146_5, x146_8, x146_9, x146_12, x146_13, (qaI (μ := μ) ha).1]
  refine ⟨by decide, ?_⟩
  rw [show (116 : Int32).toNatClampNeg = 116 from rfl, hm 116 (by omega)]
  by_cases h1 : T 116 = 1
  · rw [if_neg (by rw [h1]; decide)]
    exact hA 0 (by omega) (by rw [if_pos h1])
  · rw [if_pos (by rw [show (1 : Int32) = nI 1 from rfl, nI_eq (by omega) (by omega)]; exact h1)]
    exact hA side hs (by rw [if_neg h1])
end
