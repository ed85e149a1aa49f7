/-! numbers, for programs that rewrite: literals as nI and mI, comparisons as Nat's -/
def mI (n : Nat) : Int32 := - nI n
theorem nl_0 : (0 : Int32) = nI 0 := rfl
theorem nl_1 : (1 : Int32) = nI 1 := rfl
theorem nl_2 : (2 : Int32) = nI 2 := rfl
theorem nl_3 : (3 : Int32) = nI 3 := rfl
theorem nl_4 : (4 : Int32) = nI 4 := rfl
theorem nl_5 : (5 : Int32) = nI 5 := rfl
theorem nl_6 : (6 : Int32) = nI 6 := rfl
theorem nl_7 : (7 : Int32) = nI 7 := rfl
theorem nl_8 : (8 : Int32) = nI 8 := rfl
theorem nl_9 : (9 : Int32) = nI 9 := rfl
theorem nl_10 : (10 : Int32) = nI 10 := rfl
theorem nl_11 : (11 : Int32) = nI 11 := rfl
theorem nl_12 : (12 : Int32) = nI 12 := rfl
theorem nl_13 : (13 : Int32) = nI 13 := rfl
theorem nl_14 : (14 : Int32) = nI 14 := rfl
theorem nl_15 : (15 : Int32) = nI 15 := rfl
theorem nl_16 : (16 : Int32) = nI 16 := rfl
theorem nl_17 : (17 : Int32) = nI 17 := rfl
theorem nl_18 : (18 : Int32) = nI 18 := rfl
theorem nl_19 : (19 : Int32) = nI 19 := rfl
theorem nl_20 : (20 : Int32) = nI 20 := rfl
theorem nl_22 : (22 : Int32) = nI 22 := rfl
theorem nl_23 : (23 : Int32) = nI 23 := rfl
theorem nl_24 : (24 : Int32) = nI 24 := rfl
theorem nl_25 : (25 : Int32) = nI 25 := rfl
theorem nl_30 : (30 : Int32) = nI 30 := rfl
theorem nl_31 : (31 : Int32) = nI 31 := rfl
theorem nl_34 : (34 : Int32) = nI 34 := rfl
theorem nl_35 : (35 : Int32) = nI 35 := rfl
theorem nl_40 : (40 : Int32) = nI 40 := rfl
theorem nl_43 : (43 : Int32) = nI 43 := rfl
theorem nl_46 : (46 : Int32) = nI 46 := rfl
theorem nl_47 : (47 : Int32) = nI 47 := rfl
theorem nl_48 : (48 : Int32) = nI 48 := rfl
theorem nl_49 : (49 : Int32) = nI 49 := rfl
theorem nl_50 : (50 : Int32) = nI 50 := rfl
theorem nl_57 : (57 : Int32) = nI 57 := rfl
theorem nl_58 : (58 : Int32) = nI 58 := rfl
theorem nl_59 : (59 : Int32) = nI 59 := rfl
theorem nl_63 : (63 : Int32) = nI 63 := rfl
theorem nl_64 : (64 : Int32) = nI 64 := rfl
theorem nl_94 : (94 : Int32) = nI 94 := rfl
theorem nl_97 : (97 : Int32) = nI 97 := rfl
theorem nl_98 : (98 : Int32) = nI 98 := rfl
theorem nl_99 : (99 : Int32) = nI 99 := rfl
theorem nl_100 : (100 : Int32) = nI 100 := rfl
theorem nl_101 : (101 : Int32) = nI 101 := rfl
theorem nl_102 : (102 : Int32) = nI 102 := rfl
theorem nl_105 : (105 : Int32) = nI 105 := rfl
theorem nl_108 : (108 : Int32) = nI 108 := rfl
theorem nl_110 : (110 : Int32) = nI 110 := rfl
theorem nl_111 : (111 : Int32) = nI 111 := rfl
theorem nl_112 : (112 : Int32) = nI 112 := rfl
theorem nl_113 : (113 : Int32) = nI 113 := rfl
theorem nl_114 : (114 : Int32) = nI 114 := rfl
theorem nl_115 : (115 : Int32) = nI 115 := rfl
theorem nl_116 : (116 : Int32) = nI 116 := rfl
theorem nl_117 : (117 : Int32) = nI 117 := rfl
theorem nl_118 : (118 : Int32) = nI 118 := rfl
theorem nl_119 : (119 : Int32) = nI 119 := rfl
theorem nl_124 : (124 : Int32) = nI 124 := rfl
theorem nl_126 : (126 : Int32) = nI 126 := rfl
theorem nl_138 : (138 : Int32) = nI 138 := rfl
theorem nl_140 : (140 : Int32) = nI 140 := rfl
theorem nl_255 : (255 : Int32) = nI 255 := rfl
theorem nl_720 : (720 : Int32) = nI 720 := rfl
theorem nl_1024 : (1024 : Int32) = nI 1024 := rfl
theorem nl_9999 : (9999 : Int32) = nI 9999 := rfl
theorem nl_99999 : (99999 : Int32) = nI 99999 := rfl
theorem nl_999999 : (999999 : Int32) = nI 999999 := rfl
theorem nl_1000000 : (1000000 : Int32) = nI 1000000 := rfl
theorem nm_1 : (-1 : Int32) = mI 1 := rfl
theorem nm_2 : (-2 : Int32) = mI 2 := rfl
theorem nm_3 : (-3 : Int32) = mI 3 := rfl
theorem nm_4 : (-4 : Int32) = mI 4 := rfl
theorem nm_11 : (-11 : Int32) = mI 11 := rfl
theorem nm_12 : (-12 : Int32) = mI 12 := rfl
theorem nm_13 : (-13 : Int32) = mI 13 := rfl
theorem nm_14 : (-14 : Int32) = mI 14 := rfl
theorem nm_100 : (-100 : Int32) = mI 100 := rfl
theorem mI_toInt {n : Nat} (h : n < 2 ^ 31) : (mI n).toInt = - (n : Int) := by
  unfold mI
  rw [Int32.toInt_neg, nI_toInt h, Int.bmod_def]
  omega
theorem e_nm {a b : Nat} (ha : a < 2 ^ 31) (hb : 0 < b ∧ b < 2 ^ 31) : (nI a = mI b) ↔ False := by
  rw [← Int32.toInt_inj, nI_toInt ha, mI_toInt hb.2]; exact ⟨fun h => by omega, fun h => h.elim⟩
theorem e_mn {a b : Nat} (ha : a < 2 ^ 31) (hb : 0 < b ∧ b < 2 ^ 31) : (mI b = nI a) ↔ False := by
  rw [← Int32.toInt_inj, nI_toInt ha, mI_toInt hb.2]; exact ⟨fun h => by omega, fun h => h.elim⟩
theorem e_mm {a b : Nat} (ha : a < 2 ^ 31) (hb : b < 2 ^ 31) : (mI a = mI b) ↔ a = b := by
  rw [← Int32.toInt_inj, mI_toInt ha, mI_toInt hb]; omega
theorem l_nm {a b : Nat} (ha : a < 2 ^ 31) (hb : b < 2 ^ 31) : (nI a < mI b) ↔ False := by
  rw [Int32.lt_iff_toInt_lt, nI_toInt ha, mI_toInt hb]; exact ⟨fun h => by omega, fun h => h.elim⟩
theorem l_mn {a b : Nat} (ha : a < 2 ^ 31) (hb : 0 < b ∧ b < 2 ^ 31) : (mI b < nI a) ↔ True := by
  rw [Int32.lt_iff_toInt_lt, nI_toInt ha, mI_toInt hb.2]; exact ⟨fun _ => trivial, fun _ => by omega⟩
theorem l_mm {a b : Nat} (ha : a < 2 ^ 31) (hb : b < 2 ^ 31) : (mI a < mI b) ↔ b < a := by
  rw [Int32.lt_iff_toInt_lt, mI_toInt ha, mI_toInt hb]; omega
theorem le_nm {a b : Nat} (ha : a < 2 ^ 31) (hb : 0 < b ∧ b < 2 ^ 31) : (nI a ≤ mI b) ↔ False := by
  rw [Int32.le_iff_toInt_le, nI_toInt ha, mI_toInt hb.2]; exact ⟨fun h => by omega, fun h => h.elim⟩
theorem le_mn {a b : Nat} (ha : a < 2 ^ 31) (hb : b < 2 ^ 31) : (mI b ≤ nI a) ↔ True := by
  rw [Int32.le_iff_toInt_le, nI_toInt ha, mI_toInt hb]; exact ⟨fun _ => trivial, fun _ => by omega⟩
theorem le_mm {a b : Nat} (ha : a < 2 ^ 31) (hb : b < 2 ^ 31) : (mI a ≤ mI b) ↔ b ≤ a := by
  rw [Int32.le_iff_toInt_le, mI_toInt ha, mI_toInt hb]; omega
theorem nI_subn {a b : Nat} (h : a < b) : nI a - nI b = mI (b - a) := by
  have e : nI (b - a) + nI a = nI b := by rw [nI_add, Nat.sub_add_cancel (by omega)]
  unfold mI
  rw [← e]
  grind
theorem nI_addm {a b : Nat} (h : b ≤ a) : nI a + mI b = nI (a - b) := by
  have e := nI_sub h
  rw [← e]
  unfold mI
  grind
theorem nI_m0 : mI 0 = nI 0 := rfl
theorem nsm {a b : Nat} : a - a / b * b = a % b := by
  have := Nat.div_add_mod a b
  rw [Nat.mul_comm] at this
  omega
theorem nI_all (x : Int32) : x < nI 0 ∨ ∃ k, k < 2 ^ 31 ∧ x = nI k := by
  by_cases h : x < nI 0
  · exact Or.inl h
  · exact Or.inr (nI_of h)
abbrev nn (x : Int32) : Nat := x.toNatClampNeg
/-- x is one of 0 to n - 1 -/
def isR (x : Int32) (n : Nat) : Bool := decide (¬ x < nI 0 ∧ x < nI n)
theorem isR_nI {k n : Nat} (hk : k < 2 ^ 31) (hn : n < 2 ^ 31) : isR (nI k) n = decide (k < n) := by
  unfold isR
  apply decide_eq_decide.mpr
  rw [nI_ltI hk (by omega), nI_ltI hk hn]; omega
theorem isR_neg {x : Int32} {n : Nat} (h : x < nI 0) : isR x n = false := by
  unfold isR; exact decide_eq_false (fun z => z.1 h)
theorem isR_ex {x : Int32} {n : Nat} (h : isR x n = true) (hn : n < 2 ^ 31) : ∃ k, k < n ∧ x = nI k := by
  rcases nI_all x with hx | ⟨k, hk, rfl⟩
  · rw [isR_neg hx] at h; cases h
  · rw [isR_nI hk hn] at h; exact ⟨k, of_decide_eq_true h, rfl⟩
/-! what the small machine comes to, it comes to alone -/
theorem qEx_det {d m pc : Nat} {st ls : List Value} {σ : qSg} {μ : qMu} {la : qLa} {r0 : Option Value} {σ0 : qSg} {μ0 : qMu} {la0 : qLa} (h : qEx d m pc st ls σ μ la (fun r σ' μ' la' => r = r0 ∧ σ' = σ0 ∧ μ' = μ0 ∧ la' = la0)) (Q : qPost) : qEx d m pc st ls σ μ la Q ↔ Q r0 σ0 μ0 la0 := by
  obtain ⟨n, q, hq, h1, h2, h3, h4⟩ := h
  constructor
  · rintro ⟨k, q', hq', hQ⟩
    have e1 := qGo_le (Nat.le_max_left n k) hq
    have e2 := qGo_le (Nat.le_max_right n k) hq'
    rw [e1] at e2
    cases e2
    rw [h1, h2, h3, h4] at hQ
    exact hQ
  · intro hQ
    exact ⟨n, q, hq, by rw [h1, h2, h3, h4]; exact hQ⟩
theorem ite_ite0 {p : Prop} [Decidable p] : ((if p then (nI 1) else (nI 0)) = nI 0) ↔ ¬ p := by
  by_cases h : p
  · simp [h]; decide
  · simp [h]
theorem ite_01 {p : Prop} [Decidable p] : ((if p then (nI 0) else (nI 1)) = nI 0) ↔ p := by
  by_cases h : p
  · simp [h]
  · simp [h]; decide
