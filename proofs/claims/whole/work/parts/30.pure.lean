/-! THE TOWN, purely: 124 numbers as the reference lays them: 0 the noon, 1+p where p is, 7+p where he looks, 13+p owes, 19+p entered, 25+4p+k deeds, 49+c the cells, 113 columns, 114 rows, 115 how many, 116 court, 117 over, 118+p the kind -/
abbrev qT : Type := Nat → Nat
abbrev inT (T : qT) (c : Nat) : Prop := c / 8 < T 114 ∧ c % 8 < T 113
def whoF (T : qT) (c : Nat) : Nat → Nat → Option Nat
  | _, 0 => none
  | k, n + 1 => if T (1 + k) = c then some k else whoF T c (k + 1) n
/-- who stands on c -/
def whoT (T : qT) (c : Nat) : Option Nat := whoF T c 0 (T 115)
def noneV (o : Option Nat) : Int32 := match o with
  | some p => nI p
  | none => -4
def besT (T : qT) (c side : Nat) : Option Nat :=
  if side = 0 then (if 0 < c / 8 then some (c - 8) else none) else
  if side = 1 then (if c % 8 + 1 < T 113 then some (c + 1) else none) else
  if side = 2 then (if c / 8 + 1 < T 114 then some (c + 8) else none) else
  (if 0 < c % 8 then some (c - 1) else none)
def besV (o : Option Nat) : Int32 := match o with
  | some p => nI p
  | none => -1
def wayT (T : qT) (kind side : Nat) : Nat := ((if T 116 = 1 then 0 else side) + (if kind = 3 then 3 else 2)) % 4
def costT (g : Nat) : Nat := if g = 0 then 1 else if g = 4 then 3 else 2
/-- may one of that kind with so many paces enter x -/
abbrev canT (T : qT) (kind left x : Nat) : Prop := whoT T x = none ∧ ¬ T (49 + x) = 1 ∧ ¬ (4 ≤ kind ∧ (T (49 + x) = 2 ∨ T (49 + x) = 3)) ∧ costT (T (49 + x)) ≤ left
/-- the walk from c to that side: the cells entered, the paces left -/
def walkF (T : qT) (kind way : Nat) : Nat → Nat → Nat → List Nat × Nat
  | 0, _, left => ([], left)
  | n + 1, c, left => match besT T c way with
    | none => ([], left)
    | some x => if canT T kind left x then ((x :: (walkF T kind way n x (left - costT (T (49 + x)))).1), (walkF T kind way n x (left - costT (T (49 + x)))).2) else ([], left)
def pacesT (kind owes : Nat) : Nat := if kind = 2 then owes / 2 else owes
def walkT (T : qT) (p kind side owes : Nat) : List Nat × Nat := walkF T kind (wayT T kind side) 8 (T (1 + p)) (pacesT kind owes)
def upT (T : qT) (k v : Nat) : qT := fun j => if j = k then v else T j
/-- doors on these cells are streets -/
def opnT (T : qT) (path : List Nat) : qT := fun j => if (49 ≤ j ∧ j < 113) ∧ T j = 4 ∧ (j - 49) ∈ path then 0 else T j
def endT (c : Nat) (path : List Nat) : Nat := path.getLastD c
/-- a town as it may be: N bounds the deeds -/
def wfT (N : Nat) (T : qT) : Prop := T 115 ≤ 6 ∧ T 113 ≤ 8 ∧ T 114 ≤ 8 ∧ 0 ≤ T 0 ∧ T 116 ≤ 1 ∧ T 117 ≤ 1 ∧ (∀ c, inT T c → T (49 + c) < 5) ∧
  (∀ p, p < T 115 → (1 ≤ T (118 + p) ∧ T (118 + p) ≤ 5) ∧ inT T (T (1 + p)) ∧ T (7 + p) < 4 ∧ T (13 + p) ≤ 99 ∧ ∀ k, k < 4 → T (25 + 4 * p + k) ≤ N) ∧
  ∀ p q, p < T 115 → q < T 115 → T (1 + p) = T (1 + q) → p = q
theorem inT_lt {N : Nat} {T : qT} {c : Nat} (h : wfT N T) (hc : inT T c) : c < 64 := by
  have := h.2.2.1; have := hc.1; omega
theorem whoF_none {T : qT} {c : Nat} : ∀ {n k : Nat}, whoF T c k n = none ↔ ∀ p, k ≤ p → p < k + n → T (1 + p) ≠ c := by
  intro n
  induction n with
  | zero => intro k; simp [whoF]; omega
  | succ n ih =>
    intro k
    unfold whoF
    by_cases h : T (1 + k) = c
    · rw [if_pos h]
      simp
      exact ⟨k, by omega, by omega, h⟩
    · rw [if_neg h, ih]
      constructor
      · intro hq p h1 h2
        by_cases hp : p = k
        · subst hp; exact h
        · exact hq p (by omega) (by omega)
      · intro hq p h1 h2
        exact hq p (by omega) (by omega)
theorem whoF_some {T : qT} {c : Nat} : ∀ {n k q : Nat}, whoF T c k n = some q → k ≤ q ∧ q < k + n ∧ T (1 + q) = c := by
  intro n
  induction n with
  | zero => intro k q h; simp [whoF] at h
  | succ n ih =>
    intro k q h
    unfold whoF at h
    by_cases hc : T (1 + k) = c
    · rw [if_pos hc] at h
      cases h
      exact ⟨by omega, by omega, hc⟩
    · rw [if_neg hc] at h
      obtain ⟨h1, h2, h3⟩ := ih h
      exact ⟨by omega, by omega, h3⟩
theorem whoT_none {T : qT} {c : Nat} : whoT T c = none ↔ ∀ p, p < T 115 → T (1 + p) ≠ c := by
  unfold whoT
  rw [whoF_none]
  constructor
  · intro h p hp; exact h p (by omega) (by omega)
  · intro h p _ hp; exact h p (by omega)
theorem whoT_some {T : qT} {c q : Nat} (h : whoT T c = some q) : q < T 115 ∧ T (1 + q) = c := by
  obtain ⟨-, h2, h3⟩ := whoF_some h
  exact ⟨by omega, h3⟩
theorem besT_in {N : Nat} {T : qT} {c side x : Nat} (hw : wfT N T) (hc : inT T c) (h : besT T c side = some x) : inT T x := by
  have h64 := inT_lt hw hc
  obtain ⟨-, h8, h88, -⟩ := hw
  obtain ⟨h1, h2⟩ := hc
  unfold besT at h
  repeat' split at h
  all_goals first | (cases h; done) | (cases h; constructor <;> omega)
/-! numbers -/
theorem nI_mull (a b : Nat) : nI a * nI b = nI (a * b) := (Int32.ofNat_mul a b).symm
theorem nI_divl {a b : Nat} (ha : a < 2 ^ 31) (hb : b < 2 ^ 31) : nI a / nI b = nI (a / b) := by
  apply Int32.toInt_inj.mp
  rw [nI_toInt (Nat.lt_of_le_of_lt (Nat.div_le_self a b) ha), Int32.toInt_div_of_ne_right _ _ (by
    intro h
    have h2 := congrArg Int32.toInt h
    rw [nI_toInt hb] at h2
    have : (-1 : Int32).toInt = -1 := by decide
    omega), nI_toInt ha, nI_toInt hb, Int.ofNat_tdiv]
theorem nI_reml {a b : Nat} (ha : a < 2 ^ 31) (hb : b < 2 ^ 31) : nI a - nI a / nI b * nI b = nI (a % b) := by
  rw [nI_divl ha hb]
  have h : nI (a / b) * nI b + nI (a % b) = nI a := by
    rw [nI_mull, nI_add, Nat.mul_comm, Nat.div_add_mod]
  rw [← h]
  grind
