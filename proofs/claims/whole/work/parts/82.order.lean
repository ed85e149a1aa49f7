/-! the order in which most is walked, purely: the reference's rows (digits of codes) and the class's (one after another) are the same rows -/
def digL (m : Nat) : Nat → Nat → List Nat
  | 0, _ => []
  | k + 1, c => digL m k (c / m) ++ [c % m]
def metL (m : Nat) : Nat → Nat → Nat → Nat
  | 0, _, a => a
  | k + 1, c, a => metL m k (c / m) (a ||| 2 ^ (c % m))
def pivF (r : List Nat) : Nat → Option Nat
  | 0 => none
  | i + 1 => if r.getD (i + 1) 0 < r.getD i 0 then pivF r i else some i
def jayF (r : List Nat) (i : Nat) : Nat → Nat
  | 0 => 0
  | j + 1 => if i < j + 1 ∧ r.getD (j + 1) 0 < r.getD i 0 then jayF r i j else j + 1
def swpL (r : List Nat) (i j : Nat) : List Nat := (r.set i (r.getD j 0)).set j (r.getD i 0)
def revF : Nat → List Nat → Nat → Nat → List Nat
  | 0, r, _, _ => r
  | f + 1, r, lo, hi => if lo < hi then revF f (swpL r lo hi) (lo + 1) (hi - 1) else r
def nextF (n : Nat) (r : List Nat) : Option (List Nat) := (pivF r (n - 1)).map fun i => revF n (swpL r i (jayF r i (n - 1))) (i + 1) (n - 1)
def rowsN (n : Nat) : Nat → List Nat → List (List Nat)
  | 0, _ => []
  | f + 1, r => r :: match nextF n r with
    | none => []
    | some q => rowsN n f q
def rowsM (m n w : Nat) : Nat → Nat → List (List Nat)
  | 0, _ => []
  | f + 1, c => if metL m n c 0 = w then digL m n c :: rowsM m n w f (c + 1) else rowsM m n w f (c + 1)
def chkO (m n w : Nat) : Nat → Nat → List (List Nat) → Bool
  | 0, _, R => R.isEmpty
  | f + 1, c, R => if metL m n c 0 = w then (match R with
    | [] => false
    | r :: R => if r = digL m n c then chkO m n w f (c + 1) R else false) else chkO m n w f (c + 1) R
theorem chkO_eq {m n w : Nat} : ∀ (f c : Nat) (R : List (List Nat)), chkO m n w f c R = true → rowsM m n w f c = R := by
  intro f
  induction f with
  | zero => intro c R h; cases R with
    | nil => rfl
    | cons r R => exact absurd h (fun e => Bool.noConfusion e)
  | succ f ih =>
    intro c R h
    unfold chkO at h
    unfold rowsM
    by_cases hw : metL m n c 0 = w
    · rw [if_pos hw] at h ⊢
      cases R with
      | nil => exact absurd h (fun e => Bool.noConfusion e)
      | cons r R =>
        simp only [] at h
        by_cases hr : r = digL m n c
        · rw [if_pos hr] at h; rw [ih _ _ h, hr]
        · rw [if_neg hr] at h; exact absurd h (by decide)
    · rw [if_neg hw] at h ⊢; exact ih _ _ h
def dsM (m w : Nat) : List Nat := (List.range m).filter fun p => w.testBit p
def chkA (m w : Nat) : Bool := chkO m (dsM m w).length w (m ^ (dsM m w).length) 0 (rowsN (dsM m w).length 720 (dsM m w))
theorem chkA_5 : ∀ m, m < 6 → ∀ w, w < 2 ^ m → chkA m w = true := by decide +kernel
theorem chkA_6 : ∀ w, w < 2 ^ 6 → chkA 6 w = true := by decide +kernel
