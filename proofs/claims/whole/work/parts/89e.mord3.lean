/-! cells entered by a row, the best row so far -/
def sumO : List Nat → qT → Nat
  | [], _ => 0
  | p :: r, T => (ownT T p).1.length + sumO r (walkInT T p)
def bstO (T : qT) (s : Nat × List Nat) (r : List Nat) : Nat × List Nat := if s.1 < sumO r T + 1 then (sumO r T + 1, r) else s
theorem own_len {N : Nat} {T : qT} {p : Nat} (h : wfT N T) (hp : p < T 115) : (ownT T p).1.length ≤ 8 := by
  obtain ⟨-, hin, -⟩ := h.2.2.2.2.2.2.2.1 p hp
  exact (walkF_ok (kind := T (118 + p)) (way := wayT T (T (118 + p)) (T (7 + p))) h 8 (T (1 + p)) (pacesT (T (118 + p)) (T (13 + p))) hin).2.2
theorem sumO_le {N : Nat} : ∀ (r : List Nat) (T : qT), wfT N T → (∀ p ∈ r, p < T 115) → sumO r T ≤ 8 * r.length := by
  intro r
  induction r with
  | nil => intro T _ _; exact Nat.zero_le _
  | cons p r ih =>
    intro T h hr
    have hp := hr p List.mem_cons_self
    have h1 := own_len h hp
    have h2 := ih (walkInT T p) (wf_walkIn h hp) fun q hq => by rw [walkInT_hi (by have := h.1; omega) (by omega)]; exact hr q (List.mem_cons_of_mem _ hq)
    show (ownT T p).1.length + sumO r (walkInT T p) ≤ 8 * (r.length + 1)
    omega
