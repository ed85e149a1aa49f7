/-! a walk is straight: no cell comes twice, and at most seven are entered -/
/-- c lies k cells to that side of c0 -/
def posT (way c0 c k : Nat) : Prop :=
  (way = 0 → c / 8 + k = c0 / 8 ∧ c % 8 = c0 % 8) ∧ (way = 1 → c % 8 = c0 % 8 + k ∧ c / 8 = c0 / 8) ∧ (way = 2 → c / 8 = c0 / 8 + k ∧ c % 8 = c0 % 8) ∧ (way = 3 → c % 8 + k = c0 % 8 ∧ c / 8 = c0 / 8)
theorem posT_0 {way c0 : Nat} : posT way c0 c0 0 := ⟨fun _ => ⟨rfl, rfl⟩, fun _ => ⟨rfl, rfl⟩, fun _ => ⟨rfl, rfl⟩, fun _ => ⟨rfl, rfl⟩⟩
theorem posT_step {N : Nat} {T : qT} {way c0 c k x : Nat} (hwf : wfT N T) (hin : inT T c) (hway : way < 4) (h : posT way c0 c k) (hb : besT T c way = some x) : posT way c0 x (k + 1) := by
  have h8 := hwf.2.1
  obtain ⟨i1, i2⟩ := hin
  unfold besT at hb
  rcases (show way = 0 ∨ way = 1 ∨ way = 2 ∨ way = 3 by omega) with rfl | rfl | rfl | rfl
  · rw [if_pos rfl] at hb
    by_cases hq : 0 < c / 8
    · rw [if_pos hq] at hb; cases hb
      obtain ⟨a, b⟩ := h.1 rfl
      exact ⟨fun _ => ⟨by omega, by omega⟩, fun z => by omega, fun z => by omega, fun z => by omega⟩
    · rw [if_neg hq] at hb; cases hb
  · rw [if_neg (by decide), if_pos rfl] at hb
    by_cases hq : c % 8 + 1 < T 113
    · rw [if_pos hq] at hb; cases hb
      obtain ⟨a, b⟩ := h.2.1 rfl
      exact ⟨fun z => by omega, fun _ => ⟨by omega, by omega⟩, fun z => by omega, fun z => by omega⟩
    · rw [if_neg hq] at hb; cases hb
  · rw [if_neg (by decide), if_neg (by decide), if_pos rfl] at hb
    by_cases hq : c / 8 + 1 < T 114
    · rw [if_pos hq] at hb; cases hb
      obtain ⟨a, b⟩ := h.2.2.1 rfl
      exact ⟨fun z => by omega, fun z => by omega, fun _ => ⟨by omega, by omega⟩, fun z => by omega⟩
    · rw [if_neg hq] at hb; cases hb
  · rw [if_neg (by decide), if_neg (by decide), if_neg (by decide)] at hb
    by_cases hq : 0 < c % 8
    · rw [if_pos hq] at hb; cases hb
      obtain ⟨a, b⟩ := h.2.2.2 rfl
      exact ⟨fun z => by omega, fun z => by omega, fun z => by omega, fun _ => ⟨by omega, by omega⟩⟩
    · rw [if_neg hq] at hb; cases hb
theorem posT_ne {way c0 c e j k : Nat} (hway : way < 4) (h1 : posT way c0 c j) (h2 : posT way c0 e k) (hjk : ¬ j = k) : ¬ c = e := by
  intro he
  subst he
  rcases (show way = 0 ∨ way = 1 ∨ way = 2 ∨ way = 3 by omega) with rfl | rfl | rfl | rfl
  · have := h1.1 rfl; have := h2.1 rfl; omega
  · have := h1.2.1 rfl; have := h2.2.1 rfl; omega
  · have := h1.2.2.1 rfl; have := h2.2.2.1 rfl; omega
  · have := h1.2.2.2 rfl; have := h2.2.2.2 rfl; omega
theorem posT_7 {N : Nat} {T : qT} {way c0 c k : Nat} (hwf : wfT N T) (hway : way < 4) (hin : inT T c) (hin0 : inT T c0) (h : posT way c0 c k) : k ≤ 7 := by
  have h8 := hwf.2.1
  have h88 := hwf.2.2.1
  obtain ⟨i1, i2⟩ := hin
  obtain ⟨j1, j2⟩ := hin0
  rcases (show way = 0 ∨ way = 1 ∨ way = 2 ∨ way = 3 by omega) with rfl | rfl | rfl | rfl
  · have := h.1 rfl; omega
  · have := h.2.1 rfl; omega
  · have := h.2.2.1 rfl; omega
  · have := h.2.2.2 rfl; omega
/-- in the midst of a walk: so far pre, standing on c -/
def midT (T : qT) (p : Nat) (pre : List Nat) (c : Nat) : qT := upT (opnT T pre) (1 + p) c
theorem mid_who {T : qT} {p x c : Nat} {pre : List Nat} (h6 : T 115 ≤ 6) (hp : p < T 115) (h0 : ¬ T (1 + p) = x) (hc : ¬ c = x) : whoT (midT T p pre c) x = none ↔ whoT T x = none := by
  rw [whoT_none, whoT_none]
  unfold midT
  rw [upT_o (by omega), opnT_lo (by omega)]
  constructor
  · intro h q hq
    by_cases hqp : q = p
    · subst hqp; exact h0
    · have := h q hq
      rw [upT_o (by omega), opnT_lo (by omega)] at this
      exact this
  · intro h q hq
    by_cases hqp : q = p
    · subst hqp; rw [upT_s]; exact hc
    · rw [upT_o (by omega), opnT_lo (by omega)]; exact h q hq
theorem mid_map {T : qT} {p x c : Nat} {pre : List Nat} (hp : p < 6) (hx : ¬ x ∈ pre) : midT T p pre c (49 + x) = T (49 + x) := by
  unfold midT opnT
  rw [upT_o (by omega), if_neg (fun h => hx (by have := h.2.2; rwa [Nat.add_sub_cancel_left] at this))]
theorem mid_hi {T : qT} {p c j : Nat} {pre : List Nat} (hp : p < 6) (hj : 113 ≤ j) : midT T p pre c j = T j := by
  unfold midT
  rw [upT_o (by omega), opnT_lo (by omega)]
theorem mid_wf {N : Nat} {T : qT} {p c : Nat} {pre : List Nat} (h : wfT N T) (hp : p < T 115) (hc : inT T c) (hfree : ∀ q, q < T 115 → ¬ q = p → ¬ T (1 + q) = c) : wfT N (midT T p pre c) := by
  obtain ⟨w1, w2, w3, w4, w5, w6, w7, w8, w9⟩ := h
  have hp6 : p < 6 := by omega
  have hin : ∀ e, inT (midT T p pre c) e ↔ inT T e := fun e => by unfold inT; rw [mid_hi hp6 (by omega), mid_hi hp6 (by omega)]
  have hcell : ∀ q, q < 6 → midT T p pre c (1 + q) = if q = p then c else T (1 + q) := fun q hq => by
    unfold midT
    by_cases hqp : q = p
    · subst hqp; rw [upT_s, if_pos rfl]
    · rw [upT_o (by omega), opnT_lo (by omega), if_neg hqp]
  refine ⟨by rw [mid_hi hp6 (by omega)]; exact w1, by rw [mid_hi hp6 (by omega)]; exact w2, by rw [mid_hi hp6 (by omega)]; exact w3, Nat.zero_le _, by rw [mid_hi hp6 (by omega)]; exact w5, by rw [mid_hi hp6 (by omega)]; exact w6, fun e he => ?_, fun q hq => ?_, fun q r hq hr he => ?_⟩
  · have := w7 e ((hin e).mp he)
    unfold midT opnT
    rw [upT_o (by omega)]
    split <;> omega
  · rw [mid_hi hp6 (by omega)] at hq
    obtain ⟨r1, r2, r3, r4, r5⟩ := w8 q hq
    rw [mid_hi hp6 (by omega), hcell q (by omega)]
    refine ⟨r1, (hin _).mpr (by split; exact hc; exact r2), ?_, ?_, fun k hk => ?_⟩
    · unfold midT; rw [upT_o (by omega), opnT_lo (by omega)]; exact r3
    · unfold midT; rw [upT_o (by omega), opnT_lo (by omega)]; exact r4
    · unfold midT; rw [upT_o (by omega), opnT_lo (by omega)]; exact r5 k hk
  · rw [mid_hi hp6 (by omega)] at hq hr
    rw [hcell q (by omega), hcell r (by omega)] at he
    by_cases h1 : q = p
    · by_cases h2 : r = p
      · omega
      · rw [if_pos h1, if_neg h2] at he
        exact absurd he.symm (hfree r hr h2)
    · by_cases h2 : r = p
      · rw [if_neg h1, if_pos h2] at he
        exact absurd he (hfree q hq h1)
      · rw [if_neg h1, if_neg h2] at he
        exact w9 q r hq hr he
theorem mid_snoc {T : qT} {p x c : Nat} {pre : List Nat} (hp : p < 6) (hx64 : x < 64) (hx : ¬ x ∈ pre) : midT T p (pre ++ [x]) x = upT (upT (midT T p pre c) (49 + x) (if T (49 + x) = 4 then 0 else T (49 + x))) (1 + p) x := by
  have e4 : opnT T pre (49 + x) = T (49 + x) := by
    unfold opnT
    rw [if_neg (fun h => hx (by have := h.2.2; rwa [Nat.add_sub_cancel_left] at this))]
  funext j
  unfold midT
  by_cases hj1 : j = 1 + p
  · subst hj1; rw [upT_s, upT_s]
  · rw [upT_o hj1, upT_o hj1, opnT_snoc hx64, e4]
    by_cases h4 : T (49 + x) = 4
    · rw [if_pos h4, if_pos h4]
      by_cases hj2 : j = 49 + x
      · subst hj2; rw [upT_s, upT_s]
      · rw [upT_o hj2, upT_o hj2, upT_o hj1]
    · rw [if_neg h4, if_neg h4]
      by_cases hj2 : j = 49 + x
      · subst hj2; rw [upT_s, e4]
      · rw [upT_o hj2, upT_o hj1]
