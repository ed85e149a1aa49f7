/-! follow, walkAtNoon, passNoon, commit -/
theorem upT_id {T : qT} {k v : Nat} (h : T k = v) : upT T k v = T := by
  funext j; unfold upT; split
  · rename_i e; rw [e, h]
  · rfl
theorem walkF_ok {N : Nat} {T : qT} {kind way : Nat} (hwf : wfT N T) : ∀ (n c left : Nat), inT T c → (∀ x ∈ (walkF T kind way n c left).1, inT T x ∧ whoT T x = none ∧ ¬ T (49 + x) = 1) ∧ (walkF T kind way n c left).2 ≤ left ∧ (walkF T kind way n c left).1.length ≤ n := by
  intro n
  induction n with
  | zero => intro c left hc; exact ⟨fun x hx => (by cases hx), Nat.le_refl _, Nat.le_refl _⟩
  | succ n ih =>
    intro c left hc
    unfold walkF
    cases hb : besT T c way with
    | none => exact ⟨fun x hx => (by cases hx), Nat.le_refl _, Nat.zero_le _⟩
    | some x =>
      have hx := besT_in hwf hc hb
      simp only
      by_cases h : canT T kind left x
      · rw [if_pos h]
        obtain ⟨i1, i2, i3⟩ := ih x (left - costT (T (49 + x))) hx
        refine ⟨fun y hy => ?_, by simp only; omega, by simp only [List.length_cons]; omega⟩
        rcases List.mem_cons.mp hy with rfl | hy
        · exact ⟨hx, h.1, h.2.1⟩
        · exact i1 y hy
      · rw [if_neg h]
        exact ⟨fun x hx => (by cases hx), Nat.le_refl _, Nat.zero_le _⟩
theorem endT_mem {c0 : Nat} {l : List Nat} : endT c0 l = c0 ∧ l = [] ∨ endT c0 l ∈ l := by
  cases l with
  | nil => left; exact ⟨rfl, rfl⟩
  | cons a l =>
    right
    unfold endT
    rw [List.getLastD_cons]
    induction l generalizing a with
    | nil => simp
    | cons b l ih => rw [List.getLastD_cons]; exact List.mem_cons_of_mem _ (ih b)
def lookT (T : qT) (p : Nat) : Nat := if T (118 + p) = 5 then (T (7 + p) + 1) % 4 else T (7 + p)
/-- the walk of p at noon -/
def ownT (T : qT) (p : Nat) : List Nat × Nat := walkT T p (T (118 + p)) (T (7 + p)) (T (13 + p))
def walkInT (T : qT) (p : Nat) : qT := upT (upT (upT (upT (opnT T (ownT T p).1) (1 + p) (endT (T (1 + p)) (ownT T p).1)) (19 + p) (T (19 + p) + (ownT T p).1.length)) (13 + p) (if T 117 = 1 then (ownT T p).2 else 0)) (7 + p) (lookT T p)
def noonF : Nat → Nat → qT → Nat → qT × Nat
  | _, 0, T, n => (T, n)
  | k, m + 1, T, n => if 0 < T (13 + k) then noonF (k + 1) m (walkInT T k) (n + (ownT T k).1.length) else noonF (k + 1) m T n
def noonT (T : qT) : qT × Nat := (upT (noonF 0 (T 115) T 0).1 0 ((noonF 0 (T 115) T 0).1 0 + 1), (noonF 0 (T 115) T 0).2)
theorem walkInT_hi {T : qT} {p j : Nat} (hp : p < 6) (h : 113 ≤ j) : walkInT T p j = T j := by
  unfold walkInT
  rw [upT_o (by omega), upT_o (by omega), upT_o (by omega), upT_o (by omega), opnT_lo (by omega)]
theorem walkInT_map {T : qT} {p c : Nat} (hp : p < 6) : walkInT T p (49 + c) = opnT T (ownT T p).1 (49 + c) := by
  unfold walkInT
  rw [upT_o (by omega), upT_o (by omega), upT_o (by omega), upT_o (by omega)]
theorem wf_walkIn {N : Nat} {T : qT} {p : Nat} (h : wfT N T) (hp : p < T 115) : wfT N (walkInT T p) := by
  have h' := h
  obtain ⟨w1, w2, w3, w4, w5, w6, w7, w8, w9⟩ := h
  have hp6 : p < 6 := by omega
  obtain ⟨q1, q2, q3, q4, q5⟩ := w8 p hp
  obtain ⟨p1, p2, p3⟩ := walkF_ok (kind := T (118 + p)) (way := wayT T (T (118 + p)) (T (7 + p))) h' 8 (T (1 + p)) (pacesT (T (118 + p)) (T (13 + p))) q2
  have hin : ∀ c, inT (walkInT T p) c ↔ inT T c := fun c => by unfold inT; rw [walkInT_hi hp6 (by omega), walkInT_hi hp6 (by omega)]
  have hend : inT T (endT (T (1 + p)) (ownT T p).1) ∧ ∀ q, q < T 115 → q ≠ p → T (1 + q) ≠ endT (T (1 + p)) (ownT T p).1 := by
    rcases endT_mem (c0 := T (1 + p)) (l := (ownT T p).1) with ⟨e, -⟩ | hm
    · rw [e]; exact ⟨q2, fun q hq hne he => hne (w9 q p hq hp he)⟩
    · obtain ⟨e1, e2, -⟩ := p1 _ hm
      exact ⟨e1, fun q hq _ => whoT_none.mp e2 q hq⟩
  have hcell : ∀ q, q < 6 → walkInT T p (1 + q) = if q = p then endT (T (1 + p)) (ownT T p).1 else T (1 + q) := fun q hq => by
    unfold walkInT
    rw [upT_o (by omega), upT_o (by omega), upT_o (by omega)]
    by_cases hqp : q = p
    · subst hqp; rw [upT_s, if_pos rfl]
    · rw [upT_o (by omega), opnT_lo (by omega), if_neg hqp]
  refine ⟨by rw [walkInT_hi hp6 (by omega)]; exact w1, by rw [walkInT_hi hp6 (by omega)]; exact w2, by rw [walkInT_hi hp6 (by omega)]; exact w3, ?_, by rw [walkInT_hi hp6 (by omega)]; exact w5, by rw [walkInT_hi hp6 (by omega)]; exact w6, fun c hc => ?_, fun q hq => ?_, fun q r hq hr he => ?_⟩
  · unfold walkInT
    rw [upT_o (by omega), upT_o (by omega), upT_o (by omega), upT_o (by omega), opnT_lo (by omega)]
    exact w4
  · rw [walkInT_map hp6]
    have := w7 c ((hin c).mp hc)
    unfold opnT
    split <;> omega
  · rw [walkInT_hi hp6 (by omega)] at hq
    obtain ⟨r1, r2, r3, r4, r5⟩ := w8 q hq
    rw [walkInT_hi hp6 (by omega), hcell q (by omega)]
    refine ⟨r1, (hin _).mpr (by split; exact hend.1; exact r2), ?_, ?_, fun k hk => ?_⟩
    · unfold walkInT
      by_cases hqp : q = p
      · subst hqp
        rw [upT_s]
        unfold lookT
        split <;> omega
      · rw [upT_o (by omega), upT_o (by omega), upT_o (by omega), upT_o (by omega), opnT_lo (by omega)]; exact r3
    · unfold walkInT
      rw [upT_o (by omega)]
      by_cases hqp : q = p
      · subst hqp
        rw [upT_s]
        have hpc : pacesT (T (118 + q)) (T (13 + q)) ≤ 99 := by unfold pacesT; split <;> omega
        have : (ownT T q).2 ≤ 99 := Nat.le_trans p2 hpc
        split <;> omega
      · rw [upT_o (by omega), upT_o (by omega), upT_o (by omega), opnT_lo (by omega)]; exact r4
    · unfold walkInT
      rw [upT_o (by omega), upT_o (by omega), upT_o (by omega), upT_o (by omega), opnT_lo (by omega)]; exact r5 k hk
  · rw [walkInT_hi hp6 (by omega)] at hq hr
    rw [hcell q (by omega), hcell r (by omega)] at he
    by_cases h1 : q = p
    · by_cases h2 : r = p
      · omega
      · rw [if_pos h1, if_neg h2] at he
        exact absurd he.symm (hend.2 r hr h2)
    · by_cases h2 : r = p
      · rw [if_neg h1, if_pos h2] at he
        exact absurd he (hend.2 q hq h1)
      · rw [if_neg h1, if_neg h2] at he
        exact w9 q r hq hr he
theorem opnT_nil {T : qT} : opnT T [] = T := by
  funext j; unfold opnT; split
  · rename_i h; exact absurd h.2.2 (by simp)
  · rfl
theorem opnT_snoc {T : qT} {l : List Nat} {x : Nat} (hx : x < 64) : opnT T (l ++ [x]) = if opnT T l (49 + x) = 4 then upT (opnT T l) (49 + x) 0 else opnT T l := by
  have h1 : (49 ≤ 49 + x ∧ 49 + x < 113) := by omega
  by_cases h4 : T (49 + x) = 4
  · by_cases hm : x ∈ l
    · have e0 : opnT T l (49 + x) = 0 := by unfold opnT; rw [if_pos ⟨h1, h4, by simpa using hm⟩]
      rw [e0, if_neg (by decide)]
      funext j
      unfold opnT
      by_cases hj : (49 ≤ j ∧ j < 113) ∧ T j = 4 ∧ j - 49 ∈ l
      · rw [if_pos hj, if_pos ⟨hj.1, hj.2.1, List.mem_append_left _ hj.2.2⟩]
      · rw [if_neg hj, if_neg]
        intro h
        rcases List.mem_append.mp h.2.2 with h2 | h2
        · exact hj ⟨h.1, h.2.1, h2⟩
        · simp at h2
          exact hj ⟨h.1, h.2.1, by rw [h2]; exact hm⟩
    · have e0 : opnT T l (49 + x) = 4 := by unfold opnT; rw [if_neg (fun h => hm (by simpa using h.2.2))]; exact h4
      rw [if_pos e0]
      funext j
      by_cases hj : j = 49 + x
      · subst hj
        rw [upT_s]
        unfold opnT
        rw [if_pos ⟨h1, h4, by simp⟩]
      · rw [upT_o hj]
        unfold opnT
        by_cases hq : (49 ≤ j ∧ j < 113) ∧ T j = 4 ∧ j - 49 ∈ l
        · rw [if_pos hq, if_pos ⟨hq.1, hq.2.1, List.mem_append_left _ hq.2.2⟩]
        · rw [if_neg hq, if_neg]
          intro h
          rcases List.mem_append.mp h.2.2 with h2 | h2
          · exact hq ⟨h.1, h.2.1, h2⟩
          · simp at h2; omega
  · have e0 : ¬ opnT T l (49 + x) = 4 := by unfold opnT; split <;> omega
    rw [if_neg e0]
    funext j
    unfold opnT
    by_cases hq : (49 ≤ j ∧ j < 113) ∧ T j = 4 ∧ j - 49 ∈ l
    · rw [if_pos hq, if_pos ⟨hq.1, hq.2.1, List.mem_append_left _ hq.2.2⟩]
    · rw [if_neg hq, if_neg]
      intro h
      rcases List.mem_append.mp h.2.2 with h2 | h2
      · exact hq ⟨h.1, h.2.1, h2⟩
      · simp at h2
        have : j = 49 + x := by omega
        rw [this] at h
        exact h4 h.2.1
