/-! the first calls: answers and next states, purely -/
def noteA (T : qT) (as : List qT) : List qT := T :: as.take 23
def aFeed (b : List Nat) (x : Int32) : Int32 := if isR x 256 then (if b.length = 140 then mI 3 else nI (b.length + 1)) else mI 1
def sFeed (b : List Nat) (x : Int32) : List Nat := if isR x 256 then (if b.length = 140 then b else b ++ [nn x]) else b
def persIx (p w : Nat) : Nat := if w = 0 then 118 + p else if w = 1 then 1 + p else if w = 2 then 7 + p else if w = 3 then 13 + p else if w = 4 then 19 + p else 25 + 4 * p + (w - 5)
def aPerson (T : qT) (x y : Int32) : Int32 := if isR x (T 115) then (if isR y 9 then nI (T (persIx (nn x) (nn y))) else mI 1) else mI 1
def aCell (T : qT) (x : Int32) : Int32 := if isC T x then nI (T (49 + nn x)) else mI 1
def aOn (T : qT) (x : Int32) : Int32 := if isC T x then noneV (whoT T (nn x)) else mI 1
def aAs (T : qT) (x y : Int32) : Int32 := if isR x (T 115) then (if isR y 6 then (if underT (T (118 + nn x)) (nn y) then x else mI 12) else mI 1) else mI 1
def aNoon (T : qT) : Int32 := if T 115 = 0 then mI 2 else if T 0 = 9999 then mI 3 else nI (noonT T).2
def okNoon (T : qT) : Bool := !decide (T 115 = 0) && !decide (T 0 = 9999)
def aDeed (T : qT) (x y : Int32) : Int32 := if isR x (T 115) then (if isR y 4 then nI (doT T (nn x) (nn y) (13 + nn x)) else mI 1) else mI 1
def aLook (T : qT) (x y : Int32) : Int32 := if isR x (T 115) then (if isR y 4 then (if T (7 + nn x) = nn y then mI 2 else nI (T (7 + nn x))) else mI 1) else mI 1
def okLook (T : qT) (x y : Int32) : Bool := isR x (T 115) && isR y 4 && !decide (T (7 + nn x) = nn y)
def aBuild (T : qT) (x y : Int32) : Int32 := if isC T x then (if isR y 2 then (if T (49 + nn x) = nn y then mI 2 else if nn y = 1 then (if whoT T (nn x) = none then nI (T (49 + nn x)) else mI 2) else nI (T (49 + nn x))) else mI 1) else mI 1
def okBuild (T : qT) (x y : Int32) : Bool := isC T x && isR y 2 && !decide (T (49 + nn x) = nn y) && (!decide (nn y = 1) || (whoT T (nn x)).isNone)
def aUndo (as : List qT) : Int32 := if as.length = 0 then mI 4 else nI (as.length - 1)
def sUndoT (T : qT) (as : List qT) : qT := if as.length = 0 then T else as.getD 0 zT
def aImage (T : qT) (x : Int32) : Int32 := if isR x 2 then (if T 115 = 0 then mI 2 else nI (T 0)) else mI 1
def sImage (T : qT) (im : Nat → qT) (x : Int32) : Nat → qT := if isR x 2 then (if T 115 = 0 then im else fun k => if k = nn x then T else im k) else im
def aRestore (im : Nat → qT) (x : Int32) : Int32 := if isR x 2 then (if im (nn x) 115 = 0 then mI 2 else nI (im (nn x) 0)) else mI 1
def okRestore (im : Nat → qT) (x : Int32) : Bool := isR x 2 && !decide (im (nn x) 115 = 0)
theorem nn_nI {k : Nat} (h : k < 2 ^ 31) : nn (nI k) = k := nI_clamp h
/-! the states stay proper -/
theorem wf_mono {N M : Nat} {T : qT} (h : wfT N T) (hl : N ≤ M) : wfT M T := by
  obtain ⟨w1, w2, w3, w4, w5, w6, w7, w8, w9⟩ := h
  refine ⟨w1, w2, w3, w4, w5, w6, w7, fun p hp => ?_, w9⟩
  obtain ⟨r1, r2, r3, r4, r5⟩ := w8 p hp
  exact ⟨r1, r2, r3, r4, fun k hk => Nat.le_trans (r5 k hk) hl⟩
theorem wf_face {N : Nat} {T : qT} {p v : Nat} (h : wfT N T) (hp : p < T 115) (hv : v < 4) : wfT N (upT T (7 + p) v) := by
  obtain ⟨w1, w2, w3, w4, w5, w6, w7, w8, w9⟩ := h
  have hin : ∀ c, inT (upT T (7 + p) v) c ↔ inT T c := fun c => by unfold inT; rw [upT_o (by omega), upT_o (by omega)]
  refine ⟨by rw [upT_o (by omega)]; exact w1, by rw [upT_o (by omega)]; exact w2, by rw [upT_o (by omega)]; exact w3, Nat.zero_le _, by rw [upT_o (by omega)]; exact w5, by rw [upT_o (by omega)]; exact w6, fun c hc => by rw [upT_o (by omega)]; exact w7 c ((hin c).mp hc), fun q hq => ?_, fun q r hq hr he => ?_⟩
  · rw [upT_o (by omega)] at hq
    obtain ⟨r1, r2, r3, r4, r5⟩ := w8 q hq
    rw [upT_o (by omega), upT_o (by omega), upT_o (by omega : ¬ 13 + q = 7 + p)]
    refine ⟨r1, (hin _).mpr r2, ?_, r4, fun k hk => by rw [upT_o (by omega)]; exact r5 k hk⟩
    by_cases hqp : q = p
    · subst hqp; rw [upT_s]; exact hv
    · rw [upT_o (by omega)]; exact r3
  · rw [upT_o (by omega)] at hq hr
    rw [upT_o (by omega), upT_o (by omega)] at he
    exact w9 q r hq hr he
theorem wf_ground {N : Nat} {T : qT} {c v : Nat} (h : wfT N T) (hc : c < 64) (hv : v < 5) : wfT N (upT T (49 + c) v) := by
  obtain ⟨w1, w2, w3, w4, w5, w6, w7, w8, w9⟩ := h
  have hin : ∀ e, inT (upT T (49 + c) v) e ↔ inT T e := fun e => by unfold inT; rw [upT_o (by omega), upT_o (by omega)]
  refine ⟨by rw [upT_o (by omega)]; exact w1, by rw [upT_o (by omega)]; exact w2, by rw [upT_o (by omega)]; exact w3, Nat.zero_le _, by rw [upT_o (by omega)]; exact w5, by rw [upT_o (by omega)]; exact w6, fun e he => ?_, fun q hq => ?_, fun q r hq hr he => ?_⟩
  · have := w7 e ((hin e).mp he)
    by_cases hec : e = c
    · subst hec; rw [upT_s]; exact hv
    · rw [upT_o (by omega)]; exact this
  · rw [upT_o (by omega)] at hq
    obtain ⟨r1, r2, r3, r4, r5⟩ := w8 q hq
    rw [upT_o (by omega), upT_o (by omega), upT_o (by omega : ¬ 7 + q = 49 + c), upT_o (by omega : ¬ 13 + q = 49 + c)]
    exact ⟨r1, (hin _).mpr r2, r3, r4, fun k hk => by rw [upT_o (by omega)]; exact r5 k hk⟩
  · rw [upT_o (by omega)] at hq hr
    rw [upT_o (by omega), upT_o (by omega)] at he
    exact w9 q r hq hr he
theorem wf_do {N : Nat} {T : qT} {p k : Nat} (h : wfT N T) (hp : p < T 115) (hk : k < 4) : wfT (N + 1) (doT T p k) := by
  obtain ⟨w1, w2, w3, w4, w5, w6, w7, w8, w9⟩ := h
  unfold doT
  generalize hv : min 99 (T (13 + p) + (fineT k + T (25 + 4 * p + k))) = v
  have hv99 : v ≤ 99 := by omega
  have hin : ∀ e, inT (upT (upT T (13 + p) v) (25 + 4 * p + k) (T (25 + 4 * p + k) + 1)) e ↔ inT T e := fun e => by unfold inT; rw [upT_o (by omega), upT_o (by omega), upT_o (by omega), upT_o (by omega)]
  refine ⟨by rw [upT_o (by omega), upT_o (by omega)]; exact w1, by rw [upT_o (by omega), upT_o (by omega)]; exact w2, by rw [upT_o (by omega), upT_o (by omega)]; exact w3, Nat.zero_le _, by rw [upT_o (by omega), upT_o (by omega)]; exact w5, by rw [upT_o (by omega), upT_o (by omega)]; exact w6, fun e he => by rw [upT_o (by omega), upT_o (by omega)]; exact w7 e ((hin e).mp he), fun q hq => ?_, fun q r hq hr he => ?_⟩
  · rw [upT_o (by omega), upT_o (by omega)] at hq
    obtain ⟨r1, r2, r3, r4, r5⟩ := w8 q hq
    refine ⟨by rw [upT_o (by omega), upT_o (by omega)]; exact r1, by rw [upT_o (by omega), upT_o (by omega)]; exact (hin _).mpr r2, by rw [upT_o (by omega), upT_o (by omega)]; exact r3, ?_, fun j hj => ?_⟩
    · rw [upT_o (by omega)]
      by_cases hqp : q = p
      · subst hqp; rw [upT_s]; exact hv99
      · rw [upT_o (by omega)]; exact r4
    · have hpp := (w8 p hp).2.2.2.2 k hk
      by_cases hqp : 25 + 4 * q + j = 25 + 4 * p + k
      · rw [hqp, upT_s]; omega
      · rw [upT_o hqp, upT_o (by omega)]
        have := r5 j hj
        omega
  · rw [upT_o (by omega), upT_o (by omega)] at hq hr
    rw [upT_o (by omega), upT_o (by omega), upT_o (by omega), upT_o (by omega)] at he
    exact w9 q r hq hr he
theorem doT_hi {T : qT} {p k j : Nat} (hp : p < 6) (hk : k < 4) (hj : 113 ≤ j) : doT T p k j = T j := by
  unfold doT; rw [upT_o (by omega), upT_o (by omega)]
theorem noonT_hi {T : qT} {j : Nat} (h6 : T 115 ≤ 6) (hj : 113 ≤ j) : (noonT T).1 j = T j := by
  unfold noonT
  simp only []
  rw [upT_o (by omega)]
  exact noonF_115 _ _ _ _ h6 (by omega) j hj
theorem noonF_0 : ∀ (n k cells : Nat) (T : qT), k + n ≤ 6 → (noonF k n T cells).1 0 = T 0 := by
  intro n
  induction n with
  | zero => intro k cells T h; rfl
  | succ n ih =>
    intro k cells T h
    unfold noonF
    split
    · rw [ih _ _ _ (by omega)]
      unfold walkInT
      rw [upT_o (by omega), upT_o (by omega), upT_o (by omega), upT_o (by omega), opnT_lo (by omega)]
    · exact ih _ _ _ (by omega)
theorem wf_noonF {N : Nat} : ∀ (n k cells : Nat) (T : qT), k + n = T 115 → wfT N T → wfT N (noonF k n T cells).1 := by
  intro n
  induction n with
  | zero => intro k cells T h hw; exact hw
  | succ n ih =>
    intro k cells T h hw
    have h6 := hw.1
    unfold noonF
    split
    · exact ih _ _ _ (by rw [walkInT_hi (by omega) (by omega)]; omega) (wf_walkIn hw (by omega))
    · exact ih _ _ _ (by omega) hw
theorem wf_noon {N : Nat} {T : qT} (h : wfT N T) : wfT N (noonT T).1 := wf_up0 (wf_noonF (T 115) 0 0 T (by omega) h)
theorem noonT_0 {T : qT} (h6 : T 115 ≤ 6) : (noonT T).1 0 = T 0 + 1 := by
  unfold noonT
  simp only []
  rw [upT_s, noonF_0 _ _ _ _ (by omega)]
