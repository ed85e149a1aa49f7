/-! the town is changed: pure steps, and the class's writing methods -/
theorem upT_o {T : qT} {k v j : Nat} (h : ¬ j = k) : upT T k v j = T j := by simp [upT, h]
theorem upT_s {T : qT} {k v : Nat} : upT T k v k = v := by simp [upT]
theorem opnT_lo {T : qT} {path : List Nat} {j : Nat} (h : j < 49 ∨ 113 ≤ j) : opnT T path j = T j := by
  unfold opnT; rw [if_neg (by omega)]
theorem qTw_at {μ : qMu} {t p v : Nat} {T : qT} (h : qTw μ t T) (h6 : T 115 ≤ 6) (hp : p < 6) : qTw (qset μ (t + 3) p (nI v)) t (upT T (1 + p) v) := by
  obtain ⟨a0, a1, a2, a3, a4, a5, ag, ap⟩ := h
  refine ⟨?_, ?_, ?_, ?_, ?_, ?_, fun c hc => ?_, fun q hq => ?_⟩
  · rw [qset_o (by omega), upT_o (by omega)]; exact a0
  · rw [qset_o (by omega), upT_o (by omega)]; exact a1
  · rw [qset_o (by omega), upT_o (by omega)]; exact a2
  · rw [qset_o (by omega), upT_o (by omega)]; exact a3
  · rw [qset_o (by omega), upT_o (by omega)]; exact a4
  · rw [qset_o (by omega), upT_o (by omega)]; exact a5
  · unfold inT at hc
    rw [upT_o (by omega), upT_o (by omega)] at hc
    rw [qset_o (by omega), upT_o (by omega)]; exact ag c hc
  · rw [upT_o (by omega)] at hq
    obtain ⟨b2, b3, b4, b5, b6, b7⟩ := ap q hq
    refine ⟨?_, ?_, ?_, ?_, ?_, fun k hk => ?_⟩
    · rw [qset_o (by omega), upT_o (by omega)]; exact b2
    · by_cases hqp : q = p
      · subst hqp; rw [qset_s, upT_s]
      · rw [qset_k hqp, upT_o (by omega)]; exact b3
    · rw [qset_o (by omega), upT_o (by omega)]; exact b4
    · rw [qset_o (by omega), upT_o (by omega)]; exact b5
    · rw [qset_o (by omega), upT_o (by omega)]; exact b6
    · rw [qset_o (by omega), upT_o (by omega)]; exact b7 k hk
theorem qTw_face {μ : qMu} {t p v : Nat} {T : qT} (h : qTw μ t T) (h6 : T 115 ≤ 6) (hp : p < 6) : qTw (qset μ (t + 4) p (nI v)) t (upT T (7 + p) v) := by
  obtain ⟨a0, a1, a2, a3, a4, a5, ag, ap⟩ := h
  refine ⟨?_, ?_, ?_, ?_, ?_, ?_, fun c hc => ?_, fun q hq => ?_⟩
  · rw [qset_o (by omega), upT_o (by omega)]; exact a0
  · rw [qset_o (by omega), upT_o (by omega)]; exact a1
  · rw [qset_o (by omega), upT_o (by omega)]; exact a2
  · rw [qset_o (by omega), upT_o (by omega)]; exact a3
  · rw [qset_o (by omega), upT_o (by omega)]; exact a4
  · rw [qset_o (by omega), upT_o (by omega)]; exact a5
  · unfold inT at hc
    rw [upT_o (by omega), upT_o (by omega)] at hc
    rw [qset_o (by omega), upT_o (by omega)]; exact ag c hc
  · rw [upT_o (by omega)] at hq
    obtain ⟨b2, b3, b4, b5, b6, b7⟩ := ap q hq
    refine ⟨?_, ?_, ?_, ?_, ?_, fun k hk => ?_⟩
    · rw [qset_o (by omega), upT_o (by omega)]; exact b2
    · rw [qset_o (by omega), upT_o (by omega)]; exact b3
    · by_cases hqp : q = p
      · subst hqp; rw [qset_s, upT_s]
      · rw [qset_k hqp, upT_o (by omega)]; exact b4
    · rw [qset_o (by omega), upT_o (by omega)]; exact b5
    · rw [qset_o (by omega), upT_o (by omega)]; exact b6
    · rw [qset_o (by omega), upT_o (by omega)]; exact b7 k hk
theorem qTw_owes {μ : qMu} {t p v : Nat} {T : qT} (h : qTw μ t T) (h6 : T 115 ≤ 6) (hp : p < 6) : qTw (qset μ (t + 5) p (nI v)) t (upT T (13 + p) v) := by
  obtain ⟨a0, a1, a2, a3, a4, a5, ag, ap⟩ := h
  refine ⟨?_, ?_, ?_, ?_, ?_, ?_, fun c hc => ?_, fun q hq => ?_⟩
  · rw [qset_o (by omega), upT_o (by omega)]; exact a0
  · rw [qset_o (by omega), upT_o (by omega)]; exact a1
  · rw [qset_o (by omega), upT_o (by omega)]; exact a2
  · rw [qset_o (by omega), upT_o (by omega)]; exact a3
  · rw [qset_o (by omega), upT_o (by omega)]; exact a4
  · rw [qset_o (by omega), upT_o (by omega)]; exact a5
  · unfold inT at hc
    rw [upT_o (by omega), upT_o (by omega)] at hc
    rw [qset_o (by omega), upT_o (by omega)]; exact ag c hc
  · rw [upT_o (by omega)] at hq
    obtain ⟨b2, b3, b4, b5, b6, b7⟩ := ap q hq
    refine ⟨?_, ?_, ?_, ?_, ?_, fun k hk => ?_⟩
    · rw [qset_o (by omega), upT_o (by omega)]; exact b2
    · rw [qset_o (by omega), upT_o (by omega)]; exact b3
    · rw [qset_o (by omega), upT_o (by omega)]; exact b4
    · by_cases hqp : q = p
      · subst hqp; rw [qset_s, upT_s]
      · rw [qset_k hqp, upT_o (by omega)]; exact b5
    · rw [qset_o (by omega), upT_o (by omega)]; exact b6
    · rw [qset_o (by omega), upT_o (by omega)]; exact b7 k hk
theorem qTw_ent {μ : qMu} {t p v : Nat} {T : qT} (h : qTw μ t T) (h6 : T 115 ≤ 6) (hp : p < 6) : qTw (qset μ (t + 6) p (nI v)) t (upT T (19 + p) v) := by
  obtain ⟨a0, a1, a2, a3, a4, a5, ag, ap⟩ := h
  refine ⟨?_, ?_, ?_, ?_, ?_, ?_, fun c hc => ?_, fun q hq => ?_⟩
  · rw [qset_o (by omega), upT_o (by omega)]; exact a0
  · rw [qset_o (by omega), upT_o (by omega)]; exact a1
  · rw [qset_o (by omega), upT_o (by omega)]; exact a2
  · rw [qset_o (by omega), upT_o (by omega)]; exact a3
  · rw [qset_o (by omega), upT_o (by omega)]; exact a4
  · rw [qset_o (by omega), upT_o (by omega)]; exact a5
  · unfold inT at hc
    rw [upT_o (by omega), upT_o (by omega)] at hc
    rw [qset_o (by omega), upT_o (by omega)]; exact ag c hc
  · rw [upT_o (by omega)] at hq
    obtain ⟨b2, b3, b4, b5, b6, b7⟩ := ap q hq
    refine ⟨?_, ?_, ?_, ?_, ?_, fun k hk => ?_⟩
    · rw [qset_o (by omega), upT_o (by omega)]; exact b2
    · rw [qset_o (by omega), upT_o (by omega)]; exact b3
    · rw [qset_o (by omega), upT_o (by omega)]; exact b4
    · rw [qset_o (by omega), upT_o (by omega)]; exact b5
    · by_cases hqp : q = p
      · subst hqp; rw [qset_s, upT_s]
      · rw [qset_k hqp, upT_o (by omega)]; exact b6
    · rw [qset_o (by omega), upT_o (by omega)]; exact b7 k hk
theorem qTw_done {μ : qMu} {t p k0 v : Nat} {T : qT} (h : qTw μ t T) (h6 : T 115 ≤ 6) (hp : p < 6) (hk0 : k0 < 4) : qTw (qset μ (t + 7) (4 * p + k0) (nI v)) t (upT T (25 + 4 * p + k0) v) := by
  obtain ⟨a0, a1, a2, a3, a4, a5, ag, ap⟩ := h
  refine ⟨?_, ?_, ?_, ?_, ?_, ?_, fun c hc => ?_, fun q hq => ?_⟩
  · rw [qset_o (by omega), upT_o (by omega)]; exact a0
  · rw [qset_o (by omega), upT_o (by omega)]; exact a1
  · rw [qset_o (by omega), upT_o (by omega)]; exact a2
  · rw [qset_o (by omega), upT_o (by omega)]; exact a3
  · rw [qset_o (by omega), upT_o (by omega)]; exact a4
  · rw [qset_o (by omega), upT_o (by omega)]; exact a5
  · unfold inT at hc
    rw [upT_o (by omega), upT_o (by omega)] at hc
    rw [qset_o (by omega), upT_o (by omega)]; exact ag c hc
  · rw [upT_o (by omega)] at hq
    obtain ⟨b2, b3, b4, b5, b6, b7⟩ := ap q hq
    refine ⟨?_, ?_, ?_, ?_, ?_, fun k hk => ?_⟩
    · rw [qset_o (by omega), upT_o (by omega)]; exact b2
    · rw [qset_o (by omega), upT_o (by omega)]; exact b3
    · rw [qset_o (by omega), upT_o (by omega)]; exact b4
    · rw [qset_o (by omega), upT_o (by omega)]; exact b5
    · rw [qset_o (by omega), upT_o (by omega)]; exact b6
    · by_cases hqp : 4 * q + k = 4 * p + k0
      · rw [hqp, qset_s, show 25 + 4 * q + k = 25 + 4 * p + k0 by omega, upT_s]
      · rw [qset_k hqp, upT_o (by omega)]; exact b7 k hk
theorem qTw_ground {μ : qMu} {t x v : Nat} {T : qT} (h : qTw μ t T) (h6 : T 115 ≤ 6) (hx : x < 64) : qTw (qset μ (t + 1) x (nI v)) t (upT T (49 + x) v) := by
  obtain ⟨a0, a1, a2, a3, a4, a5, ag, ap⟩ := h
  refine ⟨?_, ?_, ?_, ?_, ?_, ?_, fun c hc => ?_, fun q hq => ?_⟩
  · rw [qset_o (by omega), upT_o (by omega)]; exact a0
  · rw [qset_o (by omega), upT_o (by omega)]; exact a1
  · rw [qset_o (by omega), upT_o (by omega)]; exact a2
  · rw [qset_o (by omega), upT_o (by omega)]; exact a3
  · rw [qset_o (by omega), upT_o (by omega)]; exact a4
  · rw [qset_o (by omega), upT_o (by omega)]; exact a5
  · unfold inT at hc
    rw [upT_o (by omega), upT_o (by omega)] at hc
    by_cases hcx : c = x
    · subst hcx; rw [qset_s, upT_s]
    · rw [qset_k hcx, upT_o (by omega)]; exact ag c hc
  · rw [upT_o (by omega)] at hq
    obtain ⟨b2, b3, b4, b5, b6, b7⟩ := ap q hq
    refine ⟨?_, ?_, ?_, ?_, ?_, fun k hk => ?_⟩
    · rw [qset_o (by omega), upT_o (by omega)]; exact b2
    · rw [qset_o (by omega), upT_o (by omega)]; exact b3
    · rw [qset_o (by omega), upT_o (by omega)]; exact b4
    · rw [qset_o (by omega), upT_o (by omega)]; exact b5
    · rw [qset_o (by omega), upT_o (by omega)]; exact b6
    · rw [qset_o (by omega), upT_o (by omega)]; exact b7 k hk
theorem qTw_noon {μ : qMu} {t v : Nat} {T : qT} (h : qTw μ t T) (h6 : T 115 ≤ 6) (h8 : T 114 ≤ 8) : qTw (qset μ t 3 (nI v)) t (upT T 0 v) := by
  obtain ⟨a0, a1, a2, a3, a4, a5, ag, ap⟩ := h
  refine ⟨?_, ?_, ?_, ?_, ?_, ?_, fun c hc => ?_, fun q hq => ?_⟩
  · rw [qset_k (by decide), upT_o (by decide)]; exact a0
  · rw [qset_k (by decide), upT_o (by decide)]; exact a1
  · rw [qset_k (by decide), upT_o (by decide)]; exact a2
  · rw [qset_s, upT_s]
  · rw [qset_k (by decide), upT_o (by decide)]; exact a4
  · rw [qset_k (by decide), upT_o (by decide)]; exact a5
  · unfold inT at hc
    rw [upT_o (by decide), upT_o (by decide)] at hc
    rw [qset_o (by omega), upT_o (by omega)]; exact ag c hc
  · rw [upT_o (by decide)] at hq
    obtain ⟨b2, b3, b4, b5, b6, b7⟩ := ap q hq
    refine ⟨?_, ?_, ?_, ?_, ?_, fun k hk => ?_⟩
    · rw [qset_o (by omega), upT_o (by omega)]; exact b2
    · rw [qset_o (by omega), upT_o (by omega)]; exact b3
    · rw [qset_o (by omega), upT_o (by omega)]; exact b4
    · rw [qset_o (by omega), upT_o (by omega)]; exact b5
    · rw [qset_o (by omega), upT_o (by omega)]; exact b6
    · rw [qset_o (by omega), upT_o (by omega)]; exact b7 k hk
theorem qTw_court {μ : qMu} {t v : Nat} {T : qT} (h : qTw μ t T) (h6 : T 115 ≤ 6) (h8 : T 114 ≤ 8) : qTw (qset μ t 4 (nI v)) t (upT T 116 v) := by
  obtain ⟨a0, a1, a2, a3, a4, a5, ag, ap⟩ := h
  refine ⟨?_, ?_, ?_, ?_, ?_, ?_, fun c hc => ?_, fun q hq => ?_⟩
  · rw [qset_k (by decide), upT_o (by decide)]; exact a0
  · rw [qset_k (by decide), upT_o (by decide)]; exact a1
  · rw [qset_k (by decide), upT_o (by decide)]; exact a2
  · rw [qset_k (by decide), upT_o (by decide)]; exact a3
  · rw [qset_s, upT_s]
  · rw [qset_k (by decide), upT_o (by decide)]; exact a5
  · unfold inT at hc
    rw [upT_o (by decide), upT_o (by decide)] at hc
    rw [qset_o (by omega), upT_o (by omega)]; exact ag c hc
  · rw [upT_o (by decide)] at hq
    obtain ⟨b2, b3, b4, b5, b6, b7⟩ := ap q hq
    refine ⟨?_, ?_, ?_, ?_, ?_, fun k hk => ?_⟩
    · rw [qset_o (by omega), upT_o (by omega)]; exact b2
    · rw [qset_o (by omega), upT_o (by omega)]; exact b3
    · rw [qset_o (by omega), upT_o (by omega)]; exact b4
    · rw [qset_o (by omega), upT_o (by omega)]; exact b5
    · rw [qset_o (by omega), upT_o (by omega)]; exact b6
    · rw [qset_o (by omega), upT_o (by omega)]; exact b7 k hk
theorem qTw_over {μ : qMu} {t v : Nat} {T : qT} (h : qTw μ t T) (h6 : T 115 ≤ 6) (h8 : T 114 ≤ 8) : qTw (qset μ t 5 (nI v)) t (upT T 117 v) := by
  obtain ⟨a0, a1, a2, a3, a4, a5, ag, ap⟩ := h
  refine ⟨?_, ?_, ?_, ?_, ?_, ?_, fun c hc => ?_, fun q hq => ?_⟩
  · rw [qset_k (by decide), upT_o (by decide)]; exact a0
  · rw [qset_k (by decide), upT_o (by decide)]; exact a1
  · rw [qset_k (by decide), upT_o (by decide)]; exact a2
  · rw [qset_k (by decide), upT_o (by decide)]; exact a3
  · rw [qset_k (by decide), upT_o (by decide)]; exact a4
  · rw [qset_s, upT_s]
  · unfold inT at hc
    rw [upT_o (by decide), upT_o (by decide)] at hc
    rw [qset_o (by omega), upT_o (by omega)]; exact ag c hc
  · rw [upT_o (by decide)] at hq
    obtain ⟨b2, b3, b4, b5, b6, b7⟩ := ap q hq
    refine ⟨?_, ?_, ?_, ?_, ?_, fun k hk => ?_⟩
    · rw [qset_o (by omega), upT_o (by omega)]; exact b2
    · rw [qset_o (by omega), upT_o (by omega)]; exact b3
    · rw [qset_o (by omega), upT_o (by omega)]; exact b4
    · rw [qset_o (by omega), upT_o (by omega)]; exact b5
    · rw [qset_o (by omega), upT_o (by omega)]; exact b6
    · rw [qset_o (by omega), upT_o (by omega)]; exact b7 k hk
