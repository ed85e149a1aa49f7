/-! the class's meet -/
theorem walk_len {T : qT} {kind way : Nat} : ∀ (n c l1 l2 : Nat), (walkF T kind way n c l1).1.length = (walkF T kind way n c l2).1.length → (walkF T kind way n c l1).1 = (walkF T kind way n c l2).1 := by
  intro n
  induction n with
  | zero => intro c l1 l2 h; rfl
  | succ n ih =>
    intro c l1 l2 h
    unfold walkF at h ⊢
    cases hb : besT T c way with
    | none => rfl
    | some x =>
      rw [hb] at h
      simp only at h ⊢
      by_cases h1 : canT T kind l1 x
      · by_cases h2 : canT T kind l2 x
        · rw [if_pos h1, if_pos h2] at h
          rw [if_pos h1, if_pos h2]
          simp only [List.length_cons] at h
          have := ih x (l1 - costT (T (49 + x))) (l2 - costT (T (49 + x))) (by omega)
          simp only [this]
        · rw [if_pos h1, if_neg h2] at h
          simp at h
      · by_cases h2 : canT T kind l2 x
        · rw [if_neg h1, if_pos h2] at h
          simp at h
        · rw [if_neg h1, if_neg h2]
def lenT (T : qT) (p side k : Nat) : Nat := (walkT T p (T (118 + p)) side (fineT k)).1.length
theorem step_len {T : qT} {p side k l : Nat} (h : lenT T p side k = lenT T p side l) : stepT T p side (fineT k) = stepT T p side (fineT l) := by
  have : (walkT T p (T (118 + p)) side (fineT k)).1 = (walkT T p (T (118 + p)) side (fineT l)).1 := walk_len _ _ _ _ h
  unfold stepT
  rw [this]
theorem step_0 {T : qT} {p side k : Nat} (h : lenT T p side k = 0) : stepT T p side (fineT k) = T := by
  have e : (walkT T p (T (118 + p)) side (fineT k)).1 = [] := List.length_eq_zero_iff.mp h
  unfold stepT
  rw [e]
  unfold midT
  rw [opnT_nil]
  exact upT_id rfl
theorem turn_sd {T : qT} {p s k : Nat} (hs : s < 4) (hk : k < 4) : turnT T p (4 * s + k) = stepT T p s (fineT k) := by
  unfold turnT
  rw [if_pos (by omega), show (4 * s + k) / 4 = s by omega, show (4 * s + k) % 4 = k by omega]
theorem step_court {T : qT} {p s owes : Nat} (h : T 116 = 1) : stepT T p s owes = stepT T p 0 owes := by
  unfold stepT walkT wayT
  rw [if_pos h, if_pos h]
def optP (near : Bool) (V : Nat → Nat) (m B : Nat) : Prop := (∃ ch, ch < 17 ∧ V ch = B) ∧ ∀ ch, ch < 17 → (ch = 16 ∨ ch < m) → (near = true → B ≤ V ch) ∧ (near = false → V ch ≤ B)
theorem opt_0 {near : Bool} {V : Nat → Nat} : optP near V 0 (V 16) := ⟨⟨16, by omega, rfl⟩, fun ch h1 h2 => by
  have : ch = 16 := by omega
  subst this
  exact ⟨fun _ => Nat.le_refl _, fun _ => Nat.le_refl _⟩⟩
theorem opt_min {V : Nat → Nat} {m B : Nat} (h : optP true V m B) (hm : m < 16) : optP true V (m + 1) (min B (V m)) := by
  obtain ⟨⟨c, hc, e⟩, h2⟩ := h
  refine ⟨?_, fun ch h3 h4 => ⟨fun _ => ?_, fun z => by cases z⟩⟩
  · by_cases hle : B ≤ V m
    · exact ⟨c, hc, by rw [Nat.min_eq_left hle]; exact e⟩
    · exact ⟨m, by omega, by rw [Nat.min_eq_right (by omega)]⟩
  · by_cases hcm : ch = m
    · subst hcm; exact Nat.min_le_right _ _
    · exact Nat.le_trans (Nat.min_le_left _ _) ((h2 ch h3 (by omega)).1 rfl)
theorem opt_max {V : Nat → Nat} {m B : Nat} (h : optP false V m B) (hm : m < 16) : optP false V (m + 1) (max B (V m)) := by
  obtain ⟨⟨c, hc, e⟩, h2⟩ := h
  refine ⟨?_, fun ch h3 h4 => ⟨fun z => (by cases z), fun _ => ?_⟩⟩
  · by_cases hle : V m ≤ B
    · exact ⟨c, hc, by rw [Nat.max_eq_left hle]; exact e⟩
    · exact ⟨m, by omega, by rw [Nat.max_eq_right (by omega)]⟩
  · by_cases hcm : ch = m
    · subst hcm; exact Nat.le_max_right _ _
    · exact Nat.le_trans ((h2 ch h3 (by omega)).2 rfl) (Nat.le_max_left _ _)
theorem opt_skip {near : Bool} {V : Nat → Nat} {m B c : Nat} (h : optP near V m B) (hc : c < 17) (hcm : c = 16 ∨ c < m) (e : V m = V c) : optP near V (m + 1) B := by
  obtain ⟨h1, h2⟩ := h
  refine ⟨h1, fun ch h3 h4 => ?_⟩
  by_cases hm : ch = m
  · subst hm; rw [e]; exact h2 c hc hcm
  · exact h2 ch h3 (by omega)
theorem opt_court {near : Bool} {V : Nat → Nat} {B : Nat} (h : optP near V 4 B) (hp : ∀ s k, s < 4 → k < 4 → V (4 * s + k) = V k) : optP near V 16 B := by
  obtain ⟨h1, h2⟩ := h
  refine ⟨h1, fun ch h3 h4 => ?_⟩
  by_cases hm : ch = 16
  · exact h2 ch h3 (Or.inl hm)
  · have e := hp (ch / 4) (ch % 4) (by omega) (by omega)
    rw [show 4 * (ch / 4) + ch % 4 = ch by omega] at e
    rw [e]
    exact h2 (ch % 4) (by omega) (by omega)
theorem opt_emin {V : Nat → Nat} {B : Nat} (h : optP true V 16 B) (hb : ∀ k, V k ≤ 99999) : B = mnF V 17 := by
  obtain ⟨⟨c, hc, e⟩, h2⟩ := h
  obtain ⟨m1, m2⟩ := mnF_min (f := V) 17 fun k _ => hb k
  obtain ⟨k, hk, e2⟩ := m2 (by omega)
  have a := m1 c hc
  have b := (h2 k hk (by omega)).1 rfl
  rw [e] at a
  rw [e2] at b
  omega
theorem opt_emax {V : Nat → Nat} {B : Nat} (h : optP false V 16 B) : B = mxF V 17 := by
  obtain ⟨⟨c, hc, e⟩, h2⟩ := h
  obtain ⟨m1, m2⟩ := mxF_max (f := V) 17
  obtain ⟨k, hk, e2⟩ := m2 (by omega)
  have a := m1 c hc
  have b := (h2 k hk (by omega)).2 rfl
  rw [e] at a
  rw [e2] at b
  omega
def pfr (turn : Nat) (μ μ' : qMu) : Prop := ∀ a, ¬ (35 + 8 * (turn + 1) ≤ a ∧ a ≤ 74) → ¬ a = 28 → ¬ a = 29 → μ' a = μ a
section
variable {d N : Nat} {σ : qSg} {μ : qMu} {la : qLa} {Q : qPost} {b : List Nat} {T : qT} {as : List qT} {im : Nat → qT} {sh : Nat → wSh} {x y z : Int32}
theorem pfr_tr {turn : Nat} {μ1 μ2 : qMu} (h : pfr turn μ μ1) (g : pfr turn μ1 μ2) : pfr turn μ μ2 := fun a h1 h2 h3 => (g a h1 h2 h3).trans (h a h1 h2 h3)
theorem pfr_dn {turn : Nat} {μ' : qMu} (h : pfr (turn + 1) μ μ') : pfr turn μ μ' := fun a h1 h2 h3 => h a (by omega) h2 h3
theorem pfr_ro {turn : Nat} {μ' : qMu} (h : qRo μ) (hf : pfr turn μ μ') : qRo μ' := qRo_fr h (hf _ (by omega) (by omega) (by omega)) (hf _ (by omega) (by omega) (by omega)) (hf _ (by omega) (by omega) (by omega))
theorem pfr_F {turn : Nat} {μ' : qMu} (hf : pfr turn μ μ') : nFr μ μ' := fun a h1 h2 h3 => hf a (by omega) (by omega) (by omega)
theorem nTp (hB : qBN σ) {k : Nat} (hk : k < 5) : qTown σ (35 + 8 * k) := nTown hB (Or.inr (Or.inr (Or.inr (Or.inl ⟨k, hk, rfl⟩))))
theorem n_play_deed {near : Bool} {turn mv nb : Nat} {turns one other : Nat} {looks : Nat} {V : Nat → Nat} (hB : qBN σ) (hwf : wfT N T) (ht4 : turn < 4) (htn : turns ≤ 4) (h16 : one < 6 ∧ other < 6) (hmv : mv < T 115) (hnb : nb = if near then 1 else 0) (hlk : looks ≤ 4)
    (hrec : ∀ (ch : Nat) (μ : qMu) (Q' : qPost), ch < 17 → qRo μ → qTw μ (35 + 8 * (turn + 1)) (turnT T mv ch) → (∀ μ' : qMu, pfr (turn + 1) μ μ' → Q' (some (.int (nI (V ch)))) σ μ' la) → qEx (d + 2) 29 0 [] [.ref 11, .int (nI (turn + 1)), .int (nI turns), .int (nI one), .int (nI other), .retAddr 0, .retAddr 0, .retAddr 0, .retAddr 0, .retAddr 0, .retAddr 0, .retAddr 0, .retAddr 0, .retAddr 0, .retAddr 0, .retAddr 0] σ μ la Q') (hVb : ∀ k, V k ≤ 99999)
    (hV : ∀ c e, turnT T mv c = turnT T mv e → V c = V e) :
    ∀ (n k side gone B : Nat) (μ : qMu) (l14 : Value), k + n = 4 → side < 4 → qRo μ → qTw μ (35 + 8 * turn) T → optP near V (4 * side + k) B → (gone = 0 ∨ ∃ e, e < k ∧ lenT T mv side e = gone) → gone ≤ 7 → B ≤ 99999 →
    (∀ (μ' : qMu) (B' : Nat) (l12 l14 : Value), pfr turn μ μ' → optP near V (4 * (side + 1)) B' → B' ≤ 99999 → qEx (d + 3) 29 120 [] [.ref 11, .int (nI turn), .int (nI turns), .int (nI one), .int (nI other), .ref (35 + 8 * turn), .ref (35 + 8 * (turn + 1)), .ref 28, .int (nI nb), .int (nI mv), .int (nI B'), .int (nI looks), .int (nI (side + 1)), l12, .int (nI 4), l14] σ μ' la Q) →
    qEx (d + 3) 29 133 [] [.ref 11, .int (nI turn), .int (nI turns), .int (nI one), .int (nI other), .ref (35 + 8 * turn), .ref (35 + 8 * (turn + 1)), .ref 28, .int (nI nb), .int (nI mv), .int (nI B), .int (nI looks), .int (nI side), .int (nI gone), .int (nI k), l14] σ μ la Q := by
  obtain ⟨k0, k1, k11, k12, k20, k75, k28, k295, k3⟩ := nOk hB
  have rS := hB.2.2.2.1
  have h6 := hwf.1
  have hT := nTp hB (k := turn) (by omega)
  have hT1 := nTp hB (k := turn + 1) (by omega)
  have ok0 := qtOk hT
  have ok1 := qtOk hT1
  have R := (qtR hT).2.1
  obtain ⟨⟨q1, q5⟩, hin, -, -, -⟩ := hwf.2.2.2.2.2.2.2.1 mv hmv
  intro n
  induction n with
  | zero =>
    intro k side gone B μ l14 hkn hs hro hw hop hgo hg7 hB9 hQ
    have : k = 4 := by omega
    subst this
    rw [x29_133]
    simp (disch := omega) only [x29_135, x29_136, x29_243, x29_246, ↓nm_1, ↓nm_2, ↓nm_3, ↓nm_4, ↓nm_11, ↓nm_12, ↓nm_13, ↓nm_14, ↓nm_100, nl_0, nl_1, nl_2, nl_3, nl_4, nl_5, nl_6, nl_7, nl_8, nl_9, nl_10, nl_11, nl_12, nl_13, nl_14, nl_15, nl_16, nl_17, nl_18, nl_19, nl_20, nl_22, nl_23, nl_24, nl_25, nl_30, nl_31, nl_34, nl_35, nl_40, nl_43, nl_46, nl_47, nl_48, nl_49, nl_50, nl_57, nl_58, nl_59, nl_63, nl_64, nl_94, nl_97, nl_98, nl_99, nl_100, nl_101, nl_102, nl_105, nl_108, nl_110, nl_111, nl_112, nl_113, nl_114, nl_115, nl_116, nl_117, nl_118, nl_119, nl_124, nl_126, nl_138, nl_140, nl_255, nl_720, nl_1024, nl_9999, nl_99999, nl_999999, nl_1000000, eq_self, Bool.false_eq_true, Bool.true_and, Bool.and_true, Bool.false_and, Bool.and_false, Bool.not_true, Bool.not_false, nI_toInt, or_true, true_or, or_false, false_or, nI_clamp, nI_leI, nI_ltI, nI_eq, e_nm, e_mn, e_mm, l_nm, l_mn, l_mm, le_nm, le_mn, le_mm, nI_add, nI_mull, nI_sub, nI_subn, nI_divl, nsm, qIn_nI, Nat.zero_le, Nat.not_lt_zero, Nat.reduceAdd, Nat.reduceMul, Nat.reduceSub, Nat.reduceDiv, Nat.reduceMod, Nat.reduceEqDiff, Nat.reduceLeDiff, Nat.reduceLT, Nat.add_zero, Nat.zero_add, not_false_eq_true, not_true_eq_false, true_and, and_true, Option.toList_some, Option.toList_none, List.cons_append, List.nil_append, qrf, if_true, if_false, if_pos, if_neg, reduceIte, ne_eq, Classical.not_not]
    exact hQ μ B _ _ (fun _ _ _ _ => rfl) (by rw [show 4 * (side + 1) = 4 * side + 4 by omega]; exact hop) hB9
  | succ n ih =>
    intro k side gone B μ l14 hkn hs hro hw hop hgo hg7 hB9 hQ
    have I := (qtI (μ := μ) hT).2.1
    have b2 := (hw.2.2.2.2.2.2.2 mv hmv).1
    have hfi : fineT k ≤ 99 := by unfold fineT; repeat' split
                                  all_goals omega
    have ek : turnT T mv (4 * side + k) = stepT T mv side (fineT k) := turn_sd hs (by omega)
    rw [x29_133]
    simp (disch := omega) only [x29_135, x29_136, x29_139, x29_141, x29_143, x29_145, x29_147, x29_150, x29_152, x29_153, x29_155, x29_158, x29_160, x29_161, k11, k28, ok0, rS.2.2.1, R, I, b2, qIld0.2.1, ro_fine hro (show k < 4 by omega), ↓nm_1, ↓nm_2, ↓nm_3, ↓nm_4, ↓nm_11, ↓nm_12, ↓nm_13, ↓nm_14, ↓nm_100, nl_0, nl_1, nl_2, nl_3, nl_4, nl_5, nl_6, nl_7, nl_8, nl_9, nl_10, nl_11, nl_12, nl_13, nl_14, nl_15, nl_16, nl_17, nl_18, nl_19, nl_20, nl_22, nl_23, nl_24, nl_25, nl_30, nl_31, nl_34, nl_35, nl_40, nl_43, nl_46, nl_47, nl_48, nl_49, nl_50, nl_57, nl_58, nl_59, nl_63, nl_64, nl_94, nl_97, nl_98, nl_99, nl_100, nl_101, nl_102, nl_105, nl_108, nl_110, nl_111, nl_112, nl_113, nl_114, nl_115, nl_116, nl_117, nl_118, nl_119, nl_124, nl_126, nl_138, nl_140, nl_255, nl_720, nl_1024, nl_9999, nl_99999, nl_999999, nl_1000000, eq_self, Bool.false_eq_true, Bool.true_and, Bool.and_true, Bool.false_and, Bool.and_false, Bool.not_true, Bool.not_false, nI_toInt, or_true, true_or, or_false, false_or, nI_clamp, nI_leI, nI_ltI, nI_eq, e_nm, e_mn, e_mm, l_nm, l_mn, l_mm, le_nm, le_mn, le_mm, nI_add, nI_mull, nI_sub, nI_subn, nI_divl, nsm, qIn_nI, Nat.zero_le, Nat.not_lt_zero, Nat.reduceAdd, Nat.reduceMul, Nat.reduceSub, Nat.reduceDiv, Nat.reduceMod, Nat.reduceEqDiff, Nat.reduceLeDiff, Nat.reduceLT, Nat.add_zero, Nat.zero_add, not_false_eq_true, not_true_eq_false, true_and, and_true, Option.toList_some, Option.toList_none, List.cons_append, List.nil_append, qrf, if_true, if_false, if_pos, if_neg, reduceIte, ne_eq, Classical.not_not]
    refine c_trace hT (nWalk hB).1 (by omega) (by omega) hwf hmv q1 q5 hs hfi hw hro fun μ1 hf1 hk1 => ?_
    have hp1 : pfr turn μ μ1 := fun a _ h2 h3 => hf1 a h2 (by omega)
    have hro1 := pfr_ro hro hp1
    have hw1 : qTw μ1 (35 + 8 * turn) T := qTw_frame hw fun a g1 g2 => hp1 a (by omega) (by omega) (by omega)
    have e1 : μ1 28 1 = nI (lenT T mv side k) := hk1.1
    obtain ⟨w64, w7⟩ := walkT_ok (kind := T (118 + mv)) (side := side) (owes := fineT k) hwf hmv
    have hl7 : lenT T mv side k ≤ 7 := w7
    by_cases hg : lenT T mv side k = gone
    · simp (disch := omega) only [x29_164, x29_166, x29_169, x29_171, x29_174, x29_237, x29_240, k11, k28, rS.2.2.1, e1, hg, ↓nm_1, ↓nm_2, ↓nm_3, ↓nm_4, ↓nm_11, ↓nm_12, ↓nm_13, ↓nm_14, ↓nm_100, nl_0, nl_1, nl_2, nl_3, nl_4, nl_5, nl_6, nl_7, nl_8, nl_9, nl_10, nl_11, nl_12, nl_13, nl_14, nl_15, nl_16, nl_17, nl_18, nl_19, nl_20, nl_22, nl_23, nl_24, nl_25, nl_30, nl_31, nl_34, nl_35, nl_40, nl_43, nl_46, nl_47, nl_48, nl_49, nl_50, nl_57, nl_58, nl_59, nl_63, nl_64, nl_94, nl_97, nl_98, nl_99, nl_100, nl_101, nl_102, nl_105, nl_108, nl_110, nl_111, nl_112, nl_113, nl_114, nl_115, nl_116, nl_117, nl_118, nl_119, nl_124, nl_126, nl_138, nl_140, nl_255, nl_720, nl_1024, nl_9999, nl_99999, nl_999999, nl_1000000, eq_self, Bool.false_eq_true, Bool.true_and, Bool.and_true, Bool.false_and, Bool.and_false, Bool.not_true, Bool.not_false, nI_toInt, or_true, true_or, or_false, false_or, nI_clamp, nI_leI, nI_ltI, nI_eq, e_nm, e_mn, e_mm, l_nm, l_mn, l_mm, le_nm, le_mn, le_mm, nI_add, nI_mull, nI_sub, nI_subn, nI_divl, nsm, qIn_nI, Nat.zero_le, Nat.not_lt_zero, Nat.reduceAdd, Nat.reduceMul, Nat.reduceSub, Nat.reduceDiv, Nat.reduceMod, Nat.reduceEqDiff, Nat.reduceLeDiff, Nat.reduceLT, Nat.add_zero, Nat.zero_add, not_false_eq_true, not_true_eq_false, true_and, and_true, Option.toList_some, Option.toList_none, List.cons_append, List.nil_append, qrf, if_true, if_false, if_pos, if_neg, reduceIte, ne_eq, Classical.not_not]
      refine ih (k + 1) side gone B μ1 l14 (by omega) hs hro1 hw1 ?_ (hgo.imp id fun ⟨e, h1, h2⟩ => ⟨e, by omega, h2⟩) hg7 hB9 fun μ' B' l12 l14 hf ho hb => hQ μ' B' l12 l14 (pfr_tr hp1 hf) ho hb
      rw [show 4 * side + (k + 1) = 4 * side + k + 1 by omega]
      rcases hgo with h0 | ⟨e, he, hl⟩
      · refine opt_skip (c := 16) hop (by omega) (Or.inl rfl) (hV _ _ ?_)
        rw [ek, step_0 (hg.trans h0)]
        unfold turnT
        rw [if_neg (by omega)]
      · refine opt_skip (c := 4 * side + e) hop (by omega) (Or.inr (by omega)) (hV _ _ ?_)
        rw [ek, turn_sd hs (by omega)]
        exact step_len (hg.trans hl.symm)
    · simp (disch := omega) only [x29_164, x29_166, x29_169, x29_171, x29_177, x29_179, x29_182, x29_184, x29_186, x29_188, k11, k28, ok1, rS.2.2.1, e1, ↓nm_1, ↓nm_2, ↓nm_3, ↓nm_4, ↓nm_11, ↓nm_12, ↓nm_13, ↓nm_14, ↓nm_100, nl_0, nl_1, nl_2, nl_3, nl_4, nl_5, nl_6, nl_7, nl_8, nl_9, nl_10, nl_11, nl_12, nl_13, nl_14, nl_15, nl_16, nl_17, nl_18, nl_19, nl_20, nl_22, nl_23, nl_24, nl_25, nl_30, nl_31, nl_34, nl_35, nl_40, nl_43, nl_46, nl_47, nl_48, nl_49, nl_50, nl_57, nl_58, nl_59, nl_63, nl_64, nl_94, nl_97, nl_98, nl_99, nl_100, nl_101, nl_102, nl_105, nl_108, nl_110, nl_111, nl_112, nl_113, nl_114, nl_115, nl_116, nl_117, nl_118, nl_119, nl_124, nl_126, nl_138, nl_140, nl_255, nl_720, nl_1024, nl_9999, nl_99999, nl_999999, nl_1000000, eq_self, Bool.false_eq_true, Bool.true_and, Bool.and_true, Bool.false_and, Bool.and_false, Bool.not_true, Bool.not_false, nI_toInt, or_true, true_or, or_false, false_or, nI_clamp, nI_leI, nI_ltI, nI_eq, e_nm, e_mn, e_mm, l_nm, l_mn, l_mm, le_nm, le_mn, le_mm, nI_add, nI_mull, nI_sub, nI_subn, nI_divl, nsm, qIn_nI, Nat.zero_le, Nat.not_lt_zero, Nat.reduceAdd, Nat.reduceMul, Nat.reduceSub, Nat.reduceDiv, Nat.reduceMod, Nat.reduceEqDiff, Nat.reduceLeDiff, Nat.reduceLT, Nat.add_zero, Nat.zero_add, not_false_eq_true, not_true_eq_false, true_and, and_true, Option.toList_some, Option.toList_none, List.cons_append, List.nil_append, qrf, if_true, if_false, if_pos, if_neg, reduceIte, ne_eq, Classical.not_not]
      refine c_become hT1 hT (by omega) hwf hw1 fun μ2 hf2 hw2 => ?_
      have hk2 : qWk μ2 28 (T (1 + mv)) (wayT T (T (118 + mv)) side) (walkT T mv (T (118 + mv)) side (fineT k)) := qWk_fr hk1 (hf2 28 (by omega)) (hf2 29 (by omega))
      simp (disch := omega) only [x29_191, x29_193, x29_195, x29_197, k11, ok1, rS.2.2.1, ↓nm_1, ↓nm_2, ↓nm_3, ↓nm_4, ↓nm_11, ↓nm_12, ↓nm_13, ↓nm_14, ↓nm_100, nl_0, nl_1, nl_2, nl_3, nl_4, nl_5, nl_6, nl_7, nl_8, nl_9, nl_10, nl_11, nl_12, nl_13, nl_14, nl_15, nl_16, nl_17, nl_18, nl_19, nl_20, nl_22, nl_23, nl_24, nl_25, nl_30, nl_31, nl_34, nl_35, nl_40, nl_43, nl_46, nl_47, nl_48, nl_49, nl_50, nl_57, nl_58, nl_59, nl_63, nl_64, nl_94, nl_97, nl_98, nl_99, nl_100, nl_101, nl_102, nl_105, nl_108, nl_110, nl_111, nl_112, nl_113, nl_114, nl_115, nl_116, nl_117, nl_118, nl_119, nl_124, nl_126, nl_138, nl_140, nl_255, nl_720, nl_1024, nl_9999, nl_99999, nl_999999, nl_1000000, eq_self, Bool.false_eq_true, Bool.true_and, Bool.and_true, Bool.false_and, Bool.and_false, Bool.not_true, Bool.not_false, nI_toInt, or_true, true_or, or_false, false_or, nI_clamp, nI_leI, nI_ltI, nI_eq, e_nm, e_mn, e_mm, l_nm, l_mn, l_mm, le_nm, le_mn, le_mm, nI_add, nI_mull, nI_sub, nI_subn, nI_divl, nsm, qIn_nI, Nat.zero_le, Nat.not_lt_zero, Nat.reduceAdd, Nat.reduceMul, Nat.reduceSub, Nat.reduceDiv, Nat.reduceMod, Nat.reduceEqDiff, Nat.reduceLeDiff, Nat.reduceLT, Nat.add_zero, Nat.zero_add, not_false_eq_true, not_true_eq_false, true_and, and_true, Option.toList_some, Option.toList_none, List.cons_append, List.nil_append, qrf, if_true, if_false, if_pos, if_neg, reduceIte, ne_eq, Classical.not_not]
      obtain ⟨p1, p2, p3⟩ := walkF_ok (kind := T (118 + mv)) (way := wayT T (T (118 + mv)) side) hwf 8 (T (1 + mv)) (pacesT (T (118 + mv)) (fineT k)) hin
      refine c_follow hT1 (nWalk hB).1 (by omega) (by omega) hwf p3 (fun x hx => (p1 x hx).1) hw2 hk2 fun μ3 hf3 hw3 => ?_
      have hp3 : pfr turn μ μ3 := fun a g1 g2 g3 => by rw [hf3 a (by omega) (by omega), hf2 a (by omega)]; exact hp1 a g1 g2 g3
      have hro3 := pfr_ro hro hp3
      have hw3' : qTw μ3 (35 + 8 * (turn + 1)) (turnT T mv (4 * side + k)) := by rw [ek]; exact hw3
      simp (disch := omega) only [x29_200, x29_201, x29_202, x29_203, x29_204, x29_205, x29_206, x29_208, k11, ↓nm_1, ↓nm_2, ↓nm_3, ↓nm_4, ↓nm_11, ↓nm_12, ↓nm_13, ↓nm_14, ↓nm_100, nl_0, nl_1, nl_2, nl_3, nl_4, nl_5, nl_6, nl_7, nl_8, nl_9, nl_10, nl_11, nl_12, nl_13, nl_14, nl_15, nl_16, nl_17, nl_18, nl_19, nl_20, nl_22, nl_23, nl_24, nl_25, nl_30, nl_31, nl_34, nl_35, nl_40, nl_43, nl_46, nl_47, nl_48, nl_49, nl_50, nl_57, nl_58, nl_59, nl_63, nl_64, nl_94, nl_97, nl_98, nl_99, nl_100, nl_101, nl_102, nl_105, nl_108, nl_110, nl_111, nl_112, nl_113, nl_114, nl_115, nl_116, nl_117, nl_118, nl_119, nl_124, nl_126, nl_138, nl_140, nl_255, nl_720, nl_1024, nl_9999, nl_99999, nl_999999, nl_1000000, eq_self, Bool.false_eq_true, Bool.true_and, Bool.and_true, Bool.false_and, Bool.and_false, Bool.not_true, Bool.not_false, nI_toInt, or_true, true_or, or_false, false_or, nI_clamp, nI_leI, nI_ltI, nI_eq, e_nm, e_mn, e_mm, l_nm, l_mn, l_mm, le_nm, le_mn, le_mm, nI_add, nI_mull, nI_sub, nI_subn, nI_divl, nsm, qIn_nI, Nat.zero_le, Nat.not_lt_zero, Nat.reduceAdd, Nat.reduceMul, Nat.reduceSub, Nat.reduceDiv, Nat.reduceMod, Nat.reduceEqDiff, Nat.reduceLeDiff, Nat.reduceLT, Nat.add_zero, Nat.zero_add, not_false_eq_true, not_true_eq_false, true_and, and_true, Option.toList_some, Option.toList_none, List.cons_append, List.nil_append, qrf, if_true, if_false, if_pos, if_neg, reduceIte, ne_eq, Classical.not_not]
      refine hrec (4 * side + k) μ3 _ (by omega) hro3 hw3' fun μ4 hf4 => ?_
      have hp4 : pfr turn μ μ4 := pfr_tr hp3 (pfr_dn hf4)
      have hw4 : qTw μ4 (35 + 8 * turn) T := qTw_frame hw fun a g1 g2 => hp4 a (by omega) (by omega) (by omega)
      have hv := hVb (4 * side + k)
      have next : ∀ B', optP near V (4 * side + k + 1) B' → B' ≤ 99999 → ∀ l14 : Value, qEx (d + 3) 29 133 [] [.ref 11, .int (nI turn), .int (nI turns), .int (nI one), .int (nI other), .ref (35 + 8 * turn), .ref (35 + 8 * (turn + 1)), .ref 28, .int (nI nb), .int (nI mv), .int (nI B'), .int (nI looks), .int (nI side), .int (nI (lenT T mv side k)), .int (nI (k + 1)), l14] σ μ4 la Q := fun B' ho hb l14 =>
        ih (k + 1) side (lenT T mv side k) B' μ4 l14 (by omega) hs (pfr_ro hro hp4) hw4 (by rw [show 4 * side + (k + 1) = 4 * side + k + 1 by omega]; exact ho) (Or.inr ⟨k, by omega, rfl⟩) hl7 hb fun μ' B' l12 l14 hf ho hb => hQ μ' B' l12 l14 (pfr_tr hp4 hf) ho hb
      cases near with
      | true =>
        have : nb = 1 := by simpa using hnb
        subst this
        have hst := opt_min hop (by omega)
        generalize V (4 * side + k) = v at hv hst ⊢
        by_cases hlt : v < B
        · rw [Nat.min_eq_right (by omega)] at hst
          simp (disch := omega) only [x29_211, x29_213, x29_215, x29_218, x29_220, x29_222, x29_225, x29_235, x29_237, x29_240, ↓nm_1, ↓nm_2, ↓nm_3, ↓nm_4, ↓nm_11, ↓nm_12, ↓nm_13, ↓nm_14, ↓nm_100, nl_0, nl_1, nl_2, nl_3, nl_4, nl_5, nl_6, nl_7, nl_8, nl_9, nl_10, nl_11, nl_12, nl_13, nl_14, nl_15, nl_16, nl_17, nl_18, nl_19, nl_20, nl_22, nl_23, nl_24, nl_25, nl_30, nl_31, nl_34, nl_35, nl_40, nl_43, nl_46, nl_47, nl_48, nl_49, nl_50, nl_57, nl_58, nl_59, nl_63, nl_64, nl_94, nl_97, nl_98, nl_99, nl_100, nl_101, nl_102, nl_105, nl_108, nl_110, nl_111, nl_112, nl_113, nl_114, nl_115, nl_116, nl_117, nl_118, nl_119, nl_124, nl_126, nl_138, nl_140, nl_255, nl_720, nl_1024, nl_9999, nl_99999, nl_999999, nl_1000000, eq_self, Bool.false_eq_true, Bool.true_and, Bool.and_true, Bool.false_and, Bool.and_false, Bool.not_true, Bool.not_false, nI_toInt, or_true, true_or, or_false, false_or, nI_clamp, nI_leI, nI_ltI, nI_eq, e_nm, e_mn, e_mm, l_nm, l_mn, l_mm, le_nm, le_mn, le_mm, nI_add, nI_mull, nI_sub, nI_subn, nI_divl, nsm, qIn_nI, Nat.zero_le, Nat.not_lt_zero, Nat.reduceAdd, Nat.reduceMul, Nat.reduceSub, Nat.reduceDiv, Nat.reduceMod, Nat.reduceEqDiff, Nat.reduceLeDiff, Nat.reduceLT, Nat.add_zero, Nat.zero_add, not_false_eq_true, not_true_eq_false, true_and, and_true, Option.toList_some, Option.toList_none, List.cons_append, List.nil_append, qrf, if_true, if_false, if_pos, if_neg, reduceIte, ne_eq, Classical.not_not]
          exact next v hst hv _
        · rw [Nat.min_eq_left (by omega)] at hst
          simp (disch := omega) only [x29_211, x29_213, x29_215, x29_218, x29_220, x29_222, x29_225, x29_235, x29_237, x29_240, ↓nm_1, ↓nm_2, ↓nm_3, ↓nm_4, ↓nm_11, ↓nm_12, ↓nm_13, ↓nm_14, ↓nm_100, nl_0, nl_1, nl_2, nl_3, nl_4, nl_5, nl_6, nl_7, nl_8, nl_9, nl_10, nl_11, nl_12, nl_13, nl_14, nl_15, nl_16, nl_17, nl_18, nl_19, nl_20, nl_22, nl_23, nl_24, nl_25, nl_30, nl_31, nl_34, nl_35, nl_40, nl_43, nl_46, nl_47, nl_48, nl_49, nl_50, nl_57, nl_58, nl_59, nl_63, nl_64, nl_94, nl_97, nl_98, nl_99, nl_100, nl_101, nl_102, nl_105, nl_108, nl_110, nl_111, nl_112, nl_113, nl_114, nl_115, nl_116, nl_117, nl_118, nl_119, nl_124, nl_126, nl_138, nl_140, nl_255, nl_720, nl_1024, nl_9999, nl_99999, nl_999999, nl_1000000, eq_self, Bool.false_eq_true, Bool.true_and, Bool.and_true, Bool.false_and, Bool.and_false, Bool.not_true, Bool.not_false, nI_toInt, or_true, true_or, or_false, false_or, nI_clamp, nI_leI, nI_ltI, nI_eq, e_nm, e_mn, e_mm, l_nm, l_mn, l_mm, le_nm, le_mn, le_mm, nI_add, nI_mull, nI_sub, nI_subn, nI_divl, nsm, qIn_nI, Nat.zero_le, Nat.not_lt_zero, Nat.reduceAdd, Nat.reduceMul, Nat.reduceSub, Nat.reduceDiv, Nat.reduceMod, Nat.reduceEqDiff, Nat.reduceLeDiff, Nat.reduceLT, Nat.add_zero, Nat.zero_add, not_false_eq_true, not_true_eq_false, true_and, and_true, Option.toList_some, Option.toList_none, List.cons_append, List.nil_append, qrf, if_true, if_false, if_pos, if_neg, reduceIte, ne_eq, Classical.not_not]
          exact next B hst hB9 _
      | false =>
        have : nb = 0 := by simpa using hnb
        subst this
        have hst := opt_max hop (by omega)
        generalize V (4 * side + k) = v at hv hst ⊢
        by_cases hlt : B < v
        · rw [Nat.max_eq_right (by omega)] at hst
          simp (disch := omega) only [x29_211, x29_213, x29_215, x29_228, x29_230, x29_232, x29_235, x29_237, x29_240, ↓nm_1, ↓nm_2, ↓nm_3, ↓nm_4, ↓nm_11, ↓nm_12, ↓nm_13, ↓nm_14, ↓nm_100, nl_0, nl_1, nl_2, nl_3, nl_4, nl_5, nl_6, nl_7, nl_8, nl_9, nl_10, nl_11, nl_12, nl_13, nl_14, nl_15, nl_16, nl_17, nl_18, nl_19, nl_20, nl_22, nl_23, nl_24, nl_25, nl_30, nl_31, nl_34, nl_35, nl_40, nl_43, nl_46, nl_47, nl_48, nl_49, nl_50, nl_57, nl_58, nl_59, nl_63, nl_64, nl_94, nl_97, nl_98, nl_99, nl_100, nl_101, nl_102, nl_105, nl_108, nl_110, nl_111, nl_112, nl_113, nl_114, nl_115, nl_116, nl_117, nl_118, nl_119, nl_124, nl_126, nl_138, nl_140, nl_255, nl_720, nl_1024, nl_9999, nl_99999, nl_999999, nl_1000000, eq_self, Bool.false_eq_true, Bool.true_and, Bool.and_true, Bool.false_and, Bool.and_false, Bool.not_true, Bool.not_false, nI_toInt, or_true, true_or, or_false, false_or, nI_clamp, nI_leI, nI_ltI, nI_eq, e_nm, e_mn, e_mm, l_nm, l_mn, l_mm, le_nm, le_mn, le_mm, nI_add, nI_mull, nI_sub, nI_subn, nI_divl, nsm, qIn_nI, Nat.zero_le, Nat.not_lt_zero, Nat.reduceAdd, Nat.reduceMul, Nat.reduceSub, Nat.reduceDiv, Nat.reduceMod, Nat.reduceEqDiff, Nat.reduceLeDiff, Nat.reduceLT, Nat.add_zero, Nat.zero_add, not_false_eq_true, not_true_eq_false, true_and, and_true, Option.toList_some, Option.toList_none, List.cons_append, List.nil_append, qrf, if_true, if_false, if_pos, if_neg, reduceIte, ne_eq, Classical.not_not]
          exact next v hst hv _
        · rw [Nat.max_eq_left (by omega)] at hst
          simp (disch := omega) only [x29_211, x29_213, x29_215, x29_228, x29_230, x29_232, x29_235, x29_237, x29_240, ↓nm_1, ↓nm_2, ↓nm_3, ↓nm_4, ↓nm_11, ↓nm_12, ↓nm_13, ↓nm_14, ↓nm_100, nl_0, nl_1, nl_2, nl_3, nl_4, nl_5, nl_6, nl_7, nl_8, nl_9, nl_10, nl_11, nl_12, nl_13, nl_14, nl_15, nl_16, nl_17, nl_18, nl_19, nl_20, nl_22, nl_23, nl_24, nl_25, nl_30, nl_31, nl_34, nl_35, nl_40, nl_43, nl_46, nl_47, nl_48, nl_49, nl_50, nl_57, nl_58, nl_59, nl_63, nl_64, nl_94, nl_97, nl_98, nl_99, nl_100, nl_101, nl_102, nl_105, nl_108, nl_110, nl_111, nl_112, nl_113, nl_114, nl_115, nl_116, nl_117, nl_118, nl_119, nl_124, nl_126, nl_138, nl_140, nl_255, nl_720, nl_1024, nl_9999, nl_99999, nl_999999, nl_1000000, eq_self, Bool.false_eq_true, Bool.true_and, Bool.and_true, Bool.false_and, Bool.and_false, Bool.not_true, Bool.not_false, nI_toInt, or_true, true_or, or_false, false_or, nI_clamp, nI_leI, nI_ltI, nI_eq, e_nm, e_mn, e_mm, l_nm, l_mn, l_mm, le_nm, le_mn, le_mm, nI_add, nI_mull, nI_sub, nI_subn, nI_divl, nsm, qIn_nI, Nat.zero_le, Nat.not_lt_zero, Nat.reduceAdd, Nat.reduceMul, Nat.reduceSub, Nat.reduceDiv, Nat.reduceMod, Nat.reduceEqDiff, Nat.reduceLeDiff, Nat.reduceLT, Nat.add_zero, Nat.zero_add, not_false_eq_true, not_true_eq_false, true_and, and_true, Option.toList_some, Option.toList_none, List.cons_append, List.nil_append, qrf, if_true, if_false, if_pos, if_neg, reduceIte, ne_eq, Classical.not_not]
          exact next B hst hB9 _
theorem n_play_side {near : Bool} {turn mv nb : Nat} {turns one other : Nat} {looks : Nat} {V : Nat → Nat} (hB : qBN σ) (hwf : wfT N T) (ht4 : turn < 4) (htn : turns ≤ 4) (h16 : one < 6 ∧ other < 6) (hmv : mv < T 115) (hnb : nb = if near then 1 else 0) (hlk : looks ≤ 4)
    (hrec : ∀ (ch : Nat) (μ : qMu) (Q' : qPost), ch < 17 → qRo μ → qTw μ (35 + 8 * (turn + 1)) (turnT T mv ch) → (∀ μ' : qMu, pfr (turn + 1) μ μ' → Q' (some (.int (nI (V ch)))) σ μ' la) → qEx (d + 2) 29 0 [] [.ref 11, .int (nI (turn + 1)), .int (nI turns), .int (nI one), .int (nI other), .retAddr 0, .retAddr 0, .retAddr 0, .retAddr 0, .retAddr 0, .retAddr 0, .retAddr 0, .retAddr 0, .retAddr 0, .retAddr 0, .retAddr 0] σ μ la Q') (hVb : ∀ k, V k ≤ 99999)
    (hV : ∀ c e, turnT T mv c = turnT T mv e → V c = V e) :
    ∀ (n side B : Nat) (μ : qMu) (l12 l13 l14 : Value), side + n = looks → qRo μ → qTw μ (35 + 8 * turn) T → optP near V (4 * side) B → B ≤ 99999 →
    (∀ (μ' : qMu) (B' : Nat), pfr turn μ μ' → optP near V (4 * looks) B' → Q (some (.int (nI B'))) σ μ' la) →
    qEx (d + 3) 29 120 [] [.ref 11, .int (nI turn), .int (nI turns), .int (nI one), .int (nI other), .ref (35 + 8 * turn), .ref (35 + 8 * (turn + 1)), .ref 28, .int (nI nb), .int (nI mv), .int (nI B), .int (nI looks), .int (nI side), l12, l13, l14] σ μ la Q := by
  intro n
  induction n with
  | zero =>
    intro side B μ l12 l13 l14 hsn hro hw hop hb hQ
    have : side = looks := by omega
    subst this
    rw [x29_120]
    simp (disch := omega) only [x29_122, x29_124, x29_249, x29_251, ↓nm_1, ↓nm_2, ↓nm_3, ↓nm_4, ↓nm_11, ↓nm_12, ↓nm_13, ↓nm_14, ↓nm_100, nl_0, nl_1, nl_2, nl_3, nl_4, nl_5, nl_6, nl_7, nl_8, nl_9, nl_10, nl_11, nl_12, nl_13, nl_14, nl_15, nl_16, nl_17, nl_18, nl_19, nl_20, nl_22, nl_23, nl_24, nl_25, nl_30, nl_31, nl_34, nl_35, nl_40, nl_43, nl_46, nl_47, nl_48, nl_49, nl_50, nl_57, nl_58, nl_59, nl_63, nl_64, nl_94, nl_97, nl_98, nl_99, nl_100, nl_101, nl_102, nl_105, nl_108, nl_110, nl_111, nl_112, nl_113, nl_114, nl_115, nl_116, nl_117, nl_118, nl_119, nl_124, nl_126, nl_138, nl_140, nl_255, nl_720, nl_1024, nl_9999, nl_99999, nl_999999, nl_1000000, eq_self, Bool.false_eq_true, Bool.true_and, Bool.and_true, Bool.false_and, Bool.and_false, Bool.not_true, Bool.not_false, nI_toInt, or_true, true_or, or_false, false_or, nI_clamp, nI_leI, nI_ltI, nI_eq, e_nm, e_mn, e_mm, l_nm, l_mn, l_mm, le_nm, le_mn, le_mm, nI_add, nI_mull, nI_sub, nI_subn, nI_divl, nsm, qIn_nI, Nat.zero_le, Nat.not_lt_zero, Nat.reduceAdd, Nat.reduceMul, Nat.reduceSub, Nat.reduceDiv, Nat.reduceMod, Nat.reduceEqDiff, Nat.reduceLeDiff, Nat.reduceLT, Nat.add_zero, Nat.zero_add, not_false_eq_true, not_true_eq_false, true_and, and_true, Option.toList_some, Option.toList_none, List.cons_append, List.nil_append, qrf, if_true, if_false, if_pos, if_neg, reduceIte, ne_eq, Classical.not_not]
    exact hQ μ B (fun _ _ _ _ => rfl) hop
  | succ n ih =>
    intro side B μ l12 l13 l14 hsn hro hw hop hb hQ
    rw [x29_120]
    simp (disch := omega) only [x29_122, x29_124, x29_127, x29_128, x29_130, x29_131, ↓nm_1, ↓nm_2, ↓nm_3, ↓nm_4, ↓nm_11, ↓nm_12, ↓nm_13, ↓nm_14, ↓nm_100, nl_0, nl_1, nl_2, nl_3, nl_4, nl_5, nl_6, nl_7, nl_8, nl_9, nl_10, nl_11, nl_12, nl_13, nl_14, nl_15, nl_16, nl_17, nl_18, nl_19, nl_20, nl_22, nl_23, nl_24, nl_25, nl_30, nl_31, nl_34, nl_35, nl_40, nl_43, nl_46, nl_47, nl_48, nl_49, nl_50, nl_57, nl_58, nl_59, nl_63, nl_64, nl_94, nl_97, nl_98, nl_99, nl_100, nl_101, nl_102, nl_105, nl_108, nl_110, nl_111, nl_112, nl_113, nl_114, nl_115, nl_116, nl_117, nl_118, nl_119, nl_124, nl_126, nl_138, nl_140, nl_255, nl_720, nl_1024, nl_9999, nl_99999, nl_999999, nl_1000000, eq_self, Bool.false_eq_true, Bool.true_and, Bool.and_true, Bool.false_and, Bool.and_false, Bool.not_true, Bool.not_false, nI_toInt, or_true, true_or, or_false, false_or, nI_clamp, nI_leI, nI_ltI, nI_eq, e_nm, e_mn, e_mm, l_nm, l_mn, l_mm, le_nm, le_mn, le_mm, nI_add, nI_mull, nI_sub, nI_subn, nI_divl, nsm, qIn_nI, Nat.zero_le, Nat.not_lt_zero, Nat.reduceAdd, Nat.reduceMul, Nat.reduceSub, Nat.reduceDiv, Nat.reduceMod, Nat.reduceEqDiff, Nat.reduceLeDiff, Nat.reduceLT, Nat.add_zero, Nat.zero_add, not_false_eq_true, not_true_eq_false, true_and, and_true, Option.toList_some, Option.toList_none, List.cons_append, List.nil_append, qrf, if_true, if_false, if_pos, if_neg, reduceIte, ne_eq, Classical.not_not]
    refine n_play_deed (V := V) (near := near) hB hwf ht4 htn h16 hmv hnb hlk hrec hVb hV 4 0 side 0 B μ l14 (by omega) (by omega) hro hw hop (Or.inl rfl) (by omega) hb fun μ1 B1 l12' l14' hf1 ho1 hb1 => ?_
    exact ih (side + 1) B1 μ1 l12' _ l14' (by omega) (pfr_ro hro hf1) (qTw_frame hw fun a g1 g2 => hf1 a (by omega) (by omega) (by omega)) ho1 hb1 fun μ' B' hf ho => hQ μ' B' (pfr_tr hf1 hf) ho
theorem n_play {turns one other : Nat} (hB : qBN σ) (htn : turns ≤ 4) : ∀ (rem turn : Nat) (T : qT) (μ : qMu) (Q : qPost), turn + rem = turns → wfT N T → one < T 115 → other < T 115 → qRo μ → qTw μ (35 + 8 * turn) T → (∀ μ' : qMu, pfr turn μ μ' → Q (some (.int (nI (gmV one other rem (decide (turn % 2 = 0)) T)))) σ μ' la) →
    qEx (d + rem + 2) 29 0 [] [.ref 11, .int (nI turn), .int (nI turns), .int (nI one), .int (nI other), .retAddr 0, .retAddr 0, .retAddr 0, .retAddr 0, .retAddr 0, .retAddr 0, .retAddr 0, .retAddr 0, .retAddr 0, .retAddr 0, .retAddr 0] σ μ la Q := by
  obtain ⟨k0, k1, k11, k12, k20, k75, k28, k295, k3⟩ := nOk hB
  have rS := hB.2.2.2.1
  have hA := (nAld hB).1
  intro rem
  induction rem with
  | zero =>
    intro turn T μ Q hrn hwf h1 h2 hro hw hQ
    have h6 := hwf.1
    have hT := nTp hB (k := turn) (by omega)
    have ok0 := qtOk hT
    have R := (qtR hT).2.2.1
    have I := (qtI (μ := μ) hT).2.2.1
    have rP := hB.2.2.2.2.1 turn (by omega)
    have b3 := (hw.2.2.2.2.2.2.2 one h1).2.1
    have b3' := (hw.2.2.2.2.2.2.2 other h2).2.1
    have i1 := inT_lt hwf (hwf.2.2.2.2.2.2.2.1 one h1).2.1
    have i2 := inT_lt hwf (hwf.2.2.2.2.2.2.2.1 other h2).2.1
    rw [gm_0] at hQ
    simp (disch := omega) only [x29_0, x29_1, x29_4, x29_5, x29_6, x29_8, x29_9, x29_10, x29_20, x29_22, x29_25, x29_26, x29_27, x29_29, x29_32, x29_34, x29_35, x29_38, k11, ok0, rS.2.2.2.1, rP, hA, R, I, b3, b3', n_apart i1 i2, ↓nm_1, ↓nm_2, ↓nm_3, ↓nm_4, ↓nm_11, ↓nm_12, ↓nm_13, ↓nm_14, ↓nm_100, nl_0, nl_1, nl_2, nl_3, nl_4, nl_5, nl_6, nl_7, nl_8, nl_9, nl_10, nl_11, nl_12, nl_13, nl_14, nl_15, nl_16, nl_17, nl_18, nl_19, nl_20, nl_22, nl_23, nl_24, nl_25, nl_30, nl_31, nl_34, nl_35, nl_40, nl_43, nl_46, nl_47, nl_48, nl_49, nl_50, nl_57, nl_58, nl_59, nl_63, nl_64, nl_94, nl_97, nl_98, nl_99, nl_100, nl_101, nl_102, nl_105, nl_108, nl_110, nl_111, nl_112, nl_113, nl_114, nl_115, nl_116, nl_117, nl_118, nl_119, nl_124, nl_126, nl_138, nl_140, nl_255, nl_720, nl_1024, nl_9999, nl_99999, nl_999999, nl_1000000, eq_self, Bool.false_eq_true, Bool.true_and, Bool.and_true, Bool.false_and, Bool.and_false, Bool.not_true, Bool.not_false, nI_toInt, or_true, true_or, or_false, false_or, nI_clamp, nI_leI, nI_ltI, nI_eq, e_nm, e_mn, e_mm, l_nm, l_mn, l_mm, le_nm, le_mn, le_mm, nI_add, nI_mull, nI_sub, nI_subn, nI_divl, nsm, qIn_nI, Nat.zero_le, Nat.not_lt_zero, Nat.reduceAdd, Nat.reduceMul, Nat.reduceSub, Nat.reduceDiv, Nat.reduceMod, Nat.reduceEqDiff, Nat.reduceLeDiff, Nat.reduceLT, Nat.add_zero, Nat.zero_add, not_false_eq_true, not_true_eq_false, true_and, and_true, Option.toList_some, Option.toList_none, List.cons_append, List.nil_append, qrf, if_true, if_false, if_pos, if_neg, reduceIte, ne_eq, Classical.not_not]
    exact hQ μ (fun _ _ _ _ => rfl)
  | succ rem ih =>
    intro turn T μ Q hrn hwf h1 h2 hro hw hQ
    have h6 := hwf.1
    have h116 := hwf.2.2.2.2.1
    have hT := nTp hB (k := turn) (by omega)
    have hT1 := nTp hB (k := turn + 1) (by omega)
    have ok0 := qtOk hT
    have ok1 := qtOk hT1
    have rP := hB.2.2.2.2.1 turn (by omega)
    have rP1 := hB.2.2.2.2.1 (turn + 1) (by omega)
    have w4 := hw.2.2.2.2.1
    have key : ∀ (near : Bool) (mv nb : Nat), mv < T 115 → nb = (if near then 1 else 0) → near = decide (turn % 2 = 0) → mv = (if near then one else other) → qEx (d + (rem + 1) + 2) 29 81 [] [.ref 11, .int (nI turn), .int (nI turns), .int (nI one), .int (nI other), .ref (35 + 8 * turn), .ref (35 + 8 * (turn + 1)), .ref 28, .int (nI nb), .int (nI mv), .retAddr 0, .retAddr 0, .retAddr 0, .retAddr 0, .retAddr 0, .retAddr 0] σ μ la Q := by
      intro near mv nb hmv hnb hnear hme
      have hpar : decide ((turn + 1) % 2 = 0) = !near := by
        rw [hnear]
        by_cases h : turn % 2 = 0
        · rw [decide_eq_true h, decide_eq_false (by omega)]; rfl
        · rw [decide_eq_false h, decide_eq_true (by omega)]; rfl
      have hrec0 : ∀ (ch : Nat) (μ : qMu) (Q' : qPost), ch < 17 → qRo μ → qTw μ (35 + 8 * (turn + 1)) (turnT T mv ch) → (∀ μ' : qMu, pfr (turn + 1) μ μ' → Q' (some (.int (nI (gmV one other rem (!near) (turnT T mv ch))))) σ μ' la) → qEx (d + rem + 2) 29 0 [] [.ref 11, .int (nI (turn + 1)), .int (nI turns), .int (nI one), .int (nI other), .retAddr 0, .retAddr 0, .retAddr 0, .retAddr 0, .retAddr 0, .retAddr 0, .retAddr 0, .retAddr 0, .retAddr 0, .retAddr 0, .retAddr 0] σ μ la Q' := by
        intro ch μ Q' hch hro hw hQ'
        rw [← hpar] at hQ'
        have e : turnT T mv ch 115 = T 115 := turn_hi (by omega) (by omega)
        exact ih (turn + 1) (turnT T mv ch) μ Q' (by omega) (wf_turn hwf hmv) (by rw [e]; exact h1) (by rw [e]; exact h2) hro hw hQ'
      have hVb0 : ∀ ch, gmV one other rem (!near) (turnT T mv ch) ≤ 99999 := fun ch => by
        have e : turnT T mv ch 115 = T 115 := turn_hi (by omega) (by omega)
        exact gmV_le rem _ _ (wf_turn hwf hmv) (by rw [e]; exact h1) (by rw [e]; exact h2)
      have hV0 : ∀ c e, turnT T mv c = turnT T mv e → gmV one other rem (!near) (turnT T mv c) = gmV one other rem (!near) (turnT T mv e) := fun c e h => by rw [h]
      have hfin : near = true → gmV one other (rem + 1) near T = mnF (fun ch => gmV one other rem (!near) (turnT T mv ch)) 17 := fun h => by
        subst h
        rw [gm_t, hme]
        rfl
      have hfin2 : near = false → gmV one other (rem + 1) near T = mxF (fun ch => gmV one other rem (!near) (turnT T mv ch)) 17 := fun h => by
        subst h
        rw [gm_f, hme]
        rfl
      rw [← hnear] at hQ
      have hcourt0 : T 116 = 1 → ∀ s k, s < 4 → k < 4 → (fun ch => gmV one other rem (!near) (turnT T mv ch)) (4 * s + k) = (fun ch => gmV one other rem (!near) (turnT T mv ch)) k := fun hc s k hs hk => by
        show gmV one other rem (!near) (turnT T mv (4 * s + k)) = gmV one other rem (!near) (turnT T mv k)
        have e0 := turn_sd (T := T) (p := mv) (s := 0) (k := k) (by omega) hk
        rw [show 4 * 0 + k = k by omega] at e0
        rw [turn_sd hs hk, e0, step_court hc]
      have hVf : ∃ V : Nat → Nat, V = fun ch => gmV one other rem (!near) (turnT T mv ch) := ⟨_, rfl⟩
      obtain ⟨V, hVe⟩ := hVf
      have hVc : ∀ ch, gmV one other rem (!near) (turnT T mv ch) = V ch := fun ch => by rw [hVe]
      rw [← hVe] at hfin hfin2 hcourt0
      simp only [hVc] at hrec0 hVb0 hV0
      clear hVc hVe
      have e16 : turnT T mv 16 = T := by unfold turnT; rw [if_neg (by omega)]
      simp (disch := omega) only [x29_81, x29_83, x29_85, ok1, ↓nm_1, ↓nm_2, ↓nm_3, ↓nm_4, ↓nm_11, ↓nm_12, ↓nm_13, ↓nm_14, ↓nm_100, nl_0, nl_1, nl_2, nl_3, nl_4, nl_5, nl_6, nl_7, nl_8, nl_9, nl_10, nl_11, nl_12, nl_13, nl_14, nl_15, nl_16, nl_17, nl_18, nl_19, nl_20, nl_22, nl_23, nl_24, nl_25, nl_30, nl_31, nl_34, nl_35, nl_40, nl_43, nl_46, nl_47, nl_48, nl_49, nl_50, nl_57, nl_58, nl_59, nl_63, nl_64, nl_94, nl_97, nl_98, nl_99, nl_100, nl_101, nl_102, nl_105, nl_108, nl_110, nl_111, nl_112, nl_113, nl_114, nl_115, nl_116, nl_117, nl_118, nl_119, nl_124, nl_126, nl_138, nl_140, nl_255, nl_720, nl_1024, nl_9999, nl_99999, nl_999999, nl_1000000, eq_self, Bool.false_eq_true, Bool.true_and, Bool.and_true, Bool.false_and, Bool.and_false, Bool.not_true, Bool.not_false, nI_toInt, or_true, true_or, or_false, false_or, nI_clamp, nI_leI, nI_ltI, nI_eq, e_nm, e_mn, e_mm, l_nm, l_mn, l_mm, le_nm, le_mn, le_mm, nI_add, nI_mull, nI_sub, nI_subn, nI_divl, nsm, qIn_nI, Nat.zero_le, Nat.not_lt_zero, Nat.reduceAdd, Nat.reduceMul, Nat.reduceSub, Nat.reduceDiv, Nat.reduceMod, Nat.reduceEqDiff, Nat.reduceLeDiff, Nat.reduceLT, Nat.add_zero, Nat.zero_add, not_false_eq_true, not_true_eq_false, true_and, and_true, Option.toList_some, Option.toList_none, List.cons_append, List.nil_append, qrf, if_true, if_false, if_pos, if_neg, reduceIte, ne_eq, Classical.not_not]
      refine c_become hT1 hT (by omega) hwf hw fun μ1 hf1 hw1 => ?_
      have hp1 : pfr turn μ μ1 := fun a g1 g2 g3 => hf1 a (by omega)
      simp (disch := omega) only [x29_88, x29_89, x29_90, x29_91, x29_92, x29_93, x29_94, x29_96, k11, ↓nm_1, ↓nm_2, ↓nm_3, ↓nm_4, ↓nm_11, ↓nm_12, ↓nm_13, ↓nm_14, ↓nm_100, nl_0, nl_1, nl_2, nl_3, nl_4, nl_5, nl_6, nl_7, nl_8, nl_9, nl_10, nl_11, nl_12, nl_13, nl_14, nl_15, nl_16, nl_17, nl_18, nl_19, nl_20, nl_22, nl_23, nl_24, nl_25, nl_30, nl_31, nl_34, nl_35, nl_40, nl_43, nl_46, nl_47, nl_48, nl_49, nl_50, nl_57, nl_58, nl_59, nl_63, nl_64, nl_94, nl_97, nl_98, nl_99, nl_100, nl_101, nl_102, nl_105, nl_108, nl_110, nl_111, nl_112, nl_113, nl_114, nl_115, nl_116, nl_117, nl_118, nl_119, nl_124, nl_126, nl_138, nl_140, nl_255, nl_720, nl_1024, nl_9999, nl_99999, nl_999999, nl_1000000, eq_self, Bool.false_eq_true, Bool.true_and, Bool.and_true, Bool.false_and, Bool.and_false, Bool.not_true, Bool.not_false, nI_toInt, or_true, true_or, or_false, false_or, nI_clamp, nI_leI, nI_ltI, nI_eq, e_nm, e_mn, e_mm, l_nm, l_mn, l_mm, le_nm, le_mn, le_mm, nI_add, nI_mull, nI_sub, nI_subn, nI_divl, nsm, qIn_nI, Nat.zero_le, Nat.not_lt_zero, Nat.reduceAdd, Nat.reduceMul, Nat.reduceSub, Nat.reduceDiv, Nat.reduceMod, Nat.reduceEqDiff, Nat.reduceLeDiff, Nat.reduceLT, Nat.add_zero, Nat.zero_add, not_false_eq_true, not_true_eq_false, true_and, and_true, Option.toList_some, Option.toList_none, List.cons_append, List.nil_append, qrf, if_true, if_false, if_pos, if_neg, reduceIte, ne_eq, Classical.not_not]
      refine hrec0 16 μ1 _ (by omega) (pfr_ro hro hp1) (by rw [e16]; exact hw1) fun μ2 hf2 => ?_
      have hp2 : pfr turn μ μ2 := pfr_tr hp1 (pfr_dn hf2)
      have hw2 : qTw μ2 (35 + 8 * turn) T := qTw_frame hw fun a g1 g2 => hp2 a (by omega) (by omega) (by omega)
      have w4' := hw2.2.2.2.2.1
      have fin : ∀ looks : Nat, looks ≤ 4 → (∀ B, optP near V (4 * looks) B → optP near V 16 B) → qEx (d + rem + 3) 29 117 [] [.ref 11, .int (nI turn), .int (nI turns), .int (nI one), .int (nI other), .ref (35 + 8 * turn), .ref (35 + 8 * (turn + 1)), .ref 28, .int (nI nb), .int (nI mv), .int (nI (V 16)), .int (nI looks), .retAddr 0, .retAddr 0, .retAddr 0, .retAddr 0] σ μ2 la Q := by
        intro looks hl4 hopl
        simp (disch := omega) only [x29_117, x29_118, ↓nm_1, ↓nm_2, ↓nm_3, ↓nm_4, ↓nm_11, ↓nm_12, ↓nm_13, ↓nm_14, ↓nm_100, nl_0, nl_1, nl_2, nl_3, nl_4, nl_5, nl_6, nl_7, nl_8, nl_9, nl_10, nl_11, nl_12, nl_13, nl_14, nl_15, nl_16, nl_17, nl_18, nl_19, nl_20, nl_22, nl_23, nl_24, nl_25, nl_30, nl_31, nl_34, nl_35, nl_40, nl_43, nl_46, nl_47, nl_48, nl_49, nl_50, nl_57, nl_58, nl_59, nl_63, nl_64, nl_94, nl_97, nl_98, nl_99, nl_100, nl_101, nl_102, nl_105, nl_108, nl_110, nl_111, nl_112, nl_113, nl_114, nl_115, nl_116, nl_117, nl_118, nl_119, nl_124, nl_126, nl_138, nl_140, nl_255, nl_720, nl_1024, nl_9999, nl_99999, nl_999999, nl_1000000, eq_self, Bool.false_eq_true, Bool.true_and, Bool.and_true, Bool.false_and, Bool.and_false, Bool.not_true, Bool.not_false, nI_toInt, or_true, true_or, or_false, false_or, nI_clamp, nI_leI, nI_ltI, nI_eq, e_nm, e_mn, e_mm, l_nm, l_mn, l_mm, le_nm, le_mn, le_mm, nI_add, nI_mull, nI_sub, nI_subn, nI_divl, nsm, qIn_nI, Nat.zero_le, Nat.not_lt_zero, Nat.reduceAdd, Nat.reduceMul, Nat.reduceSub, Nat.reduceDiv, Nat.reduceMod, Nat.reduceEqDiff, Nat.reduceLeDiff, Nat.reduceLT, Nat.add_zero, Nat.zero_add, not_false_eq_true, not_true_eq_false, true_and, and_true, Option.toList_some, Option.toList_none, List.cons_append, List.nil_append, qrf, if_true, if_false, if_pos, if_neg, reduceIte, ne_eq, Classical.not_not]
        refine n_play_side (V := V) (near := near) hB hwf (by omega) htn ⟨by omega, by omega⟩ hmv hnb hl4 hrec0 hVb0 hV0 looks 0 (V 16) μ2 _ _ _ (by omega) (pfr_ro hro hp2) hw2 opt_0 (hVb0 16) fun μ3 B hf3 ho => ?_
        have ho := hopl B ho
        have eB : B = gmV one other (rem + 1) near T := by
          cases hn : near with
          | true => rw [hn] at ho hfin; rw [hfin rfl]; exact opt_emin ho hVb0
          | false => rw [hn] at ho hfin2; rw [hfin2 rfl]; exact opt_emax ho
        rw [eB]
        exact hQ μ3 (pfr_tr hp2 hf3)
      by_cases hc : T 116 = 1
      · simp (disch := omega) only [x29_99, x29_101, x29_103, x29_106, x29_107, x29_110, x29_111, x29_114, x29_115, ok0, w4', ↓nm_1, ↓nm_2, ↓nm_3, ↓nm_4, ↓nm_11, ↓nm_12, ↓nm_13, ↓nm_14, ↓nm_100, nl_0, nl_1, nl_2, nl_3, nl_4, nl_5, nl_6, nl_7, nl_8, nl_9, nl_10, nl_11, nl_12, nl_13, nl_14, nl_15, nl_16, nl_17, nl_18, nl_19, nl_20, nl_22, nl_23, nl_24, nl_25, nl_30, nl_31, nl_34, nl_35, nl_40, nl_43, nl_46, nl_47, nl_48, nl_49, nl_50, nl_57, nl_58, nl_59, nl_63, nl_64, nl_94, nl_97, nl_98, nl_99, nl_100, nl_101, nl_102, nl_105, nl_108, nl_110, nl_111, nl_112, nl_113, nl_114, nl_115, nl_116, nl_117, nl_118, nl_119, nl_124, nl_126, nl_138, nl_140, nl_255, nl_720, nl_1024, nl_9999, nl_99999, nl_999999, nl_1000000, eq_self, Bool.false_eq_true, Bool.true_and, Bool.and_true, Bool.false_and, Bool.and_false, Bool.not_true, Bool.not_false, nI_toInt, or_true, true_or, or_false, false_or, nI_clamp, nI_leI, nI_ltI, nI_eq, e_nm, e_mn, e_mm, l_nm, l_mn, l_mm, le_nm, le_mn, le_mm, nI_add, nI_mull, nI_sub, nI_subn, nI_divl, nsm, qIn_nI, Nat.zero_le, Nat.not_lt_zero, Nat.reduceAdd, Nat.reduceMul, Nat.reduceSub, Nat.reduceDiv, Nat.reduceMod, Nat.reduceEqDiff, Nat.reduceLeDiff, Nat.reduceLT, Nat.add_zero, Nat.zero_add, not_false_eq_true, not_true_eq_false, true_and, and_true, Option.toList_some, Option.toList_none, List.cons_append, List.nil_append, qrf, if_true, if_false, if_pos, if_neg, reduceIte, ne_eq, Classical.not_not]
        exact fin 1 (by omega) fun B h => opt_court h (hcourt0 hc)
      · simp (disch := omega) only [x29_99, x29_101, x29_103, x29_106, x29_107, x29_110, x29_111, x29_114, x29_115, ok0, w4', ↓nm_1, ↓nm_2, ↓nm_3, ↓nm_4, ↓nm_11, ↓nm_12, ↓nm_13, ↓nm_14, ↓nm_100, nl_0, nl_1, nl_2, nl_3, nl_4, nl_5, nl_6, nl_7, nl_8, nl_9, nl_10, nl_11, nl_12, nl_13, nl_14, nl_15, nl_16, nl_17, nl_18, nl_19, nl_20, nl_22, nl_23, nl_24, nl_25, nl_30, nl_31, nl_34, nl_35, nl_40, nl_43, nl_46, nl_47, nl_48, nl_49, nl_50, nl_57, nl_58, nl_59, nl_63, nl_64, nl_94, nl_97, nl_98, nl_99, nl_100, nl_101, nl_102, nl_105, nl_108, nl_110, nl_111, nl_112, nl_113, nl_114, nl_115, nl_116, nl_117, nl_118, nl_119, nl_124, nl_126, nl_138, nl_140, nl_255, nl_720, nl_1024, nl_9999, nl_99999, nl_999999, nl_1000000, eq_self, Bool.false_eq_true, Bool.true_and, Bool.and_true, Bool.false_and, Bool.and_false, Bool.not_true, Bool.not_false, nI_toInt, or_true, true_or, or_false, false_or, nI_clamp, nI_leI, nI_ltI, nI_eq, e_nm, e_mn, e_mm, l_nm, l_mn, l_mm, le_nm, le_mn, le_mm, nI_add, nI_mull, nI_sub, nI_subn, nI_divl, nsm, qIn_nI, Nat.zero_le, Nat.not_lt_zero, Nat.reduceAdd, Nat.reduceMul, Nat.reduceSub, Nat.reduceDiv, Nat.reduceMod, Nat.reduceEqDiff, Nat.reduceLeDiff, Nat.reduceLT, Nat.add_zero, Nat.zero_add, not_false_eq_true, not_true_eq_false, true_and, and_true, Option.toList_some, Option.toList_none, List.cons_append, List.nil_append, qrf, if_true, if_false, if_pos, if_neg, reduceIte, ne_eq, Classical.not_not]
        exact fin 4 (by omega) fun B h => h
    by_cases hpar : turn % 2 = 0
    · simp (disch := omega) only [x29_0, x29_1, x29_4, x29_5, x29_6, x29_8, x29_9, x29_10, x29_13, x29_14, x29_15, x29_16, x29_17, x29_39, x29_40, x29_43, x29_44, x29_45, x29_46, x29_47, x29_49, x29_50, x29_53, x29_55, x29_56, x29_57, x29_58, x29_61, x29_62, x29_65, x29_66, x29_68, x29_70, x29_73, x29_74, x29_77, x29_79, k11, rS.2.2.1, rS.2.2.2.1, rP, rP1, hA, ↓nm_1, ↓nm_2, ↓nm_3, ↓nm_4, ↓nm_11, ↓nm_12, ↓nm_13, ↓nm_14, ↓nm_100, nl_0, nl_1, nl_2, nl_3, nl_4, nl_5, nl_6, nl_7, nl_8, nl_9, nl_10, nl_11, nl_12, nl_13, nl_14, nl_15, nl_16, nl_17, nl_18, nl_19, nl_20, nl_22, nl_23, nl_24, nl_25, nl_30, nl_31, nl_34, nl_35, nl_40, nl_43, nl_46, nl_47, nl_48, nl_49, nl_50, nl_57, nl_58, nl_59, nl_63, nl_64, nl_94, nl_97, nl_98, nl_99, nl_100, nl_101, nl_102, nl_105, nl_108, nl_110, nl_111, nl_112, nl_113, nl_114, nl_115, nl_116, nl_117, nl_118, nl_119, nl_124, nl_126, nl_138, nl_140, nl_255, nl_720, nl_1024, nl_9999, nl_99999, nl_999999, nl_1000000, eq_self, Bool.false_eq_true, Bool.true_and, Bool.and_true, Bool.false_and, Bool.and_false, Bool.not_true, Bool.not_false, nI_toInt, or_true, true_or, or_false, false_or, nI_clamp, nI_leI, nI_ltI, nI_eq, e_nm, e_mn, e_mm, l_nm, l_mn, l_mm, le_nm, le_mn, le_mm, nI_add, nI_mull, nI_sub, nI_subn, nI_divl, nsm, qIn_nI, Nat.zero_le, Nat.not_lt_zero, Nat.reduceAdd, Nat.reduceMul, Nat.reduceSub, Nat.reduceDiv, Nat.reduceMod, Nat.reduceEqDiff, Nat.reduceLeDiff, Nat.reduceLT, Nat.add_zero, Nat.zero_add, not_false_eq_true, not_true_eq_false, true_and, and_true, Option.toList_some, Option.toList_none, List.cons_append, List.nil_append, qrf, if_true, if_false, if_pos, if_neg, reduceIte, ne_eq, Classical.not_not]
      exact key true one 1 h1 rfl (decide_eq_true hpar).symm rfl
    · simp (disch := omega) only [x29_0, x29_1, x29_4, x29_5, x29_6, x29_8, x29_9, x29_10, x29_13, x29_14, x29_15, x29_16, x29_17, x29_39, x29_40, x29_43, x29_44, x29_45, x29_46, x29_47, x29_49, x29_50, x29_53, x29_55, x29_56, x29_57, x29_58, x29_61, x29_62, x29_65, x29_66, x29_68, x29_70, x29_73, x29_74, x29_77, x29_79, k11, rS.2.2.1, rS.2.2.2.1, rP, rP1, hA, ↓nm_1, ↓nm_2, ↓nm_3, ↓nm_4, ↓nm_11, ↓nm_12, ↓nm_13, ↓nm_14, ↓nm_100, nl_0, nl_1, nl_2, nl_3, nl_4, nl_5, nl_6, nl_7, nl_8, nl_9, nl_10, nl_11, nl_12, nl_13, nl_14, nl_15, nl_16, nl_17, nl_18, nl_19, nl_20, nl_22, nl_23, nl_24, nl_25, nl_30, nl_31, nl_34, nl_35, nl_40, nl_43, nl_46, nl_47, nl_48, nl_49, nl_50, nl_57, nl_58, nl_59, nl_63, nl_64, nl_94, nl_97, nl_98, nl_99, nl_100, nl_101, nl_102, nl_105, nl_108, nl_110, nl_111, nl_112, nl_113, nl_114, nl_115, nl_116, nl_117, nl_118, nl_119, nl_124, nl_126, nl_138, nl_140, nl_255, nl_720, nl_1024, nl_9999, nl_99999, nl_999999, nl_1000000, eq_self, Bool.false_eq_true, Bool.true_and, Bool.and_true, Bool.false_and, Bool.and_false, Bool.not_true, Bool.not_false, nI_toInt, or_true, true_or, or_false, false_or, nI_clamp, nI_leI, nI_ltI, nI_eq, e_nm, e_mn, e_mm, l_nm, l_mn, l_mm, le_nm, le_mn, le_mm, nI_add, nI_mull, nI_sub, nI_subn, nI_divl, nsm, qIn_nI, Nat.zero_le, Nat.not_lt_zero, Nat.reduceAdd, Nat.reduceMul, Nat.reduceSub, Nat.reduceDiv, Nat.reduceMod, Nat.reduceEqDiff, Nat.reduceLeDiff, Nat.reduceLT, Nat.add_zero, Nat.zero_add, not_false_eq_true, not_true_eq_false, true_and, and_true, Option.toList_some, Option.toList_none, List.cons_append, List.nil_append, qrf, if_true, if_false, if_pos, if_neg, reduceIte, ne_eq, Classical.not_not]
      exact key false other 0 h2 rfl (decide_eq_false hpar).symm rfl
theorem n_meet (hP : SimP N (b, T, as, im, sh)) (hS : SimN (b, T, as, im, sh) σ μ la) (hQ : ∀ μ' : qMu, nFr μ μ' → Q (some (.int (aMeet T x y z))) σ μ' la) : qEx (d + 10) 97 0 [] [.ref 0, .int x, .int y, .int z] σ μ la Q := by
  obtain ⟨hB, hro, htx, ht, hw, hp, hi, hs⟩ := hS
  have hw : qTw μ 12 T := hw
  have hwf : wfT N T := hP.2.2.1.1
  have h6 := hwf.1
  obtain ⟨k0, k1, k11, k12, k20, k75, k28, k295, k3⟩ := nOk hB
  have rN := hB.2.1
  have rS := hB.2.2.2.1
  have hA := (nAld hB).1
  have rP := hB.2.2.2.2.1 0 (by omega)
  unfold aMeet at hQ
  cases h1 : isR x (T 115) with
  | false =>
    simp [h1] at hQ
    simp (disch := omega) only [x97_0, x97_1, x97_4, x97_5, x97_8, x97_36, x97_37, n_has hB hw h6, h1, k0, k12, rN.2.1, ↓nm_1, ↓nm_2, ↓nm_3, ↓nm_4, ↓nm_11, ↓nm_12, ↓nm_13, ↓nm_14, ↓nm_100, nl_0, nl_1, nl_2, nl_3, nl_4, nl_5, nl_6, nl_7, nl_8, nl_9, nl_10, nl_11, nl_12, nl_13, nl_14, nl_15, nl_16, nl_17, nl_18, nl_19, nl_20, nl_22, nl_23, nl_24, nl_25, nl_30, nl_31, nl_34, nl_35, nl_40, nl_43, nl_46, nl_47, nl_48, nl_49, nl_50, nl_57, nl_58, nl_59, nl_63, nl_64, nl_94, nl_97, nl_98, nl_99, nl_100, nl_101, nl_102, nl_105, nl_108, nl_110, nl_111, nl_112, nl_113, nl_114, nl_115, nl_116, nl_117, nl_118, nl_119, nl_124, nl_126, nl_138, nl_140, nl_255, nl_720, nl_1024, nl_9999, nl_99999, nl_999999, nl_1000000, eq_self, Bool.false_eq_true, Bool.true_and, Bool.and_true, Bool.false_and, Bool.and_false, Bool.not_true, Bool.not_false, nI_toInt, or_true, true_or, or_false, false_or, nI_clamp, nI_leI, nI_ltI, nI_eq, e_nm, e_mn, e_mm, l_nm, l_mn, l_mm, le_nm, le_mn, le_mm, nI_add, nI_mull, nI_sub, nI_subn, nI_divl, nsm, qIn_nI, Nat.zero_le, Nat.not_lt_zero, Nat.reduceAdd, Nat.reduceMul, Nat.reduceSub, Nat.reduceDiv, Nat.reduceMod, Nat.reduceEqDiff, Nat.reduceLeDiff, Nat.reduceLT, Nat.add_zero, Nat.zero_add, not_false_eq_true, not_true_eq_false, true_and, and_true, Option.toList_some, Option.toList_none, List.cons_append, List.nil_append, qrf, if_true, if_false, if_pos, if_neg, reduceIte, ne_eq, Classical.not_not]
    exact hQ μ nFr_rf
  | true =>
    cases h2 : isR y (T 115) with
    | false =>
      simp [h1, h2] at hQ
      simp (disch := omega) only [x97_0, x97_1, x97_4, x97_5, x97_8, x97_11, x97_12, x97_15, x97_16, x97_19, x97_36, x97_37, n_has hB hw h6, h1, h2, k0, k12, rN.2.1, ↓nm_1, ↓nm_2, ↓nm_3, ↓nm_4, ↓nm_11, ↓nm_12, ↓nm_13, ↓nm_14, ↓nm_100, nl_0, nl_1, nl_2, nl_3, nl_4, nl_5, nl_6, nl_7, nl_8, nl_9, nl_10, nl_11, nl_12, nl_13, nl_14, nl_15, nl_16, nl_17, nl_18, nl_19, nl_20, nl_22, nl_23, nl_24, nl_25, nl_30, nl_31, nl_34, nl_35, nl_40, nl_43, nl_46, nl_47, nl_48, nl_49, nl_50, nl_57, nl_58, nl_59, nl_63, nl_64, nl_94, nl_97, nl_98, nl_99, nl_100, nl_101, nl_102, nl_105, nl_108, nl_110, nl_111, nl_112, nl_113, nl_114, nl_115, nl_116, nl_117, nl_118, nl_119, nl_124, nl_126, nl_138, nl_140, nl_255, nl_720, nl_1024, nl_9999, nl_99999, nl_999999, nl_1000000, eq_self, Bool.false_eq_true, Bool.true_and, Bool.and_true, Bool.false_and, Bool.and_false, Bool.not_true, Bool.not_false, nI_toInt, or_true, true_or, or_false, false_or, nI_clamp, nI_leI, nI_ltI, nI_eq, e_nm, e_mn, e_mm, l_nm, l_mn, l_mm, le_nm, le_mn, le_mm, nI_add, nI_mull, nI_sub, nI_subn, nI_divl, nsm, qIn_nI, Nat.zero_le, Nat.not_lt_zero, Nat.reduceAdd, Nat.reduceMul, Nat.reduceSub, Nat.reduceDiv, Nat.reduceMod, Nat.reduceEqDiff, Nat.reduceLeDiff, Nat.reduceLT, Nat.add_zero, Nat.zero_add, not_false_eq_true, not_true_eq_false, true_and, and_true, Option.toList_some, Option.toList_none, List.cons_append, List.nil_append, qrf, if_true, if_false, if_pos, if_neg, reduceIte, ne_eq, Classical.not_not]
      exact hQ μ nFr_rf
    | true =>
      by_cases hxy : x = y
      · simp only [h1, h2, hxy, if_true] at hQ
        simp (disch := omega) only [x97_0, x97_1, x97_4, x97_5, x97_8, x97_11, x97_12, x97_15, x97_16, x97_19, x97_22, x97_23, x97_24, x97_36, x97_37, n_has hB hw h6, h1, h2, hxy, k0, k12, rN.2.1, ↓nm_1, ↓nm_2, ↓nm_3, ↓nm_4, ↓nm_11, ↓nm_12, ↓nm_13, ↓nm_14, ↓nm_100, nl_0, nl_1, nl_2, nl_3, nl_4, nl_5, nl_6, nl_7, nl_8, nl_9, nl_10, nl_11, nl_12, nl_13, nl_14, nl_15, nl_16, nl_17, nl_18, nl_19, nl_20, nl_22, nl_23, nl_24, nl_25, nl_30, nl_31, nl_34, nl_35, nl_40, nl_43, nl_46, nl_47, nl_48, nl_49, nl_50, nl_57, nl_58, nl_59, nl_63, nl_64, nl_94, nl_97, nl_98, nl_99, nl_100, nl_101, nl_102, nl_105, nl_108, nl_110, nl_111, nl_112, nl_113, nl_114, nl_115, nl_116, nl_117, nl_118, nl_119, nl_124, nl_126, nl_138, nl_140, nl_255, nl_720, nl_1024, nl_9999, nl_99999, nl_999999, nl_1000000, eq_self, Bool.false_eq_true, Bool.true_and, Bool.and_true, Bool.false_and, Bool.and_false, Bool.not_true, Bool.not_false, nI_toInt, or_true, true_or, or_false, false_or, nI_clamp, nI_leI, nI_ltI, nI_eq, e_nm, e_mn, e_mm, l_nm, l_mn, l_mm, le_nm, le_mn, le_mm, nI_add, nI_mull, nI_sub, nI_subn, nI_divl, nsm, qIn_nI, Nat.zero_le, Nat.not_lt_zero, Nat.reduceAdd, Nat.reduceMul, Nat.reduceSub, Nat.reduceDiv, Nat.reduceMod, Nat.reduceEqDiff, Nat.reduceLeDiff, Nat.reduceLT, Nat.add_zero, Nat.zero_add, not_false_eq_true, not_true_eq_false, true_and, and_true, Option.toList_some, Option.toList_none, List.cons_append, List.nil_append, qrf, if_true, if_false, if_pos, if_neg, reduceIte, ne_eq, Classical.not_not]
        exact hQ μ nFr_rf
      · cases h3 : isR z 3 with
        | false =>
          simp [h1, h2, h3, hxy] at hQ
          simp (disch := omega) only [x97_0, x97_1, x97_4, x97_5, x97_8, x97_11, x97_12, x97_15, x97_16, x97_19, x97_22, x97_23, x97_24, x97_27, x97_28, x97_31, x97_32, x97_33, x97_36, x97_37, n_has hB hw h6, rg2, h1, h2, h3, hxy, k0, k12, rN.2.1, ↓nm_1, ↓nm_2, ↓nm_3, ↓nm_4, ↓nm_11, ↓nm_12, ↓nm_13, ↓nm_14, ↓nm_100, nl_0, nl_1, nl_2, nl_3, nl_4, nl_5, nl_6, nl_7, nl_8, nl_9, nl_10, nl_11, nl_12, nl_13, nl_14, nl_15, nl_16, nl_17, nl_18, nl_19, nl_20, nl_22, nl_23, nl_24, nl_25, nl_30, nl_31, nl_34, nl_35, nl_40, nl_43, nl_46, nl_47, nl_48, nl_49, nl_50, nl_57, nl_58, nl_59, nl_63, nl_64, nl_94, nl_97, nl_98, nl_99, nl_100, nl_101, nl_102, nl_105, nl_108, nl_110, nl_111, nl_112, nl_113, nl_114, nl_115, nl_116, nl_117, nl_118, nl_119, nl_124, nl_126, nl_138, nl_140, nl_255, nl_720, nl_1024, nl_9999, nl_99999, nl_999999, nl_1000000, eq_self, Bool.false_eq_true, Bool.true_and, Bool.and_true, Bool.false_and, Bool.and_false, Bool.not_true, Bool.not_false, nI_toInt, or_true, true_or, or_false, false_or, nI_clamp, nI_leI, nI_ltI, nI_eq, e_nm, e_mn, e_mm, l_nm, l_mn, l_mm, le_nm, le_mn, le_mm, nI_add, nI_mull, nI_sub, nI_subn, nI_divl, nsm, qIn_nI, Nat.zero_le, Nat.not_lt_zero, Nat.reduceAdd, Nat.reduceMul, Nat.reduceSub, Nat.reduceDiv, Nat.reduceMod, Nat.reduceEqDiff, Nat.reduceLeDiff, Nat.reduceLT, Nat.add_zero, Nat.zero_add, not_false_eq_true, not_true_eq_false, true_and, and_true, Option.toList_some, Option.toList_none, List.cons_append, List.nil_append, qrf, if_true, if_false, if_pos, if_neg, reduceIte, ne_eq, Classical.not_not]
          exact hQ μ nFr_rf
        | true =>
          obtain ⟨p, hp, rfl⟩ := isR_ex h1 (by omega)
          obtain ⟨o, ho, rfl⟩ := isR_ex h2 (by omega)
          obtain ⟨n, hn, rfl⟩ := isR_ex h3 (by omega)
          have hpo : ¬ p = o := fun h => hxy (by rw [h])
          simp only [h1, h2, h3, hxy, if_true, if_false, nn_nI (show p < 2 ^ 31 by omega), nn_nI (show o < 2 ^ 31 by omega), nn_nI (show n < 2 ^ 31 by omega)] at hQ
          simp (disch := omega) only [x97_0, x97_1, x97_4, x97_5, x97_8, x97_11, x97_12, x97_15, x97_16, x97_19, x97_22, x97_23, x97_24, x97_27, x97_28, x97_31, x97_32, x97_33, x97_38, x97_39, x97_42, x97_43, x97_44, x97_45, x28_0, x28_1, x28_4, x28_5, x28_6, x28_7, x28_10, n_has hB hw h6, h1, h2, k0, k11, k12, qtOk (nTp hB (k := 0) (by omega)), rN.2.1, rN.2.2.2.2.2.2, rS.1, rS.2.2.2.1, rP, hA, ↓nm_1, ↓nm_2, ↓nm_3, ↓nm_4, ↓nm_11, ↓nm_12, ↓nm_13, ↓nm_14, ↓nm_100, nl_0, nl_1, nl_2, nl_3, nl_4, nl_5, nl_6, nl_7, nl_8, nl_9, nl_10, nl_11, nl_12, nl_13, nl_14, nl_15, nl_16, nl_17, nl_18, nl_19, nl_20, nl_22, nl_23, nl_24, nl_25, nl_30, nl_31, nl_34, nl_35, nl_40, nl_43, nl_46, nl_47, nl_48, nl_49, nl_50, nl_57, nl_58, nl_59, nl_63, nl_64, nl_94, nl_97, nl_98, nl_99, nl_100, nl_101, nl_102, nl_105, nl_108, nl_110, nl_111, nl_112, nl_113, nl_114, nl_115, nl_116, nl_117, nl_118, nl_119, nl_124, nl_126, nl_138, nl_140, nl_255, nl_720, nl_1024, nl_9999, nl_99999, nl_999999, nl_1000000, eq_self, Bool.false_eq_true, Bool.true_and, Bool.and_true, Bool.false_and, Bool.and_false, Bool.not_true, Bool.not_false, nI_toInt, or_true, true_or, or_false, false_or, nI_clamp, nI_leI, nI_ltI, nI_eq, e_nm, e_mn, e_mm, l_nm, l_mn, l_mm, le_nm, le_mn, le_mm, nI_add, nI_mull, nI_sub, nI_subn, nI_divl, nsm, qIn_nI, Nat.zero_le, Nat.not_lt_zero, Nat.reduceAdd, Nat.reduceMul, Nat.reduceSub, Nat.reduceDiv, Nat.reduceMod, Nat.reduceEqDiff, Nat.reduceLeDiff, Nat.reduceLT, Nat.add_zero, Nat.zero_add, not_false_eq_true, not_true_eq_false, true_and, and_true, Option.toList_some, Option.toList_none, List.cons_append, List.nil_append, qrf, if_true, if_false, if_pos, if_neg, reduceIte, ne_eq, Classical.not_not]
          refine c_become (nTp hB (k := 0) (by omega)) (nT12 hB) (by omega) hwf hw fun μ1 hf1 hw1 => ?_
          have hfr : nFr μ μ1 := fun a z1 z2 z3 => hf1 a (by omega)
          simp (disch := omega) only [x28_13, x28_14, x28_15, x28_16, x28_17, x28_18, x28_19, x28_20, k11, ↓nm_1, ↓nm_2, ↓nm_3, ↓nm_4, ↓nm_11, ↓nm_12, ↓nm_13, ↓nm_14, ↓nm_100, nl_0, nl_1, nl_2, nl_3, nl_4, nl_5, nl_6, nl_7, nl_8, nl_9, nl_10, nl_11, nl_12, nl_13, nl_14, nl_15, nl_16, nl_17, nl_18, nl_19, nl_20, nl_22, nl_23, nl_24, nl_25, nl_30, nl_31, nl_34, nl_35, nl_40, nl_43, nl_46, nl_47, nl_48, nl_49, nl_50, nl_57, nl_58, nl_59, nl_63, nl_64, nl_94, nl_97, nl_98, nl_99, nl_100, nl_101, nl_102, nl_105, nl_108, nl_110, nl_111, nl_112, nl_113, nl_114, nl_115, nl_116, nl_117, nl_118, nl_119, nl_124, nl_126, nl_138, nl_140, nl_255, nl_720, nl_1024, nl_9999, nl_99999, nl_999999, nl_1000000, eq_self, Bool.false_eq_true, Bool.true_and, Bool.and_true, Bool.false_and, Bool.and_false, Bool.not_true, Bool.not_false, nI_toInt, or_true, true_or, or_false, false_or, nI_clamp, nI_leI, nI_ltI, nI_eq, e_nm, e_mn, e_mm, l_nm, l_mn, l_mm, le_nm, le_mn, le_mm, nI_add, nI_mull, nI_sub, nI_subn, nI_divl, nsm, qIn_nI, Nat.zero_le, Nat.not_lt_zero, Nat.reduceAdd, Nat.reduceMul, Nat.reduceSub, Nat.reduceDiv, Nat.reduceMod, Nat.reduceEqDiff, Nat.reduceLeDiff, Nat.reduceLT, Nat.add_zero, Nat.zero_add, not_false_eq_true, not_true_eq_false, true_and, and_true, Option.toList_some, Option.toList_none, List.cons_append, List.nil_append, qrf, if_true, if_false, if_pos, if_neg, reduceIte, ne_eq, Classical.not_not]
          rcases (show n = 0 ∨ n = 1 ∨ n = 2 by omega) with rfl | rfl | rfl
          · refine n_play (d := d + 6) (N := N) (turns := 0) (one := p) (other := o) hB (by omega) 0 0 T μ1 _ (by omega) hwf hp ho (nRo_fr hro hfr) hw1 fun μ2 hf2 => ?_
            have hQ := hQ μ2 (nFr_tr hfr (pfr_F hf2))
            simp (disch := omega) only [x28_23, x97_48, ↓nm_1, ↓nm_2, ↓nm_3, ↓nm_4, ↓nm_11, ↓nm_12, ↓nm_13, ↓nm_14, ↓nm_100, nl_0, nl_1, nl_2, nl_3, nl_4, nl_5, nl_6, nl_7, nl_8, nl_9, nl_10, nl_11, nl_12, nl_13, nl_14, nl_15, nl_16, nl_17, nl_18, nl_19, nl_20, nl_22, nl_23, nl_24, nl_25, nl_30, nl_31, nl_34, nl_35, nl_40, nl_43, nl_46, nl_47, nl_48, nl_49, nl_50, nl_57, nl_58, nl_59, nl_63, nl_64, nl_94, nl_97, nl_98, nl_99, nl_100, nl_101, nl_102, nl_105, nl_108, nl_110, nl_111, nl_112, nl_113, nl_114, nl_115, nl_116, nl_117, nl_118, nl_119, nl_124, nl_126, nl_138, nl_140, nl_255, nl_720, nl_1024, nl_9999, nl_99999, nl_999999, nl_1000000, eq_self, Bool.false_eq_true, Bool.true_and, Bool.and_true, Bool.false_and, Bool.and_false, Bool.not_true, Bool.not_false, nI_toInt, or_true, true_or, or_false, false_or, nI_clamp, nI_leI, nI_ltI, nI_eq, e_nm, e_mn, e_mm, l_nm, l_mn, l_mm, le_nm, le_mn, le_mm, nI_add, nI_mull, nI_sub, nI_subn, nI_divl, nsm, qIn_nI, Nat.zero_le, Nat.not_lt_zero, Nat.reduceAdd, Nat.reduceMul, Nat.reduceSub, Nat.reduceDiv, Nat.reduceMod, Nat.reduceEqDiff, Nat.reduceLeDiff, Nat.reduceLT, Nat.add_zero, Nat.zero_add, not_false_eq_true, not_true_eq_false, true_and, and_true, Option.toList_some, Option.toList_none, List.cons_append, List.nil_append, qrf, if_true, if_false, if_pos, if_neg, reduceIte, ne_eq, Classical.not_not]
            exact hQ
          · refine n_play (d := d + 4) (N := N) (turns := 2) (one := p) (other := o) hB (by omega) 2 0 T μ1 _ (by omega) hwf hp ho (nRo_fr hro hfr) hw1 fun μ2 hf2 => ?_
            have hQ := hQ μ2 (nFr_tr hfr (pfr_F hf2))
            simp (disch := omega) only [x28_23, x97_48, ↓nm_1, ↓nm_2, ↓nm_3, ↓nm_4, ↓nm_11, ↓nm_12, ↓nm_13, ↓nm_14, ↓nm_100, nl_0, nl_1, nl_2, nl_3, nl_4, nl_5, nl_6, nl_7, nl_8, nl_9, nl_10, nl_11, nl_12, nl_13, nl_14, nl_15, nl_16, nl_17, nl_18, nl_19, nl_20, nl_22, nl_23, nl_24, nl_25, nl_30, nl_31, nl_34, nl_35, nl_40, nl_43, nl_46, nl_47, nl_48, nl_49, nl_50, nl_57, nl_58, nl_59, nl_63, nl_64, nl_94, nl_97, nl_98, nl_99, nl_100, nl_101, nl_102, nl_105, nl_108, nl_110, nl_111, nl_112, nl_113, nl_114, nl_115, nl_116, nl_117, nl_118, nl_119, nl_124, nl_126, nl_138, nl_140, nl_255, nl_720, nl_1024, nl_9999, nl_99999, nl_999999, nl_1000000, eq_self, Bool.false_eq_true, Bool.true_and, Bool.and_true, Bool.false_and, Bool.and_false, Bool.not_true, Bool.not_false, nI_toInt, or_true, true_or, or_false, false_or, nI_clamp, nI_leI, nI_ltI, nI_eq, e_nm, e_mn, e_mm, l_nm, l_mn, l_mm, le_nm, le_mn, le_mm, nI_add, nI_mull, nI_sub, nI_subn, nI_divl, nsm, qIn_nI, Nat.zero_le, Nat.not_lt_zero, Nat.reduceAdd, Nat.reduceMul, Nat.reduceSub, Nat.reduceDiv, Nat.reduceMod, Nat.reduceEqDiff, Nat.reduceLeDiff, Nat.reduceLT, Nat.add_zero, Nat.zero_add, not_false_eq_true, not_true_eq_false, true_and, and_true, Option.toList_some, Option.toList_none, List.cons_append, List.nil_append, qrf, if_true, if_false, if_pos, if_neg, reduceIte, ne_eq, Classical.not_not]
            exact hQ
          · refine n_play (d := d + 2) (N := N) (turns := 4) (one := p) (other := o) hB (by omega) 4 0 T μ1 _ (by omega) hwf hp ho (nRo_fr hro hfr) hw1 fun μ2 hf2 => ?_
            have hQ := hQ μ2 (nFr_tr hfr (pfr_F hf2))
            simp (disch := omega) only [x28_23, x97_48, ↓nm_1, ↓nm_2, ↓nm_3, ↓nm_4, ↓nm_11, ↓nm_12, ↓nm_13, ↓nm_14, ↓nm_100, nl_0, nl_1, nl_2, nl_3, nl_4, nl_5, nl_6, nl_7, nl_8, nl_9, nl_10, nl_11, nl_12, nl_13, nl_14, nl_15, nl_16, nl_17, nl_18, nl_19, nl_20, nl_22, nl_23, nl_24, nl_25, nl_30, nl_31, nl_34, nl_35, nl_40, nl_43, nl_46, nl_47, nl_48, nl_49, nl_50, nl_57, nl_58, nl_59, nl_63, nl_64, nl_94, nl_97, nl_98, nl_99, nl_100, nl_101, nl_102, nl_105, nl_108, nl_110, nl_111, nl_112, nl_113, nl_114, nl_115, nl_116, nl_117, nl_118, nl_119, nl_124, nl_126, nl_138, nl_140, nl_255, nl_720, nl_1024, nl_9999, nl_99999, nl_999999, nl_1000000, eq_self, Bool.false_eq_true, Bool.true_and, Bool.and_true, Bool.false_and, Bool.and_false, Bool.not_true, Bool.not_false, nI_toInt, or_true, true_or, or_false, false_or, nI_clamp, nI_leI, nI_ltI, nI_eq, e_nm, e_mn, e_mm, l_nm, l_mn, l_mm, le_nm, le_mn, le_mm, nI_add, nI_mull, nI_sub, nI_subn, nI_divl, nsm, qIn_nI, Nat.zero_le, Nat.not_lt_zero, Nat.reduceAdd, Nat.reduceMul, Nat.reduceSub, Nat.reduceDiv, Nat.reduceMod, Nat.reduceEqDiff, Nat.reduceLeDiff, Nat.reduceLT, Nat.add_zero, Nat.zero_add, not_false_eq_true, not_true_eq_false, true_and, and_true, Option.toList_some, Option.toList_none, List.cons_append, List.nil_append, qrf, if_true, if_false, if_pos, if_neg, reduceIte, ne_eq, Classical.not_not]
            exact hQ
end
