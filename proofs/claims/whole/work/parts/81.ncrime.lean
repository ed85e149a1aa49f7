/-! the class's crime -/
def nLa (μ : qMu) (T : qT) (p m : Nat) : Prop := ∀ k, k < m → μ 33 k = nI (lanT T p k)
def nCo (μ : qMu) (C : Nat → Nat) : Prop := ∀ i, i < 64 → μ 34 i = nI (C i)
section
variable {d N : Nat} {σ : qSg} {μ : qMu} {la : qLa} {Q : qPost} {b : List Nat} {T : qT} {as : List qT} {im : Nat → qT} {sh : Nat → wSh} {x y z : Int32}
/-- frames of the landings -/
def lfr (μ μ' : qMu) : Prop := ∀ a, ¬ (20 ≤ a ∧ a ≤ 29) → ¬ a = 33 → μ' a = μ a
theorem lfr_F {μ' : qMu} (h : lfr μ μ') : nFr μ μ' := fun a z1 z2 z3 => h a (by omega) (by omega)
theorem lfr_tr {μ1 μ2 : qMu} (h : lfr μ μ1) (g : lfr μ1 μ2) : lfr μ μ2 := fun a z1 z2 => (g a z1 z2).trans (h a z1 z2)
theorem n_landing {p f j x0 : Nat} (hB : qBN σ) (hwf : wfT N T) (hp : p < T 115) (hf : frB T p f = true) (hf64 : f < 64) (hj : j < 16) (hro : qRo μ) (hw : qTw μ 20 (upT T (1 + p) x0)) (hQ : ∀ μ' : qMu, (∀ a, ¬ (20 ≤ a ∧ a ≤ 29) → μ' a = μ a) → qTw μ' 20 (upT T (1 + p) f) → Q (some (.int (nI (lanT T p (16 * f + j))))) σ μ' la) : qEx (d + 2) 13 0 [] [.ref 11, .int (nI p), .int (nI f), .int (nI j)] σ μ la Q := by
  obtain ⟨k0, k1, k11, k12, k20, k75, k28, k295, k3⟩ := nOk hB
  have rS := hB.2.2.2.1
  have R := n20R hB
  have L := n20L hB
  have h6 := hwf.1
  obtain ⟨⟨q1, q5⟩, -, -, -, -⟩ := hwf.2.2.2.2.2.2.2.1 p hp
  have hwl := wf_land hwf hp hf
  have hfi := fine_b (k := j % 4)
  have e0 := lan_at (T := T) (p := p) (f := f) hj
  rw [hf, if_pos rfl] at e0
  rw [e0] at hQ
  have u115 : upT T (1 + p) x0 115 = T 115 := upT_o (by omega)
  have hw1 := qTw_at (p := p) (v := f) hw (by rw [u115]; exact h6) (by omega)
  have ee : upT (upT T (1 + p) x0) (1 + p) f = upT T (1 + p) f := by
    funext j
    by_cases hj : j = 1 + p
    · subst hj; rw [upT_s, upT_s]
    · rw [upT_o hj, upT_o hj, upT_o hj]
  rw [ee] at hw1
  have b2 := (n20P hw1 p (by rw [upT_o (by omega)]; exact hp)).1
  rw [upT_o (by omega)] at b2
  have I := n20I (μ := qset μ 23 p (nI f)) hB
  have hro1 : qRo (qset μ 23 p (nI f)) := qRo_fr hro (qset_ne (by omega)) (qset_ne (by omega)) (qset_ne (by omega))
  simp (disch := omega) only [x13_0, x13_1, x13_4, x13_7, x13_8, x13_9, x13_10, x13_11, x13_14, x13_15, x13_18, x13_19, x13_20, x13_23, x13_26, x13_27, x13_28, x13_29, x13_30, x13_31, x13_34, x13_35, x13_36, x13_37, x13_38, k11, k20, k28, rS.2.1, rS.2.2.1, R.2.1, R.2.2.1, L.2.2.1, I.2.1, b2, qIld0.2.1, ro_fine hro1 (show j % 4 < 4 by omega), ↓nm_1, ↓nm_2, ↓nm_3, ↓nm_4, ↓nm_11, ↓nm_12, ↓nm_13, ↓nm_14, ↓nm_100, nl_0, nl_1, nl_2, nl_3, nl_4, nl_5, nl_6, nl_7, nl_8, nl_9, nl_10, nl_11, nl_12, nl_13, nl_14, nl_15, nl_16, nl_17, nl_18, nl_19, nl_20, nl_22, nl_23, nl_24, nl_25, nl_30, nl_31, nl_34, nl_35, nl_40, nl_43, nl_46, nl_47, nl_48, nl_49, nl_50, nl_57, nl_58, nl_59, nl_63, nl_64, nl_94, nl_97, nl_98, nl_99, nl_100, nl_101, nl_102, nl_105, nl_108, nl_110, nl_111, nl_112, nl_113, nl_114, nl_115, nl_116, nl_117, nl_118, nl_119, nl_124, nl_126, nl_138, nl_140, nl_255, nl_720, nl_1024, nl_9999, nl_99999, nl_999999, nl_1000000, eq_self, Bool.false_eq_true, Bool.true_and, Bool.and_true, Bool.false_and, Bool.and_false, Bool.not_true, Bool.not_false, nI_toInt, or_true, true_or, or_false, false_or, nI_clamp, nI_leI, nI_ltI, nI_eq, e_nm, e_mn, e_mm, l_nm, l_mn, l_mm, le_nm, le_mn, le_mm, nI_add, nI_mull, nI_sub, nI_subn, nI_divl, nsm, qIn_nI, Nat.zero_le, Nat.not_lt_zero, Nat.reduceAdd, Nat.reduceMul, Nat.reduceSub, Nat.reduceDiv, Nat.reduceMod, Nat.reduceEqDiff, Nat.reduceLeDiff, Nat.reduceLT, Nat.add_zero, Nat.zero_add, not_false_eq_true, not_true_eq_false, true_and, and_true, Option.toList_some, Option.toList_none, List.cons_append, List.nil_append, qrf, if_true, if_false, if_pos, if_neg, reduceIte, ne_eq, Classical.not_not]
  refine c_trace (nT20 hB) (nWalk hB).1 (by omega) (by omega) hwl (by rw [upT_o (by omega)]; exact hp) q1 q5 (by omega) (by omega) hw1 hro1 fun μ1 hf1 hk1 => ?_
  have e2 : μ1 28 2 = nI (endP (upT T (1 + p) f) p (T (118 + p)) (j / 4) (fineT (j % 4))) := hk1.2.1
  simp (disch := omega) only [x13_41, x13_42, x13_45, x13_48, k11, k28, rS.2.2.1, e2, ↓nm_1, ↓nm_2, ↓nm_3, ↓nm_4, ↓nm_11, ↓nm_12, ↓nm_13, ↓nm_14, ↓nm_100, nl_0, nl_1, nl_2, nl_3, nl_4, nl_5, nl_6, nl_7, nl_8, nl_9, nl_10, nl_11, nl_12, nl_13, nl_14, nl_15, nl_16, nl_17, nl_18, nl_19, nl_20, nl_22, nl_23, nl_24, nl_25, nl_30, nl_31, nl_34, nl_35, nl_40, nl_43, nl_46, nl_47, nl_48, nl_49, nl_50, nl_57, nl_58, nl_59, nl_63, nl_64, nl_94, nl_97, nl_98, nl_99, nl_100, nl_101, nl_102, nl_105, nl_108, nl_110, nl_111, nl_112, nl_113, nl_114, nl_115, nl_116, nl_117, nl_118, nl_119, nl_124, nl_126, nl_138, nl_140, nl_255, nl_720, nl_1024, nl_9999, nl_99999, nl_999999, nl_1000000, eq_self, Bool.false_eq_true, Bool.true_and, Bool.and_true, Bool.false_and, Bool.and_false, Bool.not_true, Bool.not_false, nI_toInt, or_true, true_or, or_false, false_or, nI_clamp, nI_leI, nI_ltI, nI_eq, e_nm, e_mn, e_mm, l_nm, l_mn, l_mm, le_nm, le_mn, le_mm, nI_add, nI_mull, nI_sub, nI_subn, nI_divl, nsm, qIn_nI, Nat.zero_le, Nat.not_lt_zero, Nat.reduceAdd, Nat.reduceMul, Nat.reduceSub, Nat.reduceDiv, Nat.reduceMod, Nat.reduceEqDiff, Nat.reduceLeDiff, Nat.reduceLT, Nat.add_zero, Nat.zero_add, not_false_eq_true, not_true_eq_false, true_and, and_true, Option.toList_some, Option.toList_none, List.cons_append, List.nil_append, qrf, if_true, if_false, if_pos, if_neg, reduceIte, ne_eq, Classical.not_not]
  exact hQ μ1 (fun a ha => by rw [hf1 a (by omega) (by omega), qset_ne (by omega)]) (qTw_frame hw1 fun a _ _ => hf1 a (by omega) (by omega))
theorem n_land_in {p f : Nat} (hB : qBN σ) (hwf : wfT N T) (hp : p < T 115) (hf64 : f < 64) : ∀ (n k x0 : Nat) (μ : qMu), k + n = 16 → qRo μ → qTw μ 20 (upT T (1 + p) x0) → nLa μ T p (16 * f + k) → (∀ (μ' : qMu) (x0 : Nat), lfr μ μ' → qTw μ' 20 (upT T (1 + p) x0) → nLa μ' T p (16 * (f + 1)) → qEx (d + 3) 12 118 [] [.ref 11, .int (nI p), .int (nI f), .int (nI (if frB T p f then 1 else 0)), .int (nI 16)] σ μ' la Q) → qEx (d + 3) 12 77 [] [.ref 11, .int (nI p), .int (nI f), .int (nI (if frB T p f then 1 else 0)), .int (nI k)] σ μ la Q := by
  obtain ⟨k0, k1, k11, k12, k20, k75, k28, k295, k3⟩ := nOk hB
  have rS := hB.2.2.2.1
  have hL := (nLe hB).2.2.2.2.1
  have h6 := hwf.1
  intro n
  induction n with
  | zero =>
    intro k x0 μ hkn hro hw hl hQ
    have : k = 16 := by omega
    subst this
    rw [x12_77]
    simp (disch := omega) only [x12_79, x12_81, ↓nm_1, ↓nm_2, ↓nm_3, ↓nm_4, ↓nm_11, ↓nm_12, ↓nm_13, ↓nm_14, ↓nm_100, nl_0, nl_1, nl_2, nl_3, nl_4, nl_5, nl_6, nl_7, nl_8, nl_9, nl_10, nl_11, nl_12, nl_13, nl_14, nl_15, nl_16, nl_17, nl_18, nl_19, nl_20, nl_22, nl_23, nl_24, nl_25, nl_30, nl_31, nl_34, nl_35, nl_40, nl_43, nl_46, nl_47, nl_48, nl_49, nl_50, nl_57, nl_58, nl_59, nl_63, nl_64, nl_94, nl_97, nl_98, nl_99, nl_100, nl_101, nl_102, nl_105, nl_108, nl_110, nl_111, nl_112, nl_113, nl_114, nl_115, nl_116, nl_117, nl_118, nl_119, nl_124, nl_126, nl_138, nl_140, nl_255, nl_720, nl_1024, nl_9999, nl_99999, nl_999999, nl_1000000, eq_self, Bool.false_eq_true, Bool.true_and, Bool.and_true, Bool.false_and, Bool.and_false, Bool.not_true, Bool.not_false, nI_toInt, or_true, true_or, or_false, false_or, nI_clamp, nI_leI, nI_ltI, nI_eq, e_nm, e_mn, e_mm, l_nm, l_mn, l_mm, le_nm, le_mn, le_mm, nI_add, nI_mull, nI_sub, nI_subn, nI_divl, nsm, qIn_nI, Nat.zero_le, Nat.not_lt_zero, Nat.reduceAdd, Nat.reduceMul, Nat.reduceSub, Nat.reduceDiv, Nat.reduceMod, Nat.reduceEqDiff, Nat.reduceLeDiff, Nat.reduceLT, Nat.add_zero, Nat.zero_add, not_false_eq_true, not_true_eq_false, true_and, and_true, Option.toList_some, Option.toList_none, List.cons_append, List.nil_append, qrf, if_true, if_false, if_pos, if_neg, reduceIte, ne_eq, Classical.not_not]
    exact hQ μ x0 (fun _ _ _ => rfl) hw (by rw [show 16 * (f + 1) = 16 * f + 16 by omega]; exact hl)
  | succ n ih =>
    intro k x0 μ hkn hro hw hl hQ
    have e0 := lan_at (T := T) (p := p) (f := f) (j := k) (by omega)
    have step : ∀ (μ1 : qMu) (x1 v : Nat), lfr μ μ1 → qTw μ1 20 (upT T (1 + p) x1) → v = lanT T p (16 * f + k) → qEx (d + 3) 12 77 [] [.ref 11, .int (nI p), .int (nI f), .int (nI (if frB T p f then 1 else 0)), .int (nI (k + 1))] σ (qset μ1 33 (16 * f + k) (nI v)) la Q := by
      intro μ1 x1 v hf1 hw1 hv
      refine ih (k + 1) x1 _ (by omega) (qRo_fr hro ?_ ?_ ?_) (qTw_frame hw1 fun a _ _ => qset_ne (by omega)) (fun i hi => ?_) fun μ' x0 hf hq hn => hQ μ' x0 (lfr_tr hf1 (lfr_tr (fun a _ z => qset_ne z) hf)) hq hn
      · rw [qset_ne (by omega)]; exact hf1 _ (by omega) (by omega)
      · rw [qset_ne (by omega)]; exact hf1 _ (by omega) (by omega)
      · rw [qset_ne (by omega)]; exact hf1 _ (by omega) (by omega)
      · by_cases hik : i = 16 * f + k
        · subst hik; rw [qset_s, hv]
        · rw [qset_k hik]
          sorry
    rw [x12_77]
    sorry
end
