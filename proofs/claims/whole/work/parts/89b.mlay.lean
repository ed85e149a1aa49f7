/-! the order in which most is walked: the reference's rows -/
def kM (j : Nat) : Int32 := if j = 0 then mI 1 else nI (j - 1)
theorem kM_dec : ∀ j, j < 2000 → nI j + mI 1 = kM j := fun j hj => by
  unfold kM
  by_cases h : j = 0
  · subst h; rfl
  · rw [if_neg h]
    obtain ⟨i, rfl⟩ : ∃ i, j = i + 1 := ⟨j - 1, by omega⟩
    rw [Nat.add_sub_cancel, ← nI_add, show (mI 1 : Int32) = -(nI 1) from rfl, Int32.add_neg_eq_sub, Int32.add_sub_cancel]
theorem orS : ∀ a, a < 64 → ∀ p, p < 6 → nI a ||| nI 1 <<< (nI p &&& nI 31) = nI (a ||| 2 ^ p) ∧ a ||| 2 ^ p < 64 := by decide +kernel
theorem orZ : ∀ a, a < 64 → nI a ||| nI 0 = nI a := by decide +kernel
theorem metL_lt {m : Nat} (hm : m ≤ 6) (h1 : 1 ≤ m) : ∀ (k c a : Nat), a < 64 → metL m k c a < 64 := by
  intro k
  induction k with
  | zero => intro c a h; exact h
  | succ k ih => intro c a h; exact ih _ _ (orS a h _ (by have := Nat.mod_lt c (show 0 < m by omega); omega)).2
theorem digL_len {m : Nat} : ∀ k c, (digL m k c).length = k := by
  intro k
  induction k with
  | zero => intro c; rfl
  | succ k ih => intro c; show (digL m k (c / m) ++ [c % m]).length = k + 1; rw [List.length_append, ih]; rfl
section
variable {d N : Nat} {σ : qSg} {μ : qMu} {la : qLa} {Q : qPost} {T : qT}
theorem c_mlay_loop {m n code w : Nat} (hB : qBM σ) (hm : m ≤ 6) (h1 : 1 ≤ m) : ∀ (j rest met : Nat) (μ : qMu), j ≤ 6 → rest ≤ 100000 → met < 64 → μ 302 115 = nI m →
    (∀ (μ' : qMu) (l4 l6 : Value), (∀ a, ¬ a = 311 → μ' a = μ a) → (∀ i, i < j → μ' 311 i = nI ((digL m j rest).getD i 0)) → (∀ i, j ≤ i → μ' 311 i = μ 311 i) → qEx d 173 65 [] [.ref 297, .int (nI code), .int (nI n), .int (nI w), l4, .int (nI (metL m j rest met)), l6] σ μ' la Q) →
    qEx d 173 11 [] [.ref 297, .int (nI code), .int (nI n), .int (nI w), .int (nI rest), .int (nI met), .int (kM j)] σ μ la Q := by
  have hk := mOk hB
  obtain ⟨r0, r1, r2, r4, r6, r7, r8, r9, r10, r11, r12, r14, r19, r20, r21, -⟩ := mR hB
  have hI2 : ∀ μ : qMu, qIld σ μ 302 = 124 := fun μ => (mI302 (μ := μ) hB).1
  have hI : ∀ μ : qMu, qIld σ μ 311 = 6 := fun μ => (qaI (μ := μ) (mArr hB).2.2.2.2.2.2.2.2.2.2.1).1
  have hL : qLen σ 10 311 = 6 := (qaI (μ := fun _ _ => 0) (mArr hB).2.2.2.2.2.2.2.2.2.2.1).2.1
  intro j
  induction j with
  | zero =>
    intro rest met μ hj hr hmt h115 hQ
    rw [x173_11]
    simp (disch := omega) only [x173_13, kM, ↓nm_1, ↓nm_2, ↓nm_3, ↓nm_4, ↓nm_11, ↓nm_12, ↓nm_13, ↓nm_14, ↓nm_100, nl_0, nl_1, nl_2, nl_3, nl_4, nl_5, nl_6, nl_7, nl_8, nl_9, nl_10, nl_11, nl_12, nl_13, nl_14, nl_15, nl_16, nl_17, nl_18, nl_19, nl_20, nl_22, nl_23, nl_24, nl_25, nl_30, nl_31, nl_34, nl_35, nl_40, nl_43, nl_46, nl_47, nl_48, nl_49, nl_50, nl_57, nl_58, nl_59, nl_63, nl_64, nl_94, nl_97, nl_98, nl_99, nl_100, nl_101, nl_102, nl_105, nl_108, nl_110, nl_111, nl_112, nl_113, nl_114, nl_115, nl_116, nl_117, nl_118, nl_119, nl_124, nl_126, nl_138, nl_140, nl_255, nl_720, nl_1024, nl_9999, nl_99999, nl_999999, nl_1000000, eq_self, Bool.false_eq_true, Bool.true_and, Bool.and_true, Bool.false_and, Bool.and_false, Bool.not_true, Bool.not_false, nI_toInt, or_true, true_or, or_false, false_or, nI_clamp, nI_leI, nI_ltI, nI_eq, e_nm, e_mn, e_mm, l_nm, l_mn, l_mm, le_nm, le_mn, le_mm, nI_add, nI_mull, nI_sub, nI_subn, nI_divl, nsm, qIn_nI, Nat.zero_le, Nat.not_lt_zero, Nat.reduceAdd, Nat.reduceMul, Nat.reduceSub, Nat.reduceDiv, Nat.reduceMod, Nat.reduceEqDiff, Nat.reduceLeDiff, Nat.reduceLT, Nat.add_zero, Nat.zero_add, not_false_eq_true, not_true_eq_false, true_and, and_true, Option.toList_some, Option.toList_none, List.cons_append, List.nil_append, qrf, if_true, if_false, if_pos, if_neg, reduceIte, ne_eq, Classical.not_not]
    exact hQ μ _ _ (fun _ _ => rfl) (fun i hi => absurd hi (Nat.not_lt_zero i)) (fun _ _ => rfl)
  | succ j ih =>
    intro rest met μ hj hr hmt h115 hQ
    have hmod := Nat.mod_lt rest (show 0 < m by omega)
    have e := orS met hmt (rest % m) (by omega)
    have hd : rest / m ≤ rest := Nat.div_le_self _ _
    have next := ih (rest / m) (met ||| 2 ^ (rest % m)) (qset μ 311 j (nI (rest % m))) (by omega) (by omega) e.2 (by rw [qset_o (by decide)]; exact h115) fun μ' l4 l6 f1 f2 f3 => hQ μ' l4 l6 (fun a ha => by rw [f1 a ha]; exact set_f ha) (fun i hi => ?_) (fun i hi => ?_)
    · rw [x173_11]
      rw [← kM_dec _ (by omega)] at next
      simp (disch := omega) only [x173_0, x173_1, x173_3, x173_4, x173_6, x173_7, x173_8, x173_9, x173_13, x173_16, x173_17, x173_20, x173_22, x173_24, x173_25, x173_28, x173_30, x173_31, x173_32, x173_33, x173_35, x173_36, x173_39, x173_41, x173_42, x173_43, x173_45, x173_47, x173_48, x173_49, x173_52, x173_54, x173_55, x173_56, x173_57, x173_59, x173_62, x173_67, x173_68, x173_71, x173_72, x173_75, x173_76, show kM (j + 1) = nI j from rfl, hk, r6, r20, hI2, hI, hL, h115, nI_rem', qset_s, qset_o, e.1, ↓nm_1, ↓nm_2, ↓nm_3, ↓nm_4, ↓nm_11, ↓nm_12, ↓nm_13, ↓nm_14, ↓nm_100, nl_0, nl_1, nl_2, nl_3, nl_4, nl_5, nl_6, nl_7, nl_8, nl_9, nl_10, nl_11, nl_12, nl_13, nl_14, nl_15, nl_16, nl_17, nl_18, nl_19, nl_20, nl_22, nl_23, nl_24, nl_25, nl_30, nl_31, nl_34, nl_35, nl_40, nl_43, nl_46, nl_47, nl_48, nl_49, nl_50, nl_57, nl_58, nl_59, nl_63, nl_64, nl_94, nl_97, nl_98, nl_99, nl_100, nl_101, nl_102, nl_105, nl_108, nl_110, nl_111, nl_112, nl_113, nl_114, nl_115, nl_116, nl_117, nl_118, nl_119, nl_124, nl_126, nl_138, nl_140, nl_255, nl_720, nl_1024, nl_9999, nl_99999, nl_999999, nl_1000000, eq_self, Bool.false_eq_true, Bool.true_and, Bool.and_true, Bool.false_and, Bool.and_false, Bool.not_true, Bool.not_false, nI_toInt, or_true, true_or, or_false, false_or, nI_clamp, nI_leI, nI_ltI, nI_eq, e_nm, e_mn, e_mm, l_nm, l_mn, l_mm, le_nm, le_mn, le_mm, nI_add, nI_mull, nI_sub, nI_subn, nI_divl, nsm, qIn_nI, Nat.zero_le, Nat.not_lt_zero, Nat.reduceAdd, Nat.reduceMul, Nat.reduceSub, Nat.reduceDiv, Nat.reduceMod, Nat.reduceEqDiff, Nat.reduceLeDiff, Nat.reduceLT, Nat.add_zero, Nat.zero_add, not_false_eq_true, not_true_eq_false, true_and, and_true, Option.toList_some, Option.toList_none, List.cons_append, List.nil_append, qrf, if_true, if_false, if_pos, if_neg, reduceIte, ne_eq, Classical.not_not]
      exact ⟨by omega, by omega, next⟩
    · show μ' 311 i = nI ((digL m j (rest / m) ++ [rest % m]).getD i 0)
      by_cases h : i = j
      · subst h
        rw [f3 i (by omega), qset_s, List.getD_eq_getElem?_getD, List.getElem?_append_right (by rw [digL_len]; omega), digL_len]
        simp
      · rw [f2 i (by omega), List.getD_eq_getElem?_getD, List.getD_eq_getElem?_getD, List.getElem?_append_left (by rw [digL_len]; omega)]
    · rw [f3 i (by omega), qset_k (by omega)]
theorem c_mlayRow {m n code w : Nat} (hB : qBM σ) (hm : m ≤ 6) (h1 : 1 ≤ m) (hn : n ≤ 6) (hc : code ≤ 100000) (hw : w < 64) (h115 : μ 302 115 = nI m)
    (hQ : ∀ μ' : qMu, (∀ a, ¬ a = 311 → μ' a = μ a) → (∀ i, i < n → μ' 311 i = nI ((digL m n code).getD i 0)) → Q (some (.int (if metL m n code 0 = w then nI 1 else nI 0))) σ μ' la) :
    qEx d 173 0 [] [.ref 297, .int (nI code), .int (nI n), .int (nI w), .retAddr 0, .retAddr 0, .retAddr 0] σ μ la Q := by
  have hsub : nI n - nI 1 = kM n := by
    rw [← kM_dec n (by omega), show (mI 1 : Int32) = -(nI 1) from rfl, Int32.add_neg_eq_sub]
  simp (disch := omega) only [x173_0, x173_1, x173_3, x173_4, x173_6, x173_7, x173_8, x173_9, hsub, ↓nm_1, ↓nm_2, ↓nm_3, ↓nm_4, ↓nm_11, ↓nm_12, ↓nm_13, ↓nm_14, ↓nm_100, nl_0, nl_1, nl_2, nl_3, nl_4, nl_5, nl_6, nl_7, nl_8, nl_9, nl_10, nl_11, nl_12, nl_13, nl_14, nl_15, nl_16, nl_17, nl_18, nl_19, nl_20, nl_22, nl_23, nl_24, nl_25, nl_30, nl_31, nl_34, nl_35, nl_40, nl_43, nl_46, nl_47, nl_48, nl_49, nl_50, nl_57, nl_58, nl_59, nl_63, nl_64, nl_94, nl_97, nl_98, nl_99, nl_100, nl_101, nl_102, nl_105, nl_108, nl_110, nl_111, nl_112, nl_113, nl_114, nl_115, nl_116, nl_117, nl_118, nl_119, nl_124, nl_126, nl_138, nl_140, nl_255, nl_720, nl_1024, nl_9999, nl_99999, nl_999999, nl_1000000]
  refine c_mlay_loop hB hm h1 n code 0 μ hn hc (by decide) h115 fun μ' l4 l6 f1 f2 f3 => ?_
  have hlt := metL_lt hm h1 n code 0 (by decide)
  have key := hQ μ' f1 f2
  by_cases hmw : metL m n code 0 = w
  · rw [if_pos hmw] at key
    simp (disch := omega) only [x173_65, x173_67, x173_68, x173_71, x173_72, x173_76, hmw, ↓nm_1, ↓nm_2, ↓nm_3, ↓nm_4, ↓nm_11, ↓nm_12, ↓nm_13, ↓nm_14, ↓nm_100, nl_0, nl_1, nl_2, nl_3, nl_4, nl_5, nl_6, nl_7, nl_8, nl_9, nl_10, nl_11, nl_12, nl_13, nl_14, nl_15, nl_16, nl_17, nl_18, nl_19, nl_20, nl_22, nl_23, nl_24, nl_25, nl_30, nl_31, nl_34, nl_35, nl_40, nl_43, nl_46, nl_47, nl_48, nl_49, nl_50, nl_57, nl_58, nl_59, nl_63, nl_64, nl_94, nl_97, nl_98, nl_99, nl_100, nl_101, nl_102, nl_105, nl_108, nl_110, nl_111, nl_112, nl_113, nl_114, nl_115, nl_116, nl_117, nl_118, nl_119, nl_124, nl_126, nl_138, nl_140, nl_255, nl_720, nl_1024, nl_9999, nl_99999, nl_999999, nl_1000000, eq_self, Bool.false_eq_true, Bool.true_and, Bool.and_true, Bool.false_and, Bool.and_false, Bool.not_true, Bool.not_false, nI_toInt, or_true, true_or, or_false, false_or, nI_clamp, nI_leI, nI_ltI, nI_eq, e_nm, e_mn, e_mm, l_nm, l_mn, l_mm, le_nm, le_mn, le_mm, nI_add, nI_mull, nI_sub, nI_subn, nI_divl, nsm, qIn_nI, Nat.zero_le, Nat.not_lt_zero, Nat.reduceAdd, Nat.reduceMul, Nat.reduceSub, Nat.reduceDiv, Nat.reduceMod, Nat.reduceEqDiff, Nat.reduceLeDiff, Nat.reduceLT, Nat.add_zero, Nat.zero_add, not_false_eq_true, not_true_eq_false, true_and, and_true, Option.toList_some, Option.toList_none, List.cons_append, List.nil_append, qrf, if_true, if_false, if_pos, if_neg, reduceIte, ne_eq, Classical.not_not]
    exact key
  · rw [if_neg hmw] at key
    simp (disch := omega) only [x173_65, x173_67, x173_68, x173_75, x173_76, ↓nm_1, ↓nm_2, ↓nm_3, ↓nm_4, ↓nm_11, ↓nm_12, ↓nm_13, ↓nm_14, ↓nm_100, nl_0, nl_1, nl_2, nl_3, nl_4, nl_5, nl_6, nl_7, nl_8, nl_9, nl_10, nl_11, nl_12, nl_13, nl_14, nl_15, nl_16, nl_17, nl_18, nl_19, nl_20, nl_22, nl_23, nl_24, nl_25, nl_30, nl_31, nl_34, nl_35, nl_40, nl_43, nl_46, nl_47, nl_48, nl_49, nl_50, nl_57, nl_58, nl_59, nl_63, nl_64, nl_94, nl_97, nl_98, nl_99, nl_100, nl_101, nl_102, nl_105, nl_108, nl_110, nl_111, nl_112, nl_113, nl_114, nl_115, nl_116, nl_117, nl_118, nl_119, nl_124, nl_126, nl_138, nl_140, nl_255, nl_720, nl_1024, nl_9999, nl_99999, nl_999999, nl_1000000, eq_self, Bool.false_eq_true, Bool.true_and, Bool.and_true, Bool.false_and, Bool.and_false, Bool.not_true, Bool.not_false, nI_toInt, or_true, true_or, or_false, false_or, nI_clamp, nI_leI, nI_ltI, nI_eq, e_nm, e_mn, e_mm, l_nm, l_mn, l_mm, le_nm, le_mn, le_mm, nI_add, nI_mull, nI_sub, nI_subn, nI_divl, nsm, qIn_nI, Nat.zero_le, Nat.not_lt_zero, Nat.reduceAdd, Nat.reduceMul, Nat.reduceSub, Nat.reduceDiv, Nat.reduceMod, Nat.reduceEqDiff, Nat.reduceLeDiff, Nat.reduceLT, Nat.add_zero, Nat.zero_add, not_false_eq_true, not_true_eq_false, true_and, and_true, Option.toList_some, Option.toList_none, List.cons_append, List.nil_append, qrf, if_true, if_false, if_pos, if_neg, reduceIte, ne_eq, Classical.not_not]
    exact key
end
