/-! the law -/
section
variable {d L : Nat} {xs : Nat → Int32} {ρ : qRho} {Q : qPost}
set_option maxHeartbeats 4000000 in
theorem law_one {N i : Nat} {S : wS} {μ : qMu} {la : qLa} (hL : L ≤ 384) (hi : i + 6 ≤ L) (hN : N + 1 ≤ 1000) (h : lI L xs ρ N S μ la) (next : ∀ (S' : wS) (μ' : qMu) (la' : qLa), lI L xs ρ (N + 1) S' μ' la' → qEx (d + 30) 210 1424 [] [.ref 1003, .ref 0, .ref 297, .int (nI i)] (315, ρ) μ' la' Q) (x : Int32) : qEx (d + 30) 210 33 [.int x] [.ref 1003, .ref 0, .ref 297, .int (nI i)] (315, ρ) μ la Q := by
  rw [x210_33]
  by_cases h0 : x.toInt = 0
  · rw [if_pos h0]; exact lc_0 hL hi hN h next
  rw [if_neg h0]
  by_cases h1 : x.toInt = 1
  · rw [if_pos h1]; exact lc_1 hL hi hN h next
  rw [if_neg h1]
  by_cases h2 : x.toInt = 2
  · rw [if_pos h2]; exact lc_2 hL hi hN h next
  rw [if_neg h2]
  by_cases h3 : x.toInt = 3
  · rw [if_pos h3]; exact lc_3 hL hi hN h next
  rw [if_neg h3]
  by_cases h4 : x.toInt = 4
  · rw [if_pos h4]; exact lc_4 hL hi hN h next
  rw [if_neg h4]
  by_cases h5 : x.toInt = 5
  · rw [if_pos h5]; exact lc_5 hL hi hN h next
  rw [if_neg h5]
  by_cases h6 : x.toInt = 6
  · rw [if_pos h6]; exact lc_6 hL hi hN h next
  rw [if_neg h6]
  by_cases h7 : x.toInt = 7
  · rw [if_pos h7]; exact lc_7 hL hi hN h next
  rw [if_neg h7]
  by_cases h8 : x.toInt = 8
  · rw [if_pos h8]; exact lc_8 hL hi hN h next
  rw [if_neg h8]
  by_cases h9 : x.toInt = 9
  · rw [if_pos h9]; exact lc_9 hL hi hN h next
  rw [if_neg h9]
  by_cases h10 : x.toInt = 10
  · rw [if_pos h10]; exact lc_10 hL hi hN h next
  rw [if_neg h10]
  by_cases h11 : x.toInt = 11
  · rw [if_pos h11]; exact lc_11 hL hi hN h next
  rw [if_neg h11]
  by_cases h12 : x.toInt = 12
  · rw [if_pos h12]; exact lc_12 hL hi hN h next
  rw [if_neg h12]
  by_cases h13 : x.toInt = 13
  · rw [if_pos h13]; exact lc_13 hL hi hN h next
  rw [if_neg h13]
  by_cases h14 : x.toInt = 14
  · rw [if_pos h14]; exact lc_14 hL hi hN h next
  rw [if_neg h14]
  by_cases h15 : x.toInt = 15
  · rw [if_pos h15]; exact lc_15 hL hi hN h next
  rw [if_neg h15]
  by_cases h16 : x.toInt = 16
  · rw [if_pos h16]; exact lc_16 hL hi hN h next
  rw [if_neg h16]
  by_cases h17 : x.toInt = 17
  · rw [if_pos h17]; exact lc_17 hL hi hN h next
  rw [if_neg h17]
  by_cases h18 : x.toInt = 18
  · rw [if_pos h18]; exact lc_18 hL hi hN h next
  rw [if_neg h18]
  by_cases h19 : x.toInt = 19
  · rw [if_pos h19]; exact lc_19 hL hi hN h next
  rw [if_neg h19]
  by_cases h20 : x.toInt = 20
  · rw [if_pos h20]; exact lc_20 hL hi hN h next
  rw [if_neg h20]
  by_cases h21 : x.toInt = 21
  · rw [if_pos h21]; exact lc_21 hL hi hN h next
  rw [if_neg h21]
  by_cases h22 : x.toInt = 22
  · rw [if_pos h22]; exact lc_22 hL hi hN h next
  rw [if_neg h22]
  by_cases h23 : x.toInt = 23
  · rw [if_pos h23]; exact lc_23 hL hi hN h next
  rw [if_neg h23]
  by_cases h24 : x.toInt = 24
  · rw [if_pos h24]; exact lc_24 hL hi hN h next
  rw [if_neg h24]
  by_cases h25 : x.toInt = 25
  · rw [if_pos h25]; exact lc_25 hL hi hN h next
  rw [if_neg h25]
  by_cases h26 : x.toInt = 26
  · rw [if_pos h26]; exact lc_26 hL hi hN h next
  rw [if_neg h26]
  by_cases h27 : x.toInt = 27
  · rw [if_pos h27]; exact lc_27 hL hi hN h next
  rw [if_neg h27]
  by_cases h28 : x.toInt = 28
  · rw [if_pos h28]; exact lc_28 hL hi hN h next
  rw [if_neg h28]
  by_cases h29 : x.toInt = 29
  · rw [if_pos h29]; exact lc_29 hL hi hN h next
  rw [if_neg h29]
  by_cases h30 : x.toInt = 30
  · rw [if_pos h30]; exact lc_30 hL hi hN h next
  rw [if_neg h30]
  by_cases h31 : x.toInt = 31
  · rw [if_pos h31]; exact lc_31 hL hi hN h next
  rw [if_neg h31]
  by_cases h32 : x.toInt = 32
  · rw [if_pos h32]; exact lc_32 hL hi hN h next
  rw [if_neg h32]
  by_cases h33 : x.toInt = 33
  · rw [if_pos h33]; exact lc_33 hL hi hN h next
  rw [if_neg h33]
  by_cases h34 : x.toInt = 34
  · rw [if_pos h34]; exact lc_34 hL hi hN h next
  rw [if_neg h34]
  exact next _ _ _ ⟨P_up h.1 hN, h.2⟩
theorem law_loop (hL : L ≤ 384) (hQ : ∀ (μ : qMu) (la : qLa), Q (some (.int (nI 1))) (315, ρ) μ la) : ∀ (f i N : Nat) (S : wS) (μ : qMu) (la : qLa), L ≤ i + 6 * f + 5 → i ≤ 384 → N + f ≤ 1000 → lI L xs ρ N S μ la → qEx (d + 30) 210 18 [] [.ref 1003, .ref 0, .ref 297, .int (nI i)] (315, ρ) μ la Q := by
  have hs : (qSh 1003).1 = 22 := rfl
  have out : ∀ (i N : Nat) (S : wS) (μ : qMu) (la : qLa), L < i + 6 → i ≤ 384 → lI L xs ρ N S μ la → qEx (d + 30) 210 18 [] [.ref 1003, .ref 0, .ref 297, .int (nI i)] (315, ρ) μ la Q := by
    intro i N S μ la hi hi2 h
    have ho := h.2.2.2.2
    by_cases h6 : 6 ≤ L
    · simp (disch := omega) only [x210_18, x210_19, x210_20, x210_21, x210_23, x210_24, x210_1430, x210_1431, hs, lw_ln ho, ↓nm_1, ↓nm_2, ↓nm_3, ↓nm_4, ↓nm_11, ↓nm_12, ↓nm_13, ↓nm_14, ↓nm_100, nl_0, nl_1, nl_2, nl_3, nl_4, nl_5, nl_6, nl_7, nl_8, nl_9, nl_10, nl_11, nl_12, nl_13, nl_14, nl_15, nl_16, nl_17, nl_18, nl_19, nl_20, nl_22, nl_23, nl_24, nl_25, nl_30, nl_31, nl_34, nl_35, nl_40, nl_43, nl_46, nl_47, nl_48, nl_49, nl_50, nl_57, nl_58, nl_59, nl_63, nl_64, nl_94, nl_97, nl_98, nl_99, nl_100, nl_101, nl_102, nl_105, nl_108, nl_110, nl_111, nl_112, nl_113, nl_114, nl_115, nl_116, nl_117, nl_118, nl_119, nl_124, nl_126, nl_138, nl_140, nl_255, nl_720, nl_1024, nl_9999, nl_99999, nl_999999, nl_1000000, eq_self, Bool.false_eq_true, Bool.true_and, Bool.and_true, Bool.false_and, Bool.and_false, Bool.not_true, Bool.not_false, nI_toInt, or_true, true_or, or_false, false_or, nI_clamp, nI_leI, nI_ltI, nI_eq, e_nm, e_mn, e_mm, l_nm, l_mn, l_mm, le_nm, le_mn, le_mm, nI_add, nI_mull, nI_sub, nI_subn, nI_divl, nsm, qIn_nI, Nat.zero_le, Nat.not_lt_zero, Nat.reduceAdd, Nat.reduceMul, Nat.reduceSub, Nat.reduceDiv, Nat.reduceMod, Nat.reduceEqDiff, Nat.reduceLeDiff, Nat.reduceLT, Nat.add_zero, Nat.zero_add, not_false_eq_true, not_true_eq_false, true_and, and_true, Option.toList_some, Option.toList_none, List.cons_append, List.nil_append, qrf, if_true, if_false, if_pos, if_neg, reduceIte, ne_eq, Classical.not_not]
      exact hQ _ _
    · simp (disch := omega) only [x210_18, x210_19, x210_20, x210_21, x210_23, x210_24, x210_1430, x210_1431, hs, lw_ln ho, ↓nm_1, ↓nm_2, ↓nm_3, ↓nm_4, ↓nm_11, ↓nm_12, ↓nm_13, ↓nm_14, ↓nm_100, nl_0, nl_1, nl_2, nl_3, nl_4, nl_5, nl_6, nl_7, nl_8, nl_9, nl_10, nl_11, nl_12, nl_13, nl_14, nl_15, nl_16, nl_17, nl_18, nl_19, nl_20, nl_22, nl_23, nl_24, nl_25, nl_30, nl_31, nl_34, nl_35, nl_40, nl_43, nl_46, nl_47, nl_48, nl_49, nl_50, nl_57, nl_58, nl_59, nl_63, nl_64, nl_94, nl_97, nl_98, nl_99, nl_100, nl_101, nl_102, nl_105, nl_108, nl_110, nl_111, nl_112, nl_113, nl_114, nl_115, nl_116, nl_117, nl_118, nl_119, nl_124, nl_126, nl_138, nl_140, nl_255, nl_720, nl_1024, nl_9999, nl_99999, nl_999999, nl_1000000, eq_self, Bool.false_eq_true, Bool.true_and, Bool.and_true, Bool.false_and, Bool.and_false, Bool.not_true, Bool.not_false, nI_toInt, or_true, true_or, or_false, false_or, nI_clamp, nI_leI, nI_ltI, nI_eq, e_nm, e_mn, e_mm, l_nm, l_mn, l_mm, le_nm, le_mn, le_mm, nI_add, nI_mull, nI_sub, nI_subn, nI_divl, nsm, qIn_nI, Nat.zero_le, Nat.not_lt_zero, Nat.reduceAdd, Nat.reduceMul, Nat.reduceSub, Nat.reduceDiv, Nat.reduceMod, Nat.reduceEqDiff, Nat.reduceLeDiff, Nat.reduceLT, Nat.add_zero, Nat.zero_add, not_false_eq_true, not_true_eq_false, true_and, and_true, Option.toList_some, Option.toList_none, List.cons_append, List.nil_append, qrf, if_true, if_false, if_pos, if_neg, reduceIte, ne_eq, Classical.not_not]
      exact hQ _ _
  intro f
  induction f with
  | zero =>
    intro i N S μ la hf hi hN h
    exact out i N S μ la (by omega) hi h
  | succ f ih =>
    intro i N S μ la hf hi hN h
    by_cases hlt : L < i + 6
    · exact out i N S μ la hlt hi h
    · have ho := h.2.2.2.2
      have next := law_one (d := d) (Q := Q) hL (i := i) (by omega) (by omega) h (fun S' μ' la' h' => by
        have := ih (i + 6) (N + 1) S' μ' la' (by omega) (by omega) (by omega) h'
        simp (disch := omega) only [x210_1424, x210_1427, ↓nm_1, ↓nm_2, ↓nm_3, ↓nm_4, ↓nm_11, ↓nm_12, ↓nm_13, ↓nm_14, ↓nm_100, nl_0, nl_1, nl_2, nl_3, nl_4, nl_5, nl_6, nl_7, nl_8, nl_9, nl_10, nl_11, nl_12, nl_13, nl_14, nl_15, nl_16, nl_17, nl_18, nl_19, nl_20, nl_22, nl_23, nl_24, nl_25, nl_30, nl_31, nl_34, nl_35, nl_40, nl_43, nl_46, nl_47, nl_48, nl_49, nl_50, nl_57, nl_58, nl_59, nl_63, nl_64, nl_94, nl_97, nl_98, nl_99, nl_100, nl_101, nl_102, nl_105, nl_108, nl_110, nl_111, nl_112, nl_113, nl_114, nl_115, nl_116, nl_117, nl_118, nl_119, nl_124, nl_126, nl_138, nl_140, nl_255, nl_720, nl_1024, nl_9999, nl_99999, nl_999999, nl_1000000, eq_self, Bool.false_eq_true, Bool.true_and, Bool.and_true, Bool.false_and, Bool.and_false, Bool.not_true, Bool.not_false, nI_toInt, or_true, true_or, or_false, false_or, nI_clamp, nI_leI, nI_ltI, nI_eq, e_nm, e_mn, e_mm, l_nm, l_mn, l_mm, le_nm, le_mn, le_mm, nI_add, nI_mull, nI_sub, nI_subn, nI_divl, nsm, qIn_nI, Nat.zero_le, Nat.not_lt_zero, Nat.reduceAdd, Nat.reduceMul, Nat.reduceSub, Nat.reduceDiv, Nat.reduceMod, Nat.reduceEqDiff, Nat.reduceLeDiff, Nat.reduceLT, Nat.add_zero, Nat.zero_add, not_false_eq_true, not_true_eq_false, true_and, and_true, Option.toList_some, Option.toList_none, List.cons_append, List.nil_append, qrf, if_true, if_false, if_pos, if_neg, reduceIte, ne_eq, Classical.not_not]
        exact this)
      simp (disch := omega) only [x210_18, x210_19, x210_20, x210_21, x210_23, x210_24, x210_27, x210_28, x210_29, x210_30, x210_32, hs, lw_ln ho, lw_ld ho hL, lw_rd ho, ↓nm_1, ↓nm_2, ↓nm_3, ↓nm_4, ↓nm_11, ↓nm_12, ↓nm_13, ↓nm_14, ↓nm_100, nl_0, nl_1, nl_2, nl_3, nl_4, nl_5, nl_6, nl_7, nl_8, nl_9, nl_10, nl_11, nl_12, nl_13, nl_14, nl_15, nl_16, nl_17, nl_18, nl_19, nl_20, nl_22, nl_23, nl_24, nl_25, nl_30, nl_31, nl_34, nl_35, nl_40, nl_43, nl_46, nl_47, nl_48, nl_49, nl_50, nl_57, nl_58, nl_59, nl_63, nl_64, nl_94, nl_97, nl_98, nl_99, nl_100, nl_101, nl_102, nl_105, nl_108, nl_110, nl_111, nl_112, nl_113, nl_114, nl_115, nl_116, nl_117, nl_118, nl_119, nl_124, nl_126, nl_138, nl_140, nl_255, nl_720, nl_1024, nl_9999, nl_99999, nl_999999, nl_1000000, eq_self, Bool.false_eq_true, Bool.true_and, Bool.and_true, Bool.false_and, Bool.and_false, Bool.not_true, Bool.not_false, nI_toInt, or_true, true_or, or_false, false_or, nI_clamp, nI_leI, nI_ltI, nI_eq, e_nm, e_mn, e_mm, l_nm, l_mn, l_mm, le_nm, le_mn, le_mm, nI_add, nI_mull, nI_sub, nI_subn, nI_divl, nsm, qIn_nI, Nat.zero_le, Nat.not_lt_zero, Nat.reduceAdd, Nat.reduceMul, Nat.reduceSub, Nat.reduceDiv, Nat.reduceMod, Nat.reduceEqDiff, Nat.reduceLeDiff, Nat.reduceLT, Nat.add_zero, Nat.zero_add, not_false_eq_true, not_true_eq_false, true_and, and_true, Option.toList_some, Option.toList_none, List.cons_append, List.nil_append, qrf, if_true, if_false, if_pos, if_neg, reduceIte, ne_eq, Classical.not_not]
      exact next _
set_option maxHeartbeats 4000000 in
theorem law_gen (hL : L ≤ 384) (hQ : ∀ (ρ : qRho) (μ : qMu) (la : qLa), Q (some (.int (nI 1))) (315, ρ) μ la) : qEx (d + 30) 210 0 [] [.ref 1003, .retAddr 0, .retAddr 0, .retAddr 0] (0, fun _ _ => none) (qRm L xs) (fun _ _ => 0) Q := by
  have z0 : zU 0 (qRm L xs) := fun a ha => absurd ha (Nat.not_lt_zero a)
  have o0 : oU (qRm L xs) (qRm L xs) := fun _ _ => rfl
  simp (disch := omega) only [x210_0, x210_3, x210_4, sh_0, and_lt, ↓nm_1, ↓nm_2, ↓nm_3, ↓nm_4, ↓nm_11, ↓nm_12, ↓nm_13, ↓nm_14, ↓nm_100, nl_0, nl_1, nl_2, nl_3, nl_4, nl_5, nl_6, nl_7, nl_8, nl_9, nl_10, nl_11, nl_12, nl_13, nl_14, nl_15, nl_16, nl_17, nl_18, nl_19, nl_20, nl_22, nl_23, nl_24, nl_25, nl_30, nl_31, nl_34, nl_35, nl_40, nl_43, nl_46, nl_47, nl_48, nl_49, nl_50, nl_57, nl_58, nl_59, nl_63, nl_64, nl_94, nl_97, nl_98, nl_99, nl_100, nl_101, nl_102, nl_105, nl_108, nl_110, nl_111, nl_112, nl_113, nl_114, nl_115, nl_116, nl_117, nl_118, nl_119, nl_124, nl_126, nl_138, nl_140, nl_255, nl_720, nl_1024, nl_9999, nl_99999, nl_999999, nl_1000000, eq_self, Bool.false_eq_true, Bool.true_and, Bool.and_true, Bool.false_and, Bool.and_false, Bool.not_true, Bool.not_false, nI_toInt, or_true, true_or, or_false, false_or, nI_clamp, nI_leI, nI_ltI, nI_eq, e_nm, e_mn, e_mm, l_nm, l_mn, l_mm, le_nm, le_mn, le_mm, nI_add, nI_mull, nI_sub, nI_subn, nI_divl, nsm, qIn_nI, Nat.zero_le, Nat.not_lt_zero, Nat.reduceAdd, Nat.reduceMul, Nat.reduceSub, Nat.reduceDiv, Nat.reduceMod, Nat.reduceEqDiff, Nat.reduceLeDiff, Nat.reduceLT, Nat.add_zero, Nat.zero_add, not_false_eq_true, not_true_eq_false, true_and, and_true, Option.toList_some, Option.toList_none, List.cons_append, List.nil_append, qrf, if_true, if_false, if_pos, if_neg, reduceIte, ne_eq, Classical.not_not]
  refine k_N (μ0 := qRm L xs) (zU_new z0) (oU_new o0 (by omega)) fun ρ1 μ1 la1 n1 z1 o1 s1 => ?_
  simp (disch := omega) only [x210_7, x210_8, x210_11, x210_12, sh_297, and_lt, ↓nm_1, ↓nm_2, ↓nm_3, ↓nm_4, ↓nm_11, ↓nm_12, ↓nm_13, ↓nm_14, ↓nm_100, nl_0, nl_1, nl_2, nl_3, nl_4, nl_5, nl_6, nl_7, nl_8, nl_9, nl_10, nl_11, nl_12, nl_13, nl_14, nl_15, nl_16, nl_17, nl_18, nl_19, nl_20, nl_22, nl_23, nl_24, nl_25, nl_30, nl_31, nl_34, nl_35, nl_40, nl_43, nl_46, nl_47, nl_48, nl_49, nl_50, nl_57, nl_58, nl_59, nl_63, nl_64, nl_94, nl_97, nl_98, nl_99, nl_100, nl_101, nl_102, nl_105, nl_108, nl_110, nl_111, nl_112, nl_113, nl_114, nl_115, nl_116, nl_117, nl_118, nl_119, nl_124, nl_126, nl_138, nl_140, nl_255, nl_720, nl_1024, nl_9999, nl_99999, nl_999999, nl_1000000, eq_self, Bool.false_eq_true, Bool.true_and, Bool.and_true, Bool.false_and, Bool.and_false, Bool.not_true, Bool.not_false, nI_toInt, or_true, true_or, or_false, false_or, nI_clamp, nI_leI, nI_ltI, nI_eq, e_nm, e_mn, e_mm, l_nm, l_mn, l_mm, le_nm, le_mn, le_mm, nI_add, nI_mull, nI_sub, nI_subn, nI_divl, nsm, qIn_nI, Nat.zero_le, Nat.not_lt_zero, Nat.reduceAdd, Nat.reduceMul, Nat.reduceSub, Nat.reduceDiv, Nat.reduceMod, Nat.reduceEqDiff, Nat.reduceLeDiff, Nat.reduceLT, Nat.add_zero, Nat.zero_add, not_false_eq_true, not_true_eq_false, true_and, and_true, Option.toList_some, Option.toList_none, List.cons_append, List.nil_append, qrf, if_true, if_false, if_pos, if_neg, reduceIte, ne_eq, Classical.not_not]
  refine k_M (nR_fr n1 fun a ha => clr_o (by omega)) (zU_new z1) (oU_new o1 (by omega)) (fun k hk => by rw [clr_o (by omega)]; exact s1 k hk) fun ρ2 μ2 la2 hS hM ho hz => ?_
  simp (disch := omega) only [x210_15, x210_16, x210_17, ↓nm_1, ↓nm_2, ↓nm_3, ↓nm_4, ↓nm_11, ↓nm_12, ↓nm_13, ↓nm_14, ↓nm_100, nl_0, nl_1, nl_2, nl_3, nl_4, nl_5, nl_6, nl_7, nl_8, nl_9, nl_10, nl_11, nl_12, nl_13, nl_14, nl_15, nl_16, nl_17, nl_18, nl_19, nl_20, nl_22, nl_23, nl_24, nl_25, nl_30, nl_31, nl_34, nl_35, nl_40, nl_43, nl_46, nl_47, nl_48, nl_49, nl_50, nl_57, nl_58, nl_59, nl_63, nl_64, nl_94, nl_97, nl_98, nl_99, nl_100, nl_101, nl_102, nl_105, nl_108, nl_110, nl_111, nl_112, nl_113, nl_114, nl_115, nl_116, nl_117, nl_118, nl_119, nl_124, nl_126, nl_138, nl_140, nl_255, nl_720, nl_1024, nl_9999, nl_99999, nl_999999, nl_1000000, eq_self, Bool.false_eq_true, Bool.true_and, Bool.and_true, Bool.false_and, Bool.and_false, Bool.not_true, Bool.not_false, nI_toInt, or_true, true_or, or_false, false_or, nI_clamp, nI_leI, nI_ltI, nI_eq, e_nm, e_mn, e_mm, l_nm, l_mn, l_mm, le_nm, le_mn, le_mm, nI_add, nI_mull, nI_sub, nI_subn, nI_divl, nsm, qIn_nI, Nat.zero_le, Nat.not_lt_zero, Nat.reduceAdd, Nat.reduceMul, Nat.reduceSub, Nat.reduceDiv, Nat.reduceMod, Nat.reduceEqDiff, Nat.reduceLeDiff, Nat.reduceLT, Nat.add_zero, Nat.zero_add, not_false_eq_true, not_true_eq_false, true_and, and_true, Option.toList_some, Option.toList_none, List.cons_append, List.nil_append, qrf, if_true, if_false, if_pos, if_neg, reduceIte, ne_eq, Classical.not_not]
  exact law_loop hL (hQ ρ2) 64 0 0 st0 μ2 la2 (by omega) (by omega) (by omega) ⟨P_st0, hS, hM, hz, ho⟩
end
theorem law_ok : ∀ (L : Nat) (xs : Nat → Int32), L ≤ 384 → qEx 30 qLaw 0 [] [.ref 1003, qUn, qUn, qUn] (0, fun _ _ => none) (qRm L xs) (fun _ _ => 0) (fun r σ _ _ => r = some (.int 1) ∧ σ.1 ≤ 1000) := fun L xs hL =>
  law_gen (d := 0) (Q := fun r σ _ _ => r = some (.int 1) ∧ σ.1 ≤ 1000) hL fun _ _ _ => ⟨rfl, show 315 ≤ 1000 by omega⟩
