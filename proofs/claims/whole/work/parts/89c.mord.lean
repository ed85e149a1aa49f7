/-! the reference's orders: who owes, how many codes -/
def owF (T : qT) : Nat → Nat
  | 0 => 0
  | p + 1 => if 0 < T (13 + p) then owF T p ||| 2 ^ p else owF T p
theorem owF_lt {T : qT} : ∀ p, p ≤ 6 → owF T p < 64 := by
  intro p
  induction p with
  | zero => intro _; exact (by decide : (0 : Nat) < 64)
  | succ p ih =>
    intro h
    unfold owF
    split
    · exact (orS _ (ih (by omega)) p (by omega)).2
    · exact ih (by omega)
theorem dsF_len {T : qT} : ∀ p, (dsF T p).length ≤ p := by
  intro p
  induction p with
  | zero => exact Nat.le_refl _
  | succ p ih =>
    unfold dsF
    split
    · rw [List.length_append]; simp; exact ih
    · omega
section
variable {d N : Nat} {σ : qSg} {μ : qMu} {la : qLa} {Q : qPost} {T : qT}
theorem c_mord_1 {l4 l5 l6 : Value} (hB : qBM σ) (hwf : wfT N T) (hm : qMA μ 302 T) : ∀ n k : Nat, k + n = T 115 → qEx d 174 65 [] [.ref 297, .int (nI (owF T (T 115))), .int (nI (dsF T (T 115)).length), .int (nI (T 115)), l4, l5, l6] σ μ la Q → qEx d 174 6 [] [.ref 297, .int (nI (owF T k)), .int (nI (dsF T k).length), .int (nI k), l4, l5, l6] σ μ la Q := by
  have hk := mOk hB
  have h6 := hwf.1
  obtain ⟨r0, r1, r2, r4, r6, r7, -⟩ := mR hB
  have hI2 := (mI302 (μ := μ) hB).1
  have h115 := hm 115 (by omega)
  intro n
  induction n with
  | zero =>
    intro k hkn hQ
    obtain rfl : k = T 115 := by omega
    rw [x174_6]
    simp (disch := omega) only [x174_0, x174_1, x174_2, x174_3, x174_4, x174_5, x174_7, x174_8, x174_11, x174_13, x174_14, x174_17, x174_18, x174_19, x174_22, x174_24, x174_25, x174_26, x174_27, x174_30, x174_31, x174_32, x174_33, x174_36, x174_37, x174_38, x174_39, x174_40, x174_41, x174_44, x174_46, x174_47, x174_48, x174_49, x174_52, x174_53, x174_56, x174_57, x174_58, x174_59, x174_62, x174_66, x174_67, x174_68, x174_70, x174_72, x174_73, x174_76, x174_77, x174_78, x174_81, x174_83, x174_84, x174_85, x174_86, x174_89, x174_92, x174_93, x174_94, x174_97, x174_98, x174_99, x174_102, x174_103, x174_105, x174_107, x174_108, x174_111, x174_112, x174_114, x174_115, x174_116, x174_119, x174_122, x174_123, x174_126, x174_127, x174_129, x174_130, x174_132, x174_134, x174_135, x174_138, x174_139, x174_140, x174_143, x174_144, x174_147, x174_149, x174_150, x174_153, x174_155, x174_156, x174_159, x174_160, x174_162, x174_165, x174_168, x174_170, x174_171, x174_174, x174_177, x174_178, x174_180, x174_183, x174_184, x174_187, x174_188, x174_189, x174_192, x174_193, x174_195, x174_198, x174_201, x174_204, hk, r6, hI2, h115, ↓nm_1, ↓nm_2, ↓nm_3, ↓nm_4, ↓nm_11, ↓nm_12, ↓nm_13, ↓nm_14, ↓nm_100, nl_0, nl_1, nl_2, nl_3, nl_4, nl_5, nl_6, nl_7, nl_8, nl_9, nl_10, nl_11, nl_12, nl_13, nl_14, nl_15, nl_16, nl_17, nl_18, nl_19, nl_20, nl_22, nl_23, nl_24, nl_25, nl_30, nl_31, nl_34, nl_35, nl_40, nl_43, nl_46, nl_47, nl_48, nl_49, nl_50, nl_57, nl_58, nl_59, nl_63, nl_64, nl_94, nl_97, nl_98, nl_99, nl_100, nl_101, nl_102, nl_105, nl_108, nl_110, nl_111, nl_112, nl_113, nl_114, nl_115, nl_116, nl_117, nl_118, nl_119, nl_124, nl_126, nl_138, nl_140, nl_255, nl_720, nl_1024, nl_9999, nl_99999, nl_999999, nl_1000000, eq_self, Bool.false_eq_true, Bool.true_and, Bool.and_true, Bool.false_and, Bool.and_false, Bool.not_true, Bool.not_false, nI_toInt, or_true, true_or, or_false, false_or, nI_clamp, nI_leI, nI_ltI, nI_eq, e_nm, e_mn, e_mm, l_nm, l_mn, l_mm, le_nm, le_mn, le_mm, nI_add, nI_mull, nI_sub, nI_subn, nI_divl, nsm, qIn_nI, Nat.zero_le, Nat.not_lt_zero, Nat.reduceAdd, Nat.reduceMul, Nat.reduceSub, Nat.reduceDiv, Nat.reduceMod, Nat.reduceEqDiff, Nat.reduceLeDiff, Nat.reduceLT, Nat.add_zero, Nat.zero_add, not_false_eq_true, not_true_eq_false, true_and, and_true, Option.toList_some, Option.toList_none, List.cons_append, List.nil_append, qrf, if_true, if_false, if_pos, if_neg, reduceIte, ne_eq, Classical.not_not]
    exact hQ
  | succ n ih =>
    intro k hkn hQ
    have next := ih (k + 1) (by omega) hQ
    have hv := hm (13 + k) (by omega)
    have h99 := (hwf.2.2.2.2.2.2.2.1 k (by omega)).2.2.2.1
    have hl := dsF_len (T := T) k
    have e := orS _ (owF_lt (T := T) k (by omega)) k (by omega)
    have ez := orZ _ (owF_lt (T := T) k (by omega))
    rw [x174_6]
    by_cases h0 : 0 < T (13 + k)
    · have e1 : owF T (k + 1) = owF T k ||| 2 ^ k := by show (if _ then _ else _) = _; rw [if_pos h0]
      have e2 : (dsF T (k + 1)).length = (dsF T k).length + 1 := by show (if _ then _ else _ : List Nat).length = _; rw [if_pos h0, List.length_append]; rfl
      rw [e1, e2] at next
      simp (disch := omega) only [x174_0, x174_1, x174_2, x174_3, x174_4, x174_5, x174_7, x174_8, x174_11, x174_13, x174_14, x174_17, x174_18, x174_19, x174_22, x174_24, x174_25, x174_26, x174_27, x174_30, x174_31, x174_32, x174_33, x174_36, x174_37, x174_38, x174_39, x174_40, x174_41, x174_44, x174_46, x174_47, x174_48, x174_49, x174_52, x174_53, x174_56, x174_57, x174_58, x174_59, x174_62, x174_66, x174_67, x174_68, x174_70, x174_72, x174_73, x174_76, x174_77, x174_78, x174_81, x174_83, x174_84, x174_85, x174_86, x174_89, x174_92, x174_93, x174_94, x174_97, x174_98, x174_99, x174_102, x174_103, x174_105, x174_107, x174_108, x174_111, x174_112, x174_114, x174_115, x174_116, x174_119, x174_122, x174_123, x174_126, x174_127, x174_129, x174_130, x174_132, x174_134, x174_135, x174_138, x174_139, x174_140, x174_143, x174_144, x174_147, x174_149, x174_150, x174_153, x174_155, x174_156, x174_159, x174_160, x174_162, x174_165, x174_168, x174_170, x174_171, x174_174, x174_177, x174_178, x174_180, x174_183, x174_184, x174_187, x174_188, x174_189, x174_192, x174_193, x174_195, x174_198, x174_201, x174_204, hk, r6, hI2, h115, hv, e.1, ↓nm_1, ↓nm_2, ↓nm_3, ↓nm_4, ↓nm_11, ↓nm_12, ↓nm_13, ↓nm_14, ↓nm_100, nl_0, nl_1, nl_2, nl_3, nl_4, nl_5, nl_6, nl_7, nl_8, nl_9, nl_10, nl_11, nl_12, nl_13, nl_14, nl_15, nl_16, nl_17, nl_18, nl_19, nl_20, nl_22, nl_23, nl_24, nl_25, nl_30, nl_31, nl_34, nl_35, nl_40, nl_43, nl_46, nl_47, nl_48, nl_49, nl_50, nl_57, nl_58, nl_59, nl_63, nl_64, nl_94, nl_97, nl_98, nl_99, nl_100, nl_101, nl_102, nl_105, nl_108, nl_110, nl_111, nl_112, nl_113, nl_114, nl_115, nl_116, nl_117, nl_118, nl_119, nl_124, nl_126, nl_138, nl_140, nl_255, nl_720, nl_1024, nl_9999, nl_99999, nl_999999, nl_1000000, eq_self, Bool.false_eq_true, Bool.true_and, Bool.and_true, Bool.false_and, Bool.and_false, Bool.not_true, Bool.not_false, nI_toInt, or_true, true_or, or_false, false_or, nI_clamp, nI_leI, nI_ltI, nI_eq, e_nm, e_mn, e_mm, l_nm, l_mn, l_mm, le_nm, le_mn, le_mm, nI_add, nI_mull, nI_sub, nI_subn, nI_divl, nsm, qIn_nI, Nat.zero_le, Nat.not_lt_zero, Nat.reduceAdd, Nat.reduceMul, Nat.reduceSub, Nat.reduceDiv, Nat.reduceMod, Nat.reduceEqDiff, Nat.reduceLeDiff, Nat.reduceLT, Nat.add_zero, Nat.zero_add, not_false_eq_true, not_true_eq_false, true_and, and_true, Option.toList_some, Option.toList_none, List.cons_append, List.nil_append, qrf, if_true, if_false, if_pos, if_neg, reduceIte, ne_eq, Classical.not_not]
      exact next
    · have e1 : owF T (k + 1) = owF T k := by show (if _ then _ else _) = _; rw [if_neg h0]
      have e2 : (dsF T (k + 1)).length = (dsF T k).length := by show (if _ then _ else _ : List Nat).length = _; rw [if_neg h0]
      rw [e1, e2] at next
      simp (disch := omega) only [x174_0, x174_1, x174_2, x174_3, x174_4, x174_5, x174_7, x174_8, x174_11, x174_13, x174_14, x174_17, x174_18, x174_19, x174_22, x174_24, x174_25, x174_26, x174_27, x174_30, x174_31, x174_32, x174_33, x174_36, x174_37, x174_38, x174_39, x174_40, x174_41, x174_44, x174_46, x174_47, x174_48, x174_49, x174_52, x174_53, x174_56, x174_57, x174_58, x174_59, x174_62, x174_66, x174_67, x174_68, x174_70, x174_72, x174_73, x174_76, x174_77, x174_78, x174_81, x174_83, x174_84, x174_85, x174_86, x174_89, x174_92, x174_93, x174_94, x174_97, x174_98, x174_99, x174_102, x174_103, x174_105, x174_107, x174_108, x174_111, x174_112, x174_114, x174_115, x174_116, x174_119, x174_122, x174_123, x174_126, x174_127, x174_129, x174_130, x174_132, x174_134, x174_135, x174_138, x174_139, x174_140, x174_143, x174_144, x174_147, x174_149, x174_150, x174_153, x174_155, x174_156, x174_159, x174_160, x174_162, x174_165, x174_168, x174_170, x174_171, x174_174, x174_177, x174_178, x174_180, x174_183, x174_184, x174_187, x174_188, x174_189, x174_192, x174_193, x174_195, x174_198, x174_201, x174_204, hk, r6, hI2, h115, hv, ez, ↓nm_1, ↓nm_2, ↓nm_3, ↓nm_4, ↓nm_11, ↓nm_12, ↓nm_13, ↓nm_14, ↓nm_100, nl_0, nl_1, nl_2, nl_3, nl_4, nl_5, nl_6, nl_7, nl_8, nl_9, nl_10, nl_11, nl_12, nl_13, nl_14, nl_15, nl_16, nl_17, nl_18, nl_19, nl_20, nl_22, nl_23, nl_24, nl_25, nl_30, nl_31, nl_34, nl_35, nl_40, nl_43, nl_46, nl_47, nl_48, nl_49, nl_50, nl_57, nl_58, nl_59, nl_63, nl_64, nl_94, nl_97, nl_98, nl_99, nl_100, nl_101, nl_102, nl_105, nl_108, nl_110, nl_111, nl_112, nl_113, nl_114, nl_115, nl_116, nl_117, nl_118, nl_119, nl_124, nl_126, nl_138, nl_140, nl_255, nl_720, nl_1024, nl_9999, nl_99999, nl_999999, nl_1000000, eq_self, Bool.false_eq_true, Bool.true_and, Bool.and_true, Bool.false_and, Bool.and_false, Bool.not_true, Bool.not_false, nI_toInt, or_true, true_or, or_false, false_or, nI_clamp, nI_leI, nI_ltI, nI_eq, e_nm, e_mn, e_mm, l_nm, l_mn, l_mm, le_nm, le_mn, le_mm, nI_add, nI_mull, nI_sub, nI_subn, nI_divl, nsm, qIn_nI, Nat.zero_le, Nat.not_lt_zero, Nat.reduceAdd, Nat.reduceMul, Nat.reduceSub, Nat.reduceDiv, Nat.reduceMod, Nat.reduceEqDiff, Nat.reduceLeDiff, Nat.reduceLT, Nat.add_zero, Nat.zero_add, not_false_eq_true, not_true_eq_false, true_and, and_true, Option.toList_some, Option.toList_none, List.cons_append, List.nil_append, qrf, if_true, if_false, if_pos, if_neg, reduceIte, ne_eq, Classical.not_not]
      exact next
end
