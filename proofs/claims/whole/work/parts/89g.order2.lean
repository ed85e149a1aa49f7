/-! order: who owes, as a list and as bits; the reference's rows are the class's; the answer -/
theorem ow_bit {T : qT} : ∀ m p, (owF T m).testBit p = (decide (p < m) && decide (0 < T (13 + p))) := by
  intro m
  induction m with
  | zero => intro p; show Nat.testBit 0 p = _; rw [Nat.zero_testBit]; simp
  | succ m ih =>
    intro p
    show (if 0 < T (13 + m) then owF T m ||| 2 ^ m else owF T m).testBit p = _
    by_cases h : 0 < T (13 + m)
    · rw [if_pos h, Nat.testBit_or, ih, Nat.testBit_two_pow]
      by_cases hp : m = p
      · subst hp; simp [h]
      · have e : decide (p < m + 1) = decide (p < m) := decide_eq_decide.mpr (by omega)
        simp [hp, e]
    · rw [if_neg h, ih]
      by_cases hp : p = m
      · subst hp; simp [h]
      · have e : decide (p < m + 1) = decide (p < m) := decide_eq_decide.mpr (by omega)
        rw [e]
theorem ow_lt2 {T : qT} (m : Nat) : owF T m < 2 ^ m := Nat.lt_pow_two_of_testBit _ fun i hi => by
  rw [ow_bit, decide_eq_false (by omega)]; rfl
theorem ds_bits {T : qT} {M : Nat} : ∀ m, m ≤ M → dsM m (owF T M) = dsF T m := by
  intro m
  induction m with
  | zero => intro _; rfl
  | succ m ih =>
    intro h
    show (List.range (m + 1)).filter (fun p => (owF T M).testBit p) = if 0 < T (13 + m) then dsF T m ++ [m] else dsF T m
    have e : (owF T M).testBit m = decide (0 < T (13 + m)) := by rw [ow_bit, decide_eq_true (by omega)]; rfl
    have ih' : (List.range m).filter (fun p => (owF T M).testBit p) = dsF T m := ih (by omega)
    rw [List.range_succ, List.filter_append, ih']
    by_cases h0 : 0 < T (13 + m)
    · rw [if_pos h0, List.filter_cons, if_pos (by rw [e, decide_eq_true h0])]; rfl
    · rw [if_neg h0, List.filter_cons, if_neg (by rw [e, decide_eq_false h0]; decide)]; simp
theorem ord_rows {T : qT} (h6 : T 115 ≤ 6) : rowsM (T 115) (dsF T (T 115)).length (owF T (T 115)) (T 115 ^ (dsF T (T 115)).length) 0 = rowsN (dsF T (T 115)).length 720 (dsF T (T 115)) := by
  have hw := ow_lt2 (T := T) (T 115)
  have key : chkA (T 115) (owF T (T 115)) = true := by
    by_cases h : T 115 < 6
    · exact chkA_5 _ h _ hw
    · have e : T 115 = 6 := by omega
      rw [e] at hw ⊢
      exact chkA_6 _ hw
  unfold chkA at key
  rw [ds_bits _ (Nat.le_refl _)] at key
  exact chkO_eq _ _ _ key
def ordB (T : qT) : Nat × List Nat := (rowsN (dsF T (T 115)).length 720 (dsF T (T 115))).foldl (bstO T) (0, [])
def aOrder (T : qT) (x : Int32) : Int32 := if x < mI 1 then mI 1 else if T 115 = 0 then mI 2 else if x = mI 1 then kM (ordB T).1 else if isR x (dsF T (T 115)).length then nI ((ordB T).2.getD (nn x) 0) else mI 4
theorem bst_mono {T : qT} : ∀ (R : List (List Nat)) (s : Nat × List Nat), s.1 ≤ (R.foldl (bstO T) s).1 := by
  intro R
  induction R with
  | nil => intro s; exact Nat.le_refl _
  | cons r R ih =>
    intro s
    rw [List.foldl_cons]
    refine Nat.le_trans ?_ (ih _)
    unfold bstO
    split
    · show s.1 ≤ sumO r T + 1; omega
    · exact Nat.le_refl _
theorem ordB_pos {T : qT} : 0 < (ordB T).1 := by
  unfold ordB
  have e : rowsN (dsF T (T 115)).length 720 (dsF T (T 115)) = dsF T (T 115) :: (match nextF (dsF T (T 115)).length (dsF T (T 115)) with
    | none => []
    | some q => rowsN (dsF T (T 115)).length 719 q) := rfl
  rw [e, List.foldl_cons]
  refine Nat.lt_of_lt_of_le ?_ (bst_mono _ _)
  unfold bstO
  rw [if_pos (by show 0 < _; omega)]
  show 0 < sumO _ T + 1
  omega
theorem ord_mem {m n w : Nat} (h : 0 < m) : ∀ f c, ∀ r ∈ rowsM m n w f c, r.length = n ∧ ∀ p ∈ r, p < m := by
  intro f
  induction f with
  | zero => intro c r hr; exact absurd hr List.not_mem_nil
  | succ f ih =>
    intro c r hr
    unfold rowsM at hr
    split at hr
    · rcases List.mem_cons.mp hr with rfl | hr
      · exact ⟨digL_len _ _, digL_lt h _ _⟩
      · exact ih _ r hr
    · exact ih _ r hr
theorem neg1_cases {x : Int32} (h : ¬ x < mI 1) : x = mI 1 ∨ ∃ k, k < 2 ^ 31 ∧ x = nI k := by
  rcases nI_all x with hx | hx
  · left
    have h1 := neg_toInt hx
    have h2 := Int32.le_iff_toInt_le.mp (Int32.not_lt.mp h)
    rw [mI_toInt (by omega)] at h2
    apply Int32.toInt_inj.mp
    rw [mI_toInt (by omega)]
    omega
  · exact Or.inr hx
theorem kM_pos {s : Nat} (h : 0 < s) : kM s = nI (s - 1) := by unfold kM; rw [if_neg (by omega)]
section
variable {d N : Nat} {σ : qSg} {μ : qMu} {la : qLa} {Q : qPost} {b : List Nat} {T : qT} {as : List qT} {im : Nat → qT} {sh : Nat → wSh} {x y z : Int32}
set_option maxHeartbeats 4000000 in
theorem m_order (hP : SimP N (b, T, as, im, sh)) (hS : SimM (b, T, as, im, sh) σ μ la) (hQ : ∀ μ' : qMu, mFr μ μ' → Q (some (.int (aOrder T x))) σ μ' la) : qEx (d + 10) 175 0 [] [.ref 297, .int x] σ μ la Q := by
  obtain ⟨hB, ht, hm, ha, hi, hs⟩ := hS
  have hm : qMA μ 302 T := hm
  have hwf : wfT N T := hP.2.2.1.1
  have hk := mOk hB
  have h6 := hwf.1
  obtain ⟨r0, r1, r2, r4, r6, r7, r8, r9, r10, r11, r12, r14, r19, r20, r21, -⟩ := mR hB
  unfold aOrder at hQ
  by_cases h1 : x < mI 1
  · rw [if_pos h1] at hQ
    have h1' : ¬ mI 1 ≤ x := Int32.not_le.mpr h1
    simp (disch := omega) only [x175_0, x175_1, x175_2, x175_5, x175_6, h1', ↓nm_1, ↓nm_2, ↓nm_3, ↓nm_4, ↓nm_11, ↓nm_12, ↓nm_13, ↓nm_14, ↓nm_100, nl_0, nl_1, nl_2, nl_3, nl_4, nl_5, nl_6, nl_7, nl_8, nl_9, nl_10, nl_11, nl_12, nl_13, nl_14, nl_15, nl_16, nl_17, nl_18, nl_19, nl_20, nl_22, nl_23, nl_24, nl_25, nl_30, nl_31, nl_34, nl_35, nl_40, nl_43, nl_46, nl_47, nl_48, nl_49, nl_50, nl_57, nl_58, nl_59, nl_63, nl_64, nl_94, nl_97, nl_98, nl_99, nl_100, nl_101, nl_102, nl_105, nl_108, nl_110, nl_111, nl_112, nl_113, nl_114, nl_115, nl_116, nl_117, nl_118, nl_119, nl_124, nl_126, nl_138, nl_140, nl_255, nl_720, nl_1024, nl_9999, nl_99999, nl_999999, nl_1000000, eq_self, Bool.false_eq_true, Bool.true_and, Bool.and_true, Bool.false_and, Bool.and_false, Bool.not_true, Bool.not_false, nI_toInt, or_true, true_or, or_false, false_or, nI_clamp, nI_leI, nI_ltI, nI_eq, e_nm, e_mn, e_mm, l_nm, l_mn, l_mm, le_nm, le_mn, le_mm, nI_add, nI_mull, nI_sub, nI_subn, nI_divl, nsm, qIn_nI, Nat.zero_le, Nat.not_lt_zero, Nat.reduceAdd, Nat.reduceMul, Nat.reduceSub, Nat.reduceDiv, Nat.reduceMod, Nat.reduceEqDiff, Nat.reduceLeDiff, Nat.reduceLT, Nat.add_zero, Nat.zero_add, not_false_eq_true, not_true_eq_false, true_and, and_true, Option.toList_some, Option.toList_none, List.cons_append, List.nil_append, qrf, if_true, if_false, if_pos, if_neg, reduceIte, ne_eq, Classical.not_not]
    exact hQ μ mFr_rf
  rw [if_neg h1] at hQ
  have h1' : mI 1 ≤ x := Int32.not_lt.mp h1
  by_cases h0 : T 115 = 0
  · rw [if_pos h0] at hQ
    simp (disch := omega) only [x175_0, x175_1, x175_2, x175_7, x175_8, x175_11, x175_14, x175_16, c_mtown hB hm h6, h0, hk, h1', ↓nm_1, ↓nm_2, ↓nm_3, ↓nm_4, ↓nm_11, ↓nm_12, ↓nm_13, ↓nm_14, ↓nm_100, nl_0, nl_1, nl_2, nl_3, nl_4, nl_5, nl_6, nl_7, nl_8, nl_9, nl_10, nl_11, nl_12, nl_13, nl_14, nl_15, nl_16, nl_17, nl_18, nl_19, nl_20, nl_22, nl_23, nl_24, nl_25, nl_30, nl_31, nl_34, nl_35, nl_40, nl_43, nl_46, nl_47, nl_48, nl_49, nl_50, nl_57, nl_58, nl_59, nl_63, nl_64, nl_94, nl_97, nl_98, nl_99, nl_100, nl_101, nl_102, nl_105, nl_108, nl_110, nl_111, nl_112, nl_113, nl_114, nl_115, nl_116, nl_117, nl_118, nl_119, nl_124, nl_126, nl_138, nl_140, nl_255, nl_720, nl_1024, nl_9999, nl_99999, nl_999999, nl_1000000, eq_self, Bool.false_eq_true, Bool.true_and, Bool.and_true, Bool.false_and, Bool.and_false, Bool.not_true, Bool.not_false, nI_toInt, or_true, true_or, or_false, false_or, nI_clamp, nI_leI, nI_ltI, nI_eq, e_nm, e_mn, e_mm, l_nm, l_mn, l_mm, le_nm, le_mn, le_mm, nI_add, nI_mull, nI_sub, nI_subn, nI_divl, nsm, qIn_nI, Nat.zero_le, Nat.not_lt_zero, Nat.reduceAdd, Nat.reduceMul, Nat.reduceSub, Nat.reduceDiv, Nat.reduceMod, Nat.reduceEqDiff, Nat.reduceLeDiff, Nat.reduceLT, Nat.add_zero, Nat.zero_add, not_false_eq_true, not_true_eq_false, true_and, and_true, Option.toList_some, Option.toList_none, List.cons_append, List.nil_append, qrf, if_true, if_false, if_pos, if_neg, reduceIte, ne_eq, Classical.not_not]
    exact hQ μ mFr_rf
  rw [if_neg h0] at hQ
  simp (disch := omega) only [x175_0, x175_1, x175_2, x175_7, x175_8, x175_11, x175_17, x175_18, x174_0, x174_1, x174_2, x174_3, x174_4, x174_5, c_mtown hB hm h6, h0, hk, h1', ↓nm_1, ↓nm_2, ↓nm_3, ↓nm_4, ↓nm_11, ↓nm_12, ↓nm_13, ↓nm_14, ↓nm_100, nl_0, nl_1, nl_2, nl_3, nl_4, nl_5, nl_6, nl_7, nl_8, nl_9, nl_10, nl_11, nl_12, nl_13, nl_14, nl_15, nl_16, nl_17, nl_18, nl_19, nl_20, nl_22, nl_23, nl_24, nl_25, nl_30, nl_31, nl_34, nl_35, nl_40, nl_43, nl_46, nl_47, nl_48, nl_49, nl_50, nl_57, nl_58, nl_59, nl_63, nl_64, nl_94, nl_97, nl_98, nl_99, nl_100, nl_101, nl_102, nl_105, nl_108, nl_110, nl_111, nl_112, nl_113, nl_114, nl_115, nl_116, nl_117, nl_118, nl_119, nl_124, nl_126, nl_138, nl_140, nl_255, nl_720, nl_1024, nl_9999, nl_99999, nl_999999, nl_1000000, eq_self, Bool.false_eq_true, Bool.true_and, Bool.and_true, Bool.false_and, Bool.and_false, Bool.not_true, Bool.not_false, nI_toInt, or_true, true_or, or_false, false_or, nI_clamp, nI_leI, nI_ltI, nI_eq, e_nm, e_mn, e_mm, l_nm, l_mn, l_mm, le_nm, le_mn, le_mm, nI_add, nI_mull, nI_sub, nI_subn, nI_divl, nsm, qIn_nI, Nat.zero_le, Nat.not_lt_zero, Nat.reduceAdd, Nat.reduceMul, Nat.reduceSub, Nat.reduceDiv, Nat.reduceMod, Nat.reduceEqDiff, Nat.reduceLeDiff, Nat.reduceLT, Nat.add_zero, Nat.zero_add, not_false_eq_true, not_true_eq_false, true_and, and_true, Option.toList_some, Option.toList_none, List.cons_append, List.nil_append, qrf, if_true, if_false, if_pos, if_neg, reduceIte, ne_eq, Classical.not_not]
  refine c_mord_1 (T := T) (N := N) hB hwf hm (T 115) 0 (by omega) ?_
  have hl := (ds_len (T := T) (T 115)).1
  have hpow := pow6 (T 115) (by omega) (dsF T (T 115)).length (by omega)
  simp (disch := omega) only [x174_65, x174_66, x174_67, x174_68, ↓nm_1, ↓nm_2, ↓nm_3, ↓nm_4, ↓nm_11, ↓nm_12, ↓nm_13, ↓nm_14, ↓nm_100, nl_0, nl_1, nl_2, nl_3, nl_4, nl_5, nl_6, nl_7, nl_8, nl_9, nl_10, nl_11, nl_12, nl_13, nl_14, nl_15, nl_16, nl_17, nl_18, nl_19, nl_20, nl_22, nl_23, nl_24, nl_25, nl_30, nl_31, nl_34, nl_35, nl_40, nl_43, nl_46, nl_47, nl_48, nl_49, nl_50, nl_57, nl_58, nl_59, nl_63, nl_64, nl_94, nl_97, nl_98, nl_99, nl_100, nl_101, nl_102, nl_105, nl_108, nl_110, nl_111, nl_112, nl_113, nl_114, nl_115, nl_116, nl_117, nl_118, nl_119, nl_124, nl_126, nl_138, nl_140, nl_255, nl_720, nl_1024, nl_9999, nl_99999, nl_999999, nl_1000000, eq_self, Bool.false_eq_true, Bool.true_and, Bool.and_true, Bool.false_and, Bool.and_false, Bool.not_true, Bool.not_false, nI_toInt, or_true, true_or, or_false, false_or, nI_clamp, nI_leI, nI_ltI, nI_eq, e_nm, e_mn, e_mm, l_nm, l_mn, l_mm, le_nm, le_mn, le_mm, nI_add, nI_mull, nI_sub, nI_subn, nI_divl, nsm, qIn_nI, Nat.zero_le, Nat.not_lt_zero, Nat.reduceAdd, Nat.reduceMul, Nat.reduceSub, Nat.reduceDiv, Nat.reduceMod, Nat.reduceEqDiff, Nat.reduceLeDiff, Nat.reduceLT, Nat.add_zero, Nat.zero_add, not_false_eq_true, not_true_eq_false, true_and, and_true, Option.toList_some, Option.toList_none, List.cons_append, List.nil_append, qrf, if_true, if_false, if_pos, if_neg, reduceIte, ne_eq, Classical.not_not]
  refine c_mord_2 (m := T 115) hB h6 (by omega) (hm 115 (by omega)) (dsF T (T 115)).length 0 (by omega) ?_
  simp (disch := omega) only [x174_92, x174_93, x174_94, x174_97, x174_98, x174_99, x174_102, x174_103, hk, ↓nm_1, ↓nm_2, ↓nm_3, ↓nm_4, ↓nm_11, ↓nm_12, ↓nm_13, ↓nm_14, ↓nm_100, nl_0, nl_1, nl_2, nl_3, nl_4, nl_5, nl_6, nl_7, nl_8, nl_9, nl_10, nl_11, nl_12, nl_13, nl_14, nl_15, nl_16, nl_17, nl_18, nl_19, nl_20, nl_22, nl_23, nl_24, nl_25, nl_30, nl_31, nl_34, nl_35, nl_40, nl_43, nl_46, nl_47, nl_48, nl_49, nl_50, nl_57, nl_58, nl_59, nl_63, nl_64, nl_94, nl_97, nl_98, nl_99, nl_100, nl_101, nl_102, nl_105, nl_108, nl_110, nl_111, nl_112, nl_113, nl_114, nl_115, nl_116, nl_117, nl_118, nl_119, nl_124, nl_126, nl_138, nl_140, nl_255, nl_720, nl_1024, nl_9999, nl_99999, nl_999999, nl_1000000, eq_self, Bool.false_eq_true, Bool.true_and, Bool.and_true, Bool.false_and, Bool.and_false, Bool.not_true, Bool.not_false, nI_toInt, or_true, true_or, or_false, false_or, nI_clamp, nI_leI, nI_ltI, nI_eq, e_nm, e_mn, e_mm, l_nm, l_mn, l_mm, le_nm, le_mn, le_mm, nI_add, nI_mull, nI_sub, nI_subn, nI_divl, nsm, qIn_nI, Nat.zero_le, Nat.not_lt_zero, Nat.reduceAdd, Nat.reduceMul, Nat.reduceSub, Nat.reduceDiv, Nat.reduceMod, Nat.reduceEqDiff, Nat.reduceLeDiff, Nat.reduceLT, Nat.add_zero, Nat.zero_add, not_false_eq_true, not_true_eq_false, true_and, and_true, Option.toList_some, Option.toList_none, List.cons_append, List.nil_append, qrf, if_true, if_false, if_pos, if_neg, reduceIte, ne_eq, Classical.not_not]
  have er := ord_rows (T := T) h6
  refine c_mord_4 (m := T 115) (T := T) (N := N) hB h6 (by omega) (by omega) (owF_lt _ h6) hwf rfl hpow (T 115 ^ (dsF T (T 115)).length) 0 (0, []) _ _ _ (by omega) (by decide) (fun j hj => ?_) ?_ (fun z => absurd z (Nat.lt_irrefl 0)) fun μ' hf h23 h50 h22 h312 => ?_
  · rw [qset_o (by decide), qset_o (by decide)]; exact hm j hj
  · rw [qset_k (by decide), qset_s]; rfl
  rw [er] at h50 h22 h312
  have h50 : (ordB T).1 ≤ 50 := h50
  have h22 : μ' 297 22 = kM (ordB T).1 := h22
  have h312 := h312 ordB_pos
  have h23 : μ' 297 23 = nI (dsF T (T 115)).length := h23.trans qset_s
  have fr : mFr μ μ' := mFr_tr (fun a y z1 z2 z3 => by
    by_cases ha : a = 297
    · subst ha; rw [qset_k (by omega), qset_k (by omega)]
    · rw [qset_o ha, qset_o ha]) hf
  have hQ := hQ μ' fr
  rcases neg1_cases h1 with rfl | ⟨k, hk2, rfl⟩
  · rw [if_pos rfl] at hQ
    simp (disch := omega) only [x175_21, x175_22, x175_23, x175_26, x175_27, x175_30, x175_52, hk, h22, ↓nm_1, ↓nm_2, ↓nm_3, ↓nm_4, ↓nm_11, ↓nm_12, ↓nm_13, ↓nm_14, ↓nm_100, nl_0, nl_1, nl_2, nl_3, nl_4, nl_5, nl_6, nl_7, nl_8, nl_9, nl_10, nl_11, nl_12, nl_13, nl_14, nl_15, nl_16, nl_17, nl_18, nl_19, nl_20, nl_22, nl_23, nl_24, nl_25, nl_30, nl_31, nl_34, nl_35, nl_40, nl_43, nl_46, nl_47, nl_48, nl_49, nl_50, nl_57, nl_58, nl_59, nl_63, nl_64, nl_94, nl_97, nl_98, nl_99, nl_100, nl_101, nl_102, nl_105, nl_108, nl_110, nl_111, nl_112, nl_113, nl_114, nl_115, nl_116, nl_117, nl_118, nl_119, nl_124, nl_126, nl_138, nl_140, nl_255, nl_720, nl_1024, nl_9999, nl_99999, nl_999999, nl_1000000, eq_self, Bool.false_eq_true, Bool.true_and, Bool.and_true, Bool.false_and, Bool.and_false, Bool.not_true, Bool.not_false, nI_toInt, or_true, true_or, or_false, false_or, nI_clamp, nI_leI, nI_ltI, nI_eq, e_nm, e_mn, e_mm, l_nm, l_mn, l_mm, le_nm, le_mn, le_mm, nI_add, nI_mull, nI_sub, nI_subn, nI_divl, nsm, qIn_nI, Nat.zero_le, Nat.not_lt_zero, Nat.reduceAdd, Nat.reduceMul, Nat.reduceSub, Nat.reduceDiv, Nat.reduceMod, Nat.reduceEqDiff, Nat.reduceLeDiff, Nat.reduceLT, Nat.add_zero, Nat.zero_add, not_false_eq_true, not_true_eq_false, true_and, and_true, Option.toList_some, Option.toList_none, List.cons_append, List.nil_append, qrf, if_true, if_false, if_pos, if_neg, reduceIte, ne_eq, Classical.not_not]
    exact hQ
  · rw [if_neg (by rw [e_nm hk2 (by omega)]; exact fun z => z), isR_nI hk2 (by omega)] at hQ
    by_cases hkn : k < (dsF T (T 115)).length
    · rw [decide_eq_true hkn, if_pos rfl, nn_nI hk2] at hQ
      have hI := (qaI (μ := μ') (mArr hB).2.2.2.2.2.2.2.2.2.2.2.1).1
      have v : μ' 312 k = nI ((ordB T).2.getD k 0) := h312 k hkn
      simp (disch := omega) only [x175_21, x175_22, x175_23, x175_33, x175_34, x175_35, x175_38, x175_41, x175_42, x175_45, x175_46, x175_47, x175_52, hk, h23, r21, hI, v, ↓nm_1, ↓nm_2, ↓nm_3, ↓nm_4, ↓nm_11, ↓nm_12, ↓nm_13, ↓nm_14, ↓nm_100, nl_0, nl_1, nl_2, nl_3, nl_4, nl_5, nl_6, nl_7, nl_8, nl_9, nl_10, nl_11, nl_12, nl_13, nl_14, nl_15, nl_16, nl_17, nl_18, nl_19, nl_20, nl_22, nl_23, nl_24, nl_25, nl_30, nl_31, nl_34, nl_35, nl_40, nl_43, nl_46, nl_47, nl_48, nl_49, nl_50, nl_57, nl_58, nl_59, nl_63, nl_64, nl_94, nl_97, nl_98, nl_99, nl_100, nl_101, nl_102, nl_105, nl_108, nl_110, nl_111, nl_112, nl_113, nl_114, nl_115, nl_116, nl_117, nl_118, nl_119, nl_124, nl_126, nl_138, nl_140, nl_255, nl_720, nl_1024, nl_9999, nl_99999, nl_999999, nl_1000000, eq_self, Bool.false_eq_true, Bool.true_and, Bool.and_true, Bool.false_and, Bool.and_false, Bool.not_true, Bool.not_false, nI_toInt, or_true, true_or, or_false, false_or, nI_clamp, nI_leI, nI_ltI, nI_eq, e_nm, e_mn, e_mm, l_nm, l_mn, l_mm, le_nm, le_mn, le_mm, nI_add, nI_mull, nI_sub, nI_subn, nI_divl, nsm, qIn_nI, Nat.zero_le, Nat.not_lt_zero, Nat.reduceAdd, Nat.reduceMul, Nat.reduceSub, Nat.reduceDiv, Nat.reduceMod, Nat.reduceEqDiff, Nat.reduceLeDiff, Nat.reduceLT, Nat.add_zero, Nat.zero_add, not_false_eq_true, not_true_eq_false, true_and, and_true, Option.toList_some, Option.toList_none, List.cons_append, List.nil_append, qrf, if_true, if_false, if_pos, if_neg, reduceIte, ne_eq, Classical.not_not]
      exact hQ
    · rw [decide_eq_false hkn, if_neg (by decide)] at hQ
      simp (disch := omega) only [x175_21, x175_22, x175_23, x175_33, x175_34, x175_35, x175_38, x175_50, x175_52, hk, h23, ↓nm_1, ↓nm_2, ↓nm_3, ↓nm_4, ↓nm_11, ↓nm_12, ↓nm_13, ↓nm_14, ↓nm_100, nl_0, nl_1, nl_2, nl_3, nl_4, nl_5, nl_6, nl_7, nl_8, nl_9, nl_10, nl_11, nl_12, nl_13, nl_14, nl_15, nl_16, nl_17, nl_18, nl_19, nl_20, nl_22, nl_23, nl_24, nl_25, nl_30, nl_31, nl_34, nl_35, nl_40, nl_43, nl_46, nl_47, nl_48, nl_49, nl_50, nl_57, nl_58, nl_59, nl_63, nl_64, nl_94, nl_97, nl_98, nl_99, nl_100, nl_101, nl_102, nl_105, nl_108, nl_110, nl_111, nl_112, nl_113, nl_114, nl_115, nl_116, nl_117, nl_118, nl_119, nl_124, nl_126, nl_138, nl_140, nl_255, nl_720, nl_1024, nl_9999, nl_99999, nl_999999, nl_1000000, eq_self, Bool.false_eq_true, Bool.true_and, Bool.and_true, Bool.false_and, Bool.and_false, Bool.not_true, Bool.not_false, nI_toInt, or_true, true_or, or_false, false_or, nI_clamp, nI_leI, nI_ltI, nI_eq, e_nm, e_mn, e_mm, l_nm, l_mn, l_mm, le_nm, le_mn, le_mm, nI_add, nI_mull, nI_sub, nI_subn, nI_divl, nsm, qIn_nI, Nat.zero_le, Nat.not_lt_zero, Nat.reduceAdd, Nat.reduceMul, Nat.reduceSub, Nat.reduceDiv, Nat.reduceMod, Nat.reduceEqDiff, Nat.reduceLeDiff, Nat.reduceLT, Nat.add_zero, Nat.zero_add, not_false_eq_true, not_true_eq_false, true_and, and_true, Option.toList_some, Option.toList_none, List.cons_append, List.nil_append, qrf, if_true, if_false, if_pos, if_neg, reduceIte, ne_eq, Classical.not_not]
      exact hQ
end
