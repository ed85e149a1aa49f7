/-! the reference's walkIn once more, whatever row 310 holds; a row of those who owe walked -/
section
variable {d : Nat} {σ : qSg} {la : qLa} {Q : qPost} {a : Nat} {N : Nat}
theorem c_mwalkZ_loop {path : List Nat} {l3 : Value} (hB : qBM σ) (hpl : path.length ≤ 8) (hp64 : ∀ x ∈ path, x < 64) : ∀ (n k p : Nat) (μ : qMu), k + n = path.length → μ 297 15 = nI path.length → qTrod μ path →
    (∀ μ' : qMu, (∀ c, ¬ c = 310 → μ' c = μ c) → Q none σ μ' la) → qEx (d + 3) 148 94 [] [.ref 297, .ref a, .int (nI p), l3, .int (nI k)] σ μ la Q := by
  have hk := mOk hB
  have hL := mBool hB
  have hr : σ.2 297 19 = some 310 := hB.2.2.2.2.2.2.2.2.2.2.2.2.2.1
  have hT : qArr σ 309 8 := (mArr hB).2.2.2.2.2.2.2.2.2.1
  have hrt : σ.2 297 14 = some 309 := hB.2.2.2.2.2.2.2.2.2.2.2.2.1
  intro n
  induction n with
  | zero =>
    intro k p μ hkn h15 ht hQ
    have : k = path.length := by omega
    subst this
    rw [x148_94]
    simp (disch := omega) only [x148_0, x148_1, x148_3, x148_4, x148_5, x148_6, x148_7, x148_8, x148_9, x148_10, x148_11, x148_12, x148_14, x148_15, x148_16, x148_17, x148_18, x148_20, x148_21, x148_22, x148_23, x148_26, x148_27, x148_29, x148_30, x148_31, x148_32, x148_34, x148_35, x148_36, x148_39, x148_40, x148_43, x148_46, x148_47, x148_48, x148_49, x148_51, x148_52, x148_53, x148_54, x148_55, x148_56, x148_59, x148_60, x148_61, x148_62, x148_64, x148_65, x148_66, x148_67, x148_68, x148_71, x148_72, x148_74, x148_75, x148_76, x148_77, x148_78, x148_79, x148_80, x148_81, x148_84, x148_85, x148_87, x148_88, x148_89, x148_90, x148_91, x148_92, x148_96, x148_97, x148_100, x148_103, x148_104, x148_107, x148_108, x148_111, x148_113, x148_114, x148_115, x148_116, x148_119, x148_122, hk, h15, ↓nm_1, ↓nm_2, ↓nm_3, ↓nm_4, ↓nm_11, ↓nm_12, ↓nm_13, ↓nm_14, ↓nm_100, nl_0, nl_1, nl_2, nl_3, nl_4, nl_5, nl_6, nl_7, nl_8, nl_9, nl_10, nl_11, nl_12, nl_13, nl_14, nl_15, nl_16, nl_17, nl_18, nl_19, nl_20, nl_22, nl_23, nl_24, nl_25, nl_30, nl_31, nl_34, nl_35, nl_40, nl_43, nl_46, nl_47, nl_48, nl_49, nl_50, nl_57, nl_58, nl_59, nl_63, nl_64, nl_94, nl_97, nl_98, nl_99, nl_100, nl_101, nl_102, nl_105, nl_108, nl_110, nl_111, nl_112, nl_113, nl_114, nl_115, nl_116, nl_117, nl_118, nl_119, nl_124, nl_126, nl_138, nl_140, nl_255, nl_720, nl_1024, nl_9999, nl_99999, nl_999999, nl_1000000, eq_self, Bool.false_eq_true, Bool.true_and, Bool.and_true, Bool.false_and, Bool.and_false, Bool.not_true, Bool.not_false, nI_toInt, or_true, true_or, or_false, false_or, nI_clamp, nI_leI, nI_ltI, nI_eq, e_nm, e_mn, e_mm, l_nm, l_mn, l_mm, le_nm, le_mn, le_mm, nI_add, nI_mull, nI_sub, nI_subn, nI_divl, nsm, qIn_nI, Nat.zero_le, Nat.not_lt_zero, Nat.reduceAdd, Nat.reduceMul, Nat.reduceSub, Nat.reduceDiv, Nat.reduceMod, Nat.reduceEqDiff, Nat.reduceLeDiff, Nat.reduceLT, Nat.add_zero, Nat.zero_add, not_false_eq_true, not_true_eq_false, true_and, and_true, Option.toList_some, Option.toList_none, List.cons_append, List.nil_append, qrf, if_true, if_false, if_pos, if_neg, reduceIte, ne_eq, Classical.not_not]
    exact hQ μ (fun _ _ => rfl)
  | succ n ih =>
    intro k p μ hkn h15 ht hQ
    have hI : qIld σ μ 309 = 8 := (qaI (μ := μ) hT).1
    have hkl : k < path.length := by omega
    have hx : path.getD k 0 ∈ path := by rw [List.getD_eq_getElem?_getD, List.getElem?_eq_getElem hkl]; exact List.getElem_mem hkl
    have hx64 := hp64 _ hx
    rw [x148_94]
    simp (disch := omega) only [x148_0, x148_1, x148_3, x148_4, x148_5, x148_6, x148_7, x148_8, x148_9, x148_10, x148_11, x148_12, x148_14, x148_15, x148_16, x148_17, x148_18, x148_20, x148_21, x148_22, x148_23, x148_26, x148_27, x148_29, x148_30, x148_31, x148_32, x148_34, x148_35, x148_36, x148_39, x148_40, x148_43, x148_46, x148_47, x148_48, x148_49, x148_51, x148_52, x148_53, x148_54, x148_55, x148_56, x148_59, x148_60, x148_61, x148_62, x148_64, x148_65, x148_66, x148_67, x148_68, x148_71, x148_72, x148_74, x148_75, x148_76, x148_77, x148_78, x148_79, x148_80, x148_81, x148_84, x148_85, x148_87, x148_88, x148_89, x148_90, x148_91, x148_92, x148_96, x148_97, x148_100, x148_103, x148_104, x148_107, x148_108, x148_111, x148_113, x148_114, x148_115, x148_116, x148_119, x148_122, hk, hr, hrt, hL, hI, h15, ht k hkl, ↓nm_1, ↓nm_2, ↓nm_3, ↓nm_4, ↓nm_11, ↓nm_12, ↓nm_13, ↓nm_14, ↓nm_100, nl_0, nl_1, nl_2, nl_3, nl_4, nl_5, nl_6, nl_7, nl_8, nl_9, nl_10, nl_11, nl_12, nl_13, nl_14, nl_15, nl_16, nl_17, nl_18, nl_19, nl_20, nl_22, nl_23, nl_24, nl_25, nl_30, nl_31, nl_34, nl_35, nl_40, nl_43, nl_46, nl_47, nl_48, nl_49, nl_50, nl_57, nl_58, nl_59, nl_63, nl_64, nl_94, nl_97, nl_98, nl_99, nl_100, nl_101, nl_102, nl_105, nl_108, nl_110, nl_111, nl_112, nl_113, nl_114, nl_115, nl_116, nl_117, nl_118, nl_119, nl_124, nl_126, nl_138, nl_140, nl_255, nl_720, nl_1024, nl_9999, nl_99999, nl_999999, nl_1000000, eq_self, Bool.false_eq_true, Bool.true_and, Bool.and_true, Bool.false_and, Bool.and_false, Bool.not_true, Bool.not_false, nI_toInt, or_true, true_or, or_false, false_or, nI_clamp, nI_leI, nI_ltI, nI_eq, e_nm, e_mn, e_mm, l_nm, l_mn, l_mm, le_nm, le_mn, le_mm, nI_add, nI_mull, nI_sub, nI_subn, nI_divl, nsm, qIn_nI, Nat.zero_le, Nat.not_lt_zero, Nat.reduceAdd, Nat.reduceMul, Nat.reduceSub, Nat.reduceDiv, Nat.reduceMod, Nat.reduceEqDiff, Nat.reduceLeDiff, Nat.reduceLT, Nat.add_zero, Nat.zero_add, not_false_eq_true, not_true_eq_false, true_and, and_true, Option.toList_some, Option.toList_none, List.cons_append, List.nil_append, qrf, if_true, if_false, if_pos, if_neg, reduceIte, ne_eq, Classical.not_not]
    exact ih (k + 1) p _ (by omega) (by rw [qset_o (by decide)]; exact h15) (fun i hi => by rw [qset_o (by decide)]; exact ht i hi) (fun μ' hf => hQ μ' (fun c h => (hf c h).trans (qset_ne h)))
set_option maxHeartbeats 4000000 in
theorem c_mwalkZ {p : Nat} {T : qT} {μ : qMu} (hB : qBM σ) (ha : qArr σ a 124) (ha2 : ¬ a = 309) (ha3 : ¬ a = 297) (ha4 : ¬ a = 310) (hwf : wfT N T) (hp : p < T 115) (hm : qMA μ a T)
    (hQ : ∀ μ' : qMu, qFI a μ μ' → μ' 297 18 = μ 297 18 → qMA μ' a (walkInT T p) → μ' 297 15 = nI (ownT T p).1.length → μ' 297 17 = nI (if barP T p then 1 else 0) → Q none σ μ' la) :
    qEx (d + 3) 148 0 [] [.ref 297, .ref a, .int (nI p), .retAddr 0, .retAddr 0] σ μ la Q := by
  have h6 := hwf.1
  have hp6 : p < 6 := by omega
  have hk := mOk hB
  have h117 := hwf.2.2.2.2.2.1
  obtain ⟨⟨k1, k5⟩, hin, hf4, ho, hdd⟩ := hwf.2.2.2.2.2.2.2.1 p hp
  have hI : ∀ μ : qMu, qIld σ μ a = 124 := fun μ => (qaI (μ := μ) ha).1
  have hL : qLen σ 10 a = 124 := (qaI (μ := μ) ha).2.1
  obtain ⟨p1, p2, p3⟩ := walkF_ok (kind := T (118 + p)) (way := wayT T (T (118 + p)) (T (7 + p))) hwf 8 (T (1 + p)) (pacesT (T (118 + p)) (T (13 + p))) hin
  have p64 : ∀ x ∈ (ownT T p).1, x < 64 := fun x hx => inT_lt hwf (p1 x hx).1
  simp (disch := omega) only [x148_0, x148_1, x148_3, x148_4, x148_5, x148_6, x148_7, x148_8, x148_9, x148_10, x148_11, x148_12, x148_14, x148_15, x148_16, x148_17, x148_18, x148_20, x148_21, x148_22, x148_23, hk, hI, ↓nm_1, ↓nm_2, ↓nm_3, ↓nm_4, ↓nm_11, ↓nm_12, ↓nm_13, ↓nm_14, ↓nm_100, nl_0, nl_1, nl_2, nl_3, nl_4, nl_5, nl_6, nl_7, nl_8, nl_9, nl_10, nl_11, nl_12, nl_13, nl_14, nl_15, nl_16, nl_17, nl_18, nl_19, nl_20, nl_22, nl_23, nl_24, nl_25, nl_30, nl_31, nl_34, nl_35, nl_40, nl_43, nl_46, nl_47, nl_48, nl_49, nl_50, nl_57, nl_58, nl_59, nl_63, nl_64, nl_94, nl_97, nl_98, nl_99, nl_100, nl_101, nl_102, nl_105, nl_108, nl_110, nl_111, nl_112, nl_113, nl_114, nl_115, nl_116, nl_117, nl_118, nl_119, nl_124, nl_126, nl_138, nl_140, nl_255, nl_720, nl_1024, nl_9999, nl_99999, nl_999999, nl_1000000, eq_self, Bool.false_eq_true, Bool.true_and, Bool.and_true, Bool.false_and, Bool.and_false, Bool.not_true, Bool.not_false, nI_toInt, or_true, true_or, or_false, false_or, nI_clamp, nI_leI, nI_ltI, nI_eq, e_nm, e_mn, e_mm, l_nm, l_mn, l_mm, le_nm, le_mn, le_mm, nI_add, nI_mull, nI_sub, nI_subn, nI_divl, nsm, qIn_nI, Nat.zero_le, Nat.not_lt_zero, Nat.reduceAdd, Nat.reduceMul, Nat.reduceSub, Nat.reduceDiv, Nat.reduceMod, Nat.reduceEqDiff, Nat.reduceLeDiff, Nat.reduceLT, Nat.add_zero, Nat.zero_add, not_false_eq_true, not_true_eq_false, true_and, and_true, Option.toList_some, Option.toList_none, List.cons_append, List.nil_append, qrf, if_true, if_false, if_pos, if_neg, reduceIte, ne_eq, Classical.not_not, hm (118 + p), hm (7 + p), hm (13 + p)]
  refine c_mwalk hB ha ha2 ha3 hwf hp k1 k5 hf4 ho hm fun μ1 hf1 m1 h16 h15 htr h17 => ?_
  have h17 := h17.trans (by rw [← barP_mid h6 hp6]; rfl : _ = nI (if barP T p then 1 else 0))
  have e16 : μ1 297 16 = nI (ownT T p).2 := h16
  have e15 : μ1 297 15 = nI (ownT T p).1.length := h15
  have etr : qTrod μ1 (ownT T p).1 := htr
  have m1' : qMA μ1 a (midT T p (ownT T p).1 (endT (T (1 + p)) (ownT T p).1)) := m1
  generalize hw : ownT T p = w at e16 e15 etr m1'
  clear h16 h15 htr m1
  generalize hT1 : midT T p w.1 (endT (T (1 + p)) w.1) = T1 at m1'
  have t117 : T1 117 = T 117 := by rw [← hT1, mid_hi hp6 (by omega)]
  have t118 : T1 (118 + p) = T (118 + p) := by rw [← hT1, mid_hi hp6 (by omega)]
  have tl : ∀ j, 7 ≤ j → j < 49 → T1 j = T j := fun j h1 h2 => by rw [← hT1]; unfold midT; rw [upT_o (by omega), opnT_lo (by omega)]
  -- from the update of what he owes on
  have key : ∀ o : Nat, o = (if T 117 = 1 then w.2 else 0) → qEx (d + 3) 148 48 [] [.ref 297, .ref a, .int (nI p), .int (nI (T (118 + p))), .retAddr 0] σ (qset μ1 a (13 + p) (nI o)) la Q := by
    intro o hO
    have m2 := qMA_up (k := 13 + p) (v := o) m1'
    have m3 := qMA_up (k := 19 + p) (v := T (19 + p) + w.1.length) m2
    have m4 := qMA_up (k := 7 + p) (v := lookT T p) m3
    have eW : walkInT T p = upT (upT (upT T1 (13 + p) o) (19 + p) (T (19 + p) + w.1.length)) (7 + p) (lookT T p) := by
      unfold walkInT
      rw [hw, hO, ← hT1]
      unfold midT
      congr 1
      exact upT_comm (by omega)
    rw [← eW] at m4
    have v19 : qset μ1 a (13 + p) (nI o) a (19 + p) = nI (T (19 + p)) := by
      rw [qset_k (by omega), m1' (19 + p) (by omega), tl (19 + p) (by omega) (by omega)]
    have v7 : qset (qset μ1 a (13 + p) (nI o)) a (19 + p) (nI (T (19 + p) + w.1.length)) a (7 + p) = nI (T (7 + p)) := by
      rw [qset_k (by omega), qset_k (by omega), m1' (7 + p) (by omega), tl (7 + p) (by omega) (by omega)]
    have v15 : qset μ1 a (13 + p) (nI o) 297 15 = nI w.1.length := by rw [qset_o (fun z => ha3 z.symm)]; exact e15
    have fin : qEx (d + 3) 148 91 [] [.ref 297, .ref a, .int (nI p), .int (nI (T (118 + p))), .retAddr 0] σ (qset (qset (qset μ1 a (13 + p) (nI o)) a (19 + p) (nI (T (19 + p) + w.1.length))) a (7 + p) (nI (lookT T p))) la Q := by
      simp only [x148_91, x148_92]
      have fr : ∀ c, ¬ c = a → qset (qset (qset μ1 a (13 + p) (nI o)) a (19 + p) (nI (T (19 + p) + w.1.length))) a (7 + p) (nI (lookT T p)) c = μ1 c := fun c hc => by rw [qset_ne hc, qset_ne hc, qset_ne hc]
      generalize qset (qset (qset μ1 a (13 + p) (nI o)) a (19 + p) (nI (T (19 + p) + w.1.length))) a (7 + p) (nI (lookT T p)) = μ4 at m4 fr
      refine c_mwalkZ_loop (path := w.1) hB (by rw [← hw]; exact p3) (by rw [← hw]; exact p64) w.1.length 0 p μ4 (by omega) (by rw [fr 297 (fun z => ha3 z.symm)]; exact e15) (fun i hi => by rw [fr 309 (fun z => ha2 z.symm)]; exact etr i hi) fun μ' hf => ?_
      refine hQ μ' (fun c x h1 h2 h3 h4 => ?_) ?_ (qMA_fr m4 fun x => by rw [hf a (fun z => ha4 z)]) ?_ ?_
      · rw [hf c h3, fr c h1]; exact hf1 c x h1 h2 (fun z => h4 ⟨z.1, by omega⟩)
      · rw [hf 297 (by decide), fr 297 (fun z => ha3 z.symm)]; exact hf1 297 18 (fun z => ha3 z.symm) (by decide) (by omega)
      · rw [hf 297 (by decide), fr 297 (fun z => ha3 z.symm), hw]; exact e15
      · rw [hf 297 (by decide), fr 297 (fun z => ha3 z.symm)]; exact h17
    by_cases h5 : T (118 + p) = 5
    · have e7 : lookT T p = (T (7 + p) + 1) % 4 := by unfold lookT; rw [if_pos h5]
      rw [e7] at fin
      simp (disch := omega) only [x148_48, x148_49, x148_51, x148_52, x148_53, x148_54, x148_55, x148_56, x148_59, x148_60, x148_61, x148_62, x148_64, x148_65, x148_66, x148_67, x148_68, x148_71, x148_72, x148_74, x148_75, x148_76, x148_77, x148_78, x148_79, x148_80, x148_81, x148_84, x148_85, x148_87, x148_88, x148_89, x148_90, hk, hI, hL, ↓nm_1, ↓nm_2, ↓nm_3, ↓nm_4, ↓nm_11, ↓nm_12, ↓nm_13, ↓nm_14, ↓nm_100, nl_0, nl_1, nl_2, nl_3, nl_4, nl_5, nl_6, nl_7, nl_8, nl_9, nl_10, nl_11, nl_12, nl_13, nl_14, nl_15, nl_16, nl_17, nl_18, nl_19, nl_20, nl_22, nl_23, nl_24, nl_25, nl_30, nl_31, nl_34, nl_35, nl_40, nl_43, nl_46, nl_47, nl_48, nl_49, nl_50, nl_57, nl_58, nl_59, nl_63, nl_64, nl_94, nl_97, nl_98, nl_99, nl_100, nl_101, nl_102, nl_105, nl_108, nl_110, nl_111, nl_112, nl_113, nl_114, nl_115, nl_116, nl_117, nl_118, nl_119, nl_124, nl_126, nl_138, nl_140, nl_255, nl_720, nl_1024, nl_9999, nl_99999, nl_999999, nl_1000000, eq_self, Bool.false_eq_true, Bool.true_and, Bool.and_true, Bool.false_and, Bool.and_false, Bool.not_true, Bool.not_false, nI_toInt, or_true, true_or, or_false, false_or, nI_clamp, nI_leI, nI_ltI, nI_eq, e_nm, e_mn, e_mm, l_nm, l_mn, l_mm, le_nm, le_mn, le_mm, nI_add, nI_mull, nI_sub, nI_subn, nI_divl, nsm, qIn_nI, Nat.zero_le, Nat.not_lt_zero, Nat.reduceAdd, Nat.reduceMul, Nat.reduceSub, Nat.reduceDiv, Nat.reduceMod, Nat.reduceEqDiff, Nat.reduceLeDiff, Nat.reduceLT, Nat.add_zero, Nat.zero_add, not_false_eq_true, not_true_eq_false, true_and, and_true, Option.toList_some, Option.toList_none, List.cons_append, List.nil_append, qrf, if_true, if_false, if_pos, if_neg, reduceIte, ne_eq, Classical.not_not, v19, v15, v7]
      exact fin
    · have e7 : lookT T p = T (7 + p) := by unfold lookT; rw [if_neg h5]
      rw [e7] at fin
      simp (disch := omega) only [x148_48, x148_49, x148_51, x148_52, x148_53, x148_54, x148_55, x148_56, x148_59, x148_60, x148_61, x148_62, x148_64, x148_65, x148_66, x148_67, x148_68, x148_71, x148_72, x148_74, x148_75, x148_76, x148_77, x148_78, x148_79, x148_80, x148_81, x148_84, x148_85, x148_87, x148_88, x148_89, x148_90, hk, hI, hL, ↓nm_1, ↓nm_2, ↓nm_3, ↓nm_4, ↓nm_11, ↓nm_12, ↓nm_13, ↓nm_14, ↓nm_100, nl_0, nl_1, nl_2, nl_3, nl_4, nl_5, nl_6, nl_7, nl_8, nl_9, nl_10, nl_11, nl_12, nl_13, nl_14, nl_15, nl_16, nl_17, nl_18, nl_19, nl_20, nl_22, nl_23, nl_24, nl_25, nl_30, nl_31, nl_34, nl_35, nl_40, nl_43, nl_46, nl_47, nl_48, nl_49, nl_50, nl_57, nl_58, nl_59, nl_63, nl_64, nl_94, nl_97, nl_98, nl_99, nl_100, nl_101, nl_102, nl_105, nl_108, nl_110, nl_111, nl_112, nl_113, nl_114, nl_115, nl_116, nl_117, nl_118, nl_119, nl_124, nl_126, nl_138, nl_140, nl_255, nl_720, nl_1024, nl_9999, nl_99999, nl_999999, nl_1000000, eq_self, Bool.false_eq_true, Bool.true_and, Bool.and_true, Bool.false_and, Bool.and_false, Bool.not_true, Bool.not_false, nI_toInt, or_true, true_or, or_false, false_or, nI_clamp, nI_leI, nI_ltI, nI_eq, e_nm, e_mn, e_mm, l_nm, l_mn, l_mm, le_nm, le_mn, le_mm, nI_add, nI_mull, nI_sub, nI_subn, nI_divl, nsm, qIn_nI, Nat.zero_le, Nat.not_lt_zero, Nat.reduceAdd, Nat.reduceMul, Nat.reduceSub, Nat.reduceDiv, Nat.reduceMod, Nat.reduceEqDiff, Nat.reduceLeDiff, Nat.reduceLT, Nat.add_zero, Nat.zero_add, not_false_eq_true, not_true_eq_false, true_and, and_true, Option.toList_some, Option.toList_none, List.cons_append, List.nil_append, qrf, if_true, if_false, if_pos, if_neg, reduceIte, ne_eq, Classical.not_not, v19, v15, v7]
      exact fin
  have v117 : μ1 a 117 = nI (T 117) := by rw [m1' 117 (by omega), t117]
  by_cases h1 : T 117 = 1
  · rw [if_pos h1] at key
    simp (disch := omega) only [x148_26, x148_27, x148_29, x148_30, x148_31, x148_32, x148_34, x148_35, x148_36, x148_39, x148_40, x148_43, x148_46, x148_47, hk, hI, hL, ↓nm_1, ↓nm_2, ↓nm_3, ↓nm_4, ↓nm_11, ↓nm_12, ↓nm_13, ↓nm_14, ↓nm_100, nl_0, nl_1, nl_2, nl_3, nl_4, nl_5, nl_6, nl_7, nl_8, nl_9, nl_10, nl_11, nl_12, nl_13, nl_14, nl_15, nl_16, nl_17, nl_18, nl_19, nl_20, nl_22, nl_23, nl_24, nl_25, nl_30, nl_31, nl_34, nl_35, nl_40, nl_43, nl_46, nl_47, nl_48, nl_49, nl_50, nl_57, nl_58, nl_59, nl_63, nl_64, nl_94, nl_97, nl_98, nl_99, nl_100, nl_101, nl_102, nl_105, nl_108, nl_110, nl_111, nl_112, nl_113, nl_114, nl_115, nl_116, nl_117, nl_118, nl_119, nl_124, nl_126, nl_138, nl_140, nl_255, nl_720, nl_1024, nl_9999, nl_99999, nl_999999, nl_1000000, eq_self, Bool.false_eq_true, Bool.true_and, Bool.and_true, Bool.false_and, Bool.and_false, Bool.not_true, Bool.not_false, nI_toInt, or_true, true_or, or_false, false_or, nI_clamp, nI_leI, nI_ltI, nI_eq, e_nm, e_mn, e_mm, l_nm, l_mn, l_mm, le_nm, le_mn, le_mm, nI_add, nI_mull, nI_sub, nI_subn, nI_divl, nsm, qIn_nI, Nat.zero_le, Nat.not_lt_zero, Nat.reduceAdd, Nat.reduceMul, Nat.reduceSub, Nat.reduceDiv, Nat.reduceMod, Nat.reduceEqDiff, Nat.reduceLeDiff, Nat.reduceLT, Nat.add_zero, Nat.zero_add, not_false_eq_true, not_true_eq_false, true_and, and_true, Option.toList_some, Option.toList_none, List.cons_append, List.nil_append, qrf, if_true, if_false, if_pos, if_neg, reduceIte, ne_eq, Classical.not_not, v117, e16]
    exact key _ rfl
  · rw [if_neg h1] at key
    simp (disch := omega) only [x148_26, x148_27, x148_29, x148_30, x148_31, x148_32, x148_34, x148_35, x148_36, x148_39, x148_40, x148_43, x148_46, x148_47, hk, hI, hL, ↓nm_1, ↓nm_2, ↓nm_3, ↓nm_4, ↓nm_11, ↓nm_12, ↓nm_13, ↓nm_14, ↓nm_100, nl_0, nl_1, nl_2, nl_3, nl_4, nl_5, nl_6, nl_7, nl_8, nl_9, nl_10, nl_11, nl_12, nl_13, nl_14, nl_15, nl_16, nl_17, nl_18, nl_19, nl_20, nl_22, nl_23, nl_24, nl_25, nl_30, nl_31, nl_34, nl_35, nl_40, nl_43, nl_46, nl_47, nl_48, nl_49, nl_50, nl_57, nl_58, nl_59, nl_63, nl_64, nl_94, nl_97, nl_98, nl_99, nl_100, nl_101, nl_102, nl_105, nl_108, nl_110, nl_111, nl_112, nl_113, nl_114, nl_115, nl_116, nl_117, nl_118, nl_119, nl_124, nl_126, nl_138, nl_140, nl_255, nl_720, nl_1024, nl_9999, nl_99999, nl_999999, nl_1000000, eq_self, Bool.false_eq_true, Bool.true_and, Bool.and_true, Bool.false_and, Bool.and_false, Bool.not_true, Bool.not_false, nI_toInt, or_true, true_or, or_false, false_or, nI_clamp, nI_leI, nI_ltI, nI_eq, e_nm, e_mn, e_mm, l_nm, l_mn, l_mm, le_nm, le_mn, le_mm, nI_add, nI_mull, nI_sub, nI_subn, nI_divl, nsm, qIn_nI, Nat.zero_le, Nat.not_lt_zero, Nat.reduceAdd, Nat.reduceMul, Nat.reduceSub, Nat.reduceDiv, Nat.reduceMod, Nat.reduceEqDiff, Nat.reduceLeDiff, Nat.reduceLT, Nat.add_zero, Nat.zero_add, not_false_eq_true, not_true_eq_false, true_and, and_true, Option.toList_some, Option.toList_none, List.cons_append, List.nil_append, qrf, if_true, if_false, if_pos, if_neg, reduceIte, ne_eq, Classical.not_not, v117, e16]
    exact key _ rfl
end
theorem kM_le {a s : Nat} (ha : a < 2 ^ 31) (hs : s < 2 ^ 31) : nI a ≤ kM s ↔ a < s := by
  unfold kM
  by_cases h : s = 0
  · subst h
    rw [if_pos rfl, le_nm ha (by omega)]
    exact ⟨fun z => z.elim, fun z => absurd z (Nat.not_lt_zero a)⟩
  · rw [if_neg h, nI_leI ha (by omega)]
    omega
theorem digL_lt {m : Nat} (h : 0 < m) : ∀ k c, ∀ p ∈ digL m k c, p < m := by
  intro k
  induction k with
  | zero => intro c p hp; exact absurd hp List.not_mem_nil
  | succ k ih =>
    intro c p hp
    rcases List.mem_append.mp (show p ∈ digL m k (c / m) ++ [c % m] from hp) with hp | hp
    · exact ih _ p hp
    · rw [List.mem_singleton.mp hp]; exact Nat.mod_lt _ h
section
variable {d N : Nat} {σ : qSg} {μ : qMu} {la : qLa} {Q : qPost} {T : qT}
theorem c_mord_3 {w n code : Nat} {l3 : Value} {row : List Nat} (hB : qBM σ) (hn : n ≤ 6) (hrl : row.length = n) : ∀ (f k sum : Nat) (T : qT) (μ : qMu), k + f = n → wfT N T → (∀ p ∈ row, p < T 115) → qMA μ 303 T → (∀ i, i < n → μ 311 i = nI (row.getD i 0)) →
    (∀ μ' : qMu, qFI 303 μ μ' → qEx (d + 4) 174 168 [] [.ref 297, .int (nI w), .int (nI n), l3, .int (nI code), .int (nI (sum + sumO (row.drop k) T)), .int (nI n)] σ μ' la Q) →
    qEx (d + 4) 174 132 [] [.ref 297, .int (nI w), .int (nI n), l3, .int (nI code), .int (nI sum), .int (nI k)] σ μ la Q := by
  have hk := mOk hB
  obtain ⟨r0, r1, r2, r4, r6, r7, r8, r9, r10, r11, r12, r14, r19, r20, r21, -⟩ := mR hB
  have hI : ∀ μ : qMu, qIld σ μ 311 = 6 := fun μ => (qaI (μ := μ) (mArr hB).2.2.2.2.2.2.2.2.2.2.1).1
  intro f
  induction f with
  | zero =>
    intro k sum T μ hkn hwf hr hm h311 hQ
    obtain rfl : k = n := by omega
    have := hQ μ (fun _ _ _ _ _ _ => rfl)
    rw [List.drop_eq_nil_of_le (by omega)] at this
    rw [x174_132]
    simp (disch := omega) only [x174_134, x174_135, ↓nm_1, ↓nm_2, ↓nm_3, ↓nm_4, ↓nm_11, ↓nm_12, ↓nm_13, ↓nm_14, ↓nm_100, nl_0, nl_1, nl_2, nl_3, nl_4, nl_5, nl_6, nl_7, nl_8, nl_9, nl_10, nl_11, nl_12, nl_13, nl_14, nl_15, nl_16, nl_17, nl_18, nl_19, nl_20, nl_22, nl_23, nl_24, nl_25, nl_30, nl_31, nl_34, nl_35, nl_40, nl_43, nl_46, nl_47, nl_48, nl_49, nl_50, nl_57, nl_58, nl_59, nl_63, nl_64, nl_94, nl_97, nl_98, nl_99, nl_100, nl_101, nl_102, nl_105, nl_108, nl_110, nl_111, nl_112, nl_113, nl_114, nl_115, nl_116, nl_117, nl_118, nl_119, nl_124, nl_126, nl_138, nl_140, nl_255, nl_720, nl_1024, nl_9999, nl_99999, nl_999999, nl_1000000, eq_self, Bool.false_eq_true, Bool.true_and, Bool.and_true, Bool.false_and, Bool.and_false, Bool.not_true, Bool.not_false, nI_toInt, or_true, true_or, or_false, false_or, nI_clamp, nI_leI, nI_ltI, nI_eq, e_nm, e_mn, e_mm, l_nm, l_mn, l_mm, le_nm, le_mn, le_mm, nI_add, nI_mull, nI_sub, nI_subn, nI_divl, nsm, qIn_nI, Nat.zero_le, Nat.not_lt_zero, Nat.reduceAdd, Nat.reduceMul, Nat.reduceSub, Nat.reduceDiv, Nat.reduceMod, Nat.reduceEqDiff, Nat.reduceLeDiff, Nat.reduceLT, Nat.add_zero, Nat.zero_add, not_false_eq_true, not_true_eq_false, true_and, and_true, Option.toList_some, Option.toList_none, List.cons_append, List.nil_append, qrf, if_true, if_false, if_pos, if_neg, reduceIte, ne_eq, Classical.not_not]
    exact this
  | succ f ih =>
    intro k sum T μ hkn hwf hr hm h311 hQ
    have hkl : k < row.length := by omega
    have hmem : row.getD k 0 ∈ row := by rw [List.getD_eq_getElem?_getD, List.getElem?_eq_getElem hkl]; exact List.getElem_mem hkl
    have hp := hr _ hmem
    have h6 := hwf.1
    have hd : row.drop k = row.getD k 0 :: row.drop (k + 1) := by
      rw [List.drop_eq_getElem_cons hkl, List.getD_eq_getElem?_getD, List.getElem?_eq_getElem hkl]; rfl
    have v := h311 k (by omega)
    rw [x174_132]
    simp (disch := omega) only [x174_134, x174_135, x174_138, x174_139, x174_140, x174_143, x174_144, x174_147, x174_149, x174_150, hk, r7, r20, hI, v, ↓nm_1, ↓nm_2, ↓nm_3, ↓nm_4, ↓nm_11, ↓nm_12, ↓nm_13, ↓nm_14, ↓nm_100, nl_0, nl_1, nl_2, nl_3, nl_4, nl_5, nl_6, nl_7, nl_8, nl_9, nl_10, nl_11, nl_12, nl_13, nl_14, nl_15, nl_16, nl_17, nl_18, nl_19, nl_20, nl_22, nl_23, nl_24, nl_25, nl_30, nl_31, nl_34, nl_35, nl_40, nl_43, nl_46, nl_47, nl_48, nl_49, nl_50, nl_57, nl_58, nl_59, nl_63, nl_64, nl_94, nl_97, nl_98, nl_99, nl_100, nl_101, nl_102, nl_105, nl_108, nl_110, nl_111, nl_112, nl_113, nl_114, nl_115, nl_116, nl_117, nl_118, nl_119, nl_124, nl_126, nl_138, nl_140, nl_255, nl_720, nl_1024, nl_9999, nl_99999, nl_999999, nl_1000000, eq_self, Bool.false_eq_true, Bool.true_and, Bool.and_true, Bool.false_and, Bool.and_false, Bool.not_true, Bool.not_false, nI_toInt, or_true, true_or, or_false, false_or, nI_clamp, nI_leI, nI_ltI, nI_eq, e_nm, e_mn, e_mm, l_nm, l_mn, l_mm, le_nm, le_mn, le_mm, nI_add, nI_mull, nI_sub, nI_subn, nI_divl, nsm, qIn_nI, Nat.zero_le, Nat.not_lt_zero, Nat.reduceAdd, Nat.reduceMul, Nat.reduceSub, Nat.reduceDiv, Nat.reduceMod, Nat.reduceEqDiff, Nat.reduceLeDiff, Nat.reduceLT, Nat.add_zero, Nat.zero_add, not_false_eq_true, not_true_eq_false, true_and, and_true, Option.toList_some, Option.toList_none, List.cons_append, List.nil_append, qrf, if_true, if_false, if_pos, if_neg, reduceIte, ne_eq, Classical.not_not]
    refine c_mwalkZ (N := N) hB (mArr hB).2.2.2.2.1 (by decide) (by decide) (by decide) hwf hp hm fun μ1 hf1 h18 m1 h15 h17 => ?_
    simp (disch := omega) only [x174_153, x174_155, x174_156, x174_159, x174_160, x174_162, x174_165, hk, h15, ↓nm_1, ↓nm_2, ↓nm_3, ↓nm_4, ↓nm_11, ↓nm_12, ↓nm_13, ↓nm_14, ↓nm_100, nl_0, nl_1, nl_2, nl_3, nl_4, nl_5, nl_6, nl_7, nl_8, nl_9, nl_10, nl_11, nl_12, nl_13, nl_14, nl_15, nl_16, nl_17, nl_18, nl_19, nl_20, nl_22, nl_23, nl_24, nl_25, nl_30, nl_31, nl_34, nl_35, nl_40, nl_43, nl_46, nl_47, nl_48, nl_49, nl_50, nl_57, nl_58, nl_59, nl_63, nl_64, nl_94, nl_97, nl_98, nl_99, nl_100, nl_101, nl_102, nl_105, nl_108, nl_110, nl_111, nl_112, nl_113, nl_114, nl_115, nl_116, nl_117, nl_118, nl_119, nl_124, nl_126, nl_138, nl_140, nl_255, nl_720, nl_1024, nl_9999, nl_99999, nl_999999, nl_1000000, eq_self, Bool.false_eq_true, Bool.true_and, Bool.and_true, Bool.false_and, Bool.and_false, Bool.not_true, Bool.not_false, nI_toInt, or_true, true_or, or_false, false_or, nI_clamp, nI_leI, nI_ltI, nI_eq, e_nm, e_mn, e_mm, l_nm, l_mn, l_mm, le_nm, le_mn, le_mm, nI_add, nI_mull, nI_sub, nI_subn, nI_divl, nsm, qIn_nI, Nat.zero_le, Nat.not_lt_zero, Nat.reduceAdd, Nat.reduceMul, Nat.reduceSub, Nat.reduceDiv, Nat.reduceMod, Nat.reduceEqDiff, Nat.reduceLeDiff, Nat.reduceLT, Nat.add_zero, Nat.zero_add, not_false_eq_true, not_true_eq_false, true_and, and_true, Option.toList_some, Option.toList_none, List.cons_append, List.nil_append, qrf, if_true, if_false, if_pos, if_neg, reduceIte, ne_eq, Classical.not_not]
    refine ih (k + 1) _ (walkInT T (row.getD k 0)) μ1 (by omega) (wf_walkIn hwf hp) (fun q hq => by rw [walkInT_hi (by omega) (by omega)]; exact hr q hq) m1 (fun i hi => by rw [hf1 311 i (by decide) (by decide) (by decide) (by omega)]; exact h311 i hi) fun μ' hf => ?_
    have := hQ μ' (fun c x a b e g => (hf c x a b e g).trans (hf1 c x a b e g))
    rw [hd, show sumO (row.getD k 0 :: row.drop (k + 1)) T = (ownT T (row.getD k 0)).1.length + sumO (row.drop (k + 1)) (walkInT T (row.getD k 0)) from rfl, ← Nat.add_assoc] at this
    exact this
set_option maxHeartbeats 4000000 in
theorem c_mord_4 {w m n K : Nat} (hB : qBM σ) (hm6 : m ≤ 6) (h1 : 1 ≤ m) (hn : n ≤ 6) (hw : w < 64) (hwf : wfT N T) (h115 : T 115 = m) (hK : K ≤ 46656) : ∀ (f c : Nat) (s : Nat × List Nat) (μ : qMu) (l5 l6 : Value), c + f = K → s.1 ≤ 50 → qMA μ 302 T → μ 297 22 = kM s.1 → (0 < s.1 → ∀ i, i < n → μ 312 i = nI (s.2.getD i 0)) →
    (∀ μ' : qMu, mFr μ μ' → μ' 297 23 = μ 297 23 → ((rowsM m n w f c).foldl (bstO T) s).1 ≤ 50 → μ' 297 22 = kM ((rowsM m n w f c).foldl (bstO T) s).1 → (0 < ((rowsM m n w f c).foldl (bstO T) s).1 → ∀ i, i < n → μ' 312 i = nI (((rowsM m n w f c).foldl (bstO T) s).2.getD i 0)) → Q none σ μ' la) →
    qEx (d + 4) 174 105 [] [.ref 297, .int (nI w), .int (nI n), .int (nI K), .int (nI c), l5, l6] σ μ la Q := by
  have hk := mOk hB
  obtain ⟨r0, r1, r2, r4, r6, r7, r8, r9, r10, r11, r12, r14, r19, r20, r21, -⟩ := mR hB
  intro f
  induction f with
  | zero =>
    intro c s μ l5 l6 hcf hs50 hm h22 h312 hQ
    obtain rfl : c = K := by omega
    rw [x174_105]
    simp (disch := omega) only [x174_107, x174_108, x174_204, ↓nm_1, ↓nm_2, ↓nm_3, ↓nm_4, ↓nm_11, ↓nm_12, ↓nm_13, ↓nm_14, ↓nm_100, nl_0, nl_1, nl_2, nl_3, nl_4, nl_5, nl_6, nl_7, nl_8, nl_9, nl_10, nl_11, nl_12, nl_13, nl_14, nl_15, nl_16, nl_17, nl_18, nl_19, nl_20, nl_22, nl_23, nl_24, nl_25, nl_30, nl_31, nl_34, nl_35, nl_40, nl_43, nl_46, nl_47, nl_48, nl_49, nl_50, nl_57, nl_58, nl_59, nl_63, nl_64, nl_94, nl_97, nl_98, nl_99, nl_100, nl_101, nl_102, nl_105, nl_108, nl_110, nl_111, nl_112, nl_113, nl_114, nl_115, nl_116, nl_117, nl_118, nl_119, nl_124, nl_126, nl_138, nl_140, nl_255, nl_720, nl_1024, nl_9999, nl_99999, nl_999999, nl_1000000, eq_self, Bool.false_eq_true, Bool.true_and, Bool.and_true, Bool.false_and, Bool.and_false, Bool.not_true, Bool.not_false, nI_toInt, or_true, true_or, or_false, false_or, nI_clamp, nI_leI, nI_ltI, nI_eq, e_nm, e_mn, e_mm, l_nm, l_mn, l_mm, le_nm, le_mn, le_mm, nI_add, nI_mull, nI_sub, nI_subn, nI_divl, nsm, qIn_nI, Nat.zero_le, Nat.not_lt_zero, Nat.reduceAdd, Nat.reduceMul, Nat.reduceSub, Nat.reduceDiv, Nat.reduceMod, Nat.reduceEqDiff, Nat.reduceLeDiff, Nat.reduceLT, Nat.add_zero, Nat.zero_add, not_false_eq_true, not_true_eq_false, true_and, and_true, Option.toList_some, Option.toList_none, List.cons_append, List.nil_append, qrf, if_true, if_false, if_pos, if_neg, reduceIte, ne_eq, Classical.not_not]
    exact hQ μ mFr_rf rfl hs50 h22 h312
  | succ f ih =>
    intro c s μ l5 l6 hcf hs50 hm h22 h312 hQ
    rw [x174_105]
    simp (disch := omega) only [x174_107, x174_108, x174_111, x174_112, x174_114, x174_115, x174_116, hk, ↓nm_1, ↓nm_2, ↓nm_3, ↓nm_4, ↓nm_11, ↓nm_12, ↓nm_13, ↓nm_14, ↓nm_100, nl_0, nl_1, nl_2, nl_3, nl_4, nl_5, nl_6, nl_7, nl_8, nl_9, nl_10, nl_11, nl_12, nl_13, nl_14, nl_15, nl_16, nl_17, nl_18, nl_19, nl_20, nl_22, nl_23, nl_24, nl_25, nl_30, nl_31, nl_34, nl_35, nl_40, nl_43, nl_46, nl_47, nl_48, nl_49, nl_50, nl_57, nl_58, nl_59, nl_63, nl_64, nl_94, nl_97, nl_98, nl_99, nl_100, nl_101, nl_102, nl_105, nl_108, nl_110, nl_111, nl_112, nl_113, nl_114, nl_115, nl_116, nl_117, nl_118, nl_119, nl_124, nl_126, nl_138, nl_140, nl_255, nl_720, nl_1024, nl_9999, nl_99999, nl_999999, nl_1000000, eq_self, Bool.false_eq_true, Bool.true_and, Bool.and_true, Bool.false_and, Bool.and_false, Bool.not_true, Bool.not_false, nI_toInt, or_true, true_or, or_false, false_or, nI_clamp, nI_leI, nI_ltI, nI_eq, e_nm, e_mn, e_mm, l_nm, l_mn, l_mm, le_nm, le_mn, le_mm, nI_add, nI_mull, nI_sub, nI_subn, nI_divl, nsm, qIn_nI, Nat.zero_le, Nat.not_lt_zero, Nat.reduceAdd, Nat.reduceMul, Nat.reduceSub, Nat.reduceDiv, Nat.reduceMod, Nat.reduceEqDiff, Nat.reduceLeDiff, Nat.reduceLT, Nat.add_zero, Nat.zero_add, not_false_eq_true, not_true_eq_false, true_and, and_true, Option.toList_some, Option.toList_none, List.cons_append, List.nil_append, qrf, if_true, if_false, if_pos, if_neg, reduceIte, ne_eq, Classical.not_not]
    refine c_mlayRow (m := m) hB hm6 h1 hn (by omega) hw (by rw [hm 115 (by omega), h115]) fun μ1 hf1 hrow => ?_
    have fr1 : mFr μ μ1 := fun a x z1 z2 z3 => by rw [hf1 a (by omega)]
    have m1 : qMA μ1 302 T := qMA_fr hm fun x => by rw [hf1 302 (by decide)]
    have hF : rowsM m n w (f + 1) c = if metL m n c 0 = w then digL m n c :: rowsM m n w f (c + 1) else rowsM m n w f (c + 1) := rfl
    by_cases hw0 : metL m n c 0 = w
    · rw [if_pos hw0] at hF
      rw [if_pos hw0]
      rw [hF, List.foldl_cons] at hQ
      have hlen := digL_len (m := m) n c
      have hr6 : ∀ p ∈ digL m n c, p < T 115 := fun p hp => by rw [h115]; exact digL_lt (by omega) n c p hp
      have hsum := sumO_le (digL m n c) T hwf hr6
      rw [hlen] at hsum
      simp (disch := omega) only [x174_119, x174_122, x174_123, hk, ↓nm_1, ↓nm_2, ↓nm_3, ↓nm_4, ↓nm_11, ↓nm_12, ↓nm_13, ↓nm_14, ↓nm_100, nl_0, nl_1, nl_2, nl_3, nl_4, nl_5, nl_6, nl_7, nl_8, nl_9, nl_10, nl_11, nl_12, nl_13, nl_14, nl_15, nl_16, nl_17, nl_18, nl_19, nl_20, nl_22, nl_23, nl_24, nl_25, nl_30, nl_31, nl_34, nl_35, nl_40, nl_43, nl_46, nl_47, nl_48, nl_49, nl_50, nl_57, nl_58, nl_59, nl_63, nl_64, nl_94, nl_97, nl_98, nl_99, nl_100, nl_101, nl_102, nl_105, nl_108, nl_110, nl_111, nl_112, nl_113, nl_114, nl_115, nl_116, nl_117, nl_118, nl_119, nl_124, nl_126, nl_138, nl_140, nl_255, nl_720, nl_1024, nl_9999, nl_99999, nl_999999, nl_1000000, eq_self, Bool.false_eq_true, Bool.true_and, Bool.and_true, Bool.false_and, Bool.and_false, Bool.not_true, Bool.not_false, nI_toInt, or_true, true_or, or_false, false_or, nI_clamp, nI_leI, nI_ltI, nI_eq, e_nm, e_mn, e_mm, l_nm, l_mn, l_mm, le_nm, le_mn, le_mm, nI_add, nI_mull, nI_sub, nI_subn, nI_divl, nsm, qIn_nI, Nat.zero_le, Nat.not_lt_zero, Nat.reduceAdd, Nat.reduceMul, Nat.reduceSub, Nat.reduceDiv, Nat.reduceMod, Nat.reduceEqDiff, Nat.reduceLeDiff, Nat.reduceLT, Nat.add_zero, Nat.zero_add, not_false_eq_true, not_true_eq_false, true_and, and_true, Option.toList_some, Option.toList_none, List.cons_append, List.nil_append, qrf, if_true, if_false, if_pos, if_neg, reduceIte, ne_eq, Classical.not_not]
      refine c_mbegin hB m1 fun μ2 hf2 hw2 => ?_
      have fr2 : mFr μ1 μ2 := fun a x z1 z2 z3 => by rw [hf2 a (by omega)]
      simp (disch := omega) only [x174_126, x174_127, x174_129, x174_130, ↓nm_1, ↓nm_2, ↓nm_3, ↓nm_4, ↓nm_11, ↓nm_12, ↓nm_13, ↓nm_14, ↓nm_100, nl_0, nl_1, nl_2, nl_3, nl_4, nl_5, nl_6, nl_7, nl_8, nl_9, nl_10, nl_11, nl_12, nl_13, nl_14, nl_15, nl_16, nl_17, nl_18, nl_19, nl_20, nl_22, nl_23, nl_24, nl_25, nl_30, nl_31, nl_34, nl_35, nl_40, nl_43, nl_46, nl_47, nl_48, nl_49, nl_50, nl_57, nl_58, nl_59, nl_63, nl_64, nl_94, nl_97, nl_98, nl_99, nl_100, nl_101, nl_102, nl_105, nl_108, nl_110, nl_111, nl_112, nl_113, nl_114, nl_115, nl_116, nl_117, nl_118, nl_119, nl_124, nl_126, nl_138, nl_140, nl_255, nl_720, nl_1024, nl_9999, nl_99999, nl_999999, nl_1000000, eq_self, Bool.false_eq_true, Bool.true_and, Bool.and_true, Bool.false_and, Bool.and_false, Bool.not_true, Bool.not_false, nI_toInt, or_true, true_or, or_false, false_or, nI_clamp, nI_leI, nI_ltI, nI_eq, e_nm, e_mn, e_mm, l_nm, l_mn, l_mm, le_nm, le_mn, le_mm, nI_add, nI_mull, nI_sub, nI_subn, nI_divl, nsm, qIn_nI, Nat.zero_le, Nat.not_lt_zero, Nat.reduceAdd, Nat.reduceMul, Nat.reduceSub, Nat.reduceDiv, Nat.reduceMod, Nat.reduceEqDiff, Nat.reduceLeDiff, Nat.reduceLT, Nat.add_zero, Nat.zero_add, not_false_eq_true, not_true_eq_false, true_and, and_true, Option.toList_some, Option.toList_none, List.cons_append, List.nil_append, qrf, if_true, if_false, if_pos, if_neg, reduceIte, ne_eq, Classical.not_not]
      refine c_mord_3 (N := N) (row := digL m n c) hB hn hlen n 0 0 T μ2 (by omega) hwf hr6 hw2 (fun i hi => by rw [hf2 311 (by decide)]; exact hrow i hi) fun μ3 hf3 => ?_
      have fr3 : mFr μ μ3 := mFr_tr fr1 (mFr_tr fr2 (mFr_I hf3))
      have hrow3 : ∀ i, i < n → μ3 311 i = nI ((digL m n c).getD i 0) := fun i hi => by rw [hf3 311 i (by decide) (by decide) (by decide) (by omega), hf2 311 (by decide)]; exact hrow i hi
      have m3 : qMA μ3 302 T := qMA_fr m1 fun x => by rw [hf3 302 x (by decide) (by decide) (by decide) (by omega), hf2 302 (by decide)]
      have e297 : ∀ x, ¬ (15 ≤ x ∧ x ≤ 18) → μ3 297 x = μ 297 x := fun x hx => by rw [hf3 297 x (by decide) (by decide) (by decide) (fun z => hx z.2), hf2 297 (by decide), hf1 297 (by decide)]
      have e312 : ∀ x, μ3 312 x = μ 312 x := fun x => by rw [hf3 312 x (by decide) (by decide) (by decide) (by omega), hf2 312 (by decide), hf1 312 (by decide)]
      have v22 : μ3 297 22 = kM s.1 := (e297 22 (by omega)).trans h22
      rw [List.drop_zero, Nat.zero_add]
      have eb : bstO T s (digL m n c) = if s.1 < sumO (digL m n c) T + 1 then (sumO (digL m n c) T + 1, digL m n c) else s := rfl
      by_cases hb : s.1 < sumO (digL m n c) T + 1
      · rw [if_pos hb] at eb
        rw [eb] at hQ
        have hcmp : ¬ sumO (digL m n c) T < s.1 := by omega
        simp (disch := omega) only [x174_168, x174_170, x174_171, x174_174, x174_177, x174_178, x174_180, x174_183, x174_184, x174_187, x174_188, x174_189, x174_192, x174_193, x174_195, hk, r20, r21, v22, kM_le, hcmp, ↓nm_1, ↓nm_2, ↓nm_3, ↓nm_4, ↓nm_11, ↓nm_12, ↓nm_13, ↓nm_14, ↓nm_100, nl_0, nl_1, nl_2, nl_3, nl_4, nl_5, nl_6, nl_7, nl_8, nl_9, nl_10, nl_11, nl_12, nl_13, nl_14, nl_15, nl_16, nl_17, nl_18, nl_19, nl_20, nl_22, nl_23, nl_24, nl_25, nl_30, nl_31, nl_34, nl_35, nl_40, nl_43, nl_46, nl_47, nl_48, nl_49, nl_50, nl_57, nl_58, nl_59, nl_63, nl_64, nl_94, nl_97, nl_98, nl_99, nl_100, nl_101, nl_102, nl_105, nl_108, nl_110, nl_111, nl_112, nl_113, nl_114, nl_115, nl_116, nl_117, nl_118, nl_119, nl_124, nl_126, nl_138, nl_140, nl_255, nl_720, nl_1024, nl_9999, nl_99999, nl_999999, nl_1000000, eq_self, Bool.false_eq_true, Bool.true_and, Bool.and_true, Bool.false_and, Bool.and_false, Bool.not_true, Bool.not_false, nI_toInt, or_true, true_or, or_false, false_or, nI_clamp, nI_leI, nI_ltI, nI_eq, e_nm, e_mn, e_mm, l_nm, l_mn, l_mm, le_nm, le_mn, le_mm, nI_add, nI_mull, nI_sub, nI_subn, nI_divl, nsm, qIn_nI, Nat.zero_le, Nat.not_lt_zero, Nat.reduceAdd, Nat.reduceMul, Nat.reduceSub, Nat.reduceDiv, Nat.reduceMod, Nat.reduceEqDiff, Nat.reduceLeDiff, Nat.reduceLT, Nat.add_zero, Nat.zero_add, not_false_eq_true, not_true_eq_false, true_and, and_true, Option.toList_some, Option.toList_none, List.cons_append, List.nil_append, qrf, if_true, if_false, if_pos, if_neg, reduceIte, ne_eq, Classical.not_not]
        refine c_bring (mArr hB).2.2.2.2.2.2.2.2.2.2.1 (mArr hB).2.2.2.2.2.2.2.2.2.2.2.1 (by omega) (by omega) (by omega) (by omega) (Or.inl (by decide)) ?_
        simp (disch := omega) only [x174_198, x174_201, ↓nm_1, ↓nm_2, ↓nm_3, ↓nm_4, ↓nm_11, ↓nm_12, ↓nm_13, ↓nm_14, ↓nm_100, nl_0, nl_1, nl_2, nl_3, nl_4, nl_5, nl_6, nl_7, nl_8, nl_9, nl_10, nl_11, nl_12, nl_13, nl_14, nl_15, nl_16, nl_17, nl_18, nl_19, nl_20, nl_22, nl_23, nl_24, nl_25, nl_30, nl_31, nl_34, nl_35, nl_40, nl_43, nl_46, nl_47, nl_48, nl_49, nl_50, nl_57, nl_58, nl_59, nl_63, nl_64, nl_94, nl_97, nl_98, nl_99, nl_100, nl_101, nl_102, nl_105, nl_108, nl_110, nl_111, nl_112, nl_113, nl_114, nl_115, nl_116, nl_117, nl_118, nl_119, nl_124, nl_126, nl_138, nl_140, nl_255, nl_720, nl_1024, nl_9999, nl_99999, nl_999999, nl_1000000, eq_self, Bool.false_eq_true, Bool.true_and, Bool.and_true, Bool.false_and, Bool.and_false, Bool.not_true, Bool.not_false, nI_toInt, or_true, true_or, or_false, false_or, nI_clamp, nI_leI, nI_ltI, nI_eq, e_nm, e_mn, e_mm, l_nm, l_mn, l_mm, le_nm, le_mn, le_mm, nI_add, nI_mull, nI_sub, nI_subn, nI_divl, nsm, qIn_nI, Nat.zero_le, Nat.not_lt_zero, Nat.reduceAdd, Nat.reduceMul, Nat.reduceSub, Nat.reduceDiv, Nat.reduceMod, Nat.reduceEqDiff, Nat.reduceLeDiff, Nat.reduceLT, Nat.add_zero, Nat.zero_add, not_false_eq_true, not_true_eq_false, true_and, and_true, Option.toList_some, Option.toList_none, List.cons_append, List.nil_append, qrf, if_true, if_false, if_pos, if_neg, reduceIte, ne_eq, Classical.not_not]
        have fr4 : mFr μ3 (qcpy (qset μ3 297 22 (nI (sumO (digL m n c) T))) 311 0 312 0 6) := fun a x z1 z2 z3 => by
          rw [qcpy_ne (by omega)]
          by_cases ha : a = 297
          · subst ha; rw [qset_k (by omega)]
          · rw [qset_o ha]
        refine ih (c + 1) (sumO (digL m n c) T + 1, digL m n c) _ _ _ (by omega) (by show sumO (digL m n c) T + 1 ≤ 50; omega) (qMA_fr m3 fun x => ?_) ?_ (fun _ i hi => ?_) fun μ' hf h23 h50 g22 g312 => hQ μ' (mFr_tr fr3 (mFr_tr fr4 hf)) ?_ h50 g22 g312
        · rw [qcpy_ne (by decide), qset_o (by decide)]
        · rw [qcpy_ne (by decide), qset_s]
          show _ = kM (sumO (digL m n c) T + 1)
          unfold kM
          rw [if_neg (by omega), Nat.add_sub_cancel]
        · unfold qcpy
          rw [if_pos ⟨rfl, by omega, by omega⟩, qset_o (by decide), show 0 + (i - 0) = i by omega]
          exact hrow3 i hi
        · rw [h23, qcpy_ne (by decide), qset_k (by decide)]
          exact e297 23 (by omega)
      · rw [if_neg hb] at eb
        rw [eb] at hQ
        have hcmp : sumO (digL m n c) T < s.1 := by omega
        simp (disch := omega) only [x174_168, x174_170, x174_171, x174_174, x174_198, x174_201, hk, r20, r21, v22, kM_le, hcmp, ↓nm_1, ↓nm_2, ↓nm_3, ↓nm_4, ↓nm_11, ↓nm_12, ↓nm_13, ↓nm_14, ↓nm_100, nl_0, nl_1, nl_2, nl_3, nl_4, nl_5, nl_6, nl_7, nl_8, nl_9, nl_10, nl_11, nl_12, nl_13, nl_14, nl_15, nl_16, nl_17, nl_18, nl_19, nl_20, nl_22, nl_23, nl_24, nl_25, nl_30, nl_31, nl_34, nl_35, nl_40, nl_43, nl_46, nl_47, nl_48, nl_49, nl_50, nl_57, nl_58, nl_59, nl_63, nl_64, nl_94, nl_97, nl_98, nl_99, nl_100, nl_101, nl_102, nl_105, nl_108, nl_110, nl_111, nl_112, nl_113, nl_114, nl_115, nl_116, nl_117, nl_118, nl_119, nl_124, nl_126, nl_138, nl_140, nl_255, nl_720, nl_1024, nl_9999, nl_99999, nl_999999, nl_1000000, eq_self, Bool.false_eq_true, Bool.true_and, Bool.and_true, Bool.false_and, Bool.and_false, Bool.not_true, Bool.not_false, nI_toInt, or_true, true_or, or_false, false_or, nI_clamp, nI_leI, nI_ltI, nI_eq, e_nm, e_mn, e_mm, l_nm, l_mn, l_mm, le_nm, le_mn, le_mm, nI_add, nI_mull, nI_sub, nI_subn, nI_divl, nsm, qIn_nI, Nat.zero_le, Nat.not_lt_zero, Nat.reduceAdd, Nat.reduceMul, Nat.reduceSub, Nat.reduceDiv, Nat.reduceMod, Nat.reduceEqDiff, Nat.reduceLeDiff, Nat.reduceLT, Nat.add_zero, Nat.zero_add, not_false_eq_true, not_true_eq_false, true_and, and_true, Option.toList_some, Option.toList_none, List.cons_append, List.nil_append, qrf, if_true, if_false, if_pos, if_neg, reduceIte, ne_eq, Classical.not_not]
        exact ih (c + 1) s _ _ _ (by omega) hs50 m3 v22 (fun z i hi => (e312 i).trans (h312 z i hi)) fun μ' hf h23 h50 g22 g312 => hQ μ' (mFr_tr fr3 hf) (h23.trans (e297 23 (by omega))) h50 g22 g312
    · rw [if_neg hw0] at hF
      rw [if_neg hw0]
      rw [hF] at hQ
      simp (disch := omega) only [x174_119, x174_198, x174_201, ↓nm_1, ↓nm_2, ↓nm_3, ↓nm_4, ↓nm_11, ↓nm_12, ↓nm_13, ↓nm_14, ↓nm_100, nl_0, nl_1, nl_2, nl_3, nl_4, nl_5, nl_6, nl_7, nl_8, nl_9, nl_10, nl_11, nl_12, nl_13, nl_14, nl_15, nl_16, nl_17, nl_18, nl_19, nl_20, nl_22, nl_23, nl_24, nl_25, nl_30, nl_31, nl_34, nl_35, nl_40, nl_43, nl_46, nl_47, nl_48, nl_49, nl_50, nl_57, nl_58, nl_59, nl_63, nl_64, nl_94, nl_97, nl_98, nl_99, nl_100, nl_101, nl_102, nl_105, nl_108, nl_110, nl_111, nl_112, nl_113, nl_114, nl_115, nl_116, nl_117, nl_118, nl_119, nl_124, nl_126, nl_138, nl_140, nl_255, nl_720, nl_1024, nl_9999, nl_99999, nl_999999, nl_1000000, eq_self, Bool.false_eq_true, Bool.true_and, Bool.and_true, Bool.false_and, Bool.and_false, Bool.not_true, Bool.not_false, nI_toInt, or_true, true_or, or_false, false_or, nI_clamp, nI_leI, nI_ltI, nI_eq, e_nm, e_mn, e_mm, l_nm, l_mn, l_mm, le_nm, le_mn, le_mm, nI_add, nI_mull, nI_sub, nI_subn, nI_divl, nsm, qIn_nI, Nat.zero_le, Nat.not_lt_zero, Nat.reduceAdd, Nat.reduceMul, Nat.reduceSub, Nat.reduceDiv, Nat.reduceMod, Nat.reduceEqDiff, Nat.reduceLeDiff, Nat.reduceLT, Nat.add_zero, Nat.zero_add, not_false_eq_true, not_true_eq_false, true_and, and_true, Option.toList_some, Option.toList_none, List.cons_append, List.nil_append, qrf, if_true, if_false, if_pos, if_neg, reduceIte, ne_eq, Classical.not_not]
      exact ih (c + 1) s _ _ _ (by omega) hs50 m1 (by rw [hf1 297 (by decide)]; exact h22) (fun z i hi => by rw [hf1 312 (by decide)]; exact h312 z i hi) fun μ' hf h23 h50 g22 g312 => hQ μ' (mFr_tr fr1 hf) (h23.trans (by rw [hf1 297 (by decide)])) h50 g22 g312
end
