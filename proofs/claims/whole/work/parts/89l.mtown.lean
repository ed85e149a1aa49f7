/-! the reference's town -/
theorem row_ok {b : List Nat} : ∀ (f r : Nat) (T : qT) (p q : Nat) (U : qT), r + f ≤ 8 → wP T → T 115 = 0 → pRows b f r T p = (q, some U) → wP U ∧ U 115 = 0 := by
  intro f
  induction f with
  | zero => intro r T p q U hr h h0 e; unfold pRows at e; cases e
  | succ f ih =>
    intro r T p q U hr h h0 e
    have w2 := h.1.2.1
    have hmr : mostR r T ≤ 8 := by unfold mostR; split <;> omega
    obtain ⟨l1, l2, -⟩ := pRow_len (b := b) (mostR r T) p
    have hw := wP_row (r := r) h h0 (by omega) (by omega) l2
    unfold pRows at e
    split at e
    · cases e
    split at e
    · cases e; exact hw
    split at e
    · cases e
    split at e
    · exact ih (r + 1) _ _ _ _ (by omega) hw.1 hw.2 e
    · cases e
theorem row_le {b : List Nat} : ∀ (f r : Nat) (T : qT) (p q : Nat) (o : Option qT), p ≤ b.length → pRows b f r T p = (q, o) → q ≤ b.length := by
  intro f
  induction f with
  | zero => intro r T p q o hp e; unfold pRows at e; cases e; exact hp
  | succ f ih =>
    intro r T p q o hp e
    have hl := (pRow_len (b := b) (mostR r T) p).2.2 hp
    unfold pRows at e
    split at e
    · cases e; exact hl
    split at e
    · rename_i h59
      cases e
      have := pkB_in (b := b) (p := p + (pRow b (mostR r T) p).length) (by omega)
      omega
    split at e
    · cases e; exact hl
    split at e
    · rename_i h47
      have := pkB_in (b := b) (p := p + (pRow b (mostR r T) p).length) (by omega)
      exact ih _ _ _ _ _ (by omega) e
    · cases e; exact hl
theorem people_ok {b : List Nat} : ∀ (f : Nat) (T : qT) (p q : Nat) (U : qT), f + T 115 = 6 → wP T → pPeople b f T p = (q, some U) → wP U := by
  intro f
  induction f with
  | zero => intro T p q U hf h e; unfold pPeople at e; cases e
  | succ f ih =>
    intro T p q U hf h e
    unfold pPeople at e
    cases hp : pPers b T p with
    | mk q0 o0 =>
      cases o0 with
      | none => simp only [hp] at e; cases e
      | some V =>
        obtain ⟨hw, hv⟩ := pers_ok h (by omega) hp
        simp only [hp] at e
        split at e
        · exact ih V q0 q U (by omega) hw e
        · cases e; exact hw
theorem wfS_wP {T : qT} (h : wP T) : wfS 0 T := ⟨h.1, by rw [h.2.2.1]; omega⟩
theorem town_ok {b : List Nat} {q : Nat} {U : qT} (e : pTown b = (q, some U)) : wfS 0 U := by
  unfold pTown at e
  cases h1 : pLaw b zT with
  | mk p1 o1 =>
    cases o1 with
    | none => simp only [h1] at e; cases e
    | some T =>
      have hT : wP T ∧ T 115 = 0 := by
        unfold pLaw at h1
        split at h1
        · cases hc : ixG crtL (pkN b 1) 0 with
          | none => simp only [hc] at h1; cases h1
          | some c =>
            cases ho : ixG ovrL (pkN b 2) 0 with
            | none => simp only [hc, ho] at h1; cases h1
            | some o =>
              simp only [hc, ho] at h1
              split at h1
              · cases h1; exact wP_law wP_z rfl (crt_in hc).1 (ovr_in ho).1
              · cases h1
        · cases h1
      cases h2 : pRows b 8 0 T p1 with
      | mk p2 o2 =>
        cases o2 with
        | none => simp only [h1, h2] at e; cases e
        | some V =>
          simp only [h1, h2] at e
          obtain ⟨hV, hv0⟩ := row_ok 8 0 T p1 p2 V (by omega) hT.1 hT.2 h2
          exact wfS_wP (people_ok 6 V p2 q U (by omega) hV e)
section
variable {d N p q : Nat} {σ : qSg} {μ μ0 : qMu} {la : qLa} {Q : qPost} {T : qT} {b : List Nat}
set_option maxHeartbeats 8000000 in
theorem m_pers (hB : qBM σ) (hb : okB b) (h : mPS μ0 b T p μ) (hw : wP T)
    (h1 : T 115 < 6 → ∀ q U, pPers b T p = (q, some U) → ∀ μ' : qMu, mPS μ0 b U q μ' → Q (some (.int (nI 1))) σ μ' la)
    (h0 : T 115 < 6 → ∀ q, pPers b T p = (q, none) → ∀ (μ' : qMu) (U : qT), mPS μ0 b U q μ' → Q (some (.int (nI 0))) σ μ' la)
    (h6 : T 115 = 6 → Q (some (.int (nI 0))) σ μ la) :
    qEx (d + 2) 136 0 [] [.ref 297, .retAddr 0, .retAddr 0, .retAddr 0, .retAddr 0, .retAddr 0, .retAddr 0, .retAddr 0] σ μ la Q := by
  have hk := mOk hB
  obtain ⟨r0, r1, r2, r4, r6, r7, r8, -⟩ := mR hB
  have hL := (qaI (μ := μ) (mArr hB).2.2.2.2.2.1).2.1
  have hI : ∀ μ : qMu, qIld σ μ 304 = 124 := fun μ => (qaI (μ := μ) (mArr hB).2.2.2.2.2.1).1
  have w115 := hw.1.1
  have w113 := hw.1.2.1
  have w114 := hw.1.2.2.1
  have hl140 := hb.1
  have bn := pkB_le (p := p) hb
  have v115 := h.2.2.2.1 115 (by omega)
  have hcell : ∀ o, o < T 115 → T (1 + o) < 64 := fun o ho => inT_lt hw.1 (hw.1.2.2.2.2.2.2.2.1 o ho).2.1
  cases hs : ixG srtL (pkN b p) 0 with
  | none =>
    have key : Q (some (.int (nI 0))) σ μ la := by
      by_cases hm : T 115 = 6
      · exact h6 hm
      · exact h0 (by omega) p (by unfold pPers; simp only [hs]) μ _ h
    simp (disch := omega) only [x136_0, x136_1, x136_4, x136_6, x136_7, x136_8, x136_9, x136_12, x136_15, x136_16, x136_17, x136_26, x136_27, hk, r8, hI, v115, c_peek hB hb h, c_sort, hs, Option.map_none, optV_n, ↓nm_1, ↓nm_2, ↓nm_3, ↓nm_4, ↓nm_11, ↓nm_12, ↓nm_13, ↓nm_14, ↓nm_100, nl_0, nl_1, nl_2, nl_3, nl_4, nl_5, nl_6, nl_7, nl_8, nl_9, nl_10, nl_11, nl_12, nl_13, nl_14, nl_15, nl_16, nl_17, nl_18, nl_19, nl_20, nl_22, nl_23, nl_24, nl_25, nl_30, nl_31, nl_34, nl_35, nl_40, nl_43, nl_46, nl_47, nl_48, nl_49, nl_50, nl_57, nl_58, nl_59, nl_63, nl_64, nl_94, nl_97, nl_98, nl_99, nl_100, nl_101, nl_102, nl_105, nl_108, nl_110, nl_111, nl_112, nl_113, nl_114, nl_115, nl_116, nl_117, nl_118, nl_119, nl_124, nl_126, nl_138, nl_140, nl_255, nl_720, nl_1024, nl_9999, nl_99999, nl_999999, nl_1000000, eq_self, Bool.false_eq_true, Bool.true_and, Bool.and_true, Bool.false_and, Bool.and_false, Bool.not_true, Bool.not_false, nI_toInt, or_true, true_or, or_false, false_or, nI_clamp, nI_leI, nI_ltI, nI_eq, e_nm, e_mn, e_mm, l_nm, l_mn, l_mm, le_nm, le_mn, le_mm, nI_add, nI_mull, nI_sub, nI_subn, nI_divl, nsm, qIn_nI, Nat.zero_le, Nat.not_lt_zero, Nat.reduceAdd, Nat.reduceMul, Nat.reduceSub, Nat.reduceDiv, Nat.reduceMod, Nat.reduceEqDiff, Nat.reduceLeDiff, Nat.reduceLT, Nat.add_zero, Nat.zero_add, not_false_eq_true, not_true_eq_false, true_and, and_true, Option.toList_some, Option.toList_none, List.cons_append, List.nil_append, qrf, if_true, if_false, if_pos, if_neg, reduceIte, ne_eq, Classical.not_not]
    exact key
  | some s =>
    obtain ⟨s5, n256⟩ := srt_in hs
    have hl1 : p + 1 ≤ b.length := pkB_in (by omega)
    have h5 := h.2.2.1
    by_cases hm : T 115 = 6
    · have key := h6 hm
      simp (disch := omega) only [x136_0, x136_1, x136_4, x136_6, x136_7, x136_8, x136_9, x136_12, x136_15, x136_16, x136_17, x136_20, x136_21, x136_23, x136_26, x136_27, hk, r8, hI, v115, c_peek hB hb h, c_sort, hs, Option.map_some, optV_s, hm, ↓nm_1, ↓nm_2, ↓nm_3, ↓nm_4, ↓nm_11, ↓nm_12, ↓nm_13, ↓nm_14, ↓nm_100, nl_0, nl_1, nl_2, nl_3, nl_4, nl_5, nl_6, nl_7, nl_8, nl_9, nl_10, nl_11, nl_12, nl_13, nl_14, nl_15, nl_16, nl_17, nl_18, nl_19, nl_20, nl_22, nl_23, nl_24, nl_25, nl_30, nl_31, nl_34, nl_35, nl_40, nl_43, nl_46, nl_47, nl_48, nl_49, nl_50, nl_57, nl_58, nl_59, nl_63, nl_64, nl_94, nl_97, nl_98, nl_99, nl_100, nl_101, nl_102, nl_105, nl_108, nl_110, nl_111, nl_112, nl_113, nl_114, nl_115, nl_116, nl_117, nl_118, nl_119, nl_124, nl_126, nl_138, nl_140, nl_255, nl_720, nl_1024, nl_9999, nl_99999, nl_999999, nl_1000000, eq_self, Bool.false_eq_true, Bool.true_and, Bool.and_true, Bool.false_and, Bool.and_false, Bool.not_true, Bool.not_false, nI_toInt, or_true, true_or, or_false, false_or, nI_clamp, nI_leI, nI_ltI, nI_eq, e_nm, e_mn, e_mm, l_nm, l_mn, l_mm, le_nm, le_mn, le_mm, nI_add, nI_mull, nI_sub, nI_subn, nI_divl, nsm, qIn_nI, Nat.zero_le, Nat.not_lt_zero, Nat.reduceAdd, Nat.reduceMul, Nat.reduceSub, Nat.reduceDiv, Nat.reduceMod, Nat.reduceEqDiff, Nat.reduceLeDiff, Nat.reduceLT, Nat.add_zero, Nat.zero_add, not_false_eq_true, not_true_eq_false, true_and, and_true, Option.toList_some, Option.toList_none, List.cons_append, List.nil_append, qrf, if_true, if_false, if_pos, if_neg, reduceIte, ne_eq, Classical.not_not]
      exact key
    have hm5 : T 115 < 6 := by omega
    have h1 := h1 hm5
    have h0 := h0 hm5
    have g1 := mPS_pos h hl1
    have e5 := g1.2.2.1
    have v113 := g1.2.2.2.1 113 (by omega)
    simp (disch := omega) only [x136_0, x136_1, x136_4, x136_6, x136_7, x136_8, x136_9, x136_12, x136_15, x136_16, x136_17, x136_20, x136_21, x136_23, x136_28, x136_29, x136_30, x136_33, x136_34, x136_35, x136_38, x136_39, x136_42, x136_43, x136_44, x136_45, x136_48, x136_50, x136_51, hk, r8, hI, v115, v113, h5, e5, c_peek hB hb h, c_sort, hs, Option.map_some, optV_s, ↓nm_1, ↓nm_2, ↓nm_3, ↓nm_4, ↓nm_11, ↓nm_12, ↓nm_13, ↓nm_14, ↓nm_100, nl_0, nl_1, nl_2, nl_3, nl_4, nl_5, nl_6, nl_7, nl_8, nl_9, nl_10, nl_11, nl_12, nl_13, nl_14, nl_15, nl_16, nl_17, nl_18, nl_19, nl_20, nl_22, nl_23, nl_24, nl_25, nl_30, nl_31, nl_34, nl_35, nl_40, nl_43, nl_46, nl_47, nl_48, nl_49, nl_50, nl_57, nl_58, nl_59, nl_63, nl_64, nl_94, nl_97, nl_98, nl_99, nl_100, nl_101, nl_102, nl_105, nl_108, nl_110, nl_111, nl_112, nl_113, nl_114, nl_115, nl_116, nl_117, nl_118, nl_119, nl_124, nl_126, nl_138, nl_140, nl_255, nl_720, nl_1024, nl_9999, nl_99999, nl_999999, nl_1000000, eq_self, Bool.false_eq_true, Bool.true_and, Bool.and_true, Bool.false_and, Bool.and_false, Bool.not_true, Bool.not_false, nI_toInt, or_true, true_or, or_false, false_or, nI_clamp, nI_leI, nI_ltI, nI_eq, e_nm, e_mn, e_mm, l_nm, l_mn, l_mm, le_nm, le_mn, le_mm, nI_add, nI_mull, nI_sub, nI_subn, nI_divl, nsm, qIn_nI, Nat.zero_le, Nat.not_lt_zero, Nat.reduceAdd, Nat.reduceMul, Nat.reduceSub, Nat.reduceDiv, Nat.reduceMod, Nat.reduceEqDiff, Nat.reduceLeDiff, Nat.reduceLT, Nat.add_zero, Nat.zero_add, not_false_eq_true, not_true_eq_false, true_and, and_true, Option.toList_some, Option.toList_none, List.cons_append, List.nil_append, qrf, if_true, if_false, if_pos, if_neg, reduceIte, ne_eq, Classical.not_not]
    refine m_fig hB hb (by omega) g1 (fun x hx μ2 g2 => ?_) (fun hx => ?_)
    · have fx := fig_in hx
      have v114 := g2.2.2.2.1 114 (by omega)
      simp (disch := omega) only [x136_54, x136_56, x136_58, x136_63, x136_64, x136_65, x136_68, x136_70, x136_71, hk, r8, hI, v114, ↓nm_1, ↓nm_2, ↓nm_3, ↓nm_4, ↓nm_11, ↓nm_12, ↓nm_13, ↓nm_14, ↓nm_100, nl_0, nl_1, nl_2, nl_3, nl_4, nl_5, nl_6, nl_7, nl_8, nl_9, nl_10, nl_11, nl_12, nl_13, nl_14, nl_15, nl_16, nl_17, nl_18, nl_19, nl_20, nl_22, nl_23, nl_24, nl_25, nl_30, nl_31, nl_34, nl_35, nl_40, nl_43, nl_46, nl_47, nl_48, nl_49, nl_50, nl_57, nl_58, nl_59, nl_63, nl_64, nl_94, nl_97, nl_98, nl_99, nl_100, nl_101, nl_102, nl_105, nl_108, nl_110, nl_111, nl_112, nl_113, nl_114, nl_115, nl_116, nl_117, nl_118, nl_119, nl_124, nl_126, nl_138, nl_140, nl_255, nl_720, nl_1024, nl_9999, nl_99999, nl_999999, nl_1000000, eq_self, Bool.false_eq_true, Bool.true_and, Bool.and_true, Bool.false_and, Bool.and_false, Bool.not_true, Bool.not_false, nI_toInt, or_true, true_or, or_false, false_or, nI_clamp, nI_leI, nI_ltI, nI_eq, e_nm, e_mn, e_mm, l_nm, l_mn, l_mm, le_nm, le_mn, le_mm, nI_add, nI_mull, nI_sub, nI_subn, nI_divl, nsm, qIn_nI, Nat.zero_le, Nat.not_lt_zero, Nat.reduceAdd, Nat.reduceMul, Nat.reduceSub, Nat.reduceDiv, Nat.reduceMod, Nat.reduceEqDiff, Nat.reduceLeDiff, Nat.reduceLT, Nat.add_zero, Nat.zero_add, not_false_eq_true, not_true_eq_false, true_and, and_true, Option.toList_some, Option.toList_none, List.cons_append, List.nil_append, qrf, if_true, if_false, if_pos, if_neg, reduceIte, ne_eq, Classical.not_not]
      refine m_fig hB hb (by omega) g2 (fun y hy μ3 g3 => ?_) (fun hy => ?_)
      · have fy := fig_in hy
        have g3 : mPS μ0 b T (p + 3) μ3 := g3
        simp (disch := omega) only [x136_74, x136_76, x136_78, x136_83, x136_84, x136_85, x136_88, x136_90, x136_92, x136_93, x136_95, x136_96, hk, r8, hI, ↓nm_1, ↓nm_2, ↓nm_3, ↓nm_4, ↓nm_11, ↓nm_12, ↓nm_13, ↓nm_14, ↓nm_100, nl_0, nl_1, nl_2, nl_3, nl_4, nl_5, nl_6, nl_7, nl_8, nl_9, nl_10, nl_11, nl_12, nl_13, nl_14, nl_15, nl_16, nl_17, nl_18, nl_19, nl_20, nl_22, nl_23, nl_24, nl_25, nl_30, nl_31, nl_34, nl_35, nl_40, nl_43, nl_46, nl_47, nl_48, nl_49, nl_50, nl_57, nl_58, nl_59, nl_63, nl_64, nl_94, nl_97, nl_98, nl_99, nl_100, nl_101, nl_102, nl_105, nl_108, nl_110, nl_111, nl_112, nl_113, nl_114, nl_115, nl_116, nl_117, nl_118, nl_119, nl_124, nl_126, nl_138, nl_140, nl_255, nl_720, nl_1024, nl_9999, nl_99999, nl_999999, nl_1000000, eq_self, Bool.false_eq_true, Bool.true_and, Bool.and_true, Bool.false_and, Bool.and_false, Bool.not_true, Bool.not_false, nI_toInt, or_true, true_or, or_false, false_or, nI_clamp, nI_leI, nI_ltI, nI_eq, e_nm, e_mn, e_mm, l_nm, l_mn, l_mm, le_nm, le_mn, le_mm, nI_add, nI_mull, nI_sub, nI_subn, nI_divl, nsm, qIn_nI, Nat.zero_le, Nat.not_lt_zero, Nat.reduceAdd, Nat.reduceMul, Nat.reduceSub, Nat.reduceDiv, Nat.reduceMod, Nat.reduceEqDiff, Nat.reduceLeDiff, Nat.reduceLT, Nat.add_zero, Nat.zero_add, not_false_eq_true, not_true_eq_false, true_and, and_true, Option.toList_some, Option.toList_none, List.cons_append, List.nil_append, qrf, if_true, if_false, if_pos, if_neg, reduceIte, ne_eq, Classical.not_not]
        refine m_free (T := T) hB g3.2.2.2.1 w115 (by omega) hcell (hw.2.1 _ (by omega)) ?_
        cases hf : freeT T (8 * y + x) with
        | false =>
          have key := h0 (p + 1) (by unfold pPers; simp only [hs, hx, hy, hf, Bool.false_eq_true, if_false]) _ _ (mPS_pos g3 hl1)
          simp (disch := omega) only [x136_99, x136_102, x136_103, x136_104, x136_107, x136_108, hk, ↓nm_1, ↓nm_2, ↓nm_3, ↓nm_4, ↓nm_11, ↓nm_12, ↓nm_13, ↓nm_14, ↓nm_100, nl_0, nl_1, nl_2, nl_3, nl_4, nl_5, nl_6, nl_7, nl_8, nl_9, nl_10, nl_11, nl_12, nl_13, nl_14, nl_15, nl_16, nl_17, nl_18, nl_19, nl_20, nl_22, nl_23, nl_24, nl_25, nl_30, nl_31, nl_34, nl_35, nl_40, nl_43, nl_46, nl_47, nl_48, nl_49, nl_50, nl_57, nl_58, nl_59, nl_63, nl_64, nl_94, nl_97, nl_98, nl_99, nl_100, nl_101, nl_102, nl_105, nl_108, nl_110, nl_111, nl_112, nl_113, nl_114, nl_115, nl_116, nl_117, nl_118, nl_119, nl_124, nl_126, nl_138, nl_140, nl_255, nl_720, nl_1024, nl_9999, nl_99999, nl_999999, nl_1000000, eq_self, Bool.false_eq_true, Bool.true_and, Bool.and_true, Bool.false_and, Bool.and_false, Bool.not_true, Bool.not_false, nI_toInt, or_true, true_or, or_false, false_or, nI_clamp, nI_leI, nI_ltI, nI_eq, e_nm, e_mn, e_mm, l_nm, l_mn, l_mm, le_nm, le_mn, le_mm, nI_add, nI_mull, nI_sub, nI_subn, nI_divl, nsm, qIn_nI, Nat.zero_le, Nat.not_lt_zero, Nat.reduceAdd, Nat.reduceMul, Nat.reduceSub, Nat.reduceDiv, Nat.reduceMod, Nat.reduceEqDiff, Nat.reduceLeDiff, Nat.reduceLT, Nat.add_zero, Nat.zero_add, not_false_eq_true, not_true_eq_false, true_and, and_true, Option.toList_some, Option.toList_none, List.cons_append, List.nil_append, qrf, if_true, if_false, if_pos, if_neg, reduceIte, ne_eq, Classical.not_not]
          exact key
        | true =>
          have bn3 := pkB_le (p := p + 3) hb
          cases hd : ixG sidL (pkN b (p + 3)) 0 with
          | none =>
            have key := h0 (p + 3) (by unfold pPers; simp only [hs, hx, hy, hf, hd, if_true]) _ _ g3
            simp (disch := omega) only [x136_99, x136_109, x136_110, x136_113, x136_116, x136_118, x136_120, x136_123, x136_124, hk, c_peek hB hb g3, c_side, hd, optV_n, ↓nm_1, ↓nm_2, ↓nm_3, ↓nm_4, ↓nm_11, ↓nm_12, ↓nm_13, ↓nm_14, ↓nm_100, nl_0, nl_1, nl_2, nl_3, nl_4, nl_5, nl_6, nl_7, nl_8, nl_9, nl_10, nl_11, nl_12, nl_13, nl_14, nl_15, nl_16, nl_17, nl_18, nl_19, nl_20, nl_22, nl_23, nl_24, nl_25, nl_30, nl_31, nl_34, nl_35, nl_40, nl_43, nl_46, nl_47, nl_48, nl_49, nl_50, nl_57, nl_58, nl_59, nl_63, nl_64, nl_94, nl_97, nl_98, nl_99, nl_100, nl_101, nl_102, nl_105, nl_108, nl_110, nl_111, nl_112, nl_113, nl_114, nl_115, nl_116, nl_117, nl_118, nl_119, nl_124, nl_126, nl_138, nl_140, nl_255, nl_720, nl_1024, nl_9999, nl_99999, nl_999999, nl_1000000, eq_self, Bool.false_eq_true, Bool.true_and, Bool.and_true, Bool.false_and, Bool.and_false, Bool.not_true, Bool.not_false, nI_toInt, or_true, true_or, or_false, false_or, nI_clamp, nI_leI, nI_ltI, nI_eq, e_nm, e_mn, e_mm, l_nm, l_mn, l_mm, le_nm, le_mn, le_mm, nI_add, nI_mull, nI_sub, nI_subn, nI_divl, nsm, qIn_nI, Nat.zero_le, Nat.not_lt_zero, Nat.reduceAdd, Nat.reduceMul, Nat.reduceSub, Nat.reduceDiv, Nat.reduceMod, Nat.reduceEqDiff, Nat.reduceLeDiff, Nat.reduceLT, Nat.add_zero, Nat.zero_add, not_false_eq_true, not_true_eq_false, true_and, and_true, Option.toList_some, Option.toList_none, List.cons_append, List.nil_append, qrf, if_true, if_false, if_pos, if_neg, reduceIte, ne_eq, Classical.not_not]
            exact key
          | some f =>
            obtain ⟨f4, n256⟩ := sid_in hd
            have hl4 : p + 4 ≤ b.length := pkB_in (b := b) (p := p + 3) (by omega)
            have g4 := mPS_pos g3 hl4
            have e53 := g3.2.2.1
            simp (disch := omega) only [x136_99, x136_109, x136_110, x136_113, x136_116, x136_118, x136_120, x136_125, x136_126, x136_127, x136_130, x136_131, x136_132, x136_135, x136_136, hk, c_peek hB hb g3, c_side, hd, optV_s, e53, ↓nm_1, ↓nm_2, ↓nm_3, ↓nm_4, ↓nm_11, ↓nm_12, ↓nm_13, ↓nm_14, ↓nm_100, nl_0, nl_1, nl_2, nl_3, nl_4, nl_5, nl_6, nl_7, nl_8, nl_9, nl_10, nl_11, nl_12, nl_13, nl_14, nl_15, nl_16, nl_17, nl_18, nl_19, nl_20, nl_22, nl_23, nl_24, nl_25, nl_30, nl_31, nl_34, nl_35, nl_40, nl_43, nl_46, nl_47, nl_48, nl_49, nl_50, nl_57, nl_58, nl_59, nl_63, nl_64, nl_94, nl_97, nl_98, nl_99, nl_100, nl_101, nl_102, nl_105, nl_108, nl_110, nl_111, nl_112, nl_113, nl_114, nl_115, nl_116, nl_117, nl_118, nl_119, nl_124, nl_126, nl_138, nl_140, nl_255, nl_720, nl_1024, nl_9999, nl_99999, nl_999999, nl_1000000, eq_self, Bool.false_eq_true, Bool.true_and, Bool.and_true, Bool.false_and, Bool.and_false, Bool.not_true, Bool.not_false, nI_toInt, or_true, true_or, or_false, false_or, nI_clamp, nI_leI, nI_ltI, nI_eq, e_nm, e_mn, e_mm, l_nm, l_mn, l_mm, le_nm, le_mn, le_mm, nI_add, nI_mull, nI_sub, nI_subn, nI_divl, nsm, qIn_nI, Nat.zero_le, Nat.not_lt_zero, Nat.reduceAdd, Nat.reduceMul, Nat.reduceSub, Nat.reduceDiv, Nat.reduceMod, Nat.reduceEqDiff, Nat.reduceLeDiff, Nat.reduceLT, Nat.add_zero, Nat.zero_add, not_false_eq_true, not_true_eq_false, true_and, and_true, Option.toList_some, Option.toList_none, List.cons_append, List.nil_append, qrf, if_true, if_false, if_pos, if_neg, reduceIte, ne_eq, Classical.not_not]
            refine m_num hB hb g4 fun q o ho μ5 g5 => ?_
            cases o with
            | none =>
              have key := h0 q (by unfold pPers; simp only [hs, hx, hy, hf, hd, ho, if_true]) _ _ g5
              simp (disch := omega) only [x136_139, x136_141, x136_143, x136_146, x136_147, optV_n, ↓nm_1, ↓nm_2, ↓nm_3, ↓nm_4, ↓nm_11, ↓nm_12, ↓nm_13, ↓nm_14, ↓nm_100, nl_0, nl_1, nl_2, nl_3, nl_4, nl_5, nl_6, nl_7, nl_8, nl_9, nl_10, nl_11, nl_12, nl_13, nl_14, nl_15, nl_16, nl_17, nl_18, nl_19, nl_20, nl_22, nl_23, nl_24, nl_25, nl_30, nl_31, nl_34, nl_35, nl_40, nl_43, nl_46, nl_47, nl_48, nl_49, nl_50, nl_57, nl_58, nl_59, nl_63, nl_64, nl_94, nl_97, nl_98, nl_99, nl_100, nl_101, nl_102, nl_105, nl_108, nl_110, nl_111, nl_112, nl_113, nl_114, nl_115, nl_116, nl_117, nl_118, nl_119, nl_124, nl_126, nl_138, nl_140, nl_255, nl_720, nl_1024, nl_9999, nl_99999, nl_999999, nl_1000000, eq_self, Bool.false_eq_true, Bool.true_and, Bool.and_true, Bool.false_and, Bool.and_false, Bool.not_true, Bool.not_false, nI_toInt, or_true, true_or, or_false, false_or, nI_clamp, nI_leI, nI_ltI, nI_eq, e_nm, e_mn, e_mm, l_nm, l_mn, l_mm, le_nm, le_mn, le_mm, nI_add, nI_mull, nI_sub, nI_subn, nI_divl, nsm, qIn_nI, Nat.zero_le, Nat.not_lt_zero, Nat.reduceAdd, Nat.reduceMul, Nat.reduceSub, Nat.reduceDiv, Nat.reduceMod, Nat.reduceEqDiff, Nat.reduceLeDiff, Nat.reduceLT, Nat.add_zero, Nat.zero_add, not_false_eq_true, not_true_eq_false, true_and, and_true, Option.toList_some, Option.toList_none, List.cons_append, List.nil_append, qrf, if_true, if_false, if_pos, if_neg, reduceIte, ne_eq, Classical.not_not]
              exact key
            | some o =>
              have o99 := owes_in ho
              have w115' := g5.2.2.2.1 115 (by omega)
              have g6 := mPS_up (k := 115) (v := T 115 + 1) (mPS_up (k := 13 + T 115) (v := o) (mPS_up (k := 7 + T 115) (v := f) (mPS_up (k := 1 + T 115) (v := 8 * y + x) (mPS_up (k := 118 + T 115) (v := s + 1) g5))))
              simp (disch := omega) only [x136_139, x136_141, x136_143, x136_148, x136_149, x136_152, x136_154, x136_155, x136_156, x136_157, x136_158, x136_159, x136_162, x136_163, x136_164, x136_165, x136_167, x136_169, x136_170, x136_172, x136_173, x136_174, x136_175, x136_178, x136_180, x136_181, x136_182, x136_184, x136_185, x136_186, x136_189, x136_191, x136_192, x136_193, x136_195, x136_196, x136_197, x136_200, x136_202, x136_203, x136_204, x136_205, x136_206, x136_207, x136_208, x136_210, hk, r8, hI, hL, w115', optV_s, ↓nm_1, ↓nm_2, ↓nm_3, ↓nm_4, ↓nm_11, ↓nm_12, ↓nm_13, ↓nm_14, ↓nm_100, nl_0, nl_1, nl_2, nl_3, nl_4, nl_5, nl_6, nl_7, nl_8, nl_9, nl_10, nl_11, nl_12, nl_13, nl_14, nl_15, nl_16, nl_17, nl_18, nl_19, nl_20, nl_22, nl_23, nl_24, nl_25, nl_30, nl_31, nl_34, nl_35, nl_40, nl_43, nl_46, nl_47, nl_48, nl_49, nl_50, nl_57, nl_58, nl_59, nl_63, nl_64, nl_94, nl_97, nl_98, nl_99, nl_100, nl_101, nl_102, nl_105, nl_108, nl_110, nl_111, nl_112, nl_113, nl_114, nl_115, nl_116, nl_117, nl_118, nl_119, nl_124, nl_126, nl_138, nl_140, nl_255, nl_720, nl_1024, nl_9999, nl_99999, nl_999999, nl_1000000, eq_self, Bool.false_eq_true, Bool.true_and, Bool.and_true, Bool.false_and, Bool.and_false, Bool.not_true, Bool.not_false, nI_toInt, or_true, true_or, or_false, false_or, nI_clamp, nI_leI, nI_ltI, nI_eq, e_nm, e_mn, e_mm, l_nm, l_mn, l_mm, le_nm, le_mn, le_mm, nI_add, nI_mull, nI_sub, nI_subn, nI_divl, nsm, qIn_nI, Nat.zero_le, Nat.not_lt_zero, Nat.reduceAdd, Nat.reduceMul, Nat.reduceSub, Nat.reduceDiv, Nat.reduceMod, Nat.reduceEqDiff, Nat.reduceLeDiff, Nat.reduceLT, Nat.add_zero, Nat.zero_add, not_false_eq_true, not_true_eq_false, true_and, and_true, Option.toList_some, Option.toList_none, List.cons_append, List.nil_append, qrf, if_true, if_false, if_pos, if_neg, reduceIte, ne_eq, Classical.not_not, qset_s, qset_o, qset_k, qset_ne]
              refine m_sign hB hb g6 (by decide) (fun hp hl μ7 g7 => ?_) (fun hp => ?_)
              · have key := h1 (q + 1) _ (by unfold pPers; simp only [hs, hx, hy, hf, hd, ho, hp, if_true]; rfl) μ7 g7
                simp (disch := omega) only [x136_213, ↓nm_1, ↓nm_2, ↓nm_3, ↓nm_4, ↓nm_11, ↓nm_12, ↓nm_13, ↓nm_14, ↓nm_100, nl_0, nl_1, nl_2, nl_3, nl_4, nl_5, nl_6, nl_7, nl_8, nl_9, nl_10, nl_11, nl_12, nl_13, nl_14, nl_15, nl_16, nl_17, nl_18, nl_19, nl_20, nl_22, nl_23, nl_24, nl_25, nl_30, nl_31, nl_34, nl_35, nl_40, nl_43, nl_46, nl_47, nl_48, nl_49, nl_50, nl_57, nl_58, nl_59, nl_63, nl_64, nl_94, nl_97, nl_98, nl_99, nl_100, nl_101, nl_102, nl_105, nl_108, nl_110, nl_111, nl_112, nl_113, nl_114, nl_115, nl_116, nl_117, nl_118, nl_119, nl_124, nl_126, nl_138, nl_140, nl_255, nl_720, nl_1024, nl_9999, nl_99999, nl_999999, nl_1000000, eq_self, Bool.false_eq_true, Bool.true_and, Bool.and_true, Bool.false_and, Bool.and_false, Bool.not_true, Bool.not_false, nI_toInt, or_true, true_or, or_false, false_or, nI_clamp, nI_leI, nI_ltI, nI_eq, e_nm, e_mn, e_mm, l_nm, l_mn, l_mm, le_nm, le_mn, le_mm, nI_add, nI_mull, nI_sub, nI_subn, nI_divl, nsm, qIn_nI, Nat.zero_le, Nat.not_lt_zero, Nat.reduceAdd, Nat.reduceMul, Nat.reduceSub, Nat.reduceDiv, Nat.reduceMod, Nat.reduceEqDiff, Nat.reduceLeDiff, Nat.reduceLT, Nat.add_zero, Nat.zero_add, not_false_eq_true, not_true_eq_false, true_and, and_true, Option.toList_some, Option.toList_none, List.cons_append, List.nil_append, qrf, if_true, if_false, if_pos, if_neg, reduceIte, ne_eq, Classical.not_not]
                exact key
              · have key := h0 q (by unfold pPers; simp only [hs, hx, hy, hf, hd, ho, hp, if_true, if_false]) _ _ g6
                simp (disch := omega) only [x136_213, ↓nm_1, ↓nm_2, ↓nm_3, ↓nm_4, ↓nm_11, ↓nm_12, ↓nm_13, ↓nm_14, ↓nm_100, nl_0, nl_1, nl_2, nl_3, nl_4, nl_5, nl_6, nl_7, nl_8, nl_9, nl_10, nl_11, nl_12, nl_13, nl_14, nl_15, nl_16, nl_17, nl_18, nl_19, nl_20, nl_22, nl_23, nl_24, nl_25, nl_30, nl_31, nl_34, nl_35, nl_40, nl_43, nl_46, nl_47, nl_48, nl_49, nl_50, nl_57, nl_58, nl_59, nl_63, nl_64, nl_94, nl_97, nl_98, nl_99, nl_100, nl_101, nl_102, nl_105, nl_108, nl_110, nl_111, nl_112, nl_113, nl_114, nl_115, nl_116, nl_117, nl_118, nl_119, nl_124, nl_126, nl_138, nl_140, nl_255, nl_720, nl_1024, nl_9999, nl_99999, nl_999999, nl_1000000, eq_self, Bool.false_eq_true, Bool.true_and, Bool.and_true, Bool.false_and, Bool.and_false, Bool.not_true, Bool.not_false, nI_toInt, or_true, true_or, or_false, false_or, nI_clamp, nI_leI, nI_ltI, nI_eq, e_nm, e_mn, e_mm, l_nm, l_mn, l_mm, le_nm, le_mn, le_mm, nI_add, nI_mull, nI_sub, nI_subn, nI_divl, nsm, qIn_nI, Nat.zero_le, Nat.not_lt_zero, Nat.reduceAdd, Nat.reduceMul, Nat.reduceSub, Nat.reduceDiv, Nat.reduceMod, Nat.reduceEqDiff, Nat.reduceLeDiff, Nat.reduceLT, Nat.add_zero, Nat.zero_add, not_false_eq_true, not_true_eq_false, true_and, and_true, Option.toList_some, Option.toList_none, List.cons_append, List.nil_append, qrf, if_true, if_false, if_pos, if_neg, reduceIte, ne_eq, Classical.not_not]
                exact key
      · have key := h0 (p + 2) (by unfold pPers; simp only [hs, hx, hy]) _ _ g2
        simp (disch := omega) only [x136_74, x136_76, x136_78, x136_81, x136_82, ↓nm_1, ↓nm_2, ↓nm_3, ↓nm_4, ↓nm_11, ↓nm_12, ↓nm_13, ↓nm_14, ↓nm_100, nl_0, nl_1, nl_2, nl_3, nl_4, nl_5, nl_6, nl_7, nl_8, nl_9, nl_10, nl_11, nl_12, nl_13, nl_14, nl_15, nl_16, nl_17, nl_18, nl_19, nl_20, nl_22, nl_23, nl_24, nl_25, nl_30, nl_31, nl_34, nl_35, nl_40, nl_43, nl_46, nl_47, nl_48, nl_49, nl_50, nl_57, nl_58, nl_59, nl_63, nl_64, nl_94, nl_97, nl_98, nl_99, nl_100, nl_101, nl_102, nl_105, nl_108, nl_110, nl_111, nl_112, nl_113, nl_114, nl_115, nl_116, nl_117, nl_118, nl_119, nl_124, nl_126, nl_138, nl_140, nl_255, nl_720, nl_1024, nl_9999, nl_99999, nl_999999, nl_1000000, eq_self, Bool.false_eq_true, Bool.true_and, Bool.and_true, Bool.false_and, Bool.and_false, Bool.not_true, Bool.not_false, nI_toInt, or_true, true_or, or_false, false_or, nI_clamp, nI_leI, nI_ltI, nI_eq, e_nm, e_mn, e_mm, l_nm, l_mn, l_mm, le_nm, le_mn, le_mm, nI_add, nI_mull, nI_sub, nI_subn, nI_divl, nsm, qIn_nI, Nat.zero_le, Nat.not_lt_zero, Nat.reduceAdd, Nat.reduceMul, Nat.reduceSub, Nat.reduceDiv, Nat.reduceMod, Nat.reduceEqDiff, Nat.reduceLeDiff, Nat.reduceLT, Nat.add_zero, Nat.zero_add, not_false_eq_true, not_true_eq_false, true_and, and_true, Option.toList_some, Option.toList_none, List.cons_append, List.nil_append, qrf, if_true, if_false, if_pos, if_neg, reduceIte, ne_eq, Classical.not_not]
        exact key
    · have key := h0 (p + 1) (by unfold pPers; simp only [hs, hx]) _ _ g1
      simp (disch := omega) only [x136_54, x136_56, x136_58, x136_61, x136_62, ↓nm_1, ↓nm_2, ↓nm_3, ↓nm_4, ↓nm_11, ↓nm_12, ↓nm_13, ↓nm_14, ↓nm_100, nl_0, nl_1, nl_2, nl_3, nl_4, nl_5, nl_6, nl_7, nl_8, nl_9, nl_10, nl_11, nl_12, nl_13, nl_14, nl_15, nl_16, nl_17, nl_18, nl_19, nl_20, nl_22, nl_23, nl_24, nl_25, nl_30, nl_31, nl_34, nl_35, nl_40, nl_43, nl_46, nl_47, nl_48, nl_49, nl_50, nl_57, nl_58, nl_59, nl_63, nl_64, nl_94, nl_97, nl_98, nl_99, nl_100, nl_101, nl_102, nl_105, nl_108, nl_110, nl_111, nl_112, nl_113, nl_114, nl_115, nl_116, nl_117, nl_118, nl_119, nl_124, nl_126, nl_138, nl_140, nl_255, nl_720, nl_1024, nl_9999, nl_99999, nl_999999, nl_1000000, eq_self, Bool.false_eq_true, Bool.true_and, Bool.and_true, Bool.false_and, Bool.and_false, Bool.not_true, Bool.not_false, nI_toInt, or_true, true_or, or_false, false_or, nI_clamp, nI_leI, nI_ltI, nI_eq, e_nm, e_mn, e_mm, l_nm, l_mn, l_mm, le_nm, le_mn, le_mm, nI_add, nI_mull, nI_sub, nI_subn, nI_divl, nsm, qIn_nI, Nat.zero_le, Nat.not_lt_zero, Nat.reduceAdd, Nat.reduceMul, Nat.reduceSub, Nat.reduceDiv, Nat.reduceMod, Nat.reduceEqDiff, Nat.reduceLeDiff, Nat.reduceLT, Nat.add_zero, Nat.zero_add, not_false_eq_true, not_true_eq_false, true_and, and_true, Option.toList_some, Option.toList_none, List.cons_append, List.nil_append, qrf, if_true, if_false, if_pos, if_neg, reduceIte, ne_eq, Classical.not_not]
      exact key
theorem m_people (hB : qBM σ) (hb : okB b) : ∀ (f : Nat) (T : qT) (p : Nat) (μ : qMu), f + T 115 = 6 → wP T → mPS μ0 b T p μ →
    (∀ q U, pPeople b f T p = (q, some U) → ∀ μ' : qMu, mPS μ0 b U q μ' → Q (some (.int (nI 1))) σ μ' la) →
    (∀ q, pPeople b f T p = (q, none) → ∀ (μ' : qMu) (U : qT), mPS μ0 b U q μ' → Q (some (.int (nI 0))) σ μ' la) →
    qEx (d + 3) 137 44 [] [.ref 297, .int (nI 1)] σ μ la Q := by
  have hk := mOk hB
  have hl140 := hb.1
  intro f
  induction f with
  | zero =>
    intro T p μ hf hw h h1 h0
    have key := h0 p rfl
    rw [x137_44]
    simp (disch := omega) only [x137_45, x137_48, x137_49, hk, ↓nm_1, ↓nm_2, ↓nm_3, ↓nm_4, ↓nm_11, ↓nm_12, ↓nm_13, ↓nm_14, ↓nm_100, nl_0, nl_1, nl_2, nl_3, nl_4, nl_5, nl_6, nl_7, nl_8, nl_9, nl_10, nl_11, nl_12, nl_13, nl_14, nl_15, nl_16, nl_17, nl_18, nl_19, nl_20, nl_22, nl_23, nl_24, nl_25, nl_30, nl_31, nl_34, nl_35, nl_40, nl_43, nl_46, nl_47, nl_48, nl_49, nl_50, nl_57, nl_58, nl_59, nl_63, nl_64, nl_94, nl_97, nl_98, nl_99, nl_100, nl_101, nl_102, nl_105, nl_108, nl_110, nl_111, nl_112, nl_113, nl_114, nl_115, nl_116, nl_117, nl_118, nl_119, nl_124, nl_126, nl_138, nl_140, nl_255, nl_720, nl_1024, nl_9999, nl_99999, nl_999999, nl_1000000, eq_self, Bool.false_eq_true, Bool.true_and, Bool.and_true, Bool.false_and, Bool.and_false, Bool.not_true, Bool.not_false, nI_toInt, or_true, true_or, or_false, false_or, nI_clamp, nI_leI, nI_ltI, nI_eq, e_nm, e_mn, e_mm, l_nm, l_mn, l_mm, le_nm, le_mn, le_mm, nI_add, nI_mull, nI_sub, nI_subn, nI_divl, nsm, qIn_nI, Nat.zero_le, Nat.not_lt_zero, Nat.reduceAdd, Nat.reduceMul, Nat.reduceSub, Nat.reduceDiv, Nat.reduceMod, Nat.reduceEqDiff, Nat.reduceLeDiff, Nat.reduceLT, Nat.add_zero, Nat.zero_add, not_false_eq_true, not_true_eq_false, true_and, and_true, Option.toList_some, Option.toList_none, List.cons_append, List.nil_append, qrf, if_true, if_false, if_pos, if_neg, reduceIte, ne_eq, Classical.not_not]
    refine m_pers hB hb h hw (fun z => absurd z (by omega)) (fun z => absurd z (by omega)) (fun _ => ?_)
    simp (disch := omega) only [x137_52, x137_55, x137_56, ↓nm_1, ↓nm_2, ↓nm_3, ↓nm_4, ↓nm_11, ↓nm_12, ↓nm_13, ↓nm_14, ↓nm_100, nl_0, nl_1, nl_2, nl_3, nl_4, nl_5, nl_6, nl_7, nl_8, nl_9, nl_10, nl_11, nl_12, nl_13, nl_14, nl_15, nl_16, nl_17, nl_18, nl_19, nl_20, nl_22, nl_23, nl_24, nl_25, nl_30, nl_31, nl_34, nl_35, nl_40, nl_43, nl_46, nl_47, nl_48, nl_49, nl_50, nl_57, nl_58, nl_59, nl_63, nl_64, nl_94, nl_97, nl_98, nl_99, nl_100, nl_101, nl_102, nl_105, nl_108, nl_110, nl_111, nl_112, nl_113, nl_114, nl_115, nl_116, nl_117, nl_118, nl_119, nl_124, nl_126, nl_138, nl_140, nl_255, nl_720, nl_1024, nl_9999, nl_99999, nl_999999, nl_1000000, eq_self, Bool.false_eq_true, Bool.true_and, Bool.and_true, Bool.false_and, Bool.and_false, Bool.not_true, Bool.not_false, nI_toInt, or_true, true_or, or_false, false_or, nI_clamp, nI_leI, nI_ltI, nI_eq, e_nm, e_mn, e_mm, l_nm, l_mn, l_mm, le_nm, le_mn, le_mm, nI_add, nI_mull, nI_sub, nI_subn, nI_divl, nsm, qIn_nI, Nat.zero_le, Nat.not_lt_zero, Nat.reduceAdd, Nat.reduceMul, Nat.reduceSub, Nat.reduceDiv, Nat.reduceMod, Nat.reduceEqDiff, Nat.reduceLeDiff, Nat.reduceLT, Nat.add_zero, Nat.zero_add, not_false_eq_true, not_true_eq_false, true_and, and_true, Option.toList_some, Option.toList_none, List.cons_append, List.nil_append, qrf, if_true, if_false, if_pos, if_neg, reduceIte, ne_eq, Classical.not_not]
    exact key μ _ h
  | succ f ih =>
    intro T p μ hf hw h h1 h0
    have e : pPeople b (f + 1) T p = match pPers b T p with
      | (q, none) => (q, none)
      | (q, some U) => if q < b.length then pPeople b f U q else (q, some U) := rfl
    rw [e] at h1 h0
    rw [x137_44]
    simp (disch := omega) only [x137_45, x137_48, x137_49, hk, ↓nm_1, ↓nm_2, ↓nm_3, ↓nm_4, ↓nm_11, ↓nm_12, ↓nm_13, ↓nm_14, ↓nm_100, nl_0, nl_1, nl_2, nl_3, nl_4, nl_5, nl_6, nl_7, nl_8, nl_9, nl_10, nl_11, nl_12, nl_13, nl_14, nl_15, nl_16, nl_17, nl_18, nl_19, nl_20, nl_22, nl_23, nl_24, nl_25, nl_30, nl_31, nl_34, nl_35, nl_40, nl_43, nl_46, nl_47, nl_48, nl_49, nl_50, nl_57, nl_58, nl_59, nl_63, nl_64, nl_94, nl_97, nl_98, nl_99, nl_100, nl_101, nl_102, nl_105, nl_108, nl_110, nl_111, nl_112, nl_113, nl_114, nl_115, nl_116, nl_117, nl_118, nl_119, nl_124, nl_126, nl_138, nl_140, nl_255, nl_720, nl_1024, nl_9999, nl_99999, nl_999999, nl_1000000, eq_self, Bool.false_eq_true, Bool.true_and, Bool.and_true, Bool.false_and, Bool.and_false, Bool.not_true, Bool.not_false, nI_toInt, or_true, true_or, or_false, false_or, nI_clamp, nI_leI, nI_ltI, nI_eq, e_nm, e_mn, e_mm, l_nm, l_mn, l_mm, le_nm, le_mn, le_mm, nI_add, nI_mull, nI_sub, nI_subn, nI_divl, nsm, qIn_nI, Nat.zero_le, Nat.not_lt_zero, Nat.reduceAdd, Nat.reduceMul, Nat.reduceSub, Nat.reduceDiv, Nat.reduceMod, Nat.reduceEqDiff, Nat.reduceLeDiff, Nat.reduceLT, Nat.add_zero, Nat.zero_add, not_false_eq_true, not_true_eq_false, true_and, and_true, Option.toList_some, Option.toList_none, List.cons_append, List.nil_append, qrf, if_true, if_false, if_pos, if_neg, reduceIte, ne_eq, Classical.not_not]
    refine m_pers hB hb h hw (fun hm q U hp μ1 g1 => ?_) (fun hm q hp μ1 U g1 => ?_) (fun z => absurd z (by omega))
    · obtain ⟨hU, hu⟩ := pers_ok hw hm hp
      simp only [hp] at h1 h0
      have e5 := g1.2.2.1
      have e3 := g1.2.1.1
      have g6 := g1.2.2.2.2
      by_cases hq : q < b.length
      · rw [if_pos hq] at h1 h0
        have next := ih U q μ1 (by omega) hU g1 h1 h0
        simp (disch := omega) only [x137_52, x137_57, x137_58, x137_61, x137_62, x137_65, x137_68, x137_69, x137_73, x137_74, hk, e5, e3, ↓nm_1, ↓nm_2, ↓nm_3, ↓nm_4, ↓nm_11, ↓nm_12, ↓nm_13, ↓nm_14, ↓nm_100, nl_0, nl_1, nl_2, nl_3, nl_4, nl_5, nl_6, nl_7, nl_8, nl_9, nl_10, nl_11, nl_12, nl_13, nl_14, nl_15, nl_16, nl_17, nl_18, nl_19, nl_20, nl_22, nl_23, nl_24, nl_25, nl_30, nl_31, nl_34, nl_35, nl_40, nl_43, nl_46, nl_47, nl_48, nl_49, nl_50, nl_57, nl_58, nl_59, nl_63, nl_64, nl_94, nl_97, nl_98, nl_99, nl_100, nl_101, nl_102, nl_105, nl_108, nl_110, nl_111, nl_112, nl_113, nl_114, nl_115, nl_116, nl_117, nl_118, nl_119, nl_124, nl_126, nl_138, nl_140, nl_255, nl_720, nl_1024, nl_9999, nl_99999, nl_999999, nl_1000000, eq_self, Bool.false_eq_true, Bool.true_and, Bool.and_true, Bool.false_and, Bool.and_false, Bool.not_true, Bool.not_false, nI_toInt, or_true, true_or, or_false, false_or, nI_clamp, nI_leI, nI_ltI, nI_eq, e_nm, e_mn, e_mm, l_nm, l_mn, l_mm, le_nm, le_mn, le_mm, nI_add, nI_mull, nI_sub, nI_subn, nI_divl, nsm, qIn_nI, Nat.zero_le, Nat.not_lt_zero, Nat.reduceAdd, Nat.reduceMul, Nat.reduceSub, Nat.reduceDiv, Nat.reduceMod, Nat.reduceEqDiff, Nat.reduceLeDiff, Nat.reduceLT, Nat.add_zero, Nat.zero_add, not_false_eq_true, not_true_eq_false, true_and, and_true, Option.toList_some, Option.toList_none, List.cons_append, List.nil_append, qrf, if_true, if_false, if_pos, if_neg, reduceIte, ne_eq, Classical.not_not]
        exact next
      · rw [if_neg hq] at h1
        have key := h1 q U rfl μ1 g1
        simp (disch := omega) only [x137_52, x137_57, x137_58, x137_61, x137_62, x137_65, x137_72, x137_73, x137_74, x137_44, x137_45, x137_77, x137_78, hk, e5, e3, ↓nm_1, ↓nm_2, ↓nm_3, ↓nm_4, ↓nm_11, ↓nm_12, ↓nm_13, ↓nm_14, ↓nm_100, nl_0, nl_1, nl_2, nl_3, nl_4, nl_5, nl_6, nl_7, nl_8, nl_9, nl_10, nl_11, nl_12, nl_13, nl_14, nl_15, nl_16, nl_17, nl_18, nl_19, nl_20, nl_22, nl_23, nl_24, nl_25, nl_30, nl_31, nl_34, nl_35, nl_40, nl_43, nl_46, nl_47, nl_48, nl_49, nl_50, nl_57, nl_58, nl_59, nl_63, nl_64, nl_94, nl_97, nl_98, nl_99, nl_100, nl_101, nl_102, nl_105, nl_108, nl_110, nl_111, nl_112, nl_113, nl_114, nl_115, nl_116, nl_117, nl_118, nl_119, nl_124, nl_126, nl_138, nl_140, nl_255, nl_720, nl_1024, nl_9999, nl_99999, nl_999999, nl_1000000, eq_self, Bool.false_eq_true, Bool.true_and, Bool.and_true, Bool.false_and, Bool.and_false, Bool.not_true, Bool.not_false, nI_toInt, or_true, true_or, or_false, false_or, nI_clamp, nI_leI, nI_ltI, nI_eq, e_nm, e_mn, e_mm, l_nm, l_mn, l_mm, le_nm, le_mn, le_mm, nI_add, nI_mull, nI_sub, nI_subn, nI_divl, nsm, qIn_nI, Nat.zero_le, Nat.not_lt_zero, Nat.reduceAdd, Nat.reduceMul, Nat.reduceSub, Nat.reduceDiv, Nat.reduceMod, Nat.reduceEqDiff, Nat.reduceLeDiff, Nat.reduceLT, Nat.add_zero, Nat.zero_add, not_false_eq_true, not_true_eq_false, true_and, and_true, Option.toList_some, Option.toList_none, List.cons_append, List.nil_append, qrf, if_true, if_false, if_pos, if_neg, reduceIte, ne_eq, Classical.not_not]
        exact key
    · simp only [hp] at h0
      have key := h0 q rfl μ1 U g1
      simp (disch := omega) only [x137_52, x137_55, x137_56, ↓nm_1, ↓nm_2, ↓nm_3, ↓nm_4, ↓nm_11, ↓nm_12, ↓nm_13, ↓nm_14, ↓nm_100, nl_0, nl_1, nl_2, nl_3, nl_4, nl_5, nl_6, nl_7, nl_8, nl_9, nl_10, nl_11, nl_12, nl_13, nl_14, nl_15, nl_16, nl_17, nl_18, nl_19, nl_20, nl_22, nl_23, nl_24, nl_25, nl_30, nl_31, nl_34, nl_35, nl_40, nl_43, nl_46, nl_47, nl_48, nl_49, nl_50, nl_57, nl_58, nl_59, nl_63, nl_64, nl_94, nl_97, nl_98, nl_99, nl_100, nl_101, nl_102, nl_105, nl_108, nl_110, nl_111, nl_112, nl_113, nl_114, nl_115, nl_116, nl_117, nl_118, nl_119, nl_124, nl_126, nl_138, nl_140, nl_255, nl_720, nl_1024, nl_9999, nl_99999, nl_999999, nl_1000000, eq_self, Bool.false_eq_true, Bool.true_and, Bool.and_true, Bool.false_and, Bool.and_false, Bool.not_true, Bool.not_false, nI_toInt, or_true, true_or, or_false, false_or, nI_clamp, nI_leI, nI_ltI, nI_eq, e_nm, e_mn, e_mm, l_nm, l_mn, l_mm, le_nm, le_mn, le_mm, nI_add, nI_mull, nI_sub, nI_subn, nI_divl, nsm, qIn_nI, Nat.zero_le, Nat.not_lt_zero, Nat.reduceAdd, Nat.reduceMul, Nat.reduceSub, Nat.reduceDiv, Nat.reduceMod, Nat.reduceEqDiff, Nat.reduceLeDiff, Nat.reduceLT, Nat.add_zero, Nat.zero_add, not_false_eq_true, not_true_eq_false, true_and, and_true, Option.toList_some, Option.toList_none, List.cons_append, List.nil_append, qrf, if_true, if_false, if_pos, if_neg, reduceIte, ne_eq, Classical.not_not]
      exact key
theorem m_clear (hB : qBM σ) {Q : qPost} : ∀ (n k : Nat) (μ : qMu), k + n = 124 → (∀ j, j < k → μ 304 j = nI 0) → (∀ μ' : qMu, (∀ c, ¬ c = 304 → μ' c = μ c) → (∀ j, j < 124 → μ' 304 j = nI 0) → qEx d 137 21 [] [.ref 297, .int (nI 124)] σ μ' la Q) → qEx d 137 2 [] [.ref 297, .int (nI k)] σ μ la Q := by
  have hk := mOk hB
  obtain ⟨r0, r1, r2, r4, r6, r7, r8, -⟩ := mR hB
  have hL := (qaI (μ := fun _ _ => 0) (mArr hB).2.2.2.2.2.1).2.1
  intro n
  induction n with
  | zero =>
    intro k μ hkn h hQ
    obtain rfl : k = 124 := by omega
    rw [x137_2]
    simp (disch := omega) only [x137_3, x137_5, ↓nm_1, ↓nm_2, ↓nm_3, ↓nm_4, ↓nm_11, ↓nm_12, ↓nm_13, ↓nm_14, ↓nm_100, nl_0, nl_1, nl_2, nl_3, nl_4, nl_5, nl_6, nl_7, nl_8, nl_9, nl_10, nl_11, nl_12, nl_13, nl_14, nl_15, nl_16, nl_17, nl_18, nl_19, nl_20, nl_22, nl_23, nl_24, nl_25, nl_30, nl_31, nl_34, nl_35, nl_40, nl_43, nl_46, nl_47, nl_48, nl_49, nl_50, nl_57, nl_58, nl_59, nl_63, nl_64, nl_94, nl_97, nl_98, nl_99, nl_100, nl_101, nl_102, nl_105, nl_108, nl_110, nl_111, nl_112, nl_113, nl_114, nl_115, nl_116, nl_117, nl_118, nl_119, nl_124, nl_126, nl_138, nl_140, nl_255, nl_720, nl_1024, nl_9999, nl_99999, nl_999999, nl_1000000, eq_self, Bool.false_eq_true, Bool.true_and, Bool.and_true, Bool.false_and, Bool.and_false, Bool.not_true, Bool.not_false, nI_toInt, or_true, true_or, or_false, false_or, nI_clamp, nI_leI, nI_ltI, nI_eq, e_nm, e_mn, e_mm, l_nm, l_mn, l_mm, le_nm, le_mn, le_mm, nI_add, nI_mull, nI_sub, nI_subn, nI_divl, nsm, qIn_nI, Nat.zero_le, Nat.not_lt_zero, Nat.reduceAdd, Nat.reduceMul, Nat.reduceSub, Nat.reduceDiv, Nat.reduceMod, Nat.reduceEqDiff, Nat.reduceLeDiff, Nat.reduceLT, Nat.add_zero, Nat.zero_add, not_false_eq_true, not_true_eq_false, true_and, and_true, Option.toList_some, Option.toList_none, List.cons_append, List.nil_append, qrf, if_true, if_false, if_pos, if_neg, reduceIte, ne_eq, Classical.not_not]
    exact hQ μ (fun _ _ => rfl) h
  | succ n ih =>
    intro k μ hkn h hQ
    rw [x137_2]
    simp (disch := omega) only [x137_3, x137_5, x137_8, x137_9, x137_12, x137_13, x137_14, x137_15, x137_18, hk, r8, hL, ↓nm_1, ↓nm_2, ↓nm_3, ↓nm_4, ↓nm_11, ↓nm_12, ↓nm_13, ↓nm_14, ↓nm_100, nl_0, nl_1, nl_2, nl_3, nl_4, nl_5, nl_6, nl_7, nl_8, nl_9, nl_10, nl_11, nl_12, nl_13, nl_14, nl_15, nl_16, nl_17, nl_18, nl_19, nl_20, nl_22, nl_23, nl_24, nl_25, nl_30, nl_31, nl_34, nl_35, nl_40, nl_43, nl_46, nl_47, nl_48, nl_49, nl_50, nl_57, nl_58, nl_59, nl_63, nl_64, nl_94, nl_97, nl_98, nl_99, nl_100, nl_101, nl_102, nl_105, nl_108, nl_110, nl_111, nl_112, nl_113, nl_114, nl_115, nl_116, nl_117, nl_118, nl_119, nl_124, nl_126, nl_138, nl_140, nl_255, nl_720, nl_1024, nl_9999, nl_99999, nl_999999, nl_1000000, eq_self, Bool.false_eq_true, Bool.true_and, Bool.and_true, Bool.false_and, Bool.and_false, Bool.not_true, Bool.not_false, nI_toInt, or_true, true_or, or_false, false_or, nI_clamp, nI_leI, nI_ltI, nI_eq, e_nm, e_mn, e_mm, l_nm, l_mn, l_mm, le_nm, le_mn, le_mm, nI_add, nI_mull, nI_sub, nI_subn, nI_divl, nsm, qIn_nI, Nat.zero_le, Nat.not_lt_zero, Nat.reduceAdd, Nat.reduceMul, Nat.reduceSub, Nat.reduceDiv, Nat.reduceMod, Nat.reduceEqDiff, Nat.reduceLeDiff, Nat.reduceLT, Nat.add_zero, Nat.zero_add, not_false_eq_true, not_true_eq_false, true_and, and_true, Option.toList_some, Option.toList_none, List.cons_append, List.nil_append, qrf, if_true, if_false, if_pos, if_neg, reduceIte, ne_eq, Classical.not_not]
    refine ih (k + 1) _ (by omega) (fun j hj => ?_) fun μ' hf hz => hQ μ' (fun c hc => by rw [hf c hc, set_f hc]) hz
    by_cases hjk : j = k
    · subst hjk; rw [qset_s]
    · rw [qset_k hjk]; exact h j (by omega)
theorem m_read (hB : qBM σ) (hb : okB b) (ht : mTape μ b)
    (h1 : ∀ q U, pTown b = (q, some U) → ∀ μ' : qMu, mPS μ b U q μ' → Q (some (.int (nI 1))) σ μ' la)
    (h0 : ∀ q, pTown b = (q, none) → ∀ (μ' : qMu) (U : qT), mPS μ b U q μ' → Q (some (.int (nI 0))) σ μ' la) :
    qEx (d + 3) 137 0 [] [.ref 297, .retAddr 0] σ μ la Q := by
  have hk := mOk hB
  obtain ⟨r0, r1, r2, r4, r6, r7, r8, -⟩ := mR hB
  simp (disch := omega) only [x137_0, x137_1, ↓nm_1, ↓nm_2, ↓nm_3, ↓nm_4, ↓nm_11, ↓nm_12, ↓nm_13, ↓nm_14, ↓nm_100, nl_0, nl_1, nl_2, nl_3, nl_4, nl_5, nl_6, nl_7, nl_8, nl_9, nl_10, nl_11, nl_12, nl_13, nl_14, nl_15, nl_16, nl_17, nl_18, nl_19, nl_20, nl_22, nl_23, nl_24, nl_25, nl_30, nl_31, nl_34, nl_35, nl_40, nl_43, nl_46, nl_47, nl_48, nl_49, nl_50, nl_57, nl_58, nl_59, nl_63, nl_64, nl_94, nl_97, nl_98, nl_99, nl_100, nl_101, nl_102, nl_105, nl_108, nl_110, nl_111, nl_112, nl_113, nl_114, nl_115, nl_116, nl_117, nl_118, nl_119, nl_124, nl_126, nl_138, nl_140, nl_255, nl_720, nl_1024, nl_9999, nl_99999, nl_999999, nl_1000000, eq_self, Bool.false_eq_true, Bool.true_and, Bool.and_true, Bool.false_and, Bool.and_false, Bool.not_true, Bool.not_false, nI_toInt, or_true, true_or, or_false, false_or, nI_clamp, nI_leI, nI_ltI, nI_eq, e_nm, e_mn, e_mm, l_nm, l_mn, l_mm, le_nm, le_mn, le_mm, nI_add, nI_mull, nI_sub, nI_subn, nI_divl, nsm, qIn_nI, Nat.zero_le, Nat.not_lt_zero, Nat.reduceAdd, Nat.reduceMul, Nat.reduceSub, Nat.reduceDiv, Nat.reduceMod, Nat.reduceEqDiff, Nat.reduceLeDiff, Nat.reduceLT, Nat.add_zero, Nat.zero_add, not_false_eq_true, not_true_eq_false, true_and, and_true, Option.toList_some, Option.toList_none, List.cons_append, List.nil_append, qrf, if_true, if_false, if_pos, if_neg, reduceIte, ne_eq, Classical.not_not]
  refine m_clear hB 124 0 μ (by omega) (fun j hj => absurd hj (Nat.not_lt_zero j)) fun μ1 hf1 hz1 => ?_
  have g0 : mPS μ b zT 0 (qset μ1 297 5 (nI 0)) := by
    refine ⟨fun c x a e => ?_, ⟨by rw [qset_k (by decide), hf1 297 (by decide)]; exact ht.1, fun i hi => by rw [qset_o (by decide), hf1 301 (by decide)]; exact ht.2 i hi⟩, qset_s, fun j hj => by rw [qset_o (by decide)]; exact hz1 j hj, Nat.zero_le _⟩
    by_cases hc : c = 297
    · subst hc; rw [qset_k (fun z => e ⟨rfl, z⟩), hf1 297 (by decide)]
    · rw [qset_o hc, hf1 c a]
  simp (disch := omega) only [x137_21, x137_22, x137_23, x137_26, x137_27, hk, ↓nm_1, ↓nm_2, ↓nm_3, ↓nm_4, ↓nm_11, ↓nm_12, ↓nm_13, ↓nm_14, ↓nm_100, nl_0, nl_1, nl_2, nl_3, nl_4, nl_5, nl_6, nl_7, nl_8, nl_9, nl_10, nl_11, nl_12, nl_13, nl_14, nl_15, nl_16, nl_17, nl_18, nl_19, nl_20, nl_22, nl_23, nl_24, nl_25, nl_30, nl_31, nl_34, nl_35, nl_40, nl_43, nl_46, nl_47, nl_48, nl_49, nl_50, nl_57, nl_58, nl_59, nl_63, nl_64, nl_94, nl_97, nl_98, nl_99, nl_100, nl_101, nl_102, nl_105, nl_108, nl_110, nl_111, nl_112, nl_113, nl_114, nl_115, nl_116, nl_117, nl_118, nl_119, nl_124, nl_126, nl_138, nl_140, nl_255, nl_720, nl_1024, nl_9999, nl_99999, nl_999999, nl_1000000, eq_self, Bool.false_eq_true, Bool.true_and, Bool.and_true, Bool.false_and, Bool.and_false, Bool.not_true, Bool.not_false, nI_toInt, or_true, true_or, or_false, false_or, nI_clamp, nI_leI, nI_ltI, nI_eq, e_nm, e_mn, e_mm, l_nm, l_mn, l_mm, le_nm, le_mn, le_mm, nI_add, nI_mull, nI_sub, nI_subn, nI_divl, nsm, qIn_nI, Nat.zero_le, Nat.not_lt_zero, Nat.reduceAdd, Nat.reduceMul, Nat.reduceSub, Nat.reduceDiv, Nat.reduceMod, Nat.reduceEqDiff, Nat.reduceLeDiff, Nat.reduceLT, Nat.add_zero, Nat.zero_add, not_false_eq_true, not_true_eq_false, true_and, and_true, Option.toList_some, Option.toList_none, List.cons_append, List.nil_append, qrf, if_true, if_false, if_pos, if_neg, reduceIte, ne_eq, Classical.not_not]
  have wz := wP_z
  refine m_isLaw hB hb g0 (fun q T hl μ2 g2 => ?_) (fun q hl μ2 U g2 => ?_)
  · have hT : wP T ∧ T 115 = 0 ∧ T 114 = 0 := by
      unfold pLaw at hl
      split at hl
      · cases hc : ixG crtL (pkN b 1) 0 with
        | none => simp only [hc] at hl; cases hl
        | some c =>
          cases ho : ixG ovrL (pkN b 2) 0 with
          | none => simp only [hc, ho] at hl; cases hl
          | some o =>
            simp only [hc, ho] at hl
            split at hl
            · cases hl
              obtain ⟨a1, a2⟩ := wP_law wP_z rfl (crt_in hc).1 (ovr_in ho).1
              exact ⟨a1, a2, rfl⟩
            · cases hl
      · cases hl
    simp (disch := omega) only [x137_30, x137_33, x137_34, x132_0, x132_1, hk, ↓nm_1, ↓nm_2, ↓nm_3, ↓nm_4, ↓nm_11, ↓nm_12, ↓nm_13, ↓nm_14, ↓nm_100, nl_0, nl_1, nl_2, nl_3, nl_4, nl_5, nl_6, nl_7, nl_8, nl_9, nl_10, nl_11, nl_12, nl_13, nl_14, nl_15, nl_16, nl_17, nl_18, nl_19, nl_20, nl_22, nl_23, nl_24, nl_25, nl_30, nl_31, nl_34, nl_35, nl_40, nl_43, nl_46, nl_47, nl_48, nl_49, nl_50, nl_57, nl_58, nl_59, nl_63, nl_64, nl_94, nl_97, nl_98, nl_99, nl_100, nl_101, nl_102, nl_105, nl_108, nl_110, nl_111, nl_112, nl_113, nl_114, nl_115, nl_116, nl_117, nl_118, nl_119, nl_124, nl_126, nl_138, nl_140, nl_255, nl_720, nl_1024, nl_9999, nl_99999, nl_999999, nl_1000000, eq_self, Bool.false_eq_true, Bool.true_and, Bool.and_true, Bool.false_and, Bool.and_false, Bool.not_true, Bool.not_false, nI_toInt, or_true, true_or, or_false, false_or, nI_clamp, nI_leI, nI_ltI, nI_eq, e_nm, e_mn, e_mm, l_nm, l_mn, l_mm, le_nm, le_mn, le_mm, nI_add, nI_mull, nI_sub, nI_subn, nI_divl, nsm, qIn_nI, Nat.zero_le, Nat.not_lt_zero, Nat.reduceAdd, Nat.reduceMul, Nat.reduceSub, Nat.reduceDiv, Nat.reduceMod, Nat.reduceEqDiff, Nat.reduceLeDiff, Nat.reduceLT, Nat.add_zero, Nat.zero_add, not_false_eq_true, not_true_eq_false, true_and, and_true, Option.toList_some, Option.toList_none, List.cons_append, List.nil_append, qrf, if_true, if_false, if_pos, if_neg, reduceIte, ne_eq, Classical.not_not]
    refine m_cells hB hb 7 0 T q μ2 (by omega) hT.2.2 hT.1.1.2.1 g2 (fun q2 V hr μ3 g3 => ?_) (fun q2 hr μ3 V g3 => ?_)
    · obtain ⟨hV, hv0⟩ := row_ok 8 0 T q q2 V (by omega) hT.1 hT.2.1 hr
      simp (disch := omega) only [x137_37, x137_42, x137_43, ↓nm_1, ↓nm_2, ↓nm_3, ↓nm_4, ↓nm_11, ↓nm_12, ↓nm_13, ↓nm_14, ↓nm_100, nl_0, nl_1, nl_2, nl_3, nl_4, nl_5, nl_6, nl_7, nl_8, nl_9, nl_10, nl_11, nl_12, nl_13, nl_14, nl_15, nl_16, nl_17, nl_18, nl_19, nl_20, nl_22, nl_23, nl_24, nl_25, nl_30, nl_31, nl_34, nl_35, nl_40, nl_43, nl_46, nl_47, nl_48, nl_49, nl_50, nl_57, nl_58, nl_59, nl_63, nl_64, nl_94, nl_97, nl_98, nl_99, nl_100, nl_101, nl_102, nl_105, nl_108, nl_110, nl_111, nl_112, nl_113, nl_114, nl_115, nl_116, nl_117, nl_118, nl_119, nl_124, nl_126, nl_138, nl_140, nl_255, nl_720, nl_1024, nl_9999, nl_99999, nl_999999, nl_1000000, eq_self, Bool.false_eq_true, Bool.true_and, Bool.and_true, Bool.false_and, Bool.and_false, Bool.not_true, Bool.not_false, nI_toInt, or_true, true_or, or_false, false_or, nI_clamp, nI_leI, nI_ltI, nI_eq, e_nm, e_mn, e_mm, l_nm, l_mn, l_mm, le_nm, le_mn, le_mm, nI_add, nI_mull, nI_sub, nI_subn, nI_divl, nsm, qIn_nI, Nat.zero_le, Nat.not_lt_zero, Nat.reduceAdd, Nat.reduceMul, Nat.reduceSub, Nat.reduceDiv, Nat.reduceMod, Nat.reduceEqDiff, Nat.reduceLeDiff, Nat.reduceLT, Nat.add_zero, Nat.zero_add, not_false_eq_true, not_true_eq_false, true_and, and_true, Option.toList_some, Option.toList_none, List.cons_append, List.nil_append, qrf, if_true, if_false, if_pos, if_neg, reduceIte, ne_eq, Classical.not_not]
      refine m_people hB hb 6 V q2 μ3 (by omega) hV g3 (fun q3 U hp μ4 g4 => ?_) (fun q3 hp μ4 U g4 => ?_)
      · exact h1 q3 U (by unfold pTown; simp only [hl, hr]; exact hp) μ4 g4
      · exact h0 q3 (by unfold pTown; simp only [hl, hr]; exact hp) μ4 U g4
    · have key := h0 q2 (by unfold pTown; simp only [hl, hr]) μ3 V g3
      simp (disch := omega) only [x137_37, x137_40, x137_41, ↓nm_1, ↓nm_2, ↓nm_3, ↓nm_4, ↓nm_11, ↓nm_12, ↓nm_13, ↓nm_14, ↓nm_100, nl_0, nl_1, nl_2, nl_3, nl_4, nl_5, nl_6, nl_7, nl_8, nl_9, nl_10, nl_11, nl_12, nl_13, nl_14, nl_15, nl_16, nl_17, nl_18, nl_19, nl_20, nl_22, nl_23, nl_24, nl_25, nl_30, nl_31, nl_34, nl_35, nl_40, nl_43, nl_46, nl_47, nl_48, nl_49, nl_50, nl_57, nl_58, nl_59, nl_63, nl_64, nl_94, nl_97, nl_98, nl_99, nl_100, nl_101, nl_102, nl_105, nl_108, nl_110, nl_111, nl_112, nl_113, nl_114, nl_115, nl_116, nl_117, nl_118, nl_119, nl_124, nl_126, nl_138, nl_140, nl_255, nl_720, nl_1024, nl_9999, nl_99999, nl_999999, nl_1000000, eq_self, Bool.false_eq_true, Bool.true_and, Bool.and_true, Bool.false_and, Bool.and_false, Bool.not_true, Bool.not_false, nI_toInt, or_true, true_or, or_false, false_or, nI_clamp, nI_leI, nI_ltI, nI_eq, e_nm, e_mn, e_mm, l_nm, l_mn, l_mm, le_nm, le_mn, le_mm, nI_add, nI_mull, nI_sub, nI_subn, nI_divl, nsm, qIn_nI, Nat.zero_le, Nat.not_lt_zero, Nat.reduceAdd, Nat.reduceMul, Nat.reduceSub, Nat.reduceDiv, Nat.reduceMod, Nat.reduceEqDiff, Nat.reduceLeDiff, Nat.reduceLT, Nat.add_zero, Nat.zero_add, not_false_eq_true, not_true_eq_false, true_and, and_true, Option.toList_some, Option.toList_none, List.cons_append, List.nil_append, qrf, if_true, if_false, if_pos, if_neg, reduceIte, ne_eq, Classical.not_not]
      exact key
  · have key := h0 q (by unfold pTown; simp only [hl]) μ2 U g2
    simp (disch := omega) only [x137_30, x137_40, x137_41, ↓nm_1, ↓nm_2, ↓nm_3, ↓nm_4, ↓nm_11, ↓nm_12, ↓nm_13, ↓nm_14, ↓nm_100, nl_0, nl_1, nl_2, nl_3, nl_4, nl_5, nl_6, nl_7, nl_8, nl_9, nl_10, nl_11, nl_12, nl_13, nl_14, nl_15, nl_16, nl_17, nl_18, nl_19, nl_20, nl_22, nl_23, nl_24, nl_25, nl_30, nl_31, nl_34, nl_35, nl_40, nl_43, nl_46, nl_47, nl_48, nl_49, nl_50, nl_57, nl_58, nl_59, nl_63, nl_64, nl_94, nl_97, nl_98, nl_99, nl_100, nl_101, nl_102, nl_105, nl_108, nl_110, nl_111, nl_112, nl_113, nl_114, nl_115, nl_116, nl_117, nl_118, nl_119, nl_124, nl_126, nl_138, nl_140, nl_255, nl_720, nl_1024, nl_9999, nl_99999, nl_999999, nl_1000000, eq_self, Bool.false_eq_true, Bool.true_and, Bool.and_true, Bool.false_and, Bool.and_false, Bool.not_true, Bool.not_false, nI_toInt, or_true, true_or, or_false, false_or, nI_clamp, nI_leI, nI_ltI, nI_eq, e_nm, e_mn, e_mm, l_nm, l_mn, l_mm, le_nm, le_mn, le_mm, nI_add, nI_mull, nI_sub, nI_subn, nI_divl, nsm, qIn_nI, Nat.zero_le, Nat.not_lt_zero, Nat.reduceAdd, Nat.reduceMul, Nat.reduceSub, Nat.reduceDiv, Nat.reduceMod, Nat.reduceEqDiff, Nat.reduceLeDiff, Nat.reduceLT, Nat.add_zero, Nat.zero_add, not_false_eq_true, not_true_eq_false, true_and, and_true, Option.toList_some, Option.toList_none, List.cons_append, List.nil_append, qrf, if_true, if_false, if_pos, if_neg, reduceIte, ne_eq, Classical.not_not]
    exact key
end
section
variable {d N : Nat} {σ : qSg} {μ : qMu} {la : qLa} {Q : qPost} {b : List Nat} {T : qT} {as : List qT} {im : Nat → qT} {sh : Nat → wSh}
set_option maxHeartbeats 4000000 in
theorem m_town (hP : SimP N (b, T, as, im, sh)) (hS : SimM (b, T, as, im, sh) σ μ la) (hQ : ∀ μ' : qMu, mFM μ μ' → SimM (sTown (b, T, as, im, sh)) σ μ' la → Q (some (.int (aTown b))) σ μ' la) : qEx (d + 10) 138 0 [] [.ref 297, .retAddr 0] σ μ la Q := by
  have hS' := hS
  obtain ⟨hB, ht, hm, ha, hi, hs⟩ := hS
  have ht : mTape μ b := ht
  have hk := mOk hB
  have hb : okB b := hP.2.1
  have hl140 := hb.1
  obtain ⟨r0, r1, r2, r4, r6, r7, r8, r9, r10, r11, r12, r14, -⟩ := mR hB
  have hI2 : ∀ μ : qMu, qIld σ μ 302 = 124 := fun μ => (mI302 (μ := μ) hB).1
  simp (disch := omega) only [x138_0, x138_1, hk, ↓nm_1, ↓nm_2, ↓nm_3, ↓nm_4, ↓nm_11, ↓nm_12, ↓nm_13, ↓nm_14, ↓nm_100, nl_0, nl_1, nl_2, nl_3, nl_4, nl_5, nl_6, nl_7, nl_8, nl_9, nl_10, nl_11, nl_12, nl_13, nl_14, nl_15, nl_16, nl_17, nl_18, nl_19, nl_20, nl_22, nl_23, nl_24, nl_25, nl_30, nl_31, nl_34, nl_35, nl_40, nl_43, nl_46, nl_47, nl_48, nl_49, nl_50, nl_57, nl_58, nl_59, nl_63, nl_64, nl_94, nl_97, nl_98, nl_99, nl_100, nl_101, nl_102, nl_105, nl_108, nl_110, nl_111, nl_112, nl_113, nl_114, nl_115, nl_116, nl_117, nl_118, nl_119, nl_124, nl_126, nl_138, nl_140, nl_255, nl_720, nl_1024, nl_9999, nl_99999, nl_999999, nl_1000000, eq_self, Bool.false_eq_true, Bool.true_and, Bool.and_true, Bool.false_and, Bool.and_false, Bool.not_true, Bool.not_false, nI_toInt, or_true, true_or, or_false, false_or, nI_clamp, nI_leI, nI_ltI, nI_eq, e_nm, e_mn, e_mm, l_nm, l_mn, l_mm, le_nm, le_mn, le_mm, nI_add, nI_mull, nI_sub, nI_subn, nI_divl, nsm, qIn_nI, Nat.zero_le, Nat.not_lt_zero, Nat.reduceAdd, Nat.reduceMul, Nat.reduceSub, Nat.reduceDiv, Nat.reduceMod, Nat.reduceEqDiff, Nat.reduceLeDiff, Nat.reduceLT, Nat.add_zero, Nat.zero_add, not_false_eq_true, not_true_eq_false, true_and, and_true, Option.toList_some, Option.toList_none, List.cons_append, List.nil_append, qrf, if_true, if_false, if_pos, if_neg, reduceIte, ne_eq, Classical.not_not]
  refine m_read hB hb ht (fun q U hp μ1 g1 => ?_) (fun q hp μ1 U g1 => ?_)
  · obtain ⟨w, w0⟩ := town_ok hp
    have fr : mFr μ μ1 := fun c x a e z => g1.1 c x (by omega) (by omega)
    obtain ⟨-, -, hm1, ha1, hi1, hs1⟩ := SimM_fr hS' fr
    have m4 := g1.2.2.2.1
    have eA : aTown b = nI (U 115) := by unfold aTown; rw [hp]
    have eS : sTown (b, T, as, im, sh) = ([], U, [], im, sh) := by unfold sTown; simp only [sB, hp]
    rw [eA, eS] at hQ
    simp (disch := omega) only [x138_4, x138_5, x138_6, x138_7, x138_10, x138_11, x138_22, x138_23, x138_26, x138_27, x138_28, x138_31, x138_32, x138_34, hk, r6, r8, ↓nm_1, ↓nm_2, ↓nm_3, ↓nm_4, ↓nm_11, ↓nm_12, ↓nm_13, ↓nm_14, ↓nm_100, nl_0, nl_1, nl_2, nl_3, nl_4, nl_5, nl_6, nl_7, nl_8, nl_9, nl_10, nl_11, nl_12, nl_13, nl_14, nl_15, nl_16, nl_17, nl_18, nl_19, nl_20, nl_22, nl_23, nl_24, nl_25, nl_30, nl_31, nl_34, nl_35, nl_40, nl_43, nl_46, nl_47, nl_48, nl_49, nl_50, nl_57, nl_58, nl_59, nl_63, nl_64, nl_94, nl_97, nl_98, nl_99, nl_100, nl_101, nl_102, nl_105, nl_108, nl_110, nl_111, nl_112, nl_113, nl_114, nl_115, nl_116, nl_117, nl_118, nl_119, nl_124, nl_126, nl_138, nl_140, nl_255, nl_720, nl_1024, nl_9999, nl_99999, nl_999999, nl_1000000, eq_self, Bool.false_eq_true, Bool.true_and, Bool.and_true, Bool.false_and, Bool.and_false, Bool.not_true, Bool.not_false, nI_toInt, or_true, true_or, or_false, false_or, nI_clamp, nI_leI, nI_ltI, nI_eq, e_nm, e_mn, e_mm, l_nm, l_mn, l_mm, le_nm, le_mn, le_mm, nI_add, nI_mull, nI_sub, nI_subn, nI_divl, nsm, qIn_nI, Nat.zero_le, Nat.not_lt_zero, Nat.reduceAdd, Nat.reduceMul, Nat.reduceSub, Nat.reduceDiv, Nat.reduceMod, Nat.reduceEqDiff, Nat.reduceLeDiff, Nat.reduceLT, Nat.add_zero, Nat.zero_add, not_false_eq_true, not_true_eq_false, true_and, and_true, Option.toList_some, Option.toList_none, List.cons_append, List.nil_append, qrf, if_true, if_false, if_pos, if_neg, reduceIte, ne_eq, Classical.not_not]
    refine c_bring (mArr hB).2.2.2.2.2.1 (mArr hB).2.2.2.1 (by omega) (by omega) (by omega) (by omega) (Or.inl (by decide)) ?_
    have v : ∀ j, j < 124 → qcpy (qset μ1 297 3 (nI 0)) 304 0 302 0 124 302 j = nI (U j) := fun j hj => by
      unfold qcpy
      rw [if_pos ⟨rfl, by omega, by omega⟩, qset_o (by decide), show 0 + (j - 0) = j by omega]
      exact m4 j hj
    have v115 := v 115 (by omega)
    have fr2 : ∀ c, ¬ c = 302 → ¬ c = 297 → ¬ c = 304 → qset (qcpy (qset μ1 297 3 (nI 0)) 304 0 302 0 124) 297 13 (nI 0) c = μ c := fun c z1 z2 z3 => by
      rw [set_f z2, qcpy_ne z1, set_f z2]
      funext x
      exact g1.1 c x z3 (fun z => z2 z.1)
    have key := hQ (qset (qcpy (qset μ1 297 3 (nI 0)) 304 0 302 0 124) 297 13 (nI 0)) (fun c hc => fr2 c (by omega) (by omega) (by omega)) (by
      refine ⟨hB, ⟨?_, fun i hi => absurd hi (Nat.not_lt_zero i)⟩, fun j hj => by rw [qset_o (by decide)]; exact v j hj, ⟨qset_s, fun i hi => absurd hi (Nat.not_lt_zero i)⟩, fun k hk2 => ?_, fun s hs4 => ?_⟩
      · rw [qset_k (by decide), qcpy_ne (by decide), qset_s]; rfl
      · rw [fr2 307 (by decide) (by decide) (by decide), fr2 306 (by decide) (by decide) (by decide)]
        exact hi k hk2
      · rw [fr2 298 (by decide) (by decide) (by decide), fr2 299 (by decide) (by decide) (by decide)]
        exact hs s hs4)
    simp (disch := omega) only [x138_37, x138_38, x138_39, x138_42, x138_43, x138_46, x138_48, x138_49, hk, r6, hI2, v115, ↓nm_1, ↓nm_2, ↓nm_3, ↓nm_4, ↓nm_11, ↓nm_12, ↓nm_13, ↓nm_14, ↓nm_100, nl_0, nl_1, nl_2, nl_3, nl_4, nl_5, nl_6, nl_7, nl_8, nl_9, nl_10, nl_11, nl_12, nl_13, nl_14, nl_15, nl_16, nl_17, nl_18, nl_19, nl_20, nl_22, nl_23, nl_24, nl_25, nl_30, nl_31, nl_34, nl_35, nl_40, nl_43, nl_46, nl_47, nl_48, nl_49, nl_50, nl_57, nl_58, nl_59, nl_63, nl_64, nl_94, nl_97, nl_98, nl_99, nl_100, nl_101, nl_102, nl_105, nl_108, nl_110, nl_111, nl_112, nl_113, nl_114, nl_115, nl_116, nl_117, nl_118, nl_119, nl_124, nl_126, nl_138, nl_140, nl_255, nl_720, nl_1024, nl_9999, nl_99999, nl_999999, nl_1000000, eq_self, Bool.false_eq_true, Bool.true_and, Bool.and_true, Bool.false_and, Bool.and_false, Bool.not_true, Bool.not_false, nI_toInt, or_true, true_or, or_false, false_or, nI_clamp, nI_leI, nI_ltI, nI_eq, e_nm, e_mn, e_mm, l_nm, l_mn, l_mm, le_nm, le_mn, le_mm, nI_add, nI_mull, nI_sub, nI_subn, nI_divl, nsm, qIn_nI, Nat.zero_le, Nat.not_lt_zero, Nat.reduceAdd, Nat.reduceMul, Nat.reduceSub, Nat.reduceDiv, Nat.reduceMod, Nat.reduceEqDiff, Nat.reduceLeDiff, Nat.reduceLT, Nat.add_zero, Nat.zero_add, not_false_eq_true, not_true_eq_false, true_and, and_true, Option.toList_some, Option.toList_none, List.cons_append, List.nil_append, qrf, if_true, if_false, if_pos, if_neg, reduceIte, ne_eq, Classical.not_not, qset_s, qset_o, qset_k, qset_ne]
    exact key
  · have fr : mFr μ μ1 := fun c x a e z => g1.1 c x (by omega) (by omega)
    obtain ⟨-, -, hm1, ha1, hi1, hs1⟩ := SimM_fr hS' fr
    have e5 := g1.2.2.1
    have eA : aTown b = mI (100 + q) := by unfold aTown; rw [hp]
    have eS : sTown (b, T, as, im, sh) = ([], T, as, im, sh) := by unfold sTown; simp only [sB, hp]
    rw [eA, eS] at hQ
    have key := hQ (qset μ1 297 3 (nI 0)) (fun c hc => by
      rw [set_f (by omega)]
      funext x
      exact g1.1 c x (by omega) (by omega)) (by
      refine ⟨hB, ⟨qset_s, fun i hi => absurd hi (Nat.not_lt_zero i)⟩, fun j hj => by rw [qset_o (by decide)]; exact hm1 j hj, ⟨by rw [qset_k (by decide)]; exact ha1.1, fun i hi2 k hk2 => by rw [qset_o (by decide)]; exact ha1.2 i hi2 k hk2⟩, fun k hk2 => ?_, fun s hs4 => ?_⟩
      · rw [set_f (by decide), set_f (by decide)]
        exact hi1 k hk2
      · rw [set_f (by decide), set_f (by decide)]
        exact hs1 s hs4)
    simp (disch := omega) only [x138_4, x138_5, x138_6, x138_7, x138_10, x138_11, x138_14, x138_16, x138_17, x138_20, x138_21, hk, e5, mI_sub, ↓nm_1, ↓nm_2, ↓nm_3, ↓nm_4, ↓nm_11, ↓nm_12, ↓nm_13, ↓nm_14, ↓nm_100, nl_0, nl_1, nl_2, nl_3, nl_4, nl_5, nl_6, nl_7, nl_8, nl_9, nl_10, nl_11, nl_12, nl_13, nl_14, nl_15, nl_16, nl_17, nl_18, nl_19, nl_20, nl_22, nl_23, nl_24, nl_25, nl_30, nl_31, nl_34, nl_35, nl_40, nl_43, nl_46, nl_47, nl_48, nl_49, nl_50, nl_57, nl_58, nl_59, nl_63, nl_64, nl_94, nl_97, nl_98, nl_99, nl_100, nl_101, nl_102, nl_105, nl_108, nl_110, nl_111, nl_112, nl_113, nl_114, nl_115, nl_116, nl_117, nl_118, nl_119, nl_124, nl_126, nl_138, nl_140, nl_255, nl_720, nl_1024, nl_9999, nl_99999, nl_999999, nl_1000000, eq_self, Bool.false_eq_true, Bool.true_and, Bool.and_true, Bool.false_and, Bool.and_false, Bool.not_true, Bool.not_false, nI_toInt, or_true, true_or, or_false, false_or, nI_clamp, nI_leI, nI_ltI, nI_eq, e_nm, e_mn, e_mm, l_nm, l_mn, l_mm, le_nm, le_mn, le_mm, nI_add, nI_mull, nI_sub, nI_subn, nI_divl, nsm, qIn_nI, Nat.zero_le, Nat.not_lt_zero, Nat.reduceAdd, Nat.reduceMul, Nat.reduceSub, Nat.reduceDiv, Nat.reduceMod, Nat.reduceEqDiff, Nat.reduceLeDiff, Nat.reduceLT, Nat.add_zero, Nat.zero_add, not_false_eq_true, not_true_eq_false, true_and, and_true, Option.toList_some, Option.toList_none, List.cons_append, List.nil_append, qrf, if_true, if_false, if_pos, if_neg, reduceIte, ne_eq, Classical.not_not, qset_s, qset_o, qset_k, qset_ne]
    exact key
end
