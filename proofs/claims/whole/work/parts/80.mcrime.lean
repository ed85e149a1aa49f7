/-! the reference's crime -/
theorem sw_add {ln : Nat → Nat} : ∀ (a b k : Nat) (C : Nat → Nat), swC ln k (a + b) C = swC ln (k + a) b (swC ln k a C) ∧ chC ln k (a + b) C = (chC ln k a C || chC ln (k + a) b (swC ln k a C)) := by
  intro a
  induction a with
  | zero => intro b k C; rw [Nat.zero_add]; exact ⟨rfl, by show _ = (false || _); rw [Bool.false_or]; rfl⟩
  | succ a ih =>
    intro b k C
    obtain ⟨i1, i2⟩ := ih b (k + 1) (stC ln C k)
    rw [show a + 1 + b = (a + b) + 1 by omega]
    refine ⟨?_, ?_⟩
    · show swC ln (k + 1) (a + b) (stC ln C k) = swC ln (k + (a + 1)) b (swC ln (k + 1) a (stC ln C k))
      rw [i1, show k + 1 + a = k + (a + 1) by omega]
    · show (decide _ || chC ln (k + 1) (a + b) (stC ln C k)) = ((decide _ || chC ln (k + 1) a (stC ln C k)) || chC ln (k + (a + 1)) b (swC ln (k + 1) a (stC ln C k)))
      rw [i2, show k + 1 + a = k + (a + 1) by omega, Bool.or_assoc]
theorem lan_at {T : qT} {p f j : Nat} (hj : j < 16) : lanT T p (16 * f + j) = if frB T p f then endP (upT T (1 + p) f) p (T (118 + p)) (j / 4) (fineT (j % 4)) else f := by
  unfold lanT
  rw [show (16 * f + j) / 16 = f by omega, show (16 * f + j) % 16 = j by omega, show (16 * f + j) % 4 = j % 4 by omega]
theorem frB_in {T : qT} {p f : Nat} (h : frB T p f = true) : inT T f ∧ ¬ T (49 + f) = 1 ∧ (whoT T f = none ∨ whoT T f = some p) := by
  unfold frB at h
  simp only [Bool.and_eq_true, Bool.or_eq_true, Bool.not_eq_true', decide_eq_true_eq, decide_eq_false_iff_not] at h
  exact ⟨h.1.1, h.1.2, h.2⟩
theorem wf_land {N : Nat} {T : qT} {p f : Nat} (h : wfT N T) (hp : p < T 115) (hf : frB T p f = true) : wfT N (upT T (1 + p) f) := by
  obtain ⟨h1, h2, h3⟩ := frB_in hf
  have := mid_wf (pre := []) h hp h1 fun q hq hqp => by
    rcases h3 with h3 | h3
    · exact whoT_none.mp h3 q hq
    · intro he
      have := (whoT_some h3).2
      exact hqp (h.2.2.2.2.2.2.2.2 q p hq hp (he.trans this.symm))
  unfold midT at this
  rw [opnT_nil] at this
  exact this
theorem lan_lt {N : Nat} {T : qT} {p : Nat} (h : wfT N T) (hp : p < T 115) : ∀ k, k < 1024 → lanT T p k < 64 := fun k hk => by
  have h6 := h.1
  unfold lanT
  cases hf : frB T p (k / 16) with
  | false => simp only [Bool.false_eq_true, if_false]; omega
  | true =>
    simp only [if_true]
    exact endP_lt (wf_land h hp hf) (by rw [upT_o (by omega)]; exact hp)
def mvT (x : Nat) : Nat := if x < 1000000 then x else 99999
def mCo (μ : qMu) (C : Nat → Nat) : Prop := ∀ i, i < 64 → μ 313 i = nI (mvT (C i))
def cfr (μ μ' : qMu) : Prop := ∀ c x, ¬ c = 303 → ¬ c = 309 → ¬ (c = 297 ∧ ¬ x = 3 ∧ ¬ x = 13) → μ' c x = μ c x
def cfr3 (μ μ' : qMu) : Prop := ∀ c x, ¬ c = 303 → ¬ c = 309 → ¬ c = 313 → ¬ (c = 297 ∧ ¬ x = 3 ∧ ¬ x = 13) → μ' c x = μ c x
section
variable {d N : Nat} {σ : qSg} {μ : qMu} {la : qLa} {Q : qPost} {b : List Nat} {T : qT} {as : List qT} {im : Nat → qT} {sh : Nat → wSh} {x y z : Int32}
theorem cfr3_F {μ' : qMu} (h : cfr3 μ μ') : mFr μ μ' := fun c x h1 h2 h3 => h c x (by omega) (by omega) (by omega) h3
theorem cfr_3 {μ' : qMu} (h : cfr μ μ') : cfr3 μ μ' := fun c x h1 h2 _ h3 => h c x h1 h2 h3
theorem cfr3_tr {μ1 μ2 : qMu} (h : cfr3 μ μ1) (g : cfr3 μ1 μ2) : cfr3 μ μ2 := fun c x a b e f => (g c x a b e f).trans (h c x a b e f)
theorem mCo_fr {C : Nat → Nat} {μ' : qMu} (h : mCo μ C) (hf : cfr μ μ') : mCo μ' C := fun i hi => (hf 313 i (by decide) (by decide) (by omega)).trans (h i hi)
theorem c_comes {p f j : Nat} (hB : qBM σ) (hwf : wfT N T) (hp : p < T 115) (hf : frB T p f = true) (hf64 : f < 64) (hj : j < 16) (hm : qMA μ 302 T) (hQ : ∀ μ' : qMu, cfr μ μ' → Q (some (.int (nI (lanT T p (16 * f + j))))) σ μ' la) : qEx (d + 3) 170 0 [] [.ref 297, .int (nI p), .int (nI f), .int (nI (j / 4)), .int (nI (j % 4))] σ μ la Q := by
  have hk := mOk hB
  have h6 := hwf.1
  obtain ⟨r0, r1, r2, r4, r6, r7, -⟩ := mR hB
  have hA3 : qArr σ 303 124 := (mArr hB).2.2.2.2.1
  have hI : ∀ μ : qMu, qIld σ μ 303 = 124 := fun μ => (qaI (μ := μ) hA3).1
  have hL : qLen σ 10 303 = 124 := (qaI (μ := fun _ _ => 0) hA3).2.1
  have hI2 : ∀ μ : qMu, qIld σ μ 302 = 124 := fun μ => (mI302 (μ := μ) hB).1
  obtain ⟨⟨q1, q5⟩, -, -, -, -⟩ := hwf.2.2.2.2.2.2.2.1 p hp
  have hwl := wf_land hwf hp hf
  have hfi := fine_b (k := j % 4)
  have e0 := lan_at (T := T) (p := p) (f := f) hj
  rw [hf, if_pos rfl] at e0
  rw [e0] at hQ
  simp (disch := omega) only [x170_0, x170_1, hk, ↓nm_1, ↓nm_2, ↓nm_3, ↓nm_4, ↓nm_11, ↓nm_12, ↓nm_13, ↓nm_14, ↓nm_100, nl_0, nl_1, nl_2, nl_3, nl_4, nl_5, nl_6, nl_7, nl_8, nl_9, nl_10, nl_11, nl_12, nl_13, nl_14, nl_15, nl_16, nl_17, nl_18, nl_19, nl_20, nl_22, nl_23, nl_24, nl_25, nl_30, nl_31, nl_34, nl_35, nl_40, nl_43, nl_46, nl_47, nl_48, nl_49, nl_50, nl_57, nl_58, nl_59, nl_63, nl_64, nl_94, nl_97, nl_98, nl_99, nl_100, nl_101, nl_102, nl_105, nl_108, nl_110, nl_111, nl_112, nl_113, nl_114, nl_115, nl_116, nl_117, nl_118, nl_119, nl_124, nl_126, nl_138, nl_140, nl_255, nl_720, nl_1024, nl_9999, nl_99999, nl_999999, nl_1000000, eq_self, Bool.false_eq_true, Bool.true_and, Bool.and_true, Bool.false_and, Bool.and_false, Bool.not_true, Bool.not_false, nI_toInt, or_true, true_or, or_false, false_or, nI_clamp, nI_leI, nI_ltI, nI_eq, e_nm, e_mn, e_mm, l_nm, l_mn, l_mm, le_nm, le_mn, le_mm, nI_add, nI_mull, nI_sub, nI_subn, nI_divl, nsm, qIn_nI, Nat.zero_le, Nat.not_lt_zero, Nat.reduceAdd, Nat.reduceMul, Nat.reduceSub, Nat.reduceDiv, Nat.reduceMod, Nat.reduceEqDiff, Nat.reduceLeDiff, Nat.reduceLT, Nat.add_zero, Nat.zero_add, not_false_eq_true, not_true_eq_false, true_and, and_true, Option.toList_some, Option.toList_none, List.cons_append, List.nil_append, qrf, if_true, if_false, if_pos, if_neg, reduceIte, ne_eq, Classical.not_not]
  refine c_mbegin hB hm fun μ1 hf1 hm1 => ?_
  have hm2 := qMA_up (k := 1 + p) (v := f) hm1
  have h118 : qset μ1 303 (1 + p) (nI f) 302 (118 + p) = nI (T (118 + p)) := by rw [qset_o (by decide), hf1 302 (by decide)]; exact hm _ (by omega)
  simp (disch := omega) only [x170_4, x170_5, x170_8, x170_9, x170_10, x170_11, x170_12, x170_13, x170_14, x170_15, x170_18, x170_19, x170_20, x170_23, x170_25, x170_26, x170_27, x170_28, x170_29, x170_31, x170_34, hk, r6, r7, hI2, hL, h118, c_mfor (show j % 4 < 4 by omega), ↓nm_1, ↓nm_2, ↓nm_3, ↓nm_4, ↓nm_11, ↓nm_12, ↓nm_13, ↓nm_14, ↓nm_100, nl_0, nl_1, nl_2, nl_3, nl_4, nl_5, nl_6, nl_7, nl_8, nl_9, nl_10, nl_11, nl_12, nl_13, nl_14, nl_15, nl_16, nl_17, nl_18, nl_19, nl_20, nl_22, nl_23, nl_24, nl_25, nl_30, nl_31, nl_34, nl_35, nl_40, nl_43, nl_46, nl_47, nl_48, nl_49, nl_50, nl_57, nl_58, nl_59, nl_63, nl_64, nl_94, nl_97, nl_98, nl_99, nl_100, nl_101, nl_102, nl_105, nl_108, nl_110, nl_111, nl_112, nl_113, nl_114, nl_115, nl_116, nl_117, nl_118, nl_119, nl_124, nl_126, nl_138, nl_140, nl_255, nl_720, nl_1024, nl_9999, nl_99999, nl_999999, nl_1000000, eq_self, Bool.false_eq_true, Bool.true_and, Bool.and_true, Bool.false_and, Bool.and_false, Bool.not_true, Bool.not_false, nI_toInt, or_true, true_or, or_false, false_or, nI_clamp, nI_leI, nI_ltI, nI_eq, e_nm, e_mn, e_mm, l_nm, l_mn, l_mm, le_nm, le_mn, le_mm, nI_add, nI_mull, nI_sub, nI_subn, nI_divl, nsm, qIn_nI, Nat.zero_le, Nat.not_lt_zero, Nat.reduceAdd, Nat.reduceMul, Nat.reduceSub, Nat.reduceDiv, Nat.reduceMod, Nat.reduceEqDiff, Nat.reduceLeDiff, Nat.reduceLT, Nat.add_zero, Nat.zero_add, not_false_eq_true, not_true_eq_false, true_and, and_true, Option.toList_some, Option.toList_none, List.cons_append, List.nil_append, qrf, if_true, if_false, if_pos, if_neg, reduceIte, ne_eq, Classical.not_not]
  refine c_mwalk hB hA3 (by decide) (by decide) hwl (by rw [upT_o (by omega)]; exact hp) q1 q5 (by omega) (by omega) hm2 fun μ2 hf2 hm3 _ _ _ _ => ?_
  have e1 := hm3 (1 + p) (by omega)
  have e2 : midT (upT T (1 + p) f) p (walkT (upT T (1 + p) f) p (T (118 + p)) (j / 4) (fineT (j % 4))).1 (endT (upT T (1 + p) f (1 + p)) (walkT (upT T (1 + p) f) p (T (118 + p)) (j / 4) (fineT (j % 4))).1) (1 + p) = endP (upT T (1 + p) f) p (T (118 + p)) (j / 4) (fineT (j % 4)) := by unfold midT; rw [upT_s]
  rw [e2] at e1
  simp (disch := omega) only [x170_37, x170_38, x170_41, x170_42, x170_43, x170_44, x170_45, hk, r7, hI, e1, ↓nm_1, ↓nm_2, ↓nm_3, ↓nm_4, ↓nm_11, ↓nm_12, ↓nm_13, ↓nm_14, ↓nm_100, nl_0, nl_1, nl_2, nl_3, nl_4, nl_5, nl_6, nl_7, nl_8, nl_9, nl_10, nl_11, nl_12, nl_13, nl_14, nl_15, nl_16, nl_17, nl_18, nl_19, nl_20, nl_22, nl_23, nl_24, nl_25, nl_30, nl_31, nl_34, nl_35, nl_40, nl_43, nl_46, nl_47, nl_48, nl_49, nl_50, nl_57, nl_58, nl_59, nl_63, nl_64, nl_94, nl_97, nl_98, nl_99, nl_100, nl_101, nl_102, nl_105, nl_108, nl_110, nl_111, nl_112, nl_113, nl_114, nl_115, nl_116, nl_117, nl_118, nl_119, nl_124, nl_126, nl_138, nl_140, nl_255, nl_720, nl_1024, nl_9999, nl_99999, nl_999999, nl_1000000, eq_self, Bool.false_eq_true, Bool.true_and, Bool.and_true, Bool.false_and, Bool.and_false, Bool.not_true, Bool.not_false, nI_toInt, or_true, true_or, or_false, false_or, nI_clamp, nI_leI, nI_ltI, nI_eq, e_nm, e_mn, e_mm, l_nm, l_mn, l_mm, le_nm, le_mn, le_mm, nI_add, nI_mull, nI_sub, nI_subn, nI_divl, nsm, qIn_nI, Nat.zero_le, Nat.not_lt_zero, Nat.reduceAdd, Nat.reduceMul, Nat.reduceSub, Nat.reduceDiv, Nat.reduceMod, Nat.reduceEqDiff, Nat.reduceLeDiff, Nat.reduceLT, Nat.add_zero, Nat.zero_add, not_false_eq_true, not_true_eq_false, true_and, and_true, Option.toList_some, Option.toList_none, List.cons_append, List.nil_append, qrf, if_true, if_false, if_pos, if_neg, reduceIte, ne_eq, Classical.not_not]
  refine hQ μ2 fun c x z1 z2 z3 => ?_
  rw [hf2 c x z1 (by omega) (by omega), qset_o z1, hf1 c z1]
theorem mv_lt {a b f : Nat} (hf : 3 ≤ f ∧ f ≤ 30) (ha : a = 1000000 ∨ a ≤ 1890) (hb : b = 1000000 ∨ b ≤ 1890) : (mvT a + f < mvT b) ↔ (f + a < b) := by
  unfold mvT
  split <;> split <;> omega
theorem mv_le {a : Nat} : mvT a ≤ 1000000 := by unfold mvT; split <;> omega
set_option maxHeartbeats 2000000 in
theorem c_lay_in {p f : Nat} {g : Value} (hB : qBM σ) (hwf : wfT N T) (hp : p < T 115) (hf : frB T p f = true) (hf64 : f < 64) : ∀ (n k : Nat) (C : Nat → Nat) (mb : Bool) (μ : qMu) (l7 : Value), k + n = 16 → qMA μ 302 T → mCo μ C → okC C → (∀ (μ' : qMu) (l7 : Value), cfr3 μ μ' → mCo μ' (swC (lanT T p) (16 * f + k) n C) → qEx (d + 4) 171 210 [] [.ref 297, .int (nI p), g, .int (nI (if (mb || chC (lanT T p) (16 * f + k) n C) then 1 else 0)), .int (nI f), .int (nI 1), .int (nI 16), l7] σ μ' la Q) → qEx (d + 4) 171 109 [] [.ref 297, .int (nI p), g, .int (nI (if mb then 1 else 0)), .int (nI f), .int (nI 1), .int (nI k), l7] σ μ la Q := by
  have hk := mOk hB
  have h6 := hwf.1
  obtain ⟨r0, r1, r2, r4, r6, r7, r8, r9, r10, r11, r12, r14, r19, r20, r21, r24, r25⟩ := mR hB
  have hA : qArr σ 313 64 := (mArr hB).2.2.2.2.2.2.2.2.2.2.2.2
  have hI : ∀ μ : qMu, qIld σ μ 313 = 64 := fun μ => (qaI (μ := μ) hA).1
  have hL : qLen σ 10 313 = 64 := (qaI (μ := fun _ _ => 0) hA).2.1
  have hlt := lan_lt hwf hp
  intro n
  induction n with
  | zero =>
    intro k C mb μ l7 hkn hm hC hok hQ
    have : k = 16 := by omega
    subst this
    have e : (mb || chC (lanT T p) (16 * f + 16) 0 C) = mb := by show (mb || false) = mb; rw [Bool.or_false]
    rw [e] at hQ
    rw [x171_109]
    simp (disch := omega) only [x171_111, x171_113, ↓nm_1, ↓nm_2, ↓nm_3, ↓nm_4, ↓nm_11, ↓nm_12, ↓nm_13, ↓nm_14, ↓nm_100, nl_0, nl_1, nl_2, nl_3, nl_4, nl_5, nl_6, nl_7, nl_8, nl_9, nl_10, nl_11, nl_12, nl_13, nl_14, nl_15, nl_16, nl_17, nl_18, nl_19, nl_20, nl_22, nl_23, nl_24, nl_25, nl_30, nl_31, nl_34, nl_35, nl_40, nl_43, nl_46, nl_47, nl_48, nl_49, nl_50, nl_57, nl_58, nl_59, nl_63, nl_64, nl_94, nl_97, nl_98, nl_99, nl_100, nl_101, nl_102, nl_105, nl_108, nl_110, nl_111, nl_112, nl_113, nl_114, nl_115, nl_116, nl_117, nl_118, nl_119, nl_124, nl_126, nl_138, nl_140, nl_255, nl_720, nl_1024, nl_9999, nl_99999, nl_999999, nl_1000000, eq_self, Bool.false_eq_true, Bool.true_and, Bool.and_true, Bool.false_and, Bool.and_false, Bool.not_true, Bool.not_false, nI_toInt, or_true, true_or, or_false, false_or, nI_clamp, nI_leI, nI_ltI, nI_eq, e_nm, e_mn, e_mm, l_nm, l_mn, l_mm, le_nm, le_mn, le_mm, nI_add, nI_mull, nI_sub, nI_subn, nI_divl, nsm, qIn_nI, Nat.zero_le, Nat.not_lt_zero, Nat.reduceAdd, Nat.reduceMul, Nat.reduceSub, Nat.reduceDiv, Nat.reduceMod, Nat.reduceEqDiff, Nat.reduceLeDiff, Nat.reduceLT, Nat.add_zero, Nat.zero_add, not_false_eq_true, not_true_eq_false, true_and, and_true, Option.toList_some, Option.toList_none, List.cons_append, List.nil_append, qrf, if_true, if_false, if_pos, if_neg, reduceIte, ne_eq, Classical.not_not]
    exact hQ μ l7 (fun _ _ _ _ _ _ => rfl) hC
  | succ n ih =>
    intro k C mb μ l7 hkn hm hC hok hQ
    have hlk := hlt (16 * f + k) (by omega)
    have hfi := fine_b (k := k % 4)
    rw [x171_109]
    simp (disch := omega) only [x171_111, x171_113, x171_116, x171_118, x171_121, x171_122, x171_125, x171_126, x171_127, x171_129, x171_131, x171_132, x171_133, x171_135, x171_136, x171_137, hk, r24, ↓nm_1, ↓nm_2, ↓nm_3, ↓nm_4, ↓nm_11, ↓nm_12, ↓nm_13, ↓nm_14, ↓nm_100, nl_0, nl_1, nl_2, nl_3, nl_4, nl_5, nl_6, nl_7, nl_8, nl_9, nl_10, nl_11, nl_12, nl_13, nl_14, nl_15, nl_16, nl_17, nl_18, nl_19, nl_20, nl_22, nl_23, nl_24, nl_25, nl_30, nl_31, nl_34, nl_35, nl_40, nl_43, nl_46, nl_47, nl_48, nl_49, nl_50, nl_57, nl_58, nl_59, nl_63, nl_64, nl_94, nl_97, nl_98, nl_99, nl_100, nl_101, nl_102, nl_105, nl_108, nl_110, nl_111, nl_112, nl_113, nl_114, nl_115, nl_116, nl_117, nl_118, nl_119, nl_124, nl_126, nl_138, nl_140, nl_255, nl_720, nl_1024, nl_9999, nl_99999, nl_999999, nl_1000000, eq_self, Bool.false_eq_true, Bool.true_and, Bool.and_true, Bool.false_and, Bool.and_false, Bool.not_true, Bool.not_false, nI_toInt, or_true, true_or, or_false, false_or, nI_clamp, nI_leI, nI_ltI, nI_eq, e_nm, e_mn, e_mm, l_nm, l_mn, l_mm, le_nm, le_mn, le_mm, nI_add, nI_mull, nI_sub, nI_subn, nI_divl, nsm, qIn_nI, Nat.zero_le, Nat.not_lt_zero, Nat.reduceAdd, Nat.reduceMul, Nat.reduceSub, Nat.reduceDiv, Nat.reduceMod, Nat.reduceEqDiff, Nat.reduceLeDiff, Nat.reduceLT, Nat.add_zero, Nat.zero_add, not_false_eq_true, not_true_eq_false, true_and, and_true, Option.toList_some, Option.toList_none, List.cons_append, List.nil_append, qrf, if_true, if_false, if_pos, if_neg, reduceIte, ne_eq, Classical.not_not]
    refine c_comes hB hwf hp hf hf64 (by omega) hm fun μ1 hf1 => ?_
    have hC1 := mCo_fr hC hf1
    have c1 := hC1 _ hlk
    have c2 := hC1 f hf64
    have oka := ok_le hok hlk
    have okb := ok_le hok hf64
    have hmv := mv_lt hfi oka okb
    have b1 := mv_le (a := C (lanT T p (16 * f + k)))
    have b2 := mv_le (a := C f)
    have e4 : (16 * f + k) % 4 = k % 4 := by omega
    have e16 : (16 * f + k) / 16 = f := by omega
    have est : stC (lanT T p) C (16 * f + k) = if fineT (k % 4) + C (lanT T p (16 * f + k)) < C f then (fun i => if i = f then fineT (k % 4) + C (lanT T p (16 * f + k)) else C i) else C := by unfold stC; rw [e4, e16]
    have ech : chC (lanT T p) (16 * f + k) (n + 1) C = (decide (fineT (k % 4) + C (lanT T p (16 * f + k)) < C f) || chC (lanT T p) (16 * f + (k + 1)) n (stC (lanT T p) C (16 * f + k))) := by
      show (decide (fineT ((16 * f + k) % 4) + C (lanT T p (16 * f + k)) < C ((16 * f + k) / 16)) || _) = _
      rw [e4, e16]; rfl
    have esw : swC (lanT T p) (16 * f + k) (n + 1) C = swC (lanT T p) (16 * f + (k + 1)) n (stC (lanT T p) C (16 * f + k)) := rfl
    rw [ech, esw] at hQ
    have okn := ok_st (ln := lanT T p) (k := 16 * f + k) (by omega) hlk hok
    have hm1 : qMA μ1 302 T := qMA_fr hm fun x => hf1 302 x (by decide) (by decide) (by omega)
    by_cases hlt' : fineT (k % 4) + C (lanT T p (16 * f + k)) < C f
    · have hlt2 := hmv.mpr hlt'
      rw [if_pos hlt'] at est
      rw [decide_eq_true hlt', Bool.true_or, Bool.or_true] at hQ
      have hfin : C (lanT T p (16 * f + k)) < 1000000 := by omega
      have hmvv : mvT (C (lanT T p (16 * f + k))) = C (lanT T p (16 * f + k)) := by unfold mvT; rw [if_pos hfin]
      rw [hmvv] at c1 hlt2 b1
      have next := fun l7 : Value => ih (k + 1) (stC (lanT T p) C (16 * f + k)) true (qset μ1 313 f (nI (C (lanT T p (16 * f + k)) + fineT (k % 4)))) l7 (by omega) (qMA_fr hm1 fun x => qset_o (by decide)) (fun i hi => by
        rw [est]
        by_cases hif : i = f
        · subst hif
          simp only [if_true]
          rw [qset_s]; unfold mvT; rw [if_pos (by omega), Nat.add_comm]
        · simp only [if_neg hif]
          rw [qset_k hif]; exact hC1 i hi) okn fun μ' l7 hfr hc => hQ μ' l7 (cfr3_tr (cfr_3 hf1) (cfr3_tr (fun c x _ _ z3 _ => qset_o z3) hfr)) hc
      simp only [if_true] at next
      cases mb with
      | true =>
        simp (disch := omega) only [x171_140, x171_141, x171_143, x171_144, x171_145, x171_148, x171_149, x171_151, x171_152, x171_155, x171_157, x171_158, x171_161, x171_163, x171_164, x171_167, x171_168, x171_171, x171_172, x171_173, x171_174, x171_177, x171_179, x171_181, x171_182, x171_185, x171_187, x171_188, x171_191, x171_193, x171_196, x171_197, x171_200, x171_202, x171_203, x171_204, x171_207, hk, r24, hI, hL, c1, c2, c_mfor (show k % 4 < 4 by omega), ↓nm_1, ↓nm_2, ↓nm_3, ↓nm_4, ↓nm_11, ↓nm_12, ↓nm_13, ↓nm_14, ↓nm_100, nl_0, nl_1, nl_2, nl_3, nl_4, nl_5, nl_6, nl_7, nl_8, nl_9, nl_10, nl_11, nl_12, nl_13, nl_14, nl_15, nl_16, nl_17, nl_18, nl_19, nl_20, nl_22, nl_23, nl_24, nl_25, nl_30, nl_31, nl_34, nl_35, nl_40, nl_43, nl_46, nl_47, nl_48, nl_49, nl_50, nl_57, nl_58, nl_59, nl_63, nl_64, nl_94, nl_97, nl_98, nl_99, nl_100, nl_101, nl_102, nl_105, nl_108, nl_110, nl_111, nl_112, nl_113, nl_114, nl_115, nl_116, nl_117, nl_118, nl_119, nl_124, nl_126, nl_138, nl_140, nl_255, nl_720, nl_1024, nl_9999, nl_99999, nl_999999, nl_1000000, eq_self, Bool.false_eq_true, Bool.true_and, Bool.and_true, Bool.false_and, Bool.and_false, Bool.not_true, Bool.not_false, nI_toInt, or_true, true_or, or_false, false_or, nI_clamp, nI_leI, nI_ltI, nI_eq, e_nm, e_mn, e_mm, l_nm, l_mn, l_mm, le_nm, le_mn, le_mm, nI_add, nI_mull, nI_sub, nI_subn, nI_divl, nsm, qIn_nI, Nat.zero_le, Nat.not_lt_zero, Nat.reduceAdd, Nat.reduceMul, Nat.reduceSub, Nat.reduceDiv, Nat.reduceMod, Nat.reduceEqDiff, Nat.reduceLeDiff, Nat.reduceLT, Nat.add_zero, Nat.zero_add, not_false_eq_true, not_true_eq_false, true_and, and_true, Option.toList_some, Option.toList_none, List.cons_append, List.nil_append, qrf, if_true, if_false, if_pos, if_neg, reduceIte, ne_eq, Classical.not_not]
        exact next _
      | false =>
        simp (disch := omega) only [x171_140, x171_141, x171_143, x171_144, x171_145, x171_148, x171_149, x171_151, x171_152, x171_155, x171_157, x171_158, x171_161, x171_163, x171_164, x171_167, x171_168, x171_171, x171_172, x171_173, x171_174, x171_177, x171_179, x171_181, x171_182, x171_185, x171_187, x171_188, x171_191, x171_193, x171_196, x171_197, x171_200, x171_202, x171_203, x171_204, x171_207, hk, r24, hI, hL, c1, c2, c_mfor (show k % 4 < 4 by omega), ↓nm_1, ↓nm_2, ↓nm_3, ↓nm_4, ↓nm_11, ↓nm_12, ↓nm_13, ↓nm_14, ↓nm_100, nl_0, nl_1, nl_2, nl_3, nl_4, nl_5, nl_6, nl_7, nl_8, nl_9, nl_10, nl_11, nl_12, nl_13, nl_14, nl_15, nl_16, nl_17, nl_18, nl_19, nl_20, nl_22, nl_23, nl_24, nl_25, nl_30, nl_31, nl_34, nl_35, nl_40, nl_43, nl_46, nl_47, nl_48, nl_49, nl_50, nl_57, nl_58, nl_59, nl_63, nl_64, nl_94, nl_97, nl_98, nl_99, nl_100, nl_101, nl_102, nl_105, nl_108, nl_110, nl_111, nl_112, nl_113, nl_114, nl_115, nl_116, nl_117, nl_118, nl_119, nl_124, nl_126, nl_138, nl_140, nl_255, nl_720, nl_1024, nl_9999, nl_99999, nl_999999, nl_1000000, eq_self, Bool.false_eq_true, Bool.true_and, Bool.and_true, Bool.false_and, Bool.and_false, Bool.not_true, Bool.not_false, nI_toInt, or_true, true_or, or_false, false_or, nI_clamp, nI_leI, nI_ltI, nI_eq, e_nm, e_mn, e_mm, l_nm, l_mn, l_mm, le_nm, le_mn, le_mm, nI_add, nI_mull, nI_sub, nI_subn, nI_divl, nsm, qIn_nI, Nat.zero_le, Nat.not_lt_zero, Nat.reduceAdd, Nat.reduceMul, Nat.reduceSub, Nat.reduceDiv, Nat.reduceMod, Nat.reduceEqDiff, Nat.reduceLeDiff, Nat.reduceLT, Nat.add_zero, Nat.zero_add, not_false_eq_true, not_true_eq_false, true_and, and_true, Option.toList_some, Option.toList_none, List.cons_append, List.nil_append, qrf, if_true, if_false, if_pos, if_neg, reduceIte, ne_eq, Classical.not_not]
        exact next _
    · have hlt2 : ¬ mvT (C (lanT T p (16 * f + k))) + fineT (k % 4) < mvT (C f) := fun z => hlt' (hmv.mp z)
      rw [if_neg hlt'] at est
      rw [decide_eq_false hlt', Bool.false_or, est] at hQ
      have next := fun l7 : Value => ih (k + 1) C mb (qset μ1 313 f (nI (mvT (C f)))) l7 (by omega) (qMA_fr hm1 fun x => qset_o (by decide)) (fun i hi => by
        by_cases hif : i = f
        · subst hif; rw [qset_s]
        · rw [qset_k hif]; exact hC1 i hi) hok fun μ' l7 hfr hc => hQ μ' l7 (cfr3_tr (cfr_3 hf1) (cfr3_tr (fun c x _ _ z3 _ => qset_o z3) hfr)) hc
      cases mb with
      | true =>
        simp (disch := omega) only [x171_140, x171_141, x171_143, x171_144, x171_145, x171_148, x171_149, x171_151, x171_152, x171_155, x171_157, x171_158, x171_161, x171_163, x171_164, x171_167, x171_168, x171_171, x171_172, x171_173, x171_174, x171_177, x171_179, x171_181, x171_182, x171_185, x171_187, x171_188, x171_191, x171_193, x171_196, x171_197, x171_200, x171_202, x171_203, x171_204, x171_207, hk, r24, hI, hL, c1, c2, c_mfor (show k % 4 < 4 by omega), ↓nm_1, ↓nm_2, ↓nm_3, ↓nm_4, ↓nm_11, ↓nm_12, ↓nm_13, ↓nm_14, ↓nm_100, nl_0, nl_1, nl_2, nl_3, nl_4, nl_5, nl_6, nl_7, nl_8, nl_9, nl_10, nl_11, nl_12, nl_13, nl_14, nl_15, nl_16, nl_17, nl_18, nl_19, nl_20, nl_22, nl_23, nl_24, nl_25, nl_30, nl_31, nl_34, nl_35, nl_40, nl_43, nl_46, nl_47, nl_48, nl_49, nl_50, nl_57, nl_58, nl_59, nl_63, nl_64, nl_94, nl_97, nl_98, nl_99, nl_100, nl_101, nl_102, nl_105, nl_108, nl_110, nl_111, nl_112, nl_113, nl_114, nl_115, nl_116, nl_117, nl_118, nl_119, nl_124, nl_126, nl_138, nl_140, nl_255, nl_720, nl_1024, nl_9999, nl_99999, nl_999999, nl_1000000, eq_self, Bool.false_eq_true, Bool.true_and, Bool.and_true, Bool.false_and, Bool.and_false, Bool.not_true, Bool.not_false, nI_toInt, or_true, true_or, or_false, false_or, nI_clamp, nI_leI, nI_ltI, nI_eq, e_nm, e_mn, e_mm, l_nm, l_mn, l_mm, le_nm, le_mn, le_mm, nI_add, nI_mull, nI_sub, nI_subn, nI_divl, nsm, qIn_nI, Nat.zero_le, Nat.not_lt_zero, Nat.reduceAdd, Nat.reduceMul, Nat.reduceSub, Nat.reduceDiv, Nat.reduceMod, Nat.reduceEqDiff, Nat.reduceLeDiff, Nat.reduceLT, Nat.add_zero, Nat.zero_add, not_false_eq_true, not_true_eq_false, true_and, and_true, Option.toList_some, Option.toList_none, List.cons_append, List.nil_append, qrf, if_true, if_false, if_pos, if_neg, reduceIte, ne_eq, Classical.not_not]
        exact next _
      | false =>
        simp (disch := omega) only [x171_140, x171_141, x171_143, x171_144, x171_145, x171_148, x171_149, x171_151, x171_152, x171_155, x171_157, x171_158, x171_161, x171_163, x171_164, x171_167, x171_168, x171_171, x171_172, x171_173, x171_174, x171_177, x171_179, x171_181, x171_182, x171_185, x171_187, x171_188, x171_191, x171_193, x171_196, x171_197, x171_200, x171_202, x171_203, x171_204, x171_207, hk, r24, hI, hL, c1, c2, c_mfor (show k % 4 < 4 by omega), ↓nm_1, ↓nm_2, ↓nm_3, ↓nm_4, ↓nm_11, ↓nm_12, ↓nm_13, ↓nm_14, ↓nm_100, nl_0, nl_1, nl_2, nl_3, nl_4, nl_5, nl_6, nl_7, nl_8, nl_9, nl_10, nl_11, nl_12, nl_13, nl_14, nl_15, nl_16, nl_17, nl_18, nl_19, nl_20, nl_22, nl_23, nl_24, nl_25, nl_30, nl_31, nl_34, nl_35, nl_40, nl_43, nl_46, nl_47, nl_48, nl_49, nl_50, nl_57, nl_58, nl_59, nl_63, nl_64, nl_94, nl_97, nl_98, nl_99, nl_100, nl_101, nl_102, nl_105, nl_108, nl_110, nl_111, nl_112, nl_113, nl_114, nl_115, nl_116, nl_117, nl_118, nl_119, nl_124, nl_126, nl_138, nl_140, nl_255, nl_720, nl_1024, nl_9999, nl_99999, nl_999999, nl_1000000, eq_self, Bool.false_eq_true, Bool.true_and, Bool.and_true, Bool.false_and, Bool.and_false, Bool.not_true, Bool.not_false, nI_toInt, or_true, true_or, or_false, false_or, nI_clamp, nI_leI, nI_ltI, nI_eq, e_nm, e_mn, e_mm, l_nm, l_mn, l_mm, le_nm, le_mn, le_mm, nI_add, nI_mull, nI_sub, nI_subn, nI_divl, nsm, qIn_nI, Nat.zero_le, Nat.not_lt_zero, Nat.reduceAdd, Nat.reduceMul, Nat.reduceSub, Nat.reduceDiv, Nat.reduceMod, Nat.reduceEqDiff, Nat.reduceLeDiff, Nat.reduceLT, Nat.add_zero, Nat.zero_add, not_false_eq_true, not_true_eq_false, true_and, and_true, Option.toList_some, Option.toList_none, List.cons_append, List.nil_append, qrf, if_true, if_false, if_pos, if_neg, reduceIte, ne_eq, Classical.not_not]
        exact next _
theorem sw_self {p f : Nat} {C : Nat → Nat} (hf : frB T p f = false) : swC (lanT T p) (16 * f) 16 C = C ∧ chC (lanT T p) (16 * f) 16 C = false := by
  have h := chC_no (ln := lanT T p) 16 (16 * f) C fun q h1 h2 => by
    have e : lanT T p q = q / 16 := by
      unfold lanT
      rw [show q / 16 = f by omega, hf]
      simp
    rw [e]; omega
  exact ⟨h.2, h.1⟩
/-- may he stand there: the reference's way -/
theorem c_mcan {p f : Nat} {g l3 l5 l6 l7 : Value} (hB : qBM σ) (hwf : wfT N T) (hp : p < T 115) (hf64 : f < 64) (hm : qMA μ 302 T) (hQ : qEx (d + 4) 171 106 [] [.ref 297, .int (nI p), g, l3, .int (nI f), .int (nI (if frB T p f then 1 else 0)), l6, l7] σ μ la Q) : qEx (d + 4) 171 49 [] [.ref 297, .int (nI p), g, l3, .int (nI f), l5, l6, l7] σ μ la Q := by
  have hk := mOk hB
  have h6 := hwf.1
  obtain ⟨r0, r1, r2, r4, r6, -⟩ := mR hB
  have hI2 := (mI302 (μ := μ) hB).1
  unfold frB at hQ
  by_cases h1 : inT T f
  · have h1' : isC T (nI f) = true := by rw [isC_nI (by omega)]; exact decide_eq_true ⟨hf64, h1⟩
    have hg5 := hwf.2.2.2.2.2.2.1 f h1
    have hgm := hm (49 + f) (by omega)
    rw [decide_eq_true h1] at hQ
    by_cases h2 : T (49 + f) = 1
    · rw [decide_eq_true h2] at hQ
      simp (disch := omega) only [x171_49, x171_50, x171_52, x171_55, x171_58, x171_59, x171_62, x171_64, x171_66, x171_67, x171_68, x171_69, x171_103, x171_104, c_mcell hB hm hwf, h1', hk, r6, hI2, hgm, ↓nm_1, ↓nm_2, ↓nm_3, ↓nm_4, ↓nm_11, ↓nm_12, ↓nm_13, ↓nm_14, ↓nm_100, nl_0, nl_1, nl_2, nl_3, nl_4, nl_5, nl_6, nl_7, nl_8, nl_9, nl_10, nl_11, nl_12, nl_13, nl_14, nl_15, nl_16, nl_17, nl_18, nl_19, nl_20, nl_22, nl_23, nl_24, nl_25, nl_30, nl_31, nl_34, nl_35, nl_40, nl_43, nl_46, nl_47, nl_48, nl_49, nl_50, nl_57, nl_58, nl_59, nl_63, nl_64, nl_94, nl_97, nl_98, nl_99, nl_100, nl_101, nl_102, nl_105, nl_108, nl_110, nl_111, nl_112, nl_113, nl_114, nl_115, nl_116, nl_117, nl_118, nl_119, nl_124, nl_126, nl_138, nl_140, nl_255, nl_720, nl_1024, nl_9999, nl_99999, nl_999999, nl_1000000, eq_self, Bool.false_eq_true, Bool.true_and, Bool.and_true, Bool.false_and, Bool.and_false, Bool.not_true, Bool.not_false, nI_toInt, or_true, true_or, or_false, false_or, nI_clamp, nI_leI, nI_ltI, nI_eq, e_nm, e_mn, e_mm, l_nm, l_mn, l_mm, le_nm, le_mn, le_mm, nI_add, nI_mull, nI_sub, nI_subn, nI_divl, nsm, qIn_nI, Nat.zero_le, Nat.not_lt_zero, Nat.reduceAdd, Nat.reduceMul, Nat.reduceSub, Nat.reduceDiv, Nat.reduceMod, Nat.reduceEqDiff, Nat.reduceLeDiff, Nat.reduceLT, Nat.add_zero, Nat.zero_add, not_false_eq_true, not_true_eq_false, true_and, and_true, Option.toList_some, Option.toList_none, List.cons_append, List.nil_append, qrf, if_true, if_false, if_pos, if_neg, reduceIte, ne_eq, Classical.not_not] at hQ ⊢
      exact hQ
    · rw [decide_eq_false h2] at hQ
      simp (disch := omega) only [x171_49, x171_50, x171_52, x171_55, x171_58, x171_59, x171_62, x171_64, x171_66, x171_67, x171_68, x171_69, x171_72, x171_73, x171_76, x171_78, c_mcell hB hm hwf, h1', hk, r6, hI2, hgm, ↓nm_1, ↓nm_2, ↓nm_3, ↓nm_4, ↓nm_11, ↓nm_12, ↓nm_13, ↓nm_14, ↓nm_100, nl_0, nl_1, nl_2, nl_3, nl_4, nl_5, nl_6, nl_7, nl_8, nl_9, nl_10, nl_11, nl_12, nl_13, nl_14, nl_15, nl_16, nl_17, nl_18, nl_19, nl_20, nl_22, nl_23, nl_24, nl_25, nl_30, nl_31, nl_34, nl_35, nl_40, nl_43, nl_46, nl_47, nl_48, nl_49, nl_50, nl_57, nl_58, nl_59, nl_63, nl_64, nl_94, nl_97, nl_98, nl_99, nl_100, nl_101, nl_102, nl_105, nl_108, nl_110, nl_111, nl_112, nl_113, nl_114, nl_115, nl_116, nl_117, nl_118, nl_119, nl_124, nl_126, nl_138, nl_140, nl_255, nl_720, nl_1024, nl_9999, nl_99999, nl_999999, nl_1000000, eq_self, Bool.false_eq_true, Bool.true_and, Bool.and_true, Bool.false_and, Bool.and_false, Bool.not_true, Bool.not_false, nI_toInt, or_true, true_or, or_false, false_or, nI_clamp, nI_leI, nI_ltI, nI_eq, e_nm, e_mn, e_mm, l_nm, l_mn, l_mm, le_nm, le_mn, le_mm, nI_add, nI_mull, nI_sub, nI_subn, nI_divl, nsm, qIn_nI, Nat.zero_le, Nat.not_lt_zero, Nat.reduceAdd, Nat.reduceMul, Nat.reduceSub, Nat.reduceDiv, Nat.reduceMod, Nat.reduceEqDiff, Nat.reduceLeDiff, Nat.reduceLT, Nat.add_zero, Nat.zero_add, not_false_eq_true, not_true_eq_false, true_and, and_true, Option.toList_some, Option.toList_none, List.cons_append, List.nil_append, qrf, if_true, if_false, if_pos, if_neg, reduceIte, ne_eq, Classical.not_not]
      refine c_mstand (mArr hB).2.2.2.1 hm hwf hf64 ?_
      cases hw : whoT T f with
      | none =>
        rw [hw] at hQ
        simp at hQ
        simp (disch := omega) only [noneV, x171_81, x171_83, x171_99, x171_100, x171_104, ↓nm_1, ↓nm_2, ↓nm_3, ↓nm_4, ↓nm_11, ↓nm_12, ↓nm_13, ↓nm_14, ↓nm_100, nl_0, nl_1, nl_2, nl_3, nl_4, nl_5, nl_6, nl_7, nl_8, nl_9, nl_10, nl_11, nl_12, nl_13, nl_14, nl_15, nl_16, nl_17, nl_18, nl_19, nl_20, nl_22, nl_23, nl_24, nl_25, nl_30, nl_31, nl_34, nl_35, nl_40, nl_43, nl_46, nl_47, nl_48, nl_49, nl_50, nl_57, nl_58, nl_59, nl_63, nl_64, nl_94, nl_97, nl_98, nl_99, nl_100, nl_101, nl_102, nl_105, nl_108, nl_110, nl_111, nl_112, nl_113, nl_114, nl_115, nl_116, nl_117, nl_118, nl_119, nl_124, nl_126, nl_138, nl_140, nl_255, nl_720, nl_1024, nl_9999, nl_99999, nl_999999, nl_1000000, eq_self, Bool.false_eq_true, Bool.true_and, Bool.and_true, Bool.false_and, Bool.and_false, Bool.not_true, Bool.not_false, nI_toInt, or_true, true_or, or_false, false_or, nI_clamp, nI_leI, nI_ltI, nI_eq, e_nm, e_mn, e_mm, l_nm, l_mn, l_mm, le_nm, le_mn, le_mm, nI_add, nI_mull, nI_sub, nI_subn, nI_divl, nsm, qIn_nI, Nat.zero_le, Nat.not_lt_zero, Nat.reduceAdd, Nat.reduceMul, Nat.reduceSub, Nat.reduceDiv, Nat.reduceMod, Nat.reduceEqDiff, Nat.reduceLeDiff, Nat.reduceLT, Nat.add_zero, Nat.zero_add, not_false_eq_true, not_true_eq_false, true_and, and_true, Option.toList_some, Option.toList_none, List.cons_append, List.nil_append, qrf, if_true, if_false, if_pos, if_neg, reduceIte, ne_eq, Classical.not_not]
        exact hQ
      | some q =>
        have hq := (whoT_some hw).1
        rw [hw] at hQ
        simp (disch := omega) only [noneV, x171_81, x171_83, x171_86, x171_87, x171_90, x171_92, hk, r6, ↓nm_1, ↓nm_2, ↓nm_3, ↓nm_4, ↓nm_11, ↓nm_12, ↓nm_13, ↓nm_14, ↓nm_100, nl_0, nl_1, nl_2, nl_3, nl_4, nl_5, nl_6, nl_7, nl_8, nl_9, nl_10, nl_11, nl_12, nl_13, nl_14, nl_15, nl_16, nl_17, nl_18, nl_19, nl_20, nl_22, nl_23, nl_24, nl_25, nl_30, nl_31, nl_34, nl_35, nl_40, nl_43, nl_46, nl_47, nl_48, nl_49, nl_50, nl_57, nl_58, nl_59, nl_63, nl_64, nl_94, nl_97, nl_98, nl_99, nl_100, nl_101, nl_102, nl_105, nl_108, nl_110, nl_111, nl_112, nl_113, nl_114, nl_115, nl_116, nl_117, nl_118, nl_119, nl_124, nl_126, nl_138, nl_140, nl_255, nl_720, nl_1024, nl_9999, nl_99999, nl_999999, nl_1000000, eq_self, Bool.false_eq_true, Bool.true_and, Bool.and_true, Bool.false_and, Bool.and_false, Bool.not_true, Bool.not_false, nI_toInt, or_true, true_or, or_false, false_or, nI_clamp, nI_leI, nI_ltI, nI_eq, e_nm, e_mn, e_mm, l_nm, l_mn, l_mm, le_nm, le_mn, le_mm, nI_add, nI_mull, nI_sub, nI_subn, nI_divl, nsm, qIn_nI, Nat.zero_le, Nat.not_lt_zero, Nat.reduceAdd, Nat.reduceMul, Nat.reduceSub, Nat.reduceDiv, Nat.reduceMod, Nat.reduceEqDiff, Nat.reduceLeDiff, Nat.reduceLT, Nat.add_zero, Nat.zero_add, not_false_eq_true, not_true_eq_false, true_and, and_true, Option.toList_some, Option.toList_none, List.cons_append, List.nil_append, qrf, if_true, if_false, if_pos, if_neg, reduceIte, ne_eq, Classical.not_not]
        refine c_mstand (mArr hB).2.2.2.1 hm hwf hf64 ?_
        rw [hw]
        by_cases hqp : q = p
        · subst hqp
          simp at hQ
          simp (disch := omega) only [noneV, x171_95, x171_96, x171_99, x171_100, x171_104, ↓nm_1, ↓nm_2, ↓nm_3, ↓nm_4, ↓nm_11, ↓nm_12, ↓nm_13, ↓nm_14, ↓nm_100, nl_0, nl_1, nl_2, nl_3, nl_4, nl_5, nl_6, nl_7, nl_8, nl_9, nl_10, nl_11, nl_12, nl_13, nl_14, nl_15, nl_16, nl_17, nl_18, nl_19, nl_20, nl_22, nl_23, nl_24, nl_25, nl_30, nl_31, nl_34, nl_35, nl_40, nl_43, nl_46, nl_47, nl_48, nl_49, nl_50, nl_57, nl_58, nl_59, nl_63, nl_64, nl_94, nl_97, nl_98, nl_99, nl_100, nl_101, nl_102, nl_105, nl_108, nl_110, nl_111, nl_112, nl_113, nl_114, nl_115, nl_116, nl_117, nl_118, nl_119, nl_124, nl_126, nl_138, nl_140, nl_255, nl_720, nl_1024, nl_9999, nl_99999, nl_999999, nl_1000000, eq_self, Bool.false_eq_true, Bool.true_and, Bool.and_true, Bool.false_and, Bool.and_false, Bool.not_true, Bool.not_false, nI_toInt, or_true, true_or, or_false, false_or, nI_clamp, nI_leI, nI_ltI, nI_eq, e_nm, e_mn, e_mm, l_nm, l_mn, l_mm, le_nm, le_mn, le_mm, nI_add, nI_mull, nI_sub, nI_subn, nI_divl, nsm, qIn_nI, Nat.zero_le, Nat.not_lt_zero, Nat.reduceAdd, Nat.reduceMul, Nat.reduceSub, Nat.reduceDiv, Nat.reduceMod, Nat.reduceEqDiff, Nat.reduceLeDiff, Nat.reduceLT, Nat.add_zero, Nat.zero_add, not_false_eq_true, not_true_eq_false, true_and, and_true, Option.toList_some, Option.toList_none, List.cons_append, List.nil_append, qrf, if_true, if_false, if_pos, if_neg, reduceIte, ne_eq, Classical.not_not]
          exact hQ
        · simp [hqp] at hQ
          simp (disch := omega) only [noneV, x171_95, x171_96, x171_103, x171_104, ↓nm_1, ↓nm_2, ↓nm_3, ↓nm_4, ↓nm_11, ↓nm_12, ↓nm_13, ↓nm_14, ↓nm_100, nl_0, nl_1, nl_2, nl_3, nl_4, nl_5, nl_6, nl_7, nl_8, nl_9, nl_10, nl_11, nl_12, nl_13, nl_14, nl_15, nl_16, nl_17, nl_18, nl_19, nl_20, nl_22, nl_23, nl_24, nl_25, nl_30, nl_31, nl_34, nl_35, nl_40, nl_43, nl_46, nl_47, nl_48, nl_49, nl_50, nl_57, nl_58, nl_59, nl_63, nl_64, nl_94, nl_97, nl_98, nl_99, nl_100, nl_101, nl_102, nl_105, nl_108, nl_110, nl_111, nl_112, nl_113, nl_114, nl_115, nl_116, nl_117, nl_118, nl_119, nl_124, nl_126, nl_138, nl_140, nl_255, nl_720, nl_1024, nl_9999, nl_99999, nl_999999, nl_1000000, eq_self, Bool.false_eq_true, Bool.true_and, Bool.and_true, Bool.false_and, Bool.and_false, Bool.not_true, Bool.not_false, nI_toInt, or_true, true_or, or_false, false_or, nI_clamp, nI_leI, nI_ltI, nI_eq, e_nm, e_mn, e_mm, l_nm, l_mn, l_mm, le_nm, le_mn, le_mm, nI_add, nI_mull, nI_sub, nI_subn, nI_divl, nsm, qIn_nI, Nat.zero_le, Nat.not_lt_zero, Nat.reduceAdd, Nat.reduceMul, Nat.reduceSub, Nat.reduceDiv, Nat.reduceMod, Nat.reduceEqDiff, Nat.reduceLeDiff, Nat.reduceLT, Nat.add_zero, Nat.zero_add, not_false_eq_true, not_true_eq_false, true_and, and_true, Option.toList_some, Option.toList_none, List.cons_append, List.nil_append, qrf, if_true, if_false, if_pos, if_neg, reduceIte, ne_eq, Classical.not_not]
          exact hQ
  · have h1' : isC T (nI f) = false := by rw [isC_nI (by omega)]; exact decide_eq_false (fun z => h1 z.2)
    rw [decide_eq_false h1] at hQ
    simp at hQ
    simp (disch := omega) only [x171_49, x171_50, x171_52, x171_55, x171_103, x171_104, c_mcell hB hm hwf, h1', hk, ↓nm_1, ↓nm_2, ↓nm_3, ↓nm_4, ↓nm_11, ↓nm_12, ↓nm_13, ↓nm_14, ↓nm_100, nl_0, nl_1, nl_2, nl_3, nl_4, nl_5, nl_6, nl_7, nl_8, nl_9, nl_10, nl_11, nl_12, nl_13, nl_14, nl_15, nl_16, nl_17, nl_18, nl_19, nl_20, nl_22, nl_23, nl_24, nl_25, nl_30, nl_31, nl_34, nl_35, nl_40, nl_43, nl_46, nl_47, nl_48, nl_49, nl_50, nl_57, nl_58, nl_59, nl_63, nl_64, nl_94, nl_97, nl_98, nl_99, nl_100, nl_101, nl_102, nl_105, nl_108, nl_110, nl_111, nl_112, nl_113, nl_114, nl_115, nl_116, nl_117, nl_118, nl_119, nl_124, nl_126, nl_138, nl_140, nl_255, nl_720, nl_1024, nl_9999, nl_99999, nl_999999, nl_1000000, eq_self, Bool.false_eq_true, Bool.true_and, Bool.and_true, Bool.false_and, Bool.and_false, Bool.not_true, Bool.not_false, nI_toInt, or_true, true_or, or_false, false_or, nI_clamp, nI_leI, nI_ltI, nI_eq, e_nm, e_mn, e_mm, l_nm, l_mn, l_mm, le_nm, le_mn, le_mm, nI_add, nI_mull, nI_sub, nI_subn, nI_divl, nsm, qIn_nI, Nat.zero_le, Nat.not_lt_zero, Nat.reduceAdd, Nat.reduceMul, Nat.reduceSub, Nat.reduceDiv, Nat.reduceMod, Nat.reduceEqDiff, Nat.reduceLeDiff, Nat.reduceLT, Nat.add_zero, Nat.zero_add, not_false_eq_true, not_true_eq_false, true_and, and_true, Option.toList_some, Option.toList_none, List.cons_append, List.nil_append, qrf, if_true, if_false, if_pos, if_neg, reduceIte, ne_eq, Classical.not_not]
    exact hQ
theorem c_lay_out {p : Nat} {g : Value} (hB : qBM σ) (hwf : wfT N T) (hp : p < T 115) : ∀ (n f : Nat) (C : Nat → Nat) (mb : Bool) (μ : qMu) (l5 l6 l7 : Value), f + n = 64 → qMA μ 302 T → mCo μ C → okC C → (∀ (μ' : qMu) (l5 l6 l7 : Value), cfr3 μ μ' → mCo μ' (swC (lanT T p) (16 * f) (16 * n) C) → qEx (d + 4) 171 216 [] [.ref 297, .int (nI p), g, .int (nI (if (mb || chC (lanT T p) (16 * f) (16 * n) C) then 1 else 0)), .int (nI 64), l5, l6, l7] σ μ' la Q) → qEx (d + 4) 171 42 [] [.ref 297, .int (nI p), g, .int (nI (if mb then 1 else 0)), .int (nI f), l5, l6, l7] σ μ la Q := by
  have hk := mOk hB
  have h6 := hwf.1
  have hlt := lan_lt hwf hp
  intro n
  induction n with
  | zero =>
    intro f C mb μ l5 l6 l7 hfn hm hC hok hQ
    have : f = 64 := by omega
    subst this
    have e : (mb || chC (lanT T p) (16 * 64) (16 * 0) C) = mb := by show (mb || false) = mb; rw [Bool.or_false]
    rw [e] at hQ
    rw [x171_42]
    simp (disch := omega) only [x171_44, x171_46, ↓nm_1, ↓nm_2, ↓nm_3, ↓nm_4, ↓nm_11, ↓nm_12, ↓nm_13, ↓nm_14, ↓nm_100, nl_0, nl_1, nl_2, nl_3, nl_4, nl_5, nl_6, nl_7, nl_8, nl_9, nl_10, nl_11, nl_12, nl_13, nl_14, nl_15, nl_16, nl_17, nl_18, nl_19, nl_20, nl_22, nl_23, nl_24, nl_25, nl_30, nl_31, nl_34, nl_35, nl_40, nl_43, nl_46, nl_47, nl_48, nl_49, nl_50, nl_57, nl_58, nl_59, nl_63, nl_64, nl_94, nl_97, nl_98, nl_99, nl_100, nl_101, nl_102, nl_105, nl_108, nl_110, nl_111, nl_112, nl_113, nl_114, nl_115, nl_116, nl_117, nl_118, nl_119, nl_124, nl_126, nl_138, nl_140, nl_255, nl_720, nl_1024, nl_9999, nl_99999, nl_999999, nl_1000000, eq_self, Bool.false_eq_true, Bool.true_and, Bool.and_true, Bool.false_and, Bool.and_false, Bool.not_true, Bool.not_false, nI_toInt, or_true, true_or, or_false, false_or, nI_clamp, nI_leI, nI_ltI, nI_eq, e_nm, e_mn, e_mm, l_nm, l_mn, l_mm, le_nm, le_mn, le_mm, nI_add, nI_mull, nI_sub, nI_subn, nI_divl, nsm, qIn_nI, Nat.zero_le, Nat.not_lt_zero, Nat.reduceAdd, Nat.reduceMul, Nat.reduceSub, Nat.reduceDiv, Nat.reduceMod, Nat.reduceEqDiff, Nat.reduceLeDiff, Nat.reduceLT, Nat.add_zero, Nat.zero_add, not_false_eq_true, not_true_eq_false, true_and, and_true, Option.toList_some, Option.toList_none, List.cons_append, List.nil_append, qrf, if_true, if_false, if_pos, if_neg, reduceIte, ne_eq, Classical.not_not]
    exact hQ μ l5 l6 l7 (fun _ _ _ _ _ _ => rfl) hC
  | succ n ih =>
    intro f C mb μ l5 l6 l7 hfn hm hC hok hQ
    obtain ⟨s1, s2⟩ := sw_add (ln := lanT T p) 16 (16 * n) (16 * f) C
    rw [show 16 * (n + 1) = 16 + 16 * n by omega, s1, s2, show 16 * f + 16 = 16 * (f + 1) by omega] at hQ
    rw [x171_42]
    simp (disch := omega) only [x171_44, x171_46, ↓nm_1, ↓nm_2, ↓nm_3, ↓nm_4, ↓nm_11, ↓nm_12, ↓nm_13, ↓nm_14, ↓nm_100, nl_0, nl_1, nl_2, nl_3, nl_4, nl_5, nl_6, nl_7, nl_8, nl_9, nl_10, nl_11, nl_12, nl_13, nl_14, nl_15, nl_16, nl_17, nl_18, nl_19, nl_20, nl_22, nl_23, nl_24, nl_25, nl_30, nl_31, nl_34, nl_35, nl_40, nl_43, nl_46, nl_47, nl_48, nl_49, nl_50, nl_57, nl_58, nl_59, nl_63, nl_64, nl_94, nl_97, nl_98, nl_99, nl_100, nl_101, nl_102, nl_105, nl_108, nl_110, nl_111, nl_112, nl_113, nl_114, nl_115, nl_116, nl_117, nl_118, nl_119, nl_124, nl_126, nl_138, nl_140, nl_255, nl_720, nl_1024, nl_9999, nl_99999, nl_999999, nl_1000000, eq_self, Bool.false_eq_true, Bool.true_and, Bool.and_true, Bool.false_and, Bool.and_false, Bool.not_true, Bool.not_false, nI_toInt, or_true, true_or, or_false, false_or, nI_clamp, nI_leI, nI_ltI, nI_eq, e_nm, e_mn, e_mm, l_nm, l_mn, l_mm, le_nm, le_mn, le_mm, nI_add, nI_mull, nI_sub, nI_subn, nI_divl, nsm, qIn_nI, Nat.zero_le, Nat.not_lt_zero, Nat.reduceAdd, Nat.reduceMul, Nat.reduceSub, Nat.reduceDiv, Nat.reduceMod, Nat.reduceEqDiff, Nat.reduceLeDiff, Nat.reduceLT, Nat.add_zero, Nat.zero_add, not_false_eq_true, not_true_eq_false, true_and, and_true, Option.toList_some, Option.toList_none, List.cons_append, List.nil_append, qrf, if_true, if_false, if_pos, if_neg, reduceIte, ne_eq, Classical.not_not]
    refine c_mcan hB hwf hp (by omega) hm ?_
    cases hf : frB T p f with
    | true =>
      simp (disch := omega) only [x171_106, x171_107, ↓nm_1, ↓nm_2, ↓nm_3, ↓nm_4, ↓nm_11, ↓nm_12, ↓nm_13, ↓nm_14, ↓nm_100, nl_0, nl_1, nl_2, nl_3, nl_4, nl_5, nl_6, nl_7, nl_8, nl_9, nl_10, nl_11, nl_12, nl_13, nl_14, nl_15, nl_16, nl_17, nl_18, nl_19, nl_20, nl_22, nl_23, nl_24, nl_25, nl_30, nl_31, nl_34, nl_35, nl_40, nl_43, nl_46, nl_47, nl_48, nl_49, nl_50, nl_57, nl_58, nl_59, nl_63, nl_64, nl_94, nl_97, nl_98, nl_99, nl_100, nl_101, nl_102, nl_105, nl_108, nl_110, nl_111, nl_112, nl_113, nl_114, nl_115, nl_116, nl_117, nl_118, nl_119, nl_124, nl_126, nl_138, nl_140, nl_255, nl_720, nl_1024, nl_9999, nl_99999, nl_999999, nl_1000000, eq_self, Bool.false_eq_true, Bool.true_and, Bool.and_true, Bool.false_and, Bool.and_false, Bool.not_true, Bool.not_false, nI_toInt, or_true, true_or, or_false, false_or, nI_clamp, nI_leI, nI_ltI, nI_eq, e_nm, e_mn, e_mm, l_nm, l_mn, l_mm, le_nm, le_mn, le_mm, nI_add, nI_mull, nI_sub, nI_subn, nI_divl, nsm, qIn_nI, Nat.zero_le, Nat.not_lt_zero, Nat.reduceAdd, Nat.reduceMul, Nat.reduceSub, Nat.reduceDiv, Nat.reduceMod, Nat.reduceEqDiff, Nat.reduceLeDiff, Nat.reduceLT, Nat.add_zero, Nat.zero_add, not_false_eq_true, not_true_eq_false, true_and, and_true, Option.toList_some, Option.toList_none, List.cons_append, List.nil_append, qrf, if_true, if_false, if_pos, if_neg, reduceIte, ne_eq, Classical.not_not]
      refine c_lay_in hB hwf hp hf (by omega) 16 0 C mb μ l7 (by omega) hm hC hok fun μ1 l7' hf1 hC1 => ?_
      rw [Nat.add_zero] at hC1 ⊢
      simp (disch := omega) only [x171_210, x171_213, ↓nm_1, ↓nm_2, ↓nm_3, ↓nm_4, ↓nm_11, ↓nm_12, ↓nm_13, ↓nm_14, ↓nm_100, nl_0, nl_1, nl_2, nl_3, nl_4, nl_5, nl_6, nl_7, nl_8, nl_9, nl_10, nl_11, nl_12, nl_13, nl_14, nl_15, nl_16, nl_17, nl_18, nl_19, nl_20, nl_22, nl_23, nl_24, nl_25, nl_30, nl_31, nl_34, nl_35, nl_40, nl_43, nl_46, nl_47, nl_48, nl_49, nl_50, nl_57, nl_58, nl_59, nl_63, nl_64, nl_94, nl_97, nl_98, nl_99, nl_100, nl_101, nl_102, nl_105, nl_108, nl_110, nl_111, nl_112, nl_113, nl_114, nl_115, nl_116, nl_117, nl_118, nl_119, nl_124, nl_126, nl_138, nl_140, nl_255, nl_720, nl_1024, nl_9999, nl_99999, nl_999999, nl_1000000, eq_self, Bool.false_eq_true, Bool.true_and, Bool.and_true, Bool.false_and, Bool.and_false, Bool.not_true, Bool.not_false, nI_toInt, or_true, true_or, or_false, false_or, nI_clamp, nI_leI, nI_ltI, nI_eq, e_nm, e_mn, e_mm, l_nm, l_mn, l_mm, le_nm, le_mn, le_mm, nI_add, nI_mull, nI_sub, nI_subn, nI_divl, nsm, qIn_nI, Nat.zero_le, Nat.not_lt_zero, Nat.reduceAdd, Nat.reduceMul, Nat.reduceSub, Nat.reduceDiv, Nat.reduceMod, Nat.reduceEqDiff, Nat.reduceLeDiff, Nat.reduceLT, Nat.add_zero, Nat.zero_add, not_false_eq_true, not_true_eq_false, true_and, and_true, Option.toList_some, Option.toList_none, List.cons_append, List.nil_append, qrf, if_true, if_false, if_pos, if_neg, reduceIte, ne_eq, Classical.not_not]
      rw [← Bool.or_assoc] at hQ
      exact ih (f + 1) _ (mb || chC (lanT T p) (16 * f) 16 C) μ1 _ _ l7' (by omega) (mFr_302 hm (cfr3_F hf1)) hC1 (ok_sw hlt 16 (16 * f) C (by omega) hok) fun μ' l5 l6 l7 hfr hc => hQ μ' l5 l6 l7 (cfr3_tr hf1 hfr) hc
    | false =>
      obtain ⟨e1, e2⟩ := sw_self (C := C) hf
      rw [e1, e2, Bool.false_or] at hQ
      simp (disch := omega) only [x171_106, x171_107, ↓nm_1, ↓nm_2, ↓nm_3, ↓nm_4, ↓nm_11, ↓nm_12, ↓nm_13, ↓nm_14, ↓nm_100, nl_0, nl_1, nl_2, nl_3, nl_4, nl_5, nl_6, nl_7, nl_8, nl_9, nl_10, nl_11, nl_12, nl_13, nl_14, nl_15, nl_16, nl_17, nl_18, nl_19, nl_20, nl_22, nl_23, nl_24, nl_25, nl_30, nl_31, nl_34, nl_35, nl_40, nl_43, nl_46, nl_47, nl_48, nl_49, nl_50, nl_57, nl_58, nl_59, nl_63, nl_64, nl_94, nl_97, nl_98, nl_99, nl_100, nl_101, nl_102, nl_105, nl_108, nl_110, nl_111, nl_112, nl_113, nl_114, nl_115, nl_116, nl_117, nl_118, nl_119, nl_124, nl_126, nl_138, nl_140, nl_255, nl_720, nl_1024, nl_9999, nl_99999, nl_999999, nl_1000000, eq_self, Bool.false_eq_true, Bool.true_and, Bool.and_true, Bool.false_and, Bool.and_false, Bool.not_true, Bool.not_false, nI_toInt, or_true, true_or, or_false, false_or, nI_clamp, nI_leI, nI_ltI, nI_eq, e_nm, e_mn, e_mm, l_nm, l_mn, l_mm, le_nm, le_mn, le_mm, nI_add, nI_mull, nI_sub, nI_subn, nI_divl, nsm, qIn_nI, Nat.zero_le, Nat.not_lt_zero, Nat.reduceAdd, Nat.reduceMul, Nat.reduceSub, Nat.reduceDiv, Nat.reduceMod, Nat.reduceEqDiff, Nat.reduceLeDiff, Nat.reduceLT, Nat.add_zero, Nat.zero_add, not_false_eq_true, not_true_eq_false, true_and, and_true, Option.toList_some, Option.toList_none, List.cons_append, List.nil_append, qrf, if_true, if_false, if_pos, if_neg, reduceIte, ne_eq, Classical.not_not]
      rw [x171_109]
      simp (disch := omega) only [x171_111, x171_113, x171_116, x171_118, x171_210, x171_213, ↓nm_1, ↓nm_2, ↓nm_3, ↓nm_4, ↓nm_11, ↓nm_12, ↓nm_13, ↓nm_14, ↓nm_100, nl_0, nl_1, nl_2, nl_3, nl_4, nl_5, nl_6, nl_7, nl_8, nl_9, nl_10, nl_11, nl_12, nl_13, nl_14, nl_15, nl_16, nl_17, nl_18, nl_19, nl_20, nl_22, nl_23, nl_24, nl_25, nl_30, nl_31, nl_34, nl_35, nl_40, nl_43, nl_46, nl_47, nl_48, nl_49, nl_50, nl_57, nl_58, nl_59, nl_63, nl_64, nl_94, nl_97, nl_98, nl_99, nl_100, nl_101, nl_102, nl_105, nl_108, nl_110, nl_111, nl_112, nl_113, nl_114, nl_115, nl_116, nl_117, nl_118, nl_119, nl_124, nl_126, nl_138, nl_140, nl_255, nl_720, nl_1024, nl_9999, nl_99999, nl_999999, nl_1000000, eq_self, Bool.false_eq_true, Bool.true_and, Bool.and_true, Bool.false_and, Bool.and_false, Bool.not_true, Bool.not_false, nI_toInt, or_true, true_or, or_false, false_or, nI_clamp, nI_leI, nI_ltI, nI_eq, e_nm, e_mn, e_mm, l_nm, l_mn, l_mm, le_nm, le_mn, le_mm, nI_add, nI_mull, nI_sub, nI_subn, nI_divl, nsm, qIn_nI, Nat.zero_le, Nat.not_lt_zero, Nat.reduceAdd, Nat.reduceMul, Nat.reduceSub, Nat.reduceDiv, Nat.reduceMod, Nat.reduceEqDiff, Nat.reduceLeDiff, Nat.reduceLT, Nat.add_zero, Nat.zero_add, not_false_eq_true, not_true_eq_false, true_and, and_true, Option.toList_some, Option.toList_none, List.cons_append, List.nil_append, qrf, if_true, if_false, if_pos, if_neg, reduceIte, ne_eq, Classical.not_not]
      exact ih (f + 1) C mb μ _ _ l7 (by omega) hm hC hok hQ
theorem c_lay_while {p g : Nat} (hB : qBM σ) (hwf : wfT N T) (hp : p < T 115) (hg : g < 64) : ∀ (n r : Nat) (μ : qMu) (l4 l5 l6 l7 : Value), r + n = 63 → qMA μ 302 T → mCo μ (itC (lanT T p) g r) → (∀ μ' : qMu, cfr3 μ μ' → mCo μ' (cosT T p g) → Q none σ μ' la) → qEx (d + 4) 171 33 [] [.ref 297, .int (nI p), .int (nI g), .int (nI 1), l4, l5, l6, l7] σ μ la Q := by
  have hlt := lan_lt hwf hp
  intro n
  induction n with
  | zero =>
    intro r μ l4 l5 l6 l7 hrn hm hC hQ
    have : r = 63 := by omega
    subst this
    rw [x171_33]
    simp (disch := omega) only [x171_34, x171_37, x171_38, x171_39, x171_40, ↓nm_1, ↓nm_2, ↓nm_3, ↓nm_4, ↓nm_11, ↓nm_12, ↓nm_13, ↓nm_14, ↓nm_100, nl_0, nl_1, nl_2, nl_3, nl_4, nl_5, nl_6, nl_7, nl_8, nl_9, nl_10, nl_11, nl_12, nl_13, nl_14, nl_15, nl_16, nl_17, nl_18, nl_19, nl_20, nl_22, nl_23, nl_24, nl_25, nl_30, nl_31, nl_34, nl_35, nl_40, nl_43, nl_46, nl_47, nl_48, nl_49, nl_50, nl_57, nl_58, nl_59, nl_63, nl_64, nl_94, nl_97, nl_98, nl_99, nl_100, nl_101, nl_102, nl_105, nl_108, nl_110, nl_111, nl_112, nl_113, nl_114, nl_115, nl_116, nl_117, nl_118, nl_119, nl_124, nl_126, nl_138, nl_140, nl_255, nl_720, nl_1024, nl_9999, nl_99999, nl_999999, nl_1000000, eq_self, Bool.false_eq_true, Bool.true_and, Bool.and_true, Bool.false_and, Bool.and_false, Bool.not_true, Bool.not_false, nI_toInt, or_true, true_or, or_false, false_or, nI_clamp, nI_leI, nI_ltI, nI_eq, e_nm, e_mn, e_mm, l_nm, l_mn, l_mm, le_nm, le_mn, le_mm, nI_add, nI_mull, nI_sub, nI_subn, nI_divl, nsm, qIn_nI, Nat.zero_le, Nat.not_lt_zero, Nat.reduceAdd, Nat.reduceMul, Nat.reduceSub, Nat.reduceDiv, Nat.reduceMod, Nat.reduceEqDiff, Nat.reduceLeDiff, Nat.reduceLT, Nat.add_zero, Nat.zero_add, not_false_eq_true, not_true_eq_false, true_and, and_true, Option.toList_some, Option.toList_none, List.cons_append, List.nil_append, qrf, if_true, if_false, if_pos, if_neg, reduceIte, ne_eq, Classical.not_not]
    have := c_lay_out (d := d) (Q := Q) (la := la) (g := .int (nI g)) hB hwf hp 64 0 (itC (lanT T p) g 63) false μ l5 l6 l7 (by omega) hm hC (ok_it hg hlt 63) fun μ1 l5 l6 l7 hf1 hC1 => by
      have hs := it_stop hg hlt
      have e : chC (lanT T p) (16 * 0) (16 * 64) (itC (lanT T p) g 63) = false := hs
      rw [e]
      simp (disch := omega) only [x171_216, Bool.or_self, ↓nm_1, ↓nm_2, ↓nm_3, ↓nm_4, ↓nm_11, ↓nm_12, ↓nm_13, ↓nm_14, ↓nm_100, nl_0, nl_1, nl_2, nl_3, nl_4, nl_5, nl_6, nl_7, nl_8, nl_9, nl_10, nl_11, nl_12, nl_13, nl_14, nl_15, nl_16, nl_17, nl_18, nl_19, nl_20, nl_22, nl_23, nl_24, nl_25, nl_30, nl_31, nl_34, nl_35, nl_40, nl_43, nl_46, nl_47, nl_48, nl_49, nl_50, nl_57, nl_58, nl_59, nl_63, nl_64, nl_94, nl_97, nl_98, nl_99, nl_100, nl_101, nl_102, nl_105, nl_108, nl_110, nl_111, nl_112, nl_113, nl_114, nl_115, nl_116, nl_117, nl_118, nl_119, nl_124, nl_126, nl_138, nl_140, nl_255, nl_720, nl_1024, nl_9999, nl_99999, nl_999999, nl_1000000, eq_self, Bool.false_eq_true, Bool.true_and, Bool.and_true, Bool.false_and, Bool.and_false, Bool.not_true, Bool.not_false, nI_toInt, or_true, true_or, or_false, false_or, nI_clamp, nI_leI, nI_ltI, nI_eq, e_nm, e_mn, e_mm, l_nm, l_mn, l_mm, le_nm, le_mn, le_mm, nI_add, nI_mull, nI_sub, nI_subn, nI_divl, nsm, qIn_nI, Nat.zero_le, Nat.not_lt_zero, Nat.reduceAdd, Nat.reduceMul, Nat.reduceSub, Nat.reduceDiv, Nat.reduceMod, Nat.reduceEqDiff, Nat.reduceLeDiff, Nat.reduceLT, Nat.add_zero, Nat.zero_add, not_false_eq_true, not_true_eq_false, true_and, and_true, Option.toList_some, Option.toList_none, List.cons_append, List.nil_append, qrf, if_true, if_false, if_pos, if_neg, reduceIte, ne_eq, Classical.not_not]
      rw [x171_33]
      simp (disch := omega) only [x171_34, x171_219, ↓nm_1, ↓nm_2, ↓nm_3, ↓nm_4, ↓nm_11, ↓nm_12, ↓nm_13, ↓nm_14, ↓nm_100, nl_0, nl_1, nl_2, nl_3, nl_4, nl_5, nl_6, nl_7, nl_8, nl_9, nl_10, nl_11, nl_12, nl_13, nl_14, nl_15, nl_16, nl_17, nl_18, nl_19, nl_20, nl_22, nl_23, nl_24, nl_25, nl_30, nl_31, nl_34, nl_35, nl_40, nl_43, nl_46, nl_47, nl_48, nl_49, nl_50, nl_57, nl_58, nl_59, nl_63, nl_64, nl_94, nl_97, nl_98, nl_99, nl_100, nl_101, nl_102, nl_105, nl_108, nl_110, nl_111, nl_112, nl_113, nl_114, nl_115, nl_116, nl_117, nl_118, nl_119, nl_124, nl_126, nl_138, nl_140, nl_255, nl_720, nl_1024, nl_9999, nl_99999, nl_999999, nl_1000000, eq_self, Bool.false_eq_true, Bool.true_and, Bool.and_true, Bool.false_and, Bool.and_false, Bool.not_true, Bool.not_false, nI_toInt, or_true, true_or, or_false, false_or, nI_clamp, nI_leI, nI_ltI, nI_eq, e_nm, e_mn, e_mm, l_nm, l_mn, l_mm, le_nm, le_mn, le_mm, nI_add, nI_mull, nI_sub, nI_subn, nI_divl, nsm, qIn_nI, Nat.zero_le, Nat.not_lt_zero, Nat.reduceAdd, Nat.reduceMul, Nat.reduceSub, Nat.reduceDiv, Nat.reduceMod, Nat.reduceEqDiff, Nat.reduceLeDiff, Nat.reduceLT, Nat.add_zero, Nat.zero_add, not_false_eq_true, not_true_eq_false, true_and, and_true, Option.toList_some, Option.toList_none, List.cons_append, List.nil_append, qrf, if_true, if_false, if_pos, if_neg, reduceIte, ne_eq, Classical.not_not]
      exact hQ μ1 hf1 hC1
    exact this
  | succ n ih =>
    intro r μ l4 l5 l6 l7 hrn hm hC hQ
    rw [x171_33]
    simp (disch := omega) only [x171_34, x171_37, x171_38, x171_39, x171_40, ↓nm_1, ↓nm_2, ↓nm_3, ↓nm_4, ↓nm_11, ↓nm_12, ↓nm_13, ↓nm_14, ↓nm_100, nl_0, nl_1, nl_2, nl_3, nl_4, nl_5, nl_6, nl_7, nl_8, nl_9, nl_10, nl_11, nl_12, nl_13, nl_14, nl_15, nl_16, nl_17, nl_18, nl_19, nl_20, nl_22, nl_23, nl_24, nl_25, nl_30, nl_31, nl_34, nl_35, nl_40, nl_43, nl_46, nl_47, nl_48, nl_49, nl_50, nl_57, nl_58, nl_59, nl_63, nl_64, nl_94, nl_97, nl_98, nl_99, nl_100, nl_101, nl_102, nl_105, nl_108, nl_110, nl_111, nl_112, nl_113, nl_114, nl_115, nl_116, nl_117, nl_118, nl_119, nl_124, nl_126, nl_138, nl_140, nl_255, nl_720, nl_1024, nl_9999, nl_99999, nl_999999, nl_1000000, eq_self, Bool.false_eq_true, Bool.true_and, Bool.and_true, Bool.false_and, Bool.and_false, Bool.not_true, Bool.not_false, nI_toInt, or_true, true_or, or_false, false_or, nI_clamp, nI_leI, nI_ltI, nI_eq, e_nm, e_mn, e_mm, l_nm, l_mn, l_mm, le_nm, le_mn, le_mm, nI_add, nI_mull, nI_sub, nI_subn, nI_divl, nsm, qIn_nI, Nat.zero_le, Nat.not_lt_zero, Nat.reduceAdd, Nat.reduceMul, Nat.reduceSub, Nat.reduceDiv, Nat.reduceMod, Nat.reduceEqDiff, Nat.reduceLeDiff, Nat.reduceLT, Nat.add_zero, Nat.zero_add, not_false_eq_true, not_true_eq_false, true_and, and_true, Option.toList_some, Option.toList_none, List.cons_append, List.nil_append, qrf, if_true, if_false, if_pos, if_neg, reduceIte, ne_eq, Classical.not_not]
    have := c_lay_out (d := d) (Q := Q) (la := la) (g := .int (nI g)) hB hwf hp 64 0 (itC (lanT T p) g r) false μ l5 l6 l7 (by omega) hm hC (ok_it hg hlt r) fun μ1 l5 l6 l7 hf1 hC1 => by
      have hC1' : mCo μ1 (itC (lanT T p) g (r + 1)) := hC1
      cases hs : chC (lanT T p) 0 1024 (itC (lanT T p) g r) with
      | false =>
        simp (disch := omega) only [x171_216, Bool.or_self, ↓nm_1, ↓nm_2, ↓nm_3, ↓nm_4, ↓nm_11, ↓nm_12, ↓nm_13, ↓nm_14, ↓nm_100, nl_0, nl_1, nl_2, nl_3, nl_4, nl_5, nl_6, nl_7, nl_8, nl_9, nl_10, nl_11, nl_12, nl_13, nl_14, nl_15, nl_16, nl_17, nl_18, nl_19, nl_20, nl_22, nl_23, nl_24, nl_25, nl_30, nl_31, nl_34, nl_35, nl_40, nl_43, nl_46, nl_47, nl_48, nl_49, nl_50, nl_57, nl_58, nl_59, nl_63, nl_64, nl_94, nl_97, nl_98, nl_99, nl_100, nl_101, nl_102, nl_105, nl_108, nl_110, nl_111, nl_112, nl_113, nl_114, nl_115, nl_116, nl_117, nl_118, nl_119, nl_124, nl_126, nl_138, nl_140, nl_255, nl_720, nl_1024, nl_9999, nl_99999, nl_999999, nl_1000000, eq_self, Bool.false_eq_true, Bool.true_and, Bool.and_true, Bool.false_and, Bool.and_false, Bool.not_true, Bool.not_false, nI_toInt, or_true, true_or, or_false, false_or, nI_clamp, nI_leI, nI_ltI, nI_eq, e_nm, e_mn, e_mm, l_nm, l_mn, l_mm, le_nm, le_mn, le_mm, nI_add, nI_mull, nI_sub, nI_subn, nI_divl, nsm, qIn_nI, Nat.zero_le, Nat.not_lt_zero, Nat.reduceAdd, Nat.reduceMul, Nat.reduceSub, Nat.reduceDiv, Nat.reduceMod, Nat.reduceEqDiff, Nat.reduceLeDiff, Nat.reduceLT, Nat.add_zero, Nat.zero_add, not_false_eq_true, not_true_eq_false, true_and, and_true, Option.toList_some, Option.toList_none, List.cons_append, List.nil_append, qrf, if_true, if_false, if_pos, if_neg, reduceIte, ne_eq, Classical.not_not]
        rw [x171_33]
        simp (disch := omega) only [x171_34, x171_219, ↓nm_1, ↓nm_2, ↓nm_3, ↓nm_4, ↓nm_11, ↓nm_12, ↓nm_13, ↓nm_14, ↓nm_100, nl_0, nl_1, nl_2, nl_3, nl_4, nl_5, nl_6, nl_7, nl_8, nl_9, nl_10, nl_11, nl_12, nl_13, nl_14, nl_15, nl_16, nl_17, nl_18, nl_19, nl_20, nl_22, nl_23, nl_24, nl_25, nl_30, nl_31, nl_34, nl_35, nl_40, nl_43, nl_46, nl_47, nl_48, nl_49, nl_50, nl_57, nl_58, nl_59, nl_63, nl_64, nl_94, nl_97, nl_98, nl_99, nl_100, nl_101, nl_102, nl_105, nl_108, nl_110, nl_111, nl_112, nl_113, nl_114, nl_115, nl_116, nl_117, nl_118, nl_119, nl_124, nl_126, nl_138, nl_140, nl_255, nl_720, nl_1024, nl_9999, nl_99999, nl_999999, nl_1000000, eq_self, Bool.false_eq_true, Bool.true_and, Bool.and_true, Bool.false_and, Bool.and_false, Bool.not_true, Bool.not_false, nI_toInt, or_true, true_or, or_false, false_or, nI_clamp, nI_leI, nI_ltI, nI_eq, e_nm, e_mn, e_mm, l_nm, l_mn, l_mm, le_nm, le_mn, le_mm, nI_add, nI_mull, nI_sub, nI_subn, nI_divl, nsm, qIn_nI, Nat.zero_le, Nat.not_lt_zero, Nat.reduceAdd, Nat.reduceMul, Nat.reduceSub, Nat.reduceDiv, Nat.reduceMod, Nat.reduceEqDiff, Nat.reduceLeDiff, Nat.reduceLT, Nat.add_zero, Nat.zero_add, not_false_eq_true, not_true_eq_false, true_and, and_true, Option.toList_some, Option.toList_none, List.cons_append, List.nil_append, qrf, if_true, if_false, if_pos, if_neg, reduceIte, ne_eq, Classical.not_not]
        have e1 := it_fix hs 1
        have e2 := it_fix hs (64 - r)
        rw [show r + (64 - r) = 64 by omega] at e2
        refine hQ μ1 hf1 ?_
        unfold cosT
        rw [e2, ← e1]
        exact hC1'
      | true =>
        simp (disch := omega) only [x171_216, Bool.or_true, ↓nm_1, ↓nm_2, ↓nm_3, ↓nm_4, ↓nm_11, ↓nm_12, ↓nm_13, ↓nm_14, ↓nm_100, nl_0, nl_1, nl_2, nl_3, nl_4, nl_5, nl_6, nl_7, nl_8, nl_9, nl_10, nl_11, nl_12, nl_13, nl_14, nl_15, nl_16, nl_17, nl_18, nl_19, nl_20, nl_22, nl_23, nl_24, nl_25, nl_30, nl_31, nl_34, nl_35, nl_40, nl_43, nl_46, nl_47, nl_48, nl_49, nl_50, nl_57, nl_58, nl_59, nl_63, nl_64, nl_94, nl_97, nl_98, nl_99, nl_100, nl_101, nl_102, nl_105, nl_108, nl_110, nl_111, nl_112, nl_113, nl_114, nl_115, nl_116, nl_117, nl_118, nl_119, nl_124, nl_126, nl_138, nl_140, nl_255, nl_720, nl_1024, nl_9999, nl_99999, nl_999999, nl_1000000, eq_self, Bool.false_eq_true, Bool.true_and, Bool.and_true, Bool.false_and, Bool.and_false, Bool.not_true, Bool.not_false, nI_toInt, or_true, true_or, or_false, false_or, nI_clamp, nI_leI, nI_ltI, nI_eq, e_nm, e_mn, e_mm, l_nm, l_mn, l_mm, le_nm, le_mn, le_mm, nI_add, nI_mull, nI_sub, nI_subn, nI_divl, nsm, qIn_nI, Nat.zero_le, Nat.not_lt_zero, Nat.reduceAdd, Nat.reduceMul, Nat.reduceSub, Nat.reduceDiv, Nat.reduceMod, Nat.reduceEqDiff, Nat.reduceLeDiff, Nat.reduceLT, Nat.add_zero, Nat.zero_add, not_false_eq_true, not_true_eq_false, true_and, and_true, Option.toList_some, Option.toList_none, List.cons_append, List.nil_append, qrf, if_true, if_false, if_pos, if_neg, reduceIte, ne_eq, Classical.not_not]
        exact ih (r + 1) μ1 _ _ _ _ (by omega) (mFr_302 hm (cfr3_F hf1)) hC1' fun μ' hfr hc => hQ μ' (cfr3_tr hf1 hfr) hc
    exact this
theorem c_lay_init {p g : Nat} {l4 l5 l6 l7 : Value} (hB : qBM σ) (hg : g < 64) : ∀ (n k : Nat) (μ : qMu), k + n = 64 → (∀ i, i < k → μ 313 i = nI (mvT (zC g i))) → (∀ μ' : qMu, (∀ c, ¬ c = 313 → μ' c = μ c) → mCo μ' (zC g) → qEx d 171 31 [] [.ref 297, .int (nI p), .int (nI g), .int (nI 64), l4, l5, l6, l7] σ μ' la Q) → qEx d 171 2 [] [.ref 297, .int (nI p), .int (nI g), .int (nI k), l4, l5, l6, l7] σ μ la Q := by
  have hk := mOk hB
  obtain ⟨r0, r1, r2, r4, r6, r7, r8, r9, r10, r11, r12, r14, r19, r20, r21, r24, r25⟩ := mR hB
  have hA : qArr σ 313 64 := (mArr hB).2.2.2.2.2.2.2.2.2.2.2.2
  have hL : qLen σ 10 313 = 64 := (qaI (μ := fun _ _ => 0) hA).2.1
  intro n
  induction n with
  | zero =>
    intro k μ hkn hC hQ
    have : k = 64 := by omega
    subst this
    rw [x171_2]
    simp (disch := omega) only [x171_3, x171_5, ↓nm_1, ↓nm_2, ↓nm_3, ↓nm_4, ↓nm_11, ↓nm_12, ↓nm_13, ↓nm_14, ↓nm_100, nl_0, nl_1, nl_2, nl_3, nl_4, nl_5, nl_6, nl_7, nl_8, nl_9, nl_10, nl_11, nl_12, nl_13, nl_14, nl_15, nl_16, nl_17, nl_18, nl_19, nl_20, nl_22, nl_23, nl_24, nl_25, nl_30, nl_31, nl_34, nl_35, nl_40, nl_43, nl_46, nl_47, nl_48, nl_49, nl_50, nl_57, nl_58, nl_59, nl_63, nl_64, nl_94, nl_97, nl_98, nl_99, nl_100, nl_101, nl_102, nl_105, nl_108, nl_110, nl_111, nl_112, nl_113, nl_114, nl_115, nl_116, nl_117, nl_118, nl_119, nl_124, nl_126, nl_138, nl_140, nl_255, nl_720, nl_1024, nl_9999, nl_99999, nl_999999, nl_1000000, eq_self, Bool.false_eq_true, Bool.true_and, Bool.and_true, Bool.false_and, Bool.and_false, Bool.not_true, Bool.not_false, nI_toInt, or_true, true_or, or_false, false_or, nI_clamp, nI_leI, nI_ltI, nI_eq, e_nm, e_mn, e_mm, l_nm, l_mn, l_mm, le_nm, le_mn, le_mm, nI_add, nI_mull, nI_sub, nI_subn, nI_divl, nsm, qIn_nI, Nat.zero_le, Nat.not_lt_zero, Nat.reduceAdd, Nat.reduceMul, Nat.reduceSub, Nat.reduceDiv, Nat.reduceMod, Nat.reduceEqDiff, Nat.reduceLeDiff, Nat.reduceLT, Nat.add_zero, Nat.zero_add, not_false_eq_true, not_true_eq_false, true_and, and_true, Option.toList_some, Option.toList_none, List.cons_append, List.nil_append, qrf, if_true, if_false, if_pos, if_neg, reduceIte, ne_eq, Classical.not_not]
    exact hQ μ (fun _ _ => rfl) hC
  | succ n ih =>
    intro k μ hkn hC hQ
    rw [x171_2]
    have next := fun v : Nat => fun hv : v = mvT (zC g k) => ih (k + 1) (qset μ 313 k (nI v)) (by omega) (fun i hi => by
      by_cases hik : i = k
      · subst hik; rw [qset_s, hv]
      · rw [qset_k hik]; exact hC i (by omega)) fun μ' hf hc => hQ μ' (fun c h => (hf c h).trans (qset_ne h)) hc
    by_cases hkg : k = g
    · simp (disch := omega) only [x171_3, x171_5, x171_8, x171_9, x171_12, x171_13, x171_14, x171_15, x171_18, x171_19, x171_22, x171_24, x171_25, x171_28, hk, r24, hL, ↓nm_1, ↓nm_2, ↓nm_3, ↓nm_4, ↓nm_11, ↓nm_12, ↓nm_13, ↓nm_14, ↓nm_100, nl_0, nl_1, nl_2, nl_3, nl_4, nl_5, nl_6, nl_7, nl_8, nl_9, nl_10, nl_11, nl_12, nl_13, nl_14, nl_15, nl_16, nl_17, nl_18, nl_19, nl_20, nl_22, nl_23, nl_24, nl_25, nl_30, nl_31, nl_34, nl_35, nl_40, nl_43, nl_46, nl_47, nl_48, nl_49, nl_50, nl_57, nl_58, nl_59, nl_63, nl_64, nl_94, nl_97, nl_98, nl_99, nl_100, nl_101, nl_102, nl_105, nl_108, nl_110, nl_111, nl_112, nl_113, nl_114, nl_115, nl_116, nl_117, nl_118, nl_119, nl_124, nl_126, nl_138, nl_140, nl_255, nl_720, nl_1024, nl_9999, nl_99999, nl_999999, nl_1000000, eq_self, Bool.false_eq_true, Bool.true_and, Bool.and_true, Bool.false_and, Bool.and_false, Bool.not_true, Bool.not_false, nI_toInt, or_true, true_or, or_false, false_or, nI_clamp, nI_leI, nI_ltI, nI_eq, e_nm, e_mn, e_mm, l_nm, l_mn, l_mm, le_nm, le_mn, le_mm, nI_add, nI_mull, nI_sub, nI_subn, nI_divl, nsm, qIn_nI, Nat.zero_le, Nat.not_lt_zero, Nat.reduceAdd, Nat.reduceMul, Nat.reduceSub, Nat.reduceDiv, Nat.reduceMod, Nat.reduceEqDiff, Nat.reduceLeDiff, Nat.reduceLT, Nat.add_zero, Nat.zero_add, not_false_eq_true, not_true_eq_false, true_and, and_true, Option.toList_some, Option.toList_none, List.cons_append, List.nil_append, qrf, if_true, if_false, if_pos, if_neg, reduceIte, ne_eq, Classical.not_not]
      exact next 0 (by unfold zC mvT; rw [if_pos hkg]; rfl)
    · simp (disch := omega) only [x171_3, x171_5, x171_8, x171_9, x171_12, x171_13, x171_14, x171_15, x171_18, x171_19, x171_22, x171_24, x171_25, x171_28, hk, r24, hL, ↓nm_1, ↓nm_2, ↓nm_3, ↓nm_4, ↓nm_11, ↓nm_12, ↓nm_13, ↓nm_14, ↓nm_100, nl_0, nl_1, nl_2, nl_3, nl_4, nl_5, nl_6, nl_7, nl_8, nl_9, nl_10, nl_11, nl_12, nl_13, nl_14, nl_15, nl_16, nl_17, nl_18, nl_19, nl_20, nl_22, nl_23, nl_24, nl_25, nl_30, nl_31, nl_34, nl_35, nl_40, nl_43, nl_46, nl_47, nl_48, nl_49, nl_50, nl_57, nl_58, nl_59, nl_63, nl_64, nl_94, nl_97, nl_98, nl_99, nl_100, nl_101, nl_102, nl_105, nl_108, nl_110, nl_111, nl_112, nl_113, nl_114, nl_115, nl_116, nl_117, nl_118, nl_119, nl_124, nl_126, nl_138, nl_140, nl_255, nl_720, nl_1024, nl_9999, nl_99999, nl_999999, nl_1000000, eq_self, Bool.false_eq_true, Bool.true_and, Bool.and_true, Bool.false_and, Bool.and_false, Bool.not_true, Bool.not_false, nI_toInt, or_true, true_or, or_false, false_or, nI_clamp, nI_leI, nI_ltI, nI_eq, e_nm, e_mn, e_mm, l_nm, l_mn, l_mm, le_nm, le_mn, le_mm, nI_add, nI_mull, nI_sub, nI_subn, nI_divl, nsm, qIn_nI, Nat.zero_le, Nat.not_lt_zero, Nat.reduceAdd, Nat.reduceMul, Nat.reduceSub, Nat.reduceDiv, Nat.reduceMod, Nat.reduceEqDiff, Nat.reduceLeDiff, Nat.reduceLT, Nat.add_zero, Nat.zero_add, not_false_eq_true, not_true_eq_false, true_and, and_true, Option.toList_some, Option.toList_none, List.cons_append, List.nil_append, qrf, if_true, if_false, if_pos, if_neg, reduceIte, ne_eq, Classical.not_not]
      exact next 99999 (by unfold zC mvT; rw [if_neg hkg]; rfl)
theorem c_lay {p g : Nat} (hB : qBM σ) (hwf : wfT N T) (hp : p < T 115) (hg : g < 64) (hm : qMA μ 302 T) (hQ : ∀ μ' : qMu, cfr3 μ μ' → mCo μ' (cosT T p g) → Q none σ μ' la) : qEx (d + 4) 171 0 [] [.ref 297, .int (nI p), .int (nI g), .retAddr 0, .retAddr 0, .retAddr 0, .retAddr 0, .retAddr 0] σ μ la Q := by
  simp (disch := omega) only [x171_0, x171_1, ↓nm_1, ↓nm_2, ↓nm_3, ↓nm_4, ↓nm_11, ↓nm_12, ↓nm_13, ↓nm_14, ↓nm_100, nl_0, nl_1, nl_2, nl_3, nl_4, nl_5, nl_6, nl_7, nl_8, nl_9, nl_10, nl_11, nl_12, nl_13, nl_14, nl_15, nl_16, nl_17, nl_18, nl_19, nl_20, nl_22, nl_23, nl_24, nl_25, nl_30, nl_31, nl_34, nl_35, nl_40, nl_43, nl_46, nl_47, nl_48, nl_49, nl_50, nl_57, nl_58, nl_59, nl_63, nl_64, nl_94, nl_97, nl_98, nl_99, nl_100, nl_101, nl_102, nl_105, nl_108, nl_110, nl_111, nl_112, nl_113, nl_114, nl_115, nl_116, nl_117, nl_118, nl_119, nl_124, nl_126, nl_138, nl_140, nl_255, nl_720, nl_1024, nl_9999, nl_99999, nl_999999, nl_1000000, eq_self, Bool.false_eq_true, Bool.true_and, Bool.and_true, Bool.false_and, Bool.and_false, Bool.not_true, Bool.not_false, nI_toInt, or_true, true_or, or_false, false_or, nI_clamp, nI_leI, nI_ltI, nI_eq, e_nm, e_mn, e_mm, l_nm, l_mn, l_mm, le_nm, le_mn, le_mm, nI_add, nI_mull, nI_sub, nI_subn, nI_divl, nsm, qIn_nI, Nat.zero_le, Nat.not_lt_zero, Nat.reduceAdd, Nat.reduceMul, Nat.reduceSub, Nat.reduceDiv, Nat.reduceMod, Nat.reduceEqDiff, Nat.reduceLeDiff, Nat.reduceLT, Nat.add_zero, Nat.zero_add, not_false_eq_true, not_true_eq_false, true_and, and_true, Option.toList_some, Option.toList_none, List.cons_append, List.nil_append, qrf, if_true, if_false, if_pos, if_neg, reduceIte, ne_eq, Classical.not_not]
  refine c_lay_init hB hg 64 0 μ (by omega) (fun i hi => absurd hi (Nat.not_lt_zero _)) fun μ1 hf1 hC1 => ?_
  simp (disch := omega) only [x171_31, x171_32, ↓nm_1, ↓nm_2, ↓nm_3, ↓nm_4, ↓nm_11, ↓nm_12, ↓nm_13, ↓nm_14, ↓nm_100, nl_0, nl_1, nl_2, nl_3, nl_4, nl_5, nl_6, nl_7, nl_8, nl_9, nl_10, nl_11, nl_12, nl_13, nl_14, nl_15, nl_16, nl_17, nl_18, nl_19, nl_20, nl_22, nl_23, nl_24, nl_25, nl_30, nl_31, nl_34, nl_35, nl_40, nl_43, nl_46, nl_47, nl_48, nl_49, nl_50, nl_57, nl_58, nl_59, nl_63, nl_64, nl_94, nl_97, nl_98, nl_99, nl_100, nl_101, nl_102, nl_105, nl_108, nl_110, nl_111, nl_112, nl_113, nl_114, nl_115, nl_116, nl_117, nl_118, nl_119, nl_124, nl_126, nl_138, nl_140, nl_255, nl_720, nl_1024, nl_9999, nl_99999, nl_999999, nl_1000000, eq_self, Bool.false_eq_true, Bool.true_and, Bool.and_true, Bool.false_and, Bool.and_false, Bool.not_true, Bool.not_false, nI_toInt, or_true, true_or, or_false, false_or, nI_clamp, nI_leI, nI_ltI, nI_eq, e_nm, e_mn, e_mm, l_nm, l_mn, l_mm, le_nm, le_mn, le_mm, nI_add, nI_mull, nI_sub, nI_subn, nI_divl, nsm, qIn_nI, Nat.zero_le, Nat.not_lt_zero, Nat.reduceAdd, Nat.reduceMul, Nat.reduceSub, Nat.reduceDiv, Nat.reduceMod, Nat.reduceEqDiff, Nat.reduceLeDiff, Nat.reduceLT, Nat.add_zero, Nat.zero_add, not_false_eq_true, not_true_eq_false, true_and, and_true, Option.toList_some, Option.toList_none, List.cons_append, List.nil_append, qrf, if_true, if_false, if_pos, if_neg, reduceIte, ne_eq, Classical.not_not]
  exact c_lay_while hB hwf hp hg 63 0 μ1 _ _ _ _ (by omega) (qMA_fr hm fun x => by rw [hf1 302 (by decide)]) hC1 fun μ' hf hc => hQ μ' (cfr3_tr (fun c x _ _ z _ => by rw [hf1 c z]) hf) hc
theorem m0m1 : nI 0 + mI 1 = mI 1 := by decide
set_option maxHeartbeats 2000000 in
theorem c_mfw_loop {p g : Nat} {w l7 : Value} (hB : qBM σ) (hwf : wfT N T) (hp : p < T 115) (hg : g < 64) (hs64 : T (1 + p) < 64) (hfr : frB T p (T (1 + p)) = true) (hfin : cosT T p g (T (1 + p)) < 1000000) (hpos : 0 < cosT T p g (T (1 + p))) : ∀ (k : Nat) (μ : qMu) (l7 : Value), k ≤ 16 → qMA μ 302 T → mCo μ (cosT T p g) → (∀ μ' : qMu, cfr3 μ μ' → Q (some (.int (fwI T p g 0 16))) σ μ' la) → qEx (d + 4) 172 78 [] [.ref 297, .int (nI p), .int (nI g), w, .int (nI (T (1 + p))), .int (fwI T p g k (16 - k)), .int (if k = 0 then mI 1 else nI (k - 1)), l7] σ μ la Q := by
  have hk := mOk hB
  obtain ⟨r0, r1, r2, r4, r6, r7, r8, r9, r10, r11, r12, r14, r19, r20, r21, r24, r25⟩ := mR hB
  have hA : qArr σ 313 64 := (mArr hB).2.2.2.2.2.2.2.2.2.2.2.2
  have hI : ∀ μ : qMu, qIld σ μ 313 = 64 := fun μ => (qaI (μ := μ) hA).1
  have hlt := lan_lt hwf hp
  have hok := ok_it hg hlt 64
  intro k
  induction k with
  | zero =>
    intro μ l7 _ hm hC hQ
    rw [x172_78]
    simp (disch := omega) only [x172_80, x172_160, x172_162, ↓nm_1, ↓nm_2, ↓nm_3, ↓nm_4, ↓nm_11, ↓nm_12, ↓nm_13, ↓nm_14, ↓nm_100, nl_0, nl_1, nl_2, nl_3, nl_4, nl_5, nl_6, nl_7, nl_8, nl_9, nl_10, nl_11, nl_12, nl_13, nl_14, nl_15, nl_16, nl_17, nl_18, nl_19, nl_20, nl_22, nl_23, nl_24, nl_25, nl_30, nl_31, nl_34, nl_35, nl_40, nl_43, nl_46, nl_47, nl_48, nl_49, nl_50, nl_57, nl_58, nl_59, nl_63, nl_64, nl_94, nl_97, nl_98, nl_99, nl_100, nl_101, nl_102, nl_105, nl_108, nl_110, nl_111, nl_112, nl_113, nl_114, nl_115, nl_116, nl_117, nl_118, nl_119, nl_124, nl_126, nl_138, nl_140, nl_255, nl_720, nl_1024, nl_9999, nl_99999, nl_999999, nl_1000000, eq_self, Bool.false_eq_true, Bool.true_and, Bool.and_true, Bool.false_and, Bool.and_false, Bool.not_true, Bool.not_false, nI_toInt, or_true, true_or, or_false, false_or, nI_clamp, nI_leI, nI_ltI, nI_eq, e_nm, e_mn, e_mm, l_nm, l_mn, l_mm, le_nm, le_mn, le_mm, nI_add, nI_mull, nI_sub, nI_subn, nI_divl, nsm, qIn_nI, Nat.zero_le, Nat.not_lt_zero, Nat.reduceAdd, Nat.reduceMul, Nat.reduceSub, Nat.reduceDiv, Nat.reduceMod, Nat.reduceEqDiff, Nat.reduceLeDiff, Nat.reduceLT, Nat.add_zero, Nat.zero_add, not_false_eq_true, not_true_eq_false, true_and, and_true, Option.toList_some, Option.toList_none, List.cons_append, List.nil_append, qrf, if_true, if_false, if_pos, if_neg, reduceIte, ne_eq, Classical.not_not]
    exact hQ μ (fun _ _ _ _ _ _ => rfl)
  | succ k ih =>
    intro μ l7 hk16 hm hC hQ
    have h6 := hwf.1
    have hlk := hlt (16 * T (1 + p) + k) (by omega)
    have hfi := fine_b (k := k % 4)
    have c0 := hC (T (1 + p)) hs64
    have hmv0 : mvT (cosT T p g (T (1 + p))) = cosT T p g (T (1 + p)) := by unfold mvT; rw [if_pos hfin]
    rw [hmv0] at c0
    rw [x172_78]
    simp (disch := omega) only [x172_80, x172_83, x172_84, x172_87, x172_89, x172_90, x172_93, x172_94, x172_97, x172_98, x172_99, x172_101, x172_103, x172_104, x172_105, x172_107, x172_108, x172_109, hk, r24, hI, c0, Nat.add_sub_cancel, ↓nm_1, ↓nm_2, ↓nm_3, ↓nm_4, ↓nm_11, ↓nm_12, ↓nm_13, ↓nm_14, ↓nm_100, nl_0, nl_1, nl_2, nl_3, nl_4, nl_5, nl_6, nl_7, nl_8, nl_9, nl_10, nl_11, nl_12, nl_13, nl_14, nl_15, nl_16, nl_17, nl_18, nl_19, nl_20, nl_22, nl_23, nl_24, nl_25, nl_30, nl_31, nl_34, nl_35, nl_40, nl_43, nl_46, nl_47, nl_48, nl_49, nl_50, nl_57, nl_58, nl_59, nl_63, nl_64, nl_94, nl_97, nl_98, nl_99, nl_100, nl_101, nl_102, nl_105, nl_108, nl_110, nl_111, nl_112, nl_113, nl_114, nl_115, nl_116, nl_117, nl_118, nl_119, nl_124, nl_126, nl_138, nl_140, nl_255, nl_720, nl_1024, nl_9999, nl_99999, nl_999999, nl_1000000, eq_self, Bool.false_eq_true, Bool.true_and, Bool.and_true, Bool.false_and, Bool.and_false, Bool.not_true, Bool.not_false, nI_toInt, or_true, true_or, or_false, false_or, nI_clamp, nI_leI, nI_ltI, nI_eq, e_nm, e_mn, e_mm, l_nm, l_mn, l_mm, le_nm, le_mn, le_mm, nI_add, nI_mull, nI_sub, nI_subn, nI_divl, nsm, qIn_nI, Nat.zero_le, Nat.not_lt_zero, Nat.reduceAdd, Nat.reduceMul, Nat.reduceSub, Nat.reduceDiv, Nat.reduceMod, Nat.reduceEqDiff, Nat.reduceLeDiff, Nat.reduceLT, Nat.add_zero, Nat.zero_add, not_false_eq_true, not_true_eq_false, true_and, and_true, Option.toList_some, Option.toList_none, List.cons_append, List.nil_append, qrf, if_true, if_false, if_pos, if_neg, reduceIte, ne_eq, Classical.not_not]
    refine c_comes hB hwf hp hfr hs64 (by omega) hm fun μ1 hf1 => ?_
    have hC1 := mCo_fr hC hf1
    have c1 := hC1 _ hlk
    have c2 := hC1 _ hs64
    rw [hmv0] at c2
    have oka := ok_le hok hlk
    have okb := ok_le hok hs64
    have b1 := mv_le (a := cosT T p g (lanT T p (16 * T (1 + p) + k)))
    have hm1 : qMA μ1 302 T := qMA_fr hm fun x => hf1 302 x (by decide) (by decide) (by omega)
    have hfw : fwI T p g k (16 - k) = if fineT (k % 4) + cosT T p g (lanT T p (16 * T (1 + p) + k)) = cosT T p g (T (1 + p)) then nI (10 * (k / 4) + k % 4) else fwI T p g (k + 1) (16 - (k + 1)) := by
      rw [show 16 - k = (16 - (k + 1)) + 1 by omega]; rfl
    have next := fun l7 : Value => ih μ1 l7 (by omega) hm1 hC1 fun μ' hf => hQ μ' (cfr3_tr (cfr_3 hf1) hf)
    rw [hfw] at next
    have hmeq : (mvT (cosT T p g (lanT T p (16 * T (1 + p) + k))) + fineT (k % 4) = cosT T p g (T (1 + p))) ↔ (fineT (k % 4) + cosT T p g (lanT T p (16 * T (1 + p) + k)) = cosT T p g (T (1 + p))) := by
      have oka : cosT T p g (lanT T p (16 * T (1 + p) + k)) = 1000000 ∨ cosT T p g (lanT T p (16 * T (1 + p) + k)) ≤ 1890 := oka
      have okb : cosT T p g (T (1 + p)) = 1000000 ∨ cosT T p g (T (1 + p)) ≤ 1890 := okb
      unfold mvT
      split <;> omega
    have hdec : (nI k + mI 1) = (if k = 0 then mI 1 else nI (k - 1)) := by
      by_cases h : k = 0
      · subst h; rw [if_pos rfl, m0m1]
      · rw [if_neg h, nI_addm (by omega)]
    by_cases he : fineT (k % 4) + cosT T p g (lanT T p (16 * T (1 + p) + k)) = cosT T p g (T (1 + p))
    · rw [if_pos he] at next
      have he' := hmeq.mpr he
      simp (disch := omega) only [x172_112, x172_113, x172_115, x172_116, x172_117, x172_120, x172_121, x172_123, x172_125, x172_126, x172_129, x172_131, x172_132, x172_135, x172_137, x172_139, x172_140, x172_141, x172_142, x172_144, x172_145, x172_146, x172_147, x172_150, x172_152, x172_154, x172_157, hk, r24, hI, c1, c2, c_mfor (show k % 4 < 4 by omega), hdec, he', ↓nm_1, ↓nm_2, ↓nm_3, ↓nm_4, ↓nm_11, ↓nm_12, ↓nm_13, ↓nm_14, ↓nm_100, nl_0, nl_1, nl_2, nl_3, nl_4, nl_5, nl_6, nl_7, nl_8, nl_9, nl_10, nl_11, nl_12, nl_13, nl_14, nl_15, nl_16, nl_17, nl_18, nl_19, nl_20, nl_22, nl_23, nl_24, nl_25, nl_30, nl_31, nl_34, nl_35, nl_40, nl_43, nl_46, nl_47, nl_48, nl_49, nl_50, nl_57, nl_58, nl_59, nl_63, nl_64, nl_94, nl_97, nl_98, nl_99, nl_100, nl_101, nl_102, nl_105, nl_108, nl_110, nl_111, nl_112, nl_113, nl_114, nl_115, nl_116, nl_117, nl_118, nl_119, nl_124, nl_126, nl_138, nl_140, nl_255, nl_720, nl_1024, nl_9999, nl_99999, nl_999999, nl_1000000, eq_self, Bool.false_eq_true, Bool.true_and, Bool.and_true, Bool.false_and, Bool.and_false, Bool.not_true, Bool.not_false, nI_toInt, or_true, true_or, or_false, false_or, nI_clamp, nI_leI, nI_ltI, nI_eq, e_nm, e_mn, e_mm, l_nm, l_mn, l_mm, le_nm, le_mn, le_mm, nI_add, nI_mull, nI_sub, nI_subn, nI_divl, nsm, qIn_nI, Nat.zero_le, Nat.not_lt_zero, Nat.reduceAdd, Nat.reduceMul, Nat.reduceSub, Nat.reduceDiv, Nat.reduceMod, Nat.reduceEqDiff, Nat.reduceLeDiff, Nat.reduceLT, Nat.add_zero, Nat.zero_add, not_false_eq_true, not_true_eq_false, true_and, and_true, Option.toList_some, Option.toList_none, List.cons_append, List.nil_append, qrf, if_true, if_false, if_pos, if_neg, reduceIte, ne_eq, Classical.not_not]
      exact next _
    · rw [if_neg he] at next
      have he' : ¬ mvT (cosT T p g (lanT T p (16 * T (1 + p) + k))) + fineT (k % 4) = cosT T p g (T (1 + p)) := fun z => he (hmeq.mp z)
      simp (disch := omega) only [x172_112, x172_113, x172_115, x172_116, x172_117, x172_120, x172_121, x172_123, x172_125, x172_126, x172_129, x172_131, x172_132, x172_150, x172_152, x172_154, x172_157, hk, r24, hI, c1, c2, c_mfor (show k % 4 < 4 by omega), hdec, he', ↓nm_1, ↓nm_2, ↓nm_3, ↓nm_4, ↓nm_11, ↓nm_12, ↓nm_13, ↓nm_14, ↓nm_100, nl_0, nl_1, nl_2, nl_3, nl_4, nl_5, nl_6, nl_7, nl_8, nl_9, nl_10, nl_11, nl_12, nl_13, nl_14, nl_15, nl_16, nl_17, nl_18, nl_19, nl_20, nl_22, nl_23, nl_24, nl_25, nl_30, nl_31, nl_34, nl_35, nl_40, nl_43, nl_46, nl_47, nl_48, nl_49, nl_50, nl_57, nl_58, nl_59, nl_63, nl_64, nl_94, nl_97, nl_98, nl_99, nl_100, nl_101, nl_102, nl_105, nl_108, nl_110, nl_111, nl_112, nl_113, nl_114, nl_115, nl_116, nl_117, nl_118, nl_119, nl_124, nl_126, nl_138, nl_140, nl_255, nl_720, nl_1024, nl_9999, nl_99999, nl_999999, nl_1000000, eq_self, Bool.false_eq_true, Bool.true_and, Bool.and_true, Bool.false_and, Bool.and_false, Bool.not_true, Bool.not_false, nI_toInt, or_true, true_or, or_false, false_or, nI_clamp, nI_leI, nI_ltI, nI_eq, e_nm, e_mn, e_mm, l_nm, l_mn, l_mm, le_nm, le_mn, le_mm, nI_add, nI_mull, nI_sub, nI_subn, nI_divl, nsm, qIn_nI, Nat.zero_le, Nat.not_lt_zero, Nat.reduceAdd, Nat.reduceMul, Nat.reduceSub, Nat.reduceDiv, Nat.reduceMod, Nat.reduceEqDiff, Nat.reduceLeDiff, Nat.reduceLT, Nat.add_zero, Nat.zero_add, not_false_eq_true, not_true_eq_false, true_and, and_true, Option.toList_some, Option.toList_none, List.cons_append, List.nil_append, qrf, if_true, if_false, if_pos, if_neg, reduceIte, ne_eq, Classical.not_not]
      exact next _
theorem it_g {ln : Nat → Nat} {g : Nat} : ∀ r, itC ln g r g = 0 := by
  intro r
  induction r with
  | zero => show zC g g = 0; unfold zC; rw [if_pos rfl]
  | succ r ih =>
    have := swC_le (ln := ln) 1024 0 (itC ln g r) g
    show swC ln 0 1024 (itC ln g r) g = 0
    omega
set_option maxHeartbeats 2000000 in
theorem m_crime (hP : SimP N (b, T, as, im, sh)) (hS : SimM (b, T, as, im, sh) σ μ la) (hQ : ∀ μ' : qMu, mFr μ μ' → Q (some (.int (aCrime T x y z))) σ μ' la) : qEx (d + 10) 172 0 [] [.ref 297, .int x, .int y, .int z, .retAddr 0, .retAddr 0, .retAddr 0, .retAddr 0] σ μ la Q := by
  obtain ⟨hB, ht, hm, ha, hi, hs⟩ := hS
  have hm : qMA μ 302 T := hm
  have hwf : wfT N T := hP.2.2.1.1
  have hk := mOk hB
  have h6 := hwf.1
  obtain ⟨r0, r1, r2, r4, r6, r7, r8, r9, r10, r11, r12, r14, r19, r20, r21, r24, r25⟩ := mR hB
  have hA : qArr σ 313 64 := (mArr hB).2.2.2.2.2.2.2.2.2.2.2.2
  have hI : ∀ μ : qMu, qIld σ μ 313 = 64 := fun μ => (qaI (μ := μ) hA).1
  have hI2 : ∀ μ : qMu, qIld σ μ 302 = 124 := fun μ => (mI302 (μ := μ) hB).1
  unfold aCrime at hQ
  cases h1 : isR x (T 115) with
  | false =>
    simp [h1] at hQ
    simp (disch := omega) only [x172_0, x172_1, x172_2, x172_5, x172_25, x172_26, c_mone hB hm h6, h1, hk, ↓nm_1, ↓nm_2, ↓nm_3, ↓nm_4, ↓nm_11, ↓nm_12, ↓nm_13, ↓nm_14, ↓nm_100, nl_0, nl_1, nl_2, nl_3, nl_4, nl_5, nl_6, nl_7, nl_8, nl_9, nl_10, nl_11, nl_12, nl_13, nl_14, nl_15, nl_16, nl_17, nl_18, nl_19, nl_20, nl_22, nl_23, nl_24, nl_25, nl_30, nl_31, nl_34, nl_35, nl_40, nl_43, nl_46, nl_47, nl_48, nl_49, nl_50, nl_57, nl_58, nl_59, nl_63, nl_64, nl_94, nl_97, nl_98, nl_99, nl_100, nl_101, nl_102, nl_105, nl_108, nl_110, nl_111, nl_112, nl_113, nl_114, nl_115, nl_116, nl_117, nl_118, nl_119, nl_124, nl_126, nl_138, nl_140, nl_255, nl_720, nl_1024, nl_9999, nl_99999, nl_999999, nl_1000000, eq_self, Bool.false_eq_true, Bool.true_and, Bool.and_true, Bool.false_and, Bool.and_false, Bool.not_true, Bool.not_false, nI_toInt, or_true, true_or, or_false, false_or, nI_clamp, nI_leI, nI_ltI, nI_eq, e_nm, e_mn, e_mm, l_nm, l_mn, l_mm, le_nm, le_mn, le_mm, nI_add, nI_mull, nI_sub, nI_subn, nI_divl, nsm, qIn_nI, Nat.zero_le, Nat.not_lt_zero, Nat.reduceAdd, Nat.reduceMul, Nat.reduceSub, Nat.reduceDiv, Nat.reduceMod, Nat.reduceEqDiff, Nat.reduceLeDiff, Nat.reduceLT, Nat.add_zero, Nat.zero_add, not_false_eq_true, not_true_eq_false, true_and, and_true, Option.toList_some, Option.toList_none, List.cons_append, List.nil_append, qrf, if_true, if_false, if_pos, if_neg, reduceIte, ne_eq, Classical.not_not]
    exact hQ μ mFr_rf
  | true =>
    cases h2 : isC T y with
    | false =>
      simp [h1, h2] at hQ
      simp (disch := omega) only [x172_0, x172_1, x172_2, x172_5, x172_8, x172_9, x172_10, x172_13, x172_25, x172_26, c_mone hB hm h6, c_mcell hB hm hwf, h1, h2, hk, ↓nm_1, ↓nm_2, ↓nm_3, ↓nm_4, ↓nm_11, ↓nm_12, ↓nm_13, ↓nm_14, ↓nm_100, nl_0, nl_1, nl_2, nl_3, nl_4, nl_5, nl_6, nl_7, nl_8, nl_9, nl_10, nl_11, nl_12, nl_13, nl_14, nl_15, nl_16, nl_17, nl_18, nl_19, nl_20, nl_22, nl_23, nl_24, nl_25, nl_30, nl_31, nl_34, nl_35, nl_40, nl_43, nl_46, nl_47, nl_48, nl_49, nl_50, nl_57, nl_58, nl_59, nl_63, nl_64, nl_94, nl_97, nl_98, nl_99, nl_100, nl_101, nl_102, nl_105, nl_108, nl_110, nl_111, nl_112, nl_113, nl_114, nl_115, nl_116, nl_117, nl_118, nl_119, nl_124, nl_126, nl_138, nl_140, nl_255, nl_720, nl_1024, nl_9999, nl_99999, nl_999999, nl_1000000, eq_self, Bool.false_eq_true, Bool.true_and, Bool.and_true, Bool.false_and, Bool.and_false, Bool.not_true, Bool.not_false, nI_toInt, or_true, true_or, or_false, false_or, nI_clamp, nI_leI, nI_ltI, nI_eq, e_nm, e_mn, e_mm, l_nm, l_mn, l_mm, le_nm, le_mn, le_mm, nI_add, nI_mull, nI_sub, nI_subn, nI_divl, nsm, qIn_nI, Nat.zero_le, Nat.not_lt_zero, Nat.reduceAdd, Nat.reduceMul, Nat.reduceSub, Nat.reduceDiv, Nat.reduceMod, Nat.reduceEqDiff, Nat.reduceLeDiff, Nat.reduceLT, Nat.add_zero, Nat.zero_add, not_false_eq_true, not_true_eq_false, true_and, and_true, Option.toList_some, Option.toList_none, List.cons_append, List.nil_append, qrf, if_true, if_false, if_pos, if_neg, reduceIte, ne_eq, Classical.not_not]
      exact hQ μ mFr_rf
    | true =>
      cases h3 : isR z 2 with
      | false =>
        simp [h1, h2, h3] at hQ
        simp (disch := omega) only [x172_0, x172_1, x172_2, x172_5, x172_8, x172_9, x172_10, x172_13, x172_16, x172_17, x172_18, x172_19, x172_22, x172_25, x172_26, c_mone hB hm h6, c_mcell hB hm hwf, c_inR, h1, h2, h3, hk, ↓nm_1, ↓nm_2, ↓nm_3, ↓nm_4, ↓nm_11, ↓nm_12, ↓nm_13, ↓nm_14, ↓nm_100, nl_0, nl_1, nl_2, nl_3, nl_4, nl_5, nl_6, nl_7, nl_8, nl_9, nl_10, nl_11, nl_12, nl_13, nl_14, nl_15, nl_16, nl_17, nl_18, nl_19, nl_20, nl_22, nl_23, nl_24, nl_25, nl_30, nl_31, nl_34, nl_35, nl_40, nl_43, nl_46, nl_47, nl_48, nl_49, nl_50, nl_57, nl_58, nl_59, nl_63, nl_64, nl_94, nl_97, nl_98, nl_99, nl_100, nl_101, nl_102, nl_105, nl_108, nl_110, nl_111, nl_112, nl_113, nl_114, nl_115, nl_116, nl_117, nl_118, nl_119, nl_124, nl_126, nl_138, nl_140, nl_255, nl_720, nl_1024, nl_9999, nl_99999, nl_999999, nl_1000000, eq_self, Bool.false_eq_true, Bool.true_and, Bool.and_true, Bool.false_and, Bool.and_false, Bool.not_true, Bool.not_false, nI_toInt, or_true, true_or, or_false, false_or, nI_clamp, nI_leI, nI_ltI, nI_eq, e_nm, e_mn, e_mm, l_nm, l_mn, l_mm, le_nm, le_mn, le_mm, nI_add, nI_mull, nI_sub, nI_subn, nI_divl, nsm, qIn_nI, Nat.zero_le, Nat.not_lt_zero, Nat.reduceAdd, Nat.reduceMul, Nat.reduceSub, Nat.reduceDiv, Nat.reduceMod, Nat.reduceEqDiff, Nat.reduceLeDiff, Nat.reduceLT, Nat.add_zero, Nat.zero_add, not_false_eq_true, not_true_eq_false, true_and, and_true, Option.toList_some, Option.toList_none, List.cons_append, List.nil_append, qrf, if_true, if_false, if_pos, if_neg, reduceIte, ne_eq, Classical.not_not]
        exact hQ μ mFr_rf
      | true =>
        obtain ⟨p, hp, rfl⟩ := isR_ex h1 (by omega)
        obtain ⟨g, hg, hin, rfl⟩ := isC_ex h2
        obtain ⟨w, hw2, rfl⟩ := isR_ex h3 (by omega)
        simp only [h1, h2, h3, if_true, nn_nI (show p < 2 ^ 31 by omega), nn_nI (show g < 2 ^ 31 by omega), nn_nI (show w < 2 ^ 31 by omega)] at hQ
        have hps := (hwf.2.2.2.2.2.2.2.1 p hp).2.1
        have hs64 := inT_lt hwf hps
        have hlt := lan_lt hwf hp
        have hok := ok_le (ok_it (ln := lanT T p) hg hlt 64) hs64
        simp (disch := omega) only [x172_0, x172_1, x172_2, x172_5, x172_8, x172_9, x172_10, x172_13, x172_16, x172_17, x172_18, x172_19, x172_22, x172_27, x172_28, x172_29, x172_30, c_mone hB hm h6, c_mcell hB hm hwf, c_inR, h1, h2, h3, hk, ↓nm_1, ↓nm_2, ↓nm_3, ↓nm_4, ↓nm_11, ↓nm_12, ↓nm_13, ↓nm_14, ↓nm_100, nl_0, nl_1, nl_2, nl_3, nl_4, nl_5, nl_6, nl_7, nl_8, nl_9, nl_10, nl_11, nl_12, nl_13, nl_14, nl_15, nl_16, nl_17, nl_18, nl_19, nl_20, nl_22, nl_23, nl_24, nl_25, nl_30, nl_31, nl_34, nl_35, nl_40, nl_43, nl_46, nl_47, nl_48, nl_49, nl_50, nl_57, nl_58, nl_59, nl_63, nl_64, nl_94, nl_97, nl_98, nl_99, nl_100, nl_101, nl_102, nl_105, nl_108, nl_110, nl_111, nl_112, nl_113, nl_114, nl_115, nl_116, nl_117, nl_118, nl_119, nl_124, nl_126, nl_138, nl_140, nl_255, nl_720, nl_1024, nl_9999, nl_99999, nl_999999, nl_1000000, eq_self, Bool.false_eq_true, Bool.true_and, Bool.and_true, Bool.false_and, Bool.and_false, Bool.not_true, Bool.not_false, nI_toInt, or_true, true_or, or_false, false_or, nI_clamp, nI_leI, nI_ltI, nI_eq, e_nm, e_mn, e_mm, l_nm, l_mn, l_mm, le_nm, le_mn, le_mm, nI_add, nI_mull, nI_sub, nI_subn, nI_divl, nsm, qIn_nI, Nat.zero_le, Nat.not_lt_zero, Nat.reduceAdd, Nat.reduceMul, Nat.reduceSub, Nat.reduceDiv, Nat.reduceMod, Nat.reduceEqDiff, Nat.reduceLeDiff, Nat.reduceLT, Nat.add_zero, Nat.zero_add, not_false_eq_true, not_true_eq_false, true_and, and_true, Option.toList_some, Option.toList_none, List.cons_append, List.nil_append, qrf, if_true, if_false, if_pos, if_neg, reduceIte, ne_eq, Classical.not_not]
        refine c_lay hB hwf hp hg hm fun μ1 hf1 hC1 => ?_
        have hm1 := mFr_302 hm (cfr3_F hf1)
        have c0 := hC1 (T (1 + p)) hs64
        have hQ1 := hQ μ1 (cfr3_F hf1)
        unfold crimeV at hQ hQ1
        by_cases hst : T (1 + p) = g
        · rw [if_pos hst] at hQ1
          have h0 : cosT T p g (T (1 + p)) = 0 := by rw [hst]; exact it_g 64
          rw [h0] at c0
          have e0 : mvT 0 = 0 := rfl
          rw [e0] at c0
          by_cases hw0 : w = 0
          · subst hw0
            rw [if_pos rfl] at hQ1
            simp (disch := omega) only [x172_33, x172_34, x172_37, x172_38, x172_39, x172_40, x172_41, x172_43, x172_44, x172_47, x172_49, x172_50, x172_52, x172_58, x172_59, x172_62, x172_63, x172_66, x172_68, x172_69, hk, r6, r24, hI, hI2, hm1 (1 + p), c0, ↓nm_1, ↓nm_2, ↓nm_3, ↓nm_4, ↓nm_11, ↓nm_12, ↓nm_13, ↓nm_14, ↓nm_100, nl_0, nl_1, nl_2, nl_3, nl_4, nl_5, nl_6, nl_7, nl_8, nl_9, nl_10, nl_11, nl_12, nl_13, nl_14, nl_15, nl_16, nl_17, nl_18, nl_19, nl_20, nl_22, nl_23, nl_24, nl_25, nl_30, nl_31, nl_34, nl_35, nl_40, nl_43, nl_46, nl_47, nl_48, nl_49, nl_50, nl_57, nl_58, nl_59, nl_63, nl_64, nl_94, nl_97, nl_98, nl_99, nl_100, nl_101, nl_102, nl_105, nl_108, nl_110, nl_111, nl_112, nl_113, nl_114, nl_115, nl_116, nl_117, nl_118, nl_119, nl_124, nl_126, nl_138, nl_140, nl_255, nl_720, nl_1024, nl_9999, nl_99999, nl_999999, nl_1000000, eq_self, Bool.false_eq_true, Bool.true_and, Bool.and_true, Bool.false_and, Bool.and_false, Bool.not_true, Bool.not_false, nI_toInt, or_true, true_or, or_false, false_or, nI_clamp, nI_leI, nI_ltI, nI_eq, e_nm, e_mn, e_mm, l_nm, l_mn, l_mm, le_nm, le_mn, le_mm, nI_add, nI_mull, nI_sub, nI_subn, nI_divl, nsm, qIn_nI, Nat.zero_le, Nat.not_lt_zero, Nat.reduceAdd, Nat.reduceMul, Nat.reduceSub, Nat.reduceDiv, Nat.reduceMod, Nat.reduceEqDiff, Nat.reduceLeDiff, Nat.reduceLT, Nat.add_zero, Nat.zero_add, not_false_eq_true, not_true_eq_false, true_and, and_true, Option.toList_some, Option.toList_none, List.cons_append, List.nil_append, qrf, if_true, if_false, if_pos, if_neg, reduceIte, ne_eq, Classical.not_not]
            exact hQ1
          · rw [if_neg hw0] at hQ1
            simp (disch := omega) only [x172_33, x172_34, x172_37, x172_38, x172_39, x172_40, x172_41, x172_43, x172_44, x172_47, x172_49, x172_50, x172_52, x172_58, x172_59, x172_70, x172_72, x172_74, x172_76, hk, r6, r24, hI, hI2, hm1 (1 + p), c0, ↓nm_1, ↓nm_2, ↓nm_3, ↓nm_4, ↓nm_11, ↓nm_12, ↓nm_13, ↓nm_14, ↓nm_100, nl_0, nl_1, nl_2, nl_3, nl_4, nl_5, nl_6, nl_7, nl_8, nl_9, nl_10, nl_11, nl_12, nl_13, nl_14, nl_15, nl_16, nl_17, nl_18, nl_19, nl_20, nl_22, nl_23, nl_24, nl_25, nl_30, nl_31, nl_34, nl_35, nl_40, nl_43, nl_46, nl_47, nl_48, nl_49, nl_50, nl_57, nl_58, nl_59, nl_63, nl_64, nl_94, nl_97, nl_98, nl_99, nl_100, nl_101, nl_102, nl_105, nl_108, nl_110, nl_111, nl_112, nl_113, nl_114, nl_115, nl_116, nl_117, nl_118, nl_119, nl_124, nl_126, nl_138, nl_140, nl_255, nl_720, nl_1024, nl_9999, nl_99999, nl_999999, nl_1000000, eq_self, Bool.false_eq_true, Bool.true_and, Bool.and_true, Bool.false_and, Bool.and_false, Bool.not_true, Bool.not_false, nI_toInt, or_true, true_or, or_false, false_or, nI_clamp, nI_leI, nI_ltI, nI_eq, e_nm, e_mn, e_mm, l_nm, l_mn, l_mm, le_nm, le_mn, le_mm, nI_add, nI_mull, nI_sub, nI_subn, nI_divl, nsm, qIn_nI, Nat.zero_le, Nat.not_lt_zero, Nat.reduceAdd, Nat.reduceMul, Nat.reduceSub, Nat.reduceDiv, Nat.reduceMod, Nat.reduceEqDiff, Nat.reduceLeDiff, Nat.reduceLT, Nat.add_zero, Nat.zero_add, not_false_eq_true, not_true_eq_false, true_and, and_true, Option.toList_some, Option.toList_none, List.cons_append, List.nil_append, qrf, if_true, if_false, if_pos, if_neg, reduceIte, ne_eq, Classical.not_not]
            rw [x172_78]
            simp (disch := omega) only [x172_80, x172_83, x172_84, x172_87, x172_89, x172_90, x172_160, x172_162, hk, r24, hI, c0, ↓nm_1, ↓nm_2, ↓nm_3, ↓nm_4, ↓nm_11, ↓nm_12, ↓nm_13, ↓nm_14, ↓nm_100, nl_0, nl_1, nl_2, nl_3, nl_4, nl_5, nl_6, nl_7, nl_8, nl_9, nl_10, nl_11, nl_12, nl_13, nl_14, nl_15, nl_16, nl_17, nl_18, nl_19, nl_20, nl_22, nl_23, nl_24, nl_25, nl_30, nl_31, nl_34, nl_35, nl_40, nl_43, nl_46, nl_47, nl_48, nl_49, nl_50, nl_57, nl_58, nl_59, nl_63, nl_64, nl_94, nl_97, nl_98, nl_99, nl_100, nl_101, nl_102, nl_105, nl_108, nl_110, nl_111, nl_112, nl_113, nl_114, nl_115, nl_116, nl_117, nl_118, nl_119, nl_124, nl_126, nl_138, nl_140, nl_255, nl_720, nl_1024, nl_9999, nl_99999, nl_999999, nl_1000000, eq_self, Bool.false_eq_true, Bool.true_and, Bool.and_true, Bool.false_and, Bool.and_false, Bool.not_true, Bool.not_false, nI_toInt, or_true, true_or, or_false, false_or, nI_clamp, nI_leI, nI_ltI, nI_eq, e_nm, e_mn, e_mm, l_nm, l_mn, l_mm, le_nm, le_mn, le_mm, nI_add, nI_mull, nI_sub, nI_subn, nI_divl, nsm, qIn_nI, Nat.zero_le, Nat.not_lt_zero, Nat.reduceAdd, Nat.reduceMul, Nat.reduceSub, Nat.reduceDiv, Nat.reduceMod, Nat.reduceEqDiff, Nat.reduceLeDiff, Nat.reduceLT, Nat.add_zero, Nat.zero_add, not_false_eq_true, not_true_eq_false, true_and, and_true, Option.toList_some, Option.toList_none, List.cons_append, List.nil_append, qrf, if_true, if_false, if_pos, if_neg, reduceIte, ne_eq, Classical.not_not]
            exact hQ1
        · rw [if_neg hst] at hQ1
          have hpos : 0 < cosT T p g (T (1 + p)) := it_0 hlt 64 _ hs64 hst
          by_cases hinf : cosT T p g (T (1 + p)) = 1000000
          · rw [if_pos hinf] at hQ1
            rw [hinf] at c0
            have e0 : mvT 1000000 = 99999 := rfl
            rw [e0] at c0
            simp (disch := omega) only [x172_33, x172_34, x172_37, x172_38, x172_39, x172_40, x172_41, x172_43, x172_44, x172_47, x172_49, x172_50, x172_52, x172_55, x172_57, hk, r6, r24, hI, hI2, hm1 (1 + p), c0, ↓nm_1, ↓nm_2, ↓nm_3, ↓nm_4, ↓nm_11, ↓nm_12, ↓nm_13, ↓nm_14, ↓nm_100, nl_0, nl_1, nl_2, nl_3, nl_4, nl_5, nl_6, nl_7, nl_8, nl_9, nl_10, nl_11, nl_12, nl_13, nl_14, nl_15, nl_16, nl_17, nl_18, nl_19, nl_20, nl_22, nl_23, nl_24, nl_25, nl_30, nl_31, nl_34, nl_35, nl_40, nl_43, nl_46, nl_47, nl_48, nl_49, nl_50, nl_57, nl_58, nl_59, nl_63, nl_64, nl_94, nl_97, nl_98, nl_99, nl_100, nl_101, nl_102, nl_105, nl_108, nl_110, nl_111, nl_112, nl_113, nl_114, nl_115, nl_116, nl_117, nl_118, nl_119, nl_124, nl_126, nl_138, nl_140, nl_255, nl_720, nl_1024, nl_9999, nl_99999, nl_999999, nl_1000000, eq_self, Bool.false_eq_true, Bool.true_and, Bool.and_true, Bool.false_and, Bool.and_false, Bool.not_true, Bool.not_false, nI_toInt, or_true, true_or, or_false, false_or, nI_clamp, nI_leI, nI_ltI, nI_eq, e_nm, e_mn, e_mm, l_nm, l_mn, l_mm, le_nm, le_mn, le_mm, nI_add, nI_mull, nI_sub, nI_subn, nI_divl, nsm, qIn_nI, Nat.zero_le, Nat.not_lt_zero, Nat.reduceAdd, Nat.reduceMul, Nat.reduceSub, Nat.reduceDiv, Nat.reduceMod, Nat.reduceEqDiff, Nat.reduceLeDiff, Nat.reduceLT, Nat.add_zero, Nat.zero_add, not_false_eq_true, not_true_eq_false, true_and, and_true, Option.toList_some, Option.toList_none, List.cons_append, List.nil_append, qrf, if_true, if_false, if_pos, if_neg, reduceIte, ne_eq, Classical.not_not]
            exact hQ1
          · rw [if_neg hinf] at hQ1
            have hfin : cosT T p g (T (1 + p)) ≤ 1890 := by
              rcases hok with h | h
              · exact absurd h hinf
              · exact h
            have hmv0 : mvT (cosT T p g (T (1 + p))) = cosT T p g (T (1 + p)) := by unfold mvT; rw [if_pos (by omega)]
            rw [hmv0] at c0
            by_cases hw0 : w = 0
            · subst hw0
              rw [if_pos rfl] at hQ1
              simp (disch := omega) only [x172_33, x172_34, x172_37, x172_38, x172_39, x172_40, x172_41, x172_43, x172_44, x172_47, x172_49, x172_50, x172_52, x172_58, x172_59, x172_62, x172_63, x172_66, x172_68, x172_69, hk, r6, r24, hI, hI2, hm1 (1 + p), c0, ↓nm_1, ↓nm_2, ↓nm_3, ↓nm_4, ↓nm_11, ↓nm_12, ↓nm_13, ↓nm_14, ↓nm_100, nl_0, nl_1, nl_2, nl_3, nl_4, nl_5, nl_6, nl_7, nl_8, nl_9, nl_10, nl_11, nl_12, nl_13, nl_14, nl_15, nl_16, nl_17, nl_18, nl_19, nl_20, nl_22, nl_23, nl_24, nl_25, nl_30, nl_31, nl_34, nl_35, nl_40, nl_43, nl_46, nl_47, nl_48, nl_49, nl_50, nl_57, nl_58, nl_59, nl_63, nl_64, nl_94, nl_97, nl_98, nl_99, nl_100, nl_101, nl_102, nl_105, nl_108, nl_110, nl_111, nl_112, nl_113, nl_114, nl_115, nl_116, nl_117, nl_118, nl_119, nl_124, nl_126, nl_138, nl_140, nl_255, nl_720, nl_1024, nl_9999, nl_99999, nl_999999, nl_1000000, eq_self, Bool.false_eq_true, Bool.true_and, Bool.and_true, Bool.false_and, Bool.and_false, Bool.not_true, Bool.not_false, nI_toInt, or_true, true_or, or_false, false_or, nI_clamp, nI_leI, nI_ltI, nI_eq, e_nm, e_mn, e_mm, l_nm, l_mn, l_mm, le_nm, le_mn, le_mm, nI_add, nI_mull, nI_sub, nI_subn, nI_divl, nsm, qIn_nI, Nat.zero_le, Nat.not_lt_zero, Nat.reduceAdd, Nat.reduceMul, Nat.reduceSub, Nat.reduceDiv, Nat.reduceMod, Nat.reduceEqDiff, Nat.reduceLeDiff, Nat.reduceLT, Nat.add_zero, Nat.zero_add, not_false_eq_true, not_true_eq_false, true_and, and_true, Option.toList_some, Option.toList_none, List.cons_append, List.nil_append, qrf, if_true, if_false, if_pos, if_neg, reduceIte, ne_eq, Classical.not_not]
              exact hQ1
            · rw [if_neg hst, if_neg hinf, if_neg hw0] at hQ
              have hfr : frB T p (T (1 + p)) = true := by
                cases hfb : frB T p (T (1 + p)) with
                | true => rfl
                | false =>
                  exfalso
                  -- a cell from which no walk leads stays without a cost
                  have key : ∀ r, itC (lanT T p) g r (T (1 + p)) = 1000000 := by
                    intro r
                    induction r with
                    | zero => show zC g _ = 1000000; unfold zC; rw [if_neg hst]
                    | succ r ihr =>
                      have gen : ∀ (n k : Nat) (C : Nat → Nat), k + n ≤ 1024 → C (T (1 + p)) = 1000000 → swC (lanT T p) k n C (T (1 + p)) = 1000000 := by
                        intro n
                        induction n with
                        | zero => intro k C _ h; exact h
                        | succ n ihn =>
                          intro k C hkn h
                          refine ihn (k + 1) _ (by omega) ?_
                          unfold stC
                          by_cases hk16 : k / 16 = T (1 + p)
                          · have : lanT T p k = k / 16 := by unfold lanT; rw [hk16, hfb]; simp
                            rw [if_neg (by rw [this]; omega)]
                            exact h
                          · by_cases hc : fineT (k % 4) + C (lanT T p k) < C (k / 16)
                            · rw [if_pos hc]
                              show (if T (1 + p) = k / 16 then _ else C (T (1 + p))) = 1000000
                              rw [if_neg (fun z => hk16 z.symm)]
                              exact h
                            · rw [if_neg hc]; exact h
                      exact gen 1024 0 _ (by omega) ihr
                  exact hinf (key 64)
              simp (disch := omega) only [x172_33, x172_34, x172_37, x172_38, x172_39, x172_40, x172_41, x172_43, x172_44, x172_47, x172_49, x172_50, x172_52, x172_58, x172_59, x172_70, x172_72, x172_74, x172_76, hk, r6, r24, hI, hI2, hm1 (1 + p), c0, ↓nm_1, ↓nm_2, ↓nm_3, ↓nm_4, ↓nm_11, ↓nm_12, ↓nm_13, ↓nm_14, ↓nm_100, nl_0, nl_1, nl_2, nl_3, nl_4, nl_5, nl_6, nl_7, nl_8, nl_9, nl_10, nl_11, nl_12, nl_13, nl_14, nl_15, nl_16, nl_17, nl_18, nl_19, nl_20, nl_22, nl_23, nl_24, nl_25, nl_30, nl_31, nl_34, nl_35, nl_40, nl_43, nl_46, nl_47, nl_48, nl_49, nl_50, nl_57, nl_58, nl_59, nl_63, nl_64, nl_94, nl_97, nl_98, nl_99, nl_100, nl_101, nl_102, nl_105, nl_108, nl_110, nl_111, nl_112, nl_113, nl_114, nl_115, nl_116, nl_117, nl_118, nl_119, nl_124, nl_126, nl_138, nl_140, nl_255, nl_720, nl_1024, nl_9999, nl_99999, nl_999999, nl_1000000, eq_self, Bool.false_eq_true, Bool.true_and, Bool.and_true, Bool.false_and, Bool.and_false, Bool.not_true, Bool.not_false, nI_toInt, or_true, true_or, or_false, false_or, nI_clamp, nI_leI, nI_ltI, nI_eq, e_nm, e_mn, e_mm, l_nm, l_mn, l_mm, le_nm, le_mn, le_mm, nI_add, nI_mull, nI_sub, nI_subn, nI_divl, nsm, qIn_nI, Nat.zero_le, Nat.not_lt_zero, Nat.reduceAdd, Nat.reduceMul, Nat.reduceSub, Nat.reduceDiv, Nat.reduceMod, Nat.reduceEqDiff, Nat.reduceLeDiff, Nat.reduceLT, Nat.add_zero, Nat.zero_add, not_false_eq_true, not_true_eq_false, true_and, and_true, Option.toList_some, Option.toList_none, List.cons_append, List.nil_append, qrf, if_true, if_false, if_pos, if_neg, reduceIte, ne_eq, Classical.not_not]
              exact c_mfw_loop (w := .int (nI w)) (l7 := .retAddr 0) hB hwf hp hg hs64 hfr (by omega) hpos 16 μ1 _ (by omega) hm1 hC1 fun μ' hf => hQ μ' (mFr_tr (cfr3_F hf1) (cfr3_F hf))
end
