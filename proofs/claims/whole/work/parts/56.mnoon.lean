/-! the reference's walkIn, noonIn -/
theorem upT_comm {T : qT} {a b x y : Nat} (h : ¬ a = b) : upT (upT T a x) b y = upT (upT T b y) a x := by
  funext j
  by_cases h1 : j = a
  · subst h1; rw [upT_o h, upT_s, upT_s]
  · by_cases h2 : j = b
    · subst h2; rw [upT_s, upT_o h1, upT_s]
    · rw [upT_o h2, upT_o h1, upT_o h1, upT_o h2]
theorem qMA_up {μ : qMu} {a k v : Nat} {T : qT} (h : qMA μ a T) : qMA (qset μ a k (nI v)) a (upT T k v) := fun j hj => by
  by_cases h1 : j = k
  · subst h1; rw [qset_s, upT_s]
  · rw [qset_k h1, upT_o h1]; exact h j hj
theorem qMA_fr {μ μ' : qMu} {a : Nat} {T : qT} (h : qMA μ a T) (hf : ∀ x, μ' a x = μ a x) : qMA μ' a T := fun j hj => (hf j).trans (h j hj)
def mEnt (μ : qMu) (E : List Nat) : Prop := ∀ c, c < 64 → μ 310 c = nI (if c ∈ E then 1 else 0)
/-- after his walk at noon somebody bars him -/
def barP (T : qT) (p : Nat) : Bool := barB (walkInT T p) (endT (T (1 + p)) (ownT T p).1) (wayT T (T (118 + p)) (T (7 + p))) (ownT T p).2
theorem whoF_cg {T U : qT} {c : Nat} : ∀ (n k : Nat), (∀ q, q < k + n → T (1 + q) = U (1 + q)) → whoF T c k n = whoF U c k n := by
  intro n
  induction n with
  | zero => intro k h; rfl
  | succ n ih =>
    intro k h
    unfold whoF
    rw [h k (by omega), ih (k + 1) (fun q hq => h q (by omega))]
theorem whoT_cg {T U : qT} {c : Nat} (h5 : T 115 = U 115) (h : ∀ q, q < T 115 → T (1 + q) = U (1 + q)) : whoT T c = whoT U c := by
  unfold whoT
  rw [← h5]
  exact whoF_cg _ _ (fun q hq => h q (by omega))
theorem walkInT_lo {T : qT} {p q : Nat} (hp : p < 6) (hq : q < 6) : walkInT T p (1 + q) = midT T p (ownT T p).1 (endT (T (1 + p)) (ownT T p).1) (1 + q) := by
  unfold walkInT midT
  rw [upT_o (by omega), upT_o (by omega), upT_o (by omega)]
theorem barP_mid {T : qT} {p : Nat} (h6 : T 115 ≤ 6) (hp : p < 6) : barB (midT T p (ownT T p).1 (endT (T (1 + p)) (ownT T p).1)) (endT (T (1 + p)) (ownT T p).1) (wayT T (T (118 + p)) (T (7 + p))) (ownT T p).2 = barP T p := by
  have e1 : besT (midT T p (ownT T p).1 (endT (T (1 + p)) (ownT T p).1)) (endT (T (1 + p)) (ownT T p).1) (wayT T (T (118 + p)) (T (7 + p))) = besT (walkInT T p) (endT (T (1 + p)) (ownT T p).1) (wayT T (T (118 + p)) (T (7 + p))) := by
    unfold besT; rw [mid_hi hp (by omega), mid_hi hp (by omega), walkInT_hi hp (by omega), walkInT_hi hp (by omega)]
  unfold barP barB
  rw [e1]
  cases besT (walkInT T p) (endT (T (1 + p)) (ownT T p).1) (wayT T (T (118 + p)) (T (7 + p))) with
  | none => rfl
  | some x =>
    simp only
    rw [whoT_cg (U := walkInT T p) (by rw [mid_hi hp (by omega), walkInT_hi hp (by omega)]) (fun q hq => by rw [mid_hi hp (by omega)] at hq; rw [walkInT_lo hp (by omega)])]
def qFI (a : Nat) (μ μ' : qMu) : Prop := ∀ c x, ¬ c = a → ¬ c = 309 → ¬ c = 310 → ¬ (c = 297 ∧ 15 ≤ x ∧ x ≤ 18) → μ' c x = μ c x
theorem mBool {σ : qSg} (h : qBM σ) : qLen σ 12 310 = 64 := by
  unfold qLen qOk; rw [h.1]; decide +kernel
section
variable {d : Nat} {σ : qSg} {la : qLa} {Q : qPost} {a : Nat} {N : Nat}
theorem c_mwalkIn_loop {path E : List Nat} {l3 : Value} (hB : qBM σ) (hpl : path.length ≤ 8) (hp64 : ∀ x ∈ path, x < 64) : ∀ (n k p : Nat) (μ : qMu), k + n = path.length → μ 297 15 = nI path.length → qTrod μ path → mEnt μ (E ++ path.take k) →
    (∀ μ' : qMu, (∀ c, ¬ c = 310 → μ' c = μ c) → mEnt μ' (E ++ path) → Q none σ μ' la) → qEx (d + 3) 148 94 [] [.ref 297, .ref a, .int (nI p), l3, .int (nI k)] σ μ la Q := by
  have hk := mOk hB
  have hL := mBool hB
  have hr : σ.2 297 19 = some 310 := hB.2.2.2.2.2.2.2.2.2.2.2.2.2.1
  have hT : qArr σ 309 8 := (mArr hB).2.2.2.2.2.2.2.2.2.1
  have hrt : σ.2 297 14 = some 309 := hB.2.2.2.2.2.2.2.2.2.2.2.2.1
  intro n
  induction n with
  | zero =>
    intro k p μ hkn h15 ht he hQ
    have : k = path.length := by omega
    subst this
    rw [List.take_length] at he
    rw [x148_94]
    simp (disch := omega) only [x148_0, x148_1, x148_3, x148_4, x148_5, x148_6, x148_7, x148_8, x148_9, x148_10, x148_11, x148_12, x148_14, x148_15, x148_16, x148_17, x148_18, x148_20, x148_21, x148_22, x148_23, x148_26, x148_27, x148_29, x148_30, x148_31, x148_32, x148_34, x148_35, x148_36, x148_39, x148_40, x148_43, x148_46, x148_47, x148_48, x148_49, x148_51, x148_52, x148_53, x148_54, x148_55, x148_56, x148_59, x148_60, x148_61, x148_62, x148_64, x148_65, x148_66, x148_67, x148_68, x148_71, x148_72, x148_74, x148_75, x148_76, x148_77, x148_78, x148_79, x148_80, x148_81, x148_84, x148_85, x148_87, x148_88, x148_89, x148_90, x148_91, x148_92, x148_96, x148_97, x148_100, x148_103, x148_104, x148_107, x148_108, x148_111, x148_113, x148_114, x148_115, x148_116, x148_119, x148_122, hk, h15, ↓nm_1, ↓nm_2, ↓nm_3, ↓nm_4, ↓nm_11, ↓nm_12, ↓nm_13, ↓nm_14, ↓nm_100, nl_0, nl_1, nl_2, nl_3, nl_4, nl_5, nl_6, nl_7, nl_8, nl_9, nl_10, nl_11, nl_12, nl_13, nl_14, nl_15, nl_16, nl_17, nl_18, nl_19, nl_20, nl_22, nl_23, nl_24, nl_25, nl_30, nl_31, nl_34, nl_35, nl_40, nl_43, nl_46, nl_47, nl_48, nl_49, nl_50, nl_57, nl_58, nl_59, nl_63, nl_64, nl_94, nl_97, nl_98, nl_99, nl_100, nl_101, nl_102, nl_105, nl_108, nl_110, nl_111, nl_112, nl_113, nl_114, nl_115, nl_116, nl_117, nl_118, nl_119, nl_124, nl_126, nl_138, nl_140, nl_255, nl_720, nl_1024, nl_9999, nl_99999, nl_999999, nl_1000000, eq_self, Bool.false_eq_true, Bool.true_and, Bool.and_true, Bool.false_and, Bool.and_false, Bool.not_true, Bool.not_false, nI_toInt, or_true, true_or, or_false, false_or, nI_clamp, nI_leI, nI_ltI, nI_eq, e_nm, e_mn, e_mm, l_nm, l_mn, l_mm, le_nm, le_mn, le_mm, nI_add, nI_mull, nI_sub, nI_subn, nI_divl, nsm, qIn_nI, Nat.zero_le, Nat.not_lt_zero, Nat.reduceAdd, Nat.reduceMul, Nat.reduceSub, Nat.reduceDiv, Nat.reduceMod, Nat.reduceEqDiff, Nat.reduceLeDiff, Nat.reduceLT, Nat.add_zero, Nat.zero_add, not_false_eq_true, not_true_eq_false, true_and, and_true, Option.toList_some, Option.toList_none, List.cons_append, List.nil_append, qrf, if_true, if_false, if_pos, if_neg, reduceIte, ne_eq, Classical.not_not]
    exact hQ μ (fun _ _ => rfl) he
  | succ n ih =>
    intro k p μ hkn h15 ht he hQ
    have hI : qIld σ μ 309 = 8 := (qaI (μ := μ) hT).1
    have hkl : k < path.length := by omega
    have hx : path.getD k 0 ∈ path := by rw [List.getD_eq_getElem?_getD, List.getElem?_eq_getElem hkl]; exact List.getElem_mem hkl
    have hx64 := hp64 _ hx
    have htk : path.take (k + 1) = path.take k ++ [path.getD k 0] := by
      rw [List.take_succ, List.getElem?_eq_getElem hkl]
      congr 1
      rw [List.getD_eq_getElem?_getD, List.getElem?_eq_getElem hkl]; rfl
    rw [x148_94]
    simp (disch := omega) only [x148_0, x148_1, x148_3, x148_4, x148_5, x148_6, x148_7, x148_8, x148_9, x148_10, x148_11, x148_12, x148_14, x148_15, x148_16, x148_17, x148_18, x148_20, x148_21, x148_22, x148_23, x148_26, x148_27, x148_29, x148_30, x148_31, x148_32, x148_34, x148_35, x148_36, x148_39, x148_40, x148_43, x148_46, x148_47, x148_48, x148_49, x148_51, x148_52, x148_53, x148_54, x148_55, x148_56, x148_59, x148_60, x148_61, x148_62, x148_64, x148_65, x148_66, x148_67, x148_68, x148_71, x148_72, x148_74, x148_75, x148_76, x148_77, x148_78, x148_79, x148_80, x148_81, x148_84, x148_85, x148_87, x148_88, x148_89, x148_90, x148_91, x148_92, x148_96, x148_97, x148_100, x148_103, x148_104, x148_107, x148_108, x148_111, x148_113, x148_114, x148_115, x148_116, x148_119, x148_122, hk, hr, hrt, hL, hI, h15, ht k hkl, ↓nm_1, ↓nm_2, ↓nm_3, ↓nm_4, ↓nm_11, ↓nm_12, ↓nm_13, ↓nm_14, ↓nm_100, nl_0, nl_1, nl_2, nl_3, nl_4, nl_5, nl_6, nl_7, nl_8, nl_9, nl_10, nl_11, nl_12, nl_13, nl_14, nl_15, nl_16, nl_17, nl_18, nl_19, nl_20, nl_22, nl_23, nl_24, nl_25, nl_30, nl_31, nl_34, nl_35, nl_40, nl_43, nl_46, nl_47, nl_48, nl_49, nl_50, nl_57, nl_58, nl_59, nl_63, nl_64, nl_94, nl_97, nl_98, nl_99, nl_100, nl_101, nl_102, nl_105, nl_108, nl_110, nl_111, nl_112, nl_113, nl_114, nl_115, nl_116, nl_117, nl_118, nl_119, nl_124, nl_126, nl_138, nl_140, nl_255, nl_720, nl_1024, nl_9999, nl_99999, nl_999999, nl_1000000, eq_self, Bool.false_eq_true, Bool.true_and, Bool.and_true, Bool.false_and, Bool.and_false, Bool.not_true, Bool.not_false, nI_toInt, or_true, true_or, or_false, false_or, nI_clamp, nI_leI, nI_ltI, nI_eq, e_nm, e_mn, e_mm, l_nm, l_mn, l_mm, le_nm, le_mn, le_mm, nI_add, nI_mull, nI_sub, nI_subn, nI_divl, nsm, qIn_nI, Nat.zero_le, Nat.not_lt_zero, Nat.reduceAdd, Nat.reduceMul, Nat.reduceSub, Nat.reduceDiv, Nat.reduceMod, Nat.reduceEqDiff, Nat.reduceLeDiff, Nat.reduceLT, Nat.add_zero, Nat.zero_add, not_false_eq_true, not_true_eq_false, true_and, and_true, Option.toList_some, Option.toList_none, List.cons_append, List.nil_append, qrf, if_true, if_false, if_pos, if_neg, reduceIte, ne_eq, Classical.not_not]
    refine ih (k + 1) p _ (by omega) (by rw [qset_o (by decide)]; exact h15) (fun i hi => by rw [qset_o (by decide)]; exact ht i hi) (fun c hc => ?_) (fun μ' hf hq => hQ μ' (fun c h => (hf c h).trans (qset_ne h)) hq)
    rw [htk, ← List.append_assoc]
    by_cases hcx : c = path.getD k 0
    · subst hcx; rw [qset_s, if_pos (by simp)]
    · rw [qset_k hcx, he c hc]
      congr 1
      by_cases hm : c ∈ E ++ path.take k
      · rw [if_pos hm, if_pos (List.mem_append_left _ hm)]
      · rw [if_neg hm, if_neg (fun z => by
          rcases List.mem_append.mp z with z | z
          · exact hm z
          · exact hcx (by simpa using z))]
set_option maxHeartbeats 4000000 in
theorem c_mwalkIn {p : Nat} {T : qT} {E : List Nat} {μ : qMu} (hB : qBM σ) (ha : qArr σ a 124) (ha2 : ¬ a = 309) (ha3 : ¬ a = 297) (ha4 : ¬ a = 310) (hwf : wfT N T) (hp : p < T 115) (hm : qMA μ a T) (he : mEnt μ E)
    (hQ : ∀ μ' : qMu, qFI a μ μ' → μ' 297 18 = μ 297 18 → qMA μ' a (walkInT T p) → mEnt μ' (E ++ (ownT T p).1) → μ' 297 15 = nI (ownT T p).1.length → μ' 297 17 = nI (if barP T p then 1 else 0) → Q none σ μ' la) :
    qEx (d + 3) 148 0 [] [.ref 297, .ref a, .int (nI p), .retAddr 0, .retAddr 0] σ μ la Q := by
  have h6 := hwf.1
  have hp6 : p < 6 := by omega
  have hk := mOk hB
  have h117 := hwf.2.2.2.2.2.1
  obtain ⟨⟨k1, k5⟩, hin, hf4, ho, hdd⟩ := hwf.2.2.2.2.2.2.2.1 p hp
  have hI : ∀ μ : qMu, qIld σ μ a = 124 := fun μ => (qaI (μ := μ) ha).1
  have hL : qLen σ 10 a = 124 := (qaI (μ := μ) ha).2.1
  obtain ⟨p1, p2, p3⟩ := walkF_ok (kind := T (118 + p)) (way := wayT T (T (118 + p)) (T (7 + p))) hwf 8 (T (1 + p)) (pacesT (T (118 + p)) (T (13 + p))) hin
  have p64 : ∀ x ∈ (ownT T p).1, x < 64 := fun x hx => inT_lt hwf (p1 x hx).1
  simp (disch := omega) only [x148_0, x148_1, x148_3, x148_4, x148_5, x148_6, x148_7, x148_8, x148_9, x148_10, x148_11, x148_12, x148_14, x148_15, x148_16, x148_17, x148_18, x148_20, x148_21, x148_22, x148_23, hk, hI, ↓nm_1, ↓nm_2, ↓nm_3, ↓nm_4, ↓nm_11, ↓nm_12, ↓nm_13, ↓nm_14, ↓nm_100, nl_0, nl_1, nl_2, nl_3, nl_4, nl_5, nl_6, nl_7, nl_8, nl_9, nl_10, nl_11, nl_12, nl_13, nl_14, nl_15, nl_16, nl_17, nl_18, nl_19, nl_20, nl_22, nl_23, nl_24, nl_25, nl_30, nl_31, nl_34, nl_35, nl_40, nl_43, nl_46, nl_47, nl_48, nl_49, nl_50, nl_57, nl_58, nl_59, nl_63, nl_64, nl_94, nl_97, nl_98, nl_99, nl_100, nl_101, nl_102, nl_105, nl_108, nl_110, nl_111, nl_112, nl_113, nl_114, nl_115, nl_116, nl_117, nl_118, nl_119, nl_124, nl_126, nl_138, nl_140, nl_255, nl_720, nl_1024, nl_9999, nl_99999, nl_999999, nl_1000000, eq_self, Bool.false_eq_true, Bool.true_and, Bool.and_true, Bool.false_and, Bool.and_false, Bool.not_true, Bool.not_false, nI_toInt, or_true, true_or, or_false, false_or, nI_clamp, nI_leI, nI_ltI, nI_eq, e_nm, e_mn, e_mm, l_nm, l_mn, l_mm, le_nm, le_mn, le_mm, nI_add, nI_mull, nI_sub, nI_subn, nI_divl, nsm, qIn_nI, Nat.zero_le, Nat.not_lt_zero, Nat.reduceAdd, Nat.reduceMul, Nat.reduceSub, Nat.reduceDiv, Nat.reduceMod, Nat.reduceEqDiff, Nat.reduceLeDiff, Nat.reduceLT, Nat.add_zero, Nat.zero_add, not_false_eq_true, not_true_eq_false, true_and, and_true, Option.toList_some, Option.toList_none, List.cons_append, List.nil_append, qrf, if_true, if_false, if_pos, if_neg, reduceIte, ne_eq, Classical.not_not, hm (118 + p), hm (7 + p), hm (13 + p)]
  refine c_mwalk hB ha ha2 ha3 hwf hp k1 k5 hf4 ho hm fun μ1 hf1 m1 h16 h15 htr h17 => ?_
  have h17 := h17.trans (by rw [← barP_mid h6 hp6]; rfl : _ = nI (if barP T p then 1 else 0))
  have e16 : μ1 297 16 = nI (ownT T p).2 := h16
  have e15 : μ1 297 15 = nI (ownT T p).1.length := h15
  have etr : qTrod μ1 (ownT T p).1 := htr
  have m1' : qMA μ1 a (midT T p (ownT T p).1 (endT (T (1 + p)) (ownT T p).1)) := m1
  have he1 : mEnt μ1 E := fun c hc => (hf1 310 c (fun z => ha4 z.symm) (by decide) (by omega)).trans (he c hc)
  generalize hw : ownT T p = w at e16 e15 etr m1'
  clear h16 h15 htr m1
  generalize hT1 : midT T p w.1 (endT (T (1 + p)) w.1) = T1 at m1'
  have t117 : T1 117 = T 117 := by rw [← hT1, mid_hi hp6 (by omega)]
  have t118 : T1 (118 + p) = T (118 + p) := by rw [← hT1, mid_hi hp6 (by omega)]
  have tl : ∀ j, 7 ≤ j → j < 49 → T1 j = T j := fun j h1 h2 => by rw [← hT1]; unfold midT; rw [upT_o (by omega), opnT_lo (by omega)]
  -- from the update of what he owes on
  have key : ∀ o : Nat, o = (if T 117 = 1 then w.2 else 0) → qEx (d + 3) 148 48 [] [.ref 297, .ref a, .int (nI p), .int (nI (T (118 + p))), .retAddr 0] σ (qset μ1 a (13 + p) (nI o)) la Q := by
    intro o hO
    have m2 := qMA_up (k := 13 + p) (v := o) m1'
    have m3 := qMA_up (k := 19 + p) (v := T (19 + p) + w.1.length) m2
    have m4 := qMA_up (k := 7 + p) (v := lookT T p) m3
    have eW : walkInT T p = upT (upT (upT T1 (13 + p) o) (19 + p) (T (19 + p) + w.1.length)) (7 + p) (lookT T p) := by
      unfold walkInT
      rw [hw, hO, ← hT1]
      unfold midT
      congr 1
      exact upT_comm (by omega)
    rw [← eW] at m4
    have v19 : qset μ1 a (13 + p) (nI o) a (19 + p) = nI (T (19 + p)) := by
      rw [qset_k (by omega), m1' (19 + p) (by omega), tl (19 + p) (by omega) (by omega)]
    have v7 : qset (qset μ1 a (13 + p) (nI o)) a (19 + p) (nI (T (19 + p) + w.1.length)) a (7 + p) = nI (T (7 + p)) := by
      rw [qset_k (by omega), qset_k (by omega), m1' (7 + p) (by omega), tl (7 + p) (by omega) (by omega)]
    have v15 : qset μ1 a (13 + p) (nI o) 297 15 = nI w.1.length := by rw [qset_o (fun z => ha3 z.symm)]; exact e15
    have fin : qEx (d + 3) 148 91 [] [.ref 297, .ref a, .int (nI p), .int (nI (T (118 + p))), .retAddr 0] σ (qset (qset (qset μ1 a (13 + p) (nI o)) a (19 + p) (nI (T (19 + p) + w.1.length))) a (7 + p) (nI (lookT T p))) la Q := by
      simp only [x148_91, x148_92]
      have fr : ∀ c, ¬ c = a → qset (qset (qset μ1 a (13 + p) (nI o)) a (19 + p) (nI (T (19 + p) + w.1.length))) a (7 + p) (nI (lookT T p)) c = μ1 c := fun c hc => by rw [qset_ne hc, qset_ne hc, qset_ne hc]
      generalize qset (qset (qset μ1 a (13 + p) (nI o)) a (19 + p) (nI (T (19 + p) + w.1.length))) a (7 + p) (nI (lookT T p)) = μ4 at m4 fr
      refine c_mwalkIn_loop (path := w.1) (E := E) hB (by rw [← hw]; exact p3) (by rw [← hw]; exact p64) w.1.length 0 p μ4 (by omega) (by rw [fr 297 (fun z => ha3 z.symm)]; exact e15) (fun i hi => by rw [fr 309 (fun z => ha2 z.symm)]; exact etr i hi) (fun c hc => by rw [fr 310 (fun z => ha4 z.symm), List.take_zero, List.append_nil]; exact he1 c hc) fun μ' hf hE => ?_
      refine hQ μ' (fun c x h1 h2 h3 h4 => ?_) ?_ (qMA_fr m4 fun x => by rw [hf a (fun z => ha4 z)]) (by rw [hw]; exact hE) ?_ ?_
      · rw [hf c h3, fr c h1]; exact hf1 c x h1 h2 (fun z => h4 ⟨z.1, by omega⟩)
      · rw [hf 297 (by decide), fr 297 (fun z => ha3 z.symm)]; exact hf1 297 18 (fun z => ha3 z.symm) (by decide) (by omega)
      · rw [hf 297 (by decide), fr 297 (fun z => ha3 z.symm), hw]; exact e15
      · rw [hf 297 (by decide), fr 297 (fun z => ha3 z.symm)]; exact h17
    by_cases h5 : T (118 + p) = 5
    · have e7 : lookT T p = (T (7 + p) + 1) % 4 := by unfold lookT; rw [if_pos h5]
      rw [e7] at fin
      simp (disch := omega) only [x148_48, x148_49, x148_51, x148_52, x148_53, x148_54, x148_55, x148_56, x148_59, x148_60, x148_61, x148_62, x148_64, x148_65, x148_66, x148_67, x148_68, x148_71, x148_72, x148_74, x148_75, x148_76, x148_77, x148_78, x148_79, x148_80, x148_81, x148_84, x148_85, x148_87, x148_88, x148_89, x148_90, hk, hI, hL, ↓nm_1, ↓nm_2, ↓nm_3, ↓nm_4, ↓nm_11, ↓nm_12, ↓nm_13, ↓nm_14, ↓nm_100, nl_0, nl_1, nl_2, nl_3, nl_4, nl_5, nl_6, nl_7, nl_8, nl_9, nl_10, nl_11, nl_12, nl_13, nl_14, nl_15, nl_16, nl_17, nl_18, nl_19, nl_20, nl_22, nl_23, nl_24, nl_25, nl_30, nl_31, nl_34, nl_35, nl_40, nl_43, nl_46, nl_47, nl_48, nl_49, nl_50, nl_57, nl_58, nl_59, nl_63, nl_64, nl_94, nl_97, nl_98, nl_99, nl_100, nl_101, nl_102, nl_105, nl_108, nl_110, nl_111, nl_112, nl_113, nl_114, nl_115, nl_116, nl_117, nl_118, nl_119, nl_124, nl_126, nl_138, nl_140, nl_255, nl_720, nl_1024, nl_9999, nl_99999, nl_999999, nl_1000000, eq_self, Bool.false_eq_true, Bool.true_and, Bool.and_true, Bool.false_and, Bool.and_false, Bool.not_true, Bool.not_false, nI_toInt, or_true, true_or, or_false, false_or, nI_clamp, nI_leI, nI_ltI, nI_eq, e_nm, e_mn, e_mm, l_nm, l_mn, l_mm, le_nm, le_mn, le_mm, nI_add, nI_mull, nI_sub, nI_subn, nI_divl, nsm, qIn_nI, Nat.zero_le, Nat.not_lt_zero, Nat.reduceAdd, Nat.reduceMul, Nat.reduceSub, Nat.reduceDiv, Nat.reduceMod, Nat.reduceEqDiff, Nat.reduceLeDiff, Nat.reduceLT, Nat.add_zero, Nat.zero_add, not_false_eq_true, not_true_eq_false, true_and, and_true, Option.toList_some, Option.toList_none, List.cons_append, List.nil_append, qrf, if_true, if_false, if_pos, if_neg, reduceIte, ne_eq, Classical.not_not, v19, v15, v7]
      exact fin
    · have e7 : lookT T p = T (7 + p) := by unfold lookT; rw [if_neg h5]
      rw [e7] at fin
      simp (disch := omega) only [x148_48, x148_49, x148_51, x148_52, x148_53, x148_54, x148_55, x148_56, x148_59, x148_60, x148_61, x148_62, x148_64, x148_65, x148_66, x148_67, x148_68, x148_71, x148_72, x148_74, x148_75, x148_76, x148_77, x148_78, x148_79, x148_80, x148_81, x148_84, x148_85, x148_87, x148_88, x148_89, x148_90, hk, hI, hL, ↓nm_1, ↓nm_2, ↓nm_3, ↓nm_4, ↓nm_11, ↓nm_12, ↓nm_13, ↓nm_14, ↓nm_100, nl_0, nl_1, nl_2, nl_3, nl_4, nl_5, nl_6, nl_7, nl_8, nl_9, nl_10, nl_11, nl_12, nl_13, nl_14, nl_15, nl_16, nl_17, nl_18, nl_19, nl_20, nl_22, nl_23, nl_24, nl_25, nl_30, nl_31, nl_34, nl_35, nl_40, nl_43, nl_46, nl_47, nl_48, nl_49, nl_50, nl_57, nl_58, nl_59, nl_63, nl_64, nl_94, nl_97, nl_98, nl_99, nl_100, nl_101, nl_102, nl_105, nl_108, nl_110, nl_111, nl_112, nl_113, nl_114, nl_115, nl_116, nl_117, nl_118, nl_119, nl_124, nl_126, nl_138, nl_140, nl_255, nl_720, nl_1024, nl_9999, nl_99999, nl_999999, nl_1000000, eq_self, Bool.false_eq_true, Bool.true_and, Bool.and_true, Bool.false_and, Bool.and_false, Bool.not_true, Bool.not_false, nI_toInt, or_true, true_or, or_false, false_or, nI_clamp, nI_leI, nI_ltI, nI_eq, e_nm, e_mn, e_mm, l_nm, l_mn, l_mm, le_nm, le_mn, le_mm, nI_add, nI_mull, nI_sub, nI_subn, nI_divl, nsm, qIn_nI, Nat.zero_le, Nat.not_lt_zero, Nat.reduceAdd, Nat.reduceMul, Nat.reduceSub, Nat.reduceDiv, Nat.reduceMod, Nat.reduceEqDiff, Nat.reduceLeDiff, Nat.reduceLT, Nat.add_zero, Nat.zero_add, not_false_eq_true, not_true_eq_false, true_and, and_true, Option.toList_some, Option.toList_none, List.cons_append, List.nil_append, qrf, if_true, if_false, if_pos, if_neg, reduceIte, ne_eq, Classical.not_not, v19, v15, v7]
      exact fin
  have v117 : μ1 a 117 = nI (T 117) := by rw [m1' 117 (by omega), t117]
  by_cases h1 : T 117 = 1
  · rw [if_pos h1] at key
    simp (disch := omega) only [x148_26, x148_27, x148_29, x148_30, x148_31, x148_32, x148_34, x148_35, x148_36, x148_39, x148_40, x148_43, x148_46, x148_47, hk, hI, hL, ↓nm_1, ↓nm_2, ↓nm_3, ↓nm_4, ↓nm_11, ↓nm_12, ↓nm_13, ↓nm_14, ↓nm_100, nl_0, nl_1, nl_2, nl_3, nl_4, nl_5, nl_6, nl_7, nl_8, nl_9, nl_10, nl_11, nl_12, nl_13, nl_14, nl_15, nl_16, nl_17, nl_18, nl_19, nl_20, nl_22, nl_23, nl_24, nl_25, nl_30, nl_31, nl_34, nl_35, nl_40, nl_43, nl_46, nl_47, nl_48, nl_49, nl_50, nl_57, nl_58, nl_59, nl_63, nl_64, nl_94, nl_97, nl_98, nl_99, nl_100, nl_101, nl_102, nl_105, nl_108, nl_110, nl_111, nl_112, nl_113, nl_114, nl_115, nl_116, nl_117, nl_118, nl_119, nl_124, nl_126, nl_138, nl_140, nl_255, nl_720, nl_1024, nl_9999, nl_99999, nl_999999, nl_1000000, eq_self, Bool.false_eq_true, Bool.true_and, Bool.and_true, Bool.false_and, Bool.and_false, Bool.not_true, Bool.not_false, nI_toInt, or_true, true_or, or_false, false_or, nI_clamp, nI_leI, nI_ltI, nI_eq, e_nm, e_mn, e_mm, l_nm, l_mn, l_mm, le_nm, le_mn, le_mm, nI_add, nI_mull, nI_sub, nI_subn, nI_divl, nsm, qIn_nI, Nat.zero_le, Nat.not_lt_zero, Nat.reduceAdd, Nat.reduceMul, Nat.reduceSub, Nat.reduceDiv, Nat.reduceMod, Nat.reduceEqDiff, Nat.reduceLeDiff, Nat.reduceLT, Nat.add_zero, Nat.zero_add, not_false_eq_true, not_true_eq_false, true_and, and_true, Option.toList_some, Option.toList_none, List.cons_append, List.nil_append, qrf, if_true, if_false, if_pos, if_neg, reduceIte, ne_eq, Classical.not_not, v117, e16]
    exact key _ rfl
  · rw [if_neg h1] at key
    simp (disch := omega) only [x148_26, x148_27, x148_29, x148_30, x148_31, x148_32, x148_34, x148_35, x148_36, x148_39, x148_40, x148_43, x148_46, x148_47, hk, hI, hL, ↓nm_1, ↓nm_2, ↓nm_3, ↓nm_4, ↓nm_11, ↓nm_12, ↓nm_13, ↓nm_14, ↓nm_100, nl_0, nl_1, nl_2, nl_3, nl_4, nl_5, nl_6, nl_7, nl_8, nl_9, nl_10, nl_11, nl_12, nl_13, nl_14, nl_15, nl_16, nl_17, nl_18, nl_19, nl_20, nl_22, nl_23, nl_24, nl_25, nl_30, nl_31, nl_34, nl_35, nl_40, nl_43, nl_46, nl_47, nl_48, nl_49, nl_50, nl_57, nl_58, nl_59, nl_63, nl_64, nl_94, nl_97, nl_98, nl_99, nl_100, nl_101, nl_102, nl_105, nl_108, nl_110, nl_111, nl_112, nl_113, nl_114, nl_115, nl_116, nl_117, nl_118, nl_119, nl_124, nl_126, nl_138, nl_140, nl_255, nl_720, nl_1024, nl_9999, nl_99999, nl_999999, nl_1000000, eq_self, Bool.false_eq_true, Bool.true_and, Bool.and_true, Bool.false_and, Bool.and_false, Bool.not_true, Bool.not_false, nI_toInt, or_true, true_or, or_false, false_or, nI_clamp, nI_leI, nI_ltI, nI_eq, e_nm, e_mn, e_mm, l_nm, l_mn, l_mm, le_nm, le_mn, le_mm, nI_add, nI_mull, nI_sub, nI_subn, nI_divl, nsm, qIn_nI, Nat.zero_le, Nat.not_lt_zero, Nat.reduceAdd, Nat.reduceMul, Nat.reduceSub, Nat.reduceDiv, Nat.reduceMod, Nat.reduceEqDiff, Nat.reduceLeDiff, Nat.reduceLT, Nat.add_zero, Nat.zero_add, not_false_eq_true, not_true_eq_false, true_and, and_true, Option.toList_some, Option.toList_none, List.cons_append, List.nil_append, qrf, if_true, if_false, if_pos, if_neg, reduceIte, ne_eq, Classical.not_not, v117, e16]
    exact key _ rfl
/-! noonIn -/
def treadF : Nat → Nat → qT → List Nat → List Nat
  | _, 0, _, E => E
  | k, m + 1, T, E => if 0 < T (13 + k) then treadF (k + 1) m (walkInT T k) (E ++ (ownT T k).1) else treadF (k + 1) m T E
def treadT (T : qT) : List Nat := treadF 0 (T 115) T []
abbrev bitI (p : Nat) : Int32 := nI 1 <<< (nI p &&& nI 31)
def barI : Nat → Nat → qT → Int32 → Int32
  | _, 0, _, s => s
  | k, m + 1, T, s => if 0 < T (13 + k) then barI (k + 1) m (walkInT T k) (s ||| (if barP T k then bitI k else nI 0)) else barI (k + 1) m T s
def barT (T : qT) : Int32 := barI 0 (T 115) T (nI 0)
theorem c_mnoon_clear {s : Int32} (hB : qBM σ) : ∀ (n k : Nat) (μ : qMu), k + n = 64 → (∀ c, c < k → μ 310 c = nI 0) →
    (∀ μ' : qMu, (∀ c, ¬ c = 310 → μ' c = μ c) → mEnt μ' [] → qEx (d + 4) 149 28 [] [.ref 297, .ref a, .int s, .int (nI 64)] σ μ' la Q) → qEx (d + 4) 149 9 [] [.ref 297, .ref a, .int s, .int (nI k)] σ μ la Q := by
  have hk := mOk hB
  have hL := mBool hB
  have hr : σ.2 297 19 = some 310 := hB.2.2.2.2.2.2.2.2.2.2.2.2.2.1
  intro n
  induction n with
  | zero =>
    intro k μ hkn h0 hQ
    have : k = 64 := by omega
    subst this
    rw [x149_9]
    simp (disch := omega) only [x149_10, x149_12, ↓nm_1, ↓nm_2, ↓nm_3, ↓nm_4, ↓nm_11, ↓nm_12, ↓nm_13, ↓nm_14, ↓nm_100, nl_0, nl_1, nl_2, nl_3, nl_4, nl_5, nl_6, nl_7, nl_8, nl_9, nl_10, nl_11, nl_12, nl_13, nl_14, nl_15, nl_16, nl_17, nl_18, nl_19, nl_20, nl_22, nl_23, nl_24, nl_25, nl_30, nl_31, nl_34, nl_35, nl_40, nl_43, nl_46, nl_47, nl_48, nl_49, nl_50, nl_57, nl_58, nl_59, nl_63, nl_64, nl_94, nl_97, nl_98, nl_99, nl_100, nl_101, nl_102, nl_105, nl_108, nl_110, nl_111, nl_112, nl_113, nl_114, nl_115, nl_116, nl_117, nl_118, nl_119, nl_124, nl_126, nl_138, nl_140, nl_255, nl_720, nl_1024, nl_9999, nl_99999, nl_999999, nl_1000000, eq_self, Bool.false_eq_true, Bool.true_and, Bool.and_true, Bool.false_and, Bool.and_false, Bool.not_true, Bool.not_false, nI_toInt, or_true, true_or, or_false, false_or, nI_clamp, nI_leI, nI_ltI, nI_eq, e_nm, e_mn, e_mm, l_nm, l_mn, l_mm, le_nm, le_mn, le_mm, nI_add, nI_mull, nI_sub, nI_subn, nI_divl, nsm, qIn_nI, Nat.zero_le, Nat.not_lt_zero, Nat.reduceAdd, Nat.reduceMul, Nat.reduceSub, Nat.reduceDiv, Nat.reduceMod, Nat.reduceEqDiff, Nat.reduceLeDiff, Nat.reduceLT, Nat.add_zero, Nat.zero_add, not_false_eq_true, not_true_eq_false, true_and, and_true, Option.toList_some, Option.toList_none, List.cons_append, List.nil_append, qrf, if_true, if_false, if_pos, if_neg, reduceIte, ne_eq, Classical.not_not]
    exact hQ μ (fun _ _ => rfl) (fun c hc => by rw [h0 c hc, if_neg (by simp)])
  | succ n ih =>
    intro k μ hkn h0 hQ
    rw [x149_9]
    simp (disch := omega) only [x149_10, x149_12, x149_15, x149_16, x149_19, x149_20, x149_21, x149_22, x149_25, hk, hr, hL, ↓nm_1, ↓nm_2, ↓nm_3, ↓nm_4, ↓nm_11, ↓nm_12, ↓nm_13, ↓nm_14, ↓nm_100, nl_0, nl_1, nl_2, nl_3, nl_4, nl_5, nl_6, nl_7, nl_8, nl_9, nl_10, nl_11, nl_12, nl_13, nl_14, nl_15, nl_16, nl_17, nl_18, nl_19, nl_20, nl_22, nl_23, nl_24, nl_25, nl_30, nl_31, nl_34, nl_35, nl_40, nl_43, nl_46, nl_47, nl_48, nl_49, nl_50, nl_57, nl_58, nl_59, nl_63, nl_64, nl_94, nl_97, nl_98, nl_99, nl_100, nl_101, nl_102, nl_105, nl_108, nl_110, nl_111, nl_112, nl_113, nl_114, nl_115, nl_116, nl_117, nl_118, nl_119, nl_124, nl_126, nl_138, nl_140, nl_255, nl_720, nl_1024, nl_9999, nl_99999, nl_999999, nl_1000000, eq_self, Bool.false_eq_true, Bool.true_and, Bool.and_true, Bool.false_and, Bool.and_false, Bool.not_true, Bool.not_false, nI_toInt, or_true, true_or, or_false, false_or, nI_clamp, nI_leI, nI_ltI, nI_eq, e_nm, e_mn, e_mm, l_nm, l_mn, l_mm, le_nm, le_mn, le_mm, nI_add, nI_mull, nI_sub, nI_subn, nI_divl, nsm, qIn_nI, Nat.zero_le, Nat.not_lt_zero, Nat.reduceAdd, Nat.reduceMul, Nat.reduceSub, Nat.reduceDiv, Nat.reduceMod, Nat.reduceEqDiff, Nat.reduceLeDiff, Nat.reduceLT, Nat.add_zero, Nat.zero_add, not_false_eq_true, not_true_eq_false, true_and, and_true, Option.toList_some, Option.toList_none, List.cons_append, List.nil_append, qrf, if_true, if_false, if_pos, if_neg, reduceIte, ne_eq, Classical.not_not]
    refine ih (k + 1) _ (by omega) (fun c hc => ?_) (fun μ' hf he => hQ μ' (fun c h => (hf c h).trans (qset_ne h)) he)
    by_cases hck : c = k
    · subst hck; rw [qset_s]
    · rw [qset_k hck]; exact h0 c (by omega)
set_option maxHeartbeats 4000000 in
theorem c_mnoon_loop (hB : qBM σ) (ha : qArr σ a 124) (ha2 : ¬ a = 309) (ha3 : ¬ a = 297) (ha4 : ¬ a = 310) : ∀ (n k cells : Nat) (T : qT) (E : List Nat) (s : Int32) (μ : qMu), k + n = T 115 → wfT N T → qMA μ a T → mEnt μ E → μ 297 18 = s →
    (∀ μ' : qMu, qFI a μ μ' → qMA μ' a (upT (noonF k n T cells).1 0 ((noonF k n T cells).1 0 + 1)) → wfT N (noonF k n T cells).1 → mEnt μ' (treadF k n T E) → μ' 297 18 = barI k n T s → Q (some (.int (nI (noonF k n T cells).2))) σ μ' la) →
    qEx (d + 4) 149 30 [] [.ref 297, .ref a, .int (nI cells), .int (nI k)] σ μ la Q := by
  have hk := mOk hB
  have hI : ∀ μ : qMu, qIld σ μ a = 124 := fun μ => (qaI (μ := μ) ha).1
  have hL : qLen σ 10 a = 124 := (qaI (μ := fun _ _ => 0) ha).2.1
  intro n
  induction n with
  | zero =>
    intro k cells T E s μ hkn hwf hm he h18 hQ
    have h6 := hwf.1
    rw [x149_30]
    simp (disch := omega) only [x149_31, x149_32, x149_34, x149_35, x149_89, x149_90, x149_91, x149_92, x149_93, x149_94, x149_95, x149_96, x149_97, hk, hI, hL, hm 115 (by omega), hm 0 (by omega), ↓nm_1, ↓nm_2, ↓nm_3, ↓nm_4, ↓nm_11, ↓nm_12, ↓nm_13, ↓nm_14, ↓nm_100, nl_0, nl_1, nl_2, nl_3, nl_4, nl_5, nl_6, nl_7, nl_8, nl_9, nl_10, nl_11, nl_12, nl_13, nl_14, nl_15, nl_16, nl_17, nl_18, nl_19, nl_20, nl_22, nl_23, nl_24, nl_25, nl_30, nl_31, nl_34, nl_35, nl_40, nl_43, nl_46, nl_47, nl_48, nl_49, nl_50, nl_57, nl_58, nl_59, nl_63, nl_64, nl_94, nl_97, nl_98, nl_99, nl_100, nl_101, nl_102, nl_105, nl_108, nl_110, nl_111, nl_112, nl_113, nl_114, nl_115, nl_116, nl_117, nl_118, nl_119, nl_124, nl_126, nl_138, nl_140, nl_255, nl_720, nl_1024, nl_9999, nl_99999, nl_999999, nl_1000000, eq_self, Bool.false_eq_true, Bool.true_and, Bool.and_true, Bool.false_and, Bool.and_false, Bool.not_true, Bool.not_false, nI_toInt, or_true, true_or, or_false, false_or, nI_clamp, nI_leI, nI_ltI, nI_eq, e_nm, e_mn, e_mm, l_nm, l_mn, l_mm, le_nm, le_mn, le_mm, nI_add, nI_mull, nI_sub, nI_subn, nI_divl, nsm, qIn_nI, Nat.zero_le, Nat.not_lt_zero, Nat.reduceAdd, Nat.reduceMul, Nat.reduceSub, Nat.reduceDiv, Nat.reduceMod, Nat.reduceEqDiff, Nat.reduceLeDiff, Nat.reduceLT, Nat.add_zero, Nat.zero_add, not_false_eq_true, not_true_eq_false, true_and, and_true, Option.toList_some, Option.toList_none, List.cons_append, List.nil_append, qrf, if_true, if_false, if_pos, if_neg, reduceIte, ne_eq, Classical.not_not]
    exact hQ _ (fun c x h1 _ _ _ => by rw [qset_o h1]) (qMA_up hm) hwf (fun c hc => by rw [qset_o (fun z => ha4 z.symm)]; exact he c hc) (by rw [qset_o (fun z => ha3 z.symm)]; exact h18)
  | succ n ih =>
    intro k cells T E s μ hkn hwf hm he h18 hQ
    have h6 := hwf.1
    have hkp : k < T 115 := by omega
    have ho := (hwf.2.2.2.2.2.2.2.1 k hkp).2.2.2.1
    rw [x149_30]
    simp (disch := omega) only [x149_31, x149_32, x149_34, x149_35, x149_38, x149_39, x149_41, x149_42, x149_43, x149_44, hk, hI, hL, hm 115 (by omega), hm (13 + k) (by omega), ↓nm_1, ↓nm_2, ↓nm_3, ↓nm_4, ↓nm_11, ↓nm_12, ↓nm_13, ↓nm_14, ↓nm_100, nl_0, nl_1, nl_2, nl_3, nl_4, nl_5, nl_6, nl_7, nl_8, nl_9, nl_10, nl_11, nl_12, nl_13, nl_14, nl_15, nl_16, nl_17, nl_18, nl_19, nl_20, nl_22, nl_23, nl_24, nl_25, nl_30, nl_31, nl_34, nl_35, nl_40, nl_43, nl_46, nl_47, nl_48, nl_49, nl_50, nl_57, nl_58, nl_59, nl_63, nl_64, nl_94, nl_97, nl_98, nl_99, nl_100, nl_101, nl_102, nl_105, nl_108, nl_110, nl_111, nl_112, nl_113, nl_114, nl_115, nl_116, nl_117, nl_118, nl_119, nl_124, nl_126, nl_138, nl_140, nl_255, nl_720, nl_1024, nl_9999, nl_99999, nl_999999, nl_1000000, eq_self, Bool.false_eq_true, Bool.true_and, Bool.and_true, Bool.false_and, Bool.and_false, Bool.not_true, Bool.not_false, nI_toInt, or_true, true_or, or_false, false_or, nI_clamp, nI_leI, nI_ltI, nI_eq, e_nm, e_mn, e_mm, l_nm, l_mn, l_mm, le_nm, le_mn, le_mm, nI_add, nI_mull, nI_sub, nI_subn, nI_divl, nsm, qIn_nI, Nat.zero_le, Nat.not_lt_zero, Nat.reduceAdd, Nat.reduceMul, Nat.reduceSub, Nat.reduceDiv, Nat.reduceMod, Nat.reduceEqDiff, Nat.reduceLeDiff, Nat.reduceLT, Nat.add_zero, Nat.zero_add, not_false_eq_true, not_true_eq_false, true_and, and_true, Option.toList_some, Option.toList_none, List.cons_append, List.nil_append, qrf, if_true, if_false, if_pos, if_neg, reduceIte, ne_eq, Classical.not_not]
    by_cases h0 : 0 < T (13 + k)
    · have hF : noonF k (n + 1) T cells = noonF (k + 1) n (walkInT T k) (cells + (ownT T k).1.length) := by
        show (if 0 < T (13 + k) then _ else _) = _
        rw [if_pos h0]
      have hE : treadF k (n + 1) T E = treadF (k + 1) n (walkInT T k) (E ++ (ownT T k).1) := by
        show (if 0 < T (13 + k) then _ else _) = _
        rw [if_pos h0]
      have hS : barI k (n + 1) T s = barI (k + 1) n (walkInT T k) (s ||| (if barP T k then bitI k else nI 0)) := by
        show (if 0 < T (13 + k) then _ else _) = _
        rw [if_pos h0]
      rw [hF, hE, hS] at hQ
      simp (disch := omega) only [x149_47, x149_48, x149_49, x149_50, hk, ↓nm_1, ↓nm_2, ↓nm_3, ↓nm_4, ↓nm_11, ↓nm_12, ↓nm_13, ↓nm_14, ↓nm_100, nl_0, nl_1, nl_2, nl_3, nl_4, nl_5, nl_6, nl_7, nl_8, nl_9, nl_10, nl_11, nl_12, nl_13, nl_14, nl_15, nl_16, nl_17, nl_18, nl_19, nl_20, nl_22, nl_23, nl_24, nl_25, nl_30, nl_31, nl_34, nl_35, nl_40, nl_43, nl_46, nl_47, nl_48, nl_49, nl_50, nl_57, nl_58, nl_59, nl_63, nl_64, nl_94, nl_97, nl_98, nl_99, nl_100, nl_101, nl_102, nl_105, nl_108, nl_110, nl_111, nl_112, nl_113, nl_114, nl_115, nl_116, nl_117, nl_118, nl_119, nl_124, nl_126, nl_138, nl_140, nl_255, nl_720, nl_1024, nl_9999, nl_99999, nl_999999, nl_1000000, eq_self, Bool.false_eq_true, Bool.true_and, Bool.and_true, Bool.false_and, Bool.and_false, Bool.not_true, Bool.not_false, nI_toInt, or_true, true_or, or_false, false_or, nI_clamp, nI_leI, nI_ltI, nI_eq, e_nm, e_mn, e_mm, l_nm, l_mn, l_mm, le_nm, le_mn, le_mm, nI_add, nI_mull, nI_sub, nI_subn, nI_divl, nsm, qIn_nI, Nat.zero_le, Nat.not_lt_zero, Nat.reduceAdd, Nat.reduceMul, Nat.reduceSub, Nat.reduceDiv, Nat.reduceMod, Nat.reduceEqDiff, Nat.reduceLeDiff, Nat.reduceLT, Nat.add_zero, Nat.zero_add, not_false_eq_true, not_true_eq_false, true_and, and_true, Option.toList_some, Option.toList_none, List.cons_append, List.nil_append, qrf, if_true, if_false, if_pos, if_neg, reduceIte, ne_eq, Classical.not_not]
      refine c_mwalkIn hB ha ha2 ha3 ha4 hwf hkp hm he fun μ1 hf1 h118 m1 e1 h15 h17 => ?_
      rw [h18] at h118
      have next : ∀ μ2 : qMu, (∀ c x, ¬ (c = 297 ∧ x = 18) → μ2 c x = μ1 c x) → μ2 297 18 = (s ||| (if barP T k then bitI k else nI 0)) → qEx (d + 4) 149 30 [] [.ref 297, .ref a, .int (nI (cells + (ownT T k).1.length)), .int (nI (k + 1))] σ μ2 la Q := by
        intro μ2 hf2 h218
        refine ih (k + 1) _ (walkInT T k) _ _ μ2 (by rw [walkInT_hi (by omega) (by omega)]; omega) (wf_walkIn hwf hkp) (qMA_fr m1 fun x => hf2 a x (fun z => ha3 z.1)) (fun c hc => (hf2 310 c (by omega)).trans (e1 c hc)) h218 ?_
        intro μ' hf hq hwf' hE' hS'
        exact hQ μ' (fun c x z1 z2 z3 z4 => (hf c x z1 z2 z3 z4).trans ((hf2 c x (fun z => z4 ⟨z.1, by omega⟩)).trans (hf1 c x z1 z2 z3 z4))) hq hwf' hE' hS'
      by_cases hb : barP T k = true
      · rw [if_pos hb] at h17 next
        simp (disch := omega) only [x149_53, x149_54, x149_55, x149_58, x149_59, x149_60, x149_61, x149_62, x149_65, x149_66, x149_69, x149_72, x149_73, x149_74, x149_75, x149_78, x149_79, x149_80, x149_83, x149_86, hk, h15, h17, h118, ↓nm_1, ↓nm_2, ↓nm_3, ↓nm_4, ↓nm_11, ↓nm_12, ↓nm_13, ↓nm_14, ↓nm_100, nl_0, nl_1, nl_2, nl_3, nl_4, nl_5, nl_6, nl_7, nl_8, nl_9, nl_10, nl_11, nl_12, nl_13, nl_14, nl_15, nl_16, nl_17, nl_18, nl_19, nl_20, nl_22, nl_23, nl_24, nl_25, nl_30, nl_31, nl_34, nl_35, nl_40, nl_43, nl_46, nl_47, nl_48, nl_49, nl_50, nl_57, nl_58, nl_59, nl_63, nl_64, nl_94, nl_97, nl_98, nl_99, nl_100, nl_101, nl_102, nl_105, nl_108, nl_110, nl_111, nl_112, nl_113, nl_114, nl_115, nl_116, nl_117, nl_118, nl_119, nl_124, nl_126, nl_138, nl_140, nl_255, nl_720, nl_1024, nl_9999, nl_99999, nl_999999, nl_1000000, eq_self, Bool.false_eq_true, Bool.true_and, Bool.and_true, Bool.false_and, Bool.and_false, Bool.not_true, Bool.not_false, nI_toInt, or_true, true_or, or_false, false_or, nI_clamp, nI_leI, nI_ltI, nI_eq, e_nm, e_mn, e_mm, l_nm, l_mn, l_mm, le_nm, le_mn, le_mm, nI_add, nI_mull, nI_sub, nI_subn, nI_divl, nsm, qIn_nI, Nat.zero_le, Nat.not_lt_zero, Nat.reduceAdd, Nat.reduceMul, Nat.reduceSub, Nat.reduceDiv, Nat.reduceMod, Nat.reduceEqDiff, Nat.reduceLeDiff, Nat.reduceLT, Nat.add_zero, Nat.zero_add, not_false_eq_true, not_true_eq_false, true_and, and_true, Option.toList_some, Option.toList_none, List.cons_append, List.nil_append, qrf, if_true, if_false, if_pos, if_neg, reduceIte, ne_eq, Classical.not_not]
        exact next _ (fun c x h => by
          by_cases hc : c = 297
          · subst hc; rw [qset_k (fun z => h ⟨rfl, z⟩)]
          · rw [qset_o hc]) qset_s
      · rw [if_neg hb] at h17 next
        simp (disch := omega) only [x149_53, x149_54, x149_55, x149_58, x149_59, x149_60, x149_61, x149_62, x149_65, x149_66, x149_69, x149_72, x149_73, x149_74, x149_75, x149_78, x149_79, x149_80, x149_83, x149_86, hk, h15, h17, h118, ↓nm_1, ↓nm_2, ↓nm_3, ↓nm_4, ↓nm_11, ↓nm_12, ↓nm_13, ↓nm_14, ↓nm_100, nl_0, nl_1, nl_2, nl_3, nl_4, nl_5, nl_6, nl_7, nl_8, nl_9, nl_10, nl_11, nl_12, nl_13, nl_14, nl_15, nl_16, nl_17, nl_18, nl_19, nl_20, nl_22, nl_23, nl_24, nl_25, nl_30, nl_31, nl_34, nl_35, nl_40, nl_43, nl_46, nl_47, nl_48, nl_49, nl_50, nl_57, nl_58, nl_59, nl_63, nl_64, nl_94, nl_97, nl_98, nl_99, nl_100, nl_101, nl_102, nl_105, nl_108, nl_110, nl_111, nl_112, nl_113, nl_114, nl_115, nl_116, nl_117, nl_118, nl_119, nl_124, nl_126, nl_138, nl_140, nl_255, nl_720, nl_1024, nl_9999, nl_99999, nl_999999, nl_1000000, eq_self, Bool.false_eq_true, Bool.true_and, Bool.and_true, Bool.false_and, Bool.and_false, Bool.not_true, Bool.not_false, nI_toInt, or_true, true_or, or_false, false_or, nI_clamp, nI_leI, nI_ltI, nI_eq, e_nm, e_mn, e_mm, l_nm, l_mn, l_mm, le_nm, le_mn, le_mm, nI_add, nI_mull, nI_sub, nI_subn, nI_divl, nsm, qIn_nI, Nat.zero_le, Nat.not_lt_zero, Nat.reduceAdd, Nat.reduceMul, Nat.reduceSub, Nat.reduceDiv, Nat.reduceMod, Nat.reduceEqDiff, Nat.reduceLeDiff, Nat.reduceLT, Nat.add_zero, Nat.zero_add, not_false_eq_true, not_true_eq_false, true_and, and_true, Option.toList_some, Option.toList_none, List.cons_append, List.nil_append, qrf, if_true, if_false, if_pos, if_neg, reduceIte, ne_eq, Classical.not_not]
        exact next _ (fun c x h => by
          by_cases hc : c = 297
          · subst hc; rw [qset_k (fun z => h ⟨rfl, z⟩)]
          · rw [qset_o hc]) qset_s
    · have hF : noonF k (n + 1) T cells = noonF (k + 1) n T cells := by
        show (if 0 < T (13 + k) then _ else _) = _
        rw [if_neg h0]
      have hE : treadF k (n + 1) T E = treadF (k + 1) n T E := by
        show (if 0 < T (13 + k) then _ else _) = _
        rw [if_neg h0]
      have hS : barI k (n + 1) T s = barI (k + 1) n T s := by
        show (if 0 < T (13 + k) then _ else _) = _
        rw [if_neg h0]
      rw [hF, hE, hS] at hQ
      simp (disch := omega) only [x149_83, x149_86, ↓nm_1, ↓nm_2, ↓nm_3, ↓nm_4, ↓nm_11, ↓nm_12, ↓nm_13, ↓nm_14, ↓nm_100, nl_0, nl_1, nl_2, nl_3, nl_4, nl_5, nl_6, nl_7, nl_8, nl_9, nl_10, nl_11, nl_12, nl_13, nl_14, nl_15, nl_16, nl_17, nl_18, nl_19, nl_20, nl_22, nl_23, nl_24, nl_25, nl_30, nl_31, nl_34, nl_35, nl_40, nl_43, nl_46, nl_47, nl_48, nl_49, nl_50, nl_57, nl_58, nl_59, nl_63, nl_64, nl_94, nl_97, nl_98, nl_99, nl_100, nl_101, nl_102, nl_105, nl_108, nl_110, nl_111, nl_112, nl_113, nl_114, nl_115, nl_116, nl_117, nl_118, nl_119, nl_124, nl_126, nl_138, nl_140, nl_255, nl_720, nl_1024, nl_9999, nl_99999, nl_999999, nl_1000000, eq_self, Bool.false_eq_true, Bool.true_and, Bool.and_true, Bool.false_and, Bool.and_false, Bool.not_true, Bool.not_false, nI_toInt, or_true, true_or, or_false, false_or, nI_clamp, nI_leI, nI_ltI, nI_eq, e_nm, e_mn, e_mm, l_nm, l_mn, l_mm, le_nm, le_mn, le_mm, nI_add, nI_mull, nI_sub, nI_subn, nI_divl, nsm, qIn_nI, Nat.zero_le, Nat.not_lt_zero, Nat.reduceAdd, Nat.reduceMul, Nat.reduceSub, Nat.reduceDiv, Nat.reduceMod, Nat.reduceEqDiff, Nat.reduceLeDiff, Nat.reduceLT, Nat.add_zero, Nat.zero_add, not_false_eq_true, not_true_eq_false, true_and, and_true, Option.toList_some, Option.toList_none, List.cons_append, List.nil_append, qrf, if_true, if_false, if_pos, if_neg, reduceIte, ne_eq, Classical.not_not]
      exact ih (k + 1) cells T E s μ (by omega) hwf hm he h18 hQ
theorem c_mnoon {T : qT} {μ : qMu} (hB : qBM σ) (ha : qArr σ a 124) (ha2 : ¬ a = 309) (ha3 : ¬ a = 297) (ha4 : ¬ a = 310) (hwf : wfT N T) (hm : qMA μ a T)
    (hQ : ∀ μ' : qMu, qFI a μ μ' → qMA μ' a (noonT T).1 → wfT N (noonT T).1 → mEnt μ' (treadT T) → μ' 297 18 = barT T → Q (some (.int (nI (noonT T).2))) σ μ' la) :
    qEx (d + 4) 149 0 [] [.ref 297, .ref a, .retAddr 0, .retAddr 0] σ μ la Q := by
  have hk := mOk hB
  simp (disch := omega) only [x149_0, x149_1, x149_2, x149_3, x149_4, x149_7, x149_8, hk, ↓nm_1, ↓nm_2, ↓nm_3, ↓nm_4, ↓nm_11, ↓nm_12, ↓nm_13, ↓nm_14, ↓nm_100, nl_0, nl_1, nl_2, nl_3, nl_4, nl_5, nl_6, nl_7, nl_8, nl_9, nl_10, nl_11, nl_12, nl_13, nl_14, nl_15, nl_16, nl_17, nl_18, nl_19, nl_20, nl_22, nl_23, nl_24, nl_25, nl_30, nl_31, nl_34, nl_35, nl_40, nl_43, nl_46, nl_47, nl_48, nl_49, nl_50, nl_57, nl_58, nl_59, nl_63, nl_64, nl_94, nl_97, nl_98, nl_99, nl_100, nl_101, nl_102, nl_105, nl_108, nl_110, nl_111, nl_112, nl_113, nl_114, nl_115, nl_116, nl_117, nl_118, nl_119, nl_124, nl_126, nl_138, nl_140, nl_255, nl_720, nl_1024, nl_9999, nl_99999, nl_999999, nl_1000000, eq_self, Bool.false_eq_true, Bool.true_and, Bool.and_true, Bool.false_and, Bool.and_false, Bool.not_true, Bool.not_false, nI_toInt, or_true, true_or, or_false, false_or, nI_clamp, nI_leI, nI_ltI, nI_eq, e_nm, e_mn, e_mm, l_nm, l_mn, l_mm, le_nm, le_mn, le_mm, nI_add, nI_mull, nI_sub, nI_subn, nI_divl, nsm, qIn_nI, Nat.zero_le, Nat.not_lt_zero, Nat.reduceAdd, Nat.reduceMul, Nat.reduceSub, Nat.reduceDiv, Nat.reduceMod, Nat.reduceEqDiff, Nat.reduceLeDiff, Nat.reduceLT, Nat.add_zero, Nat.zero_add, not_false_eq_true, not_true_eq_false, true_and, and_true, Option.toList_some, Option.toList_none, List.cons_append, List.nil_append, qrf, if_true, if_false, if_pos, if_neg, reduceIte, ne_eq, Classical.not_not]
  refine c_mnoon_clear hB 64 0 _ (by omega) (fun c hc => absurd hc (Nat.not_lt_zero _)) fun μ1 hf1 he1 => ?_
  simp (disch := omega) only [x149_28, x149_29, ↓nm_1, ↓nm_2, ↓nm_3, ↓nm_4, ↓nm_11, ↓nm_12, ↓nm_13, ↓nm_14, ↓nm_100, nl_0, nl_1, nl_2, nl_3, nl_4, nl_5, nl_6, nl_7, nl_8, nl_9, nl_10, nl_11, nl_12, nl_13, nl_14, nl_15, nl_16, nl_17, nl_18, nl_19, nl_20, nl_22, nl_23, nl_24, nl_25, nl_30, nl_31, nl_34, nl_35, nl_40, nl_43, nl_46, nl_47, nl_48, nl_49, nl_50, nl_57, nl_58, nl_59, nl_63, nl_64, nl_94, nl_97, nl_98, nl_99, nl_100, nl_101, nl_102, nl_105, nl_108, nl_110, nl_111, nl_112, nl_113, nl_114, nl_115, nl_116, nl_117, nl_118, nl_119, nl_124, nl_126, nl_138, nl_140, nl_255, nl_720, nl_1024, nl_9999, nl_99999, nl_999999, nl_1000000, eq_self, Bool.false_eq_true, Bool.true_and, Bool.and_true, Bool.false_and, Bool.and_false, Bool.not_true, Bool.not_false, nI_toInt, or_true, true_or, or_false, false_or, nI_clamp, nI_leI, nI_ltI, nI_eq, e_nm, e_mn, e_mm, l_nm, l_mn, l_mm, le_nm, le_mn, le_mm, nI_add, nI_mull, nI_sub, nI_subn, nI_divl, nsm, qIn_nI, Nat.zero_le, Nat.not_lt_zero, Nat.reduceAdd, Nat.reduceMul, Nat.reduceSub, Nat.reduceDiv, Nat.reduceMod, Nat.reduceEqDiff, Nat.reduceLeDiff, Nat.reduceLT, Nat.add_zero, Nat.zero_add, not_false_eq_true, not_true_eq_false, true_and, and_true, Option.toList_some, Option.toList_none, List.cons_append, List.nil_append, qrf, if_true, if_false, if_pos, if_neg, reduceIte, ne_eq, Classical.not_not]
  refine c_mnoon_loop (N := N) hB ha ha2 ha3 ha4 (T 115) 0 0 T [] (nI 0) μ1 (by omega) hwf (qMA_fr hm fun x => by rw [hf1 a ha4, qset_o ha3]) he1 (by rw [hf1 297 (by decide), qset_s]) fun μ' hf hq hwf' hE hS => ?_
  refine hQ μ' (fun c x z1 z2 z3 z4 => (hf c x z1 z2 z3 z4).trans ?_) hq (wf_up0 hwf') hE hS
  rw [hf1 c z3]
  by_cases hc : c = 297
  · subst hc; rw [qset_k (by omega)]
  · rw [qset_o hc]
end
