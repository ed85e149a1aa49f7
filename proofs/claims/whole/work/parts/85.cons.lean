/-! what the constructors make -/
theorem sh_0 : qSh 0 = (6, 7) := by decide +kernel
theorem sh_1 : qSh 1 = (3, 4) := by decide +kernel
theorem sh_2 : qSh 2 = (10, 140) := by decide +kernel
theorem sh_11 : qSh 11 = (1, 8) := by decide +kernel
theorem sh_28 : qSh 28 = (5, 5) := by decide +kernel
theorem sh_29 : qSh 29 = (10, 8) := by decide +kernel
theorem sh_30 : qSh 30 = (13, 5) := by decide +kernel
theorem sh_31 : qSh 31 = (10, 6) := by decide +kernel
theorem sh_32 : qSh 32 = (10, 6) := by decide +kernel
theorem sh_33 : qSh 33 = (10, 1024) := by decide +kernel
theorem sh_34 : qSh 34 = (10, 64) := by decide +kernel
theorem sh_75 : qSh 75 = (0, 3) := by decide +kernel
theorem sh_76 : qSh 76 = (13, 24) := by decide +kernel
theorem sh_269 : qSh 269 = (13, 2) := by decide +kernel
theorem sh_286 : qSh 286 = (14, 4) := by decide +kernel
theorem sh_287 : qSh 287 = (2, 3) := by decide +kernel
theorem sh_288 : qSh 288 = (11, 24) := by decide +kernel
theorem sh_289 : qSh 289 = (2, 3) := by decide +kernel
theorem sh_290 : qSh 290 = (11, 24) := by decide +kernel
theorem sh_291 : qSh 291 = (2, 3) := by decide +kernel
theorem sh_292 : qSh 292 = (11, 24) := by decide +kernel
theorem sh_293 : qSh 293 = (2, 3) := by decide +kernel
theorem sh_294 : qSh 294 = (11, 24) := by decide +kernel
theorem sh_295 : qSh 295 = (5, 5) := by decide +kernel
theorem sh_296 : qSh 296 = (10, 8) := by decide +kernel
theorem sh_297 : qSh 297 = (7, 26) := by decide +kernel
theorem sh_298 : qSh 298 = (10, 4) := by decide +kernel
theorem sh_299 : qSh 299 = (10, 4) := by decide +kernel
theorem sh_300 : qSh 300 = (11, 96) := by decide +kernel
theorem sh_301 : qSh 301 = (10, 140) := by decide +kernel
theorem sh_302 : qSh 302 = (10, 124) := by decide +kernel
theorem sh_303 : qSh 303 = (10, 124) := by decide +kernel
theorem sh_304 : qSh 304 = (10, 124) := by decide +kernel
theorem sh_305 : qSh 305 = (10, 496) := by decide +kernel
theorem sh_306 : qSh 306 = (10, 248) := by decide +kernel
theorem sh_307 : qSh 307 = (12, 2) := by decide +kernel
theorem sh_308 : qSh 308 = (10, 2712) := by decide +kernel
theorem sh_309 : qSh 309 = (10, 8) := by decide +kernel
theorem sh_310 : qSh 310 = (12, 64) := by decide +kernel
theorem sh_311 : qSh 311 = (10, 6) := by decide +kernel
theorem sh_312 : qSh 312 = (10, 6) := by decide +kernel
theorem sh_313 : qSh 313 = (10, 64) := by decide +kernel
theorem sh_314 : qSh 314 = (11, 8) := by decide +kernel
def zI : Nat → Int32 := fun _ => 0
def tSh (t : Nat) : Prop := qSh t = (4, 13) ∧ qSh (t + 1) = (10, 64) ∧ qSh (t + 2) = (10, 6) ∧ qSh (t + 3) = (10, 6) ∧ qSh (t + 4) = (10, 6) ∧ qSh (t + 5) = (10, 6) ∧ qSh (t + 6) = (10, 6) ∧ qSh (t + 7) = (10, 24)
theorem tSh_of {t : Nat} (ht3 : t < 315) (ht4 : tId t = true) : tSh t ∧ t + 7 < 315 := by
  have h5 := tOk_all t ht3
  rw [ht4] at h5
  simp only [tShOk, Bool.not_true, Bool.false_or, Bool.and_eq_true, decide_eq_true_eq] at h5
  obtain ⟨⟨⟨⟨⟨⟨⟨⟨a0, a1⟩, a2⟩, a3⟩, a4⟩, a5⟩, a6⟩, a7⟩, a8⟩ := h5
  exact ⟨⟨a1, a2, a3, a4, a5, a6, a7, a8⟩, a0⟩
theorem tSh_5 {k : Nat} (hk : k < 5) : tSh (35 + 8 * k) := (tSh_of (by omega) (by
  unfold tId
  simp only [Bool.or_eq_true, Bool.and_eq_true, decide_eq_true_eq]
  omega)).1
theorem tSh_24 {k : Nat} (hk : k < 24) : tSh (77 + 8 * k) := (tSh_of (by omega) (by
  unfold tId
  simp only [Bool.or_eq_true, Bool.and_eq_true, decide_eq_true_eq]
  omega)).1
theorem clr_s {α : Type} {f : Nat → Nat → α} {a : Nat} {z : α} {j : Nat} : qclr f a z a j = z := by simp [qclr]
theorem clr_o {α : Type} {f : Nat → Nat → α} {a b : Nat} {z : α} (h : ¬ b = a) : qclr f a z b = f b := by funext j; simp [qclr, h]
theorem setR_s {f : qRho} {a k : Nat} {x : Option Nat} : qsetR f a k x a k = x := by simp [qsetR]
theorem setR_k {f : qRho} {a k j : Nat} {x : Option Nat} (h : ¬ j = k) : qsetR f a k x a j = f a j := by simp [qsetR, h]
theorem setR_o {f : qRho} {a k b : Nat} {x : Option Nat} (h : ¬ b = a) : qsetR f a k x b = f b := by funext j; simp [qsetR, h]
/-- everything made so far holds nothing, but for the sheets and the lane row -/
def zU (n : Nat) (μ : qMu) : Prop := ∀ a, a < n → ¬ (a = 287 ∨ a = 289 ∨ a = 291 ∨ a = 293 ∨ a = 298 ∨ a = 30 ∨ a = 76 ∨ a = 269 ∨ a = 286) → μ a = zI
/-- outside -/
def oU (μ0 μ : qMu) : Prop := ∀ a, 1000 ≤ a → μ a = μ0 a
/-- a town's references -/
def tRf (ρ : qRho) (t : Nat) : Prop := ∀ j, 6 ≤ j → j ≤ 12 → ρ t j = some (t + (j - 5))
theorem tRf_eq {ρ ρ' : qRho} {t : Nat} (h : tRf ρ t) (e : ρ' t = ρ t) : tRf ρ' t := fun j a b => by rw [e]; exact h j a b
section
variable {d : Nat} {ρ : qRho} {μ μ0 : qMu} {la : qLa} {Q : qPost}
theorem qOk_l {n a k m : Nat} {ρ : qRho} (hs : qSh a = (k, m)) (h : a < n) : qOk (n, ρ) a k = true := by simp [qOk, h, hs]
theorem qLen_l {n a k m : Nat} {ρ : qRho} (hs : qSh a = (k, m)) (h : a < n) : qLen (n, ρ) k a = m := by simp [qLen, qOk, h, hs]
theorem qLen_n {n a k k' m : Nat} {ρ : qRho} (hs : qSh a = (k, m)) (h : ¬ k = k') : qLen (n, ρ) k' a = 0 := by simp [qLen, qOk, h, hs]
theorem qIn_z {x : Int32} : qIn x 0 = false := by simp [qIn]
theorem and_lt {a b : Nat} {P : Prop} (h : a < b) : (a < b ∧ P) = P := by simp [h]
theorem zU_new {n : Nat} (h : zU n μ) : zU (n + 1) (qclr μ n 0) := fun a ha hs => by
  by_cases he : a = n
  · subst he
    exact funext fun j => clr_s
  · rw [clr_o he]; exact h a (by omega) hs
theorem zU_ref {n : Nat} (h : zU n μ) (hz : n = 287 ∨ n = 289 ∨ n = 291 ∨ n = 293 ∨ n = 298 ∨ n = 30 ∨ n = 76 ∨ n = 269 ∨ n = 286) : zU (n + 1) μ := fun a ha hs => by
  by_cases he : a = n
  · subst he
    exact absurd hz hs
  · exact h a (by omega) hs
theorem zU_set {n a k : Nat} {x : Int32} (h : zU n μ) (ha : a = 287 ∨ a = 289 ∨ a = 291 ∨ a = 293 ∨ a = 298 ∨ a = 30 ∨ a = 76 ∨ a = 269 ∨ a = 286) : zU n (qset μ a k x) := fun b hb hs => by
  rw [← h b hb hs]
  funext j
  simp [qset]
  intro h1
  omega
theorem oU_new {n : Nat} (h : oU μ0 μ) (hn : n < 1000) : oU μ0 (qclr μ n 0) := fun a ha => by rw [clr_o (by omega)]; exact h a ha
theorem oU_set {a k : Nat} {x : Int32} (h : oU μ0 μ) (hn : a < 1000) : oU μ0 (qset μ a k x) := fun b hb => by
  rw [← h b hb]
  funext j
  simp [qset]
  omega
set_option maxHeartbeats 2000000 in
theorem k_town {t : Nat} (hs : tSh t) (ht : t + 8 ≤ 1000) (hz : zU (t + 1) μ) (ho : oU μ0 μ)
    (hQ : ∀ (ρ' : qRho) (μ' : qMu) (la' : qLa), tRf ρ' t → (∀ a, ¬ a = t → ρ' a = ρ a) → zU (t + 8) μ' → oU μ0 μ' → Q none (t + 8, ρ') μ' la') : qEx (d + 1) 58 0 [] [.ref t] (t + 1, ρ) μ la Q := by
  obtain ⟨h0, h1, h2, h3, h4, h5, h6, h7⟩ := hs
  simp (disch := omega) only [x58_0, x58_1, x58_4, x58_5, x58_7, x58_9, x58_12, x58_13, x58_15, x58_17, x58_20, x58_21, x58_23, x58_25, x58_28, x58_29, x58_31, x58_33, x58_36, x58_37, x58_39, x58_41, x58_44, x58_45, x58_47, x58_49, x58_52, x58_53, x58_55, x58_57, x58_60, h1, h2, h3, h4, h5, h6, h7, qOk_l h0, Nat.add_assoc, and_lt, ↓nm_1, ↓nm_2, ↓nm_3, ↓nm_4, ↓nm_11, ↓nm_12, ↓nm_13, ↓nm_14, ↓nm_100, nl_0, nl_1, nl_2, nl_3, nl_4, nl_5, nl_6, nl_7, nl_8, nl_9, nl_10, nl_11, nl_12, nl_13, nl_14, nl_15, nl_16, nl_17, nl_18, nl_19, nl_20, nl_22, nl_23, nl_24, nl_25, nl_30, nl_31, nl_34, nl_35, nl_40, nl_43, nl_46, nl_47, nl_48, nl_49, nl_50, nl_57, nl_58, nl_59, nl_63, nl_64, nl_94, nl_97, nl_98, nl_99, nl_100, nl_101, nl_102, nl_105, nl_108, nl_110, nl_111, nl_112, nl_113, nl_114, nl_115, nl_116, nl_117, nl_118, nl_119, nl_124, nl_126, nl_138, nl_140, nl_255, nl_720, nl_1024, nl_9999, nl_99999, nl_999999, nl_1000000, eq_self, Bool.false_eq_true, Bool.true_and, Bool.and_true, Bool.false_and, Bool.and_false, Bool.not_true, Bool.not_false, nI_toInt, or_true, true_or, or_false, false_or, nI_clamp, nI_leI, nI_ltI, nI_eq, e_nm, e_mn, e_mm, l_nm, l_mn, l_mm, le_nm, le_mn, le_mm, nI_add, nI_mull, nI_sub, nI_subn, nI_divl, nsm, qIn_nI, Nat.zero_le, Nat.not_lt_zero, Nat.reduceAdd, Nat.reduceMul, Nat.reduceSub, Nat.reduceDiv, Nat.reduceMod, Nat.reduceEqDiff, Nat.reduceLeDiff, Nat.reduceLT, Nat.add_zero, Nat.zero_add, not_false_eq_true, not_true_eq_false, true_and, and_true, Option.toList_some, Option.toList_none, List.cons_append, List.nil_append, qrf, if_true, if_false, if_pos, if_neg, reduceIte, ne_eq, Classical.not_not]
  refine hQ _ _ _ (fun j hj1 hj2 => ?_) (fun a ha => ?_) ?_ ?_
  · rcases (show j = 6 ∨ j = 7 ∨ j = 8 ∨ j = 9 ∨ j = 10 ∨ j = 11 ∨ j = 12 by omega) with rfl | rfl | rfl | rfl | rfl | rfl | rfl <;> simp [qsetR]
  · rw [setR_o (by omega), setR_o (by omega), setR_o (by omega), setR_o (by omega), setR_o (by omega), setR_o (by omega), setR_o (by omega)]
  · exact zU_new (zU_new (zU_new (zU_new (zU_new (zU_new (zU_new hz))))))
  · exact oU_new (oU_new (oU_new (oU_new (oU_new (oU_new (oU_new ho (by omega)) (by omega)) (by omega)) (by omega)) (by omega)) (by omega)) (by omega)
theorem k_tape (hz : zU 2 μ) (ho : oU μ0 μ)
    (hQ : ∀ (ρ' : qRho) (μ' : qMu) (la' : qLa), ρ' 1 0 = some 2 → ρ' 1 1 = some 3 → tRf ρ' 3 → (∀ a, ¬ (a = 1 ∨ a = 3) → ρ' a = ρ a) → zU 11 μ' → oU μ0 μ' → Q none (11, ρ') μ' la') : qEx (d + 2) 44 0 [] [.ref 1] (2, ρ) μ la Q := by
  have h3 : tSh 3 := (tSh_of (by decide) (by decide +kernel)).1
  simp (disch := omega) only [x44_0, x44_1, x44_4, x44_5, x44_8, x44_10, x44_13, x44_14, x44_17, x44_18, x44_21, x44_24, sh_1, sh_2, qOk_l sh_1, h3.1, and_lt, ↓nm_1, ↓nm_2, ↓nm_3, ↓nm_4, ↓nm_11, ↓nm_12, ↓nm_13, ↓nm_14, ↓nm_100, nl_0, nl_1, nl_2, nl_3, nl_4, nl_5, nl_6, nl_7, nl_8, nl_9, nl_10, nl_11, nl_12, nl_13, nl_14, nl_15, nl_16, nl_17, nl_18, nl_19, nl_20, nl_22, nl_23, nl_24, nl_25, nl_30, nl_31, nl_34, nl_35, nl_40, nl_43, nl_46, nl_47, nl_48, nl_49, nl_50, nl_57, nl_58, nl_59, nl_63, nl_64, nl_94, nl_97, nl_98, nl_99, nl_100, nl_101, nl_102, nl_105, nl_108, nl_110, nl_111, nl_112, nl_113, nl_114, nl_115, nl_116, nl_117, nl_118, nl_119, nl_124, nl_126, nl_138, nl_140, nl_255, nl_720, nl_1024, nl_9999, nl_99999, nl_999999, nl_1000000, eq_self, Bool.false_eq_true, Bool.true_and, Bool.and_true, Bool.false_and, Bool.and_false, Bool.not_true, Bool.not_false, nI_toInt, or_true, true_or, or_false, false_or, nI_clamp, nI_leI, nI_ltI, nI_eq, e_nm, e_mn, e_mm, l_nm, l_mn, l_mm, le_nm, le_mn, le_mm, nI_add, nI_mull, nI_sub, nI_subn, nI_divl, nsm, qIn_nI, Nat.zero_le, Nat.not_lt_zero, Nat.reduceAdd, Nat.reduceMul, Nat.reduceSub, Nat.reduceDiv, Nat.reduceMod, Nat.reduceEqDiff, Nat.reduceLeDiff, Nat.reduceLT, Nat.add_zero, Nat.zero_add, not_false_eq_true, not_true_eq_false, true_and, and_true, Option.toList_some, Option.toList_none, List.cons_append, List.nil_append, qrf, if_true, if_false, if_pos, if_neg, reduceIte, ne_eq, Classical.not_not]
  refine k_town h3 (by decide) (zU_new (zU_new hz)) (oU_new (oU_new ho (by decide)) (by decide)) fun ρ1 μ1 la1 a1 a2 a3 a4 => ?_
  simp (disch := omega) only [x44_0, x44_1, x44_4, x44_5, x44_8, x44_10, x44_13, x44_14, x44_17, x44_18, x44_21, x44_24, sh_1, sh_2, qOk_l sh_1, h3.1, and_lt, ↓nm_1, ↓nm_2, ↓nm_3, ↓nm_4, ↓nm_11, ↓nm_12, ↓nm_13, ↓nm_14, ↓nm_100, nl_0, nl_1, nl_2, nl_3, nl_4, nl_5, nl_6, nl_7, nl_8, nl_9, nl_10, nl_11, nl_12, nl_13, nl_14, nl_15, nl_16, nl_17, nl_18, nl_19, nl_20, nl_22, nl_23, nl_24, nl_25, nl_30, nl_31, nl_34, nl_35, nl_40, nl_43, nl_46, nl_47, nl_48, nl_49, nl_50, nl_57, nl_58, nl_59, nl_63, nl_64, nl_94, nl_97, nl_98, nl_99, nl_100, nl_101, nl_102, nl_105, nl_108, nl_110, nl_111, nl_112, nl_113, nl_114, nl_115, nl_116, nl_117, nl_118, nl_119, nl_124, nl_126, nl_138, nl_140, nl_255, nl_720, nl_1024, nl_9999, nl_99999, nl_999999, nl_1000000, eq_self, Bool.false_eq_true, Bool.true_and, Bool.and_true, Bool.false_and, Bool.and_false, Bool.not_true, Bool.not_false, nI_toInt, or_true, true_or, or_false, false_or, nI_clamp, nI_leI, nI_ltI, nI_eq, e_nm, e_mn, e_mm, l_nm, l_mn, l_mm, le_nm, le_mn, le_mm, nI_add, nI_mull, nI_sub, nI_subn, nI_divl, nsm, qIn_nI, Nat.zero_le, Nat.not_lt_zero, Nat.reduceAdd, Nat.reduceMul, Nat.reduceSub, Nat.reduceDiv, Nat.reduceMod, Nat.reduceEqDiff, Nat.reduceLeDiff, Nat.reduceLT, Nat.add_zero, Nat.zero_add, not_false_eq_true, not_true_eq_false, true_and, and_true, Option.toList_some, Option.toList_none, List.cons_append, List.nil_append, qrf, if_true, if_false, if_pos, if_neg, reduceIte, ne_eq, Classical.not_not]
  refine hQ _ _ _ ?_ ?_ ?_ (fun a ha => ?_) a3 a4
  · rw [setR_k (by decide), a2 1 (by decide), clr_o (by decide), setR_s]
  · rw [setR_s]
  · exact tRf_eq a1 (setR_o (by decide))
  · rw [setR_o (by omega), a2 a (by omega), clr_o (by omega), setR_o (by omega)]
theorem k_walk {w : Nat} (h0 : qSh w = (5, 5)) (h1 : qSh (w + 1) = (10, 8)) (hw : w < 900) (hz : zU (w + 1) μ) (ho : oU μ0 μ)
    (hQ : ∀ (ρ' : qRho) (μ' : qMu) (la' : qLa), ρ' w 0 = some (w + 1) → (∀ a, ¬ a = w → ρ' a = ρ a) → zU (w + 2) μ' → oU μ0 μ' → (∀ a, ¬ a = w + 1 → μ' a = μ a) → Q none (w + 2, ρ') μ' la') : qEx (d + 1) 70 0 [] [.ref w] (w + 1, ρ) μ la Q := by
  simp (disch := omega) only [x70_0, x70_1, x70_4, x70_5, x70_7, x70_9, x70_12, h1, qOk_l h0, Nat.add_assoc, and_lt, ↓nm_1, ↓nm_2, ↓nm_3, ↓nm_4, ↓nm_11, ↓nm_12, ↓nm_13, ↓nm_14, ↓nm_100, nl_0, nl_1, nl_2, nl_3, nl_4, nl_5, nl_6, nl_7, nl_8, nl_9, nl_10, nl_11, nl_12, nl_13, nl_14, nl_15, nl_16, nl_17, nl_18, nl_19, nl_20, nl_22, nl_23, nl_24, nl_25, nl_30, nl_31, nl_34, nl_35, nl_40, nl_43, nl_46, nl_47, nl_48, nl_49, nl_50, nl_57, nl_58, nl_59, nl_63, nl_64, nl_94, nl_97, nl_98, nl_99, nl_100, nl_101, nl_102, nl_105, nl_108, nl_110, nl_111, nl_112, nl_113, nl_114, nl_115, nl_116, nl_117, nl_118, nl_119, nl_124, nl_126, nl_138, nl_140, nl_255, nl_720, nl_1024, nl_9999, nl_99999, nl_999999, nl_1000000, eq_self, Bool.false_eq_true, Bool.true_and, Bool.and_true, Bool.false_and, Bool.and_false, Bool.not_true, Bool.not_false, nI_toInt, or_true, true_or, or_false, false_or, nI_clamp, nI_leI, nI_ltI, nI_eq, e_nm, e_mn, e_mm, l_nm, l_mn, l_mm, le_nm, le_mn, le_mm, nI_add, nI_mull, nI_sub, nI_subn, nI_divl, nsm, qIn_nI, Nat.zero_le, Nat.not_lt_zero, Nat.reduceAdd, Nat.reduceMul, Nat.reduceSub, Nat.reduceDiv, Nat.reduceMod, Nat.reduceEqDiff, Nat.reduceLeDiff, Nat.reduceLT, Nat.add_zero, Nat.zero_add, not_false_eq_true, not_true_eq_false, true_and, and_true, Option.toList_some, Option.toList_none, List.cons_append, List.nil_append, qrf, if_true, if_false, if_pos, if_neg, reduceIte, ne_eq, Classical.not_not]
  exact hQ _ _ _ setR_s (fun a ha => setR_o ha) (zU_new hz) (oU_new ho (by omega)) fun a ha => clr_o ha
theorem k_sheet {s : Nat} (h0 : qSh s = (2, 3)) (h1 : qSh (s + 1) = (11, 24)) (hw : s < 900) (hQ : Q none (s + 2, qsetR ρ s 0 (some (s + 1))) (qset (qclr μ (s + 1) 0) s 1 (mI 1)) (qclr la (s + 1) 0)) : qEx (d + 1) 37 0 [] [.ref s] (s + 1, ρ) μ la Q := by
  simp (disch := omega) only [x37_0, x37_1, x37_4, x37_5, x37_7, x37_9, x37_12, x37_13, x37_14, x37_17, h1, qOk_l h0, Nat.add_assoc, and_lt, ↓nm_1, ↓nm_2, ↓nm_3, ↓nm_4, ↓nm_11, ↓nm_12, ↓nm_13, ↓nm_14, ↓nm_100, nl_0, nl_1, nl_2, nl_3, nl_4, nl_5, nl_6, nl_7, nl_8, nl_9, nl_10, nl_11, nl_12, nl_13, nl_14, nl_15, nl_16, nl_17, nl_18, nl_19, nl_20, nl_22, nl_23, nl_24, nl_25, nl_30, nl_31, nl_34, nl_35, nl_40, nl_43, nl_46, nl_47, nl_48, nl_49, nl_50, nl_57, nl_58, nl_59, nl_63, nl_64, nl_94, nl_97, nl_98, nl_99, nl_100, nl_101, nl_102, nl_105, nl_108, nl_110, nl_111, nl_112, nl_113, nl_114, nl_115, nl_116, nl_117, nl_118, nl_119, nl_124, nl_126, nl_138, nl_140, nl_255, nl_720, nl_1024, nl_9999, nl_99999, nl_999999, nl_1000000, eq_self, Bool.false_eq_true, Bool.true_and, Bool.and_true, Bool.false_and, Bool.and_false, Bool.not_true, Bool.not_false, nI_toInt, or_true, true_or, or_false, false_or, nI_clamp, nI_leI, nI_ltI, nI_eq, e_nm, e_mn, e_mm, l_nm, l_mn, l_mm, le_nm, le_mn, le_mm, nI_add, nI_mull, nI_sub, nI_subn, nI_divl, nsm, qIn_nI, Nat.zero_le, Nat.not_lt_zero, Nat.reduceAdd, Nat.reduceMul, Nat.reduceSub, Nat.reduceDiv, Nat.reduceMod, Nat.reduceEqDiff, Nat.reduceLeDiff, Nat.reduceLT, Nat.add_zero, Nat.zero_add, not_false_eq_true, not_true_eq_false, true_and, and_true, Option.toList_some, Option.toList_none, List.cons_append, List.nil_append, qrf, if_true, if_false, if_pos, if_neg, reduceIte, ne_eq, Classical.not_not]
  exact hQ
theorem k_past1 : ∀ (n k : Nat) (ρ : qRho) (μ : qMu) (la : qLa), k + n = 24 → zU (77 + 8 * k) μ → oU μ0 μ → ρ 75 0 = some 76 → (∀ i, i < k → ρ 76 i = some (77 + 8 * i) ∧ tRf ρ (77 + 8 * i)) →
    (∀ (ρ' : qRho) (μ' : qMu) (la' : qLa), ρ' 75 0 = some 76 → (∀ i, i < 24 → ρ' 76 i = some (77 + 8 * i) ∧ tRf ρ' (77 + 8 * i)) → (∀ a, a < 76 → ρ' a = ρ a) → zU 269 μ' → oU μ0 μ' → Q none (269, ρ') μ' la') →
    qEx (d + 2) 0 15 [] [.ref 75, .int (nI k)] (77 + 8 * k, ρ) μ la Q := by
  intro n
  induction n with
  | zero =>
    intro k ρ μ la hk hz ho h0 hi hQ
    obtain rfl : k = 24 := by omega
    simp (disch := omega) only [x0_0, x0_1, x0_4, x0_5, x0_7, x0_10, x0_13, x0_14, x0_15, x0_16, x0_18, x0_21, x0_22, x0_25, x0_26, x0_29, x0_30, x0_33, x0_34, x0_37, x0_40, ↓nm_1, ↓nm_2, ↓nm_3, ↓nm_4, ↓nm_11, ↓nm_12, ↓nm_13, ↓nm_14, ↓nm_100, nl_0, nl_1, nl_2, nl_3, nl_4, nl_5, nl_6, nl_7, nl_8, nl_9, nl_10, nl_11, nl_12, nl_13, nl_14, nl_15, nl_16, nl_17, nl_18, nl_19, nl_20, nl_22, nl_23, nl_24, nl_25, nl_30, nl_31, nl_34, nl_35, nl_40, nl_43, nl_46, nl_47, nl_48, nl_49, nl_50, nl_57, nl_58, nl_59, nl_63, nl_64, nl_94, nl_97, nl_98, nl_99, nl_100, nl_101, nl_102, nl_105, nl_108, nl_110, nl_111, nl_112, nl_113, nl_114, nl_115, nl_116, nl_117, nl_118, nl_119, nl_124, nl_126, nl_138, nl_140, nl_255, nl_720, nl_1024, nl_9999, nl_99999, nl_999999, nl_1000000, eq_self, Bool.false_eq_true, Bool.true_and, Bool.and_true, Bool.false_and, Bool.and_false, Bool.not_true, Bool.not_false, nI_toInt, or_true, true_or, or_false, false_or, nI_clamp, nI_leI, nI_ltI, nI_eq, e_nm, e_mn, e_mm, l_nm, l_mn, l_mm, le_nm, le_mn, le_mm, nI_add, nI_mull, nI_sub, nI_subn, nI_divl, nsm, qIn_nI, Nat.zero_le, Nat.not_lt_zero, Nat.reduceAdd, Nat.reduceMul, Nat.reduceSub, Nat.reduceDiv, Nat.reduceMod, Nat.reduceEqDiff, Nat.reduceLeDiff, Nat.reduceLT, Nat.add_zero, Nat.zero_add, not_false_eq_true, not_true_eq_false, true_and, and_true, Option.toList_some, Option.toList_none, List.cons_append, List.nil_append, qrf, if_true, if_false, if_pos, if_neg, reduceIte, ne_eq, Classical.not_not]
    exact hQ _ _ _ h0 hi (fun _ _ => rfl) hz ho
  | succ n ih =>
    intro k ρ μ la hk hz ho h0 hi hQ
    have h3 := tSh_24 (k := k) (by omega)
    rw [x0_15]
    simp (disch := omega) only [x0_0, x0_1, x0_4, x0_5, x0_7, x0_10, x0_13, x0_14, x0_16, x0_18, x0_21, x0_22, x0_25, x0_26, x0_29, x0_30, x0_33, x0_34, x0_37, x0_40, h0, sh_75, sh_76, qOk_l sh_75, h3.1, and_lt, ↓nm_1, ↓nm_2, ↓nm_3, ↓nm_4, ↓nm_11, ↓nm_12, ↓nm_13, ↓nm_14, ↓nm_100, nl_0, nl_1, nl_2, nl_3, nl_4, nl_5, nl_6, nl_7, nl_8, nl_9, nl_10, nl_11, nl_12, nl_13, nl_14, nl_15, nl_16, nl_17, nl_18, nl_19, nl_20, nl_22, nl_23, nl_24, nl_25, nl_30, nl_31, nl_34, nl_35, nl_40, nl_43, nl_46, nl_47, nl_48, nl_49, nl_50, nl_57, nl_58, nl_59, nl_63, nl_64, nl_94, nl_97, nl_98, nl_99, nl_100, nl_101, nl_102, nl_105, nl_108, nl_110, nl_111, nl_112, nl_113, nl_114, nl_115, nl_116, nl_117, nl_118, nl_119, nl_124, nl_126, nl_138, nl_140, nl_255, nl_720, nl_1024, nl_9999, nl_99999, nl_999999, nl_1000000, eq_self, Bool.false_eq_true, Bool.true_and, Bool.and_true, Bool.false_and, Bool.and_false, Bool.not_true, Bool.not_false, nI_toInt, or_true, true_or, or_false, false_or, nI_clamp, nI_leI, nI_ltI, nI_eq, e_nm, e_mn, e_mm, l_nm, l_mn, l_mm, le_nm, le_mn, le_mm, nI_add, nI_mull, nI_sub, nI_subn, nI_divl, nsm, qIn_nI, Nat.zero_le, Nat.not_lt_zero, Nat.reduceAdd, Nat.reduceMul, Nat.reduceSub, Nat.reduceDiv, Nat.reduceMod, Nat.reduceEqDiff, Nat.reduceLeDiff, Nat.reduceLT, Nat.add_zero, Nat.zero_add, not_false_eq_true, not_true_eq_false, true_and, and_true, Option.toList_some, Option.toList_none, List.cons_append, List.nil_append, qrf, if_true, if_false, if_pos, if_neg, reduceIte, ne_eq, Classical.not_not]
    refine k_town h3 (by omega) (zU_new hz) (oU_new ho (by omega)) fun ρ1 μ1 la1 a1 a2 a3 a4 => ?_
    simp (disch := omega) only [x0_0, x0_1, x0_4, x0_5, x0_7, x0_10, x0_13, x0_14, x0_16, x0_18, x0_21, x0_22, x0_25, x0_26, x0_29, x0_30, x0_33, x0_34, x0_37, x0_40, sh_75, sh_76, qOk_l sh_75, qOk_l h3.1, qLen_l sh_76, and_lt, ↓nm_1, ↓nm_2, ↓nm_3, ↓nm_4, ↓nm_11, ↓nm_12, ↓nm_13, ↓nm_14, ↓nm_100, nl_0, nl_1, nl_2, nl_3, nl_4, nl_5, nl_6, nl_7, nl_8, nl_9, nl_10, nl_11, nl_12, nl_13, nl_14, nl_15, nl_16, nl_17, nl_18, nl_19, nl_20, nl_22, nl_23, nl_24, nl_25, nl_30, nl_31, nl_34, nl_35, nl_40, nl_43, nl_46, nl_47, nl_48, nl_49, nl_50, nl_57, nl_58, nl_59, nl_63, nl_64, nl_94, nl_97, nl_98, nl_99, nl_100, nl_101, nl_102, nl_105, nl_108, nl_110, nl_111, nl_112, nl_113, nl_114, nl_115, nl_116, nl_117, nl_118, nl_119, nl_124, nl_126, nl_138, nl_140, nl_255, nl_720, nl_1024, nl_9999, nl_99999, nl_999999, nl_1000000, eq_self, Bool.false_eq_true, Bool.true_and, Bool.and_true, Bool.false_and, Bool.and_false, Bool.not_true, Bool.not_false, nI_toInt, or_true, true_or, or_false, false_or, nI_clamp, nI_leI, nI_ltI, nI_eq, e_nm, e_mn, e_mm, l_nm, l_mn, l_mm, le_nm, le_mn, le_mm, nI_add, nI_mull, nI_sub, nI_subn, nI_divl, nsm, qIn_nI, Nat.zero_le, Nat.not_lt_zero, Nat.reduceAdd, Nat.reduceMul, Nat.reduceSub, Nat.reduceDiv, Nat.reduceMod, Nat.reduceEqDiff, Nat.reduceLeDiff, Nat.reduceLT, Nat.add_zero, Nat.zero_add, not_false_eq_true, not_true_eq_false, true_and, and_true, Option.toList_some, Option.toList_none, List.cons_append, List.nil_append, qrf, if_true, if_false, if_pos, if_neg, reduceIte, ne_eq, Classical.not_not]
    have e76 : ∀ a, ¬ a = 77 + 8 * k → qclr ρ (77 + 8 * k) none a = ρ a := fun a ha => clr_o ha
    refine ih (k + 1) _ _ _ (by omega) a3 a4 ?_ (fun i hik => ?_) fun ρ' μ' la' b1 b2 b3 b4 b5 => ?_
    · rw [setR_o (by omega), a2 _ (by omega), e76 _ (by omega)]; exact h0
    · by_cases he : i = k
      · subst he
        exact ⟨setR_s, tRf_eq a1 (setR_o (by omega))⟩
      · refine ⟨?_, tRf_eq (hi i (by omega)).2 ?_⟩
        · rw [setR_k he, a2 _ (by omega), e76 _ (by omega)]; exact (hi i (by omega)).1
        · rw [setR_o (by omega), a2 _ (by omega), e76 _ (by omega)]
    · refine hQ _ _ _ b1 b2 (fun a ha => ?_) b4 b5
      rw [b3 a ha, setR_o (by omega), a2 _ (by omega), e76 _ (by omega)]
end
