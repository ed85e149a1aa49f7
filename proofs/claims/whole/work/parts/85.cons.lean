/-! what the constructors make -/
theorem sh_0 : qSh 0 = (6, 7) := by decide +kernel
theorem sh_1 : qSh 1 = (3, 4) := by decide +kernel
theorem sh_2 : qSh 2 = (10, 140) := by decide +kernel
theorem sh_11 : qSh 11 = (1, 8) := by decide +kernel
theorem sh_28 : qSh 28 = (5, 5) := by decide +kernel
theorem sh_29 : qSh 29 = (10, 8) := by decide +kernel
theorem sh_30 : qSh 30 = (13, 5) := by decide +kernel
theorem sh_31 : qSh 31 = (10, 6) := by decide +kernel
theorem sh_32 : qSh 32 = (10, 6) := by decide +kernel
theorem sh_33 : qSh 33 = (10, 1024) := by decide +kernel
theorem sh_34 : qSh 34 = (10, 64) := by decide +kernel
theorem sh_75 : qSh 75 = (0, 3) := by decide +kernel
theorem sh_76 : qSh 76 = (13, 24) := by decide +kernel
theorem sh_269 : qSh 269 = (13, 2) := by decide +kernel
theorem sh_286 : qSh 286 = (14, 4) := by decide +kernel
theorem sh_287 : qSh 287 = (2, 3) := by decide +kernel
theorem sh_288 : qSh 288 = (11, 24) := by decide +kernel
theorem sh_289 : qSh 289 = (2, 3) := by decide +kernel
theorem sh_290 : qSh 290 = (11, 24) := by decide +kernel
theorem sh_291 : qSh 291 = (2, 3) := by decide +kernel
theorem sh_292 : qSh 292 = (11, 24) := by decide +kernel
theorem sh_293 : qSh 293 = (2, 3) := by decide +kernel
theorem sh_294 : qSh 294 = (11, 24) := by decide +kernel
theorem sh_295 : qSh 295 = (5, 5) := by decide +kernel
theorem sh_296 : qSh 296 = (10, 8) := by decide +kernel
theorem sh_297 : qSh 297 = (7, 26) := by decide +kernel
theorem sh_298 : qSh 298 = (10, 4) := by decide +kernel
theorem sh_299 : qSh 299 = (10, 4) := by decide +kernel
theorem sh_300 : qSh 300 = (11, 96) := by decide +kernel
theorem sh_301 : qSh 301 = (10, 140) := by decide +kernel
theorem sh_302 : qSh 302 = (10, 124) := by decide +kernel
theorem sh_303 : qSh 303 = (10, 124) := by decide +kernel
theorem sh_304 : qSh 304 = (10, 124) := by decide +kernel
theorem sh_305 : qSh 305 = (10, 496) := by decide +kernel
theorem sh_306 : qSh 306 = (10, 248) := by decide +kernel
theorem sh_307 : qSh 307 = (12, 2) := by decide +kernel
theorem sh_308 : qSh 308 = (10, 2712) := by decide +kernel
theorem sh_309 : qSh 309 = (10, 8) := by decide +kernel
theorem sh_310 : qSh 310 = (12, 64) := by decide +kernel
theorem sh_311 : qSh 311 = (10, 6) := by decide +kernel
theorem sh_312 : qSh 312 = (10, 6) := by decide +kernel
theorem sh_313 : qSh 313 = (10, 64) := by decide +kernel
theorem sh_314 : qSh 314 = (11, 8) := by decide +kernel
def zI : Nat → Int32 := fun _ => 0
def zL : Nat → Int64 := fun _ => 0
def tSh (t : Nat) : Prop := qSh t = (4, 13) ∧ qSh (t + 1) = (10, 64) ∧ qSh (t + 2) = (10, 6) ∧ qSh (t + 3) = (10, 6) ∧ qSh (t + 4) = (10, 6) ∧ qSh (t + 5) = (10, 6) ∧ qSh (t + 6) = (10, 6) ∧ qSh (t + 7) = (10, 24)
theorem clr_s {α : Type} {f : Nat → Nat → α} {a : Nat} {z : α} {j : Nat} : qclr f a z a j = z := by simp [qclr]
theorem clr_o {α : Type} {f : Nat → Nat → α} {a b : Nat} {z : α} (h : ¬ b = a) : qclr f a z b = f b := by funext j; simp [qclr, h]
theorem setR_s {f : qRho} {a k : Nat} {x : Option Nat} : qsetR f a k x a k = x := by simp [qsetR]
theorem setR_k {f : qRho} {a k j : Nat} {x : Option Nat} (h : ¬ j = k) : qsetR f a k x a j = f a j := by simp [qsetR, h]
theorem setR_o {f : qRho} {a k b : Nat} {x : Option Nat} (h : ¬ b = a) : qsetR f a k x b = f b := by funext j; simp [qsetR, h]
/-- everything made so far holds nothing, but for what is said -/
def zU (n : Nat) (μ : qMu) (la : qLa) : Prop := ∀ a, a < n → μ a = zI ∧ la a = zL
/-- outside -/
def oU (μ0 μ : qMu) : Prop := ∀ a, 1000 ≤ a → μ a = μ0 a
/-- a town's references -/
def tRf (ρ : qRho) (t : Nat) : Prop := ∀ j, 6 ≤ j → j ≤ 12 → ρ t j = some (t + (j - 5))
section
variable {d : Nat} {ρ : qRho} {μ μ0 : qMu} {la : qLa} {Q : qPost}
theorem qOk_lt {n a k m : Nat} {ρ : qRho} (h : a < n) (hs : qSh a = (k, m)) : qOk (n, ρ) a k = true := by simp [qOk, h, hs]
theorem and_lt {a b : Nat} {P : Prop} (h : a < b) : (a < b ∧ P) = P := by simp [h]
theorem zU_new {n : Nat} (h : zU n μ la) : zU (n + 1) (qclr μ n 0) (qclr la n 0) := fun a ha => by
  by_cases he : a = n
  · subst he
    exact ⟨funext fun j => clr_s, funext fun j => clr_s⟩
  · rw [clr_o he, clr_o he]; exact h a (by omega)
theorem zU_new' {n : Nat} (h : zU n μ la) (hl : la n = zL) : zU (n + 1) (qclr μ n 0) la := fun a ha => by
  by_cases he : a = n
  · subst he
    exact ⟨funext fun j => clr_s, hl⟩
  · rw [clr_o he]; exact h a (by omega)
theorem oU_new {n : Nat} (h : oU μ0 μ) (hn : n < 1000) : oU μ0 (qclr μ n 0) := fun a ha => by rw [clr_o (by omega)]; exact h a ha
/-- longs that were never written -/
def hL (n : Nat) (la : qLa) : Prop := ∀ a, n ≤ a → la a = zL
theorem hL_new {n m : Nat} (h : hL n la) : hL n (qclr la m 0) := fun a ha => by
  by_cases he : a = m
  · subst he; exact funext fun j => clr_s
  · rw [clr_o he]; exact h a ha
theorem hL_up {n m : Nat} (h : hL n la) (hm : n ≤ m) : hL m la := fun a ha => h a (by omega)
set_option maxHeartbeats 2000000 in
theorem k_town {t : Nat} (hs : tSh t) (ht : t + 8 ≤ 1000) (hz : zU (t + 1) μ la) (ho : oU μ0 μ) (hl : hL 0 la)
    (hQ : ∀ (ρ' : qRho) (μ' : qMu) (la' : qLa), tRf ρ' t → (∀ a, a < t → ρ' a = ρ a) → zU (t + 8) μ' la' → oU μ0 μ' → hL 0 la' → Q none (t + 8, ρ') μ' la') : qEx (d + 1) 58 0 [] [.ref t] (t + 1, ρ) μ la Q := by
  obtain ⟨h0, h1, h2, h3, h4, h5, h6, h7⟩ := hs
  simp (disch := omega) only [x58_0, x58_1, x58_4, x58_5, x58_7, x58_9, x58_12, x58_13, x58_15, x58_17, x58_20, x58_21, x58_23, x58_25, x58_28, x58_29, x58_31, x58_33, x58_36, x58_37, x58_39, x58_41, x58_44, x58_45, x58_47, x58_49, x58_52, x58_53, x58_55, x58_57, x58_60, h1, h2, h3, h4, h5, h6, h7, qOk_lt (k := 4) (m := 13) (a := t) _ h0, Nat.add_assoc, and_lt, ↓nm_1, ↓nm_2, ↓nm_3, ↓nm_4, ↓nm_11, ↓nm_12, ↓nm_13, ↓nm_14, ↓nm_100, nl_0, nl_1, nl_2, nl_3, nl_4, nl_5, nl_6, nl_7, nl_8, nl_9, nl_10, nl_11, nl_12, nl_13, nl_14, nl_15, nl_16, nl_17, nl_18, nl_19, nl_20, nl_22, nl_23, nl_24, nl_25, nl_30, nl_31, nl_34, nl_35, nl_40, nl_43, nl_46, nl_47, nl_48, nl_49, nl_50, nl_57, nl_58, nl_59, nl_63, nl_64, nl_94, nl_97, nl_98, nl_99, nl_100, nl_101, nl_102, nl_105, nl_108, nl_110, nl_111, nl_112, nl_113, nl_114, nl_115, nl_116, nl_117, nl_118, nl_119, nl_124, nl_126, nl_138, nl_140, nl_255, nl_720, nl_1024, nl_9999, nl_99999, nl_999999, nl_1000000, eq_self, Bool.false_eq_true, Bool.true_and, Bool.and_true, Bool.false_and, Bool.and_false, Bool.not_true, Bool.not_false, nI_toInt, or_true, true_or, or_false, false_or, nI_clamp, nI_leI, nI_ltI, nI_eq, e_nm, e_mn, e_mm, l_nm, l_mn, l_mm, le_nm, le_mn, le_mm, nI_add, nI_mull, nI_sub, nI_subn, nI_divl, nsm, qIn_nI, Nat.zero_le, Nat.not_lt_zero, Nat.reduceAdd, Nat.reduceMul, Nat.reduceSub, Nat.reduceDiv, Nat.reduceMod, Nat.reduceEqDiff, Nat.reduceLeDiff, Nat.reduceLT, Nat.add_zero, Nat.zero_add, not_false_eq_true, not_true_eq_false, true_and, and_true, Option.toList_some, Option.toList_none, List.cons_append, List.nil_append, qrf, if_true, if_false, if_pos, if_neg, reduceIte, ne_eq, Classical.not_not]
  refine hQ _ _ _ (fun j hj1 hj2 => ?_) (fun a ha => ?_) ?_ ?_ ?_
  · rcases (show j = 6 ∨ j = 7 ∨ j = 8 ∨ j = 9 ∨ j = 10 ∨ j = 11 ∨ j = 12 by omega) with rfl | rfl | rfl | rfl | rfl | rfl | rfl <;> simp [qsetR]
  · rw [setR_o (by omega), setR_o (by omega), setR_o (by omega), setR_o (by omega), setR_o (by omega), setR_o (by omega), setR_o (by omega)]
  · exact zU_new (zU_new (zU_new (zU_new (zU_new (zU_new (zU_new hz))))))
  · exact oU_new (oU_new (oU_new (oU_new (oU_new (oU_new (oU_new ho (by omega)) (by omega)) (by omega)) (by omega)) (by omega)) (by omega)) (by omega)
  · exact hL_new (hL_new (hL_new (hL_new (hL_new (hL_new (hL_new hl))))))
end
