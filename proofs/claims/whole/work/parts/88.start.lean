/-! the start of the law's state -/
theorem nl_96 : (96 : Int32) = nI 96 := rfl
theorem nl_496 : (496 : Int32) = nI 496 := rfl
theorem nl_248 : (248 : Int32) = nI 248 := rfl
theorem nl_2712 : (2712 : Int32) = nI 2712 := rfl
theorem set_f {f : qMu} {a k b : Nat} {x : Int32} (h : ¬ b = a) : qset f a k x b = f b := by funext j; simp [qset, h]
abbrev st0 : wS := ([], zT, [], fun _ => zT, fun _ => (0, 0, fun _ => 0))
theorem nR_fr {ρ ρ' : qRho} (h : nR ρ) (e : ∀ a, a < 297 → ρ' a = ρ a) : nR ρ' := by
  obtain ⟨h1, h2, h3, h4, h5, h6, h7, h8, h9, h10, h11, h12⟩ := h
  refine ⟨rfl, ?_, ?_, ?_, fun k hk => ?_, ?_, fun k hk => ?_, fun k hk => ?_, fun k hk => ⟨?_, ?_⟩, fun t ht j hj1 hj2 => ?_, ?_, ?_⟩
  · rw [show ((315, ρ') : qSg).2 0 = ρ 0 from e 0 (by omega)]; exact h2
  · rw [show ((315, ρ') : qSg).2 1 = ρ 1 from e 1 (by omega)]; exact h3
  · rw [show ((315, ρ') : qSg).2 11 = ρ 11 from e 11 (by omega)]; exact h4
  · rw [show ((315, ρ') : qSg).2 30 = ρ 30 from e 30 (by omega)]; exact h5 k hk
  · rw [show ((315, ρ') : qSg).2 75 = ρ 75 from e 75 (by omega)]; exact h6
  · rw [show ((315, ρ') : qSg).2 76 = ρ 76 from e 76 (by omega)]; exact h7 k hk
  · rw [show ((315, ρ') : qSg).2 269 = ρ 269 from e 269 (by omega)]; exact h8 k hk
  · rw [show ((315, ρ') : qSg).2 286 = ρ 286 from e 286 (by omega)]; exact (h9 k hk).1
  · rw [show ((315, ρ') : qSg).2 (287 + 2 * k) = ρ (287 + 2 * k) from e _ (by omega)]; exact (h9 k hk).2
  · rw [show ((315, ρ') : qSg).2 t = ρ t from e _ (by omega)]; exact h10 t ht j hj1 hj2
  · rw [show ((315, ρ') : qSg).2 28 = ρ 28 from e _ (by omega)]; exact h11
  · rw [show ((315, ρ') : qSg).2 295 = ρ 295 from e _ (by omega)]; exact h12
theorem zTw {n t : Nat} {μ : qMu} (hz : zU n μ) (ht : t + 8 ≤ n) (hs : ∀ k, k ≤ 7 → ¬ (t + k = 287 ∨ t + k = 289 ∨ t + k = 291 ∨ t + k = 293 ∨ t + k = 298 ∨ t + k = 30 ∨ t + k = 76 ∨ t + k = 269 ∨ t + k = 286)) : qTw μ t zT := by
  have key : ∀ k, k ≤ 7 → ∀ j, μ (t + k) j = nI 0 := fun k hk j => by rw [hz (t + k) (by omega) (hs k hk)]; rfl
  have key0 : ∀ j, μ t j = nI 0 := fun j => key 0 (by omega) j
  simp only [qTw, zT, key0, key _ (show 1 ≤ 7 by omega), key _ (show 2 ≤ 7 by omega), key _ (show 3 ≤ 7 by omega), key _ (show 4 ≤ 7 by omega), key _ (show 5 ≤ 7 by omega), key _ (show 6 ≤ 7 by omega), key _ (show 7 ≤ 7 by omega)]
  exact ⟨trivial, trivial, trivial, trivial, trivial, trivial, fun _ _ => trivial, fun p hp => absurd hp (Nat.not_lt_zero p)⟩
section
variable {d L : Nat} {xs : Nat → Int32} {ρ : qRho} {μ : qMu} {la : qLa} {Q : qPost}
theorem k_lane (h0 : ρ 297 0 = some 298) (hQ : Q none (315, ρ) (qset (qset (qset (qset μ 298 0 (mI 1)) 298 1 (mI 1)) 298 2 (mI 1)) 298 3 (mI 1)) la) : qEx (d + 3) 117 143 [] [.ref 297, .int (nI 0)] (315, ρ) μ la Q := by
  iterate 5
    rw [x117_143]
    simp (disch := omega) only [x117_0, x117_1, x117_4, x117_5, x117_6, x117_8, x117_11, x117_12, x117_13, x117_15, x117_18, x117_19, x117_21, x117_23, x117_26, x117_27, x117_30, x117_32, x117_35, x117_36, x117_38, x117_40, x117_43, x117_44, x117_46, x117_48, x117_51, x117_52, x117_54, x117_56, x117_59, x117_60, x117_63, x117_65, x117_68, x117_69, x117_72, x117_74, x117_77, x117_78, x117_79, x117_81, x117_84, x117_85, x117_88, x117_90, x117_93, x117_94, x117_96, x117_98, x117_101, x117_102, x117_104, x117_106, x117_109, x117_110, x117_112, x117_114, x117_117, x117_118, x117_120, x117_122, x117_125, x117_126, x117_128, x117_130, x117_133, x117_134, x117_136, x117_138, x117_141, x117_142, x117_144, x117_145, x117_148, x117_149, x117_152, x117_153, x117_154, x117_155, x117_158, x117_161, sh_297, sh_298, qOk_l sh_297, qLen_l sh_298, h0, ↓nm_1, ↓nm_2, ↓nm_3, ↓nm_4, ↓nm_11, ↓nm_12, ↓nm_13, ↓nm_14, ↓nm_100, nl_0, nl_1, nl_2, nl_3, nl_4, nl_5, nl_6, nl_7, nl_8, nl_9, nl_10, nl_11, nl_12, nl_13, nl_14, nl_15, nl_16, nl_17, nl_18, nl_19, nl_20, nl_22, nl_23, nl_24, nl_25, nl_30, nl_31, nl_34, nl_35, nl_40, nl_43, nl_46, nl_47, nl_48, nl_49, nl_50, nl_57, nl_58, nl_59, nl_63, nl_64, nl_94, nl_97, nl_98, nl_99, nl_100, nl_101, nl_102, nl_105, nl_108, nl_110, nl_111, nl_112, nl_113, nl_114, nl_115, nl_116, nl_117, nl_118, nl_119, nl_124, nl_126, nl_138, nl_140, nl_255, nl_720, nl_1024, nl_9999, nl_99999, nl_999999, nl_1000000, eq_self, Bool.false_eq_true, Bool.true_and, Bool.and_true, Bool.false_and, Bool.and_false, Bool.not_true, Bool.not_false, nI_toInt, or_true, true_or, or_false, false_or, nI_clamp, nI_leI, nI_ltI, nI_eq, e_nm, e_mn, e_mm, l_nm, l_mn, l_mm, le_nm, le_mn, le_mm, nI_add, nI_mull, nI_sub, nI_subn, nI_divl, nsm, qIn_nI, Nat.zero_le, Nat.not_lt_zero, Nat.reduceAdd, Nat.reduceMul, Nat.reduceSub, Nat.reduceDiv, Nat.reduceMod, Nat.reduceEqDiff, Nat.reduceLeDiff, Nat.reduceLT, Nat.add_zero, Nat.zero_add, not_false_eq_true, not_true_eq_false, true_and, and_true, Option.toList_some, Option.toList_none, List.cons_append, List.nil_append, qrf, if_true, if_false, if_pos, if_neg, reduceIte, ne_eq, Classical.not_not]
  exact hQ
set_option maxHeartbeats 4000000 in
set_option maxRecDepth 8000 in
theorem k_M (hn : nR ρ) (hz : zU 298 μ) (ho : oU (qRm L xs) μ) (hs : ∀ k, k < 4 → μ (287 + 2 * k) 1 = mI 1)
    (hQ : ∀ (ρ' : qRho) (μ' : qMu) (la' : qLa), SimN st0 (315, ρ') μ' la' → SimM st0 (315, ρ') μ' la' → oU (qRm L xs) μ' → nZero μ' → Q none (315, ρ') μ' la') : qEx (d + 3) 117 0 [] [.ref 297, .retAddr 0] (298, ρ) μ la Q := by
  simp (maxSteps := 2000000) (disch := omega) only [x117_0, x117_1, x117_4, x117_5, x117_6, x117_8, x117_11, x117_12, x117_13, x117_15, x117_18, x117_19, x117_21, x117_23, x117_26, x117_27, x117_30, x117_32, x117_35, x117_36, x117_38, x117_40, x117_43, x117_44, x117_46, x117_48, x117_51, x117_52, x117_54, x117_56, x117_59, x117_60, x117_63, x117_65, x117_68, x117_69, x117_72, x117_74, x117_77, x117_78, x117_79, x117_81, x117_84, x117_85, x117_88, x117_90, x117_93, x117_94, x117_96, x117_98, x117_101, x117_102, x117_104, x117_106, x117_109, x117_110, x117_112, x117_114, x117_117, x117_118, x117_120, x117_122, x117_125, x117_126, x117_128, x117_130, x117_133, x117_134, x117_136, x117_138, x117_141, x117_142, x117_144, x117_145, x117_148, x117_149, x117_152, x117_153, x117_154, x117_155, x117_158, x117_161, sh_297, sh_298, sh_299, sh_300, sh_301, sh_302, sh_303, sh_304, sh_305, sh_306, sh_307, sh_308, sh_309, sh_310, sh_311, sh_312, sh_313, sh_314, nl_96, nl_496, nl_248, nl_2712, qOk_l sh_297, qLen_l sh_298, setR_s, setR_k, setR_o, and_lt, ↓nm_1, ↓nm_2, ↓nm_3, ↓nm_4, ↓nm_11, ↓nm_12, ↓nm_13, ↓nm_14, ↓nm_100, nl_0, nl_1, nl_2, nl_3, nl_4, nl_5, nl_6, nl_7, nl_8, nl_9, nl_10, nl_11, nl_12, nl_13, nl_14, nl_15, nl_16, nl_17, nl_18, nl_19, nl_20, nl_22, nl_23, nl_24, nl_25, nl_30, nl_31, nl_34, nl_35, nl_40, nl_43, nl_46, nl_47, nl_48, nl_49, nl_50, nl_57, nl_58, nl_59, nl_63, nl_64, nl_94, nl_97, nl_98, nl_99, nl_100, nl_101, nl_102, nl_105, nl_108, nl_110, nl_111, nl_112, nl_113, nl_114, nl_115, nl_116, nl_117, nl_118, nl_119, nl_124, nl_126, nl_138, nl_140, nl_255, nl_720, nl_1024, nl_9999, nl_99999, nl_999999, nl_1000000, eq_self, Bool.false_eq_true, Bool.true_and, Bool.and_true, Bool.false_and, Bool.and_false, Bool.not_true, Bool.not_false, nI_toInt, or_true, true_or, or_false, false_or, nI_clamp, nI_leI, nI_ltI, nI_eq, e_nm, e_mn, e_mm, l_nm, l_mn, l_mm, le_nm, le_mn, le_mm, nI_add, nI_mull, nI_sub, nI_subn, nI_divl, nsm, qIn_nI, Nat.zero_le, Nat.not_lt_zero, Nat.reduceAdd, Nat.reduceMul, Nat.reduceSub, Nat.reduceDiv, Nat.reduceMod, Nat.reduceEqDiff, Nat.reduceLeDiff, Nat.reduceLT, Nat.add_zero, Nat.zero_add, not_false_eq_true, not_true_eq_false, true_and, and_true, Option.toList_some, Option.toList_none, List.cons_append, List.nil_append, qrf, if_true, if_false, if_pos, if_neg, reduceIte, ne_eq, Classical.not_not]
  refine k_lane ?_ ?_
  · simp (disch := omega) only [setR_s, setR_k]
  generalize hM : qset _ 298 3 (mI 1) = μ'
  have z1 : zU 315 μ' := by
    rw [← hM]
    exact zU_set (zU_set (zU_set (zU_set (zU_new (zU_new (zU_new (zU_new (zU_new (zU_new (zU_new (zU_new (zU_new (zU_new (zU_new (zU_new (zU_new (zU_new (zU_new (zU_new (zU_new hz)))))))))))))))))  (by omega)) (by omega)) (by omega)) (by omega)
  have o1 : oU (qRm L xs) μ' := by
    rw [← hM]
    intro a ha
    rw [← ho a ha]
    simp (disch := omega) only [set_f, clr_o]
  have s1 : ∀ k, k < 4 → μ' (287 + 2 * k) 1 = mI 1 := fun k hk => by
    rw [← hM, ← hs k hk]
    simp (disch := omega) only [set_f, clr_o]
  have l1 : ∀ k, k < 4 → μ' 298 k = mI 1 := fun k hk => by
    rw [← hM]
    rcases (show k = 0 ∨ k = 1 ∨ k = 2 ∨ k = 3 by omega) with rfl | rfl | rfl | rfl <;> simp [qset]
  refine hQ _ _ _ ⟨nR_fr hn fun a ha => ?_, ⟨fun j => ?_, fun j => ?_, fun j => ?_⟩, fun i hi j => ?_, ⟨?_, fun i hi => absurd hi (Nat.not_lt_zero i)⟩, ?_, ⟨0, by decide, ?_, ?_, fun i hi => absurd hi (Nat.not_lt_zero i)⟩, fun k hk => ?_, fun s hs => ⟨fun _ => s1 s hs, fun h => absurd rfl h⟩⟩ ⟨⟨rfl, ?_⟩, ⟨?_, fun i hi => absurd hi (Nat.not_lt_zero i)⟩, fun k hk => ?_, ⟨?_, fun i hi => absurd hi (Nat.not_lt_zero i)⟩, fun k hk => ⟨?_, fun h => absurd rfl h⟩, fun s hs => ⟨fun _ => l1 s hs, fun h => absurd rfl h⟩⟩ o1 ⟨by rw [z1 3 (by omega) (by omega)]; rfl, fun j => by rw [z1 9 (by omega) (by omega)]; rfl, fun j => by rw [z1 10 (by omega) (by omega)]; rfl⟩
  · simp (disch := omega) only [setR_o]
  · rw [o1 _ (by omega)]; rfl
  · rw [o1 _ (by omega)]; rfl
  · rw [o1 _ (by omega)]; rfl
  · rw [o1 _ (by omega)]
    show (if 1020 + i = 1003 then _ else if 1020 + i < 1003 then _ else (qByt.getD (1020 + i - 1020) []).getD j 0) = _
    rw [if_neg (by omega), if_neg (by omega), Nat.add_sub_cancel_left]
    rfl
  · rw [z1 1 (by omega) (by omega)]; rfl
  · exact zTw z1 (by omega) fun k hk => by omega
  · rw [z1 75 (by omega) (by omega)]; rfl
  · rw [z1 75 (by omega) (by omega)]; rfl
  · exact zTw z1 (by omega) fun k hk => by omega
  · simp (disch := omega) only [setR_s, setR_k, true_and]
  · rw [z1 297 (by omega) (by omega)]; rfl
  · rw [z1 302 (by omega) (by omega)]; rfl
  · rw [z1 297 (by omega) (by omega)]; rfl
  · rw [z1 307 (by omega) (by omega)]; rfl
end
