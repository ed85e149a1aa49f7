/-! the reference's beside -/
theorem inV_nat {k m : Nat} (hk : k < 2 ^ 31) (hm : m < 2 ^ 31) : (if nI k < (0 : Int32) then (0 : Int32) else if nI m < nI k then 0 else 1) = if k ≤ m then 1 else 0 := by
  rw [if_neg (nI_pos hk)]
  by_cases h : k ≤ m
  · rw [if_neg (nI_nlt h hm), if_pos h]
  · rw [if_pos (nI_lt (by omega) hk), if_neg h]
theorem nI_m1 {a : Nat} (h : 0 < a) : nI a + (-1) = nI (a - 1) := by
  have e : nI (a - 1) + nI 1 = nI a := by rw [nI_add, Nat.sub_add_cancel h]
  rw [← e, show nI 1 = (1 : Int32) from rfl]
  grind
theorem nI_s1 {a : Nat} (h : 0 < a) : nI a - 1 = nI (a - 1) := by
  have := nI_sub (a := a) (b := 1) h
  exact this
section
variable {d : Nat} {σ : qSg} {μ : qMu} {la : qLa} {Q : qPost} {a : Nat} {T : qT} {N : Nat}
theorem c_mbes_end {c line col : Nat} {side : Int32} {r : Option Nat} (ha : qArr σ a 124) (hm : qMA μ a T) (hr : 0 < T 114) (hc : 0 < T 113) (hr8 : T 114 ≤ 8) (hc8 : T 113 ≤ 8) (hl : line ≤ 100) (hcl : col ≤ 100) (he : r = if line < T 114 ∧ col < T 113 then some (8 * line + col) else none) (hQ : Q (some (.int (besV r))) σ μ la) : qEx (d + 1) 145 50 [] [.ref a, .int (nI c), .int side, .int (nI line), .int (nI col)] σ μ la Q := by
  simp only [x145_50, x145_51, x145_52, x145_53, x145_55, x145_56, x145_57, x145_58, x145_61, x145_64, x145_66, x145_67, x145_68, x145_70, x145_71, x145_72, x145_73, x145_76, x145_79, x145_81, x145_82, x145_83, x145_85, x145_86, x145_89, x145_90, c_in, Option.toList_some, List.cons_append, List.nil_append, (qaI (μ := μ) ha).1]
  rw [show (114 : Int32).toNatClampNeg = 114 from rfl, show (113 : Int32).toNatClampNeg = 113 from rfl, hm 114 (by omega), hm 113 (by omega), nI_s1 hr, nI_s1 hc, inV_nat (by omega) (by omega), inV_nat (by omega) (by omega)]
  refine ⟨by decide, ?_⟩
  by_cases h1 : line < T 114
  · rw [if_pos (show line ≤ T 114 - 1 by omega), if_neg (by decide)]
    refine ⟨by decide, ?_⟩
    by_cases h2 : col < T 113
    · rw [if_pos (show col ≤ T 113 - 1 by omega), if_neg (by decide), show (8 : Int32) = nI 8 from rfl, nI_mull, nI_add]
      rw [if_pos ⟨h1, h2⟩] at he
      rw [he] at hQ
      exact hQ
    · rw [if_neg (show ¬ col ≤ T 113 - 1 by omega), if_pos rfl]
      rw [if_neg (fun h => h2 h.2)] at he
      rw [he] at hQ
      exact hQ
  · rw [if_neg (show ¬ line ≤ T 114 - 1 by omega), if_pos rfl]
    rw [if_neg (fun h => h1 h.1)] at he
    rw [he] at hQ
    exact hQ
set_option maxHeartbeats 4000000 in
theorem c_mbes {c side : Nat} (ha : qArr σ a 124) (hm : qMA μ a T) (hwf : wfT N T) (hin : inT T c) (hs : side < 4) (hQ : Q (some (.int (besV (besT T c side)))) σ μ la) : qEx (d + 1) 145 0 [] [.ref a, .int (nI c), .int (nI side), .retAddr 0, .retAddr 0] σ μ la Q := by
  have h64 := inT_lt hwf hin
  have hr8 := hwf.2.2.1
  have hc8 := hwf.2.1
  obtain ⟨i1, i2⟩ := id hin
  unfold besT at hQ
  rcases (show side = 0 ∨ side = 1 ∨ side = 2 ∨ side = 3 by omega) with rfl | rfl | rfl | rfl
  · rw [if_pos rfl] at hQ
    simp only [x145_0, x145_1, x145_3, x145_4, x145_5, x145_8, x145_9, x145_12, x145_13, x145_14, x145_17, x145_18, x145_21, x145_22, x145_23, x145_24, x145_25, x145_27, x145_28, x145_29, x145_30, x145_33, x145_34, x145_37, x145_38, x145_39, x145_42, x145_43, x145_46, x145_47, x145_48, x145_51, x145_52, x145_53, x145_55, x145_56, x145_57, x145_58, x145_61, x145_64, x145_66, x145_67, x145_68, x145_70, x145_71, x145_72, x145_73, x145_76, x145_79, x145_81, x145_82, x145_83, x145_85, x145_86, x145_89, x145_90]
    rw [if_neg (show ¬ ¬ nI 0 = 0 by decide), if_pos (show ¬ nI 0 = 1 by decide), if_pos (show ¬ nI 0 = 3 by decide), show (8 : Int32) = nI 8 from rfl, nI_reml (by omega) (by omega), nI_divl (by omega) (by omega), show (0 : Int32) = nI 0 from rfl, nI_add]
    refine ⟨by decide, by decide, ?_⟩
    by_cases h : 0 < c / 8
    · rw [if_pos h] at hQ
      rw [nI_m1 h]
      exact c_mbes_end ha hm (by omega) (by omega) hr8 hc8 (by omega) (by omega) (by rw [if_pos ⟨by omega, by omega⟩]; congr 1; omega) hQ
    · rw [if_neg h] at hQ
      have e0 : c / 8 = 0 := by omega
      rw [e0, show nI 0 + -1 = (-1 : Int32) by decide]
      simp only [x145_50, x145_51, x145_52, x145_53, x145_55, x145_56, x145_57, x145_58, x145_61, x145_89, x145_90, c_in, Option.toList_some, List.cons_append, List.nil_append, (qaI (μ := μ) ha).1]
      refine ⟨by decide, ?_⟩
      rw [if_pos (show (-1 : Int32) < 0 by decide), if_pos rfl]
      exact hQ
  · rw [if_neg (by decide), if_pos rfl] at hQ
    simp only [x145_0, x145_1, x145_3, x145_4, x145_5, x145_8, x145_9, x145_12, x145_13, x145_14, x145_17, x145_18, x145_21, x145_22, x145_23, x145_24, x145_25, x145_27, x145_28, x145_29, x145_30, x145_33, x145_34, x145_37, x145_38, x145_39, x145_42, x145_43, x145_46, x145_47, x145_48, x145_51, x145_52, x145_53, x145_55, x145_56, x145_57, x145_58, x145_61, x145_64, x145_66, x145_67, x145_68, x145_70, x145_71, x145_72, x145_73, x145_76, x145_79, x145_81, x145_82, x145_83, x145_85, x145_86, x145_89, x145_90]
    rw [if_pos (show ¬ nI 1 = 0 by decide), if_pos (show ¬ nI 1 = 2 by decide), if_neg (show ¬ ¬ nI 1 = 1 by decide), show (8 : Int32) = nI 8 from rfl, nI_reml (by omega) (by omega), nI_divl (by omega) (by omega), show (0 : Int32) = nI 0 from rfl, show (1 : Int32) = nI 1 from rfl, nI_add, nI_add]
    refine ⟨by decide, by decide, ?_⟩
    refine c_mbes_end ha hm (by omega) (by omega) hr8 hc8 (by omega) (by omega) ?_ hQ
    by_cases h : c % 8 + 1 < T 113
    · rw [if_pos h, if_pos ⟨by omega, h⟩]; congr 1; omega
    · rw [if_neg h, if_neg (fun z => h z.2)]
  · rw [if_neg (by decide), if_neg (by decide), if_pos rfl] at hQ
    simp only [x145_0, x145_1, x145_3, x145_4, x145_5, x145_8, x145_9, x145_12, x145_13, x145_14, x145_17, x145_18, x145_21, x145_22, x145_23, x145_24, x145_25, x145_27, x145_28, x145_29, x145_30, x145_33, x145_34, x145_37, x145_38, x145_39, x145_42, x145_43, x145_46, x145_47, x145_48, x145_51, x145_52, x145_53, x145_55, x145_56, x145_57, x145_58, x145_61, x145_64, x145_66, x145_67, x145_68, x145_70, x145_71, x145_72, x145_73, x145_76, x145_79, x145_81, x145_82, x145_83, x145_85, x145_86, x145_89, x145_90]
    rw [if_pos (show ¬ nI 2 = 0 by decide), if_neg (show ¬ ¬ nI 2 = 2 by decide), if_pos (show ¬ nI 2 = 1 by decide), if_pos (show ¬ nI 2 = 3 by decide), show (8 : Int32) = nI 8 from rfl, nI_reml (by omega) (by omega), nI_divl (by omega) (by omega), show (0 : Int32) = nI 0 from rfl, show (1 : Int32) = nI 1 from rfl, nI_add, nI_add]
    refine ⟨by decide, by decide, ?_⟩
    refine c_mbes_end ha hm (by omega) (by omega) hr8 hc8 (by omega) (by omega) ?_ hQ
    by_cases h : c / 8 + 1 < T 114
    · rw [if_pos h, if_pos ⟨h, by omega⟩]; congr 1; omega
    · rw [if_neg h, if_neg (fun z => h z.1)]
  · rw [if_neg (by decide), if_neg (by decide), if_neg (by decide)] at hQ
    simp only [x145_0, x145_1, x145_3, x145_4, x145_5, x145_8, x145_9, x145_12, x145_13, x145_14, x145_17, x145_18, x145_21, x145_22, x145_23, x145_24, x145_25, x145_27, x145_28, x145_29, x145_30, x145_33, x145_34, x145_37, x145_38, x145_39, x145_42, x145_43, x145_46, x145_47, x145_48, x145_51, x145_52, x145_53, x145_55, x145_56, x145_57, x145_58, x145_61, x145_64, x145_66, x145_67, x145_68, x145_70, x145_71, x145_72, x145_73, x145_76, x145_79, x145_81, x145_82, x145_83, x145_85, x145_86, x145_89, x145_90]
    rw [if_pos (show ¬ nI 3 = 0 by decide), if_pos (show ¬ nI 3 = 2 by decide), if_pos (show ¬ nI 3 = 1 by decide), if_neg (show ¬ ¬ nI 3 = 3 by decide), show (8 : Int32) = nI 8 from rfl, nI_reml (by omega) (by omega), nI_divl (by omega) (by omega), show (0 : Int32) = nI 0 from rfl, nI_add]
    refine ⟨by decide, by decide, ?_⟩
    by_cases h : 0 < c % 8
    · rw [if_pos h] at hQ
      rw [nI_m1 h]
      exact c_mbes_end ha hm (by omega) (by omega) hr8 hc8 (by omega) (by omega) (by rw [if_pos ⟨by omega, by omega⟩]; congr 1; omega) hQ
    · rw [if_neg h] at hQ
      have e0 : c % 8 = 0 := by omega
      rw [e0, show nI 0 + -1 = (-1 : Int32) by decide]
      simp only [x145_50, x145_51, x145_52, x145_53, x145_55, x145_56, x145_57, x145_58, x145_61, x145_64, x145_66, x145_67, x145_68, x145_70, x145_71, x145_72, x145_73, x145_76, x145_79, x145_81, x145_82, x145_83, x145_85, x145_86, x145_89, x145_90, c_in, Option.toList_some, List.cons_append, List.nil_append, (qaI (μ := μ) ha).1]
      refine ⟨by decide, ?_⟩
      rw [show (114 : Int32).toNatClampNeg = 114 from rfl, hm 114 (by omega), nI_s1 (by omega), inV_nat (by omega) (by omega), if_pos (show c / 8 + 0 ≤ T 114 - 1 by omega), if_neg (by decide), if_pos (show (-1 : Int32) < 0 by decide), if_pos rfl]
      exact ⟨by decide, hQ⟩
end
