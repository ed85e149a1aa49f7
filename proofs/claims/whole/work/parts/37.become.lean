/-! the class's become, commit, leaves, trodden -/
theorem cpy_in {μ : qMu} {a0 a n j : Nat} (h : j < n) : qcpy μ a0 0 a 0 n a j = μ a0 j := by simp [qcpy, h]
section
variable {d : Nat} {σ : qSg} {la : qLa} {Q : qPost} {t u w : Nat} {T : qT} {N : Nat} {μ : qMu}
theorem qtO (h : qTown σ t) : qOk σ (t + 1) 10 = true ∧ qOk σ (t + 2) 10 = true ∧ qOk σ (t + 3) 10 = true ∧ qOk σ (t + 4) 10 = true ∧ qOk σ (t + 5) 10 = true ∧ qOk σ (t + 6) 10 = true ∧ qOk σ (t + 7) 10 = true := by
  have h1 := h.1
  obtain ⟨a1, a2, a3, a4, a5, a6, a7⟩ := qtSh h
  refine ⟨?_, ?_, ?_, ?_, ?_, ?_, ?_⟩
  · simp [qOk, a1]; omega
  · simp [qOk, a2]; omega
  · simp [qOk, a3]; omega
  · simp [qOk, a4]; omega
  · simp [qOk, a5]; omega
  · simp [qOk, a6]; omega
  · simp [qOk, a7]; omega
set_option maxHeartbeats 4000000 in
theorem c_become (hT : qTown σ t) (hU : qTown σ u) (hdis : u + 7 < t ∨ t + 7 < u) (hwf : wfT N T) (hw : qTw μ u T)
    (hQ : ∀ μ' : qMu, (∀ a, ¬ (t ≤ a ∧ a ≤ t + 7) → μ' a = μ a) → qTw μ' t T → Q none σ μ' la) : qEx d 59 0 [] [.ref t, .ref u] σ μ la Q := by
  have hut : ¬ u = t := by omega
  simp only [x59_0, x59_1, x59_2, x59_5, x59_8, x59_9, x59_10, x59_13, x59_16, x59_17, x59_18, x59_21, x59_24, x59_25, x59_26, x59_29, x59_32, x59_33, x59_34, x59_37, x59_40, x59_41, x59_42, x59_45, qtOk hT, qtOk hU, true_and, qset_o hut]
  have hf6 : ∀ a, ¬ a = t → qset (qset (qset (qset (qset (qset μ t 0 (μ u 0)) t 1 (μ u 1)) t 2 (μ u 2)) t 3 (μ u 3)) t 4 (μ u 4)) t 5 (μ u 5) a = μ a := fun a h => by
    rw [qset_ne h, qset_ne h, qset_ne h, qset_ne h, qset_ne h, qset_ne h]
  have hs6 : ∀ i, i < 6 → qset (qset (qset (qset (qset (qset μ t 0 (μ u 0)) t 1 (μ u 1)) t 2 (μ u 2)) t 3 (μ u 3)) t 4 (μ u 4)) t 5 (μ u 5) t i = μ u i := fun i hi => by
    rcases (show i = 0 ∨ i = 1 ∨ i = 2 ∨ i = 3 ∨ i = 4 ∨ i = 5 by omega) with rfl | rfl | rfl | rfl | rfl | rfl <;> simp [qset]
  generalize qset (qset (qset (qset (qset (qset μ t 0 (μ u 0)) t 1 (μ u 1)) t 2 (μ u 2)) t 3 (μ u 3)) t 4 (μ u 4)) t 5 (μ u 5) = μ0 at hf6 hs6 ⊢
  simp only [x59_48, x59_49, x59_52, x59_53, x59_54, x59_57, x59_58, qtOk hT, qtOk hU, true_and, (qtR hT).1, (qtR hU).1, qrf]
  rw [x59_60, if_pos ⟨by decide, by decide, by decide, by rw [(qtL hU).1]; decide, by rw [(qtL hT).1]; decide, by decide, (qtO hU).1, (qtO hT).1⟩]
  rw [show (0 : Int32).toNatClampNeg = 0 from rfl, show (64 : Int32).toNatClampNeg = 64 from rfl]
  have hc1 : ∀ j, j < 64 → qcpy μ0 (u + 1) 0 (t + 1) 0 64 (t + 1) j = μ0 (u + 1) j := fun j hj => cpy_in hj
  have hn1 : ∀ a, ¬ a = t + 1 → qcpy μ0 (u + 1) 0 (t + 1) 0 64 a = μ0 a := fun a h => qcpy_ne h
  generalize qcpy μ0 (u + 1) 0 (t + 1) 0 64 = μ1 at hc1 hn1 ⊢
  simp only [x59_63, x59_64, x59_67, x59_68, x59_69, x59_72, x59_73, qtOk hT, qtOk hU, true_and, (qtR hT).2.1, (qtR hU).2.1, qrf]
  rw [x59_75, if_pos ⟨by decide, by decide, by decide, by rw [(qtL hU).2.1]; decide, by rw [(qtL hT).2.1]; decide, by decide, (qtO hU).2.1, (qtO hT).2.1⟩]
  rw [show (0 : Int32).toNatClampNeg = 0 from rfl, show (6 : Int32).toNatClampNeg = 6 from rfl]
  have hc2 : ∀ j, j < 6 → qcpy μ1 (u + 2) 0 (t + 2) 0 6 (t + 2) j = μ1 (u + 2) j := fun j hj => cpy_in hj
  have hn2 : ∀ a, ¬ a = t + 2 → qcpy μ1 (u + 2) 0 (t + 2) 0 6 a = μ1 a := fun a h => qcpy_ne h
  generalize qcpy μ1 (u + 2) 0 (t + 2) 0 6 = μ2 at hc2 hn2 ⊢
  simp only [x59_78, x59_79, x59_82, x59_83, x59_84, x59_87, x59_88, qtOk hT, qtOk hU, true_and, (qtR hT).2.2.1, (qtR hU).2.2.1, qrf]
  rw [x59_90, if_pos ⟨by decide, by decide, by decide, by rw [(qtL hU).2.2.1]; decide, by rw [(qtL hT).2.2.1]; decide, by decide, (qtO hU).2.2.1, (qtO hT).2.2.1⟩]
  rw [show (0 : Int32).toNatClampNeg = 0 from rfl, show (6 : Int32).toNatClampNeg = 6 from rfl]
  have hc3 : ∀ j, j < 6 → qcpy μ2 (u + 3) 0 (t + 3) 0 6 (t + 3) j = μ2 (u + 3) j := fun j hj => cpy_in hj
  have hn3 : ∀ a, ¬ a = t + 3 → qcpy μ2 (u + 3) 0 (t + 3) 0 6 a = μ2 a := fun a h => qcpy_ne h
  generalize qcpy μ2 (u + 3) 0 (t + 3) 0 6 = μ3 at hc3 hn3 ⊢
  simp only [x59_93, x59_94, x59_97, x59_98, x59_99, x59_102, x59_103, qtOk hT, qtOk hU, true_and, (qtR hT).2.2.2.1, (qtR hU).2.2.2.1, qrf]
  rw [x59_105, if_pos ⟨by decide, by decide, by decide, by rw [(qtL hU).2.2.2.1]; decide, by rw [(qtL hT).2.2.2.1]; decide, by decide, (qtO hU).2.2.2.1, (qtO hT).2.2.2.1⟩]
  rw [show (0 : Int32).toNatClampNeg = 0 from rfl, show (6 : Int32).toNatClampNeg = 6 from rfl]
  have hc4 : ∀ j, j < 6 → qcpy μ3 (u + 4) 0 (t + 4) 0 6 (t + 4) j = μ3 (u + 4) j := fun j hj => cpy_in hj
  have hn4 : ∀ a, ¬ a = t + 4 → qcpy μ3 (u + 4) 0 (t + 4) 0 6 a = μ3 a := fun a h => qcpy_ne h
  generalize qcpy μ3 (u + 4) 0 (t + 4) 0 6 = μ4 at hc4 hn4 ⊢
  simp only [x59_108, x59_109, x59_112, x59_113, x59_114, x59_117, x59_118, qtOk hT, qtOk hU, true_and, (qtR hT).2.2.2.2.1, (qtR hU).2.2.2.2.1, qrf]
  rw [x59_120, if_pos ⟨by decide, by decide, by decide, by rw [(qtL hU).2.2.2.2.1]; decide, by rw [(qtL hT).2.2.2.2.1]; decide, by decide, (qtO hU).2.2.2.2.1, (qtO hT).2.2.2.2.1⟩]
  rw [show (0 : Int32).toNatClampNeg = 0 from rfl, show (6 : Int32).toNatClampNeg = 6 from rfl]
  have hc5 : ∀ j, j < 6 → qcpy μ4 (u + 5) 0 (t + 5) 0 6 (t + 5) j = μ4 (u + 5) j := fun j hj => cpy_in hj
  have hn5 : ∀ a, ¬ a = t + 5 → qcpy μ4 (u + 5) 0 (t + 5) 0 6 a = μ4 a := fun a h => qcpy_ne h
  generalize qcpy μ4 (u + 5) 0 (t + 5) 0 6 = μ5 at hc5 hn5 ⊢
  simp only [x59_123, x59_124, x59_127, x59_128, x59_129, x59_132, x59_133, qtOk hT, qtOk hU, true_and, (qtR hT).2.2.2.2.2.1, (qtR hU).2.2.2.2.2.1, qrf]
  rw [x59_135, if_pos ⟨by decide, by decide, by decide, by rw [(qtL hU).2.2.2.2.2.1]; decide, by rw [(qtL hT).2.2.2.2.2.1]; decide, by decide, (qtO hU).2.2.2.2.2.1, (qtO hT).2.2.2.2.2.1⟩]
  rw [show (0 : Int32).toNatClampNeg = 0 from rfl, show (6 : Int32).toNatClampNeg = 6 from rfl]
  have hc6 : ∀ j, j < 6 → qcpy μ5 (u + 6) 0 (t + 6) 0 6 (t + 6) j = μ5 (u + 6) j := fun j hj => cpy_in hj
  have hn6 : ∀ a, ¬ a = t + 6 → qcpy μ5 (u + 6) 0 (t + 6) 0 6 a = μ5 a := fun a h => qcpy_ne h
  generalize qcpy μ5 (u + 6) 0 (t + 6) 0 6 = μ6 at hc6 hn6 ⊢
  simp only [x59_138, x59_139, x59_142, x59_143, x59_144, x59_147, x59_148, qtOk hT, qtOk hU, true_and, (qtR hT).2.2.2.2.2.2, (qtR hU).2.2.2.2.2.2, qrf]
  rw [x59_150, if_pos ⟨by decide, by decide, by decide, by rw [(qtL hU).2.2.2.2.2.2]; decide, by rw [(qtL hT).2.2.2.2.2.2]; decide, by decide, (qtO hU).2.2.2.2.2.2, (qtO hT).2.2.2.2.2.2⟩]
  rw [show (0 : Int32).toNatClampNeg = 0 from rfl, show (24 : Int32).toNatClampNeg = 24 from rfl]
  have hc7 : ∀ j, j < 24 → qcpy μ6 (u + 7) 0 (t + 7) 0 24 (t + 7) j = μ6 (u + 7) j := fun j hj => cpy_in hj
  have hn7 : ∀ a, ¬ a = t + 7 → qcpy μ6 (u + 7) 0 (t + 7) 0 24 a = μ6 a := fun a h => qcpy_ne h
  generalize qcpy μ6 (u + 7) 0 (t + 7) 0 24 = μ7 at hc7 hn7 ⊢
  simp only [x59_153]
  have h64 : ∀ c, inT T c → c < 64 := fun c hc => inT_lt hwf hc
  have h6 := hwf.1
  refine hQ μ7 (fun a h => ?_) ?_
  · rw [hn7 a (by omega), hn6 a (by omega), hn5 a (by omega), hn4 a (by omega), hn3 a (by omega), hn2 a (by omega), hn1 a (by omega), hf6 a (by omega)]
  · obtain ⟨a0, a1, a2, a3, a4, a5, ag, ap⟩ := hw
    have e0 : μ7 t = μ0 t := by rw [hn7 _ (by omega), hn6 _ (by omega), hn5 _ (by omega), hn4 _ (by omega), hn3 _ (by omega), hn2 _ (by omega), hn1 _ (by omega)]
    have e1 : ∀ c, c < 64 → μ7 (t + 1) c = μ (u + 1) c := fun c hc => by rw [hn7 _ (by omega), hn6 _ (by omega), hn5 _ (by omega), hn4 _ (by omega), hn3 _ (by omega), hn2 _ (by omega), hc1 c hc, hf6 _ (by omega)]
    have e2 : ∀ c, c < 6 → μ7 (t + 2) c = μ (u + 2) c := fun c hc => by rw [hn7 _ (by omega), hn6 _ (by omega), hn5 _ (by omega), hn4 _ (by omega), hn3 _ (by omega), hc2 c hc, hn1 _ (by omega), hf6 _ (by omega)]
    have e3 : ∀ c, c < 6 → μ7 (t + 3) c = μ (u + 3) c := fun c hc => by rw [hn7 _ (by omega), hn6 _ (by omega), hn5 _ (by omega), hn4 _ (by omega), hc3 c hc, hn2 _ (by omega), hn1 _ (by omega), hf6 _ (by omega)]
    have e4 : ∀ c, c < 6 → μ7 (t + 4) c = μ (u + 4) c := fun c hc => by rw [hn7 _ (by omega), hn6 _ (by omega), hn5 _ (by omega), hc4 c hc, hn3 _ (by omega), hn2 _ (by omega), hn1 _ (by omega), hf6 _ (by omega)]
    have e5 : ∀ c, c < 6 → μ7 (t + 5) c = μ (u + 5) c := fun c hc => by rw [hn7 _ (by omega), hn6 _ (by omega), hc5 c hc, hn4 _ (by omega), hn3 _ (by omega), hn2 _ (by omega), hn1 _ (by omega), hf6 _ (by omega)]
    have e6 : ∀ c, c < 6 → μ7 (t + 6) c = μ (u + 6) c := fun c hc => by rw [hn7 _ (by omega), hc6 c hc, hn5 _ (by omega), hn4 _ (by omega), hn3 _ (by omega), hn2 _ (by omega), hn1 _ (by omega), hf6 _ (by omega)]
    have e7 : ∀ c, c < 24 → μ7 (t + 7) c = μ (u + 7) c := fun c hc => by rw [hc7 c hc, hn6 _ (by omega), hn5 _ (by omega), hn4 _ (by omega), hn3 _ (by omega), hn2 _ (by omega), hn1 _ (by omega), hf6 _ (by omega)]
    refine ⟨by rw [e0, hs6 0 (by omega)]; exact a0, by rw [e0, hs6 1 (by omega)]; exact a1, by rw [e0, hs6 2 (by omega)]; exact a2, by rw [e0, hs6 3 (by omega)]; exact a3, by rw [e0, hs6 4 (by omega)]; exact a4, by rw [e0, hs6 5 (by omega)]; exact a5, fun c hc => by rw [e1 c (h64 c hc)]; exact ag c hc, fun p hp => ?_⟩
    obtain ⟨b2, b3, b4, b5, b6, b7⟩ := ap p hp
    exact ⟨by rw [e2 p (by omega)]; exact b2, by rw [e3 p (by omega)]; exact b3, by rw [e4 p (by omega)]; exact b4, by rw [e5 p (by omega)]; exact b5, by rw [e6 p (by omega)]; exact b6, fun k hk => by rw [e7 _ (by omega)]; exact b7 k hk⟩
def fineT (k : Nat) : Nat := if k = 0 then 3 else if k = 1 then 5 else if k = 2 then 9 else 30
def doT (T : qT) (p k : Nat) : qT := upT (upT T (13 + p) (min 99 (T (13 + p) + (fineT k + T (25 + 4 * p + k))))) (25 + 4 * p + k) (T (25 + 4 * p + k) + 1)
theorem ro_fine (hr : qRo μ) {k : Nat} (h : k < 4) : μ 1001 k = nI (fineT k) := by
  rw [hr.2.1]
  rcases (show k = 0 ∨ k = 1 ∨ k = 2 ∨ k = 3 by omega) with rfl | rfl | rfl | rfl <;> rfl
set_option maxHeartbeats 4000000 in
theorem c_commit {p k : Nat} (hT : qTown σ t) (ht1 : t + 7 < 1000) (hwf : wfT N T) (hN : N ≤ 1000000) (hp : p < T 115) (hk : k < 4) (hw : qTw μ t T) (hr : qRo μ)
    (hQ : ∀ μ' : qMu, (∀ a, ¬ a = t + 5 → ¬ a = t + 7 → μ' a = μ a) → qTw μ' t (doT T p k) → Q none σ μ' la) : qEx d 64 0 [] [.ref t, .int (nI p), .int (nI k), .retAddr 0] σ μ la Q := by
  have h6 := hwf.1
  have hp6 : p < 6 := by omega
  obtain ⟨⟨k1, k5⟩, hin, hf4, ho, hdd⟩ := hwf.2.2.2.2.2.2.2.1 p hp
  obtain ⟨b2, b3, b4, b5, b6, b7⟩ := hw.2.2.2.2.2.2.2 p hp
  have hd := hdd k hk
  have hfi : fineT k ≤ 30 := by unfold fineT; repeat' split
                                all_goals omega
  simp only [x64_0, x64_3, x64_4, x64_5, x64_6, x64_9, x64_10, x64_11, x64_12, x64_13, x64_14, x64_15, x64_16, x64_17, x64_18, x64_21, x64_22, x64_24, x64_25, x64_28, x64_29, x64_30, x64_31, x64_32, x64_35, x64_36, x64_37, x64_40, x64_41, x64_42, x64_43, x64_44, x64_45, x64_46, x64_47, x64_48, x64_49, x64_50, qtOk hT, true_and, (qtR hT).2.2.2.2.1, (qtR hT).2.2.2.2.2.2, qrf, (qtI hT).2.2.2.2.1, (qtI hT).2.2.2.2.2.2, (qtL hT).2.2.2.2.1, (qtL hT).2.2.2.2.2.2, qIld0.2.1]
  rw [show (4 : Int32) = nI 4 from rfl, nI_mull, nI_add, Nat.mul_comm p 4]
  rw [nI_clamp (show k < 2 ^ 31 by omega), nI_clamp (show 4 * p + k < 2 ^ 31 by omega), nI_clamp (show p < 2 ^ 31 by omega), ro_fine hr hk, b7 k hk, b5, nI_add, nI_add]
  refine ⟨qIn_nI hk (by omega), qIn_nI (by omega) (by omega), qIn_nI hp6 (by omega), qIn_nI hp6 (by omega), qIn_nI (by omega) (by omega), qIn_nI (by omega) (by omega), ?_⟩
  have hmin : (if nI (T (13 + p) + (fineT k + T (25 + 4 * p + k))) < 99 then nI (T (13 + p) + (fineT k + T (25 + 4 * p + k))) else 99) = nI (min 99 (T (13 + p) + (fineT k + T (25 + 4 * p + k)))) := by
    by_cases h : T (13 + p) + (fineT k + T (25 + 4 * p + k)) < 99
    · rw [if_pos (by rw [show (99 : Int32) = nI 99 from rfl]; exact nI_lt h (by omega)), Nat.min_eq_right (by omega)]
    · rw [if_neg (by rw [show (99 : Int32) = nI 99 from rfl]; exact nI_nlt (by omega) (by omega)), Nat.min_eq_left (by omega)]; rfl
  rw [hmin, qset_o (by omega), b7 k hk, nI_1]
  refine hQ _ (fun a h1 h2 => (qset_ne h2).trans (qset_ne h1)) ?_
  exact qTw_done (qTw_owes hw h6 hp6) (by rw [upT_o (by omega)]; exact h6) hp6 hk
end
