/-! Walk.trace -/
def underT (kind wanted : Nat) : Bool := decide (wanted = 0 ∨ kind = wanted ∨ (wanted = 1 ∧ kind ≤ 3) ∨ (wanted = 4 ∧ kind = 5))
section
variable {d : Nat} {σ : qSg} {μ : qMu} {la : qLa} {Q : qPost} {t w : Nat} {T : qT} {N : Nat}
theorem qset_o {f : qMu} {a k b j : Nat} {x : Int32} (h : ¬ b = a) : qset f a k x b j = f b j := by simp [qset, h]
theorem qset_k {f : qMu} {a k j : Nat} {x : Int32} (h : ¬ j = k) : qset f a k x a j = f a j := by simp [qset, h]
theorem qset_s {f : qMu} {a k : Nat} {x : Int32} : qset f a k x a k = x := by simp [qset]
set_option maxHeartbeats 4000000 in
theorem c_under {kind wanted : Nat} (hr : qRo μ) (h1 : 1 ≤ kind) (h5 : kind ≤ 5) (hw : wanted ≤ 5) (hQ : Q (some (.int (if underT kind wanted then 1 else 0))) σ μ la) : qEx d 113 0 [] [.int (nI kind), .int (nI wanted), .retAddr 0, .retAddr 0] σ μ la Q := by
  rcases (show kind = 1 ∨ kind = 2 ∨ kind = 3 ∨ kind = 4 ∨ kind = 5 by omega) with rfl | rfl | rfl | rfl | rfl <;> rcases (show wanted = 0 ∨ wanted = 1 ∨ wanted = 2 ∨ wanted = 3 ∨ wanted = 4 ∨ wanted = 5 by omega) with rfl | rfl | rfl | rfl | rfl | rfl <;> (simp [x113_0, x113_1, x113_2, x113_3, x113_4, x113_5, x113_7, x113_10, x113_11, x113_14, x113_15, x113_16, x113_19, x113_20, x113_21, x113_24, x113_25, x113_26, x113_27, x113_30, x113_33, x113_34, qIld0.2.2, hr.2.2, nI, qIn]; exact hQ)
/-- the walk w holds: from c0 to that side, these cells, so many paces left -/
def qWk (μ : qMu) (w c0 way : Nat) (r : List Nat × Nat) : Prop := μ w 1 = nI r.1.length ∧ μ w 2 = nI (endT c0 r.1) ∧ μ w 3 = nI r.2 ∧ μ w 4 = nI way ∧ ∀ i, i < r.1.length → μ (w + 1) i = nI (r.1.getD i 0)
theorem nI_neg {n : Nat} {z : Int32} (h : n < 2 ^ 31) (hz : z.toInt < 0) : ¬ nI n = z := by
  intro e
  have := congrArg Int32.toInt e
  rw [nI_toInt h] at this
  omega
theorem endT_snoc (c0 x : Nat) (l : List Nat) : endT c0 (l ++ [x]) = x := by simp [endT]
theorem ro_cost (hr : qRo μ) {g : Nat} (h : g < 5) (h1 : ¬ g = 1) : μ 1000 g = nI (costT g) := by
  rw [hr.1]
  rcases (show g = 0 ∨ g = 2 ∨ g = 3 ∨ g = 4 by omega) with rfl | rfl | rfl | rfl <;> rfl
set_option maxHeartbeats 4000000 in
theorem c_trace_loop {p kind side owed way c0 : Nat} {l6 : Value} (hT : qTown σ t) (hW : qWalk σ w) (hdis : w + 1 < t ∨ t + 7 < w) (hw1 : w + 1 < 1000) (hwf : wfT N T) (hk1 : 1 ≤ kind) (hk5 : kind ≤ 5) (hway : way < 4) : ∀ (n k c left : Nat) (pre : List Nat) (μ : qMu) (l9 l10 : Value), k + n = 8 → pre.length = k → c = endT c0 pre → inT T c → left ≤ 99 → qTw μ t T → qRo μ → qWk μ w c0 way (pre, left) →
    (∀ μ' : qMu, (∀ a, ¬ a = w → ¬ a = w + 1 → μ' a = μ a) → qWk μ' w c0 way (pre ++ (walkF T kind way n c left).1, (walkF T kind way n c left).2) → Q none σ μ' la) →
    qEx (d + 1) 71 78 [] [.ref w, .ref t, .int (nI p), .int (nI kind), .int (nI side), .int (nI owed), l6, .int (if underT kind 4 then 1 else 0), .int (nI k), l9, l10] σ μ la Q := by
  intro n
  induction n with
  | zero =>
    intro k c left pre μ l9 l10 hk hp hc hin hl hw hr hwk hQ
    have hk8 : k = 8 := by omega
    subst hk8
    rw [x71_78]
    simp only [x71_0, x71_1, x71_4, x71_5, x71_8, x71_9, x71_12, x71_14, x71_16, x71_17, x71_19, x71_20, x71_21, x71_24, x71_25, x71_28, x71_29, x71_30, x71_31, x71_32, x71_35, x71_36, x71_37, x71_38, x71_41, x71_43, x71_44, x71_45, x71_48, x71_50, x71_53, x71_54, x71_55, x71_58, x71_59, x71_60, x71_63, x71_64, x71_65, x71_68, x71_69, x71_70, x71_73, x71_75, x71_76, x71_80, x71_82, x71_85, x71_86, x71_87, x71_90, x71_91, x71_94, x71_97, x71_99, x71_101, x71_104, x71_105, x71_107, x71_110, x71_112, x71_115, x71_116, x71_117, x71_120, x71_122, x71_123, x71_125, x71_127, x71_128, x71_131, x71_133, x71_136, x71_138, x71_139, x71_142, x71_144, x71_145, x71_148, x71_149, x71_152, x71_154, x71_155, x71_156, x71_159, x71_162, x71_163, x71_164, x71_165, x71_168, x71_171, x71_173, x71_174, x71_175, x71_178, x71_179, x71_182, x71_184, x71_186, x71_187, x71_188, x71_190, x71_191, x71_192, x71_195, x71_196, x71_198, x71_201, x71_204, x71_207]
    rw [if_pos (by decide)]
    refine hQ μ (fun _ _ _ => rfl) ?_
    simpa [walkF] using hwk
  | succ n ih =>
    intro k c left pre μ l9 l10 hk hp hc hin hl hw hr hwk hQ
    have hc64 := inT_lt hwf hin
    obtain ⟨g1, g2, g3, g4, g5⟩ := id hwk
    simp only at g1 g2 g3 g4 g5
    rw [← hc] at g2
    rw [x71_78]
    simp only [x71_80, x71_82, x71_85, x71_86, x71_87, x71_90, x71_91, x71_94, (qwOk (μ := μ) hW).1, qtOk hT, true_and, g2, g4]
    rw [if_neg (by rw [show (8 : Int32) = nI 8 from rfl]; exact nI_ge (by omega) (by omega))]
    refine c_beside hT hw hwf hin hway ?_
    simp only [Option.toList_some, List.cons_append, List.nil_append, x71_97, x71_99, x71_101]
    have hQ0 : walkF T kind way (n + 1) c left = match besT T c way with
      | none => ([], left)
      | some x => if canT T kind left x then ((x :: (walkF T kind way n x (left - costT (T (49 + x)))).1), (walkF T kind way n x (left - costT (T (49 + x)))).2) else ([], left) := rfl
    have hstop : walkF T kind way (n + 1) c left = ([], left) → Q none σ μ la := fun e => hQ μ (fun _ _ _ => rfl) (by rw [e]; simpa using hwk)
    cases hb : besT T c way with
    | none =>
      rw [hb] at hQ0
      simp only [besV, x71_0, x71_1, x71_4, x71_5, x71_8, x71_9, x71_12, x71_14, x71_16, x71_17, x71_19, x71_20, x71_21, x71_24, x71_25, x71_28, x71_29, x71_30, x71_31, x71_32, x71_35, x71_36, x71_37, x71_38, x71_41, x71_43, x71_44, x71_45, x71_48, x71_50, x71_53, x71_54, x71_55, x71_58, x71_59, x71_60, x71_63, x71_64, x71_65, x71_68, x71_69, x71_70, x71_73, x71_75, x71_76, x71_80, x71_82, x71_85, x71_86, x71_87, x71_90, x71_91, x71_94, x71_97, x71_99, x71_101, x71_104, x71_105, x71_107, x71_110, x71_112, x71_115, x71_116, x71_117, x71_120, x71_122, x71_123, x71_125, x71_127, x71_128, x71_131, x71_133, x71_136, x71_138, x71_139, x71_142, x71_144, x71_145, x71_148, x71_149, x71_152, x71_154, x71_155, x71_156, x71_159, x71_162, x71_163, x71_164, x71_165, x71_168, x71_171, x71_173, x71_174, x71_175, x71_178, x71_179, x71_182, x71_184, x71_186, x71_187, x71_188, x71_190, x71_191, x71_192, x71_195, x71_196, x71_198, x71_201, x71_204, x71_207]
      rw [if_pos (by decide)]
      exact hstop hQ0
    | some x =>
      rw [hb] at hQ0
      simp only at hQ0
      have hx := besT_in hwf hin hb
      have hx64 := inT_lt hwf hx
      have hg5 := hwf.2.2.2.2.2.2.1 x hx
      have hgm := hw.2.2.2.2.2.2.1 x hx
      simp only [besV, x71_104, x71_105, x71_107, qtOk hT, true_and]
      rw [if_neg (nI_pos (by omega))]
      refine c_standing hT hw hwf hx64 ?_
      simp only [Option.toList_some, List.cons_append, List.nil_append, x71_110, x71_112]
      cases hs : whoT T x with
      | some q =>
        rw [if_neg (show ¬ canT T kind left x from fun h => by have := h.1; rw [hs] at this; cases this)] at hQ0
        have hq6 := (whoT_some hs).1
        have h6 := hwf.1
        simp only [noneV, x71_115]
        rw [if_neg (nI_neg (by omega) (by decide))]
        exact hstop hQ0
      | none =>
        simp only [noneV, if_true, x71_116, x71_117, x71_120, x71_122, x71_123, x71_125, x71_127, x71_128, qtOk hT, true_and, (qtR hT).1, qrf, (qtI hT).1]
        refine ⟨qIn_nI (by omega) (by omega), ?_⟩
        rw [nI_clamp (by omega), hgm]
        by_cases h1 : T (49 + x) = 1
        · rw [if_neg (show ¬ canT T kind left x from fun h => h.2.1 h1)] at hQ0
          rw [if_pos (by rw [h1]; rfl)]
          simp only [x71_148]
          exact hstop hQ0
        · rw [if_neg (by rw [show (1 : Int32) = nI 1 from rfl, nI_eq (by omega) (by omega)]; exact h1)]
          have hcost : qEx (d + 1) 71 149 [] [.ref w, .ref t, .int (nI p), .int (nI kind), .int (nI side), .int (nI owed), l6, .int (if underT kind 4 then 1 else 0), .int (nI k), .int (nI x), .int (nI (T (49 + x)))] σ μ la Q ∨ (4 ≤ kind ∧ (T (49 + x) = 2 ∨ T (49 + x) = 3)) := by
            by_cases ho : 4 ≤ kind ∧ (T (49 + x) = 2 ∨ T (49 + x) = 3)
            · exact Or.inr ho
            · left
              simp only [x71_149, x71_152, x71_154, x71_155, x71_156, x71_159, (qwOk (μ := μ) hW).1, true_and, qIld0.1, g3]
              refine ⟨qIn_nI (by omega) (by omega), ?_⟩
              rw [nI_clamp (by omega), ro_cost hr hg5 h1]
              have hcT : costT (T (49 + x)) ≤ 3 := by unfold costT; split <;> try split
                                                      all_goals omega
              by_cases hle : costT (T (49 + x)) ≤ left
              · rw [if_pos (nI_le hle (by omega))]
                have hcan : canT T kind left x := ⟨hs, h1, ho, hle⟩
                rw [if_pos hcan] at hQ0
                simp only [x71_163, x71_164, x71_165, x71_168, x71_171, x71_173, x71_174, x71_175, x71_178, x71_179, x71_182, x71_184, x71_186, x71_187, x71_188, x71_190, x71_191, x71_192, x71_195, x71_196, x71_198, x71_201, x71_204, (qwOk (μ := μ) hW).1, (qwOk (μ := μ) hW).2.1, (qwOk (μ := μ) hW).2.2.2, qrf, true_and, qIld0.1, g3]
                refine ⟨qIn_nI (by omega) (by omega), qIn_nI (by omega) (by omega), ?_⟩
                rw [nI_clamp (show T (49 + x) < 2 ^ 31 by omega), nI_clamp (show k < 2 ^ 31 by omega), ro_cost hr hg5 h1, nI_sub hle, nI_1]
                have hfr : ∀ a, ¬ a = w → ¬ a = w + 1 → qset (qset (qset (qset μ w 3 (nI (left - costT (T (49 + x))))) (w + 1) k (nI x)) w 1 (nI (k + 1))) w 2 (nI x) a = μ a := fun a h1 h2 => by
                  rw [qset_ne h1, qset_ne h1, qset_ne h2, qset_ne h1]
                refine ih (k + 1) x (left - costT (T (49 + x))) (pre ++ [x]) _ _ _ (by omega) (by simp [hp]) (endT_snoc c0 x pre).symm hx (by omega) (qTw_frame hw fun a h1 h2 => hfr a (by omega) (by omega)) ?_ ?_ ?_
                · obtain ⟨r1, r2, r3⟩ := hr
                  refine ⟨fun j => ?_, fun j => ?_, fun j => ?_⟩
                  · rw [hfr 1000 (by omega) (by omega)]; exact r1 j
                  · rw [hfr 1001 (by omega) (by omega)]; exact r2 j
                  · rw [hfr 1002 (by omega) (by omega)]; exact r3 j
                · refine ⟨?_, ?_, ?_, ?_, fun i hi => ?_⟩
                  · rw [qset_k (by decide), qset_s]; simp [hp]
                  · rw [qset_s, endT_snoc]
                  · rw [qset_k (by decide), qset_k (by decide), qset_o (by omega), qset_s]
                  · rw [qset_k (by decide), qset_k (by decide), qset_o (by omega), qset_k (by decide)]; exact g4
                  · rw [qset_o (by omega), qset_o (by omega)]
                    simp only [List.length_append, List.length_cons, List.length_nil] at hi
                    by_cases hik : i = k
                    · subst hik
                      rw [qset_s]
                      simp [← hp]
                    · rw [qset_k hik, qset_o (by omega), g5 i (by omega)]
                      congr 1
                      simp [List.getD_eq_getElem?_getD, List.getElem?_append_left (show i < pre.length by omega)]
                · intro μ' hf hk'
                  refine hQ μ' (fun a h1 h2 => (hf a h1 h2).trans (hfr a h1 h2)) ?_
                  rw [hQ0]
                  simpa using hk'
              · rw [if_neg (nI_ge (by omega) (by omega))]
                rw [if_neg (show ¬ canT T kind left x from fun h => hle h.2.2.2)] at hQ0
                simp only [x71_162]
                exact hstop hQ0
          simp only [x71_131, x71_133, x71_136, x71_138, x71_139, x71_142, x71_144, x71_145, x71_148]
          have hund : underT kind 4 = true ↔ 4 ≤ kind := by
            simp [underT]; omega
          by_cases h4 : 4 ≤ kind
          · rw [if_pos (hund.mpr h4), if_neg (by decide)]
            by_cases h2 : T (49 + x) = 2
            · rw [if_pos (by rw [h2]; rfl)]
              rw [if_neg (show ¬ canT T kind left x from fun h => h.2.2.1 ⟨h4, Or.inl h2⟩)] at hQ0
              exact hstop hQ0
            · rw [if_neg (by rw [show (2 : Int32) = nI 2 from rfl, nI_eq (by omega) (by omega)]; exact h2)]
              by_cases h3 : T (49 + x) = 3
              · rw [if_neg (by rw [h3]; decide)]
                rw [if_neg (show ¬ canT T kind left x from fun h => h.2.2.1 ⟨h4, Or.inr h3⟩)] at hQ0
                exact hstop hQ0
              · rw [if_pos (by rw [show (3 : Int32) = nI 3 from rfl, nI_eq (by omega) (by omega)]; exact h3)]
                rcases hcost with h | h
                · rw [if_pos (hund.mpr h4)] at h
                  exact h
                · exfalso; omega
          · rw [if_neg (fun h => h4 (hund.mp h)), if_pos rfl]
            rcases hcost with h | h
            · rw [if_neg (fun h => h4 (hund.mp h))] at h
              exact h
            · exfalso; omega
set_option maxHeartbeats 4000000 in
theorem c_trace {p kind side owed : Nat} (hT : qTown σ t) (hW : qWalk σ w) (hdis : w + 1 < t ∨ t + 7 < w) (hw1 : w + 1 < 1000) (hwf : wfT N T) (hp : p < T 115) (hk1 : 1 ≤ kind) (hk5 : kind ≤ 5) (hsd : side < 4) (how : owed ≤ 99) (hw : qTw μ t T) (hr : qRo μ)
    (hQ : ∀ μ' : qMu, (∀ a, ¬ a = w → ¬ a = w + 1 → μ' a = μ a) → qWk μ' w (T (1 + p)) (wayT T kind side) (walkT T p kind side owed) → Q none σ μ' la) :
    qEx (d + 1) 71 0 [] [.ref w, .ref t, .int (nI p), .int (nI kind), .int (nI side), .int (nI owed), .retAddr 0, .retAddr 0, .retAddr 0, .retAddr 0, .retAddr 0] σ μ la Q := by
  have h116 := hwf.2.2.2.2.1
  have h6 := hwf.1
  have hin := (hwf.2.2.2.2.2.2.2.1 p hp).2.1
  have hat := (hw.2.2.2.2.2.2.2 p hp).2.1
  -- where he looks
  have hA : qEx (d + 1) 71 16 [] [.ref w, .ref t, .int (nI p), .int (nI kind), .int (nI side), .int (nI owed), .int (nI (if T 116 = 1 then 0 else side)), .retAddr 0, .retAddr 0, .retAddr 0, .retAddr 0] σ μ la Q → qEx (d + 1) 71 0 [] [.ref w, .ref t, .int (nI p), .int (nI kind), .int (nI side), .int (nI owed), .retAddr 0, .retAddr 0, .retAddr 0, .retAddr 0, .retAddr 0] σ μ la Q := by
    intro h
    simp only [x71_0, x71_1, x71_4, x71_5, x71_8, x71_9, x71_12, x71_14, qtOk hT, true_and, hw.2.2.2.2.1]
    by_cases h1 : T 116 = 1
    · rw [if_pos h1] at h
      rw [if_neg (by rw [h1]; decide)]
      exact h
    · rw [if_neg h1] at h
      rw [if_pos (by rw [show (1 : Int32) = nI 1 from rfl, nI_eq (by omega) (by omega)]; exact h1)]
      exact h
  refine hA ?_
  have hlk : (if T 116 = 1 then 0 else side) < 4 := by split <;> omega
  generalize hlook : (if T 116 = 1 then 0 else side) = looks at hlk
  have hwy : wayT T kind side = (looks + (if kind = 3 then 3 else 2)) % 4 := by rw [wayT, hlook]
  have hway : wayT T kind side < 4 := by rw [hwy]; omega
  -- the side
  have hB : qEx (d + 1) 71 35 [] [.ref w, .ref t, .int (nI p), .int (nI kind), .int (nI side), .int (nI owed), .int (nI looks), .retAddr 0, .retAddr 0, .retAddr 0, .retAddr 0] σ (qset μ w 4 (nI (wayT T kind side))) la Q → qEx (d + 1) 71 16 [] [.ref w, .ref t, .int (nI p), .int (nI kind), .int (nI side), .int (nI owed), .int (nI looks), .retAddr 0, .retAddr 0, .retAddr 0, .retAddr 0] σ μ la Q := by
    intro h
    rw [hwy] at h
    simp only [x71_16, x71_17, x71_19, x71_20, x71_21, x71_24, x71_25, x71_28, x71_29, x71_30, x71_31, x71_32, (qwOk (μ := μ) hW).1, true_and]
    by_cases h1 : kind = 3
    · rw [if_pos h1] at h
      rw [if_neg (by rw [h1]; decide), show (3 : Int32) = nI 3 from rfl, show (4 : Int32) = nI 4 from rfl, nI_add, nI_reml (by omega) (by omega)]
      exact ⟨by decide, h⟩
    · rw [if_neg h1] at h
      rw [if_pos (by rw [show (3 : Int32) = nI 3 from rfl, nI_eq (by omega) (by omega)]; exact h1), show (2 : Int32) = nI 2 from rfl, show (4 : Int32) = nI 4 from rfl, nI_add, nI_reml (by omega) (by omega)]
      exact ⟨by decide, h⟩
  refine hB ?_
  -- the paces
  have hC : qEx (d + 1) 71 53 [] [.ref w, .ref t, .int (nI p), .int (nI kind), .int (nI side), .int (nI owed), .int (nI looks), .retAddr 0, .retAddr 0, .retAddr 0, .retAddr 0] σ (qset (qset μ w 4 (nI (wayT T kind side))) w 3 (nI (pacesT kind owed))) la Q → qEx (d + 1) 71 35 [] [.ref w, .ref t, .int (nI p), .int (nI kind), .int (nI side), .int (nI owed), .int (nI looks), .retAddr 0, .retAddr 0, .retAddr 0, .retAddr 0] σ (qset μ w 4 (nI (wayT T kind side))) la Q := by
    intro h
    unfold pacesT at h
    simp only [x71_35, x71_36, x71_37, x71_38, x71_41, x71_43, x71_44, x71_45, x71_48, x71_50, (qwOk (μ := μ) hW).1, true_and]
    by_cases h1 : kind = 2
    · rw [if_pos h1] at h
      rw [if_neg (by rw [h1]; decide), show (2 : Int32) = nI 2 from rfl, nI_divl (by omega) (by omega)]
      exact ⟨by decide, h⟩
    · rw [if_neg h1] at h
      rw [if_pos (by rw [show (2 : Int32) = nI 2 from rfl, nI_eq (by omega) (by omega)]; exact h1)]
      exact h
  refine hC ?_
  simp only [x71_53, x71_54, x71_55, x71_58, x71_59, x71_60, x71_63, x71_64, x71_65, x71_68, x71_69, x71_70, (qwOk (μ := μ) hW).1, qtOk hT, (qtR hT).2.2.1, qrf, (qtI hT).2.2.1, true_and]
  refine ⟨qIn_nI (by omega) (by omega), ?_⟩
  rw [nI_clamp (by omega), qset_o (by omega), qset_o (by omega), qset_o (by omega), hat]
  have hfr : ∀ a, ¬ a = w → ¬ a = w + 1 → qset (qset (qset (qset μ w 4 (nI (wayT T kind side))) w 3 (nI (pacesT kind owed))) w 1 0) w 2 (nI (T (1 + p))) a = μ a := fun a h1 _ => by
    rw [qset_ne h1, qset_ne h1, qset_ne h1, qset_ne h1]
  have hr2 : qRo (qset (qset (qset (qset μ w 4 (nI (wayT T kind side))) w 3 (nI (pacesT kind owed))) w 1 0) w 2 (nI (T (1 + p)))) := by
    obtain ⟨r1, r2, r3⟩ := hr
    refine ⟨fun j => ?_, fun j => ?_, fun j => ?_⟩
    · rw [hfr 1000 (by omega) (by omega)]; exact r1 j
    · rw [hfr 1001 (by omega) (by omega)]; exact r2 j
    · rw [hfr 1002 (by omega) (by omega)]; exact r3 j
  refine c_under (wanted := 4) hr2 hk1 hk5 (by omega) ?_
  simp only [Option.toList_some, List.cons_append, List.nil_append, x71_73, x71_75, x71_76]
  refine c_trace_loop (c0 := T (1 + p)) (way := wayT T kind side) (N := N) hT hW hdis hw1 hwf hk1 hk5 hway 8 0 (T (1 + p)) (pacesT kind owed) [] _ _ _ (by omega) rfl rfl hin ?_ (qTw_frame hw fun a h1 h2 => hfr a (by omega) (by omega)) hr2 ?_ ?_
  · unfold pacesT; split <;> omega
  · refine ⟨?_, ?_, ?_, ?_, fun i hi => absurd hi (Nat.not_lt_zero _)⟩
    · rw [qset_k (by decide), qset_s]; rfl
    · rw [qset_s]; rfl
    · rw [qset_k (by decide), qset_k (by decide), qset_s]
    · rw [qset_k (by decide), qset_k (by decide), qset_k (by decide), qset_s]
  · intro μ' hf hk
    exact hQ μ' (fun a h1 h2 => (hf a h1 h2).trans (hfr a h1 h2)) hk
end
