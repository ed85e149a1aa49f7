/-! the class's Town.follow, walkAtNoon, passNoon, commit -/
section
variable {d : Nat} {σ : qSg} {la : qLa} {Q : qPost} {t w : Nat} {T : qT} {N : Nat}
theorem qRo_fr {μ μ' : qMu} (h : qRo μ) (h0 : μ' 1000 = μ 1000) (h1 : μ' 1001 = μ 1001) (h2 : μ' 1002 = μ 1002) : qRo μ' := by
  unfold qRo; rw [h0, h1, h2]; exact h
theorem qWk_fr {μ μ' : qMu} {c0 way : Nat} {r : List Nat × Nat} (h : qWk μ w c0 way r) (h0 : μ' w = μ w) (h1 : μ' (w + 1) = μ (w + 1)) : qWk μ' w c0 way r := by
  unfold qWk; rw [h0, h1]; exact h
set_option maxHeartbeats 4000000 in
theorem c_follow_loop {p c0 way left : Nat} {path : List Nat} (hT : qTown σ t) (hW : qWalk σ w) (hdis : w + 1 < t ∨ t + 7 < w) (hp : p < 6) (h6 : T 115 ≤ 6) (hpl : path.length ≤ 8) (hpath : ∀ x ∈ path, inT T x ∧ x < 64) (h5 : ∀ c, inT T c → T (49 + c) < 5) : ∀ (n k : Nat) (μ : qMu), k + n = path.length → qTw μ t (opnT T (path.take k)) → qWk μ w c0 way (path, left) →
    (∀ μ' : qMu, (∀ a, ¬ a = t + 1 → ¬ a = t + 3 → μ' a = μ a) → qTw μ' t (upT (opnT T path) (1 + p) (endT c0 path)) → Q none σ μ' la) →
    qEx d 65 2 [] [.ref t, .int (nI p), .ref w, .int (nI k)] σ μ la Q := by
  intro n
  induction n with
  | zero =>
    intro k μ hk hw hwk hQ
    have hk' : k = path.length := by omega
    subst hk'
    obtain ⟨g1, g2, g3, g4, g5⟩ := id hwk
    simp only at g1 g2
    rw [List.take_length] at hw
    rw [x65_2]
    simp only [x65_0, x65_1, x65_3, x65_4, x65_7, x65_10, x65_11, x65_14, x65_15, x65_18, x65_19, x65_20, x65_21, x65_22, x65_25, x65_26, x65_29, x65_30, x65_33, x65_34, x65_35, x65_36, x65_37, x65_40, x65_43, x65_44, x65_47, x65_48, x65_49, x65_52, x65_53, (qwOk (μ := μ) hW).1, qtOk hT, true_and, g1, g2, (qtR hT).2.2.1, qrf, (qtL hT).2.2.1]
    rw [if_pos (nI_le (Nat.le_refl _) (by omega))]
    refine ⟨qIn_nI hp (by omega), ?_⟩
    rw [nI_clamp (by omega)]
    refine hQ _ (fun a h1 h2 => qset_ne h2) (qTw_at hw (by rw [opnT_lo (by omega)]; exact h6) hp)
  | succ n ih =>
    intro k μ hk hw hwk hQ
    have hkl : k < path.length := by omega
    obtain ⟨g1, g2, g3, g4, g5⟩ := id hwk
    simp only at g1 g2 g5
    have hx := hpath (path.getD k 0) (by rw [List.getD_eq_getElem?_getD, List.getElem?_eq_getElem hkl]; exact List.getElem_mem hkl)
    have hgk := g5 k hkl
    generalize hxe : path.getD k 0 = x at hx hgk
    have hin : inT (opnT T (path.take k)) x := by unfold inT; rw [opnT_lo (by omega), opnT_lo (by omega)]; exact hx.1
    have hgm := hw.2.2.2.2.2.2.1 x hin
    have hg5 : opnT T (path.take k) (49 + x) < 5 := by
      have := h5 x hx.1
      unfold opnT; split <;> omega
    have htk : path.take (k + 1) = path.take k ++ [x] := by
      rw [List.take_succ, List.getElem?_eq_getElem hkl]
      congr 1
      rw [← hxe, List.getD_eq_getElem?_getD, List.getElem?_eq_getElem hkl]; rfl
    have hso := opnT_snoc (T := T) (l := path.take k) hx.2
    rw [← htk] at hso
    rw [x65_2]
    simp only [x65_0, x65_1, x65_3, x65_4, x65_7, x65_10, x65_11, x65_14, x65_15, x65_18, x65_19, x65_20, x65_21, x65_22, x65_25, x65_26, x65_29, x65_30, x65_33, x65_34, x65_35, x65_36, x65_37, x65_40, x65_43, x65_44, x65_47, x65_48, x65_49, x65_52, x65_53, (qwOk (μ := μ) hW).1, (qwOk (μ := μ) hW).2.1, (qwOk (μ := μ) hW).2.2.1, qtOk hT, true_and, g1, (qtR hT).1, qrf, (qtI hT).1, (qtL hT).1]
    rw [if_neg (nI_ge hkl (by omega))]
    refine ⟨qIn_nI (by omega) (by omega), ?_⟩
    rw [nI_clamp (by omega), hgk]
    refine ⟨qIn_nI hx.2 (by omega), ?_⟩
    rw [nI_clamp (by omega), hgm]
    by_cases h4 : opnT T (path.take k) (49 + x) = 4
    · rw [if_pos h4] at hso
      rw [if_neg (by rw [h4]; decide)]
      refine ⟨qIn_nI (by omega) (by omega), qIn_nI hx.2 (by omega), ?_⟩
      rw [nI_1]
      refine ih (k + 1) _ (by omega) ?_ (qWk_fr hwk (qset_ne (by omega)) (qset_ne (by omega))) fun μ' hf ht => hQ μ' (fun a h1 h2 => (hf a h1 h2).trans (qset_ne h1)) ht
      rw [hso]
      exact qTw_ground (v := 0) hw (by rw [opnT_lo (by omega)]; exact h6) hx.2
    · rw [if_neg h4] at hso
      rw [if_pos (by rw [show (4 : Int32) = nI 4 from rfl, nI_eq (by omega) (by omega)]; exact h4), nI_1]
      refine ih (k + 1) μ (by omega) ?_ hwk hQ
      rw [hso]; exact hw
theorem c_follow {p c0 way left : Nat} {path : List Nat} {μ : qMu} (hT : qTown σ t) (hW : qWalk σ w) (hdis : w + 1 < t ∨ t + 7 < w) (hp : p < 6) (hwf : wfT N T) (hpl : path.length ≤ 8) (hpath : ∀ x ∈ path, inT T x) (hw : qTw μ t T) (hwk : qWk μ w c0 way (path, left))
    (hQ : ∀ μ' : qMu, (∀ a, ¬ a = t + 1 → ¬ a = t + 3 → μ' a = μ a) → qTw μ' t (upT (opnT T path) (1 + p) (endT c0 path)) → Q none σ μ' la) : qEx d 65 0 [] [.ref t, .int (nI p), .ref w, .retAddr 0] σ μ la Q := by
  simp only [x65_0, x65_1]
  exact c_follow_loop hT hW hdis hp hwf.1 hpl (fun x hx => ⟨hpath x hx, inT_lt hwf (hpath x hx)⟩) hwf.2.2.2.2.2.2.1 path.length 0 μ (by omega) (by rw [List.take_zero, opnT_nil]; exact hw) hwk hQ
set_option maxHeartbeats 4000000 in
theorem c_walkAtNoon {p : Nat} {μ : qMu} (hT : qTown σ t) (hW : qWalk σ w) (hdis : w + 1 < t ∨ t + 7 < w) (hw1 : w + 1 < 1000) (ht1 : t + 7 < 1000) (hwf : wfT N T) (hp : p < T 115) (hw : qTw μ t T) (hr : qRo μ)
    (hQ : ∀ μ' : qMu, (∀ a, ¬ (a = w ∨ a = w + 1) → ¬ (t + 1 ≤ a ∧ a ≤ t + 7) → μ' a = μ a) → qTw μ' t (walkInT T p) → qWk μ' w (T (1 + p)) (wayT T (T (118 + p)) (T (7 + p))) (ownT T p) → Q none σ μ' la) :
    qEx (d + 2) 66 0 [] [.ref t, .int (nI p), .ref w] σ μ la Q := by
  have h6 := hwf.1
  have hp6 : p < 6 := by omega
  obtain ⟨⟨k1, k5⟩, hin, hf4, ho, hdd⟩ := hwf.2.2.2.2.2.2.2.1 p hp
  obtain ⟨b2, b3, b4, b5, b6, b7⟩ := hw.2.2.2.2.2.2.2 p hp
  simp only [x66_0, x66_1, x66_2, x66_3, x66_4, x66_7, x66_8, x66_9, x66_10, x66_13, x66_14, x66_15, x66_16, x66_19, x66_20, x66_21, qtOk hT, (qwOk (μ := μ) hW).1, true_and, (qtR hT).2.1, (qtR hT).2.2.2.1, (qtR hT).2.2.2.2.1, qrf, (qtI hT).2.1, (qtI hT).2.2.2.1, (qtI hT).2.2.2.2.1]
  refine ⟨qIn_nI hp6 (by omega), qIn_nI hp6 (by omega), qIn_nI hp6 (by omega), ?_⟩
  rw [nI_clamp (by omega), b2, b4, b5]
  refine c_trace hT hW hdis hw1 hwf hp k1 k5 hf4 ho hw hr fun μ1 hf1 hk1 => ?_
  obtain ⟨p1, p2, p3⟩ := walkF_ok (kind := T (118 + p)) (way := wayT T (T (118 + p)) (T (7 + p))) hwf 8 (T (1 + p)) (pacesT (T (118 + p)) (T (13 + p))) hin
  simp only [Option.toList_none, List.nil_append, x66_24, x66_25, x66_26, x66_27, qtOk hT, true_and]
  have hwT1 : qTw μ1 t T := qTw_frame hw fun a h1 h2 => hf1 a (by omega) (by omega)
  refine c_follow hT hW hdis hp6 hwf p3 (fun x hx => (p1 x hx).1) hwT1 hk1 fun μ2 hf2 ht2 => ?_
  have hk2 : qWk μ2 w (T (1 + p)) (wayT T (T (118 + p)) (T (7 + p))) (ownT T p) := qWk_fr hk1 (hf2 w (by omega) (by omega)) (hf2 (w + 1) (by omega) (by omega))
  obtain ⟨g1, g2, g3, g4, g5⟩ := id hk2
  have e6 := (ht2.2.2.2.2.2.2.2 p (by rw [upT_o (by omega), opnT_lo (by omega)]; exact hp)).2.2.2.2.1
  rw [upT_o (by omega), opnT_lo (by omega)] at e6
  simp only [Option.toList_none, List.nil_append, x66_30, x66_31, x66_34, x66_35, x66_36, x66_37, x66_38, x66_41, x66_42, qtOk hT, (qwOk (μ := μ) hW).1, true_and, (qtR hT).2.2.2.2.2.1, qrf, (qtI hT).2.2.2.2.2.1, (qtL hT).2.2.2.2.2.1, g1]
  refine ⟨qIn_nI hp6 (by omega), qIn_nI hp6 (by omega), ?_⟩
  rw [nI_clamp (by omega), e6, nI_add]
  have ht3 := qTw_ent (p := p) (v := T (19 + p) + (ownT T p).1.length) ht2 (by rw [upT_o (by omega), opnT_lo (by omega)]; exact h6) hp6
  generalize hμ3 : qset μ2 (t + 6) p (nI (T (19 + p) + (ownT T p).1.length)) = μ3 at ht3
  have hf3 : ∀ a, ¬ a = t + 6 → μ3 a = μ2 a := fun a ha => by rw [← hμ3]; exact qset_ne ha
  have o3 := ht3.2.2.2.2.2.1
  rw [upT_o (by omega), upT_o (by omega), opnT_lo (by omega)] at o3
  have g33 : μ3 w 3 = nI (ownT T p).2 := by rw [hf3 w (by omega)]; exact g3
  -- what he owes
  have hO : ∀ v : Nat, v = (if T 117 = 1 then (ownT T p).2 else 0) → qEx (d + 2) 66 65 [] [.ref t, .int (nI p), .ref w] σ (qset μ3 (t + 5) p (nI v)) la Q := by
    intro v hv
    have ht4 := qTw_owes (p := p) (v := v) ht3 (by rw [upT_o (by omega), upT_o (by omega), opnT_lo (by omega)]; exact h6) hp6
    have hf4' : ∀ a, ¬ a = t + 5 → qset μ3 (t + 5) p (nI v) a = μ3 a := fun a ha => qset_ne ha
    generalize qset μ3 (t + 5) p (nI v) = μ4 at ht4 hf4'
    obtain ⟨c2, c3, c4, c5, c6, c7⟩ := ht4.2.2.2.2.2.2.2 p (by rw [upT_o (by omega), upT_o (by omega), upT_o (by omega), opnT_lo (by omega)]; exact hp)
    rw [upT_o (by omega), upT_o (by omega), upT_o (by omega), opnT_lo (by omega)] at c2 c4
    have hfr : ∀ a, ¬ (a = w ∨ a = w + 1) → ¬ (t + 1 ≤ a ∧ a ≤ t + 7) → μ4 a = μ a := fun a h1 h2 => by
      rw [hf4' a (by omega), hf3 a (by omega), hf2 a (by omega) (by omega), hf1 a (by omega) (by omega)]
    have hkw : qWk μ4 w (T (1 + p)) (wayT T (T (118 + p)) (T (7 + p))) (ownT T p) := qWk_fr hk2 ((hf4' w (by omega)).trans (hf3 w (by omega))) ((hf4' (w + 1) (by omega)).trans (hf3 (w + 1) (by omega)))
    simp only [x66_65, x66_66, x66_69, x66_70, x66_71, x66_72, x66_75, x66_76, x66_79, x66_80, x66_81, x66_84, x66_85, x66_86, x66_87, x66_88, x66_89, x66_90, x66_91, qtOk hT, true_and, (qtR hT).2.1, (qtR hT).2.2.2.1, qrf, (qtI hT).2.1, (qtI hT).2.2.2.1, (qtL hT).2.2.2.1]
    refine ⟨qIn_nI hp6 (by omega), ?_⟩
    rw [nI_clamp (by omega), c2]
    by_cases h5 : T (118 + p) = 5
    · rw [if_neg (by rw [h5]; decide), c4, show (1 : Int32) = nI 1 from rfl, show (4 : Int32) = nI 4 from rfl, nI_add, nI_reml (by omega) (by omega)]
      refine ⟨qIn_nI hp6 (by omega), by decide, qIn_nI hp6 (by omega), ?_⟩
      refine hQ _ (fun a h1 h2 => (qset_ne (by omega)).trans (hfr a h1 h2)) ?_ (qWk_fr hkw (qset_ne (by omega)) (qset_ne (by omega)))
      have ht5 := qTw_face (p := p) (v := (T (7 + p) + 1) % 4) ht4 (by rw [upT_o (by omega), upT_o (by omega), upT_o (by omega), opnT_lo (by omega)]; exact h6) hp6
      unfold walkInT lookT
      rw [if_pos h5, ← hv]
      exact ht5
    · rw [if_pos (by rw [show (5 : Int32) = nI 5 from rfl, nI_eq (by omega) (by omega)]; exact h5)]
      refine hQ _ hfr ?_ hkw
      unfold walkInT lookT
      rw [if_neg h5, ← hv, upT_id (by rw [upT_o (by omega), upT_o (by omega), upT_o (by omega), opnT_lo (by omega)])]
      exact ht4
  simp only [x66_43, x66_44, x66_47, x66_48, x66_49, x66_52, x66_53, x66_56, x66_57, x66_60, x66_63, x66_64, qtOk hT, (qwOk (μ := μ) hW).1, true_and, (qtR hT).2.2.2.2.1, qrf, (qtL hT).2.2.2.2.1, o3, g33]
  have h117 := hwf.2.2.2.2.2.1
  by_cases ho1 : T 117 = 1
  · rw [if_neg (by rw [ho1]; decide)]
    refine ⟨qIn_nI hp6 (by omega), ?_⟩
    rw [nI_clamp (by omega)]
    exact hO _ (by rw [if_pos ho1])
  · rw [if_pos (by rw [show (1 : Int32) = nI 1 from rfl, nI_eq (by omega) (by omega)]; exact ho1)]
    refine ⟨qIn_nI hp6 (by omega), ?_⟩
    rw [nI_clamp (by omega)]
    exact hO 0 (by rw [if_neg ho1])
end
