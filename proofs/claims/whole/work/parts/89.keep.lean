/-! every next state is a proper one -/
section
variable {N : Nat} {b : List Nat} {T : qT} {as : List qT} {im : Nat → qT} {sh : Nat → wSh} {x y z i j n l : Int32} {v : Int64}
theorem wfS_up {U : qT} (h : wfS N U) : wfS (N + 1) U := ⟨wf_mono h.1 (by omega), h.2⟩
theorem P_up {S : wS} (h : SimP N S) (hN : N + 1 ≤ 1000) : SimP (N + 1) S := by
  obtain ⟨-, h2, h3, ⟨h4, h5⟩, h6, h7⟩ := h
  exact ⟨hN, h2, wfS_up h3, ⟨h4, fun U hU => ⟨wfS_up (h5 U hU).1, (h5 U hU).2⟩⟩, fun k hk => wfS_up (h6 k hk), h7⟩
theorem P_st0 : SimP 0 st0 := by
  have hz : wfS 0 zT := ⟨⟨by decide, by decide, by decide, Nat.zero_le _, by decide, by decide, fun c hc => (by decide : (0 : Nat) < 5), fun p hp => absurd hp (Nat.not_lt_zero p), fun p q hp => absurd hp (Nat.not_lt_zero p)⟩, by decide⟩
  exact ⟨by decide, ⟨by decide, fun x hx => absurd hx (List.not_mem_nil)⟩, hz, ⟨by decide, fun x hx => absurd hx (List.not_mem_nil)⟩, fun _ _ => hz, fun _ _ => ⟨Nat.zero_le _, Nat.zero_le _⟩⟩
theorem P_act {T' : qT} (h : SimP N (b, T, as, im, sh)) (hN : N + 1 ≤ 1000) (hw : wfS (N + 1) T') (he : ∀ j, 113 ≤ j → j < 124 → T' j = T j) : SimP (N + 1) (b, T', noteA T as, im, sh) := by
  obtain ⟨-, h2, h3, ⟨h4, h5⟩, h6, h7⟩ := h
  refine ⟨hN, h2, hw, ⟨?_, fun U hU => ?_⟩, fun k hk => wfS_up (h6 k hk), h7⟩
  · show (T :: as.take 23).length ≤ 24
    rw [List.length_cons, List.length_take]
    omega
  · rcases List.mem_cons.mp hU with rfl | hU
    · exact ⟨wfS_up h3, fun j a c => (he j a c).symm⟩
    · have := h5 U (List.mem_of_mem_take hU)
      exact ⟨wfS_up this.1, fun j a c => (this.2 j a c).trans (he j a c).symm⟩
theorem P_noon (h : SimP N (b, T, as, im, sh)) (hN : N + 1 ≤ 1000) : SimP (N + 1) (if okNoon T then (b, (noonT T).1, noteA T as, im, sh) else (b, T, as, im, sh)) := by
  cases hc : okNoon T
  · exact P_up h hN
  · have hw : wfS N T := h.2.2.1
    simp only [okNoon, Bool.and_eq_true, Bool.not_eq_true', decide_eq_false_iff_not] at hc
    refine P_act h hN ⟨wf_mono (wf_noon hw.1) (by omega), ?_⟩ fun j a c => noonT_hi hw.1.1 a
    rw [noonT_0 hw.1.1]
    have := hw.2
    omega
theorem P_deed (h : SimP N (b, T, as, im, sh)) (hN : N + 1 ≤ 1000) : SimP (N + 1) (if isR x (T 115) && isR y 4 then (b, doT T (nn x) (nn y), noteA T as, im, sh) else (b, T, as, im, sh)) := by
  have hw : wfS N T := h.2.2.1
  have h6 := hw.1.1
  cases hx : isR x (T 115)
  · exact P_up h hN
  cases hy : isR y 4
  · exact P_up h hN
  obtain ⟨p, hp, rfl⟩ := isR_ex hx (by omega)
  obtain ⟨k, hk, rfl⟩ := isR_ex hy (by omega)
  rw [nn_nI (by omega), nn_nI (by omega)]
  refine P_act h hN ⟨wf_do hw.1 hp hk, ?_⟩ fun j a c => doT_hi (by omega) hk a
  unfold doT
  rw [upT_o (by omega), upT_o (by omega)]
  exact hw.2
theorem P_look (h : SimP N (b, T, as, im, sh)) (hN : N + 1 ≤ 1000) : SimP (N + 1) (if okLook T x y then (b, upT T (7 + nn x) (nn y), noteA T as, im, sh) else (b, T, as, im, sh)) := by
  have hw : wfS N T := h.2.2.1
  have h6 := hw.1.1
  cases hc : okLook T x y
  · exact P_up h hN
  · simp only [okLook, Bool.and_eq_true] at hc
    obtain ⟨p, hp, rfl⟩ := isR_ex hc.1.1 (by omega)
    obtain ⟨k, hk, rfl⟩ := isR_ex hc.1.2 (by omega)
    rw [nn_nI (by omega), nn_nI (by omega)]
    refine P_act h hN ⟨wf_mono (wf_face hw.1 hp hk) (by omega), ?_⟩ fun j a c => upT_o (by omega)
    rw [upT_o (by omega)]
    exact hw.2
theorem P_build (h : SimP N (b, T, as, im, sh)) (hN : N + 1 ≤ 1000) : SimP (N + 1) (if okBuild T x y then (b, upT T (49 + nn x) (nn y), noteA T as, im, sh) else (b, T, as, im, sh)) := by
  have hw : wfS N T := h.2.2.1
  cases hc : okBuild T x y
  · exact P_up h hN
  · simp only [okBuild, Bool.and_eq_true] at hc
    obtain ⟨p, hp, -, rfl⟩ := isC_ex hc.1.1.1
    obtain ⟨k, hk, rfl⟩ := isR_ex hc.1.1.2 (by omega)
    rw [nn_nI (by omega), nn_nI (by omega)]
    refine P_act h hN ⟨wf_mono (wf_ground hw.1 hp (by omega)) (by omega), ?_⟩ fun j a c => upT_o (by omega)
    rw [upT_o (by omega)]
    exact hw.2
theorem P_undo (h : SimP N (b, T, as, im, sh)) (hN : N + 1 ≤ 1000) : SimP (N + 1) (b, sUndoT T as, as.tail, im, sh) := by
  cases as with
  | nil => exact P_up h hN
  | cons U as =>
    obtain ⟨-, h2, h3, ⟨h4, h5⟩, h6, h7⟩ := h
    have hU := h5 U List.mem_cons_self
    refine ⟨hN, h2, wfS_up hU.1, ⟨?_, fun V hV => ?_⟩, fun k hk => wfS_up (h6 k hk), h7⟩
    · show as.length ≤ 24
      have : (U :: as).length ≤ 24 := h4
      rw [List.length_cons] at this
      omega
    · have := h5 V (List.mem_cons_of_mem _ hV)
      exact ⟨wfS_up this.1, fun j a c => (this.2 j a c).trans (hU.2 j a c).symm⟩
theorem P_image (h : SimP N (b, T, as, im, sh)) (hN : N + 1 ≤ 1000) : SimP (N + 1) (b, T, as, sImage T im x, sh) := by
  have h' := P_up h hN
  obtain ⟨-, h2, h3, h4, h6, h7⟩ := h'
  refine ⟨hN, h2, h3, h4, fun k hk => ?_, h7⟩
  show wfS (N + 1) (sImage T im x k)
  unfold sImage
  split
  · split
    · exact h6 k hk
    · show wfS (N + 1) (if k = nn x then T else im k)
      split
      · exact h3
      · exact h6 k hk
  · exact h6 k hk
theorem P_restore (h : SimP N (b, T, as, im, sh)) (hN : N + 1 ≤ 1000) : SimP (N + 1) (if okRestore im x then (b, im (nn x), [], im, sh) else (b, T, as, im, sh)) := by
  cases hc : okRestore im x
  · exact P_up h hN
  · simp only [okRestore, Bool.and_eq_true] at hc
    obtain ⟨k, hk, rfl⟩ := isR_ex hc.1 (by omega)
    rw [nn_nI (by omega)]
    obtain ⟨-, h2, h3, h4, h6, h7⟩ := P_up h hN
    exact ⟨hN, h2, h6 k hk, ⟨Nat.zero_le 24, fun V hV => absurd hV (List.not_mem_nil)⟩, h6, h7⟩
theorem P_feed (h : SimP N (b, T, as, im, sh)) (hN : N + 1 ≤ 1000) : SimP (N + 1) (sFeed b x, T, as, im, sh) := by
  cases hx : isR x 256
  · rw [sFeed, hx]; exact P_up h hN
  · obtain ⟨k, hk, rfl⟩ := isR_ex hx (by omega)
    obtain ⟨-, ⟨h2, h2'⟩, h3⟩ := P_up h hN
    refine ⟨hN, ?_, h3⟩
    show (sFeed b (nI k)).length ≤ 140 ∧ ∀ x ∈ sFeed b (nI k), x < 256
    unfold sFeed
    rw [if_pos hx, nn_nI (by omega)]
    split
    · exact ⟨h2, h2'⟩
    · rename_i hl
      refine ⟨by rw [List.length_append]; have : b.length ≤ 140 := h2; simp; omega, fun y hy => ?_⟩
      rcases List.mem_append.mp hy with hy | hy
      · exact h2' y hy
      · rw [List.mem_singleton.mp hy]; exact hk
/-- the sheets -/
def okSh (sh : Nat → wSh) : Prop := ∀ s, s < 4 → (sh s).1 ≤ 4 ∧ (sh s).2.1 ≤ 24
theorem P_sh {sh' : Nat → wSh} (h : SimP N (b, T, as, im, sh)) (hN : N + 1 ≤ 1000) (hs : okSh sh → okSh sh') : SimP (N + 1) (b, T, as, im, sh') := by
  obtain ⟨-, h2, h3, h4, h6, h7⟩ := P_up h hN
  exact ⟨hN, h2, h3, h4, h6, hs h7⟩
theorem okSh_upd {s : Nat} {r : wSh} (h : okSh sh) (hr : r.1 ≤ 4 ∧ r.2.1 ≤ 24) : okSh (updS sh s r) := fun k hk => by
  unfold updS
  by_cases hs : k = s
  · rw [if_pos hs]; exact hr
  · rw [if_neg hs]; exact h k hk
theorem P_sheet (h : SimP N (b, T, as, im, sh)) (hN : N + 1 ≤ 1000) : SimP (N + 1) (b, T, as, im, sSheet sh x y z) := P_sh h hN fun h0 => by
  cases hx : isR x 4
  · simpa [sSheet, hx] using h0
  cases hy : isR y 4
  · simpa [sSheet, hy] using h0
  cases hz : isR z 25
  · simpa [sSheet, hz] using h0
  obtain ⟨k, hk, rfl⟩ := isR_ex hx (by omega)
  obtain ⟨p, hp, rfl⟩ := isR_ex hy (by omega)
  obtain ⟨q, hq, rfl⟩ := isR_ex hz (by omega)
  simp only [sSheet, hx, hy, hz, Bool.and_true, if_true, nn_nI (show p < 2 ^ 31 by omega), nn_nI (show q < 2 ^ 31 by omega)]
  exact okSh_upd h0 ⟨by show p + 1 ≤ 4; omega, by show q ≤ 24; omega⟩
theorem P_drop (h : SimP N (b, T, as, im, sh)) (hN : N + 1 ≤ 1000) : SimP (N + 1) (b, T, as, im, sDrop sh x) := P_sh h hN fun h0 => by
  unfold sDrop
  split
  · split
    · exact h0
    · exact okSh_upd h0 ⟨Nat.zero_le _, Nat.zero_le _⟩
  · exact h0
theorem P_item (h : SimP N (b, T, as, im, sh)) (hN : N + 1 ≤ 1000) : SimP (N + 1) (b, T, as, im, sItem sh x y i v) := P_sh h hN fun h0 => by
  unfold sItem
  cases hc : okItem sh x y i
  · exact h0
  · simp only [okItem, Bool.and_eq_true] at hc
    obtain ⟨k, hk, rfl⟩ := isR_ex hc.1.1 (by omega)
    rw [nn_nI (by omega)]
    exact okSh_upd h0 (h0 k hk)
theorem P_copy (h : SimP N (b, T, as, im, sh)) (hN : N + 1 ≤ 1000) : SimP (N + 1) (b, T, as, im, sCopy sh x i y j n) := P_sh h hN fun h0 => by
  unfold sCopy
  cases hc : okCopy sh x i y j n
  · exact h0
  · simp only [okCopy, Bool.and_eq_true] at hc
    obtain ⟨k, hk, rfl⟩ := isR_ex hc.1.1.1.1.1.2 (by omega)
    rw [nn_nI (by omega : k < 2 ^ 31)]
    exact okSh_upd h0 (h0 k hk)
theorem P_film (h : SimP N (b, T, as, im, sh)) (hN : N + 1 ≤ 1000) : SimP (N + 1) (b, T, as, im, sFilm T sh x n y l i) := P_sh h hN fun h0 => by
  unfold sFilm
  cases hc : okFilm T sh x n y l i
  · exact h0
  · simp only [okFilm, Bool.and_eq_true] at hc
    obtain ⟨k, hk, rfl⟩ := isR_ex hc.1.1.1.2 (by omega)
    rw [nn_nI (by omega : k < 2 ^ 31)]
    exact okSh_upd h0 (h0 k hk)
end
