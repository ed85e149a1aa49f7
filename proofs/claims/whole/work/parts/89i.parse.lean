/-! THE PARSER, purely: over the tape's bytes and a place; it gives the place reached and the town, if one is read -/
def pkN (b : List Nat) (p : Nat) : Nat := if p < b.length then b.getD p 0 else 999
def pkI (n : Nat) : Int32 := if n = 999 then mI 1 else nI n
def optV (o : Option Nat) : Int32 := match o with
  | some k => nI k
  | none => mI 1
def ixG : List Nat → Nat → Nat → Option Nat
  | [], _, _ => none
  | l :: L, n, k => if n = l then some k else ixG L n (k + 1)
def grdL : List Nat := [46, 35, 126, 94, 43]
def srtL : List Nat := [112, 99, 100, 101, 98]
def sidL : List Nat := [110, 101, 115, 119]
def crtL : List Nat := [99, 116]
def ovrL : List Nat := [102, 111]
def okB (b : List Nat) : Prop := b.length ≤ 140 ∧ ∀ x ∈ b, x < 256
theorem pkB_in {b : List Nat} {p : Nat} (h : pkN b p < 999) : p < b.length := by
  unfold pkN at h
  split at h
  · assumption
  · omega
theorem pk_of {b : List Nat} {p : Nat} (h : p < b.length) : pkN b p = b.getD p 0 := by unfold pkN; rw [if_pos h]
theorem pk_end {b : List Nat} {p : Nat} (h : ¬ p < b.length) : pkN b p = 999 := by unfold pkN; rw [if_neg h]
theorem pk_256 {b : List Nat} {p : Nat} (hb : okB b) (h : p < b.length) : pkN b p < 256 := by
  rw [pk_of h]
  exact hb.2 _ (by rw [List.getD_eq_getElem?_getD, List.getElem?_eq_getElem h]; exact List.getElem_mem h)
theorem pkB_le {b : List Nat} {p : Nat} (hb : okB b) : pkN b p < 1000 := by
  by_cases h : p < b.length
  · have := pk_256 hb h; omega
  · rw [pk_end h]; omega
theorem pkI_eq {n c : Nat} (hn : n < 1000) (hc : c < 999) : (pkI n = nI c) ↔ n = c := by
  unfold pkI
  by_cases h : n = 999
  · subst h
    rw [if_pos rfl, e_mn (by omega) (by omega)]
    exact ⟨fun z => z.elim, fun z => by omega⟩
  · rw [if_neg h, nI_eq (by omega) (by omega)]
theorem optV_lt {o : Option Nat} (h : ∀ k, o = some k → k < 2 ^ 31) : (optV o < nI 0) ↔ o = none := by
  cases o with
  | none => show (mI 1 < nI 0) ↔ _; rw [l_mn (by omega) (by omega)]; simp
  | some k => show (nI k < nI 0) ↔ _; rw [nI_ltI (h k rfl) (by omega)]; simp
theorem ix_lt : ∀ (L : List Nat) (n k i : Nat), ixG L n k = some i → k ≤ i ∧ i < k + L.length ∧ n ∈ L := by
  intro L
  induction L with
  | nil => intro n k i h; exact absurd h (by intro z; cases z)
  | cons l L ih =>
    intro n k i h
    unfold ixG at h
    rw [List.length_cons]
    split at h
    · rename_i e
      cases h
      exact ⟨Nat.le_refl _, by omega, by rw [e]; exact List.mem_cons_self⟩
    · obtain ⟨a, b, c⟩ := ih n (k + 1) i h
      exact ⟨by omega, by omega, List.mem_cons_of_mem _ c⟩
theorem grd_eq (n : Nat) : ixG grdL n 0 = if n = 46 then some 0 else if n = 35 then some 1 else if n = 126 then some 2 else if n = 94 then some 3 else if n = 43 then some 4 else none := rfl
theorem srt_eq (n : Nat) : ixG srtL n 0 = if n = 112 then some 0 else if n = 99 then some 1 else if n = 100 then some 2 else if n = 101 then some 3 else if n = 98 then some 4 else none := rfl
theorem sid_eq (n : Nat) : ixG sidL n 0 = if n = 110 then some 0 else if n = 101 then some 1 else if n = 115 then some 2 else if n = 119 then some 3 else none := rfl
theorem crt_eq (n : Nat) : ixG crtL n 0 = if n = 99 then some 0 else if n = 116 then some 1 else none := rfl
theorem ovr_eq (n : Nat) : ixG ovrL n 0 = if n = 102 then some 0 else if n = 111 then some 1 else none := rfl
theorem grd_in {n i : Nat} (h : ixG grdL n 0 = some i) : i < 5 ∧ n < 256 := by
  obtain ⟨-, a, c⟩ := ix_lt _ _ _ _ h
  exact ⟨by simpa [grdL] using a, by simp [grdL] at c; omega⟩
theorem srt_in {n i : Nat} (h : ixG srtL n 0 = some i) : i < 5 ∧ n < 256 := by
  obtain ⟨-, a, c⟩ := ix_lt _ _ _ _ h
  exact ⟨by simpa [srtL] using a, by simp [srtL] at c; omega⟩
theorem sid_in {n i : Nat} (h : ixG sidL n 0 = some i) : i < 4 ∧ n < 256 := by
  obtain ⟨-, a, c⟩ := ix_lt _ _ _ _ h
  exact ⟨by simpa [sidL] using a, by simp [sidL] at c; omega⟩
theorem crt_in {n i : Nat} (h : ixG crtL n 0 = some i) : i < 2 ∧ n < 256 := by
  obtain ⟨-, a, c⟩ := ix_lt _ _ _ _ h
  exact ⟨by simpa [crtL] using a, by simp [crtL] at c; omega⟩
theorem ovr_in {n i : Nat} (h : ixG ovrL n 0 = some i) : i < 2 ∧ n < 256 := by
  obtain ⟨-, a, c⟩ := ix_lt _ _ _ _ h
  exact ⟨by simpa [ovrL] using a, by simp [ovrL] at c; omega⟩
/-! the parts -/
def pLaw (b : List Nat) (T : qT) : Nat × Option qT :=
  if pkN b 0 = 108 then (match ixG crtL (pkN b 1) 0 with
    | none => (1, none)
    | some c => match ixG ovrL (pkN b 2) 0 with
      | none => (2, none)
      | some o => if pkN b 3 = 59 then (4, some (upT (upT T 116 c) 117 o)) else (3, none)) else (0, none)
def pRow (b : List Nat) : Nat → Nat → List Nat
  | 0, _ => []
  | n + 1, p => match ixG grdL (pkN b p) 0 with
    | none => []
    | some g => g :: pRow b n (p + 1)
def putR (T : qT) (r : Nat) (l : List Nat) : qT := fun j => if 49 + 8 * r ≤ j ∧ j < 49 + 8 * r + l.length then l.getD (j - (49 + 8 * r)) 0 else T j
def mostR (r : Nat) (T : qT) : Nat := if r = 0 then 8 else T 113
def rowT (T : qT) (r : Nat) (l : List Nat) : qT := upT (upT (putR T r l) 113 l.length) 114 (r + 1)
def badR (r : Nat) (T : qT) (l : List Nat) : Bool := decide (l.length = 0) || (decide (0 < r) && decide (l.length < mostR r T))
def pRows (b : List Nat) : Nat → Nat → qT → Nat → Nat × Option qT
  | 0, _, _, p => (p, none)
  | f + 1, r, T, p =>
    if badR r T (pRow b (mostR r T) p) then (p + (pRow b (mostR r T) p).length, none) else
    if pkN b (p + (pRow b (mostR r T) p).length) = 59 then (p + (pRow b (mostR r T) p).length + 1, some (rowT T r (pRow b (mostR r T) p))) else
    if f = 0 then (p + (pRow b (mostR r T) p).length, none) else
    if pkN b (p + (pRow b (mostR r T) p).length) = 47 then pRows b f (r + 1) (rowT T r (pRow b (mostR r T) p)) (p + (pRow b (mostR r T) p).length + 1) else (p + (pRow b (mostR r T) p).length, none)
def pFig (b : List Nat) (p lim : Nat) : Option Nat := if 48 ≤ pkN b p ∧ pkN b p ≤ 57 ∧ pkN b p - 48 < lim then some (pkN b p - 48) else none
def pOwes (b : List Nat) (p : Nat) : Nat × Option Nat := match pFig b p 10 with
  | none => (p, none)
  | some x => match pFig b (p + 1) 10 with
    | none => (p + 1, some x)
    | some y => match pFig b (p + 2) 10 with
      | none => (p + 2, some (10 * x + y))
      | some _ => (p, none)
def freeT (T : qT) (c : Nat) : Bool := !decide (T (49 + c) = 1) && (whoT T c).isNone
def persT (T : qT) (s c f o : Nat) : qT := upT (upT (upT (upT (upT T (118 + T 115) (s + 1)) (1 + T 115) c) (7 + T 115) f) (13 + T 115) o) 115 (T 115 + 1)
def pPers (b : List Nat) (T : qT) (p : Nat) : Nat × Option qT := match ixG srtL (pkN b p) 0 with
  | none => (p, none)
  | some s => match pFig b (p + 1) (T 113) with
    | none => (p + 1, none)
    | some x => match pFig b (p + 2) (T 114) with
      | none => (p + 2, none)
      | some y => if freeT T (8 * y + x) then (match ixG sidL (pkN b (p + 3)) 0 with
        | none => (p + 3, none)
        | some f => match pOwes b (p + 4) with
          | (q, none) => (q, none)
          | (q, some o) => if pkN b q = 59 then (q + 1, some (persT T s (8 * y + x) f o)) else (q, none)) else (p + 1, none)
def pPeople (b : List Nat) : Nat → qT → Nat → Nat × Option qT
  | 0, _, p => (p, none)
  | f + 1, T, p => match pPers b T p with
    | (q, none) => (q, none)
    | (q, some U) => if q < b.length then pPeople b f U q else (q, some U)
def pTown (b : List Nat) : Nat × Option qT := match pLaw b zT with
  | (p, none) => (p, none)
  | (p, some T) => match pRows b 8 0 T p with
    | (q, none) => (q, none)
    | (q, some U) => pPeople b 6 U q
def aTown (b : List Nat) : Int32 := match pTown b with
  | (p, none) => mI (100 + p)
  | (_, some U) => nI (U 115)
def sTown (S : wS) : wS := match (pTown (sB S)).2 with
  | none => ([], sT S, sA S, sI S, sH S)
  | some U => ([], U, [], sI S, sH S)
/-! what is read is proper -/
def wP (T : qT) : Prop := wfT 0 T ∧ (∀ c, c < 64 → T (49 + c) < 5) ∧ T 0 = 0 ∧ ∀ j, 19 ≤ j → j < 49 → T j = 0
theorem fig_in {b : List Nat} {p lim v : Nat} (h : pFig b p lim = some v) : v < lim ∧ v ≤ 9 ∧ pkN b p < 256 ∧ pkN b p = 48 + v := by
  unfold pFig at h
  split at h
  · cases h; omega
  · cases h
theorem pRow_len {b : List Nat} : ∀ n p, (pRow b n p).length ≤ n ∧ (∀ x ∈ pRow b n p, x < 5) ∧ (p ≤ b.length → p + (pRow b n p).length ≤ b.length) := by
  intro n
  induction n with
  | zero => intro p; exact ⟨Nat.le_refl _, fun x hx => absurd hx List.not_mem_nil, fun h => h⟩
  | succ n ih =>
    intro p
    unfold pRow
    cases h : ixG grdL (pkN b p) 0 with
    | none => exact ⟨Nat.zero_le _, fun x hx => absurd hx List.not_mem_nil, fun h => h⟩
    | some g =>
      obtain ⟨g5, g256⟩ := grd_in h
      have hp := pkB_in (b := b) (p := p) (by omega)
      obtain ⟨a, c, e⟩ := ih (p + 1)
      have e := e (by omega)
      refine ⟨by simp only [List.length_cons]; omega, fun x hx => ?_, fun _ => by simp only [List.length_cons]; omega⟩
      rcases List.mem_cons.mp hx with rfl | hx
      · exact g5
      · exact c x hx
theorem putR_nil {T : qT} {r : Nat} : putR T r [] = T := by
  funext j
  unfold putR
  rw [if_neg (by simp only [List.length_nil]; omega)]
theorem putR_o {T : qT} {r j : Nat} {l : List Nat} (h : j < 49 ∨ 113 ≤ j) (hr : r < 8) (hl : l.length ≤ 8) : putR T r l j = T j := by
  unfold putR
  rw [if_neg (by omega)]
theorem putR_snoc {T : qT} {r g : Nat} {l : List Nat} : putR T r (l ++ [g]) = upT (putR T r l) (49 + 8 * r + l.length) g := by
  funext j
  unfold putR
  rw [List.length_append, List.length_singleton]
  by_cases h : j = 49 + 8 * r + l.length
  · subst h
    rw [upT_s, if_pos (by omega), show 49 + 8 * r + l.length - (49 + 8 * r) = l.length by omega, List.getD_eq_getElem?_getD, List.getElem?_append_right (by omega)]
    simp
  · rw [upT_o h]
    by_cases h2 : 49 + 8 * r ≤ j ∧ j < 49 + 8 * r + l.length
    · rw [if_pos (by omega), if_pos h2, List.getD_eq_getElem?_getD, List.getD_eq_getElem?_getD, List.getElem?_append_left (by omega)]
    · rw [if_neg (by omega), if_neg h2]
theorem putR_5 {T : qT} {r : Nat} {l : List Nat} (h : ∀ c, c < 64 → T (49 + c) < 5) (hl : ∀ x ∈ l, x < 5) : ∀ c, c < 64 → putR T r l (49 + c) < 5 := by
  intro c hc
  unfold putR
  split
  · rename_i hj
    rw [List.getD_eq_getElem?_getD, List.getElem?_eq_getElem (by omega)]
    exact hl _ (List.getElem_mem _)
  · exact h c hc
theorem wP_z : wP zT := ⟨⟨by decide, by decide, by decide, Nat.zero_le _, by decide, by decide, fun c hc => (by decide : (0 : Nat) < 5), fun p hp => absurd hp (Nat.not_lt_zero p), fun p q hp => absurd hp (Nat.not_lt_zero p)⟩, fun c hc => (by decide : (0 : Nat) < 5), rfl, fun j _ _ => rfl⟩
theorem wP_law {T : qT} {c o : Nat} (h : wP T) (h0 : T 115 = 0) (hc : c < 2) (ho : o < 2) : wP (upT (upT T 116 c) 117 o) ∧ upT (upT T 116 c) 117 o 115 = 0 := by
  obtain ⟨⟨w1, w2, w3, w4, w5, w6, w7, w8, w9⟩, h2, h3, h4⟩ := h
  have e : ∀ j, ¬ j = 116 → ¬ j = 117 → upT (upT T 116 c) 117 o j = T j := fun j a b => by rw [upT_o b, upT_o a]
  refine ⟨⟨⟨by rw [e _ (by omega) (by omega)]; exact w1, by rw [e _ (by omega) (by omega)]; exact w2, by rw [e _ (by omega) (by omega)]; exact w3, Nat.zero_le _, by rw [upT_o (by omega), upT_s]; omega, by rw [upT_s]; omega, fun d hd => ?_, fun p hp => ?_, fun p q hp => ?_⟩, fun d hd => by rw [e _ (by omega) (by omega)]; exact h2 d hd, by rw [e _ (by omega) (by omega)]; exact h3, fun j a b => by rw [e _ (by omega) (by omega)]; exact h4 j a b⟩, by rw [e _ (by omega) (by omega)]; exact h0⟩
  · have hd' : inT T d := by
      unfold inT at hd
      rw [e _ (by omega) (by omega), e _ (by omega) (by omega)] at hd
      exact hd
    have : d < 64 := by have := hd'.1; omega
    rw [e _ (by omega) (by omega)]
    exact h2 d this
  · rw [e _ (by omega) (by omega), h0] at hp
    exact absurd hp (Nat.not_lt_zero p)
  · rw [e _ (by omega) (by omega), h0] at hp
    exact absurd hp (Nat.not_lt_zero p)
theorem wP_row {T : qT} {r : Nat} {l : List Nat} (h : wP T) (h0 : T 115 = 0) (hr : r < 8) (hl : l.length ≤ 8) (h5 : ∀ x ∈ l, x < 5) : wP (rowT T r l) ∧ rowT T r l 115 = 0 := by
  obtain ⟨⟨w1, w2, w3, w4, w5, w6, w7, w8, w9⟩, h2, h3, h4⟩ := h
  have e : ∀ j, (j < 49 ∨ 115 ≤ j) → rowT T r l j = T j := fun j a => by unfold rowT; rw [upT_o (by omega), upT_o (by omega), putR_o (by omega) hr hl]
  have e113 : rowT T r l 113 = l.length := by unfold rowT; rw [upT_o (by omega), upT_s]
  have e114 : rowT T r l 114 = r + 1 := by unfold rowT; rw [upT_s]
  have g : ∀ c, c < 64 → rowT T r l (49 + c) < 5 := fun c hc => by unfold rowT; rw [upT_o (by omega), upT_o (by omega)]; exact putR_5 h2 h5 c hc
  have e115 : rowT T r l 115 = 0 := by rw [e _ (by omega)]; exact h0
  refine ⟨⟨⟨by rw [e115]; omega, by rw [e113]; exact hl, by rw [e114]; omega, Nat.zero_le _, by rw [e _ (by omega)]; exact w5, by rw [e _ (by omega)]; exact w6, fun d hd => ?_, fun p hp => ?_, fun p q hp => ?_⟩, g, by rw [e _ (by omega)]; exact h3, fun j a b => by rw [e _ (by omega)]; exact h4 j a b⟩, e115⟩
  · have : d < 64 := by have := hd.1; rw [e114] at this; omega
    exact g d this
  · rw [e115] at hp; exact absurd hp (Nat.not_lt_zero p)
  · rw [e115] at hp; exact absurd hp (Nat.not_lt_zero p)
theorem wP_pers {T : qT} {s c f o : Nat} (h : wP T) (hm : T 115 < 6) (hs : s < 5) (hc : inT T c) (hfree : freeT T c = true) (hf : f < 4) (ho : o ≤ 99) : wP (persT T s c f o) ∧ persT T s c f o 115 = T 115 + 1 := by
  obtain ⟨hw, h2, h3, h4⟩ := h
  have hw' := hw
  obtain ⟨w1, w2, w3, w4, w5, w6, w7, w8, w9⟩ := hw
  have hwho : whoT T c = none := by
    unfold freeT at hfree
    cases hz : whoT T c with
    | none => rfl
    | some q => rw [hz] at hfree; simp at hfree
  generalize hn : T 115 = n at *
  have ep : persT T s c f o = upT (upT (upT (upT (upT T (118 + n) (s + 1)) (1 + n) c) (7 + n) f) (13 + n) o) 115 (n + 1) := by unfold persT; rw [hn]
  rw [ep]
  have e : ∀ j, ¬ j = 118 + n → ¬ j = 1 + n → ¬ j = 7 + n → ¬ j = 13 + n → ¬ j = 115 → upT (upT (upT (upT (upT T (118 + n) (s + 1)) (1 + n) c) (7 + n) f) (13 + n) o) 115 (n + 1) j = T j := fun j a1 a2 a3 a4 a5 => by rw [upT_o a5, upT_o a4, upT_o a3, upT_o a2, upT_o a1]
  have v118 : upT (upT (upT (upT (upT T (118 + n) (s + 1)) (1 + n) c) (7 + n) f) (13 + n) o) 115 (n + 1) (118 + n) = s + 1 := by rw [upT_o (by omega), upT_o (by omega), upT_o (by omega), upT_o (by omega), upT_s]
  have v1 : upT (upT (upT (upT (upT T (118 + n) (s + 1)) (1 + n) c) (7 + n) f) (13 + n) o) 115 (n + 1) (1 + n) = c := by rw [upT_o (by omega), upT_o (by omega), upT_o (by omega), upT_s]
  have v7 : upT (upT (upT (upT (upT T (118 + n) (s + 1)) (1 + n) c) (7 + n) f) (13 + n) o) 115 (n + 1) (7 + n) = f := by rw [upT_o (by omega), upT_o (by omega), upT_s]
  have v13 : upT (upT (upT (upT (upT T (118 + n) (s + 1)) (1 + n) c) (7 + n) f) (13 + n) o) 115 (n + 1) (13 + n) = o := by rw [upT_o (by omega), upT_s]
  have v115 : upT (upT (upT (upT (upT T (118 + n) (s + 1)) (1 + n) c) (7 + n) f) (13 + n) o) 115 (n + 1) 115 = n + 1 := upT_s
  generalize upT (upT (upT (upT (upT T (118 + n) (s + 1)) (1 + n) c) (7 + n) f) (13 + n) o) 115 (n + 1) = U at *
  have u113 := e 113 (by omega) (by omega) (by omega) (by omega) (by omega)
  have u114 := e 114 (by omega) (by omega) (by omega) (by omega) (by omega)
  have hin : ∀ d, inT U d ↔ inT T d := fun d => by unfold inT; rw [u113, u114]
  refine ⟨⟨⟨by rw [v115]; omega, by rw [u113]; exact w2, by rw [u114]; exact w3, Nat.zero_le _, by rw [e _ (by omega) (by omega) (by omega) (by omega) (by omega)]; exact w5, by rw [e _ (by omega) (by omega) (by omega) (by omega) (by omega)]; exact w6, fun d hd => ?_, fun p hp => ?_, fun p q hp hq he => ?_⟩, fun d hd => ?_, ?_, fun j a b => ?_⟩, v115⟩
  · have hd := (hin d).mp hd
    have : d < 64 := inT_lt hw' hd
    rw [e _ (by omega) (by omega) (by omega) (by omega) (by omega)]
    exact w7 d hd
  · rw [v115] at hp
    by_cases hpn : p = n
    · subst hpn
      rw [v118, v1, v7, v13]
      exact ⟨⟨by omega, by omega⟩, (hin c).mpr hc, hf, ho, fun k hk => by rw [e _ (by omega) (by omega) (by omega) (by omega) (by omega), h4 _ (by omega) (by omega)]; exact Nat.le_refl 0⟩
    · rw [e (118 + p) (by omega) (by omega) (by omega) (by omega) (by omega), e (1 + p) (by omega) (by omega) (by omega) (by omega) (by omega), e (7 + p) (by omega) (by omega) (by omega) (by omega) (by omega), e (13 + p) (by omega) (by omega) (by omega) (by omega) (by omega)]
      obtain ⟨r1, r2, r3, r4, r5⟩ := w8 p (by omega)
      exact ⟨r1, (hin _).mpr r2, r3, r4, fun k hk => by rw [e _ (by omega) (by omega) (by omega) (by omega) (by omega)]; exact r5 k hk⟩
  · rw [v115] at hp hq
    have hno := whoT_none.mp hwho
    rw [hn] at hno
    by_cases h1 : p = n
    · by_cases h2 : q = n
      · omega
      · rw [h1, v1, e (1 + q) (by omega) (by omega) (by omega) (by omega) (by omega)] at he
        exact absurd he.symm (hno q (by omega))
    · by_cases h2 : q = n
      · rw [h2, v1, e (1 + p) (by omega) (by omega) (by omega) (by omega) (by omega)] at he
        exact absurd he (hno p (by omega))
      · rw [e (1 + p) (by omega) (by omega) (by omega) (by omega) (by omega), e (1 + q) (by omega) (by omega) (by omega) (by omega) (by omega)] at he
        exact w9 p q (by omega) (by omega) he
  · rw [e _ (by omega) (by omega) (by omega) (by omega) (by omega)]
    exact h2 d hd
  · rw [e _ (by omega) (by omega) (by omega) (by omega) (by omega)]
    exact h3
  · rw [e _ (by omega) (by omega) (by omega) (by omega) (by omega)]
    exact h4 j a b
