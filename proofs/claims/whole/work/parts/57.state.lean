/-! THE WHOLE STATE, purely: tape, town, acts (latest first), images, sheets ((lane + 1, or 0), size, items); how reference and class hold it -/
abbrev zT : qT := fun _ => 0
abbrev wSh : Type := Nat × Nat × (Nat → Int64)
abbrev wS : Type := List Nat × qT × List qT × (Nat → qT) × (Nat → wSh)
abbrev sB (S : wS) : List Nat := S.1
abbrev sT (S : wS) : qT := S.2.1
abbrev sA (S : wS) : List qT := S.2.2.1
abbrev sI (S : wS) : Nat → qT := S.2.2.2.1
abbrev sH (S : wS) : Nat → wSh := S.2.2.2.2
abbrev wfS (N : Nat) (T : qT) : Prop := wfT N T ∧ T 0 ≤ 9999
def SimP (N : Nat) (S : wS) : Prop := N ≤ 1000 ∧ ((sB S).length ≤ 140 ∧ ∀ x ∈ sB S, x < 256) ∧ wfS N (sT S) ∧ ((sA S).length ≤ 24 ∧ ∀ U ∈ sA S, wfS N U ∧ ∀ j, 113 ≤ j → j < 124 → U j = sT S j) ∧ (∀ k, k < 2 → wfS N (sI S k)) ∧ ∀ s, s < 4 → (sH S s).1 ≤ 4 ∧ (sH S s).2.1 ≤ 24
def mTape (μ : qMu) (b : List Nat) : Prop := μ 297 3 = nI b.length ∧ ∀ i, i < b.length → μ 301 i = nI (b.getD i 0)
def mActs (μ : qMu) (as : List qT) : Prop := μ 297 13 = nI as.length ∧ ∀ i, i < as.length → ∀ k, k < 113 → μ 308 (113 * (as.length - 1 - i) + k) = nI (as.getD i zT k)
def mIms (μ : qMu) (im : Nat → qT) : Prop := ∀ k, k < 2 → μ 307 k = nI (if im k 115 = 0 then 0 else 1) ∧ (¬ im k 115 = 0 → ∀ j, j < 124 → μ 306 (124 * k + j) = nI (im k j))
def mShs (μ : qMu) (la : qLa) (sh : Nat → wSh) : Prop := ∀ s, s < 4 → ((sh s).1 = 0 → μ 298 s = mI 1) ∧ (¬ (sh s).1 = 0 → μ 298 s = nI ((sh s).1 - 1) ∧ μ 299 s = nI (sh s).2.1 ∧ ∀ i, i < 24 → la 300 (24 * s + i) = (sh s).2.2 i)
def SimM (S : wS) (σ : qSg) (μ : qMu) (la : qLa) : Prop := qBM σ ∧ mTape μ (sB S) ∧ qMA μ 302 (sT S) ∧ mActs μ (sA S) ∧ mIms μ (sI S) ∧ mShs μ la (sH S)
/-- what the reference writes while it only looks -/
def mFr (μ μ' : qMu) : Prop := ∀ c x, ¬ (303 ≤ c ∧ c ≤ 305) → ¬ (309 ≤ c ∧ c ≤ 314) → ¬ (c = 297 ∧ ¬ x = 3 ∧ ¬ x = 13) → μ' c x = μ c x
/-- the reference's things -/
def mFM {α : Type} (f g : Nat → Nat → α) : Prop := ∀ c, c < 297 ∨ 315 ≤ c → g c = f c
def nFM {α : Type} (f g : Nat → Nat → α) : Prop := ∀ c, (297 ≤ c ∨ (3 ≤ c ∧ c ≤ 10)) → g c = f c
theorem mFr_rf {μ : qMu} : mFr μ μ := fun _ _ _ _ _ => rfl
theorem mFr_tr {μ μ1 μ2 : qMu} (h : mFr μ μ1) (h2 : mFr μ1 μ2) : mFr μ μ2 := fun c x a b e => (h2 c x a b e).trans (h c x a b e)
theorem mFM_rf {α : Type} {f : Nat → Nat → α} : mFM f f := fun _ _ => rfl
theorem nFM_rf {α : Type} {f : Nat → Nat → α} : nFM f f := fun _ _ => rfl
theorem mFM_fr {μ μ' : qMu} (h : mFr μ μ') : mFM μ μ' := fun c hc => funext fun x => h c x (by omega) (by omega) (by omega)
theorem mFr_W {μ μ' : qMu} (h : qFW 303 μ μ') : mFr μ μ' := fun c x h1 h2 h3 => h c x (by omega) (by omega) (by omega)
theorem mFr_I {μ μ' : qMu} (h : qFI 303 μ μ') : mFr μ μ' := fun c x h1 h2 h3 => h c x (by omega) (by omega) (by omega) (by omega)
theorem SimM_fr {S : wS} {σ : qSg} {μ μ' : qMu} {la : qLa} (h : SimM S σ μ la) (hf : mFr μ μ') : SimM S σ μ' la := by
  obtain ⟨h1, ⟨h2, h3⟩, h4, ⟨h5, h6⟩, h7, h8⟩ := h
  refine ⟨h1, ⟨(hf _ _ (by omega) (by omega) (by omega)).trans h2, fun i hi => (hf _ _ (by omega) (by omega) (by omega)).trans (h3 i hi)⟩, fun i hi => (hf _ _ (by omega) (by omega) (by omega)).trans (h4 i hi), ⟨(hf _ _ (by omega) (by omega) (by omega)).trans h5, fun i hi k hk => (hf _ _ (by omega) (by omega) (by omega)).trans (h6 i hi k hk)⟩, fun k hk => ⟨(hf _ _ (by omega) (by omega) (by omega)).trans (h7 k hk).1, fun z j hj => (hf _ _ (by omega) (by omega) (by omega)).trans ((h7 k hk).2 z j hj)⟩, fun s hs => ⟨fun z => (hf _ _ (by omega) (by omega) (by omega)).trans ((h8 s hs).1 z), fun z => ?_⟩⟩
  obtain ⟨a, b, e⟩ := (h8 s hs).2 z
  exact ⟨(hf _ _ (by omega) (by omega) (by omega)).trans a, (hf _ _ (by omega) (by omega) (by omega)).trans b, e⟩
/-! the class -/
def qBN (σ : qSg) : Prop := σ.1 = 315 ∧
  (σ.2 0 0 = some 1 ∧ σ.2 0 1 = some 12 ∧ σ.2 0 2 = some 75 ∧ σ.2 0 3 = some 269 ∧ σ.2 0 4 = some 286 ∧ σ.2 0 5 = some 295 ∧ σ.2 0 6 = some 11) ∧
  (σ.2 1 0 = some 2 ∧ σ.2 1 1 = some 3) ∧
  (σ.2 11 0 = some 12 ∧ σ.2 11 1 = some 20 ∧ σ.2 11 2 = some 28 ∧ σ.2 11 3 = some 30 ∧ σ.2 11 4 = some 31 ∧ σ.2 11 5 = some 32 ∧ σ.2 11 6 = some 33 ∧ σ.2 11 7 = some 34) ∧
  (∀ k, k < 5 → σ.2 30 k = some (35 + 8 * k)) ∧ σ.2 75 0 = some 76 ∧ (∀ k, k < 24 → σ.2 76 k = some (77 + 8 * k)) ∧ (∀ k, k < 2 → σ.2 269 k = some (270 + 8 * k)) ∧
  (∀ k, k < 4 → σ.2 286 k = some (287 + 2 * k) ∧ σ.2 (287 + 2 * k) 0 = some (288 + 2 * k)) ∧
  (∀ t, (t = 3 ∨ t = 12 ∨ t = 20 ∨ (∃ k, k < 5 ∧ t = 35 + 8 * k) ∨ (∃ k, k < 24 ∧ t = 77 + 8 * k) ∨ ∃ k, k < 2 ∧ t = 270 + 8 * k) → ∀ j, 6 ≤ j → j ≤ 12 → σ.2 t j = some (t + (j - 5))) ∧
  σ.2 28 0 = some 29 ∧ σ.2 295 0 = some 296
def tId (t : Nat) : Bool := decide (t = 3) || decide (t = 12) || decide (t = 20) || (decide (35 ≤ t) && decide (t < 75) && decide ((t - 35) % 8 = 0)) || (decide (77 ≤ t) && decide (t < 269) && decide ((t - 77) % 8 = 0)) || decide (t = 270) || decide (t = 278)
def tShOk (t : Nat) : Bool := decide (t + 7 < 315) && decide (qSh t = (4, 13)) && decide (qSh (t + 1) = (10, 64)) && decide (qSh (t + 2) = (10, 6)) && decide (qSh (t + 3) = (10, 6)) && decide (qSh (t + 4) = (10, 6)) && decide (qSh (t + 5) = (10, 6)) && decide (qSh (t + 6) = (10, 6)) && decide (qSh (t + 7) = (10, 24))
theorem tOk_all : ∀ t, t < 315 → (!tId t || tShOk t) = true := by decide +kernel
theorem nTown {σ : qSg} (h : qBN σ) {t : Nat} (ht : t = 3 ∨ t = 12 ∨ t = 20 ∨ (∃ k, k < 5 ∧ t = 35 + 8 * k) ∨ (∃ k, k < 24 ∧ t = 77 + 8 * k) ∨ ∃ k, k < 2 ∧ t = 270 + 8 * k) : qTown σ t := by
  have hs := h.2.2.2.2.2.2.2.2.2.1 t ht
  have h315 := h.1
  have key := tOk_all
  have ht3 : t < 315 := by rcases ht with h | h | h | ⟨k, hk, h⟩ | ⟨k, hk, h⟩ | ⟨k, hk, h⟩ <;> omega
  have ht4 : tId t = true := by
    unfold tId
    simp only [Bool.or_eq_true, Bool.and_eq_true, decide_eq_true_eq]
    rcases ht with h | h | h | ⟨k, hk, h⟩ | ⟨k, hk, h⟩ | ⟨k, hk, h⟩ <;> omega
  have h5 := key t ht3
  rw [ht4] at h5
  simp only [tShOk, Bool.not_true, Bool.false_or, Bool.and_eq_true, decide_eq_true_eq] at h5
  obtain ⟨⟨⟨⟨⟨⟨⟨⟨a0, a1⟩, a2⟩, a3⟩, a4⟩, a5⟩, a6⟩, a7⟩, a8⟩ := h5
  refine ⟨by rw [h315]; exact a0, a1, a2, fun k h1 h2 => ?_, a8, hs⟩
  rcases (show k = 2 ∨ k = 3 ∨ k = 4 ∨ k = 5 ∨ k = 6 by omega) with rfl | rfl | rfl | rfl | rfl
  · exact a3
  · exact a4
  · exact a5
  · exact a6
  · exact a7
theorem nWalk {σ : qSg} (h : qBN σ) : qWalk σ 28 ∧ qWalk σ 295 := by
  obtain ⟨h1, -, -, -, -, -, -, -, -, -, h2, h3⟩ := h
  exact ⟨⟨by rw [h1]; decide, by decide +kernel, by decide +kernel, h2⟩, ⟨by rw [h1]; decide, by decide +kernel, by decide +kernel, h3⟩⟩
/-- the class's texts -/
def qTx (μ : qMu) : Prop := ∀ i, i < 5 → ∀ j, μ (1020 + i) j = (([[99, 116], [102, 111], [46, 35, 126, 94, 43], [112, 99, 100, 101, 98], [110, 101, 115, 119]] : List (List Int32)).getD i []).getD j 0
def nTape (μ : qMu) (b : List Nat) : Prop := μ 1 2 = nI b.length ∧ ∀ i, i < b.length → μ 2 i = nI (b.getD i 0)
def nPast (μ : qMu) (as : List qT) : Prop := ∃ nx, nx < 24 ∧ μ 75 1 = nI nx ∧ μ 75 2 = nI as.length ∧ ∀ i, i < as.length → qTw μ (77 + 8 * ((nx + 23 - i) % 24)) (as.getD i zT)
def nIms (μ : qMu) (im : Nat → qT) : Prop := ∀ k, k < 2 → qTw μ (270 + 8 * k) (im k)
def nShs (μ : qMu) (la : qLa) (sh : Nat → wSh) : Prop := ∀ s, s < 4 → ((sh s).1 = 0 → μ (287 + 2 * s) 1 = mI 1) ∧ (¬ (sh s).1 = 0 → μ (287 + 2 * s) 1 = nI ((sh s).1 - 1) ∧ μ (287 + 2 * s) 2 = nI (sh s).2.1 ∧ ∀ i, i < 24 → la (288 + 2 * s) i = (sh s).2.2 i)
def SimN (S : wS) (σ : qSg) (μ : qMu) (la : qLa) : Prop := qBN σ ∧ qRo μ ∧ qTx μ ∧ nTape μ (sB S) ∧ qTw μ 12 (sT S) ∧ nPast μ (sA S) ∧ nIms μ (sI S) ∧ nShs μ la (sH S)
/-- nothing ever happens in the town that is read -/
def nZero (μ : qMu) : Prop := μ 3 3 = nI 0 ∧ (∀ j, μ 9 j = nI 0) ∧ ∀ j, μ 10 j = nI 0
theorem nZero_fr {μ μ' : qMu} (h : nZero μ) (hf : ∀ a, 3 ≤ a ∧ a ≤ 10 → μ' a = μ a) : nZero μ' := by
  unfold nZero
  rw [hf 3 (by omega), hf 9 (by omega), hf 10 (by omega)]
  exact h
/-- what the class writes while it only looks -/
def nFr (μ μ' : qMu) : Prop := ∀ c, ¬ (20 ≤ c ∧ c ≤ 74) → ¬ c = 295 → ¬ c = 296 → μ' c = μ c
theorem nFr_rf {μ : qMu} : nFr μ μ := fun _ _ _ _ => rfl
theorem nFr_tr {μ μ1 μ2 : qMu} (h : nFr μ μ1) (h2 : nFr μ1 μ2) : nFr μ μ2 := fun c a b e => (h2 c a b e).trans (h c a b e)
theorem nFM_fr {μ μ' : qMu} (h : nFr μ μ') : nFM μ μ' := fun c hc => h c (by omega) (by omega) (by omega)
theorem SimN_fr {S : wS} {σ : qSg} {μ μ' : qMu} {la : qLa} (h : SimN S σ μ la) (hf : nFr μ μ') : SimN S σ μ' la := by
  obtain ⟨h1, h2, h3, ⟨h4, h5⟩, h6, ⟨nx, h7, h8, h9, ha⟩, hb, hc⟩ := h
  refine ⟨h1, qRo_fr h2 (hf _ (by omega) (by omega) (by omega)) (hf _ (by omega) (by omega) (by omega)) (hf _ (by omega) (by omega) (by omega)), fun i hi j => by rw [hf _ (by omega) (by omega) (by omega)]; exact h3 i hi j, ⟨by rw [hf _ (by omega) (by omega) (by omega)]; exact h4, fun i hi => by rw [hf _ (by omega) (by omega) (by omega)]; exact h5 i hi⟩, qTw_frame h6 fun a _ _ => hf a (by omega) (by omega) (by omega), ⟨nx, h7, by rw [hf _ (by omega) (by omega) (by omega)]; exact h8, by rw [hf _ (by omega) (by omega) (by omega)]; exact h9, fun i hi => qTw_frame (ha i hi) fun a _ _ => hf a (by omega) (by omega) (by omega)⟩, fun k hk => qTw_frame (hb k hk) fun a _ _ => hf a (by omega) (by omega) (by omega), fun s hs => ⟨fun z => by rw [hf _ (by omega) (by omega) (by omega)]; exact (hc s hs).1 z, fun z => ?_⟩⟩
  obtain ⟨a, b, e⟩ := (hc s hs).2 z
  exact ⟨by rw [hf _ (by omega) (by omega) (by omega)]; exact a, by rw [hf _ (by omega) (by omega) (by omega)]; exact b, e⟩
/-- .. and over everything of the reference -/
theorem SimN_M {S : wS} {σ : qSg} {μ μ' : qMu} {la la' : qLa} (h : SimN S σ μ la) (hf : mFM μ μ') (hl : mFM la la') : SimN S σ μ' la' := by
  obtain ⟨h1, h2, h3, ⟨h4, h5⟩, h6, ⟨nx, h7, h8, h9, ha⟩, hb, hc⟩ := h
  refine ⟨h1, qRo_fr h2 (hf _ (by omega)) (hf _ (by omega)) (hf _ (by omega)), fun i hi j => by rw [hf _ (by omega)]; exact h3 i hi j, ⟨by rw [hf _ (by omega)]; exact h4, fun i hi => by rw [hf _ (by omega)]; exact h5 i hi⟩, qTw_frame h6 fun a _ _ => hf a (by omega), ⟨nx, h7, by rw [hf _ (by omega)]; exact h8, by rw [hf _ (by omega)]; exact h9, fun i hi => qTw_frame (ha i hi) fun a _ _ => hf a (by omega)⟩, fun k hk => qTw_frame (hb k hk) fun a _ _ => hf a (by omega), fun s hs => ⟨fun z => by rw [hf _ (by omega)]; exact (hc s hs).1 z, fun z => ?_⟩⟩
  obtain ⟨a, b, e⟩ := (hc s hs).2 z
  exact ⟨by rw [hf _ (by omega)]; exact a, by rw [hf _ (by omega)]; exact b, fun i hi => by rw [hl _ (by omega)]; exact e i hi⟩
theorem SimM_N {S : wS} {σ : qSg} {μ μ' : qMu} {la la' : qLa} (h : SimM S σ μ la) (hf : nFM μ μ') (hl : nFM la la') : SimM S σ μ' la' := by
  obtain ⟨h1, ⟨h2, h3⟩, h4, ⟨h5, h6⟩, h7, h8⟩ := h
  refine ⟨h1, ⟨by rw [hf _ (by omega)]; exact h2, fun i hi => by rw [hf _ (by omega)]; exact h3 i hi⟩, fun i hi => by rw [hf _ (by omega)]; exact h4 i hi, ⟨by rw [hf _ (by omega)]; exact h5, fun i hi k hk => by rw [hf _ (by omega)]; exact h6 i hi k hk⟩, fun k hk => ⟨by rw [hf _ (by omega)]; exact (h7 k hk).1, fun z j hj => by rw [hf _ (by omega)]; exact (h7 k hk).2 z j hj⟩, fun s hs => ⟨fun z => by rw [hf _ (by omega)]; exact (h8 s hs).1 z, fun z => ?_⟩⟩
  obtain ⟨a, b, e⟩ := (h8 s hs).2 z
  exact ⟨by rw [hf _ (by omega)]; exact a, by rw [hf _ (by omega)]; exact b, fun i hi => by rw [hl _ (by omega)]; exact e i hi⟩
