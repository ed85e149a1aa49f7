/-! crime, purely: sweeps over all walks; behind 63 nothing gets shorter -/
def stC (ln : Nat → Nat) (C : Nat → Nat) (k : Nat) : Nat → Nat := if fineT (k % 4) + C (ln k) < C (k / 16) then (fun i => if i = k / 16 then fineT (k % 4) + C (ln k) else C i) else C
def swC (ln : Nat → Nat) : Nat → Nat → (Nat → Nat) → Nat → Nat
  | _, 0, C => C
  | k, n + 1, C => swC ln (k + 1) n (stC ln C k)
def chC (ln : Nat → Nat) : Nat → Nat → (Nat → Nat) → Bool
  | _, 0, _ => false
  | k, n + 1, C => decide (fineT (k % 4) + C (ln k) < C (k / 16)) || chC ln (k + 1) n (stC ln C k)
def zC (g : Nat) : Nat → Nat := fun i => if i = g then 0 else 1000000
def itC (ln : Nat → Nat) (g : Nat) : Nat → Nat → Nat
  | 0 => zC g
  | r + 1 => swC ln 0 1024 (itC ln g r)
def lmF (f : Nat → Nat) : Nat → Nat
  | 0 => 2000000
  | n + 1 => min (lmF f n) (f n)
def dC (ln : Nat → Nat) (g : Nat) : Nat → Nat → Nat
  | 0 => zC g
  | r + 1 => fun i => min (dC ln g r i) (lmF (fun k => fineT (k % 4) + dC ln g r (ln (16 * i + k))) 16)
theorem fine_b {k : Nat} : 3 ≤ fineT k ∧ fineT k ≤ 30 := by unfold fineT; repeat' split
                                                            all_goals omega
theorem stC_le {ln C} {k i : Nat} : stC ln C k i ≤ C i := by
  unfold stC
  by_cases h : fineT (k % 4) + C (ln k) < C (k / 16)
  · rw [if_pos h]
    by_cases hi : i = k / 16
    · simp only [if_pos hi]; rw [hi]; omega
    · simp only [if_neg hi]; exact Nat.le_refl _
  · rw [if_neg h]; exact Nat.le_refl _
theorem swC_le {ln : Nat → Nat} : ∀ (n k : Nat) (C : Nat → Nat) (i : Nat), swC ln k n C i ≤ C i := by
  intro n
  induction n with
  | zero => intro k C i; exact Nat.le_refl _
  | succ n ih => intro k C i; exact Nat.le_trans (ih _ _ _) stC_le
theorem stC_at {ln C} {k : Nat} : stC ln C k (k / 16) ≤ fineT (k % 4) + C (ln k) := by
  unfold stC
  by_cases h : fineT (k % 4) + C (ln k) < C (k / 16)
  · rw [if_pos h]; simp
  · rw [if_neg h]; omega
theorem swC_at {ln : Nat → Nat} : ∀ (n k0 : Nat) (C : Nat → Nat) (k : Nat), k0 ≤ k → k < k0 + n → swC ln k0 n C (k / 16) ≤ fineT (k % 4) + C (ln k) := by
  intro n
  induction n with
  | zero => intro k0 C k h1 h2; omega
  | succ n ih =>
    intro k0 C k h1 h2
    show swC ln (k0 + 1) n (stC ln C k0) (k / 16) ≤ _
    by_cases h : k = k0
    · subst h; exact Nat.le_trans (swC_le _ _ _ _) stC_at
    · have := ih (k0 + 1) (stC ln C k0) k (by omega) (by omega)
      have h3 : stC ln C k0 (ln k) ≤ C (ln k) := stC_le
      omega
theorem swC_ge {ln L : Nat → Nat} (hl : ∀ k, k < 1024 → L (k / 16) ≤ fineT (k % 4) + L (ln k)) (hln : ∀ k, k < 1024 → ln k < 64) : ∀ (n k : Nat) (C : Nat → Nat), k + n ≤ 1024 → (∀ i, i < 64 → L i ≤ C i) → ∀ i, i < 64 → L i ≤ swC ln k n C i := by
  intro n
  induction n with
  | zero => intro k C _ h; exact h
  | succ n ih =>
    intro k C hk h
    refine ih (k + 1) _ (by omega) fun i hi => ?_
    unfold stC
    by_cases hc : fineT (k % 4) + C (ln k) < C (k / 16)
    · rw [if_pos hc]
      by_cases hik : i = k / 16
      · simp only [if_pos hik]
        have := hl k (by omega)
        have h2 := h (ln k) (hln k (by omega))
        rw [hik]; omega
      · simp only [if_neg hik]; exact h i hi
    · rw [if_neg hc]; exact h i hi
theorem chC_no {ln : Nat → Nat} : ∀ (n k : Nat) (C : Nat → Nat), (∀ q, k ≤ q → q < k + n → C (q / 16) ≤ fineT (q % 4) + C (ln q)) → chC ln k n C = false ∧ swC ln k n C = C := by
  intro n
  induction n with
  | zero => intro k C _; exact ⟨rfl, rfl⟩
  | succ n ih =>
    intro k C h
    have h0 := h k (by omega) (by omega)
    have e : stC ln C k = C := by unfold stC; rw [if_neg (by omega)]
    obtain ⟨i1, i2⟩ := ih (k + 1) C fun q h1 h2 => h q (by omega) (by omega)
    refine ⟨?_, ?_⟩
    · show (decide _ || chC ln (k + 1) n (stC ln C k)) = false
      rw [e, i1, decide_eq_false (by omega)]; rfl
    · show swC ln (k + 1) n (stC ln C k) = C
      rw [e, i2]
theorem chC_f {ln : Nat → Nat} : ∀ (n k : Nat) (C : Nat → Nat), chC ln k n C = false → swC ln k n C = C := by
  intro n
  induction n with
  | zero => intro k C _; rfl
  | succ n ih =>
    intro k C h
    have h' : (decide (fineT (k % 4) + C (ln k) < C (k / 16)) || chC ln (k + 1) n (stC ln C k)) = false := h
    rw [Bool.or_eq_false_iff] at h'
    have h0 := of_decide_eq_false h'.1
    have e : stC ln C k = C := by unfold stC; rw [if_neg h0]
    have h2 := h'.2
    rw [e] at h2
    show swC ln (k + 1) n (stC ln C k) = C
    rw [e]
    exact ih _ _ h2
theorem lm_le {f : Nat → Nat} : ∀ n k, k < n → lmF f n ≤ f k := by
  intro n
  induction n with
  | zero => intro k h; omega
  | succ n ih =>
    intro k h
    show min (lmF f n) (f n) ≤ f k
    by_cases hk : k = n
    · subst hk; exact Nat.min_le_right _ _
    · exact Nat.le_trans (Nat.min_le_left _ _) (ih k (by omega))
theorem lm_ex {f : Nat → Nat} : ∀ n, lmF f n < 2000000 → ∃ k, k < n ∧ f k = lmF f n := by
  intro n
  induction n with
  | zero => intro h; exact absurd h (by show ¬ 2000000 < 2000000; omega)
  | succ n ih =>
    intro h
    have h' : min (lmF f n) (f n) < 2000000 := h
    show ∃ k, k < n + 1 ∧ f k = min (lmF f n) (f n)
    by_cases hle : f n ≤ lmF f n
    · exact ⟨n, by omega, (Nat.min_eq_right hle).symm⟩
    · obtain ⟨k, hk, e⟩ := ih (by omega)
      exact ⟨k, by omega, by omega⟩
theorem dC_s {ln : Nat → Nat} {g r i : Nat} : dC ln g (r + 1) i = min (dC ln g r i) (lmF (fun k => fineT (k % 4) + dC ln g r (ln (16 * i + k))) 16) := rfl
theorem dC_mono {ln : Nat → Nat} {g r i : Nat} : dC ln g (r + 1) i ≤ dC ln g r i := by rw [dC_s]; exact Nat.min_le_left _ _
theorem dC_z {ln : Nat → Nat} {g i : Nat} : ∀ r, dC ln g r i ≤ zC g i := by
  intro r
  induction r with
  | zero => exact Nat.le_refl _
  | succ r ih => exact Nat.le_trans dC_mono ih
theorem dC_ed {ln : Nat → Nat} {g r i k : Nat} (hk : k < 16) : dC ln g (r + 1) i ≤ fineT (k % 4) + dC ln g r (ln (16 * i + k)) := by
  rw [dC_s]
  exact Nat.le_trans (Nat.min_le_right _ _) (lm_le (f := fun k => fineT (k % 4) + dC ln g r (ln (16 * i + k))) 16 k hk)
theorem zC_le {g i : Nat} : zC g i ≤ 1000000 := by unfold zC; split <;> omega
theorem chain {ln : Nat → Nat} {g : Nat} (hln : ∀ k, k < 1024 → ln k < 64) : ∀ r i, i < 64 → dC ln g (r + 1) i < dC ln g r i → ∃ l : List Nat, l.length = r + 1 ∧ l.Nodup ∧ ∀ u ∈ l, u < 64 ∧ ¬ u = g ∧ dC ln g (r + 1) u ≤ dC ln g (r + 1) i := by
  intro r
  induction r with
  | zero =>
    intro i hi h
    refine ⟨[i], rfl, List.nodup_cons.mpr ⟨(fun z => by cases z), List.Pairwise.nil⟩, fun u hu => ?_⟩
    have : u = i := by simpa using hu
    subst this
    refine ⟨hi, fun hg => ?_, Nat.le_refl _⟩
    subst hg
    have : dC ln u 0 u = 0 := by show zC u u = 0; unfold zC; rw [if_pos rfl]
    omega
  | succ r ih =>
    intro i hi h
    have hz : dC ln g (r + 1) i ≤ 1000000 := Nat.le_trans (dC_z _) zC_le
    have hs := dC_s (ln := ln) (g := g) (r := r + 1) (i := i)
    have hlt : lmF (fun k => fineT (k % 4) + dC ln g (r + 1) (ln (16 * i + k))) 16 < dC ln g (r + 1) i := by omega
    obtain ⟨k, hk, e⟩ := lm_ex (f := fun k => fineT (k % 4) + dC ln g (r + 1) (ln (16 * i + k))) 16 (by omega)
    have e : fineT (k % 4) + dC ln g (r + 1) (ln (16 * i + k)) = lmF (fun k => fineT (k % 4) + dC ln g (r + 1) (ln (16 * i + k))) 16 := e
    have hw := hln (16 * i + k) (by omega)
    have hed := dC_ed (ln := ln) (g := g) (r := r) (i := i) hk
    have hm := dC_mono (ln := ln) (g := g) (r := r) (i := ln (16 * i + k))
    have hf := fine_b (k := k % 4)
    obtain ⟨l, l1, l2, l3⟩ := ih (ln (16 * i + k)) hw (by omega)
    have hnew : dC ln g (r + 1 + 1) i = fineT (k % 4) + dC ln g (r + 1) (ln (16 * i + k)) := by omega
    refine ⟨i :: l, by rw [List.length_cons, l1], List.nodup_cons.mpr ⟨fun z => ?_, l2⟩, fun u hu => ?_⟩
    · have := (l3 i z).2.2
      omega
    · rcases List.mem_cons.mp hu with rfl | hu
      · refine ⟨hi, fun hg => ?_, Nat.le_refl _⟩
        subst hg
        have h0 := dC_z (ln := ln) (g := u) (i := u) (r + 1)
        have : zC u u = 0 := by unfold zC; rw [if_pos rfl]
        omega
      · obtain ⟨a, b, c⟩ := l3 u hu
        have := dC_mono (ln := ln) (g := g) (r := r + 1) (i := u)
        exact ⟨a, b, by omega⟩
theorem pigeon : ∀ (n : Nat) (l : List Nat), l.Nodup → (∀ x ∈ l, x < n) → l.length ≤ n := by
  intro n
  induction n with
  | zero =>
    intro l _ h
    cases l with
    | nil => exact Nat.le_refl _
    | cons a l => exact absurd (h a List.mem_cons_self) (Nat.not_lt_zero _)
  | succ n ih =>
    intro l hn h
    by_cases hm : n ∈ l
    · have := ih (l.erase n) (hn.erase n) fun x hx => by
        have hq := (List.Nodup.mem_erase_iff hn).mp hx
        have := h x hq.2
        have := hq.1
        omega
      rw [List.length_erase_of_mem hm] at this
      omega
    · have := ih l hn fun x hx => by
        have := h x hx
        have : ¬ x = n := fun z => hm (z ▸ hx)
        omega
      omega
theorem dC_fix {ln : Nat → Nat} {g i : Nat} (hg : g < 64) (hln : ∀ k, k < 1024 → ln k < 64) (hi : i < 64) : dC ln g 64 i = dC ln g 63 i := by
  by_cases h : dC ln g 64 i < dC ln g 63 i
  · obtain ⟨l, l1, l2, l3⟩ := chain hln 63 i hi h
    have := pigeon 64 (g :: l) (List.nodup_cons.mpr ⟨fun z => (l3 g z).2.1 rfl, l2⟩) fun x hx => by
      rcases List.mem_cons.mp hx with rfl | hx
      · exact hg
      · exact (l3 x hx).1
    rw [List.length_cons, l1] at this
    omega
  · exact Nat.le_antisymm (dC_mono (ln := ln) (g := g) (r := 63) (i := i)) (Nat.not_lt.mp h)
theorem it_le {ln : Nat → Nat} {g : Nat} (hln : ∀ k, k < 1024 → ln k < 64) : ∀ r i, i < 64 → itC ln g r i ≤ dC ln g r i := by
  intro r
  induction r with
  | zero => intro i _; exact Nat.le_refl _
  | succ r ih =>
    intro i hi
    show swC ln 0 1024 (itC ln g r) i ≤ dC ln g (r + 1) i
    rw [dC_s]
    have h1 : swC ln 0 1024 (itC ln g r) i ≤ dC ln g r i := Nat.le_trans (swC_le _ _ _ _) (ih i hi)
    by_cases hl : lmF (fun k => fineT (k % 4) + dC ln g r (ln (16 * i + k))) 16 < 2000000
    · obtain ⟨k, hk, e⟩ := lm_ex (f := fun k => fineT (k % 4) + dC ln g r (ln (16 * i + k))) 16 hl
      have e : fineT (k % 4) + dC ln g r (ln (16 * i + k)) = lmF (fun k => fineT (k % 4) + dC ln g r (ln (16 * i + k))) 16 := e
      have h2 := swC_at (ln := ln) 1024 0 (itC ln g r) (16 * i + k) (by omega) (by omega)
      rw [show (16 * i + k) / 16 = i by omega, show (16 * i + k) % 4 = k % 4 by omega] at h2
      have h3 := ih (ln (16 * i + k)) (hln _ (by omega))
      omega
    · have := dC_z (ln := ln) (g := g) (i := i) r
      have := zC_le (g := g) (i := i)
      omega
theorem it_stop {ln : Nat → Nat} {g : Nat} (hg : g < 64) (hln : ∀ k, k < 1024 → ln k < 64) : chC ln 0 1024 (itC ln g 63) = false := by
  have hL : ∀ k, k < 1024 → dC ln g 63 (k / 16) ≤ fineT (k % 4) + dC ln g 63 (ln k) := fun k hk => by
    have h := dC_ed (ln := ln) (g := g) (r := 63) (i := k / 16) (k := k % 16) (by omega)
    rw [dC_fix hg hln (by omega), show 16 * (k / 16) + k % 16 = k by omega, show k % 16 % 4 = k % 4 by omega] at h
    exact h
  have hge : ∀ r i, i < 64 → dC ln g 63 i ≤ itC ln g r i := by
    intro r
    induction r with
    | zero => intro i _; exact dC_z 63
    | succ r ih => exact swC_ge hL hln 1024 0 _ (by omega) ih
  have heq : ∀ i, i < 64 → itC ln g 63 i = dC ln g 63 i := fun i hi => Nat.le_antisymm (it_le hln 63 i hi) (hge 63 i hi)
  refine (chC_no 1024 0 _ fun q _ hq => ?_).1
  rw [heq _ (by omega), heq _ (hln q (by omega))]
  exact hL q (by omega)
/-! no cost is large -/
def fnC (C : Nat → Nat) : Nat → Nat
  | 0 => 0
  | n + 1 => fnC C n + if C n < 1000000 then 1 else 0
def okC (C : Nat → Nat) : Prop := ∀ i, i < 64 → C i = 1000000 ∨ C i + 30 ≤ 30 * fnC C 64
theorem fn_le {C : Nat → Nat} : ∀ n, fnC C n ≤ n := by
  intro n
  induction n with
  | zero => exact Nat.le_refl _
  | succ n ih => show fnC C n + (if C n < 1000000 then 1 else 0) ≤ n + 1; split <;> omega
theorem fn_up {C : Nat → Nat} {f v : Nat} (hv : v < 1000000) : ∀ n, fnC (fun i => if i = f then v else C i) n = fnC C n + if f < n ∧ ¬ C f < 1000000 then 1 else 0 := by
  intro n
  induction n with
  | zero => show 0 = 0 + _; rw [if_neg (fun z => Nat.not_lt_zero _ z.1)]
  | succ n ih =>
    show fnC _ n + (if (if n = f then v else C n) < 1000000 then 1 else 0) = fnC C n + (if C n < 1000000 then 1 else 0) + _
    rw [ih]
    by_cases h : n = f
    · subst h
      rw [if_pos rfl, if_pos hv]
      by_cases hc : C n < 1000000
      · rw [if_neg (fun z => by have := z.1; omega), if_pos hc, if_neg (fun z => z.2 hc)]
      · rw [if_neg (fun z => by have := z.1; omega), if_neg hc, if_pos ⟨by omega, hc⟩]
    · rw [if_neg h]
      by_cases hc : f < n ∧ ¬ C f < 1000000
      · rw [if_pos hc, if_pos (show f < n + 1 ∧ ¬ C f < 1000000 from ⟨by omega, hc.2⟩)]; omega
      · rw [if_neg hc, if_neg (show ¬ (f < n + 1 ∧ ¬ C f < 1000000) from fun z => hc ⟨by have := z.1; omega, z.2⟩)]; omega
theorem ok_le {C : Nat → Nat} (h : okC C) {i : Nat} (hi : i < 64) : C i = 1000000 ∨ C i ≤ 1890 := by
  have := fn_le (C := C) 64
  rcases h i hi with h | h
  · exact Or.inl h
  · right; omega
theorem ok_st {ln C : Nat → Nat} {k : Nat} (hk : k < 1024) (hln : ln k < 64) (h : okC C) : okC (stC ln C k) := by
  unfold stC
  by_cases hc : fineT (k % 4) + C (ln k) < C (k / 16)
  · rw [if_pos hc]
    have hf := fine_b (k := k % 4)
    have h1 := h (ln k) hln
    have h2 := h (k / 16) (by omega)
    have h1' := ok_le h hln
    have h2' := ok_le h (show k / 16 < 64 by omega)
    intro i hi
    rw [fn_up (by omega)]
    have hb := h i hi
    by_cases hi2 : i = k / 16
    · simp only [if_pos hi2]
      right
      by_cases hfin : C (k / 16) < 1000000
      · rw [if_neg (fun z => z.2 hfin)]; omega
      · rw [if_pos ⟨by omega, hfin⟩]; omega
    · simp only [if_neg hi2]
      rcases hb with hb | hb
      · exact Or.inl hb
      · right; omega
  · rw [if_neg hc]; exact h
theorem ok_sw {ln : Nat → Nat} (hln : ∀ k, k < 1024 → ln k < 64) : ∀ (n k : Nat) (C : Nat → Nat), k + n ≤ 1024 → okC C → okC (swC ln k n C) := by
  intro n
  induction n with
  | zero => intro k C _ h; exact h
  | succ n ih => intro k C hk h; exact ih (k + 1) _ (by omega) (ok_st (by omega) (hln k (by omega)) h)
theorem fn_one {C : Nat → Nat} {g : Nat} (h : C g < 1000000) : ∀ n, g < n → 1 ≤ fnC C n := by
  intro n
  induction n with
  | zero => intro h; omega
  | succ n ih =>
    intro hn
    show 1 ≤ fnC C n + if C n < 1000000 then 1 else 0
    by_cases hg : g = n
    · subst hg; rw [if_pos h]; omega
    · have := ih (by omega); omega
theorem ok_z {g : Nat} (hg : g < 64) : okC (zC g) := fun i hi => by
  have h1 : zC g g < 1000000 := by unfold zC; rw [if_pos rfl]; omega
  have := fn_one h1 64 hg
  by_cases h : i = g
  · right
    have : zC g i = 0 := by unfold zC; rw [if_pos h]
    omega
  · left; unfold zC; rw [if_neg h]
theorem ok_it {ln : Nat → Nat} {g : Nat} (hg : g < 64) (hln : ∀ k, k < 1024 → ln k < 64) : ∀ r, okC (itC ln g r) := by
  intro r
  induction r with
  | zero => exact ok_z hg
  | succ r ih => exact ok_sw hln 1024 0 _ (by omega) ih
theorem it_fix {ln : Nat → Nat} {g r : Nat} (h : chC ln 0 1024 (itC ln g r) = false) : ∀ n, itC ln g (r + n) = itC ln g r := by
  intro n
  induction n with
  | zero => rfl
  | succ n ih =>
    show swC ln 0 1024 (itC ln g (r + n)) = itC ln g r
    rw [ih]
    exact chC_f _ _ _ h
theorem it_0 {ln : Nat → Nat} {g : Nat} (hln : ∀ k, k < 1024 → ln k < 64) : ∀ r i, i < 64 → ¬ i = g → 0 < itC ln g r i := by
  intro r i hi hg
  -- a consistent bound from below
  have : ∀ r i, i < 64 → (if i = g then 0 else 1) ≤ itC ln g r i := by
    intro r
    induction r with
    | zero =>
      intro i _
      show (if i = g then 0 else 1) ≤ zC g i
      unfold zC
      split <;> omega
    | succ r ih =>
      refine swC_ge (L := fun i => if i = g then 0 else 1) (fun k _ => ?_) hln 1024 0 _ (by omega) ih
      have hf := fine_b (k := k % 4)
      show (if k / 16 = g then 0 else 1) ≤ fineT (k % 4) + (if ln k = g then 0 else 1)
      split <;> omega
  have h := this r i hi
  rw [if_neg hg] at h
  omega
/-! the town's walks, and the answer -/
def frB (T : qT) (p f : Nat) : Bool := decide (inT T f) && !decide (T (49 + f) = 1) && (decide (whoT T f = none) || decide (whoT T f = some p))
def lanT (T : qT) (p k : Nat) : Nat := if frB T p (k / 16) then endP (upT T (1 + p) (k / 16)) p (T (118 + p)) (k % 16 / 4) (fineT (k % 4)) else k / 16
def cosT (T : qT) (p g : Nat) : Nat → Nat := itC (lanT T p) g 64
def fwI (T : qT) (p g : Nat) : Nat → Nat → Int32
  | _, 0 => mI 4
  | k, n + 1 => if fineT (k % 4) + cosT T p g (lanT T p (16 * T (1 + p) + k)) = cosT T p g (T (1 + p)) then nI (10 * (k / 4) + k % 4) else fwI T p g (k + 1) n
def crimeV (T : qT) (p g w : Nat) : Int32 := if T (1 + p) = g then (if w = 0 then nI 0 else mI 4) else if cosT T p g (T (1 + p)) = 1000000 then mI 4 else if w = 0 then nI (cosT T p g (T (1 + p))) else fwI T p g 0 16
def aCrime (T : qT) (x y z : Int32) : Int32 := if isR x (T 115) then (if isC T y then (if isR z 2 then crimeV T (nn x) (nn y) (nn z) else mI 1) else mI 1) else mI 1
