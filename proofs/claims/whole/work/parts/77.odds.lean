/-! odds: those who owe nothing count tenfold and fall out of the fraction -/
def bitN (s k : Nat) : Nat := s / 2 ^ k % 2
def pdG (r : Nat → Nat) (t s : Nat) (T : qT) : Nat → qT × Nat
  | 0 => (T, 1)
  | n + 1 => if bitN s n = 1 then (upT (pdG r t s T n).1 (13 + r n) 0, (pdG r t s T n).2 * t) else ((pdG r t s T n).1, (pdG r t s T n).2 * (10 - t))
def hitV (c : Nat) (q : qT × Nat) : Nat := if c ∈ treadT q.1 then q.2 else 0
def smF (f : Nat → Nat) : Nat → Nat
  | 0 => 0
  | n + 1 => smF f n + f n
def odV (r : Nat → Nat) (t c : Nat) (T : qT) (k : Nat) : Nat := smF (fun s => hitV c (pdG r t s T k)) (2 ^ k)
def abF (r : Nat → Nat) (t c : Nat) : Nat → qT → Nat
  | 0, T => if c ∈ treadT T then 1 else 0
  | k + 1, T => abF r t c k T * (10 - t) + abF r t c k (upT T (13 + r k) 0) * t
def dsF (T : qT) : Nat → List Nat
  | 0 => []
  | m + 1 => if 0 < T (13 + m) then dsF T m ++ [m] else dsF T m
def aOdds (T : qT) (x y z : Int32) : Int32 := if isC T x then (if isR y 11 then (if isR z 2 then nI ((if nn z = 0 then odV (fun p => p) (nn y) (nn x) T (T 115) else 10 ^ T 115) / Nat.gcd (odV (fun p => p) (nn y) (nn x) T (T 115)) (10 ^ T 115)) else mI 1) else mI 1) else mI 1
theorem smF_cg {f g : Nat → Nat} : ∀ n, (∀ s, s < n → f s = g s) → smF f n = smF g n := by
  intro n
  induction n with
  | zero => intro _; rfl
  | succ n ih => intro h; show smF f n + f n = smF g n + g n; rw [ih fun s hs => h s (by omega), h n (by omega)]
theorem smF_mul {f : Nat → Nat} {a : Nat} : ∀ n, smF (fun s => f s * a) n = smF f n * a := by
  intro n
  induction n with
  | zero => show 0 = 0 * a; omega
  | succ n ih => show smF _ n + f n * a = (smF f n + f n) * a; rw [ih, Nat.add_mul]
theorem smF_add {f : Nat → Nat} {m : Nat} : ∀ n, smF f (m + n) = smF f m + smF (fun s => f (m + s)) n := by
  intro n
  induction n with
  | zero => show smF f m = smF f m + 0; omega
  | succ n ih => show smF f (m + n) + f (m + n) = smF f m + (smF (fun s => f (m + s)) n + f (m + n)); rw [ih]; omega
theorem bit_hi : ∀ k, k < 7 → ∀ s, s < 64 → s < 2 ^ k → bitN s k = 0 ∧ bitN (2 ^ k + s) k = 1 ∧ ∀ j, j < k → bitN (2 ^ k + s) j = bitN s j := by decide +kernel
theorem pd_bits {r : Nat → Nat} {t s s' : Nat} {T : qT} : ∀ k, (∀ j, j < k → bitN s j = bitN s' j) → pdG r t s T k = pdG r t s' T k := by
  intro k
  induction k with
  | zero => intro _; rfl
  | succ k ih =>
    intro h
    show (if bitN s k = 1 then _ else _) = (if bitN s' k = 1 then _ else _)
    rw [ih fun j hj => h j (by omega), h k (by omega)]
theorem pd_up {r : Nat → Nat} {t s v : Nat} {T : qT} : ∀ k, (∀ j, j < k → ¬ r j = v) → pdG r t s (upT T (13 + v) 0) k = (upT (pdG r t s T k).1 (13 + v) 0, (pdG r t s T k).2) := by
  intro k
  induction k with
  | zero => intro _; rfl
  | succ k ih =>
    intro h
    have i := ih fun j hj => h j (by omega)
    have hk := h k (by omega)
    have e1 : ∀ U, pdG r t s U (k + 1) = if bitN s k = 1 then (upT (pdG r t s U k).1 (13 + r k) 0, (pdG r t s U k).2 * t) else ((pdG r t s U k).1, (pdG r t s U k).2 * (10 - t)) := fun U => rfl
    rw [e1, e1, i]
    by_cases hb : bitN s k = 1
    · simp only [if_pos hb]
      rw [upT_comm (by omega)]
    · simp only [if_neg hb]
theorem hit_mul {c w a : Nat} {U : qT} : hitV c (U, w * a) = hitV c (U, w) * a := by
  unfold hitV
  by_cases h : c ∈ treadT U
  · simp only [if_pos h]
  · simp only [if_neg h]; omega
theorem od_ab {r : Nat → Nat} {t c : Nat} : ∀ k, k ≤ 6 → (∀ i j, i < k → j < k → r i = r j → i = j) → ∀ T, odV r t c T k = abF r t c k T := by
  intro k
  induction k with
  | zero =>
    intro _ _ T
    show 0 + hitV c (T, 1) = _
    rw [Nat.zero_add]
    rfl
  | succ k ih =>
    intro hk hr T
    have i1 := ih (by omega) (fun i j hi hj => hr i j (by omega) (by omega)) T
    have i2 := ih (by omega) (fun i j hi hj => hr i j (by omega) (by omega)) (upT T (13 + r k) 0)
    have hp : (2 : Nat) ^ k ≤ 64 := by
      have : (2 : Nat) ^ k ≤ 2 ^ 6 := Nat.pow_le_pow_right (by omega) (by omega)
      omega
    show smF _ (2 ^ (k + 1)) = abF r t c k T * (10 - t) + abF r t c k (upT T (13 + r k) 0) * t
    rw [Nat.pow_succ, Nat.mul_two, smF_add, ← i1, ← i2]
    unfold odV
    rw [← smF_mul, ← smF_mul]
    congr 1
    · refine smF_cg _ fun s hs => ?_
      obtain ⟨b0, -, -⟩ := bit_hi k (by omega) s (by omega) hs
      have e : pdG r t s T (k + 1) = ((pdG r t s T k).1, (pdG r t s T k).2 * (10 - t)) := by
        show (if bitN s k = 1 then _ else _) = _
        rw [if_neg (by omega)]
      rw [e, hit_mul]
    · refine smF_cg _ fun s hs => ?_
      obtain ⟨-, b1, b2⟩ := bit_hi k (by omega) s (by omega) hs
      have e : pdG r t (2 ^ k + s) T (k + 1) = (upT (pdG r t s T k).1 (13 + r k) 0, (pdG r t s T k).2 * t) := by
        show (if bitN (2 ^ k + s) k = 1 then _ else _) = _
        rw [if_pos b1, pd_bits k b2]
      have e2 : pdG r t s (upT T (13 + r k) 0) k = (upT (pdG r t s T k).1 (13 + r k) 0, (pdG r t s T k).2) := pd_up k fun j hj h => by
        have := hr j k (by omega) (by omega) h
        omega
      rw [e, hit_mul, e2]
theorem ab_cg {r r' : Nat → Nat} {t c : Nat} : ∀ k, (∀ i, i < k → r i = r' i) → ∀ T, abF r t c k T = abF r' t c k T := by
  intro k
  induction k with
  | zero => intro _ T; rfl
  | succ k ih =>
    intro h T
    have i := ih fun i hi => h i (by omega)
    show abF r t c k T * (10 - t) + abF r t c k (upT T (13 + r k) 0) * t = abF r' t c k T * (10 - t) + abF r' t c k (upT T (13 + r' k) 0) * t
    rw [i, i, h k (by omega)]
theorem ds_cg {T U : qT} : ∀ m, (∀ p, p < m → T (13 + p) = U (13 + p)) → dsF T m = dsF U m := by
  intro m
  induction m with
  | zero => intro _; rfl
  | succ m ih =>
    intro h
    show (if 0 < T (13 + m) then _ else _) = (if 0 < U (13 + m) then _ else _)
    rw [ih fun p hp => h p (by omega), h m (by omega)]
theorem ds_len {T : qT} : ∀ m, (dsF T m).length ≤ m ∧ ∀ x ∈ dsF T m, x < m := by
  intro m
  induction m with
  | zero => exact ⟨Nat.le_refl _, fun x hx => (by cases hx)⟩
  | succ m ih =>
    obtain ⟨i1, i2⟩ := ih
    unfold dsF
    split
    · rw [List.length_append]
      refine ⟨by simp only [List.length_cons, List.length_nil]; omega, fun x hx => ?_⟩
      rcases List.mem_append.mp hx with h | h
      · have := i2 x h; omega
      · have : x = m := by simpa using h
        omega
    · exact ⟨by omega, fun x hx => by have := i2 x hx; omega⟩
theorem ds_lt {T : qT} {m i : Nat} (h : i < (dsF T m).length) : (dsF T m).getD i 0 < m := by
  rw [List.getD_eq_getElem?_getD, List.getElem?_eq_getElem h]
  exact (ds_len m).2 _ (List.getElem_mem h)
theorem ds_mono {T : qT} : ∀ m i j, i < (dsF T m).length → j < (dsF T m).length → (dsF T m).getD i 0 = (dsF T m).getD j 0 → i = j := by
  intro m
  induction m with
  | zero => intro i j h; exact absurd h (Nat.not_lt_zero _)
  | succ m ih =>
    intro i j hi hj he
    unfold dsF at hi hj he
    by_cases h0 : 0 < T (13 + m)
    · rw [if_pos h0] at hi hj he
      rw [List.length_append] at hi hj
      simp only [List.length_cons, List.length_nil] at hi hj
      have g : ∀ q, q < (dsF T m).length → (dsF T m ++ [m]).getD q 0 = (dsF T m).getD q 0 := fun q hq => by
        rw [List.getD_eq_getElem?_getD, List.getElem?_append_left hq, ← List.getD_eq_getElem?_getD]
      have gl : (dsF T m ++ [m]).getD (dsF T m).length 0 = m := by
        rw [List.getD_eq_getElem?_getD, List.getElem?_append_right (by omega)]; simp
      by_cases h1 : i < (dsF T m).length
      · by_cases h2 : j < (dsF T m).length
        · rw [g i h1, g j h2] at he; exact ih i j h1 h2 he
        · have : j = (dsF T m).length := by omega
          subst this
          rw [g i h1, gl] at he
          have := ds_lt h1
          omega
      · have hil : i = (dsF T m).length := by omega
        by_cases h2 : j < (dsF T m).length
        · rw [hil, gl, g j h2] at he
          have := ds_lt h2
          omega
        · omega
    · rw [if_neg h0] at hi hj he
      exact ih i j hi hj he
theorem ab_rel {t c : Nat} (ht : t ≤ 10) : ∀ m T, abF (fun p => p) t c m T = 10 ^ (m - (dsF T m).length) * abF (fun i => (dsF T m).getD i 0) t c (dsF T m).length T := by
  intro m
  induction m with
  | zero => intro T; show (if c ∈ treadT T then 1 else 0) = 1 * (if c ∈ treadT T then 1 else 0); omega
  | succ m ih =>
    intro T
    show abF (fun p => p) t c m T * (10 - t) + abF (fun p => p) t c m (upT T (13 + m) 0) * t = _
    have hl := (ds_len (T := T) m).1
    by_cases h0 : 0 < T (13 + m)
    · have e : dsF T (m + 1) = dsF T m ++ [m] := by show (if 0 < T (13 + m) then _ else _) = _; rw [if_pos h0]
      have ed : dsF (upT T (13 + m) 0) m = dsF T m := ds_cg m fun p hp => upT_o (by omega)
      rw [e, List.length_append]
      show _ = 10 ^ (m + 1 - ((dsF T m).length + 1)) * (abF _ t c (dsF T m).length T * (10 - t) + abF _ t c (dsF T m).length (upT T (13 + (dsF T m ++ [m]).getD (dsF T m).length 0) 0) * t)
      have gl : (dsF T m ++ [m]).getD (dsF T m).length 0 = m := by
        rw [List.getD_eq_getElem?_getD, List.getElem?_append_right (by omega)]; simp
      have g : ∀ U, abF (fun i => (dsF T m ++ [m]).getD i 0) t c (dsF T m).length U = abF (fun i => (dsF T m).getD i 0) t c (dsF T m).length U := fun U => ab_cg _ (fun q hq => by
        show (dsF T m ++ [m]).getD q 0 = (dsF T m).getD q 0
        rw [List.getD_eq_getElem?_getD, List.getElem?_append_left hq, ← List.getD_eq_getElem?_getD]) U
      have i2 := ih (upT T (13 + m) 0)
      rw [ed] at i2
      rw [gl, g, g, ih T, i2, show m + 1 - ((dsF T m).length + 1) = m - (dsF T m).length by omega, Nat.mul_add, Nat.mul_assoc, Nat.mul_assoc]
    · have e : dsF T (m + 1) = dsF T m := by show (if 0 < T (13 + m) then _ else _) = _; rw [if_neg h0]
      have eT : upT T (13 + m) 0 = T := upT_id (by omega)
      rw [e, eT, ← Nat.mul_add, Nat.sub_add_cancel ht, ih T, show m + 1 - (dsF T m).length = (m - (dsF T m).length) + 1 by omega, Nat.pow_succ]
      rw [Nat.mul_assoc, Nat.mul_assoc, Nat.mul_comm (abF _ _ _ _ _) 10]
theorem ab_le {r : Nat → Nat} {t c : Nat} (ht : t ≤ 10) : ∀ k T, abF r t c k T ≤ 10 ^ k := by
  intro k
  induction k with
  | zero => intro T; show (if c ∈ treadT T then 1 else 0) ≤ 1; split <;> omega
  | succ k ih =>
    intro T
    show abF r t c k T * (10 - t) + abF r t c k (upT T (13 + r k) 0) * t ≤ 10 ^ (k + 1)
    have a := Nat.mul_le_mul_right (10 - t) (ih T)
    have b := Nat.mul_le_mul_right t (ih (upT T (13 + r k) 0))
    have e : 10 ^ k * (10 - t) + 10 ^ k * t = 10 ^ (k + 1) := by rw [← Nat.mul_add, Nat.sub_add_cancel ht, Nat.pow_succ]
    omega
theorem wf_owes {N : Nat} {T : qT} {p v : Nat} (h : wfT N T) (hp : p < 6) (hv : v ≤ 99) : wfT N (upT T (13 + p) v) := by
  obtain ⟨w1, w2, w3, w4, w5, w6, w7, w8, w9⟩ := h
  have hin : ∀ c, inT (upT T (13 + p) v) c ↔ inT T c := fun c => by unfold inT; rw [upT_o (by omega), upT_o (by omega)]
  refine ⟨by rw [upT_o (by omega)]; exact w1, by rw [upT_o (by omega)]; exact w2, by rw [upT_o (by omega)]; exact w3, Nat.zero_le _, by rw [upT_o (by omega)]; exact w5, by rw [upT_o (by omega)]; exact w6, fun c hc => by rw [upT_o (by omega)]; exact w7 c ((hin c).mp hc), fun q hq => ?_, fun q r hq hr he => ?_⟩
  · rw [upT_o (by omega)] at hq
    obtain ⟨r1, r2, r3, r4, r5⟩ := w8 q hq
    rw [upT_o (by omega), upT_o (by omega), upT_o (by omega : ¬ 7 + q = 13 + p)]
    refine ⟨r1, (hin _).mpr r2, r3, ?_, fun k hk => by rw [upT_o (by omega)]; exact r5 k hk⟩
    by_cases hqp : q = p
    · subst hqp; rw [upT_s]; exact hv
    · rw [upT_o (by omega)]; exact r4
  · rw [upT_o (by omega)] at hq hr
    rw [upT_o (by omega), upT_o (by omega)] at he
    exact w9 q r hq hr he
theorem pd_ok {N : Nat} {r : Nat → Nat} {t s : Nat} {T : qT} (h : wfT N T) (ht : t ≤ 10) : ∀ k, (∀ i, i < k → r i < 6) → wfT N (pdG r t s T k).1 ∧ (∀ j, 113 ≤ j → (pdG r t s T k).1 j = T j) ∧ (pdG r t s T k).2 ≤ 10 ^ k := by
  intro k
  induction k with
  | zero => intro _; exact ⟨h, fun _ _ => rfl, Nat.le_refl _⟩
  | succ k ih =>
    intro hr
    obtain ⟨i1, i2, i3⟩ := ih fun i hi => hr i (by omega)
    have hk := hr k (by omega)
    have e : pdG r t s T (k + 1) = if bitN s k = 1 then (upT (pdG r t s T k).1 (13 + r k) 0, (pdG r t s T k).2 * t) else ((pdG r t s T k).1, (pdG r t s T k).2 * (10 - t)) := rfl
    rw [e, Nat.pow_succ]
    split
    · refine ⟨wf_owes i1 hk (by omega), fun j hj => ?_, Nat.mul_le_mul i3 ht⟩
      show upT _ _ _ j = _
      rw [upT_o (by omega)]; exact i2 j hj
    · exact ⟨i1, i2, Nat.mul_le_mul i3 (by omega)⟩
theorem bit_r : ∀ s, s < 64 → ∀ k, k < 6 → nI s >>> (nI k &&& nI 31) &&& nI 1 = nI (bitN s k) := by decide +kernel
theorem pow_s : ∀ m, m < 7 → nI 1 <<< (nI m &&& nI 31) = nI (2 ^ m) := by decide +kernel
theorem pow10 : ∀ m, m < 7 → 10 ^ m ≤ 1000000 ∧ 0 < 10 ^ m ∧ 2 ^ m ≤ 64 := by decide
theorem nI_rem' {a b : Nat} : nI a - nI (a / b * b) = nI (a % b) := by rw [nI_sub (Nat.div_mul_le_self a b), nsm]
theorem bitN_lt {s k : Nat} : bitN s k < 2 := Nat.mod_lt _ (by omega)
section
variable {d N : Nat} {σ : qSg} {μ : qMu} {la : qLa} {Q : qPost} {b : List Nat} {T : qT} {as : List qT} {im : Nat → qT} {sh : Nat → wSh} {x y z : Int32}
theorem c_mhas {s k : Nat} (hs : s < 64) (hk : k < 6) : qEx d 119 0 [] [.int (nI s), .int (nI k)] σ μ la Q ↔ Q (some (.int (if bitN s k = 1 then nI 1 else nI 0))) σ μ la := by
  have h2 := bitN_lt (s := s) (k := k)
  have e := bit_r s hs k hk
  by_cases h : bitN s k = 1
  · simp (disch := omega) only [x119_0, x119_1, x119_2, x119_3, x119_4, x119_5, x119_6, x119_9, x119_10, x119_13, x119_14, ↓nm_1, ↓nm_2, ↓nm_3, ↓nm_4, ↓nm_11, ↓nm_12, ↓nm_13, ↓nm_14, ↓nm_100, nl_0, nl_1, nl_2, nl_3, nl_4, nl_5, nl_6, nl_7, nl_8, nl_9, nl_10, nl_11, nl_12, nl_13, nl_14, nl_15, nl_16, nl_17, nl_18, nl_19, nl_20, nl_22, nl_23, nl_24, nl_25, nl_30, nl_31, nl_34, nl_35, nl_40, nl_43, nl_46, nl_47, nl_48, nl_49, nl_50, nl_57, nl_58, nl_59, nl_63, nl_64, nl_94, nl_97, nl_98, nl_99, nl_100, nl_101, nl_102, nl_105, nl_108, nl_110, nl_111, nl_112, nl_113, nl_114, nl_115, nl_116, nl_117, nl_118, nl_119, nl_124, nl_126, nl_138, nl_140, nl_255, nl_720, nl_1024, nl_9999, nl_99999, nl_999999, nl_1000000, e, h, eq_self, Bool.false_eq_true, Bool.true_and, Bool.and_true, Bool.false_and, Bool.and_false, Bool.not_true, Bool.not_false, nI_toInt, or_true, true_or, or_false, false_or, nI_clamp, nI_leI, nI_ltI, nI_eq, e_nm, e_mn, e_mm, l_nm, l_mn, l_mm, le_nm, le_mn, le_mm, nI_add, nI_mull, nI_sub, nI_subn, nI_divl, nsm, qIn_nI, Nat.zero_le, Nat.not_lt_zero, Nat.reduceAdd, Nat.reduceMul, Nat.reduceSub, Nat.reduceDiv, Nat.reduceMod, Nat.reduceEqDiff, Nat.reduceLeDiff, Nat.reduceLT, Nat.add_zero, Nat.zero_add, not_false_eq_true, not_true_eq_false, true_and, and_true, Option.toList_some, Option.toList_none, List.cons_append, List.nil_append, qrf, if_true, if_false, if_pos, if_neg, reduceIte, ne_eq, Classical.not_not]
  · simp (disch := omega) only [x119_0, x119_1, x119_2, x119_3, x119_4, x119_5, x119_6, x119_9, x119_10, x119_13, x119_14, ↓nm_1, ↓nm_2, ↓nm_3, ↓nm_4, ↓nm_11, ↓nm_12, ↓nm_13, ↓nm_14, ↓nm_100, nl_0, nl_1, nl_2, nl_3, nl_4, nl_5, nl_6, nl_7, nl_8, nl_9, nl_10, nl_11, nl_12, nl_13, nl_14, nl_15, nl_16, nl_17, nl_18, nl_19, nl_20, nl_22, nl_23, nl_24, nl_25, nl_30, nl_31, nl_34, nl_35, nl_40, nl_43, nl_46, nl_47, nl_48, nl_49, nl_50, nl_57, nl_58, nl_59, nl_63, nl_64, nl_94, nl_97, nl_98, nl_99, nl_100, nl_101, nl_102, nl_105, nl_108, nl_110, nl_111, nl_112, nl_113, nl_114, nl_115, nl_116, nl_117, nl_118, nl_119, nl_124, nl_126, nl_138, nl_140, nl_255, nl_720, nl_1024, nl_9999, nl_99999, nl_999999, nl_1000000, e, eq_self, Bool.false_eq_true, Bool.true_and, Bool.and_true, Bool.false_and, Bool.and_false, Bool.not_true, Bool.not_false, nI_toInt, or_true, true_or, or_false, false_or, nI_clamp, nI_leI, nI_ltI, nI_eq, e_nm, e_mn, e_mm, l_nm, l_mn, l_mm, le_nm, le_mn, le_mm, nI_add, nI_mull, nI_sub, nI_subn, nI_divl, nsm, qIn_nI, Nat.zero_le, Nat.not_lt_zero, Nat.reduceAdd, Nat.reduceMul, Nat.reduceSub, Nat.reduceDiv, Nat.reduceMod, Nat.reduceEqDiff, Nat.reduceLeDiff, Nat.reduceLT, Nat.add_zero, Nat.zero_add, not_false_eq_true, not_true_eq_false, true_and, and_true, Option.toList_some, Option.toList_none, List.cons_append, List.nil_append, qrf, if_true, if_false, if_pos, if_neg, reduceIte, ne_eq, Classical.not_not]
theorem c_modds_in {c t s m : Nat} {l3 l4 l5 : Value} (hB : qBM σ) (hwf : wfT N T) (hm5 : T 115 = m) (ht : t ≤ 10) (hs : s < 64) : ∀ (n k : Nat) (μ : qMu), k + n = m → μ 302 115 = nI m → qMA μ 303 (pdG (fun p => p) t s T k).1 → (∀ μ' : qMu, mFr μ μ' → qMA μ' 303 (pdG (fun p => p) t s T m).1 → qEx (d + 1) 186 165 [] [.ref 297, .int (nI c), .int (nI t), l3, l4, l5, .int (nI s), .int (nI (pdG (fun p => p) t s T m).2), .int (nI m)] σ μ' la Q) → qEx (d + 1) 186 90 [] [.ref 297, .int (nI c), .int (nI t), l3, l4, l5, .int (nI s), .int (nI (pdG (fun p => p) t s T k).2), .int (nI k)] σ μ la Q := by
  have hk := mOk hB
  have h6 := hwf.1
  obtain ⟨r0, r1, r2, r4, r6, r7, -⟩ := mR hB
  have hI : ∀ μ : qMu, qIld σ μ 303 = 124 := fun μ => (qaI (μ := μ) (mArr hB).2.2.2.2.1).1
  have hL : qLen σ 10 303 = 124 := (qaI (μ := fun _ _ => 0) (mArr hB).2.2.2.2.1).2.1
  have hI2 : ∀ μ : qMu, qIld σ μ 302 = 124 := fun μ => (mI302 (μ := μ) hB).1
  intro n
  induction n with
  | zero =>
    intro k μ hkn h115 hm hQ
    have : k = m := by omega
    subst this
    rw [x186_90]
    simp (disch := omega) only [x186_92, x186_93, x186_96, x186_98, x186_99, hk, r6, hI2, h115, ↓nm_1, ↓nm_2, ↓nm_3, ↓nm_4, ↓nm_11, ↓nm_12, ↓nm_13, ↓nm_14, ↓nm_100, nl_0, nl_1, nl_2, nl_3, nl_4, nl_5, nl_6, nl_7, nl_8, nl_9, nl_10, nl_11, nl_12, nl_13, nl_14, nl_15, nl_16, nl_17, nl_18, nl_19, nl_20, nl_22, nl_23, nl_24, nl_25, nl_30, nl_31, nl_34, nl_35, nl_40, nl_43, nl_46, nl_47, nl_48, nl_49, nl_50, nl_57, nl_58, nl_59, nl_63, nl_64, nl_94, nl_97, nl_98, nl_99, nl_100, nl_101, nl_102, nl_105, nl_108, nl_110, nl_111, nl_112, nl_113, nl_114, nl_115, nl_116, nl_117, nl_118, nl_119, nl_124, nl_126, nl_138, nl_140, nl_255, nl_720, nl_1024, nl_9999, nl_99999, nl_999999, nl_1000000, eq_self, Bool.false_eq_true, Bool.true_and, Bool.and_true, Bool.false_and, Bool.and_false, Bool.not_true, Bool.not_false, nI_toInt, or_true, true_or, or_false, false_or, nI_clamp, nI_leI, nI_ltI, nI_eq, e_nm, e_mn, e_mm, l_nm, l_mn, l_mm, le_nm, le_mn, le_mm, nI_add, nI_mull, nI_sub, nI_subn, nI_divl, nsm, qIn_nI, Nat.zero_le, Nat.not_lt_zero, Nat.reduceAdd, Nat.reduceMul, Nat.reduceSub, Nat.reduceDiv, Nat.reduceMod, Nat.reduceEqDiff, Nat.reduceLeDiff, Nat.reduceLT, Nat.add_zero, Nat.zero_add, not_false_eq_true, not_true_eq_false, true_and, and_true, Option.toList_some, Option.toList_none, List.cons_append, List.nil_append, qrf, if_true, if_false, if_pos, if_neg, reduceIte, ne_eq, Classical.not_not]
    exact hQ μ mFr_rf hm
  | succ n ih =>
    intro k μ hkn h115 hm hQ
    have e : pdG (fun p => p) t s T (k + 1) = if bitN s k = 1 then (upT (pdG (fun p => p) t s T k).1 (13 + k) 0, (pdG (fun p => p) t s T k).2 * t) else ((pdG (fun p => p) t s T k).1, (pdG (fun p => p) t s T k).2 * (10 - t)) := rfl
    rw [x186_90]
    by_cases hb : bitN s k = 1
    · rw [if_pos hb] at e
      have next := ih (k + 1) (qset μ 303 (13 + k) (nI 0)) (by omega) (by rw [qset_o (by decide)]; exact h115) (by rw [e]; exact qMA_up hm) fun μ' hf hq => hQ μ' (mFr_tr (fun a x z1 z2 z3 => qset_o (by omega)) hf) hq
      rw [e] at next
      simp (disch := omega) only [x186_92, x186_93, x186_96, x186_98, x186_99, x186_102, x186_104, x186_106, x186_108, x186_111, x186_114, x186_115, x186_122, x186_123, x186_125, x186_126, x186_129, x186_131, x186_133, x186_134, x186_136, x186_138, x186_141, x186_144, x186_145, x186_158, x186_159, x186_162, c_mhas hs (show k < 6 by omega), hb, hk, r6, r7, hI, hI2, hL, h115, ↓nm_1, ↓nm_2, ↓nm_3, ↓nm_4, ↓nm_11, ↓nm_12, ↓nm_13, ↓nm_14, ↓nm_100, nl_0, nl_1, nl_2, nl_3, nl_4, nl_5, nl_6, nl_7, nl_8, nl_9, nl_10, nl_11, nl_12, nl_13, nl_14, nl_15, nl_16, nl_17, nl_18, nl_19, nl_20, nl_22, nl_23, nl_24, nl_25, nl_30, nl_31, nl_34, nl_35, nl_40, nl_43, nl_46, nl_47, nl_48, nl_49, nl_50, nl_57, nl_58, nl_59, nl_63, nl_64, nl_94, nl_97, nl_98, nl_99, nl_100, nl_101, nl_102, nl_105, nl_108, nl_110, nl_111, nl_112, nl_113, nl_114, nl_115, nl_116, nl_117, nl_118, nl_119, nl_124, nl_126, nl_138, nl_140, nl_255, nl_720, nl_1024, nl_9999, nl_99999, nl_999999, nl_1000000, eq_self, Bool.false_eq_true, Bool.true_and, Bool.and_true, Bool.false_and, Bool.and_false, Bool.not_true, Bool.not_false, nI_toInt, or_true, true_or, or_false, false_or, nI_clamp, nI_leI, nI_ltI, nI_eq, e_nm, e_mn, e_mm, l_nm, l_mn, l_mm, le_nm, le_mn, le_mm, nI_add, nI_mull, nI_sub, nI_subn, nI_divl, nsm, qIn_nI, Nat.zero_le, Nat.not_lt_zero, Nat.reduceAdd, Nat.reduceMul, Nat.reduceSub, Nat.reduceDiv, Nat.reduceMod, Nat.reduceEqDiff, Nat.reduceLeDiff, Nat.reduceLT, Nat.add_zero, Nat.zero_add, not_false_eq_true, not_true_eq_false, true_and, and_true, Option.toList_some, Option.toList_none, List.cons_append, List.nil_append, qrf, if_true, if_false, if_pos, if_neg, reduceIte, ne_eq, Classical.not_not]
      exact next
    · rw [if_neg hb] at e
      have hv := hm (13 + k) (by omega)
      have next := ih (k + 1) (qset μ 303 (13 + k) (nI ((pdG (fun p => p) t s T k).1 (13 + k)))) (by omega) (by rw [qset_o (by decide)]; exact h115) (by
        have := qMA_up (k := 13 + k) (v := (pdG (fun p => p) t s T k).1 (13 + k)) hm
        rw [upT_id rfl] at this
        rw [e]; exact this) fun μ' hf hq => hQ μ' (mFr_tr (fun a x z1 z2 z3 => qset_o (by omega)) hf) hq
      rw [e] at next
      simp (disch := omega) only [x186_92, x186_93, x186_96, x186_98, x186_99, x186_102, x186_104, x186_106, x186_108, x186_111, x186_118, x186_120, x186_121, x186_122, x186_123, x186_125, x186_126, x186_129, x186_131, x186_133, x186_134, x186_136, x186_138, x186_141, x186_148, x186_149, x186_152, x186_154, x186_156, x186_157, x186_158, x186_159, x186_162, c_mhas hs (show k < 6 by omega), hb, hk, r6, r7, hI, hI2, hL, h115, hv, ↓nm_1, ↓nm_2, ↓nm_3, ↓nm_4, ↓nm_11, ↓nm_12, ↓nm_13, ↓nm_14, ↓nm_100, nl_0, nl_1, nl_2, nl_3, nl_4, nl_5, nl_6, nl_7, nl_8, nl_9, nl_10, nl_11, nl_12, nl_13, nl_14, nl_15, nl_16, nl_17, nl_18, nl_19, nl_20, nl_22, nl_23, nl_24, nl_25, nl_30, nl_31, nl_34, nl_35, nl_40, nl_43, nl_46, nl_47, nl_48, nl_49, nl_50, nl_57, nl_58, nl_59, nl_63, nl_64, nl_94, nl_97, nl_98, nl_99, nl_100, nl_101, nl_102, nl_105, nl_108, nl_110, nl_111, nl_112, nl_113, nl_114, nl_115, nl_116, nl_117, nl_118, nl_119, nl_124, nl_126, nl_138, nl_140, nl_255, nl_720, nl_1024, nl_9999, nl_99999, nl_999999, nl_1000000, eq_self, Bool.false_eq_true, Bool.true_and, Bool.and_true, Bool.false_and, Bool.and_false, Bool.not_true, Bool.not_false, nI_toInt, or_true, true_or, or_false, false_or, nI_clamp, nI_leI, nI_ltI, nI_eq, e_nm, e_mn, e_mm, l_nm, l_mn, l_mm, le_nm, le_mn, le_mm, nI_add, nI_mull, nI_sub, nI_subn, nI_divl, nsm, qIn_nI, Nat.zero_le, Nat.not_lt_zero, Nat.reduceAdd, Nat.reduceMul, Nat.reduceSub, Nat.reduceDiv, Nat.reduceMod, Nat.reduceEqDiff, Nat.reduceLeDiff, Nat.reduceLT, Nat.add_zero, Nat.zero_add, not_false_eq_true, not_true_eq_false, true_and, and_true, Option.toList_some, Option.toList_none, List.cons_append, List.nil_append, qrf, if_true, if_false, if_pos, if_neg, reduceIte, ne_eq, Classical.not_not]
      exact next
theorem c_modds_out {c t m : Nat} {l3 l5 : Value} (hB : qBM σ) (hwf : wfT N T) (hm5 : T 115 = m) (hc : c < 64) (ht : t ≤ 10) : ∀ (n s : Nat) (μ : qMu) (l7 l8 : Value), s + n = 2 ^ m → qMA μ 302 T → (∀ (μ' : qMu) (l7 l8 : Value), mFr μ μ' → qEx (d + 5) 186 200 [] [.ref 297, .int (nI c), .int (nI t), l3, .int (nI (smF (fun s => hitV c (pdG (fun p => p) t s T m)) (2 ^ m))), l5, .int (nI (2 ^ m)), l7, l8] σ μ' la Q) → qEx (d + 5) 186 66 [] [.ref 297, .int (nI c), .int (nI t), l3, .int (nI (smF (fun s => hitV c (pdG (fun p => p) t s T m)) s)), l5, .int (nI s), l7, l8] σ μ la Q := by
  have hk := mOk hB
  have h6 := hwf.1
  obtain ⟨r0, r1, r2, r4, r6, r7, r8, r9, r10, r11, r12, r14, r19, -⟩ := mR hB
  have hI2 : ∀ μ : qMu, qIld σ μ 302 = 124 := fun μ => (mI302 (μ := μ) hB).1
  have hbl : qBld σ 310 = 64 := by unfold qBld; rw [hB.1]; decide +kernel
  obtain ⟨t10, t0, t2⟩ := pow10 m (by omega)
  have hps := pow_s m (by omega)
  intro n
  induction n with
  | zero =>
    intro s μ l7 l8 hsn hm hQ
    have h115 : μ 302 115 = nI m := by rw [hm 115 (by omega), hm5]
    have : s = 2 ^ m := by omega
    subst this
    rw [x186_66]
    simp (disch := omega) only [x186_68, x186_69, x186_70, x186_73, x186_75, x186_76, x186_77, hk, r6, hI2, h115, ↓nm_1, ↓nm_2, ↓nm_3, ↓nm_4, ↓nm_11, ↓nm_12, ↓nm_13, ↓nm_14, ↓nm_100, nl_0, nl_1, nl_2, nl_3, nl_4, nl_5, nl_6, nl_7, nl_8, nl_9, nl_10, nl_11, nl_12, nl_13, nl_14, nl_15, nl_16, nl_17, nl_18, nl_19, nl_20, nl_22, nl_23, nl_24, nl_25, nl_30, nl_31, nl_34, nl_35, nl_40, nl_43, nl_46, nl_47, nl_48, nl_49, nl_50, nl_57, nl_58, nl_59, nl_63, nl_64, nl_94, nl_97, nl_98, nl_99, nl_100, nl_101, nl_102, nl_105, nl_108, nl_110, nl_111, nl_112, nl_113, nl_114, nl_115, nl_116, nl_117, nl_118, nl_119, nl_124, nl_126, nl_138, nl_140, nl_255, nl_720, nl_1024, nl_9999, nl_99999, nl_999999, nl_1000000, hps, eq_self, Bool.false_eq_true, Bool.true_and, Bool.and_true, Bool.false_and, Bool.and_false, Bool.not_true, Bool.not_false, nI_toInt, or_true, true_or, or_false, false_or, nI_clamp, nI_leI, nI_ltI, nI_eq, e_nm, e_mn, e_mm, l_nm, l_mn, l_mm, le_nm, le_mn, le_mm, nI_add, nI_mull, nI_sub, nI_subn, nI_divl, nsm, qIn_nI, Nat.zero_le, Nat.not_lt_zero, Nat.reduceAdd, Nat.reduceMul, Nat.reduceSub, Nat.reduceDiv, Nat.reduceMod, Nat.reduceEqDiff, Nat.reduceLeDiff, Nat.reduceLT, Nat.add_zero, Nat.zero_add, not_false_eq_true, not_true_eq_false, true_and, and_true, Option.toList_some, Option.toList_none, List.cons_append, List.nil_append, qrf, if_true, if_false, if_pos, if_neg, reduceIte, ne_eq, Classical.not_not]
    exact hQ μ _ _ mFr_rf
  | succ n ih =>
    intro s μ l7 l8 hsn hm hQ
    have h115 : μ 302 115 = nI m := by rw [hm 115 (by omega), hm5]
    rw [x186_66]
    simp (disch := omega) only [x186_68, x186_69, x186_70, x186_73, x186_75, x186_76, x186_77, x186_80, x186_81, x186_83, x186_84, hk, r6, hI2, h115, ↓nm_1, ↓nm_2, ↓nm_3, ↓nm_4, ↓nm_11, ↓nm_12, ↓nm_13, ↓nm_14, ↓nm_100, nl_0, nl_1, nl_2, nl_3, nl_4, nl_5, nl_6, nl_7, nl_8, nl_9, nl_10, nl_11, nl_12, nl_13, nl_14, nl_15, nl_16, nl_17, nl_18, nl_19, nl_20, nl_22, nl_23, nl_24, nl_25, nl_30, nl_31, nl_34, nl_35, nl_40, nl_43, nl_46, nl_47, nl_48, nl_49, nl_50, nl_57, nl_58, nl_59, nl_63, nl_64, nl_94, nl_97, nl_98, nl_99, nl_100, nl_101, nl_102, nl_105, nl_108, nl_110, nl_111, nl_112, nl_113, nl_114, nl_115, nl_116, nl_117, nl_118, nl_119, nl_124, nl_126, nl_138, nl_140, nl_255, nl_720, nl_1024, nl_9999, nl_99999, nl_999999, nl_1000000, hps, eq_self, Bool.false_eq_true, Bool.true_and, Bool.and_true, Bool.false_and, Bool.and_false, Bool.not_true, Bool.not_false, nI_toInt, or_true, true_or, or_false, false_or, nI_clamp, nI_leI, nI_ltI, nI_eq, e_nm, e_mn, e_mm, l_nm, l_mn, l_mm, le_nm, le_mn, le_mm, nI_add, nI_mull, nI_sub, nI_subn, nI_divl, nsm, qIn_nI, Nat.zero_le, Nat.not_lt_zero, Nat.reduceAdd, Nat.reduceMul, Nat.reduceSub, Nat.reduceDiv, Nat.reduceMod, Nat.reduceEqDiff, Nat.reduceLeDiff, Nat.reduceLT, Nat.add_zero, Nat.zero_add, not_false_eq_true, not_true_eq_false, true_and, and_true, Option.toList_some, Option.toList_none, List.cons_append, List.nil_append, qrf, if_true, if_false, if_pos, if_neg, reduceIte, ne_eq, Classical.not_not]
    refine c_mbegin hB hm fun μ1 hf1 hm1 => ?_
    have hfr1 : mFr μ μ1 := fun c x a _ _ => by rw [hf1 c (by omega)]
    simp (disch := omega) only [x186_87, x186_88, ↓nm_1, ↓nm_2, ↓nm_3, ↓nm_4, ↓nm_11, ↓nm_12, ↓nm_13, ↓nm_14, ↓nm_100, nl_0, nl_1, nl_2, nl_3, nl_4, nl_5, nl_6, nl_7, nl_8, nl_9, nl_10, nl_11, nl_12, nl_13, nl_14, nl_15, nl_16, nl_17, nl_18, nl_19, nl_20, nl_22, nl_23, nl_24, nl_25, nl_30, nl_31, nl_34, nl_35, nl_40, nl_43, nl_46, nl_47, nl_48, nl_49, nl_50, nl_57, nl_58, nl_59, nl_63, nl_64, nl_94, nl_97, nl_98, nl_99, nl_100, nl_101, nl_102, nl_105, nl_108, nl_110, nl_111, nl_112, nl_113, nl_114, nl_115, nl_116, nl_117, nl_118, nl_119, nl_124, nl_126, nl_138, nl_140, nl_255, nl_720, nl_1024, nl_9999, nl_99999, nl_999999, nl_1000000, eq_self, Bool.false_eq_true, Bool.true_and, Bool.and_true, Bool.false_and, Bool.and_false, Bool.not_true, Bool.not_false, nI_toInt, or_true, true_or, or_false, false_or, nI_clamp, nI_leI, nI_ltI, nI_eq, e_nm, e_mn, e_mm, l_nm, l_mn, l_mm, le_nm, le_mn, le_mm, nI_add, nI_mull, nI_sub, nI_subn, nI_divl, nsm, qIn_nI, Nat.zero_le, Nat.not_lt_zero, Nat.reduceAdd, Nat.reduceMul, Nat.reduceSub, Nat.reduceDiv, Nat.reduceMod, Nat.reduceEqDiff, Nat.reduceLeDiff, Nat.reduceLT, Nat.add_zero, Nat.zero_add, not_false_eq_true, not_true_eq_false, true_and, and_true, Option.toList_some, Option.toList_none, List.cons_append, List.nil_append, qrf, if_true, if_false, if_pos, if_neg, reduceIte, ne_eq, Classical.not_not]
    refine c_modds_in (T := T) (N := N) hB hwf hm5 ht (by omega) m 0 μ1 (by omega) (by rw [hf1 302 (by decide)]; exact h115) hm1 fun μ2 hf2 hm2 => ?_
    obtain ⟨p1, p2, p3⟩ := pd_ok (r := fun p => p) (s := s) hwf ht m fun i hi => (by show i < 6; omega)
    simp (disch := omega) only [x186_165, x186_166, x186_167, x186_170, hk, r7, ↓nm_1, ↓nm_2, ↓nm_3, ↓nm_4, ↓nm_11, ↓nm_12, ↓nm_13, ↓nm_14, ↓nm_100, nl_0, nl_1, nl_2, nl_3, nl_4, nl_5, nl_6, nl_7, nl_8, nl_9, nl_10, nl_11, nl_12, nl_13, nl_14, nl_15, nl_16, nl_17, nl_18, nl_19, nl_20, nl_22, nl_23, nl_24, nl_25, nl_30, nl_31, nl_34, nl_35, nl_40, nl_43, nl_46, nl_47, nl_48, nl_49, nl_50, nl_57, nl_58, nl_59, nl_63, nl_64, nl_94, nl_97, nl_98, nl_99, nl_100, nl_101, nl_102, nl_105, nl_108, nl_110, nl_111, nl_112, nl_113, nl_114, nl_115, nl_116, nl_117, nl_118, nl_119, nl_124, nl_126, nl_138, nl_140, nl_255, nl_720, nl_1024, nl_9999, nl_99999, nl_999999, nl_1000000, eq_self, Bool.false_eq_true, Bool.true_and, Bool.and_true, Bool.false_and, Bool.and_false, Bool.not_true, Bool.not_false, nI_toInt, or_true, true_or, or_false, false_or, nI_clamp, nI_leI, nI_ltI, nI_eq, e_nm, e_mn, e_mm, l_nm, l_mn, l_mm, le_nm, le_mn, le_mm, nI_add, nI_mull, nI_sub, nI_subn, nI_divl, nsm, qIn_nI, Nat.zero_le, Nat.not_lt_zero, Nat.reduceAdd, Nat.reduceMul, Nat.reduceSub, Nat.reduceDiv, Nat.reduceMod, Nat.reduceEqDiff, Nat.reduceLeDiff, Nat.reduceLT, Nat.add_zero, Nat.zero_add, not_false_eq_true, not_true_eq_false, true_and, and_true, Option.toList_some, Option.toList_none, List.cons_append, List.nil_append, qrf, if_true, if_false, if_pos, if_neg, reduceIte, ne_eq, Classical.not_not]
    refine c_mnoon hB (mArr hB).2.2.2.2.1 (by decide) (by decide) (by decide) p1 hm2 fun μ3 hf3 hm3 hw3 he3 _ => ?_
    have e := he3 c hc
    have hfr : mFr μ μ3 := mFr_tr (mFr_tr hfr1 hf2) (mFr_I hf3)
    have next := fun (l7 l8 : Value) => ih (s + 1) μ3 l7 l8 (by omega) (mFr_302 hm hfr) fun μ' l7 l8 hf => hQ μ' l7 l8 (mFr_tr hfr hf)
    have es : smF (fun s => hitV c (pdG (fun p => p) t s T m)) (s + 1) = smF (fun s => hitV c (pdG (fun p => p) t s T m)) s + hitV c (pdG (fun p => p) t s T m) := rfl
    rw [es] at next
    unfold hitV at next
    by_cases hmem : c ∈ treadT (pdG (fun p => p) t s T m).1
    · rw [if_pos hmem] at e
      simp only [if_pos hmem] at next
      simp (disch := omega) only [x186_173, x186_174, x186_176, x186_177, x186_180, x186_181, x186_182, x186_185, x186_187, x186_190, x186_191, x186_192, x186_194, x186_197, hk, r19, hbl, e, ↓nm_1, ↓nm_2, ↓nm_3, ↓nm_4, ↓nm_11, ↓nm_12, ↓nm_13, ↓nm_14, ↓nm_100, nl_0, nl_1, nl_2, nl_3, nl_4, nl_5, nl_6, nl_7, nl_8, nl_9, nl_10, nl_11, nl_12, nl_13, nl_14, nl_15, nl_16, nl_17, nl_18, nl_19, nl_20, nl_22, nl_23, nl_24, nl_25, nl_30, nl_31, nl_34, nl_35, nl_40, nl_43, nl_46, nl_47, nl_48, nl_49, nl_50, nl_57, nl_58, nl_59, nl_63, nl_64, nl_94, nl_97, nl_98, nl_99, nl_100, nl_101, nl_102, nl_105, nl_108, nl_110, nl_111, nl_112, nl_113, nl_114, nl_115, nl_116, nl_117, nl_118, nl_119, nl_124, nl_126, nl_138, nl_140, nl_255, nl_720, nl_1024, nl_9999, nl_99999, nl_999999, nl_1000000, eq_self, Bool.false_eq_true, Bool.true_and, Bool.and_true, Bool.false_and, Bool.and_false, Bool.not_true, Bool.not_false, nI_toInt, or_true, true_or, or_false, false_or, nI_clamp, nI_leI, nI_ltI, nI_eq, e_nm, e_mn, e_mm, l_nm, l_mn, l_mm, le_nm, le_mn, le_mm, nI_add, nI_mull, nI_sub, nI_subn, nI_divl, nsm, qIn_nI, Nat.zero_le, Nat.not_lt_zero, Nat.reduceAdd, Nat.reduceMul, Nat.reduceSub, Nat.reduceDiv, Nat.reduceMod, Nat.reduceEqDiff, Nat.reduceLeDiff, Nat.reduceLT, Nat.add_zero, Nat.zero_add, not_false_eq_true, not_true_eq_false, true_and, and_true, Option.toList_some, Option.toList_none, List.cons_append, List.nil_append, qrf, if_true, if_false, if_pos, if_neg, reduceIte, ne_eq, Classical.not_not]
      exact next _ _
    · rw [if_neg hmem] at e
      simp only [if_neg hmem] at next
      simp (disch := omega) only [x186_173, x186_174, x186_176, x186_177, x186_180, x186_181, x186_182, x186_185, x186_187, x186_190, x186_191, x186_192, x186_194, x186_197, hk, r19, hbl, e, ↓nm_1, ↓nm_2, ↓nm_3, ↓nm_4, ↓nm_11, ↓nm_12, ↓nm_13, ↓nm_14, ↓nm_100, nl_0, nl_1, nl_2, nl_3, nl_4, nl_5, nl_6, nl_7, nl_8, nl_9, nl_10, nl_11, nl_12, nl_13, nl_14, nl_15, nl_16, nl_17, nl_18, nl_19, nl_20, nl_22, nl_23, nl_24, nl_25, nl_30, nl_31, nl_34, nl_35, nl_40, nl_43, nl_46, nl_47, nl_48, nl_49, nl_50, nl_57, nl_58, nl_59, nl_63, nl_64, nl_94, nl_97, nl_98, nl_99, nl_100, nl_101, nl_102, nl_105, nl_108, nl_110, nl_111, nl_112, nl_113, nl_114, nl_115, nl_116, nl_117, nl_118, nl_119, nl_124, nl_126, nl_138, nl_140, nl_255, nl_720, nl_1024, nl_9999, nl_99999, nl_999999, nl_1000000, eq_self, Bool.false_eq_true, Bool.true_and, Bool.and_true, Bool.false_and, Bool.and_false, Bool.not_true, Bool.not_false, nI_toInt, or_true, true_or, or_false, false_or, nI_clamp, nI_leI, nI_ltI, nI_eq, e_nm, e_mn, e_mm, l_nm, l_mn, l_mm, le_nm, le_mn, le_mm, nI_add, nI_mull, nI_sub, nI_subn, nI_divl, nsm, qIn_nI, Nat.zero_le, Nat.not_lt_zero, Nat.reduceAdd, Nat.reduceMul, Nat.reduceSub, Nat.reduceDiv, Nat.reduceMod, Nat.reduceEqDiff, Nat.reduceLeDiff, Nat.reduceLT, Nat.add_zero, Nat.zero_add, not_false_eq_true, not_true_eq_false, true_and, and_true, Option.toList_some, Option.toList_none, List.cons_append, List.nil_append, qrf, if_true, if_false, if_pos, if_neg, reduceIte, ne_eq, Classical.not_not]
      exact next _ _
theorem c_modds_pow {c t m : Nat} {l3 l4 : Value} {l7 l8 : Value} (hB : qBM σ) (hm6 : m ≤ 6) (h115 : μ 302 115 = nI m) : ∀ (n k : Nat), k + n = m → qEx d 186 63 [] [.ref 297, .int (nI c), .int (nI t), l3, l4, .int (nI (10 ^ m)), .int (nI m), l7, l8] σ μ la Q → qEx d 186 38 [] [.ref 297, .int (nI c), .int (nI t), l3, l4, .int (nI (10 ^ k)), .int (nI k), l7, l8] σ μ la Q := by
  have hk := mOk hB
  obtain ⟨r0, r1, r2, r4, r6, -⟩ := mR hB
  have hI2 := (mI302 (μ := μ) hB).1
  intro n
  induction n with
  | zero =>
    intro k hkn hQ
    have : k = m := by omega
    subst this
    rw [x186_38]
    simp (disch := omega) only [x186_40, x186_41, x186_44, x186_46, x186_47, hk, r6, hI2, h115, ↓nm_1, ↓nm_2, ↓nm_3, ↓nm_4, ↓nm_11, ↓nm_12, ↓nm_13, ↓nm_14, ↓nm_100, nl_0, nl_1, nl_2, nl_3, nl_4, nl_5, nl_6, nl_7, nl_8, nl_9, nl_10, nl_11, nl_12, nl_13, nl_14, nl_15, nl_16, nl_17, nl_18, nl_19, nl_20, nl_22, nl_23, nl_24, nl_25, nl_30, nl_31, nl_34, nl_35, nl_40, nl_43, nl_46, nl_47, nl_48, nl_49, nl_50, nl_57, nl_58, nl_59, nl_63, nl_64, nl_94, nl_97, nl_98, nl_99, nl_100, nl_101, nl_102, nl_105, nl_108, nl_110, nl_111, nl_112, nl_113, nl_114, nl_115, nl_116, nl_117, nl_118, nl_119, nl_124, nl_126, nl_138, nl_140, nl_255, nl_720, nl_1024, nl_9999, nl_99999, nl_999999, nl_1000000, eq_self, Bool.false_eq_true, Bool.true_and, Bool.and_true, Bool.false_and, Bool.and_false, Bool.not_true, Bool.not_false, nI_toInt, or_true, true_or, or_false, false_or, nI_clamp, nI_leI, nI_ltI, nI_eq, e_nm, e_mn, e_mm, l_nm, l_mn, l_mm, le_nm, le_mn, le_mm, nI_add, nI_mull, nI_sub, nI_subn, nI_divl, nsm, qIn_nI, Nat.zero_le, Nat.not_lt_zero, Nat.reduceAdd, Nat.reduceMul, Nat.reduceSub, Nat.reduceDiv, Nat.reduceMod, Nat.reduceEqDiff, Nat.reduceLeDiff, Nat.reduceLT, Nat.add_zero, Nat.zero_add, not_false_eq_true, not_true_eq_false, true_and, and_true, Option.toList_some, Option.toList_none, List.cons_append, List.nil_append, qrf, if_true, if_false, if_pos, if_neg, reduceIte, ne_eq, Classical.not_not]
    exact hQ
  | succ n ih =>
    intro k hkn hQ
    rw [x186_38]
    have := ih (k + 1) (by omega) hQ
    rw [Nat.pow_succ] at this
    simp (disch := omega) only [x186_40, x186_41, x186_44, x186_46, x186_47, x186_50, x186_52, x186_54, x186_55, x186_57, x186_60, hk, r6, hI2, h115, ↓nm_1, ↓nm_2, ↓nm_3, ↓nm_4, ↓nm_11, ↓nm_12, ↓nm_13, ↓nm_14, ↓nm_100, nl_0, nl_1, nl_2, nl_3, nl_4, nl_5, nl_6, nl_7, nl_8, nl_9, nl_10, nl_11, nl_12, nl_13, nl_14, nl_15, nl_16, nl_17, nl_18, nl_19, nl_20, nl_22, nl_23, nl_24, nl_25, nl_30, nl_31, nl_34, nl_35, nl_40, nl_43, nl_46, nl_47, nl_48, nl_49, nl_50, nl_57, nl_58, nl_59, nl_63, nl_64, nl_94, nl_97, nl_98, nl_99, nl_100, nl_101, nl_102, nl_105, nl_108, nl_110, nl_111, nl_112, nl_113, nl_114, nl_115, nl_116, nl_117, nl_118, nl_119, nl_124, nl_126, nl_138, nl_140, nl_255, nl_720, nl_1024, nl_9999, nl_99999, nl_999999, nl_1000000, eq_self, Bool.false_eq_true, Bool.true_and, Bool.and_true, Bool.false_and, Bool.and_false, Bool.not_true, Bool.not_false, nI_toInt, or_true, true_or, or_false, false_or, nI_clamp, nI_leI, nI_ltI, nI_eq, e_nm, e_mn, e_mm, l_nm, l_mn, l_mm, le_nm, le_mn, le_mm, nI_add, nI_mull, nI_sub, nI_subn, nI_divl, nsm, qIn_nI, Nat.zero_le, Nat.not_lt_zero, Nat.reduceAdd, Nat.reduceMul, Nat.reduceSub, Nat.reduceDiv, Nat.reduceMod, Nat.reduceEqDiff, Nat.reduceLeDiff, Nat.reduceLT, Nat.add_zero, Nat.zero_add, not_false_eq_true, not_true_eq_false, true_and, and_true, Option.toList_some, Option.toList_none, List.cons_append, List.nil_append, qrf, if_true, if_false, if_pos, if_neg, reduceIte, ne_eq, Classical.not_not]
    exact this
theorem c_modds_gcd {c t : Nat} {l3 l4 l5 : Value} {g : Nat} (hQ : ∀ l8 : Value, qEx d 186 231 [] [.ref 297, .int (nI c), .int (nI t), l3, l4, l5, .int (nI g), .int (nI 0), l8] σ μ la Q) : ∀ (b a : Nat) (l8 : Value), b ≤ 1000000 → a ≤ 1000000 → Nat.gcd a b = g → qEx d 186 208 [] [.ref 297, .int (nI c), .int (nI t), l3, l4, l5, .int (nI a), .int (nI b), l8] σ μ la Q := by
  intro b
  induction b using Nat.strongRecOn with
  | ind b ih =>
    intro a l8 hb ha hg
    rw [x186_208]
    by_cases h0 : b = 0
    · subst h0
      rw [Nat.gcd_zero_right] at hg
      subst hg
      simp (disch := omega) only [x186_210, ↓nm_1, ↓nm_2, ↓nm_3, ↓nm_4, ↓nm_11, ↓nm_12, ↓nm_13, ↓nm_14, ↓nm_100, nl_0, nl_1, nl_2, nl_3, nl_4, nl_5, nl_6, nl_7, nl_8, nl_9, nl_10, nl_11, nl_12, nl_13, nl_14, nl_15, nl_16, nl_17, nl_18, nl_19, nl_20, nl_22, nl_23, nl_24, nl_25, nl_30, nl_31, nl_34, nl_35, nl_40, nl_43, nl_46, nl_47, nl_48, nl_49, nl_50, nl_57, nl_58, nl_59, nl_63, nl_64, nl_94, nl_97, nl_98, nl_99, nl_100, nl_101, nl_102, nl_105, nl_108, nl_110, nl_111, nl_112, nl_113, nl_114, nl_115, nl_116, nl_117, nl_118, nl_119, nl_124, nl_126, nl_138, nl_140, nl_255, nl_720, nl_1024, nl_9999, nl_99999, nl_999999, nl_1000000, eq_self, Bool.false_eq_true, Bool.true_and, Bool.and_true, Bool.false_and, Bool.and_false, Bool.not_true, Bool.not_false, nI_toInt, or_true, true_or, or_false, false_or, nI_clamp, nI_leI, nI_ltI, nI_eq, e_nm, e_mn, e_mm, l_nm, l_mn, l_mm, le_nm, le_mn, le_mm, nI_add, nI_mull, nI_sub, nI_subn, nI_divl, nsm, qIn_nI, Nat.zero_le, Nat.not_lt_zero, Nat.reduceAdd, Nat.reduceMul, Nat.reduceSub, Nat.reduceDiv, Nat.reduceMod, Nat.reduceEqDiff, Nat.reduceLeDiff, Nat.reduceLT, Nat.add_zero, Nat.zero_add, not_false_eq_true, not_true_eq_false, true_and, and_true, Option.toList_some, Option.toList_none, List.cons_append, List.nil_append, qrf, if_true, if_false, if_pos, if_neg, reduceIte, ne_eq, Classical.not_not]
      exact hQ l8
    · have hlt : a % b < b := Nat.mod_lt _ (by omega)
      have := ih (a % b) hlt b (.int (nI (a % b))) (by omega) hb (by rw [← hg, Nat.gcd_comm a b, Nat.gcd_rec b a, Nat.gcd_comm])
      simp (disch := omega) only [x186_210, x186_213, x186_215, x186_217, x186_218, x186_220, x186_222, x186_224, x186_226, x186_228, ↓nm_1, ↓nm_2, ↓nm_3, ↓nm_4, ↓nm_11, ↓nm_12, ↓nm_13, ↓nm_14, ↓nm_100, nl_0, nl_1, nl_2, nl_3, nl_4, nl_5, nl_6, nl_7, nl_8, nl_9, nl_10, nl_11, nl_12, nl_13, nl_14, nl_15, nl_16, nl_17, nl_18, nl_19, nl_20, nl_22, nl_23, nl_24, nl_25, nl_30, nl_31, nl_34, nl_35, nl_40, nl_43, nl_46, nl_47, nl_48, nl_49, nl_50, nl_57, nl_58, nl_59, nl_63, nl_64, nl_94, nl_97, nl_98, nl_99, nl_100, nl_101, nl_102, nl_105, nl_108, nl_110, nl_111, nl_112, nl_113, nl_114, nl_115, nl_116, nl_117, nl_118, nl_119, nl_124, nl_126, nl_138, nl_140, nl_255, nl_720, nl_1024, nl_9999, nl_99999, nl_999999, nl_1000000, nI_rem', eq_self, Bool.false_eq_true, Bool.true_and, Bool.and_true, Bool.false_and, Bool.and_false, Bool.not_true, Bool.not_false, nI_toInt, or_true, true_or, or_false, false_or, nI_clamp, nI_leI, nI_ltI, nI_eq, e_nm, e_mn, e_mm, l_nm, l_mn, l_mm, le_nm, le_mn, le_mm, nI_add, nI_mull, nI_sub, nI_subn, nI_divl, nsm, qIn_nI, Nat.zero_le, Nat.not_lt_zero, Nat.reduceAdd, Nat.reduceMul, Nat.reduceSub, Nat.reduceDiv, Nat.reduceMod, Nat.reduceEqDiff, Nat.reduceLeDiff, Nat.reduceLT, Nat.add_zero, Nat.zero_add, not_false_eq_true, not_true_eq_false, true_and, and_true, Option.toList_some, Option.toList_none, List.cons_append, List.nil_append, qrf, if_true, if_false, if_pos, if_neg, reduceIte, ne_eq, Classical.not_not]
      exact ⟨h0, this⟩
set_option maxHeartbeats 4000000 in
theorem m_odds (hP : SimP N (b, T, as, im, sh)) (hS : SimM (b, T, as, im, sh) σ μ la) (hQ : ∀ μ' : qMu, mFr μ μ' → Q (some (.int (aOdds T x y z))) σ μ' la) : qEx (d + 10) 186 0 [] [.ref 297, .int x, .int y, .int z, .retAddr 0, .retAddr 0, .retAddr 0, .retAddr 0, .retAddr 0] σ μ la Q := by
  obtain ⟨hB, ht, hm, ha, hi, hs⟩ := hS
  have hm : qMA μ 302 T := hm
  have hwf : wfT N T := hP.2.2.1.1
  have hk := mOk hB
  have h6 := hwf.1
  unfold aOdds at hQ
  cases h1 : isC T x with
  | false =>
    simp [h1] at hQ
    simp (disch := omega) only [x186_0, x186_1, x186_2, x186_5, x186_27, x186_28, c_mcell hB hm hwf, h1, hk, ↓nm_1, ↓nm_2, ↓nm_3, ↓nm_4, ↓nm_11, ↓nm_12, ↓nm_13, ↓nm_14, ↓nm_100, nl_0, nl_1, nl_2, nl_3, nl_4, nl_5, nl_6, nl_7, nl_8, nl_9, nl_10, nl_11, nl_12, nl_13, nl_14, nl_15, nl_16, nl_17, nl_18, nl_19, nl_20, nl_22, nl_23, nl_24, nl_25, nl_30, nl_31, nl_34, nl_35, nl_40, nl_43, nl_46, nl_47, nl_48, nl_49, nl_50, nl_57, nl_58, nl_59, nl_63, nl_64, nl_94, nl_97, nl_98, nl_99, nl_100, nl_101, nl_102, nl_105, nl_108, nl_110, nl_111, nl_112, nl_113, nl_114, nl_115, nl_116, nl_117, nl_118, nl_119, nl_124, nl_126, nl_138, nl_140, nl_255, nl_720, nl_1024, nl_9999, nl_99999, nl_999999, nl_1000000, eq_self, Bool.false_eq_true, Bool.true_and, Bool.and_true, Bool.false_and, Bool.and_false, Bool.not_true, Bool.not_false, nI_toInt, or_true, true_or, or_false, false_or, nI_clamp, nI_leI, nI_ltI, nI_eq, e_nm, e_mn, e_mm, l_nm, l_mn, l_mm, le_nm, le_mn, le_mm, nI_add, nI_mull, nI_sub, nI_subn, nI_divl, nsm, qIn_nI, Nat.zero_le, Nat.not_lt_zero, Nat.reduceAdd, Nat.reduceMul, Nat.reduceSub, Nat.reduceDiv, Nat.reduceMod, Nat.reduceEqDiff, Nat.reduceLeDiff, Nat.reduceLT, Nat.add_zero, Nat.zero_add, not_false_eq_true, not_true_eq_false, true_and, and_true, Option.toList_some, Option.toList_none, List.cons_append, List.nil_append, qrf, if_true, if_false, if_pos, if_neg, reduceIte, ne_eq, Classical.not_not]
    exact hQ μ mFr_rf
  | true =>
    cases h2 : isR y 11 with
    | false =>
      simp [h1, h2] at hQ
      simp (disch := omega) only [x186_0, x186_1, x186_2, x186_5, x186_8, x186_9, x186_10, x186_12, x186_15, x186_27, x186_28, c_mcell hB hm hwf, c_inR, h1, h2, hk, ↓nm_1, ↓nm_2, ↓nm_3, ↓nm_4, ↓nm_11, ↓nm_12, ↓nm_13, ↓nm_14, ↓nm_100, nl_0, nl_1, nl_2, nl_3, nl_4, nl_5, nl_6, nl_7, nl_8, nl_9, nl_10, nl_11, nl_12, nl_13, nl_14, nl_15, nl_16, nl_17, nl_18, nl_19, nl_20, nl_22, nl_23, nl_24, nl_25, nl_30, nl_31, nl_34, nl_35, nl_40, nl_43, nl_46, nl_47, nl_48, nl_49, nl_50, nl_57, nl_58, nl_59, nl_63, nl_64, nl_94, nl_97, nl_98, nl_99, nl_100, nl_101, nl_102, nl_105, nl_108, nl_110, nl_111, nl_112, nl_113, nl_114, nl_115, nl_116, nl_117, nl_118, nl_119, nl_124, nl_126, nl_138, nl_140, nl_255, nl_720, nl_1024, nl_9999, nl_99999, nl_999999, nl_1000000, eq_self, Bool.false_eq_true, Bool.true_and, Bool.and_true, Bool.false_and, Bool.and_false, Bool.not_true, Bool.not_false, nI_toInt, or_true, true_or, or_false, false_or, nI_clamp, nI_leI, nI_ltI, nI_eq, e_nm, e_mn, e_mm, l_nm, l_mn, l_mm, le_nm, le_mn, le_mm, nI_add, nI_mull, nI_sub, nI_subn, nI_divl, nsm, qIn_nI, Nat.zero_le, Nat.not_lt_zero, Nat.reduceAdd, Nat.reduceMul, Nat.reduceSub, Nat.reduceDiv, Nat.reduceMod, Nat.reduceEqDiff, Nat.reduceLeDiff, Nat.reduceLT, Nat.add_zero, Nat.zero_add, not_false_eq_true, not_true_eq_false, true_and, and_true, Option.toList_some, Option.toList_none, List.cons_append, List.nil_append, qrf, if_true, if_false, if_pos, if_neg, reduceIte, ne_eq, Classical.not_not]
      exact hQ μ mFr_rf
    | true =>
      cases h3 : isR z 2 with
      | false =>
        simp [h1, h2, h3] at hQ
        simp (disch := omega) only [x186_0, x186_1, x186_2, x186_5, x186_8, x186_9, x186_10, x186_12, x186_15, x186_18, x186_19, x186_20, x186_21, x186_24, x186_27, x186_28, c_mcell hB hm hwf, c_inR, h1, h2, h3, hk, ↓nm_1, ↓nm_2, ↓nm_3, ↓nm_4, ↓nm_11, ↓nm_12, ↓nm_13, ↓nm_14, ↓nm_100, nl_0, nl_1, nl_2, nl_3, nl_4, nl_5, nl_6, nl_7, nl_8, nl_9, nl_10, nl_11, nl_12, nl_13, nl_14, nl_15, nl_16, nl_17, nl_18, nl_19, nl_20, nl_22, nl_23, nl_24, nl_25, nl_30, nl_31, nl_34, nl_35, nl_40, nl_43, nl_46, nl_47, nl_48, nl_49, nl_50, nl_57, nl_58, nl_59, nl_63, nl_64, nl_94, nl_97, nl_98, nl_99, nl_100, nl_101, nl_102, nl_105, nl_108, nl_110, nl_111, nl_112, nl_113, nl_114, nl_115, nl_116, nl_117, nl_118, nl_119, nl_124, nl_126, nl_138, nl_140, nl_255, nl_720, nl_1024, nl_9999, nl_99999, nl_999999, nl_1000000, eq_self, Bool.false_eq_true, Bool.true_and, Bool.and_true, Bool.false_and, Bool.and_false, Bool.not_true, Bool.not_false, nI_toInt, or_true, true_or, or_false, false_or, nI_clamp, nI_leI, nI_ltI, nI_eq, e_nm, e_mn, e_mm, l_nm, l_mn, l_mm, le_nm, le_mn, le_mm, nI_add, nI_mull, nI_sub, nI_subn, nI_divl, nsm, qIn_nI, Nat.zero_le, Nat.not_lt_zero, Nat.reduceAdd, Nat.reduceMul, Nat.reduceSub, Nat.reduceDiv, Nat.reduceMod, Nat.reduceEqDiff, Nat.reduceLeDiff, Nat.reduceLT, Nat.add_zero, Nat.zero_add, not_false_eq_true, not_true_eq_false, true_and, and_true, Option.toList_some, Option.toList_none, List.cons_append, List.nil_append, qrf, if_true, if_false, if_pos, if_neg, reduceIte, ne_eq, Classical.not_not]
        exact hQ μ mFr_rf
      | true =>
        obtain ⟨c, hc, hin, rfl⟩ := isC_ex h1
        obtain ⟨t, ht, rfl⟩ := isR_ex h2 (by omega)
        obtain ⟨k, hk2, rfl⟩ := isR_ex h3 (by omega)
        simp only [h1, h2, h3, if_true, nn_nI (show c < 2 ^ 31 by omega), nn_nI (show t < 2 ^ 31 by omega), nn_nI (show k < 2 ^ 31 by omega)] at hQ
        obtain ⟨t10, t0, t2⟩ := pow10 (T 115) (by omega)
        have hup : odV (fun p => p) t c T (T 115) ≤ 10 ^ T 115 := by
          rw [od_ab (T 115) h6 (fun i j _ _ h => h)]
          exact ab_le (by omega) _ _
        have h115 := hm 115 (by omega)
        simp (disch := omega) only [x186_0, x186_1, x186_2, x186_5, x186_8, x186_9, x186_10, x186_12, x186_15, x186_18, x186_19, x186_20, x186_21, x186_24, x186_29, x186_30, x186_32, x186_33, x186_35, x186_36, c_mcell hB hm hwf, c_inR, h1, h2, h3, hk, ↓nm_1, ↓nm_2, ↓nm_3, ↓nm_4, ↓nm_11, ↓nm_12, ↓nm_13, ↓nm_14, ↓nm_100, nl_0, nl_1, nl_2, nl_3, nl_4, nl_5, nl_6, nl_7, nl_8, nl_9, nl_10, nl_11, nl_12, nl_13, nl_14, nl_15, nl_16, nl_17, nl_18, nl_19, nl_20, nl_22, nl_23, nl_24, nl_25, nl_30, nl_31, nl_34, nl_35, nl_40, nl_43, nl_46, nl_47, nl_48, nl_49, nl_50, nl_57, nl_58, nl_59, nl_63, nl_64, nl_94, nl_97, nl_98, nl_99, nl_100, nl_101, nl_102, nl_105, nl_108, nl_110, nl_111, nl_112, nl_113, nl_114, nl_115, nl_116, nl_117, nl_118, nl_119, nl_124, nl_126, nl_138, nl_140, nl_255, nl_720, nl_1024, nl_9999, nl_99999, nl_999999, nl_1000000, eq_self, Bool.false_eq_true, Bool.true_and, Bool.and_true, Bool.false_and, Bool.and_false, Bool.not_true, Bool.not_false, nI_toInt, or_true, true_or, or_false, false_or, nI_clamp, nI_leI, nI_ltI, nI_eq, e_nm, e_mn, e_mm, l_nm, l_mn, l_mm, le_nm, le_mn, le_mm, nI_add, nI_mull, nI_sub, nI_subn, nI_divl, nsm, qIn_nI, Nat.zero_le, Nat.not_lt_zero, Nat.reduceAdd, Nat.reduceMul, Nat.reduceSub, Nat.reduceDiv, Nat.reduceMod, Nat.reduceEqDiff, Nat.reduceLeDiff, Nat.reduceLT, Nat.add_zero, Nat.zero_add, not_false_eq_true, not_true_eq_false, true_and, and_true, Option.toList_some, Option.toList_none, List.cons_append, List.nil_append, qrf, if_true, if_false, if_pos, if_neg, reduceIte, ne_eq, Classical.not_not]
        refine c_modds_pow (m := T 115) hB h6 h115 (T 115) 0 (by omega) ?_
        simp (disch := omega) only [x186_63, x186_64, ↓nm_1, ↓nm_2, ↓nm_3, ↓nm_4, ↓nm_11, ↓nm_12, ↓nm_13, ↓nm_14, ↓nm_100, nl_0, nl_1, nl_2, nl_3, nl_4, nl_5, nl_6, nl_7, nl_8, nl_9, nl_10, nl_11, nl_12, nl_13, nl_14, nl_15, nl_16, nl_17, nl_18, nl_19, nl_20, nl_22, nl_23, nl_24, nl_25, nl_30, nl_31, nl_34, nl_35, nl_40, nl_43, nl_46, nl_47, nl_48, nl_49, nl_50, nl_57, nl_58, nl_59, nl_63, nl_64, nl_94, nl_97, nl_98, nl_99, nl_100, nl_101, nl_102, nl_105, nl_108, nl_110, nl_111, nl_112, nl_113, nl_114, nl_115, nl_116, nl_117, nl_118, nl_119, nl_124, nl_126, nl_138, nl_140, nl_255, nl_720, nl_1024, nl_9999, nl_99999, nl_999999, nl_1000000, eq_self, Bool.false_eq_true, Bool.true_and, Bool.and_true, Bool.false_and, Bool.and_false, Bool.not_true, Bool.not_false, nI_toInt, or_true, true_or, or_false, false_or, nI_clamp, nI_leI, nI_ltI, nI_eq, e_nm, e_mn, e_mm, l_nm, l_mn, l_mm, le_nm, le_mn, le_mm, nI_add, nI_mull, nI_sub, nI_subn, nI_divl, nsm, qIn_nI, Nat.zero_le, Nat.not_lt_zero, Nat.reduceAdd, Nat.reduceMul, Nat.reduceSub, Nat.reduceDiv, Nat.reduceMod, Nat.reduceEqDiff, Nat.reduceLeDiff, Nat.reduceLT, Nat.add_zero, Nat.zero_add, not_false_eq_true, not_true_eq_false, true_and, and_true, Option.toList_some, Option.toList_none, List.cons_append, List.nil_append, qrf, if_true, if_false, if_pos, if_neg, reduceIte, ne_eq, Classical.not_not]
        refine c_modds_out (T := T) (N := N) (m := T 115) hB hwf rfl hc (by omega) (2 ^ T 115) 0 μ _ _ (by omega) hm fun μ1 l7 l8 hf1 => ?_
        have hup' : smF (fun s => hitV c (pdG (fun p => p) t s T (T 115))) (2 ^ T 115) = odV (fun p => p) t c T (T 115) := rfl
        rw [hup']
        generalize odV (fun p => p) t c T (T 115) = u at hQ hup ⊢
        generalize 10 ^ T 115 = w at hQ hup t10 t0 ⊢
        have hQ := hQ μ1 hf1
        have hgp : 0 < Nat.gcd u w := Nat.gcd_pos_of_pos_right u t0
        have hgl : Nat.gcd u w ≤ w := Nat.le_of_dvd t0 (Nat.gcd_dvd_right u w)
        simp (disch := omega) only [x186_200, x186_202, x186_204, x186_206, ↓nm_1, ↓nm_2, ↓nm_3, ↓nm_4, ↓nm_11, ↓nm_12, ↓nm_13, ↓nm_14, ↓nm_100, nl_0, nl_1, nl_2, nl_3, nl_4, nl_5, nl_6, nl_7, nl_8, nl_9, nl_10, nl_11, nl_12, nl_13, nl_14, nl_15, nl_16, nl_17, nl_18, nl_19, nl_20, nl_22, nl_23, nl_24, nl_25, nl_30, nl_31, nl_34, nl_35, nl_40, nl_43, nl_46, nl_47, nl_48, nl_49, nl_50, nl_57, nl_58, nl_59, nl_63, nl_64, nl_94, nl_97, nl_98, nl_99, nl_100, nl_101, nl_102, nl_105, nl_108, nl_110, nl_111, nl_112, nl_113, nl_114, nl_115, nl_116, nl_117, nl_118, nl_119, nl_124, nl_126, nl_138, nl_140, nl_255, nl_720, nl_1024, nl_9999, nl_99999, nl_999999, nl_1000000, eq_self, Bool.false_eq_true, Bool.true_and, Bool.and_true, Bool.false_and, Bool.and_false, Bool.not_true, Bool.not_false, nI_toInt, or_true, true_or, or_false, false_or, nI_clamp, nI_leI, nI_ltI, nI_eq, e_nm, e_mn, e_mm, l_nm, l_mn, l_mm, le_nm, le_mn, le_mm, nI_add, nI_mull, nI_sub, nI_subn, nI_divl, nsm, qIn_nI, Nat.zero_le, Nat.not_lt_zero, Nat.reduceAdd, Nat.reduceMul, Nat.reduceSub, Nat.reduceDiv, Nat.reduceMod, Nat.reduceEqDiff, Nat.reduceLeDiff, Nat.reduceLT, Nat.add_zero, Nat.zero_add, not_false_eq_true, not_true_eq_false, true_and, and_true, Option.toList_some, Option.toList_none, List.cons_append, List.nil_append, qrf, if_true, if_false, if_pos, if_neg, reduceIte, ne_eq, Classical.not_not]
        refine c_modds_gcd (g := Nat.gcd u w) (fun l8 => ?_) w u l8 t10 (by omega) rfl
        generalize Nat.gcd u w = g at hQ hgp hgl ⊢
        have hg0 : ¬ g = 0 := by omega
        by_cases hk0 : k = 0
        · subst hk0
          rw [if_pos rfl] at hQ
          simp (disch := omega) only [x186_231, x186_232, x186_235, x186_237, x186_240, x186_242, x186_244, x186_245, hg0, ↓nm_1, ↓nm_2, ↓nm_3, ↓nm_4, ↓nm_11, ↓nm_12, ↓nm_13, ↓nm_14, ↓nm_100, nl_0, nl_1, nl_2, nl_3, nl_4, nl_5, nl_6, nl_7, nl_8, nl_9, nl_10, nl_11, nl_12, nl_13, nl_14, nl_15, nl_16, nl_17, nl_18, nl_19, nl_20, nl_22, nl_23, nl_24, nl_25, nl_30, nl_31, nl_34, nl_35, nl_40, nl_43, nl_46, nl_47, nl_48, nl_49, nl_50, nl_57, nl_58, nl_59, nl_63, nl_64, nl_94, nl_97, nl_98, nl_99, nl_100, nl_101, nl_102, nl_105, nl_108, nl_110, nl_111, nl_112, nl_113, nl_114, nl_115, nl_116, nl_117, nl_118, nl_119, nl_124, nl_126, nl_138, nl_140, nl_255, nl_720, nl_1024, nl_9999, nl_99999, nl_999999, nl_1000000, eq_self, Bool.false_eq_true, Bool.true_and, Bool.and_true, Bool.false_and, Bool.and_false, Bool.not_true, Bool.not_false, nI_toInt, or_true, true_or, or_false, false_or, nI_clamp, nI_leI, nI_ltI, nI_eq, e_nm, e_mn, e_mm, l_nm, l_mn, l_mm, le_nm, le_mn, le_mm, nI_add, nI_mull, nI_sub, nI_subn, nI_divl, nsm, qIn_nI, Nat.zero_le, Nat.not_lt_zero, Nat.reduceAdd, Nat.reduceMul, Nat.reduceSub, Nat.reduceDiv, Nat.reduceMod, Nat.reduceEqDiff, Nat.reduceLeDiff, Nat.reduceLT, Nat.add_zero, Nat.zero_add, not_false_eq_true, not_true_eq_false, true_and, and_true, Option.toList_some, Option.toList_none, List.cons_append, List.nil_append, qrf, if_true, if_false, if_pos, if_neg, reduceIte, ne_eq, Classical.not_not]
          exact hQ
        · rw [if_neg hk0] at hQ
          simp (disch := omega) only [x186_231, x186_232, x186_235, x186_237, x186_240, x186_242, x186_244, x186_245, hg0, ↓nm_1, ↓nm_2, ↓nm_3, ↓nm_4, ↓nm_11, ↓nm_12, ↓nm_13, ↓nm_14, ↓nm_100, nl_0, nl_1, nl_2, nl_3, nl_4, nl_5, nl_6, nl_7, nl_8, nl_9, nl_10, nl_11, nl_12, nl_13, nl_14, nl_15, nl_16, nl_17, nl_18, nl_19, nl_20, nl_22, nl_23, nl_24, nl_25, nl_30, nl_31, nl_34, nl_35, nl_40, nl_43, nl_46, nl_47, nl_48, nl_49, nl_50, nl_57, nl_58, nl_59, nl_63, nl_64, nl_94, nl_97, nl_98, nl_99, nl_100, nl_101, nl_102, nl_105, nl_108, nl_110, nl_111, nl_112, nl_113, nl_114, nl_115, nl_116, nl_117, nl_118, nl_119, nl_124, nl_126, nl_138, nl_140, nl_255, nl_720, nl_1024, nl_9999, nl_99999, nl_999999, nl_1000000, eq_self, Bool.false_eq_true, Bool.true_and, Bool.and_true, Bool.false_and, Bool.and_false, Bool.not_true, Bool.not_false, nI_toInt, or_true, true_or, or_false, false_or, nI_clamp, nI_leI, nI_ltI, nI_eq, e_nm, e_mn, e_mm, l_nm, l_mn, l_mm, le_nm, le_mn, le_mm, nI_add, nI_mull, nI_sub, nI_subn, nI_divl, nsm, qIn_nI, Nat.zero_le, Nat.not_lt_zero, Nat.reduceAdd, Nat.reduceMul, Nat.reduceSub, Nat.reduceDiv, Nat.reduceMod, Nat.reduceEqDiff, Nat.reduceLeDiff, Nat.reduceLT, Nat.add_zero, Nat.zero_add, not_false_eq_true, not_true_eq_false, true_and, and_true, Option.toList_some, Option.toList_none, List.cons_append, List.nil_append, qrf, if_true, if_false, if_pos, if_neg, reduceIte, ne_eq, Classical.not_not]
          exact hQ
end
