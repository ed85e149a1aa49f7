/-! the instructions that read and write the heap -/
def qAt (E : qEnv) (rm : qMu) (p : Program) (R : Room) (s : State) (m : MethodId) (args : Array Value) (meth : Method) (c : Code) (mi d n0 : Nat) (σ : qSg) (μ : qMu) (la : qLa) (H : Heap) (locs : List Loc) (arr : Array Slot) (ls : List Value) : Prop :=
  qCx E rm p R s m args meth c mi d ∧ qHd E rm s n0 σ μ la H locs ∧ qLR E arr ls ∧ ls.length = qMx mi
section
variable {E : qEnv} {rm : qMu} {p : Program} {l : Launch} {e : Env} {R : Room} {s : State} {m : MethodId} {args : Array Value} {below : List Frame} {meth : Method} {c : Code} {mi d n0 : Nat} {Q : State → Prop} {H : Heap} {locs : List Loc} {arr : Array Slot} {pc : Nat} {st ls : List Value} {σ : qSg} {μ : qMu} {la : qLa} {q : qSt} {g : JFrame} {idx slots : Nat}
theorem qWsize (hh : qHd E rm s n0 σ μ la H locs) (k : H.size = E.1 + σ.1 → W p l e R s m args below meth c H locs (σ.1 - n0) slots Q g) : W p l e R s m args below meth c H locs (σ.1 - n0) slots Q g := by
  intro T hT X
  refine k ?_ T hT X
  obtain ⟨hP, hs, hS, hn, -, -⟩ := hh
  have h1 : T.heap.size ≤ s.heap.size + (σ.1 - n0) := X.heapSize
  rw [hT] at h1
  have h2 := hS.1
  by_cases h0 : σ.1 = 0
  · omega
  · have h3 := (hP _ _ (qWr_get (show σ.1 - 1 < σ.1 by omega))).lt
    simp only at h3
    omega
theorem qs_getf (T : qTabs) (B : qAt E rm p R s m args meth c mi d n0 σ μ la H locs arr ls) (hd : decode (qMeth mi).2.1 pc = .ok (.getfield idx, 3)) (hs : qGetf pc st ls σ μ la (qOwn mi) idx = some (.inl q)) (kk : qKk E rm p l e R s m args below meth c n0 ls.length Q q) : W p l e R s m args below meth c H locs (σ.1 - n0) (qSl σ.1 - qSl n0) Q (F0 m pc arr (st.map (qRv E))) := by
  obtain ⟨⟨hx, hb, hml, hown, hts, hX, hnm, hfr, hlo⟩, hh, hL, hln⟩ := id B
  obtain ⟨hP, hz, hS, hn0, hn1, hro⟩ := id hh
  unfold qGetf at hs
  obtain ⟨a, r, rfl, hs⟩ := qpR_inv hs
  split at hs
  · rename_i ci k fk hpl
    obtain ⟨hw, hm⟩ := T.1 _ _ _ hpl
    obtain ⟨hok, hs⟩ := qif_inv hs
    obtain ⟨ha, hsh⟩ := qOk_inv hok
    simp only [qMore, Bool.and_eq_true, decide_eq_true_eq] at hm
    obtain ⟨⟨⟨hc8, hkN⟩, hT1⟩, hm⟩ := hm
    obtain ⟨hcl, hR, hU, -, -⟩ := qClsOk ci hc8
    have hlink := hts _ (hw _ List.mem_cons_self)
    have hlen : (qSh a).2 = (qCls ci).2.2 := by have := qSh_obj (a := a) (by omega); rw [hsh] at this; exact this
    show W p l e R s m args below meth c H locs (σ.1 - n0) (qSl σ.1 - qSl n0) Q (F0 m pc arr (.ref (qAd E a) :: r.map (qRv E)))
    rw [qAd_lo (by omega)]
    refine va_get (C := (qCls ci).1) (T := (qCls ci).2.1) (N := (qCls ci).2.2) (ref := qRn ci) hx hb hts hU hown hX.1 hP a ((qWr_get ha).trans (by rw [qEntO hsh hc8])) hcl k hkN hlink (fun x hx => by rw [hT1] at hx; exact hx) (qFs_get (by omega)) hd ?_
    by_cases hf : fk = 2
    · rw [if_pos hf] at hs hm
      have hq := qN_inv hs
      simp only [Bool.and_eq_true, Bool.not_eq_true'] at hm
      rw [hm.1.1]
      subst hq
      have := kk H locs arr hh hL rfl
      simp only [List.map_cons, qRv_qrf] at this
      exact this
    · rw [if_neg hf] at hs hm
      have hq := qN_inv hs
      have hk : qFk ci k = true := by
        by_cases hf0 : fk = 0
        · simp [hf0] at hm; simp [qFk, hm.2]
        · simp [hf0] at hm; simp [qFk, hm.2]
      rw [if_pos hk]
      subst hq
      exact kk H locs arr hh hL rfl
  · rename_i w x y hpl
    obtain ⟨hw, hm⟩ := T.1 _ _ _ hpl
    obtain ⟨h30, hs⟩ := qif_inv hs
    have ha : ∃ i, i < 5 ∧ a = 1010 + i := by
      by_cases hlt : a < 1000
      · have := qSh_lo hlt
        exfalso
        rw [this, List.getD_eq_getElem?_getD] at h30
        cases hq : qShL[a]? with
        | none => rw [hq] at h30; simp at h30
        | some z =>
          rw [hq] at h30
          exact absurd h30 (qShL_30 z (List.mem_of_getElem? hq))
      · exact qSh_30 (Nat.le_of_not_lt hlt) h30
    obtain ⟨i, hi, rfl⟩ := ha
    obtain ⟨-, a2, a3, -, -⟩ := hX.2.2.2.2.1 i hi
    show W p l e R s m args below meth c H locs (σ.1 - n0) (qSl σ.1 - qSl n0) Q (F0 m pc arr (.ref (qAd E (1010 + i)) :: r.map (qRv E)))
    rw [qAd_hi (by omega)]
    by_cases hw0 : w = 0
    · subst hw0
      rw [if_pos rfl] at hs
      have hq := qN_inv hs
      have hlink := hts _ (hw _ List.mem_cons_self)
      refine vk_getf hx hb a3 hS hown hlink (fun x hx => hx) hd ?_
      subst hq
      have := kk H locs arr hh hL rfl
      simp only [List.map_cons, qRv] at this
      rw [show qAd E (1010 + i + 10) = E.2.1 (1020 + i) from (qAd_hi (by omega)).trans (congrArg E.2.1 (Nat.add_right_comm 1010 i 10))] at this
      exact this
    · rw [if_neg hw0] at hs
      have hq := qN_inv hs
      have hlink : (Cond.fieldLink (qRn (qOwn mi)) idx RJ0 "coder" "B").before args s = true := by
        refine hts _ (hw _ ?_)
        cases w with
        | zero => exact absurd rfl hw0
        | succ w => exact List.mem_cons_self
      refine vk_getf hx hb a2 hS hown hlink (fun x hx => hx) hd ?_
      subst hq
      exact kk H locs arr hh hL rfl
  · cases hs
theorem qs_gets (T : qTabs) (B : qAt E rm p R s m args meth c mi d n0 σ μ la H locs arr ls) (hd : decode (qMeth mi).2.1 pc = .ok (.getstatic idx, 3)) (hs : qGets pc st ls σ μ la (qOwn mi) idx = some (.inl q)) (kk : qKk E rm p l e R s m args below meth c n0 ls.length Q q) : W p l e R s m args below meth c H locs (σ.1 - n0) (qSl σ.1 - qSl n0) Q (F0 m pc arr (st.map (qRv E))) := by
  obtain ⟨⟨hx, hb, hml, hown, hts, hX, hnm, hfr, hlo⟩, hh, hL, hln⟩ := id B
  obtain ⟨hP, hz, hS, hn0, hn1, hro⟩ := id hh
  unfold qGets at hs
  split at hs
  · rename_i v nst w hpl
    obtain ⟨hw, hm⟩ := T.1 _ _ _ hpl
    have hq := qN_inv hs
    simp only [qMore, Bool.and_eq_true, decide_eq_true_eq] at hm
    have hZ := hX.2.1 v hm.1
    by_cases hn : nst = 0
    · subst hn
      refine va_gets hx hb hZ hS hown (hts _ (hw _ List.mem_cons_self)) (fun x hx => hx) hd ?_
      subst hq
      exact kk H locs arr hh hL rfl
    · have hm2 := hm.2
      rw [if_neg hn] at hm2
      simp only [Bool.and_eq_true, decide_eq_true_eq] at hm2
      have hN := hX.2.2.2.2.2.2.1 _ hm2.1
      refine va_getsN (ref := RX6) (host := RX6) hx hb hZ hS hown (va_Nw.use rfl hN) (fun x hx => by rw [hm2.2] at hx; exact hx) hd ?_
      subst hq
      exact kk H locs arr hh hL rfl
  · cases hs
theorem qs_iald (B : qAt E rm p R s m args meth c mi d n0 σ μ la H locs arr ls) (hd : decode (qMeth mi).2.1 pc = .ok (.iaload, 1)) (hs : (qpI st fun i r => qpR r fun a r => if qIn i (qIld σ μ a) then qN (pc + 1) (.int (μ a i.toNatClampNeg) :: r) ls σ μ la else none) = some (.inl q)) (kk : qKk E rm p l e R s m args below meth c n0 ls.length Q q) : W p l e R s m args below meth c H locs (σ.1 - n0) (qSl σ.1 - qSl n0) Q (F0 m pc arr (st.map (qRv E))) := by
  obtain ⟨⟨hx, hb, hml, hown, hts, hX, hnm, hfr, hlo⟩, hh, hL, hln⟩ := id B
  obtain ⟨hP, hz, hS, hn0, hn1, hro⟩ := id hh
  obtain ⟨i, r, rfl, hs1⟩ := qpI_inv hs
  obtain ⟨a, r, rfl, hs2⟩ := qpR_inv hs1
  obtain ⟨hin, hs3⟩ := qif_inv hs2
  have hq := qN_inv hs3
  obtain ⟨hi1, hi2⟩ := qIn_inv hin
  have k2 : W p l e R s m args below meth c H locs (σ.1 - n0) (qSl σ.1 - qSl n0) Q (F0 m (pc + 1) arr (.int (μ a i.toNatClampNeg) :: r.map (qRv E))) := by
    subst hq
    exact kk H locs arr hh hL rfl
  show W p l e R s m args below meth c H locs (σ.1 - n0) (qSl σ.1 - qSl n0) Q (F0 m pc arr (.int i :: .ref (qAd E a) :: r.map (qRv E)))
  unfold qIld at hi1 hi2
  split at hi1
  · rename_i h10
    by_cases ha : a < σ.1
    · rw [if_pos ha] at hi1
      rw [qAd_lo (a := a) (Nat.lt_of_lt_of_le ha hn1)]
      exact va_iald hx hb hX.1 hP a 0 ((qWr_get ha).trans (by rw [qEnt10 h10])) rfl hi1 hd k2
    · rw [if_neg ha] at hi1
      exact absurd (Or.inr (Nat.zero_le _)) hi1
  · rename_i h20
    obtain ⟨j, hj, rfl⟩ := qSh_20 h20
    rw [qAd_hi (by omega)]
    exact va_ti hx hb (hX.2.2.1 j hj) hS hi1 (by rw [hro _ (by omega)]) hd k2
  · rename_i h22
    have ha : a = 1003 := qSh_22 h22
    subst ha
    rw [qAd_hi (by omega)]
    rw [hro 1003 (by omega)] at hi1 k2
    exact va_ti hx hb hX.2.2.2.1.1 hS hi1 rfl hd k2
  · exact absurd (Or.inr (Nat.zero_le _)) hi1
theorem qs_bald (B : qAt E rm p R s m args meth c mi d n0 σ μ la H locs arr ls) (hd : decode (qMeth mi).2.1 pc = .ok (.baload, 1)) (hs : (qpI st fun i r => qpR r fun a r => if qIn i (qBld σ a) then qN (pc + 1) (.int (μ a i.toNatClampNeg) :: r) ls σ μ la else none) = some (.inl q)) (kk : qKk E rm p l e R s m args below meth c n0 ls.length Q q) : W p l e R s m args below meth c H locs (σ.1 - n0) (qSl σ.1 - qSl n0) Q (F0 m pc arr (st.map (qRv E))) := by
  obtain ⟨⟨hx, hb, hml, hown, hts, hX, hnm, hfr, hlo⟩, hh, hL, hln⟩ := id B
  obtain ⟨hP, hz, hS, hn0, hn1, hro⟩ := id hh
  obtain ⟨i, r, rfl, hs1⟩ := qpI_inv hs
  obtain ⟨a, r, rfl, hs2⟩ := qpR_inv hs1
  obtain ⟨hin, hs3⟩ := qif_inv hs2
  have hq := qN_inv hs3
  obtain ⟨hi1, hi2⟩ := qIn_inv hin
  have k2 : W p l e R s m args below meth c H locs (σ.1 - n0) (qSl σ.1 - qSl n0) Q (F0 m (pc + 1) arr (.int (μ a i.toNatClampNeg) :: r.map (qRv E))) := by
    subst hq
    exact kk H locs arr hh hL rfl
  show W p l e R s m args below meth c H locs (σ.1 - n0) (qSl σ.1 - qSl n0) Q (F0 m pc arr (.int i :: .ref (qAd E a) :: r.map (qRv E)))
  unfold qBld at hi1 hi2
  split at hi1
  · rename_i h12
    by_cases ha : a < σ.1
    · rw [if_pos ha] at hi1
      rw [qAd_lo (a := a) (Nat.lt_of_lt_of_le ha hn1)]
      exact va_zald hx hb hX.1 hP a 2 ((qWr_get ha).trans (by rw [qEnt12 h12])) rfl hi1 hd k2
    · rw [if_neg ha] at hi1
      exact absurd (Or.inr (Nat.zero_le _)) hi1
  · rename_i h21
    obtain ⟨j, hj, rfl⟩ := qSh_21 h21
    rw [qAd_hi (by omega)]
    exact va_tb hx hb (hX.2.2.2.2.1 j hj).2.2.2.1 hS hi1 (by rw [hro _ (by omega)]) hd k2
  · exact absurd (Or.inr (Nat.zero_le _)) hi1
theorem qs_lald (B : qAt E rm p R s m args meth c mi d n0 σ μ la H locs arr ls) (hd : decode (qMeth mi).2.1 pc = .ok (.laload, 1)) (hs : (qpI st fun i r => qpR r fun a r => if qIn i (qLen σ 11 a) then qN (pc + 1) (.long (la a i.toNatClampNeg) :: r) ls σ μ la else none) = some (.inl q)) (kk : qKk E rm p l e R s m args below meth c n0 ls.length Q q) : W p l e R s m args below meth c H locs (σ.1 - n0) (qSl σ.1 - qSl n0) Q (F0 m pc arr (st.map (qRv E))) := by
  obtain ⟨⟨hx, hb, hml, hown, hts, hX, hnm, hfr, hlo⟩, hh, hL, hln⟩ := id B
  obtain ⟨hP, hz, hS, hn0, hn1, hro⟩ := id hh
  obtain ⟨i, r, rfl, hs1⟩ := qpI_inv hs
  obtain ⟨a, r, rfl, hs2⟩ := qpR_inv hs1
  obtain ⟨hin, hs3⟩ := qif_inv hs2
  have hq := qN_inv hs3
  obtain ⟨hi1, -, ha, h11⟩ := qLen_inv hin
  show W p l e R s m args below meth c H locs (σ.1 - n0) (qSl σ.1 - qSl n0) Q (F0 m pc arr (.int i :: .ref (qAd E a) :: r.map (qRv E)))
  rw [qAd_lo (a := a) (Nat.lt_of_lt_of_le ha hn1)]
  refine va_lald hx hb hX.1 hP a 1 ((qWr_get ha).trans (by rw [qEnt11 h11])) rfl hi1 hd ?_
  subst hq
  exact kk H locs arr hh hL rfl
theorem qs_aald (B : qAt E rm p R s m args meth c mi d n0 σ μ la H locs arr ls) (hd : decode (qMeth mi).2.1 pc = .ok (.aaload, 1)) (hs : (qpI st fun i r => qpR r fun a r => if qIn i (qAld σ a) then qN (pc + 1) (qrf (σ.2 a i.toNatClampNeg) :: r) ls σ μ la else none) = some (.inl q)) (kk : qKk E rm p l e R s m args below meth c n0 ls.length Q q) : W p l e R s m args below meth c H locs (σ.1 - n0) (qSl σ.1 - qSl n0) Q (F0 m pc arr (st.map (qRv E))) := by
  obtain ⟨⟨hx, hb, hml, hown, hts, hX, hnm, hfr, hlo⟩, hh, hL, hln⟩ := id B
  obtain ⟨hP, hz, hS, hn0, hn1, hro⟩ := id hh
  obtain ⟨i, r, rfl, hs1⟩ := qpI_inv hs
  obtain ⟨a, r, rfl, hs2⟩ := qpR_inv hs1
  obtain ⟨hin, hs3⟩ := qif_inv hs2
  have hq := qN_inv hs3
  obtain ⟨hi1, hi2⟩ := qIn_inv hin
  have k2 : W p l e R s m args below meth c H locs (σ.1 - n0) (qSl σ.1 - qSl n0) Q (F0 m (pc + 1) arr (va_rf ((σ.2 a i.toNatClampNeg).map (qAd E)) :: r.map (qRv E))) := by
    subst hq
    have := kk H locs arr hh hL rfl
    simp only [List.map_cons, qRv_qrf] at this
    exact this
  show W p l e R s m args below meth c H locs (σ.1 - n0) (qSl σ.1 - qSl n0) Q (F0 m pc arr (.int i :: .ref (qAd E a) :: r.map (qRv E)))
  unfold qAld at hi1 hi2
  split at hi1
  · rename_i h13
    by_cases ha : a < σ.1
    · rw [if_pos ha] at hi1
      rw [qAd_lo (a := a) (Nat.lt_of_lt_of_le ha hn1)]
      exact va_aldq hx hb hX.1 hP a 3 ((qWr_get ha).trans (by rw [qEnt13 h13])) rfl hi1 hd k2
    · rw [if_neg ha] at hi1
      exact absurd (Or.inr (Nat.zero_le _)) hi1
  · rename_i h14
    by_cases ha : a < σ.1
    · rw [if_pos ha] at hi1
      rw [qAd_lo (a := a) (Nat.lt_of_lt_of_le ha hn1)]
      exact va_aldq hx hb hX.1 hP a 4 ((qWr_get ha).trans (by rw [qEnt14 h14])) rfl hi1 hd k2
    · rw [if_neg ha] at hi1
      exact absurd (Or.inr (Nat.zero_le _)) hi1
  · exact absurd (Or.inr (Nat.zero_le _)) hi1
theorem qs_iast (B : qAt E rm p R s m args meth c mi d n0 σ μ la H locs arr ls) (hd : decode (qMeth mi).2.1 pc = .ok (.iastore, 1)) (hs : (qpI st fun x r => qpI r fun i r => qpR r fun a r => if qIn i (qLen σ 10 a) then qN (pc + 1) r ls σ (qset μ a i.toNatClampNeg x) la else none) = some (.inl q)) (kk : qKk E rm p l e R s m args below meth c n0 ls.length Q q) : W p l e R s m args below meth c H locs (σ.1 - n0) (qSl σ.1 - qSl n0) Q (F0 m pc arr (st.map (qRv E))) := by
  obtain ⟨⟨hx, hb, hml, hown, hts, hX, hnm, hfr, hlo⟩, hh, hL, hln⟩ := id B
  obtain ⟨hP, hz, hS, hn0, hn1, hro⟩ := id hh
  obtain ⟨x, r, rfl, hs1⟩ := qpI_inv hs
  obtain ⟨i, r, rfl, hs2⟩ := qpI_inv hs1
  obtain ⟨a, r, rfl, hs3⟩ := qpR_inv hs2
  obtain ⟨hin, hs4⟩ := qif_inv hs3
  have hq := qN_inv hs4
  obtain ⟨hi1, -, ha, h10⟩ := qLen_inv hin
  show W p l e R s m args below meth c H locs (σ.1 - n0) (qSl σ.1 - qSl n0) Q (F0 m pc arr (.int x :: .int i :: .ref (qAd E a) :: r.map (qRv E)))
  rw [qAd_lo (a := a) (Nat.lt_of_lt_of_le ha hn1)]
  refine va_iast hx hb hX.1 hP qWr_D hS a 0 ((qWr_get ha).trans (by rw [qEnt10 h10])) rfl hi1 hd fun H1 locs1 hP1 _ hS1 => ?_
  rw [qWr_set (σ' := σ) (μ' := qset μ a i.toNatClampNeg x) (la' := la) ha rfl (by rw [qEnt10 h10, qset_eq]) (fun b hb => qEnt_mu (qset_ne hb))] at hP1
  subst hq
  exact kk H1 locs1 arr ⟨hP1, hz, hS1, hn0, hn1, fun b hb => Eq.trans (qset_ne (f := μ) (a := a) (by omega)) (hro b hb)⟩ hL rfl
theorem qs_bast (B : qAt E rm p R s m args meth c mi d n0 σ μ la H locs arr ls) (hd : decode (qMeth mi).2.1 pc = .ok (.bastore, 1)) (hs : (qpI st fun x r => qpI r fun i r => qpR r fun a r => if qIn i (qLen σ 12 a) ∧ (x = 0 ∨ x = 1) then qN (pc + 1) r ls σ (qset μ a i.toNatClampNeg x) la else none) = some (.inl q)) (kk : qKk E rm p l e R s m args below meth c n0 ls.length Q q) : W p l e R s m args below meth c H locs (σ.1 - n0) (qSl σ.1 - qSl n0) Q (F0 m pc arr (st.map (qRv E))) := by
  obtain ⟨⟨hx, hb, hml, hown, hts, hX, hnm, hfr, hlo⟩, hh, hL, hln⟩ := id B
  obtain ⟨hP, hz, hS, hn0, hn1, hro⟩ := id hh
  obtain ⟨x, r, rfl, hs1⟩ := qpI_inv hs
  obtain ⟨i, r, rfl, hs2⟩ := qpI_inv hs1
  obtain ⟨a, r, rfl, hs3⟩ := qpR_inv hs2
  obtain ⟨⟨hin, hx01⟩, hs4⟩ := qif_inv hs3
  have hq := qN_inv hs4
  obtain ⟨hi1, -, ha, h12⟩ := qLen_inv hin
  show W p l e R s m args below meth c H locs (σ.1 - n0) (qSl σ.1 - qSl n0) Q (F0 m pc arr (.int x :: .int i :: .ref (qAd E a) :: r.map (qRv E)))
  rw [qAd_lo (a := a) (Nat.lt_of_lt_of_le ha hn1)]
  have hxn : vp_nar .boolean x = x := by rcases hx01 with rfl | rfl <;> rfl
  refine va_zast hx hb hX.1 hP qWr_D hS a 2 ((qWr_get ha).trans (by rw [qEnt12 h12])) rfl hi1 hd fun H1 locs1 hP1 _ hS1 => ?_
  rw [hxn, qWr_set (σ' := σ) (μ' := qset μ a i.toNatClampNeg x) (la' := la) ha rfl (by rw [qEnt12 h12, qset_eq]) (fun b hb => qEnt_mu (qset_ne hb))] at hP1
  subst hq
  exact kk H1 locs1 arr ⟨hP1, hz, hS1, hn0, hn1, fun b hb => Eq.trans (qset_ne (f := μ) (a := a) (by omega)) (hro b hb)⟩ hL rfl
theorem qs_last (B : qAt E rm p R s m args meth c mi d n0 σ μ la H locs arr ls) (hd : decode (qMeth mi).2.1 pc = .ok (.lastore, 1)) (hs : (qpL st fun x r => qpI r fun i r => qpR r fun a r => if qIn i (qLen σ 11 a) then qN (pc + 1) r ls σ μ (qsetL la a i.toNatClampNeg x) else none) = some (.inl q)) (kk : qKk E rm p l e R s m args below meth c n0 ls.length Q q) : W p l e R s m args below meth c H locs (σ.1 - n0) (qSl σ.1 - qSl n0) Q (F0 m pc arr (st.map (qRv E))) := by
  obtain ⟨⟨hx, hb, hml, hown, hts, hX, hnm, hfr, hlo⟩, hh, hL, hln⟩ := id B
  obtain ⟨hP, hz, hS, hn0, hn1, hro⟩ := id hh
  obtain ⟨x, r, rfl, hs1⟩ := qpL_inv hs
  obtain ⟨i, r, rfl, hs2⟩ := qpI_inv hs1
  obtain ⟨a, r, rfl, hs3⟩ := qpR_inv hs2
  obtain ⟨hin, hs4⟩ := qif_inv hs3
  have hq := qN_inv hs4
  obtain ⟨hi1, -, ha, h11⟩ := qLen_inv hin
  show W p l e R s m args below meth c H locs (σ.1 - n0) (qSl σ.1 - qSl n0) Q (F0 m pc arr (.long x :: .int i :: .ref (qAd E a) :: r.map (qRv E)))
  rw [qAd_lo (a := a) (Nat.lt_of_lt_of_le ha hn1)]
  refine va_last hx hb hX.1 hP qWr_D hS a 1 ((qWr_get ha).trans (by rw [qEnt11 h11])) rfl hi1 hd fun H1 locs1 hP1 _ hS1 => ?_
  rw [qWr_set (σ' := σ) (μ' := μ) (la' := qsetL la a i.toNatClampNeg x) ha rfl (by rw [qEnt11 h11, qsetL_eq]) (fun b hb => qEnt_la (qsetL_ne hb))] at hP1
  subst hq
  exact kk H1 locs1 arr ⟨hP1, hz, hS1, hn0, hn1, hro⟩ hL rfl
end
