theorem qLaw_len : qMtL.length - 1 = qLaw := by decide +kernel
theorem qGood (T : qTabs) {m' : Nat} (hm : m' < qLaw) : GoodIn qG (qWs m') := fun w hw => by
  have hq : w ∈ qG := by
    rcases List.mem_cons.mp hw with rfl | h
    · exact (T.2.2 m' hm).1
    · exact h
  exact ⟨hq, good_of_word (List.mem_filter.mp hq).2⟩
theorem qTakeDrop {st : List Value} {na : Nat} (E : qEnv) : st.map (qRv E) = (((st.take na).reverse).map (qRv E)).reverse ++ (st.drop na).map (qRv E) := by
  rw [← List.map_reverse, List.reverse_reverse, ← List.map_append, List.take_append_drop]
section
variable {E : qEnv} {rm : qMu} {p : Program} {l : Launch} {e : Env} {R : Room} {s : State} {m : MethodId} {args : Array Value} {below : List Frame} {meth : Method} {c : Code} {mi d n0 : Nat} {Q : State → Prop} {H : Heap} {locs : List Loc} {arr : Array Slot} {pc : Nat} {st ls : List Value} {σ : qSg} {μ : qMu} {la : qLa} {i : Instr}
set_option maxHeartbeats 4000000 in
/-- a call -/
theorem qCall_sound (T : qTabs) {n : Nat} (ih : qBody l E rm n) {m' : Nat} {as rest : List Value} {pc' : Nat} {q : qRes} (B : qAt E rm p R s m args meth c mi (d + 1) n0 σ μ la H locs arr ls) (hi : qIns mi pc = some i) (hs : qStep pc st ls σ μ la mi i = some (.inr (.inr (m', as, pc', rest)))) (hg : qGo n d m' 0 [] (qLs0 m' as) σ μ la = some q) (hR : q.2.1.1 - n0 ≤ R.cells ∧ qSl q.2.1.1 - qSl n0 ≤ R.slots)
    (kk : qKk E rm p l e R s m args below meth c n0 ls.length Q (pc', q.1.toList ++ rest, ls, q.2.1, q.2.2.1, q.2.2.2)) : W p l e R s m args below meth c H locs (σ.1 - n0) (qSl σ.1 - qSl n0) Q (F0 m pc arr (st.map (qRv E))) := by
  obtain ⟨⟨hx, hb, hml, hown, hts, hX, hnm, hfr, hlo⟩, hh, hL, hln⟩ := id B
  obtain ⟨hP, hz, hS, hn0, hn1, hro⟩ := id hh
  have hE := hX.2.2.2.2.2.2.2.2.2
  obtain ⟨len, hd, hlen⟩ := T.2.1 mi pc i hi
  have hmo := qGo_nx _ _ _ _ _ _ _ _ _ _ hg
  have hmono := qSl_mono hmo
  have hmono0 := qSl_mono hn0
  have hfit : σ.1 - n0 + (q.2.1.1 - σ.1) ≤ R.cells ∧ qSl σ.1 - qSl n0 + (qSl q.2.1.1 - qSl σ.1) ≤ R.slots := ⟨by omega, by omega⟩
  have hS2 : CallFix p m c (qMeth mi).2.1 (qMx mi) s args qG (qRn (qOwn mi)) := ⟨hx, hb, hml, hown, hts⟩
  have hsz : arr.size = qMx mi := by rw [hL.1, hln]
  refine qWsize hh fun hHs => ?_
  have hpc : ∀ U : State, U.heap = H → s.WarmedH U.vm → qPc E rm as σ μ la (as.map (qRv E)).toArray U := fun U hU hW => ⟨rfl, by rw [hU]; exact hP, by rw [hU]; exact hHs, qX_warm hW (fun x h1 h2 => by rw [hU]; exact hS.2.1 x h1 h2) hX⟩
  rcases qStep_kind (pc := pc) (st := st) (ls := ls) (σ := σ) (μ := μ) (la := la) (mi := mi) (i := i) with h | h | ⟨idx, rfl⟩ | ⟨idx, rfl⟩ | ⟨idx, rfl⟩
  · exact absurd hs (h _)
  · exfalso
    rcases h with rfl | rfl | rfl
    · have hs' : qRetI st mi = some (.inr (.inr (m', as, pc', rest))) := hs
      unfold qRetI at hs'
      split at hs'
      · split at hs'
        · cases hs'
        · obtain ⟨-, h⟩ := qif_inv hs'; cases h
        · obtain ⟨-, h⟩ := qif_inv hs'; cases h
        · obtain ⟨-, h⟩ := qif_inv hs'; cases h
        · cases hs'
      · cases hs'
    · simp only [qStep] at hs
      split at hs
      · obtain ⟨-, h⟩ := qif_inv hs; cases h
      · cases hs
    · simp only [qStep] at hs
      split at hs
      · obtain ⟨-, h⟩ := qif_inv hs; cases h
      · cases hs
  · -- invokestatic
    have hl3 : len = 3 := hlen.elim id (fun z => by cases z)
    subst hl3
    obtain ⟨m2, na, fl, hpl, hfl, hna, hcat, hal, hx2⟩ := qInvS_inv hs
    cases hx2
    obtain ⟨hw, hmore⟩ := T.1 _ _ _ hpl
    simp only [qMore, Bool.and_eq_true, decide_eq_true_eq] at hmore
    obtain ⟨⟨hm0, hdesc⟩, hmf⟩ := hmore
    have hm : m' < qLaw := by rw [← qLaw_len]; exact hm0
    obtain ⟨hcode, hini, hcls, hpn, hn1', hn2', hmx⟩ := T.2.2 m' hm
    have hM := qMet T ih hm hg hal hn1 hro
    have hroom : (qRoom d (q.2.1.1 - σ.1) (qSl q.2.1.1 - qSl σ.1)).frames + 1 ≤ R.frames ∧ 8 + (qMx m' + 11) + (qRoom d (q.2.1.1 - σ.1) (qSl q.2.1.1 - qSl σ.1)).locals ≤ R.locals := ⟨hfr, by show 8 + (qMx m' + 11) + 64 * (d + 1) ≤ _; omega⟩
    refine qAfter (a := (((st.take na).reverse).map (qRv E)).toArray) hh hL hmo ?_ kk
    rcases hfl with rfl | rfl
    · have w1 := hts _ (hw _ List.mem_cons_self)
      have w2 := hts _ (hw _ (List.mem_cons_of_mem _ List.mem_cons_self))
      exact va_runS (As := ((st.take na).reverse).map (qRv E)) (n := na) hS2 hM ⟨callB_of na hts (qGood T hm) rfl rfl rfl (hts _ hini) w1 ⟨hn1', hn2', hdesc⟩ hroom, w2⟩ ⟨qPc_blind, hpc⟩ rfl (by simp; omega) hsz (qTakeDrop E) (by rw [qCat hE]; show 2 * 0 + _ ≤ 8; omega) hd hfit
    · have w2 := hts _ (hw _ List.mem_cons_self)
      simp at hmf
      have hN := hX.2.2.2.2.2.1 _ hmf
      exact va_runSN (As := ((st.take na).reverse).map (qRv E)) (n := na) (host := RX6) hS2 hM ⟨va_cnB na hts (qGood T hm) rfl rfl rfl hN (hts _ hini) ⟨hn1', hn2', hdesc⟩ hroom, w2, trivial⟩ ⟨qPc_blind, hpc⟩ rfl (by simp; omega) hsz (qTakeDrop E) (by rw [qCat hE]; show 2 * 0 + _ ≤ 8; omega) hd hfit
  · -- invokevirtual
    have hl3 : len = 3 := hlen.elim id (fun z => by cases z)
    subst hl3
    obtain ⟨m2, na, a, r, hpl, hdr, hrc, hcat, hal, hx2⟩ := qInvV_inv hs
    cases hx2
    obtain ⟨hw, hmore⟩ := T.1 _ _ _ hpl
    simp only [qMore, Bool.and_eq_true, decide_eq_true_eq] at hmore
    obtain ⟨⟨hm0, hdesc⟩, hmf⟩ := hmore
    have hm : m' < qLaw := by rw [← qLaw_len]; exact hm0
    obtain ⟨hcode, hini, hcls, hpn, hn1', hn2', hmx⟩ := T.2.2 m' hm
    have hM := qMet T ih hm hg hal hn1 hro
    have hroom : (qRoom d (q.2.1.1 - σ.1) (qSl q.2.1.1 - qSl σ.1)).frames + 1 ≤ R.frames ∧ 8 + (qMx m' + 11) + (qRoom d (q.2.1.1 - σ.1) (qSl q.2.1.1 - qSl σ.1)).locals ≤ R.locals := ⟨hfr, by show 8 + (qMx m' + 11) + 64 * (d + 1) ≤ _; omega⟩
    have w1 := hts _ (hw _ List.mem_cons_self)
    have w2 := hts _ (hw _ (List.mem_cons_of_mem _ List.mem_cons_self))
    have w3 := hts _ (hw _ (List.mem_cons_of_mem _ (List.mem_cons_of_mem _ List.mem_cons_self)))
    have hnl : na ≤ st.length := by
      by_cases h : na ≤ st.length
      · exact h
      · rw [List.drop_eq_nil_of_le (by omega)] at hdr; cases hdr
    have hst : st.map (qRv E) = (((st.take na).reverse).map (qRv E)).reverse ++ .ref (qAd E a) :: rest.map (qRv E) := by
      have := qTakeDrop (st := st) (na := na) E
      rw [hdr] at this
      exact this
    have hrecv : ∃ cellB : Cell, H[qAd E a]? = some cellB ∧ cellB.vm.isStatics = false ∧ s.vm.findClass (qMeth m').1.cls = some cellB.cls := by
      unfold qRecv at hrc
      by_cases h10 : qOwn m' = 10
      · rw [if_pos h10, decide_eq_true_eq] at hrc
        have hlt : ¬ a < 1000 := fun z => by
          rw [qSh_lo z, List.getD_eq_getElem?_getD] at hrc
          cases hq : qShL[a]? with
          | none => rw [hq] at hrc; simp at hrc
          | some z => rw [hq] at hrc; exact absurd hrc (qShL_30 z (List.mem_of_getElem? hq))
        obtain ⟨j, hj, rfl⟩ := qSh_30 (Nat.le_of_not_lt hlt) hrc
        rw [hcls, h10, qAd_hi (a := 1010 + j) (by omega)]
        obtain ⟨cell, g1, g2, g3, -⟩ := (hX.2.2.2.2.1 j hj).1.kept hS.2.1
        exact ⟨cell, g1, g2, g3⟩
      · rw [if_neg h10] at hrc
        by_cases h8 : qOwn m' < 8
        · rw [if_pos h8] at hrc
          obtain ⟨ha, hsh⟩ := qOk_inv hrc
          obtain ⟨hcl, hRn, -, -, -⟩ := qClsOk _ h8
          rw [hcls, ← hRn, qAd_lo (a := a) (Nat.lt_of_lt_of_le ha hn1)]
          exact va_recv hX.1 hP hcl ((qWr_get ha).trans (by rw [qEntO hsh h8]))
        · rw [if_neg h8] at hrc; cases hrc
    refine qAfter (a := (.ref (qAd E a) :: ((st.take na).reverse).map (qRv E)).toArray) hh hL hmo ?_ kk
    exact va_runV (As := ((st.take na).reverse).map (qRv E)) (n := na) (C := (qMeth m').1.cls) hS2 hM ⟨callB_of na hts (qGood T hm) rfl rfl rfl (hts _ hini) w1 ⟨hn1', hn2', hdesc⟩ hroom, w2, w3⟩ ⟨qPc_blind, hrecv, hpc⟩ rfl (by simp; omega) hsz hst (by rw [qCat hE]; show 2 * 0 + _ ≤ 8; omega) hd hfit
  · -- invokespecial
    have hl3 : len = 3 := hlen.elim id (fun z => by cases z)
    subst hl3
    obtain ⟨m2, na, fl, a, r, hpl, hfl, hdr, hcat, hal, hx2⟩ := qInvI_inv hs
    cases hx2
    obtain ⟨hw, hmore⟩ := T.1 _ _ _ hpl
    simp only [qMore, Bool.and_eq_true, decide_eq_true_eq] at hmore
    obtain ⟨⟨hm0, hdesc⟩, hmf⟩ := hmore
    have hm : m' < qLaw := by rw [← qLaw_len]; exact hm0
    obtain ⟨hcode, hini, hcls, hpn, hn1', hn2', hmx⟩ := T.2.2 m' hm
    have hM := qMet T ih hm hg hal hn1 hro
    have hroom : (qRoom d (q.2.1.1 - σ.1) (qSl q.2.1.1 - qSl σ.1)).frames + 1 ≤ R.frames ∧ 8 + (qMx m' + 11) + (qRoom d (q.2.1.1 - σ.1) (qSl q.2.1.1 - qSl σ.1)).locals ≤ R.locals := ⟨hfr, by show 8 + (qMx m' + 11) + 64 * (d + 1) ≤ _; omega⟩
    have hnl : na ≤ st.length := by
      by_cases h : na ≤ st.length
      · exact h
      · rw [List.drop_eq_nil_of_le (by omega)] at hdr; cases hdr
    have hst : st.map (qRv E) = (((st.take na).reverse).map (qRv E)).reverse ++ .ref (qAd E a) :: rest.map (qRv E) := by
      have := qTakeDrop (st := st) (na := na) E
      rw [hdr] at this
      exact this
    refine qAfter (a := (.ref (qAd E a) :: ((st.take na).reverse).map (qRv E)).toArray) hh hL hmo ?_ kk
    rcases hfl with rfl | rfl
    · have w1 := hts _ (hw _ List.mem_cons_self)
      have w2 := hts _ (hw _ (List.mem_cons_of_mem _ List.mem_cons_self))
      simp at hmf
      obtain ⟨hnm1, hrt⟩ := hmf
      have hgood := qGood T hm
      unfold qWs at hM hgood
      rw [hrt] at hM hgood
      exact va_runI (As := ((st.take na).reverse).map (qRv E)) (n := na) hS2 hM ⟨callB_of na hts hgood rfl rfl rfl (hts _ hini) w1 ⟨hn1', hn2', hdesc⟩ hroom, hnm1, w2⟩ ⟨qPc_blind, hpc⟩ rfl (by simp; omega) hsz hst (by rw [qCat hE]; show 2 * 0 + _ ≤ 8; omega) hd hfit
    · have w2 := hts _ (hw _ List.mem_cons_self)
      simp at hmf
      obtain ⟨⟨hnest, hnm1⟩, hrt⟩ := hmf
      have hN := hX.2.2.2.2.2.1 _ hnest
      have hgood := qGood T hm
      unfold qWs at hM hgood
      rw [hrt] at hM hgood
      exact va_runIN (As := ((st.take na).reverse).map (qRv E)) (n := na) (host := RX6) hS2 hM ⟨va_cnB na hts hgood rfl rfl rfl hN (hts _ hini) ⟨hn1', hn2', hdesc⟩ hroom, hnm1, w2⟩ ⟨qPc_blind, hpc⟩ rfl (by simp; omega) hsz hst (by rw [qCat hE]; show 2 * 0 + _ ≤ 8; omega) hd hfit
end
set_option maxHeartbeats 4000000 in
/-- THE SMALL MACHINE IS THE JVM -/
theorem qRun (T : qTabs) (l : Launch) (E : qEnv) (rm : qMu) : ∀ n, qBody l E rm n := by
  intro n
  induction n with
  | zero => intro d mi pc st ls σ μ la q h; simp [qGo] at h
  | succ n ih =>
    intro d mi pc st ls σ μ la q h p e R s m args below meth c n0 Q H locs arr B hR kr
    cases hi : qIns mi pc with
    | none => rw [qGo, hi] at h; simp at h
    | some i =>
      rw [qGo_succ hi] at h
      cases hs : qStep pc st ls σ μ la mi i with
      | none => rw [hs] at h; simp at h
      | some act =>
        rw [hs] at h
        rcases act with ⟨pc', st', ls', σ', μ', la'⟩ | r | ⟨m', as, pc', rest⟩
        · have h' : qGo n d mi pc' st' ls' σ' μ' la' = some q := h
          have hmo := qGo_nx _ _ _ _ _ _ _ _ _ _ h'
          have hmono := qSl_mono hmo
          have hn0 := B.2.1.2.2.2.1
          refine qStep_sound T B hi hs ⟨by show σ'.1 - n0 ≤ _; omega, by show qSl σ'.1 - qSl n0 ≤ _; omega⟩ fun H1 locs1 arr1 hh1 hL1 hl1 => ?_
          exact ih d mi pc' st' ls' σ' μ' la' q h' p e R s m args below meth c n0 Q H1 locs1 arr1 ⟨B.1, hh1, hL1, hl1.trans B.2.2.2⟩ hR kr
        · simp only [Option.some.injEq] at h
          subst h
          obtain ⟨e1, e2⟩ := qStep_ret T hi hs
          rw [e1]
          exact kr H locs arr pc B.2.1 e2
        · cases d with
          | zero => simp at h
          | succ d' =>
            simp only at h
            obtain ⟨q0, h1, h2⟩ := qBind_inv h
            have hmo2 := qGo_nx _ _ _ _ _ _ _ _ _ _ h2
            have hmono2 := qSl_mono hmo2
            have hn0 := B.2.1.2.2.2.1
            have hmo1 := qGo_nx _ _ _ _ _ _ _ _ _ _ h1
            refine qCall_sound T ih B hi hs h1 ⟨by omega, by omega⟩ fun H1 locs1 arr1 hh1 hL1 hl1 => ?_
            exact ih (d' + 1) mi pc' (q0.1.toList ++ rest) ls q0.2.1 q0.2.2.1 q0.2.2.2 q h2 p e R s m args below meth c n0 Q H1 locs1 arr1 ⟨B.1, hh1, hL1, B.2.2.2⟩ hR kr
