/-! the instructions that read and write the heap, part 2 -/
theorem qFs_set {E : qEnv} {σ : qSg} {μ : qMu} {ci a k : Nat} {x : Int32} (hf : qFk ci k = true) : (qFs E σ μ ci a).set k (.int x) = qFs E σ (qset μ a k x) ci a := by
  apply List.ext_getElem?
  intro j
  rw [List.getElem?_set]
  by_cases hj : j < (qSh a).2
  · by_cases hk : k = j
    · subst hk
      rw [if_pos rfl, if_pos (by simp [qFs, hj]), qFs_get hj, if_pos hf]
      simp [qset]
    · rw [if_neg hk, qFs_get hj, qFs_get hj]
      simp [qset, Ne.symm hk]
  · rw [List.getElem?_eq_none (l := qFs E σ (qset μ a k x) ci a) (by simp [qFs]; omega), List.getElem?_eq_none (l := qFs E σ μ ci a) (by simp [qFs]; omega)]
    by_cases hk : k = j
    · subst hk
      rw [if_pos rfl, if_neg (by simp [qFs]; omega)]
    · rw [if_neg hk]
theorem qFs_setR {E : qEnv} {σ : qSg} {μ : qMu} {ci a k b : Nat} (hf : qFk ci k = false) : (qFs E σ μ ci a).set k (.ref (qAd E b)) = qFs E (σ.1, qsetR σ.2 a k (some b)) μ ci a := by
  apply List.ext_getElem?
  intro j
  rw [List.getElem?_set]
  by_cases hj : j < (qSh a).2
  · by_cases hk : k = j
    · subst hk
      rw [if_pos rfl, if_pos (by simp [qFs, hj]), qFs_get hj, hf]
      simp [qsetR, va_rf]
    · rw [if_neg hk, qFs_get hj, qFs_get hj]
      simp [qsetR, Ne.symm hk]
  · rw [List.getElem?_eq_none (l := qFs E (σ.1, qsetR σ.2 a k (some b)) μ ci a) (by simp [qFs]; omega), List.getElem?_eq_none (l := qFs E σ μ ci a) (by simp [qFs]; omega)]
    by_cases hk : k = j
    · subst hk
      rw [if_pos rfl, if_neg (by simp [qFs]; omega)]
    · rw [if_neg hk]
theorem qCat {E : qEnv} (hE : E.2.2.1.category = 1) (r : List Value) : ((r.map (qRv E)).map fun v => v.category).sum = (r.map fun v => v.category).sum := by
  rw [List.map_map]
  congr 1
  apply List.map_congr_left
  intro v _
  cases v with
  | retAddr k => exact hE
  | _ => rfl
theorem qDef : ∀ ci, ci < 8 → ∀ j, j < (qCls ci).2.2 → defaultValue (qFty ci j) = if qFk ci j = true then .int 0 else .null := by decide +kernel
theorem qsetR_up {E : qEnv} {f : qRho} {a i b : Nat} (h : b < 1000) : (fun j => (qsetR f a i (some b) a j).map (qAd E)) = va_up (fun j => (f a j).map (qAd E)) i (some (E.1 + b)) := by
  funext j
  by_cases hj : j = i
  · simp [qsetR, va_up, hj, qAd_lo h]
  · simp [qsetR, va_up, hj]
section
variable {E : qEnv} {rm : qMu} {p : Program} {l : Launch} {e : Env} {R : Room} {s : State} {m : MethodId} {args : Array Value} {below : List Frame} {meth : Method} {c : Code} {mi d n0 : Nat} {Q : State → Prop} {H : Heap} {locs : List Loc} {arr : Array Slot} {pc : Nat} {st ls : List Value} {σ : qSg} {μ : qMu} {la : qLa} {q : qSt} {g : JFrame} {idx slots : Nat}
theorem qs_putf (T : qTabs) (B : qAt E rm p R s m args meth c mi d n0 σ μ la H locs arr ls) (hd : decode (qMeth mi).2.1 pc = .ok (.putfield idx, 3)) (hs : qPutf pc st ls σ μ la mi (qOwn mi) idx = some (.inl q)) (kk : qKk E rm p l e R s m args below meth c n0 ls.length Q q) : W p l e R s m args below meth c H locs (σ.1 - n0) (qSl σ.1 - qSl n0) Q (F0 m pc arr (st.map (qRv E))) := by
  obtain ⟨⟨hx, hb, hml, hown, hts, hX, hnm, hfr, hlo⟩, hh, hL, hln⟩ := id B
  obtain ⟨hP, hz, hS, hn0, hn1, hro⟩ := id hh
  unfold qPutf at hs
  split at hs
  · rename_i ci k hpl
    obtain ⟨hw, hm⟩ := T.1 _ _ _ hpl
    obtain ⟨x, r, rfl, h1⟩ := qpI_inv hs
    obtain ⟨a, r, rfl, h2⟩ := qpR_inv h1
    obtain ⟨hok, h3⟩ := qif_inv h2
    have hq := qN_inv h3
    obtain ⟨ha, hsh⟩ := qOk_inv hok
    simp only [qMore, Bool.and_eq_true, decide_eq_true_eq] at hm
    obtain ⟨⟨⟨hc8, hkN⟩, hT1⟩, hm⟩ := hm
    simp at hm
    obtain ⟨hcl, hR, hU, hty, hnm2⟩ := qClsOk ci hc8
    have hlink := hts _ (hw _ List.mem_cons_self)
    have hlen : (qSh a).2 = (qCls ci).2.2 := by have := qSh_obj (a := a) (by omega); rw [hsh] at this; exact this
    have hF : qFk ci k = true := by simp [qFk, hm.2]
    have hfd : parseFieldDescriptor ((qCls ci).2.1 k).2.2.1 = some .int := by
      have := hm.2
      simp only [qFd] at this
      rw [this]; decide +kernel
    show W p l e R s m args below meth c H locs (σ.1 - n0) (qSl σ.1 - qSl n0) Q (F0 m pc arr (.int x :: .ref (qAd E a) :: r.map (qRv E)))
    rw [qAd_lo (a := a) (Nat.lt_of_lt_of_le ha hn1)]
    refine va_put (C := (qCls ci).1) (T := (qCls ci).2.1) (N := (qCls ci).2.2) (ref := qRn ci) hx hb hts hU (qFty ci) hty hnm2 hown hX.1 hP qWr_D hS a ((qWr_get ha).trans (by rw [qEntO hsh hc8])) hcl k hkN hlink (fun x hx => by rw [hT1] at hx; exact hx) hm.1 hfd rfl rfl (by simp [qFs]; omega) hd fun H1 locs1 hP1 _ hS1 => ?_
    rw [qWr_set (σ' := σ) (μ' := qset μ a k x) (la' := la) ha rfl (by rw [qEntO hsh hc8, qFs_set hF]) (fun b hb => qEnt_mu (qset_ne hb))] at hP1
    subst hq
    exact kk H1 locs1 arr ⟨hP1, hz, hS1, hn0, hn1, fun b hb => Eq.trans (qset_ne (f := μ) (a := a) (by omega)) (hro b hb)⟩ hL rfl
  · rename_i ci k hpl
    obtain ⟨hw, hm⟩ := T.1 _ _ _ hpl
    obtain ⟨x, r, rfl, h1⟩ := qpI_inv hs
    obtain ⟨a, r, rfl, h2⟩ := qpR_inv h1
    obtain ⟨⟨hok, hx01⟩, h3⟩ := qif_inv h2
    have hq := qN_inv h3
    obtain ⟨ha, hsh⟩ := qOk_inv hok
    simp only [qMore, Bool.and_eq_true, decide_eq_true_eq] at hm
    obtain ⟨⟨⟨hc8, hkN⟩, hT1⟩, hm⟩ := hm
    simp at hm
    obtain ⟨hcl, hR, hU, hty, hnm2⟩ := qClsOk ci hc8
    have hlink := hts _ (hw _ List.mem_cons_self)
    have hlen : (qSh a).2 = (qCls ci).2.2 := by have := qSh_obj (a := a) (by omega); rw [hsh] at this; exact this
    have hF : qFk ci k = true := by simp [qFk, hm.2]
    have hfd : parseFieldDescriptor ((qCls ci).2.1 k).2.2.1 = some .boolean := by
      have := hm.2
      simp only [qFd] at this
      rw [this]; decide +kernel
    show W p l e R s m args below meth c H locs (σ.1 - n0) (qSl σ.1 - qSl n0) Q (F0 m pc arr (.int x :: .ref (qAd E a) :: r.map (qRv E)))
    rw [qAd_lo (a := a) (Nat.lt_of_lt_of_le ha hn1)]
    refine va_put (C := (qCls ci).1) (T := (qCls ci).2.1) (N := (qCls ci).2.2) (ref := qRn ci) hx hb hts hU (qFty ci) hty hnm2 hown hX.1 hP qWr_D hS a ((qWr_get ha).trans (by rw [qEntO hsh hc8])) hcl k hkN hlink (fun x hx => by rw [hT1] at hx; exact hx) hm.1 hfd (by rcases hx01 with rfl | rfl <;> rfl) (by rcases hx01 with rfl | rfl <;> rfl) (by simp [qFs]; omega) hd fun H1 locs1 hP1 _ hS1 => ?_
    rw [qWr_set (σ' := σ) (μ' := qset μ a k x) (la' := la) ha rfl (by rw [qEntO hsh hc8, qFs_set hF]) (fun b hb => qEnt_mu (qset_ne hb))] at hP1
    subst hq
    exact kk H1 locs1 arr ⟨hP1, hz, hS1, hn0, hn1, fun b hb => Eq.trans (qset_ne (f := μ) (a := a) (by omega)) (hro b hb)⟩ hL rfl
  · rename_i ci k hpl
    obtain ⟨hw, hm⟩ := T.1 _ _ _ hpl
    obtain ⟨b, r, rfl, h1⟩ := qpR_inv hs
    obtain ⟨a, r, rfl, h2⟩ := qpR_inv h1
    obtain ⟨⟨hok, hin, hci⟩, h3⟩ := qif_inv h2
    have hq := qN_inv h3
    obtain ⟨ha, hsh⟩ := qOk_inv hok
    simp only [qMore, Bool.and_eq_true, decide_eq_true_eq] at hm
    obtain ⟨⟨⟨hc8, hkN⟩, hT1⟩, hm⟩ := hm
    simp at hm
    obtain ⟨⟨hm1, hm2⟩, hm3⟩ := hm
    obtain ⟨hcl, hR, hU, hty, hnm2⟩ := qClsOk ci hc8
    have hlink := hts _ (hw _ List.mem_cons_self)
    have hlen : (qSh a).2 = (qCls ci).2.2 := by have := qSh_obj (a := a) (by omega); rw [hsh] at this; exact this
    have hnar : narrow (qFty ci k) (.ref (qAd E b)) = .ref (qAd E b) := by cases h : qFty ci k <;> rw [h] at hm3 <;> first | rfl | cases hm3
    have hfit : fits (qFty ci k) (.ref (qAd E b)) = true := by cases h : qFty ci k <;> rw [h] at hm3 <;> first | rfl | cases hm3
    show W p l e R s m args below meth c H locs (σ.1 - n0) (qSl σ.1 - qSl n0) Q (F0 m pc arr (.ref (qAd E b) :: .ref (qAd E a) :: r.map (qRv E)))
    rw [qAd_lo (a := a) (Nat.lt_of_lt_of_le ha hn1)]
    refine va_putF (C := (qCls ci).1) (T := (qCls ci).2.1) (N := (qCls ci).2.2) (ref := qRn ci) hx hb hts hU (qFty ci) hty hnm2 hown hX.1 hP qWr_D hS a ((qWr_get ha).trans (by rw [qEntO hsh hc8])) hcl k hkN hlink (fun x hx => by rw [hT1] at hx; exact hx) hm2 (hnm hin) (by rw [hT1, hci]) (hty k hkN) hnar hfit (by simp [qFs]; omega) hd fun H1 locs1 hP1 _ hS1 => ?_
    rw [qWr_set (σ' := (σ.1, qsetR σ.2 a k (some b))) (μ' := μ) (la' := la) ha rfl (by rw [qEntO hsh hc8, qFs_setR hm1]) (fun z hz => qEnt_rho (qsetR_ne hz))] at hP1
    subst hq
    exact kk H1 locs1 arr ⟨hP1, hz, hS1, hn0, hn1, hro⟩ hL rfl
  · cases hs
theorem qs_aast (B : qAt E rm p R s m args meth c mi d n0 σ μ la H locs arr ls) (hd : decode (qMeth mi).2.1 pc = .ok (.aastore, 1)) (hs : qAast pc st ls σ μ la = some (.inl q)) (kk : qKk E rm p l e R s m args below meth c n0 ls.length Q q) : W p l e R s m args below meth c H locs (σ.1 - n0) (qSl σ.1 - qSl n0) Q (F0 m pc arr (st.map (qRv E))) := by
  obtain ⟨⟨hx, hb, hml, hown, hts, hX, hnm, hfr, hlo⟩, hh, hL, hln⟩ := id B
  obtain ⟨hP, hz, hS, hn0, hn1, hro⟩ := id hh
  unfold qAast at hs
  obtain ⟨b, r, rfl, h1⟩ := qpR_inv hs
  obtain ⟨i, r, rfl, h2⟩ := qpI_inv h1
  obtain ⟨a, r, rfl, h3⟩ := qpR_inv h2
  show W p l e R s m args below meth c H locs (σ.1 - n0) (qSl σ.1 - qSl n0) Q (F0 m pc arr (.ref (qAd E b) :: .int i :: .ref (qAd E a) :: r.map (qRv E)))
  split at h3
  · rename_i hc
    obtain ⟨hi1, -, ha, h13⟩ := qLen_inv hc.1
    obtain ⟨hb1, hb2⟩ := qOk_inv hc.2
    have hq := qN_inv h3
    rw [qAd_lo (a := a) (Nat.lt_of_lt_of_le ha hn1), qAd_lo (a := b) (Nat.lt_of_lt_of_le hb1 hn1)]
    refine va_astq (r := (RX4, TX4, 13)) hx hb hX.1 hP qWr_D hS a 3 b 4 ((qWr_get ha).trans (by rw [qEnt13 h13])) rfl ((qWr_get hb1).trans (by rw [qEntO hb2 (by omega)])) rfl hi1 hd fun H1 locs1 hP1 _ hS1 => ?_
    rw [qWr_set (σ' := (σ.1, qsetR σ.2 a i.toNatClampNeg (some b))) (μ' := μ) (la' := la) ha rfl (by rw [qEnt13 h13, qsetR_up (Nat.lt_of_lt_of_le hb1 hn1)]) (fun z hz => qEnt_rho (qsetR_ne hz))] at hP1
    subst hq
    exact kk H1 locs1 arr ⟨hP1, hz, hS1, hn0, hn1, hro⟩ hL rfl
  · split at h3
    · rename_i hc
      obtain ⟨hi1, -, ha, h14⟩ := qLen_inv hc.1
      obtain ⟨hb1, hb2⟩ := qOk_inv hc.2
      have hq := qN_inv h3
      rw [qAd_lo (a := a) (Nat.lt_of_lt_of_le ha hn1), qAd_lo (a := b) (Nat.lt_of_lt_of_le hb1 hn1)]
      refine va_astq (r := (RX2, TX2, 3)) hx hb hX.1 hP qWr_D hS a 4 b 2 ((qWr_get ha).trans (by rw [qEnt14 h14])) rfl ((qWr_get hb1).trans (by rw [qEntO hb2 (by omega)])) rfl hi1 hd fun H1 locs1 hP1 _ hS1 => ?_
      rw [qWr_set (σ' := (σ.1, qsetR σ.2 a i.toNatClampNeg (some b))) (μ' := μ) (la' := la) ha rfl (by rw [qEnt14 h14, qsetR_up (Nat.lt_of_lt_of_le hb1 hn1)]) (fun z hz => qEnt_rho (qsetR_ne hz))] at hP1
      subst hq
      exact kk H1 locs1 arr ⟨hP1, hz, hS1, hn0, hn1, hro⟩ hL rfl
    · cases h3
theorem qs_alen (B : qAt E rm p R s m args meth c mi d n0 σ μ la H locs arr ls) (hd : decode (qMeth mi).2.1 pc = .ok (.arraylength, 1)) (hs : (qpR st fun a r => if (qSh a).1 = 21 then qN (pc + 1) (.int (Int32.ofNat (qSh a).2) :: r) ls σ μ la else if (qSh a).1 = 22 then qN (pc + 1) (.int (μ a 1000) :: r) ls σ μ la else none) = some (.inl q)) (kk : qKk E rm p l e R s m args below meth c n0 ls.length Q q) : W p l e R s m args below meth c H locs (σ.1 - n0) (qSl σ.1 - qSl n0) Q (F0 m pc arr (st.map (qRv E))) := by
  obtain ⟨⟨hx, hb, hml, hown, hts, hX, hnm, hfr, hlo⟩, hh, hL, hln⟩ := id B
  obtain ⟨hP, hz, hS, hn0, hn1, hro⟩ := id hh
  obtain ⟨a, r, rfl, h1⟩ := qpR_inv hs
  show W p l e R s m args below meth c H locs (σ.1 - n0) (qSl σ.1 - qSl n0) Q (F0 m pc arr (.ref (qAd E a) :: r.map (qRv E)))
  split at h1
  · rename_i h21
    have hq := qN_inv h1
    obtain ⟨j, hj, rfl⟩ := qSh_21 h21
    rw [qAd_hi (a := 1020 + j) (by omega)]
    refine va_tlen hx hb (hX.2.2.2.2.1 j hj).2.2.2.1 hS rfl hd ?_
    subst hq
    exact kk H locs arr hh hL rfl
  · split at h1
    · rename_i h22
      have hq := qN_inv h1
      have ha : a = 1003 := qSh_22 h22
      subst ha
      rw [qAd_hi (a := 1003) (by omega)]
      refine va_tlen hx hb hX.2.2.2.1.1 hS (v := μ 1003 1000) (by rw [hro 1003 (by omega)]; exact hX.2.2.2.1.2.symm) hd ?_
      subst hq
      exact kk H locs arr hh hL rfl
    · cases h1
end
