/-! what is made; System.arraycopy -/
section
variable {E : qEnv} {rm : qMu} {p : Program} {l : Launch} {e : Env} {R : Room} {s : State} {m : MethodId} {args : Array Value} {below : List Frame} {meth : Method} {c : Code} {mi d n0 : Nat} {Q : State → Prop} {H : Heap} {locs : List Loc} {arr : Array Slot} {pc : Nat} {st ls : List Value} {σ : qSg} {μ : qMu} {la : qLa} {q : qSt} {g : JFrame} {idx slots : Nat}
theorem qclr_eq {α : Type} {f : Nat → Nat → α} {a : Nat} {z : α} : qclr f a z a = fun _ => z := by
  funext j; simp [qclr]
/-- what lay there stays, and one cell more -/
theorem qHd_push {H1 : Heap} {ρ' : qRho} {μ' : qMu} {la' : qLa} {x : va_E} (hh : qHd E rm s n0 σ μ la H locs) (hsz : H.size = E.1 + σ.1) (hlt : σ.1 < 1000) (z1 : H1.size = E.1 + σ.1 + 1) (o1 : ∀ q, q < E.1 + σ.1 → H1[q]? = H[q]?) (hx : va_at E.2.2.2.1 vwCl (E.1 + σ.1, x) H1) (hx2 : x = qEnt E (σ.1 + 1, ρ') μ' la' σ.1) (h : ∀ b, b ≠ σ.1 → qEnt E (σ.1 + 1, ρ') μ' la' b = qEnt E σ μ la b) (hm : ∀ a, 1000 ≤ a → μ' a = μ a) : qHd E rm s n0 (σ.1 + 1, ρ') μ' la' H1 locs := by
  obtain ⟨hP, hz, hS, hn0, hn1, hro⟩ := hh
  have hk : ∀ (k : Nat) (x : Nat × va_E), (qWr E σ μ la)[k]? = some x → H1[x.1]? = H[x.1]? := fun k x hx => o1 x.1 (by have := (hP k x hx).lt; omega)
  have hP1 : va_P E.2.2.2.1 vwCl (qWr E σ μ la ++ [(E.1 + σ.1, x)]) H1 := (hP.kept hk).app (fun k x0 hx0 => by
    have hz : k < 1 := (List.getElem?_eq_some_iff.mp hx0).1
    rw [show k = 0 by omega] at hx0
    cases hx0
    exact hx)
  rw [show qWr E σ μ la ++ [(E.1 + σ.1, x)] = qWr E (σ.1 + 1, ρ') μ' la' from qWr_push (nx := σ.1) (ρ := σ.2) hx2 h] at hP1
  exact ⟨hP1, hz, ⟨Nat.le_trans hS.1 (by omega), fun x h1 h2 => (o1 x (by have := hS.1; omega)).trans (hS.2.1 x h1 h2), hS.2.2⟩, Nat.le_trans hn0 (Nat.le_succ _), hlt, fun a ha => (hm a ha).trans (hro a ha)⟩
theorem qs_new (T : qTabs) (B : qAt E rm p R s m args meth c mi d n0 σ μ la H locs arr ls) (hd : decode (qMeth mi).2.1 pc = .ok (.new idx, 3)) (hs : qNew pc st ls σ μ la (qOwn mi) idx = some (.inl q)) (hR : q.2.2.2.1.1 - n0 ≤ R.cells ∧ qSl q.2.2.2.1.1 - qSl n0 ≤ R.slots) (kk : qKk E rm p l e R s m args below meth c n0 ls.length Q q) : W p l e R s m args below meth c H locs (σ.1 - n0) (qSl σ.1 - qSl n0) Q (F0 m pc arr (st.map (qRv E))) := by
  obtain ⟨⟨hx, hb, hml, hown, hts, hX, hnm, hfr, hlo⟩, hh, hL, hln⟩ := id B
  obtain ⟨hP, hz, hS, hn0, hn1, hro⟩ := id hh
  unfold qNew at hs
  split at hs
  · rename_i ci u v hpl
    obtain ⟨hw, hm⟩ := T.1 _ _ _ hpl
    obtain ⟨⟨hsh, hc8, hlt⟩, h1⟩ := qif_inv hs
    have hq := qN_inv h1
    obtain ⟨hcl, hRn, hU, hty, hnm2⟩ := qClsOk ci hc8
    have hsh1 : (qSh σ.1).1 = ci := by rw [hsh]
    have hsh2 : (qSh σ.1).2 = (qCls ci).2.2 := by rw [hsh]; rfl
    have w1 := hts _ (hw _ List.mem_cons_self)
    have w2 := hts _ (hw _ (List.mem_cons_of_mem _ List.mem_cons_self))
    have w3 := hts _ (hw _ (List.mem_cons_of_mem _ (List.mem_cons_of_mem _ List.mem_cons_self)))
    rw [← hRn] at w1 w2 w3
    refine qWsize hh fun hsz => ?_
    have hKn := hX.1.1 ci _ hcl
    subst hq
    have hR1 : σ.1 + 1 - n0 ≤ R.cells := hR.1
    have hR2 : qSl (σ.1 + 1) - qSl n0 ≤ R.slots := hR.2
    have hmo := qSl_mono hn0
    rw [qSl_succ, hsh2] at hR2
    refine W.newcK hx hb hown w1 w2 w3 rfl hd (by omega) (by omega) hKn.2.1 hsz fun H1 kC hkC e1 z1 o1 => ?_
    have hv : va_at E.2.2.2.1 vwCl (E.1 + σ.1, .inr (ci, qFs E (σ.1 + 1, qclr σ.2 σ.1 none) (qclr μ σ.1 0) ci σ.1)) H1 := by
      refine ⟨_, hcl, (u_born (qFty ci) hts hU hKn hkC e1 hty).to fun j hj => ?_⟩
      rw [qDef ci hc8 j hj]
      have hj2 : j < (qSh σ.1).2 := by rw [hsh2]; exact hj
      simp only [vp_V, List.getD_eq_getElem?_getD, qFs_get hj2, Option.getD_some]
      by_cases hf : qFk ci j = true
      · simp [hf, qclr]
      · simp [hf, qclr, va_rf]
    have hh1 := qHd_push (ρ' := qclr σ.2 σ.1 none) (μ' := qclr μ σ.1 0) (la' := la) hh hsz hlt z1 o1 hv (by rw [qEntO hsh1 hc8]) (fun b hb => (qEnt_mu (qclr_ne hb)).trans (qEnt_rho (qclr_ne hb))) (fun a ha => qclr_ne (by omega))
    have := kk H1 locs arr hh1 hL rfl
    simp only [qSl_succ, hsh2] at this
    rw [show σ.1 + 1 - n0 = σ.1 - n0 + 1 by omega, show qSl σ.1 + (qCls ci).2.2 - qSl n0 = qSl σ.1 - qSl n0 + (qCls ci).2.2 by omega] at this
    simp only [List.map_cons, qRv, qAd_lo hlt] at this
    exact this
  · cases hs
theorem qs_newa {t : ArrayType} (B : qAt E rm p R s m args meth c mi d n0 σ μ la H locs arr ls) (hd : decode (qMeth mi).2.1 pc = .ok (.newarray t, 2)) (hs : qNewa pc st ls σ μ la t = some (.inl q)) (hR : q.2.2.2.1.1 - n0 ≤ R.cells ∧ qSl q.2.2.2.1.1 - qSl n0 ≤ R.slots) (kk : qKk E rm p l e R s m args below meth c n0 ls.length Q q) : W p l e R s m args below meth c H locs (σ.1 - n0) (qSl σ.1 - qSl n0) Q (F0 m pc arr (st.map (qRv E))) := by
  obtain ⟨⟨hx, hb, hml, hown, hts, hX, hnm, hfr, hlo⟩, hh, hL, hln⟩ := id B
  obtain ⟨hP, hz, hS, hn0, hn1, hro⟩ := id hh
  unfold qNewa at hs
  obtain ⟨n, r, rfl, h1⟩ := qpI_inv hs
  obtain ⟨⟨h0, hsh, ht, hle, hlt⟩, h2⟩ := qif_inv h1
  have hq := qN_inv h2
  have hsh2 : (qSh σ.1).2 = n.toNatClampNeg := by rw [hsh]
  subst hq
  have hR1 : σ.1 + 1 - n0 ≤ R.cells := hR.1
  have hR2 : qSl (σ.1 + 1) - qSl n0 ≤ R.slots := hR.2
  have hmo := qSl_mono hn0
  rw [qSl_succ, hsh2] at hR2
  refine qWsize hh fun hsz => ?_
  cases t
  all_goals first | exact absurd ht (by decide) | skip
  · have hty : (qSh σ.1).1 = 12 := by rw [hsh]; rfl
    have hby : n.toNatClampNeg * componentBytes (newarray.typeOf .boolean) ≤ 536870912 := by
      have h8 : componentBytes (newarray.typeOf .boolean) ≤ 8 := by decide
      have := Nat.mul_le_mul hle h8
      omega
    have hwd : (Cond.arrayClass .boolean).before args s = true := hts _ qW0.2.2
    refine va_newaK (atype := .boolean) (N := n.toNatClampNeg) hx hb hwd rfl hd rfl (Int32.not_lt.mpr h0) rfl hby (by omega) (by omega) hsz fun H1 cA e1 z1 o1 _ hfc => ?_
    have hcA : cA = E.2.2.2.2 12 := by
      have h2 : s.vm.findClass ("[" ++ (FieldType.boolean).toString) = some (E.2.2.2.2 12) := (hX.1.2 2 _ rfl).2
      exact Option.some.inj (hfc.symm.trans h2)
    subst hcA
    have hh1 := qHd_push (ρ' := σ.2) (μ' := qclr μ σ.1 0) (la' := qclr la σ.1 0) (x := .inl (E.2.2.2.2 12, n.toNatClampNeg, .inl (fun _ => 0))) hh hsz hlt z1 o1 e1 (by rw [qEnt12 hty, hsh2, qclr_eq]) (fun b hb => (qEnt_mu (qclr_ne hb)).trans (qEnt_la (qclr_ne hb))) (fun a ha => qclr_ne (by omega))
    have := kk H1 locs arr hh1 hL rfl
    simp only [qSl_succ, hsh2] at this
    rw [show σ.1 + 1 - n0 = σ.1 - n0 + 1 by omega, show qSl σ.1 + n.toNatClampNeg - qSl n0 = qSl σ.1 - qSl n0 + n.toNatClampNeg by omega] at this
    simp only [List.map_cons, qRv, qAd_lo hlt] at this
    exact this
  · have hty : (qSh σ.1).1 = 10 := by rw [hsh]; rfl
    have hby : n.toNatClampNeg * componentBytes (newarray.typeOf .int) ≤ 536870912 := by
      have h8 : componentBytes (newarray.typeOf .int) ≤ 8 := by decide
      have := Nat.mul_le_mul hle h8
      omega
    have hwd : (Cond.arrayClass .int).before args s = true := hts _ qW0.1
    refine va_newaK (atype := .int) (N := n.toNatClampNeg) hx hb hwd rfl hd rfl (Int32.not_lt.mpr h0) rfl hby (by omega) (by omega) hsz fun H1 cA e1 z1 o1 _ hfc => ?_
    have hcA : cA = E.2.2.2.2 10 := by
      have h2 : s.vm.findClass ("[" ++ (FieldType.int).toString) = some (E.2.2.2.2 10) := (hX.1.2 0 _ rfl).2
      exact Option.some.inj (hfc.symm.trans h2)
    subst hcA
    have hh1 := qHd_push (ρ' := σ.2) (μ' := qclr μ σ.1 0) (la' := qclr la σ.1 0) (x := .inl (E.2.2.2.2 10, n.toNatClampNeg, .inl (fun _ => 0))) hh hsz hlt z1 o1 e1 (by rw [qEnt10 hty, hsh2, qclr_eq]) (fun b hb => (qEnt_mu (qclr_ne hb)).trans (qEnt_la (qclr_ne hb))) (fun a ha => qclr_ne (by omega))
    have := kk H1 locs arr hh1 hL rfl
    simp only [qSl_succ, hsh2] at this
    rw [show σ.1 + 1 - n0 = σ.1 - n0 + 1 by omega, show qSl σ.1 + n.toNatClampNeg - qSl n0 = qSl σ.1 - qSl n0 + n.toNatClampNeg by omega] at this
    simp only [List.map_cons, qRv, qAd_lo hlt] at this
    exact this
  · have hty : (qSh σ.1).1 = 11 := by rw [hsh]; rfl
    have hby : n.toNatClampNeg * componentBytes (newarray.typeOf .long) ≤ 536870912 := by
      have h8 : componentBytes (newarray.typeOf .long) ≤ 8 := by decide
      have := Nat.mul_le_mul hle h8
      omega
    have hwd : (Cond.arrayClass .long).before args s = true := hts _ qW0.2.1
    refine va_newaK (atype := .long) (N := n.toNatClampNeg) hx hb hwd rfl hd rfl (Int32.not_lt.mpr h0) rfl hby (by omega) (by omega) hsz fun H1 cA e1 z1 o1 _ hfc => ?_
    have hcA : cA = E.2.2.2.2 11 := by
      have h2 : s.vm.findClass ("[" ++ (FieldType.long).toString) = some (E.2.2.2.2 11) := (hX.1.2 1 _ rfl).2
      exact Option.some.inj (hfc.symm.trans h2)
    subst hcA
    have hh1 := qHd_push (ρ' := σ.2) (μ' := qclr μ σ.1 0) (la' := qclr la σ.1 0) (x := .inl (E.2.2.2.2 11, n.toNatClampNeg, .inr (.inl (fun _ => 0)))) hh hsz hlt z1 o1 e1 (by rw [qEnt11 hty, hsh2, qclr_eq]) (fun b hb => (qEnt_mu (qclr_ne hb)).trans (qEnt_la (qclr_ne hb))) (fun a ha => qclr_ne (by omega))
    have := kk H1 locs arr hh1 hL rfl
    simp only [qSl_succ, hsh2] at this
    rw [show σ.1 + 1 - n0 = σ.1 - n0 + 1 by omega, show qSl σ.1 + n.toNatClampNeg - qSl n0 = qSl σ.1 - qSl n0 + n.toNatClampNeg by omega] at this
    simp only [List.map_cons, qRv, qAd_lo hlt] at this
    exact this
theorem qs_newr (T : qTabs) (B : qAt E rm p R s m args meth c mi d n0 σ μ la H locs arr ls) (hd : decode (qMeth mi).2.1 pc = .ok (.anewarray idx, 3)) (hs : qNewr pc st ls σ μ la (qOwn mi) idx = some (.inl q)) (hR : q.2.2.2.1.1 - n0 ≤ R.cells ∧ qSl q.2.2.2.1.1 - qSl n0 ≤ R.slots) (kk : qKk E rm p l e R s m args below meth c n0 ls.length Q q) : W p l e R s m args below meth c H locs (σ.1 - n0) (qSl σ.1 - qSl n0) Q (F0 m pc arr (st.map (qRv E))) := by
  obtain ⟨⟨hx, hb, hml, hown, hts, hX, hnm, hfr, hlo⟩, hh, hL, hln⟩ := id B
  obtain ⟨hP, hz, hS, hn0, hn1, hro⟩ := id hh
  unfold qNewr at hs
  obtain ⟨n, r, rfl, h1⟩ := qpI_inv hs
  split at h1
  · rename_i u v hpl
    obtain ⟨⟨h0, hsh, hle, hlt⟩, h2⟩ := qif_inv h1
    have hq := qN_inv h2
    obtain ⟨hw, hm⟩ := T.1 _ _ _ hpl
    have w1 := hts _ (hw _ List.mem_cons_self)
    have hty : (qSh σ.1).1 = 13 := by rw [hsh]
    have hsh2 : (qSh σ.1).2 = n.toNatClampNeg := by rw [hsh]
    subst hq
    have hR1 : σ.1 + 1 - n0 ≤ R.cells := hR.1
    have hR2 : qSl (σ.1 + 1) - qSl n0 ≤ R.slots := hR.2
    have hmo := qSl_mono hn0
    rw [qSl_succ, hsh2] at hR2
    refine qWsize hh fun hsz => ?_
    refine W.anew (C := RX4) hx hb hown w1 (va_AO.use hX.2.2.2.2.2.2.2.1) rfl hd rfl (Int32.not_lt.mpr h0) (by omega) (by omega) (by omega) fun cA kA comp f1 f2 f3 f4 => ?_
    have hcA : cA = E.2.2.2.2 13 := by
      obtain ⟨-, -, -, -, -, h5⟩ := (hX.1.2 3 _ rfl).2
      exact Option.some.inj (f1.symm.trans h5)
    subst hcA
    generalize hH1 : H.push ({ cls := E.2.2.2.2 13, slots := Array.replicate n.toNatClampNeg .null, vm := .none } : Cell) = H1
    have z1 : H1.size = E.1 + σ.1 + 1 := by rw [← hH1, Array.size_push, hsz]
    have e1 : H1[E.1 + σ.1]? = some (arrV (E.2.2.2.2 13) n.toNatClampNeg (fun _ => .null)) := by rw [← hH1, ← hsz, Array.getElem?_push_size, ← arrV_new]
    have o1 : ∀ q : Nat, q < E.1 + σ.1 → H1[q]? = H[q]? := fun q hq => by rw [← hH1, Array.getElem?_push, if_neg (by omega)]
    have hh1 := qHd_push (ρ' := qclr σ.2 σ.1 none) (μ' := μ) (la' := la) (x := .inl (E.2.2.2.2 13, n.toNatClampNeg, .inr (.inr (.inr (.inr (fun _ => none)))))) hh hsz hlt z1 o1 e1 (by rw [qEnt13 hty, hsh2]; simp [qclr]) (fun b hb => qEnt_rho (qclr_ne hb)) (fun a ha => rfl)
    have := kk H1 locs arr hh1 hL rfl
    simp only [qSl_succ, hsh2] at this
    rw [show σ.1 + 1 - n0 = σ.1 - n0 + 1 by omega, show qSl σ.1 + n.toNatClampNeg - qSl n0 = qSl σ.1 - qSl n0 + n.toNatClampNeg by omega] at this
    simp only [List.map_cons, qRv, qAd_lo hlt] at this
    rw [hsz]
    exact this
  · rename_i u v hpl
    obtain ⟨⟨h0, hsh, hle, hlt⟩, h2⟩ := qif_inv h1
    have hq := qN_inv h2
    obtain ⟨hw, hm⟩ := T.1 _ _ _ hpl
    have w1 := hts _ (hw _ List.mem_cons_self)
    have hty : (qSh σ.1).1 = 14 := by rw [hsh]
    have hsh2 : (qSh σ.1).2 = n.toNatClampNeg := by rw [hsh]
    subst hq
    have hR1 : σ.1 + 1 - n0 ≤ R.cells := hR.1
    have hR2 : qSl (σ.1 + 1) - qSl n0 ≤ R.slots := hR.2
    have hmo := qSl_mono hn0
    rw [qSl_succ, hsh2] at hR2
    refine qWsize hh fun hsz => ?_
    refine W.anew (C := RX2) hx hb hown w1 (va_AO.use hX.2.2.2.2.2.2.2.2.1) rfl hd rfl (Int32.not_lt.mpr h0) (by omega) (by omega) (by omega) fun cA kA comp f1 f2 f3 f4 => ?_
    have hcA : cA = E.2.2.2.2 14 := by
      obtain ⟨-, -, -, -, -, h5⟩ := (hX.1.2 4 _ rfl).2
      exact Option.some.inj (f1.symm.trans h5)
    subst hcA
    generalize hH1 : H.push ({ cls := E.2.2.2.2 14, slots := Array.replicate n.toNatClampNeg .null, vm := .none } : Cell) = H1
    have z1 : H1.size = E.1 + σ.1 + 1 := by rw [← hH1, Array.size_push, hsz]
    have e1 : H1[E.1 + σ.1]? = some (arrV (E.2.2.2.2 14) n.toNatClampNeg (fun _ => .null)) := by rw [← hH1, ← hsz, Array.getElem?_push_size, ← arrV_new]
    have o1 : ∀ q : Nat, q < E.1 + σ.1 → H1[q]? = H[q]? := fun q hq => by rw [← hH1, Array.getElem?_push, if_neg (by omega)]
    have hh1 := qHd_push (ρ' := qclr σ.2 σ.1 none) (μ' := μ) (la' := la) (x := .inl (E.2.2.2.2 14, n.toNatClampNeg, .inr (.inr (.inr (.inr (fun _ => none)))))) hh hsz hlt z1 o1 e1 (by rw [qEnt14 hty, hsh2]; simp [qclr]) (fun b hb => qEnt_rho (qclr_ne hb)) (fun a ha => rfl)
    have := kk H1 locs arr hh1 hL rfl
    simp only [qSl_succ, hsh2] at this
    rw [show σ.1 + 1 - n0 = σ.1 - n0 + 1 by omega, show qSl σ.1 + n.toNatClampNeg - qSl n0 = qSl σ.1 - qSl n0 + n.toNatClampNeg by omega] at this
    simp only [List.map_cons, qRv, qAd_lo hlt] at this
    rw [hsz]
    exact this
  · cases h1
theorem qs_copy (T : qTabs) (B : qAt E rm p R s m args meth c mi d n0 σ μ la H locs arr ls) (hd : decode (qMeth mi).2.1 pc = .ok (.invokestatic idx, 3)) {u v w : Nat} (hpl : qPl (qOwn mi) idx = some (7, u, v, w)) (hs : qCopy pc st ls σ μ la = some (.inl q)) (kk : qKk E rm p l e R s m args below meth c n0 ls.length Q q) : W p l e R s m args below meth c H locs (σ.1 - n0) (qSl σ.1 - qSl n0) Q (F0 m pc arr (st.map (qRv E))) := by
  obtain ⟨⟨hx, hb, hml, hown, hts, hX, hnm, hfr, hlo⟩, hh, hL, hln⟩ := id B
  obtain ⟨hP, hz, hS, hn0, hn1, hro⟩ := id hh
  obtain ⟨hw, hm⟩ := T.1 _ _ _ hpl
  have w1 := hts _ (hw _ List.mem_cons_self)
  unfold qCopy at hs
  obtain ⟨n, r, rfl, h1⟩ := qpI_inv hs
  obtain ⟨dp, r, rfl, h2⟩ := qpI_inv h1
  obtain ⟨a, r, rfl, h3⟩ := qpR_inv h2
  obtain ⟨sp, r, rfl, h4⟩ := qpI_inv h3
  obtain ⟨a0, r, rfl, h5⟩ := qpR_inv h4
  show W p l e R s m args below meth c H locs (σ.1 - n0) (qSl σ.1 - qSl n0) Q (F0 m pc arr (.int n :: .int dp :: .ref (qAd E a) :: .int sp :: .ref (qAd E a0) :: r.map (qRv E)))
  have hnw : nativeFrameWords "java/lang/System" "arraycopy" 5 = 7 := by decide +kernel
  split at h5
  · rename_i hc
    obtain ⟨c1, c2, c3, c4, c5, c6, c7, c8⟩ := hc
    have hq := qN_inv h5
    obtain ⟨g1, g2⟩ := qOk_inv c7
    obtain ⟨g3, g4⟩ := qOk_inv c8
    rw [qLen, if_pos c7] at c4
    rw [qLen, if_pos c8] at c5
    rw [qAd_lo (a := a) (Nat.lt_of_lt_of_le g3 hn1), qAd_lo (a := a0) (Nat.lt_of_lt_of_le g1 hn1)]
    refine va_copyi (ty := .int) hx hb (by rw [hml, hL.1, hln]) hown w1 (hts _ qW1.1) (hts _ qW1.2.1) (hts _ qW1.2.2.1) hX.1 hP qWr_D hS a0 a 0 0 ((qWr_get g1).trans (by rw [qEnt10 g2])) ((qWr_get g3).trans (by rw [qEnt10 g4])) rfl rfl rfl (Int32.not_lt.mpr c1) (Int32.not_lt.mpr c2) (Int32.not_lt.mpr c3) c4 c5 (fun _ _ => rfl) (by omega) (by rw [qCat hX.2.2.2.2.2.2.2.2.2, hnw]; omega) hd fun H1 locs1 hP1 _ hS1 => ?_
    rw [qWr_set (σ' := σ) (μ' := qcpy μ a0 sp.toNatClampNeg a dp.toNatClampNeg n.toNatClampNeg) (la' := la) g3 rfl (by rw [qEnt10 g4, qcpy_eq]) (fun b hb => qEnt_mu (qcpy_ne hb))] at hP1
    subst hq
    exact kk H1 locs1 arr ⟨hP1, hz, hS1, hn0, hn1, fun b hb => Eq.trans (qcpy_ne (f := μ) (a := a) (by omega)) (hro b hb)⟩ hL rfl
  · split at h5
    · rename_i hc
      obtain ⟨c1, c2, c3, c4, c5, c6, c7, c8⟩ := hc
      have hq := qN_inv h5
      obtain ⟨g1, g2⟩ := qOk_inv c7
      obtain ⟨g3, g4⟩ := qOk_inv c8
      rw [qLen, if_pos c7] at c4
      rw [qLen, if_pos c8] at c5
      rw [qAd_lo (a := a) (Nat.lt_of_lt_of_le g3 hn1), qAd_lo (a := a0) (Nat.lt_of_lt_of_le g1 hn1)]
      refine va_copyl (ty := .long) hx hb (by rw [hml, hL.1, hln]) hown w1 (hts _ qW1.1) (hts _ qW1.2.1) (hts _ qW1.2.2.1) hX.1 hP qWr_D hS a0 a 1 1 ((qWr_get g1).trans (by rw [qEnt11 g2])) ((qWr_get g3).trans (by rw [qEnt11 g4])) rfl rfl rfl (Int32.not_lt.mpr c1) (Int32.not_lt.mpr c2) (Int32.not_lt.mpr c3) c4 c5 (fun _ _ => rfl) (by omega) (by rw [qCat hX.2.2.2.2.2.2.2.2.2, hnw]; omega) hd fun H1 locs1 hP1 _ hS1 => ?_
      rw [qWr_set (σ' := σ) (μ' := μ) (la' := qcpy la a0 sp.toNatClampNeg a dp.toNatClampNeg n.toNatClampNeg) g3 rfl (by rw [qEnt11 g4, qcpy_eq]) (fun b hb => qEnt_la (qcpy_ne hb))] at hP1
      subst hq
      exact kk H1 locs1 arr ⟨hP1, hz, hS1, hn0, hn1, hro⟩ hL rfl
    · cases h5
end
