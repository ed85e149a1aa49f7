/-! the law's start is a state of the small machine -/
theorem qArrC {s : State} {args : Array Value} {ty : FieldType} (h : (Cond.arrayClass ty).before args s = true) (hty : ∀ C, ty ≠ .object C) : ∃ cA : ClassId, ArrOfT s cA ty ∧ va_RA s cA ty := by
  obtain ⟨c, k, comp, h1, h2, h3⟩ := Cond.arrayClass_spec h
  refine ⟨c, fun n z => ⟨fun k h => (by cases h), k, h2, comp, h3⟩, ?_⟩
  cases ty with
  | object C => exact absurd rfl (hty C)
  | _ => exact h1
theorem qArrO {s : State} {args : Array Value} {C : String} (h : (Cond.arrayOver (.object C)).before args s = true) : ∃ cA : ClassId, ArrOfT s cA (.object C) ∧ va_RA s cA (.object C) := by
  obtain ⟨comp, c, k, h1, h2, h3, h4, h5⟩ := Cond.arrayOver_spec h
  exact ⟨c, fun n z => ⟨fun k h => (by cases h), k, h3, comp, h4⟩, k, comp, h3, h4, h1, h5⟩
set_option maxHeartbeats 4000000 in
theorem qStart {p : Program} {s : State} {m : MethodId} {meth : Method} {c : Code} {b L : Nat} {xs : Nat → Int32} (hL : L ≤ 384) (C0 : lw_At p s m meth c b L xs) : ∃ E : qEnv, E.1 = s.heap.size ∧ qAd E 1003 = b ∧ qX E (qRm L xs) s := by
  obtain ⟨hx, hb, hr, hml, hown, hts, hX, hbl, hlocks, hgv⟩ := C0
  have htq : ∀ w ∈ qG, w.before #[Value.ref b] s = true := fun w hw => hts w (List.mem_filter.mp hw).1
  have hA : ∀ a : Nat, a < s.heap.size → ¬ (fun q : Nat => s.heap.size ≤ q) a := fun a h => Nat.not_le.mpr h
  -- classes
  have hk : ∀ ci, ∃ q : ClassId × (Nat → Nat), ci < 8 → u_Kn s (qCls ci).1 (qCls ci).2.1 (qCls ci).2.2 q.1 q.2 := by
    intro ci
    by_cases h8 : ci < 8
    · obtain ⟨-, -, hU, -, -⟩ := qClsOk ci h8
      obtain ⟨cC, iS, h⟩ := u_known (n := (qCls ci).2.2) htq hU (hts _ (qIns8 ci h8))
      exact ⟨(cC, iS), fun _ => h⟩
    · exact ⟨(0, fun _ => 0), fun h => absurd h h8⟩
  obtain ⟨dk, hdk⟩ := Classical.axiomOfChoice hk
  -- arrays
  obtain ⟨a10, b10⟩ := qArrC (htq _ qW0.1) (fun C h => by cases h)
  obtain ⟨a11, b11⟩ := qArrC (htq _ qW0.2.1) (fun C h => by cases h)
  obtain ⟨a12, b12⟩ := qArrC (htq _ qW0.2.2) (fun C h => by cases h)
  obtain ⟨a13, b13⟩ := qArrO (hts _ qStW.2.2.2.2.1)
  obtain ⟨a14, b14⟩ := qArrO (hts _ qStW.2.2.2.2.2)
  -- rows of the class
  obtain ⟨t0, e0, T0⟩ := va_Tof (tm := .static "NoonPaces" "COSTS" "[I") (N := 5) (f := fun j => .int ((qCst.getD 0 []).getD j 0)) (by decide) (qFlat hgv _ qRowA.1) (va_eqt (qFlat hgv _ qRowL.1)) (fun j hj => va_eqt (qFlat hgv _ (qRow0 j hj))) hA
  obtain ⟨t1, e1, T1⟩ := va_Tof (tm := .static "NoonPaces" "FINES" "[I") (N := 4) (f := fun j => .int ((qCst.getD 1 []).getD j 0)) (by decide) (qFlat hgv _ qRowA.2.1) (va_eqt (qFlat hgv _ qRowL.2.1)) (fun j hj => va_eqt (qFlat hgv _ (qRow1 j hj))) hA
  obtain ⟨t2, e2, T2⟩ := va_Tof (tm := .static "NoonPaces" "KIND_ABOVE" "[I") (N := 6) (f := fun j => .int ((qCst.getD 2 []).getD j 0)) (by decide) (qFlat hgv _ qRowA.2.2.1) (va_eqt (qFlat hgv _ qRowL.2.2)) (fun j hj => va_eqt (qFlat hgv _ (qRow2 j hj))) hA
  -- the formatter
  have hfz := va_Zqof (hts _ (qStW.2.1 4 (by decide)).1) (hts _ (qStW.2.1 4 (by decide)).2) (qFlat hgv _ qRowA.2.2.2.2) hA
  obtain ⟨fv, hfc, hfv⟩ : ∃ fv : Value, fv.category = 1 ∧ va_Z (qStat 4).1 (qStat 4).2.1 (qStat 4).2.2 fv (fun q : Nat => s.heap.size ≤ q) s s.heap := by
    rcases hfz with h | ⟨t, h⟩
    · exact ⟨.null, rfl, h⟩
    · exact ⟨.ref t, rfl, h⟩
  -- texts
  obtain ⟨adK, adV, hS, hev⟩ := vk_Sof (N := 5) (tm := fun i => .string "NoonPaces$Tape" (qStrI i)) (len := qBytL) (byt := qByt) (by decide) (fun i hi => qFlat hgv _ (qStrs i hi).1) (fun i hi => qFlat hgv _ (qStrs i hi).2.1) (fun i hi => qFlat hgv _ (qStrs i hi).2.2.1) (fun i hi => qFlat hgv _ (qStrs i hi).2.2.2) (fun i hi j hj => qFlat hgv _ (qStrB i hi j hj)) (fun i j hi hj hn => (qStrN i hi j hj hn).imp (qFlat hgv _) (qFlat hgv _)) hA
  -- the whole
  let ro : Nat → Nat := fun a => if a = 1000 then t0 else if a = 1001 then t1 else if a = 1002 then t2 else if a = 1003 then b else if a < 1020 then adK (a - 1010) else adV (a - 1020)
  let cA : Nat → ClassId := fun a => if a = 10 then a10 else if a = 11 then a11 else if a = 12 then a12 else if a = 13 then a13 else a14
  refine ⟨(s.heap.size, ro, fv, (fun i => (dk i).1, fun i => (dk i).2), cA), rfl, rfl, ?_⟩
  have hroK : ∀ i, i < 5 → ro (1010 + i) = adK i := fun i hi => by
    show (if 1010 + i = 1000 then t0 else if 1010 + i = 1001 then t1 else if 1010 + i = 1002 then t2 else if 1010 + i = 1003 then b else if 1010 + i < 1020 then adK (1010 + i - 1010) else adV (1010 + i - 1020)) = adK i
    rw [if_neg (by omega), if_neg (by omega), if_neg (by omega), if_neg (by omega), if_pos (by omega), Nat.add_sub_cancel_left]
  have hroV : ∀ i, i < 5 → ro (1020 + i) = adV i := fun i hi => by
    show (if 1020 + i = 1000 then t0 else if 1020 + i = 1001 then t1 else if 1020 + i = 1002 then t2 else if 1020 + i = 1003 then b else if 1020 + i < 1020 then adK (1020 + i - 1010) else adV (1020 + i - 1020)) = adV i
    rw [if_neg (by omega), if_neg (by omega), if_neg (by omega), if_neg (by omega), if_neg (by omega), Nat.add_sub_cancel_left]
  refine ⟨⟨fun ci q hq => ?_, fun k q hq => ?_⟩, fun i hi => ?_, fun i hi => ?_, ⟨?_, ?_⟩, fun i hi => ?_, fun q hq => va_Nw.of rfl (hts _ (qStW.2.2.1 q hq)), fun q hq => va_Nw.of rfl (hts _ (qStW.2.2.2.1 q hq)), va_AO.of (hts _ qStW.2.2.2.2.1), va_AO.of (hts _ qStW.2.2.2.2.2), hfc⟩
  · have h8 : ci < 8 := (List.getElem?_eq_some_iff.mp hq).1
    obtain ⟨hcl, -, -, -, -⟩ := qClsOk ci h8
    cases hcl.symm.trans hq
    exact hdk ci h8
  · match k, hq with
    | 0, hq => cases hq; exact b10
    | 1, hq => cases hq; exact b11
    | 2, hq => cases hq; exact b12
    | 3, hq => cases hq; exact b13
    | 4, hq => cases hq; exact b14
    | k + 5, hq => simp [qTys] at hq
  · have w1 := hts _ (qStW.2.1 i hi).1
    have w2 := hts _ (qStW.2.1 i hi).2
    match i, hi, w1, w2 with
    | 0, _, w1, w2 => exact va_Zref w1 w2 e0 hA
    | 1, _, w1, w2 => exact va_Zref w1 w2 e1 hA
    | 2, _, w1, w2 => exact va_Zref w1 w2 e2 hA
    | 3, _, w1, w2 => exact va_Zof w1 w2 (va_eqt (qFlat hgv _ qRowA.2.2.2.1)) hA
    | 4, _, w1, w2 => exact hfv
    | i + 5, hi, _, _ => omega
  · match i, hi with
    | 0, _ => exact T0
    | 1, _ => exact T1
    | 2, _ => exact T2
    | i + 3, hi => omega
  · obtain ⟨scr, g1, g2, g3, g4, g5⟩ := hX
    have eL : (qRm L xs 1003 1000).toNatClampNeg = L := by
      show (Int32.ofNat L).toNatClampNeg = L
      exact nI_clamp (by omega)
    rw [eL]
    refine ⟨scr, g1, g2, g3, Nat.le_of_eq g4.symm, by rw [g4], fun j hj => ?_, hA b hbl⟩
    rw [g5 j hj]
    show some (Value.int (xs j)) = some (Value.int (if j = 1000 then Int32.ofNat L else xs j))
    rw [if_neg (by omega)]
  · show Int32.ofNat L = Int32.ofNat (Int32.ofNat L).toNatClampNeg
    rw [show (Int32.ofNat L).toNatClampNeg = L from nI_clamp (by omega)]
  · have hq := hS.1 i hi
    have hv := hev i hi
    show va_O RJ0 (ro (1010 + i)) _ s s.heap ∧ va_OF RJ0 "coder" "B" (.int 0) (ro (1010 + i)) _ s s.heap ∧ va_OF RJ0 "value" "[B" (.ref (ro (1020 + i))) (ro (1010 + i)) _ s s.heap ∧ va_T .byte (ro (1020 + i)) (qSh (1020 + i)).2 (fun j => .int (qRm L xs (1020 + i) j)) _ s s.heap ∧ vk_R RX3 (qStrI i) (qStrT i) (ro (1010 + i)) s
    rw [hroK i hi, hroV i hi]
    refine ⟨hq.1, hq.2.1, hq.2.2.1, ?_, vk_R.of (hts _ (qStW.1 i hi)) hv⟩
    have h4 := hq.2.2.2
    match i, hi, h4 with
    | 0, _, h4 => exact h4
    | 1, _, h4 => exact h4
    | 2, _, h4 => exact h4
    | 3, _, h4 => exact h4
    | 4, _, h4 => exact h4
    | i + 5, hi, _ => omega
theorem qSl1000 : qSl 1000 ≤ 7302249 := by decide +kernel
set_option maxHeartbeats 4000000 in
/-- the claim out of the small machine's run of the law -/
theorem whole_of (T : qTabs) (hlaw : ∀ (L : Nat) (xs : Nat → Int32), L ≤ 384 → qEx 30 qLaw 0 [] [.ref 1003, qUn, qUn, qUn] (0, fun _ _ => none) (qRm L xs) (fun _ _ => 0) (fun r σ _ _ => r = some (.int 1) ∧ σ.1 ≤ 1000)) {p : Program} {e : Env} {s : State} {m : MethodId} {below : List Frame} {meth : Method} {c : Code} (l : Launch) {b L : Nat} {xs : Nat → Int32} (hL : L ≤ 384) (C0 : lw_At p s m meth c b L xs) : W p l e room_1 s m #[Value.ref b] below meth c s.heap [] 0 0 (lw_Z below #[Value.ref b] s) (entryFrame m ([Value.ref b] : List Value).toArray 4) := by
  obtain ⟨E, hE1, hEb, hX⟩ := qStart hL C0
  obtain ⟨hx, hb, hr, hml, hown, hts, hXs, hbl, hlocks, hgv⟩ := C0
  obtain ⟨n, q, hg, hq1, hq2⟩ := hlaw L xs hL
  have hQ : (#[Value.ref b] : Array Value) = (([Value.ref 1003] : List Value).map (qRv E)).toArray := by
    show _ = #[Value.ref (qAd E 1003)]
    rw [hEb]
  obtain ⟨hLR, hLl⟩ := qLs0_LR (E := E) (m' := qLaw) (as := [.ref 1003]) hX.2.2.2.2.2.2.2.2.2 (by decide +kernel)
  have hls : qLs0 qLaw [.ref 1003] = [.ref 1003, qUn, qUn, qUn] := by decide +kernel
  rw [hls] at hLR hLl
  have hP : va_P E.2.2.2.1 vwCl (qWr E (0, fun _ _ => none) (qRm L xs) (fun _ _ => 0)) s.heap := fun k q hq => by
    simp [qWr] at hq
  have hh : qHd E (qRm L xs) s 0 (0, fun _ _ => none) (qRm L xs) (fun _ _ => 0) s.heap [] := ⟨hP, by rw [hE1]; rfl, va_S.rf, Nat.le_refl _, Nat.zero_le _, fun _ _ => rfl⟩
  have hsl := qSl_mono hq2
  have hcell : q.2.1.1 - 0 ≤ room_1.cells ∧ qSl q.2.1.1 - qSl 0 ≤ room_1.slots := ⟨by show q.2.1.1 - 0 ≤ 600000; omega, by show qSl q.2.1.1 - qSl 0 ≤ 7302249; have := qSl1000; omega⟩
  have key := qRun T l E (qRm L xs) n 30 qLaw 0 [] _ _ _ _ q hg p e room_1 s m #[Value.ref b] below meth c 0 (lw_Z below #[Value.ref b] s) s.heap [] _
    ⟨⟨hx, hb, hml, hown, fun w hw => hts w (List.mem_filter.mp hw).1, hX, fun z => absurd z (by decide +kernel), by decide +kernel, by decide +kernel⟩, hh, hLR, hLl⟩ hcell ?_
  · rw [lg_entry_eq]
    have e1 : List.map (qRv E) [Value.ref 1003] = [Value.ref b] := by
      show [Value.ref (qAd E 1003)] = _
      rw [hEb]
    rw [e1] at key
    exact key
  · intro H' locs' arr' pc' hh' hret
    rw [hq1] at hret ⊢
    refine va_forget (fun x hx => by have := hh'.2.2.1.2.2 x hx; rw [← hE1]; exact this) ?_
    refine W.widen (k := 600000) (n := 7302249) (by omega) (by have := qSl1000; omega) ?_
    exact lw_ret hx hb hr hlocks hret.1
