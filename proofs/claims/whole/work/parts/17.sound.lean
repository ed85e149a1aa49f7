def qPc (E : qEnv) (rm : qMu) (as : List Value) (σ : qSg) (μ : qMu) (la : qLa) : Array Value → State → Prop := fun a U => a = (as.map (qRv E)).toArray ∧ va_P E.2.2.2.1 vwCl (qWr E σ μ la) U.heap ∧ U.heap.size = E.1 + σ.1 ∧ qX E rm U
def qQc (E : qEnv) (rm : qMu) (q : qRes) : Array Value → State → Outcome → State → Prop := fun _ st o t => o = .returned (q.1.map (qRv E)) ∧ va_P E.2.2.2.1 vwCl (qWr E q.2.1 q.2.2.1 q.2.2.2) t.heap ∧ va_F (qA E) st t ∧ q.2.1.1 ≤ 1000 ∧ ∀ a, 1000 ≤ a → q.2.2.1 a = rm a
def qRoom (d mc ms : Nat) : Room := { frames := d + 1, cells := mc, slots := ms, locals := 64 * (d + 1) }
def qBody (l : Launch) (E : qEnv) (rm : qMu) (n : Nat) : Prop := ∀ (d mi pc : Nat) (st ls : List Value) (σ : qSg) (μ : qMu) (la : qLa) (q : qRes), qGo n d mi pc st ls σ μ la = some q → ∀ (p : Program) (e : Env) (R : Room) (s : State) (m : MethodId) (args : Array Value) (below : List Frame) (meth : Method) (c : Code) (n0 : Nat) (Q : State → Prop) (H : Heap) (locs : List Loc) (arr : Array Slot), qAt E rm p R s m args meth c mi d n0 σ μ la H locs arr ls → (q.2.1.1 - n0 ≤ R.cells ∧ qSl q.2.1.1 - qSl n0 ≤ R.slots) →
  (∀ (H' : Heap) (locs' : List Loc) (arr' : Array Slot) (pc' : Nat), qHd E rm s n0 q.2.1 q.2.2.1 q.2.2.2 H' locs' → qRetOk mi pc' q.1 → W p l e R s m args below meth c H' locs' (q.2.1.1 - n0) (qSl q.2.1.1 - qSl n0) Q (F0 m pc' arr' (q.1.toList.map (qRv E)))) → W p l e R s m args below meth c H locs (σ.1 - n0) (qSl σ.1 - qSl n0) Q (F0 m pc arr (st.map (qRv E)))
theorem qPc_blind {E : qEnv} {rm : qMu} {as : List Value} {σ : qSg} {μ : qMu} {la : qLa} : FrameBlind (qPc E rm as σ μ la) := by
  intro a U g mk h
  obtain ⟨h1, h2, h3, h4⟩ := h
  exact ⟨h1, h2, h3, qX_warm (s := U) (U := U.calling g mk a) (State.WarmedH.refl U) (fun _ _ _ => rfl) h4⟩
abbrev qWs (m : Nat) : List Cond := Cond.code (qMeth m).1 (qMeth m).2.1 (qMx m) (qRt m) :: qG
set_option maxHeartbeats 4000000 in
theorem qMet (T : qTabs) {l : Launch} {E : qEnv} {rm : qMu} {n d m' : Nat} {as : List Value} {σ : qSg} {μ : qMu} {la : qLa} {q : qRes} (ih : qBody l E rm n) (hm : m' < qLaw) (hg : qGo n d m' 0 [] (qLs0 m' as) σ μ la = some q) (hl : (qArgL as).length ≤ qMx m') (hn1 : σ.1 ≤ 1000) (hro : ∀ a, 1000 ≤ a → μ a = rm a) :
    Met l (qMeth m').1 (qWs m') (qRoom d (q.2.1.1 - σ.1) (qSl q.2.1.1 - qSl σ.1)) (qPc E rm as σ μ la) (qQc E rm q) (q.2.1.1 - σ.1) (qSl q.2.1.1 - qSl σ.1) (qA E) := by
  obtain ⟨-, -, hcls, hpn, -, -, -⟩ := T.2.2 m' hm
  refine Met.ofW (cc := (qMeth m').2.1) (maxL := qMx m') (ret := qRt m') hpn rfl ?_
  intro p e s m args below meth c s₁ B hml hv
  obtain ⟨rfl, hP, hz, hX⟩ := hv
  have hx := B.exec
  have hb := B.bytes
  have hr := B.returns
  have hts := atoms_spec (ws := qWs m') B.pre
  have hown : s.vm.findClass (qRn (qOwn m')) = some m.cls := by rw [← hcls]; exact findClass_of_methodNamed B.named
  have hlocks := B.notSynchronized
  have hnm : meth.name = (qMeth m').1.name := (name_of_methodNamed B.named B.method).1
  obtain ⟨hLR, hLl⟩ := qLs0_LR (E := E) hX.2.2.2.2.2.2.2.2.2 hl
  rw [lg_entry_eq]
  have hh : qHd E rm s σ.1 σ μ la s.heap [] := ⟨hP, hz, va_S.rf, Nat.le_refl _, hn1, hro⟩
  have key := ih d m' 0 [] (qLs0 m' as) σ μ la q hg p e (headSpec (qWs m') (qRoom d (q.2.1.1 - σ.1) (qSl q.2.1.1 - qSl σ.1))).room s m ((as.map (qRv E)).toArray) below meth c σ.1 (MQ below (qQc E rm q) ((as.map (qRv E)).toArray) s (q.2.1.1 - σ.1) (qSl q.2.1.1 - qSl σ.1) (qA E)) s.heap [] _
    ⟨⟨hx, hb, hml, hown, fun w hw => hts w (List.mem_cons_of_mem _ hw), hX, fun z => hnm.trans z, Nat.le_refl _, Nat.le_refl _⟩, hh, hLR, hLl⟩ ⟨Nat.le_refl _, Nat.le_refl _⟩ ?_
  · rw [Nat.sub_self, Nat.sub_self] at key
    exact key
  · intro H' locs' arr' pc' hh' hret
    have hq : ∀ t : State, t.heap = H' → s.WarmedH t.vm → qQc E rm q ((as.map (qRv E)).toArray) s (.returned (q.1.map (qRv E))) t := fun t ht _ => ⟨rfl, by rw [ht]; exact hh'.1, hh'.2.2.1.F ht, hh'.2.2.2.2.1, hh'.2.2.2.2.2⟩
    have hf : ∀ x ∈ locs', qA E x.base := hh'.2.2.1.2.2
    obtain ⟨r, σ', μ', la'⟩ := q
    match r, hret, hq with
    | none, ⟨h1, h2⟩, hq => exact W.vret hx hb (by rw [hr]; exact h2) hq hf h1
    | some (.int v), ⟨h1, ty, h2, h3⟩, hq => exact W.zret hx hb (by rw [hr]; exact h2) h3 hq hf h1
    | some (.long v), ⟨h1, h2⟩, hq => exact W.lret hx hb (by rw [hr]; exact h2) hq hf h1
    | some .null, h, hq => exact h.elim
    | some (.float _), h, hq => exact h.elim
    | some (.double _), h, hq => exact h.elim
    | some (.ref _), h, hq => exact h.elim
    | some (.retAddr _), h, hq => exact h.elim
section
variable {E : qEnv} {rm : qMu} {p : Program} {l : Launch} {e : Env} {R : Room} {s : State} {m : MethodId} {args : Array Value} {below : List Frame} {meth : Method} {c : Code} {mi d n0 : Nat} {Q : State → Prop} {H : Heap} {locs : List Loc} {arr : Array Slot} {pc : Nat} {st ls rest : List Value} {σ : qSg} {μ : qMu} {la : qLa} {q : qRes} {a : Array Value}
/-- behind a call -/
theorem qAfter (hh : qHd E rm s n0 σ μ la H locs) (hL : qLR E arr ls) (hmo : σ.1 ≤ q.2.1.1)
    (hr : va_Run p l e R s m args below meth c H locs (σ.1 - n0) (qSl σ.1 - qSl n0) (q.2.1.1 - σ.1) (qSl q.2.1.1 - qSl σ.1) (F0 m pc arr (st.map (qRv E))) (rest.map (qRv E)) (qQc E rm q a) (qA E))
    (kk : qKk E rm p l e R s m args below meth c n0 ls.length Q (pc + 3, q.1.toList ++ rest, ls, q.2.1, q.2.2.1, q.2.2.2)) : W p l e R s m args below meth c H locs (σ.1 - n0) (qSl σ.1 - qSl n0) Q (F0 m pc arr (st.map (qRv E))) := by
  intro T hT X
  obtain ⟨v, st₀, t, T', L, h0, X', hLc, e1, e2, ⟨hv, hP1, hF, h1000, hro1⟩, st⟩ := hr T hT X
  obtain ⟨hP, hz, hS, hn0, hn1, hro⟩ := hh
  cases hv
  rw [va_F, h0] at hF
  have hmono := qSl_mono hmo
  have hmono0 := qSl_mono hn0
  have hh1 : qHd E rm s n0 q.2.1 q.2.2.1 q.2.2.2 t.heap (locs ++ L) := by
    refine ⟨hP1, hz, ⟨Nat.le_trans hS.1 hF.1, fun x h1 h2 => ?_, fun x hx => ?_⟩, Nat.le_trans hn0 hmo, h1000, hro1⟩
    · rw [hF.2 x (Nat.lt_of_lt_of_le h1 hS.1) h2]
      exact hS.2.1 x h1 h2
    · rcases List.mem_append.mp hx with h | h
      · exact hS.2.2 x h
      · exact hLc x h
  have k := kk t.heap (locs ++ L) arr hh1 hL rfl
  simp only at k
  rw [show q.2.1.1 - n0 = σ.1 - n0 + (q.2.1.1 - σ.1) by omega, show qSl q.2.1.1 - qSl n0 = qSl σ.1 - qSl n0 + (qSl q.2.1.1 - qSl σ.1) by omega] at k
  obtain ⟨t2, a1, b1⟩ := k T' e1 X'
  refine ⟨t2, st t2 ?_, b1⟩
  have hst : (q.1.toList ++ rest).map (qRv E) = (q.1.map (qRv E)).toList ++ rest.map (qRv E) := by
    cases q.1 <;> simp
  rw [hst] at a1
  exact a1
end
