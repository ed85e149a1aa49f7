/-! what the law's start gives, kept through every call -/
def qX (E : qEnv) (rm : qMu) (s : State) : Prop :=
  va_K E.2.2.2.1 vwCl (qTys E) s ∧
  (∀ i, i < 5 → va_Z (qStat i).1 (qStat i).2.1 (qStat i).2.2 (qRv E (qSv i)) (qA E) s s.heap) ∧
  (∀ i, i < 3 → va_T .int (E.2.1 (1000 + i)) (qSh (1000 + i)).2 (fun j => .int (rm (1000 + i) j)) (qA E) s s.heap) ∧
  (va_T .int (E.2.1 1003) (rm 1003 1000).toNatClampNeg (fun j => .int (rm 1003 j)) (qA E) s s.heap ∧ rm 1003 1000 = Int32.ofNat (rm 1003 1000).toNatClampNeg) ∧
  (∀ i, i < 5 → va_O RJ0 (E.2.1 (1010 + i)) (qA E) s s.heap ∧ va_OF RJ0 "coder" "B" (.int 0) (E.2.1 (1010 + i)) (qA E) s s.heap ∧ va_OF RJ0 "value" "[B" (.ref (E.2.1 (1020 + i))) (E.2.1 (1010 + i)) (qA E) s s.heap ∧ va_T .byte (E.2.1 (1020 + i)) (qSh (1020 + i)).2 (fun j => .int (rm (1020 + i) j)) (qA E) s s.heap ∧ vk_R RX3 (qStrI i) (qStrT i) (E.2.1 (1010 + i)) s) ∧
  (∀ q ∈ qNestM, va_Nw (.methodLinkNest q.1 q.2.1 q.2.2 RX6) s) ∧ (∀ q ∈ qNestF, va_Nw (.fieldLinkNest q.1 q.2.1 RX6 q.2.2.1 q.2.2.2 RX6) s) ∧ va_AO RX4 s ∧ va_AO RX2 s ∧ E.2.2.1.category = 1
theorem qX_warm {E : qEnv} {rm : qMu} {s U : State} (hW : s.WarmedH U.vm) (hq : ∀ q : Nat, q < s.heap.size → ¬ qA E q → U.heap[q]? = s.heap[q]?) (h : qX E rm s) : qX E rm U := by
  obtain ⟨h1, h2, h3, ⟨h4, h4'⟩, h5, h6, h7, h8, h9, h10⟩ := h
  refine ⟨va_K.moved hW.alike h1, fun i hi => (va_Z.moved hW.alike (h2 i hi)).kept hq, fun i hi => (va_T.moved hW.alike (h3 i hi)).kept hq, ⟨(va_T.moved hW.alike h4).kept hq, h4'⟩, fun i hi => ?_, fun q hm => va_Nw.warmM hW (h6 q hm), fun q hm => va_Nw.warmF hW (h7 q hm), va_AO.moved hW.alike h8, va_AO.moved hW.alike h9, h10⟩
  obtain ⟨a1, a2, a3, a4, a5⟩ := h5 i hi
  exact ⟨(va_O.moved hW.alike a1).kept hq, (va_OF.moved hW.alike a2).kept hq, (va_OF.moved hW.alike a3).kept hq, (va_T.moved hW.alike a4).kept hq, vk_R.warm hW a5⟩
/-- what stands while method mi runs: the machine, its code, the tables' words, what the start gave, room for d calls below -/
def qCx (E : qEnv) (rm : qMu) (p : Program) (R : Room) (s : State) (m : MethodId) (args : Array Value) (meth : Method) (c : Code) (mi d : Nat) : Prop :=
  p.tables.exec = Jvm.exec ∧ c.code = (qMeth mi).2.1 ∧ c.maxLocals = qMx mi ∧ s.vm.findClass (qRn (qOwn mi)) = some m.cls ∧ (∀ w ∈ qG, w.before args s = true) ∧ qX E rm s ∧ ((qMeth mi).1.name = "<init>" → meth.name = "<init>") ∧ d + 1 ≤ R.frames ∧ 64 * (d + 1) ≤ R.locals
/-- what the heap holds -/
def qHd (E : qEnv) (rm : qMu) (s : State) (n0 : Nat) (σ : qSg) (μ : qMu) (la : qLa) (H : Heap) (locs : List Loc) : Prop :=
  va_P E.2.2.2.1 vwCl (qWr E σ μ la) H ∧ s.heap.size = E.1 + n0 ∧ va_S (qA E) s.heap H locs ∧ n0 ≤ σ.1 ∧ σ.1 ≤ 1000 ∧ ∀ a, 1000 ≤ a → μ a = rm a
def qSl (n : Nat) : Nat := ((List.range n).map fun a => (qSh a).2).sum
theorem qSl_succ (n : Nat) : qSl (n + 1) = qSl n + (qSh n).2 := by simp [qSl, List.range_succ]
theorem qSl_mono {a b : Nat} (h : a ≤ b) : qSl a ≤ qSl b := by
  induction h with
  | refl => exact Nat.le_refl _
  | step _ ih => rw [qSl_succ]; omega
/-- the walk goes on at q -/
def qKk (E : qEnv) (rm : qMu) (p : Program) (l : Launch) (e : Env) (R : Room) (s : State) (m : MethodId) (args : Array Value) (below : List Frame) (meth : Method) (c : Code) (n0 : Nat) (nl : Nat) (Q : State → Prop) (q : qSt) : Prop :=
  ∀ (H : Heap) (locs : List Loc) (arr : Array Slot), qHd E rm s n0 q.2.2.2.1 q.2.2.2.2.1 q.2.2.2.2.2 H locs → qLR E arr q.2.2.1 → q.2.2.1.length = nl → W p l e R s m args below meth c H locs (q.2.2.2.1.1 - n0) (qSl q.2.2.2.1.1 - qSl n0) Q (F0 m q.1 arr (q.2.1.map (qRv E)))
theorem qW0 : Cond.arrayClass .int ∈ qG ∧ Cond.arrayClass .long ∈ qG ∧ Cond.arrayClass .boolean ∈ qG := by decide +kernel
theorem qW1 : Cond.native arraycopyName ∈ qG ∧ Cond.static arraycopyName ∈ qG ∧ Cond.initialized "java/lang/System" ∈ qG ∧ Cond.instanceMethod objectInit ∈ qG ∧ Cond.code objectInit ⟨#[0xb1]⟩ 1 none ∈ qG := by decide +kernel
theorem qU0 : ∀ w ∈ u_ws RX0 TX0 3, w ∈ qG := by decide +kernel
theorem qU1 : ∀ w ∈ u_ws RX1 TX1 8, w ∈ qG := by decide +kernel
theorem qU2 : ∀ w ∈ u_ws RX2 TX2 3, w ∈ qG := by decide +kernel
theorem qU3 : ∀ w ∈ u_ws RX3 TX3 4, w ∈ qG := by decide +kernel
theorem qU4 : ∀ w ∈ u_ws RX4 TX4 13, w ∈ qG := by decide +kernel
theorem qU5 : ∀ w ∈ u_ws RX5 TX5 5, w ∈ qG := by decide +kernel
theorem qU6 : ∀ w ∈ u_ws RX6 TX6 7, w ∈ qG := by decide +kernel
theorem qU7 : ∀ w ∈ u_ws RX7 TX7 26, w ∈ qG := by decide +kernel
