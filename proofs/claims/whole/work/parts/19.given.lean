/-! THE CLAIM OUT OF ONE WALK OF THE LAW'S BODY. Your part is whole_start (and what it stands on); all else here is the same for every law, but numbers. -/
def R_law : String := "NoonPacesLaw"
def lw_P (b : Addr) (xs : List Int32) (args : Array Value) (s : State) : Prop := args = #[.ref b] ∧ s.IntsAt b xs ∧ xs.length ≤ 384 ∧ (Jvm.Cond.and given_1 narrow_1).before args s = true
def lw_Q (_ : Array Value) (s : State) (o : Outcome) (t : State) : Prop := o = .returned (some (.int 1)) ∧ Framed s o t [] 600000 7302249
def lw_Z (below : List Frame) (a : Array Value) (s : State) : State → Prop := fun t => ∃ o, t.status = .running ∧ Ended t below o ∧ lw_Q a s o t
/-- the law's own end, with 1 on the stack, nothing written that was there before, its room as the claim has it -/
theorem lw_ret {p : Program} {l : Launch} {e : Env} {s : State} {m : MethodId} {below : List Frame} {meth : Method} {c : Code} {b : Nat} (hx : p.tables.exec = Jvm.exec) (hb : c.code = code) (hr : meth.sig.returnType = ret) (hlocks : meth.locks = false) {pc : Nat} {H : Heap} {ls : Array Slot} (hdg : decode code pc = .ok (.ireturn, 1)) : W p l e room_1 s m #[Value.ref b] below meth c H [] 600000 7302249 (lw_Z below #[Value.ref b] s) (F0 m pc ls [.int 1]) := by
  intro T hT X
  obtain ⟨fs, hret, hrun, hended, hW, hframe⟩ := X.leave (v := some (.int 1)) (hlocks := hlocks) (fun h => by rw [hr] at h; cases h)
  have hmeth' : T.vm.method? m = some meth := X.method'
  refine ⟨T.setFrames fs, ?_, .returned (some (.int 1)), hrun, hended, rfl, ⟨_, rfl⟩, hW, hframe⟩
  jvm_step X.here [X.here.top, hx, hb, hdg, hmeth', hr, ret, narrow_b1]
  (try refine ⟨rfl, ?_⟩); (try refine ⟨rfl, ?_⟩)
  first | (intro acts; rw [hret _ acts rfl rfl rfl]) | rw [hret _ _ rfl rfl rfl]
  exact Steps.refl _
/-- what holds at the law's entry: the machine, the code, the tables' words (any of lw_tbl by 'hts w (by decide +kernel)'), the script of L ints xs at the cell b, what the Statement gives of the start (any of its parts by flat_of_before) -/
def lw_At (p : Program) (s : State) (m : MethodId) (meth : Method) (c : Code) (b L : Nat) (xs : Nat → Int32) : Prop :=
  p.tables.exec = Jvm.exec ∧ c.code = code ∧ meth.sig.returnType = ret ∧ c.maxLocals = 4 ∧ s.vm.findClass R_law = some m.cls ∧ (∀ w ∈ lw_tbl, w.before #[Value.ref b] s = true) ∧ va_X b L xs s s.heap ∧ b < s.heap.size ∧ meth.locks = false ∧ (Jvm.Cond.and given_1 narrow_1).before #[Value.ref b] s = true

/-! the law's start -/
def qCst : List (List Int32) := [[1, 0, 2, 2, 3], [3, 5, 9, 30], [-1, 0, 1, 1, 0, 4]]
def qBytL : List Nat := [2, 2, 5, 5, 4]
def qByt : List (List Int32) := [[99, 116], [102, 111], [46, 35, 126, 94, 43], [112, 99, 100, 101, 98], [110, 101, 115, 119]]
/-- what lies outside: the script of L ints xs (its length at place 1000), the class's three rows, the texts' bytes -/
def qRm (L : Nat) (xs : Nat → Int32) : qMu := fun a j => if a = 1003 then (if j = 1000 then Int32.ofNat L else xs j) else if a < 1003 then (qCst.getD (a - 1000) []).getD j 0 else (qByt.getD (a - 1020) []).getD j 0
theorem qFlat {b : Nat} {s : State} (h : (Jvm.Cond.and given_1 narrow_1).before #[Value.ref b] s = true) (w : Cond) (hw : decide (w ∈ flatC (Jvm.Cond.and given_1 narrow_1)) = true) : w.before #[Value.ref b] s = true := flat_of_before _ h w (of_decide_eq_true hw)
theorem qRow0 : ∀ j, j < 5 → decide (Cond.eq (.elem (.static "NoonPaces" "COSTS" "[I") (.int (Int32.ofNat j))) (.int ((qCst.getD 0 []).getD j 0)) ∈ flatC (Jvm.Cond.and given_1 narrow_1)) = true := by decide +kernel
theorem qRow1 : ∀ j, j < 4 → decide (Cond.eq (.elem (.static "NoonPaces" "FINES" "[I") (.int (Int32.ofNat j))) (.int ((qCst.getD 1 []).getD j 0)) ∈ flatC (Jvm.Cond.and given_1 narrow_1)) = true := by decide +kernel
theorem qRow2 : ∀ j, j < 6 → decide (Cond.eq (.elem (.static "NoonPaces" "KIND_ABOVE" "[I") (.int (Int32.ofNat j))) (.int ((qCst.getD 2 []).getD j 0)) ∈ flatC (Jvm.Cond.and given_1 narrow_1)) = true := by decide +kernel
theorem qRowL : decide (Cond.eq (.length (.static "NoonPaces" "COSTS" "[I")) (.int (Int32.ofNat 5)) ∈ flatC (Jvm.Cond.and given_1 narrow_1)) = true ∧ decide (Cond.eq (.length (.static "NoonPaces" "FINES" "[I")) (.int (Int32.ofNat 4)) ∈ flatC (Jvm.Cond.and given_1 narrow_1)) = true ∧ decide (Cond.eq (.length (.static "NoonPaces" "KIND_ABOVE" "[I")) (.int (Int32.ofNat 6)) ∈ flatC (Jvm.Cond.and given_1 narrow_1)) = true := by decide +kernel
theorem qRowA : decide (Cond.arrayOf (.static "NoonPaces" "COSTS" "[I") .int ∈ flatC (Jvm.Cond.and given_1 narrow_1)) = true ∧ decide (Cond.arrayOf (.static "NoonPaces" "FINES" "[I") .int ∈ flatC (Jvm.Cond.and given_1 narrow_1)) = true ∧ decide (Cond.arrayOf (.static "NoonPaces" "KIND_ABOVE" "[I") .int ∈ flatC (Jvm.Cond.and given_1 narrow_1)) = true ∧ decide (Cond.eq (.static "java/lang/String" "COMPACT_STRINGS" "Z") (.int 1) ∈ flatC (Jvm.Cond.and given_1 narrow_1)) = true ∧ decide (Cond.isRef (.static "jdk/internal/util/Preconditions" "SIOOBE_FORMATTER" "Ljava/util/function/BiFunction;") ∈ flatC (Jvm.Cond.and given_1 narrow_1)) = true := by decide +kernel
theorem qStrs : ∀ i, i < 5 → decide (Cond.exactly (.string "NoonPaces$Tape" (qStrI i)) "java/lang/String" ∈ flatC (Jvm.Cond.and given_1 narrow_1)) = true ∧ decide (Cond.eq (.field (.string "NoonPaces$Tape" (qStrI i)) "java/lang/String" "coder" "B") (.int 0) ∈ flatC (Jvm.Cond.and given_1 narrow_1)) = true ∧ decide (Cond.arrayOf (.field (.string "NoonPaces$Tape" (qStrI i)) "java/lang/String" "value" "[B") .byte ∈ flatC (Jvm.Cond.and given_1 narrow_1)) = true ∧ decide (Cond.eq (.length (.field (.string "NoonPaces$Tape" (qStrI i)) "java/lang/String" "value" "[B")) (.int (Int32.ofNat (qBytL.getD i 0))) ∈ flatC (Jvm.Cond.and given_1 narrow_1)) = true := by decide +kernel
theorem qStrB : ∀ i, i < 5 → ∀ j, j < qBytL.getD i 0 → decide (Cond.eq (.elem (.field (.string "NoonPaces$Tape" (qStrI i)) "java/lang/String" "value" "[B") (.int (Int32.ofNat j))) (.int ((qByt.getD i []).getD j 0)) ∈ flatC (Jvm.Cond.and given_1 narrow_1)) = true := by decide +kernel
theorem qStrN : ∀ i, i < 5 → ∀ j, j < 5 → i ≠ j → decide (Cond.not (Cond.eq (.string "NoonPaces$Tape" (qStrI i)) (.string "NoonPaces$Tape" (qStrI j))) ∈ flatC (Jvm.Cond.and given_1 narrow_1)) = true ∨ decide (Cond.not (Cond.eq (.string "NoonPaces$Tape" (qStrI j)) (.string "NoonPaces$Tape" (qStrI i))) ∈ flatC (Jvm.Cond.and given_1 narrow_1)) = true := by decide +kernel
theorem qStW : (∀ i, i < 5 → Cond.stringRef "NoonPaces$Tape" (qStrI i) (qStrT i) ∈ lw_tbl) ∧ (∀ i, i < 5 → Cond.laysStatic (qStat i).1 (qStat i).2.1 (qStat i).2.2 ∈ lw_tbl ∧ Cond.initialized (qStat i).1 ∈ lw_tbl) ∧ (∀ q ∈ qNestM, Cond.methodLinkNest q.1 q.2.1 q.2.2 RX6 ∈ lw_tbl) ∧ (∀ q ∈ qNestF, Cond.fieldLinkNest q.1 q.2.1 RX6 q.2.2.1 q.2.2.2 RX6 ∈ lw_tbl) ∧ Cond.arrayOver (.object RX4) ∈ lw_tbl ∧ Cond.arrayOver (.object RX2) ∈ lw_tbl := by decide +kernel
theorem qIns8 : ∀ i, i < 8 → Cond.instantiable (qCls i).1 (qCls i).2.2 ∈ lw_tbl := by decide +kernel
