/-! what the tables (part 02) say is what the Statement says: by program, decided once -/
def qRn (c : Nat) : String := [RX0, RX1, RX2, RX3, RX4, RX5, RX6, RX7, RL, RJ9, RJ0, RJ1, RJ3].getD c ""
def qCls (c : Nat) : vw_C := vwCl.getD c ("", fun _ => ("", "", "", false), 0)
def qFd (c k : Nat) : String := ((qCls c).2.1 k).2.2.1
def qFk (c k : Nat) : Bool := qFd c k == "I" || qFd c k == "Z"
def qFty (c k : Nat) : FieldType := ([tyX0, tyX1, tyX2, tyX3, tyX4, tyX5, tyX6, tyX7].getD c tyX0) k
def qRefTy : FieldType → Bool
  | .array _ => true
  | .object _ => true
  | _ => false
def qG : List Cond := lw_tbl.filter goodWord
def qNestM : List (String × Nat × MethodName) := [(RX6, 9, yX3_init), (RX3, 17, yX4_init), (RX1, 11, yX4_init), (RX1, 23, yX5_init), (RX0, 17, yX4_init), (RX6, 37, yX4_init), (RX6, 44, yX2_init), (RX6, 51, yX5_init), (RX5, 36, yX6_isUnder)]
def qNestF : List (String × Nat × String × String) := [(RX5, 51, "COSTS", "[I"), (RX4, 58, "FINES", "[I"), (RX1, 122, "FINES", "[I")]
def qStat (i : Nat) : String × String × String := [(RX6, "COSTS", "[I"), (RX6, "FINES", "[I"), (RX6, "KIND_ABOVE", "[I"), (RJ0, "COMPACT_STRINGS", "Z"), (RJ3, "SIOOBE_FORMATTER", "Ljava/util/function/BiFunction;")].getD i ("", "", "")
def qStrI (i : Nat) : Nat := [46, 52, 70, 79, 85].getD i 0
def qStrT (i : Nat) : String := ["ct", "fo", ".#~^+", "pcdeb", "nesw"].getD i ""
def qHas (i : Nat) (w : Cond) : Bool := decide (lw_tbl[i]? = some w) && goodWord w
theorem qHas_in {i : Nat} {w : Cond} (h : qHas i w = true) : w ∈ qG := by
  simp only [qHas, Bool.and_eq_true, decide_eq_true_eq] at h
  exact List.mem_filter.mpr ⟨List.mem_of_getElem? h.1, h.2⟩
def qHasL (ps : List Nat) (ws : List Cond) : Bool := match ps, ws with
  | [], [] => true
  | p :: ps, w :: ws => qHas p w && qHasL ps ws
  | _, _ => false
theorem qHasL_in : ∀ {ps : List Nat} {ws : List Cond}, qHasL ps ws = true → ∀ w ∈ ws, w ∈ qG
  | [], [], _, w, hw => by simp at hw
  | p :: ps, w0 :: ws, h, w, hw => by
    simp only [qHasL, Bool.and_eq_true] at h
    rcases List.mem_cons.mp hw with rfl | hw
    · exact qHas_in h.1
    · exact qHasL_in h.2 w hw
  | [], _ :: _, h, _, _ => by simp [qHasL] at h
  | _ :: _, [], h, _, _ => by simp [qHasL] at h
/-- the words of an entry of a pool, which the tables have -/
def qWords (c i : Nat) (e : Nat × Nat × Nat × Nat) : List Cond := match e with
  | (0, ci, k, _) => [.fieldLink (qRn c) i (qRn ci) ((qCls ci).2.1 k).2.1 (qFd ci k)]
  | (1, m, _, 0) => [.methodLink (qRn c) i (qMeth m).1, .static (qMeth m).1]
  | (1, m, _, 1) => [.methodLink (qRn c) i (qMeth m).1, .instanceMethod (qMeth m).1, .selects (qMeth m).1.cls (qMeth m).1 (qMeth m).1]
  | (1, m, _, 2) => [.methodLink (qRn c) i (qMeth m).1, .instanceMethod (qMeth m).1]
  | (1, m, _, 10) => [.static (qMeth m).1]
  | (1, m, _, 12) => [.instanceMethod (qMeth m).1]
  | (2, ci, _, _) => [.classLink (qRn c) i (qRn ci), .instantiable (qRn ci) (qCls ci).2.2, .initialized (qRn ci)]
  | (3, v, _, _) => [.constant (qRn c) i (Int32.ofNat v)]
  | (4, v, 0, _) => [.constantLong (qRn c) i (Int64.ofNat v)]
  | (4, v, _, _) => [.constantLong (qRn c) i (- Int64.ofNat v)]
  | (5, s, 0, _) => [.fieldLink (qRn c) i (qStat s).1 (qStat s).2.1 (qStat s).2.2]
  | (7, _, _, _) => [.methodLink (qRn c) i arraycopyName]
  | (8, _, _, _) => [.methodLink (qRn c) i objectInit]
  | (9, 0, _, _) => [.fieldLink (qRn c) i RJ0 "value" "[B"]
  | (9, _, _, _) => [.fieldLink (qRn c) i RJ0 "coder" "B"]
  | (10, 0, _, _) => [.methodLink (qRn c) i Lib.Math.abs.name, .static Lib.Math.abs.name, .code Lib.Math.abs.name Lib.Math.abs.code 1 (some .int), .initialized "java/lang/Math"]
  | (10, 1, _, _) => [.methodLink (qRn c) i Lib.Math.max.name, .static Lib.Math.max.name, .code Lib.Math.max.name Lib.Math.max.code 2 (some .int), .initialized "java/lang/Math"]
  | (10, 2, _, _) => [.methodLink (qRn c) i Lib.Math.min.name, .static Lib.Math.min.name, .code Lib.Math.min.name Lib.Math.min.code 2 (some .int), .initialized "java/lang/Math"]
  | _ => []
/-- the rest that must hold of it -/
def qMore (c i : Nat) (e : Nat × Nat × Nat × Nat) : Bool := match e with
  | (0, ci, k, f) => decide (ci < 8) && decide (k < (qCls ci).2.2) && decide (((qCls ci).2.1 k).1 = qRn ci) && (if f = 2 then !(qFk ci k) && ((qCls ci).2.1 k).2.2.2 && qRefTy (qFty ci k) else !((qCls ci).2.1 k).2.2.2 && (if f = 0 then decide (qFd ci k = "I") else decide (qFd ci k = "Z")))
  | (1, m, na, f) => decide (m < qMtL.length) && decide ((parseMethodDescriptor (qMeth m).1.desc).map (fun d => d.parameters.length) = some na) && (if f = 10 then decide ((qRn c, i, (qMeth m).1) ∈ qNestM) else if f = 12 then decide ((qRn c, i, (qMeth m).1) ∈ qNestM) && decide ((qMeth m).1.name = "<init>") && decide (qRt m = none) else if f = 2 then decide ((qMeth m).1.name = "<init>") && decide (qRt m = none) else true)
  | (2, ci, _, _) => decide (ci < 8)
  | (5, s, nst, _) => decide (s < 5) && (if nst = 0 then true else decide ((qRn c, i, (qStat s).2.1, (qStat s).2.2) ∈ qNestF) && decide ((qStat s).1 = RX6))
  | (6, s, _, _) => decide (s < 5) && decide (c = 3) && decide (i = qStrI s)
  | _ => true
def qPlOk (c : Nat) (q : (Nat × Nat × Nat × Nat × Nat) × List Nat) : Bool := qHasL q.2 (qWords c q.1.1 q.1.2) && qMore c q.1.1 q.1.2
theorem qPlOk_0 : (pl_0.zip pp_0).all (qPlOk 0) = true ∧ pl_0.length = pp_0.length := by decide +kernel
theorem qPlOk_1 : (pl_1.zip pp_1).all (qPlOk 1) = true ∧ pl_1.length = pp_1.length := by decide +kernel
theorem qPlOk_2 : (pl_2.zip pp_2).all (qPlOk 2) = true ∧ pl_2.length = pp_2.length := by decide +kernel
theorem qPlOk_3 : (pl_3.zip pp_3).all (qPlOk 3) = true ∧ pl_3.length = pp_3.length := by decide +kernel
theorem qPlOk_4 : (pl_4.zip pp_4).all (qPlOk 4) = true ∧ pl_4.length = pp_4.length := by decide +kernel
theorem qPlOk_5 : (pl_5.zip pp_5).all (qPlOk 5) = true ∧ pl_5.length = pp_5.length := by decide +kernel
theorem qPlOk_6 : (pl_6.zip pp_6).all (qPlOk 6) = true ∧ pl_6.length = pp_6.length := by decide +kernel
theorem qPlOk_7 : (pl_7.zip pp_7).all (qPlOk 7) = true ∧ pl_7.length = pp_7.length := by decide +kernel
theorem qPlOk_8 : (pl_8.zip pp_8).all (qPlOk 8) = true ∧ pl_8.length = pp_8.length := by decide +kernel
theorem qPlOk_9 : (pl_9.zip pp_9).all (qPlOk 9) = true ∧ pl_9.length = pp_9.length := by decide +kernel
theorem qPlOk_10 : (pl_10.zip pp_10).all (qPlOk 10) = true ∧ pl_10.length = pp_10.length := by decide +kernel
theorem qPlOk_11 : (pl_11.zip pp_11).all (qPlOk 11) = true ∧ pl_11.length = pp_11.length := by decide +kernel
theorem qPlOk_12 : (pl_12.zip pp_12).all (qPlOk 12) = true ∧ pl_12.length = pp_12.length := by decide +kernel
