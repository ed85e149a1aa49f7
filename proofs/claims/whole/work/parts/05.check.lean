/-! what the tables (part 02) say is what the Statement says: by program, decided once -/
def qRn (c : Nat) : String := [RX0, RX1, RX2, RX3, RX4, RX5, RX6, RX7, RL, RJ9, RJ0, RJ1, RJ3].getD c ""
def qCls (c : Nat) : vw_C := vwCl.getD c ("", fun _ => ("", "", "", false), 0)
def qFd (c k : Nat) : String := ((qCls c).2.1 k).2.2.1
def qFk (c k : Nat) : Bool := qFd c k == "I" || qFd c k == "Z"
def qFty (c k : Nat) : FieldType := ([tyX0, tyX1, tyX2, tyX3, tyX4, tyX5, tyX6, tyX7].getD c tyX0) k
def qRefTy : FieldType → Bool
  | .array _ => true
  | .object _ => true
  | _ => false
def qG : List Cond := lw_tbl.filter goodWord
def qNestM : List (String × Nat × MethodName) := [(RX6, 9, yX3_init), (RX3, 17, yX4_init), (RX1, 11, yX4_init), (RX1, 23, yX5_init), (RX0, 17, yX4_init), (RX6, 37, yX4_init), (RX6, 44, yX2_init), (RX6, 51, yX5_init), (RX5, 36, yX6_isUnder)]
def qNestF : List (String × Nat × String × String) := [(RX5, 51, "COSTS", "[I"), (RX4, 58, "FINES", "[I"), (RX1, 122, "FINES", "[I")]
def qStat (i : Nat) : String × String × String := [(RX6, "COSTS", "[I"), (RX6, "FINES", "[I"), (RX6, "KIND_ABOVE", "[I"), (RJ0, "COMPACT_STRINGS", "Z"), (RJ3, "SIOOBE_FORMATTER", "Ljava/util/function/BiFunction;")].getD i ("", "", "")
def qStrI (i : Nat) : Nat := [46, 52, 70, 79, 85].getD i 0
def qStrT (i : Nat) : String := ["ct", "fo", ".#~^+", "pcdeb", "nesw"].getD i ""
def qHas (i : Nat) (w : Cond) : Bool := decide (lw_tbl[i]? = some w) && goodWord w
theorem qHas_in {i : Nat} {w : Cond} (h : qHas i w = true) : w ∈ qG := by
  simp only [qHas, Bool.and_eq_true, decide_eq_true_eq] at h
  exact List.mem_filter.mpr ⟨List.mem_of_getElem? h.1, h.2⟩
def qHasL (ps : List Nat) (ws : List Cond) : Bool := match ps, ws with
  | [], [] => true
  | p :: ps, w :: ws => qHas p w && qHasL ps ws
  | _, _ => false
theorem qHasL_in : ∀ {ps : List Nat} {ws : List Cond}, qHasL ps ws = true → ∀ w ∈ ws, w ∈ qG
  | [], [], _, w, hw => by simp at hw
  | p :: ps, w0 :: ws, h, w, hw => by
    simp only [qHasL, Bool.and_eq_true] at h
    rcases List.mem_cons.mp hw with rfl | hw
    · exact qHas_in h.1
    · exact qHasL_in h.2 w hw
  | [], _ :: _, h, _, _ => by simp [qHasL] at h
  | _ :: _, [], h, _, _ => by simp [qHasL] at h
/-- the words of an entry of a pool, which the tables have -/
def qWords (c i : Nat) (e : Nat × Nat × Nat × Nat) : List Cond := match e with
  | (0, ci, k, _) => [.fieldLink (qRn c) i (qRn ci) ((qCls ci).2.1 k).2.1 (qFd ci k)]
  | (1, m, _, 0) => [.methodLink (qRn c) i (qMeth m).1, .static (qMeth m).1]
  | (1, m, _, 1) => [.methodLink (qRn c) i (qMeth m).1, .instanceMethod (qMeth m).1, .selects (qMeth m).1.cls (qMeth m).1 (qMeth m).1]
  | (1, m, _, 2) => [.methodLink (qRn c) i (qMeth m).1, .instanceMethod (qMeth m).1]
  | (1, m, _, 10) => [.static (qMeth m).1]
  | (1, m, _, 12) => [.instanceMethod (qMeth m).1]
  | (2, ci, _, _) => [.classLink (qRn c) i (qRn ci), .instantiable (qRn ci) (qCls ci).2.2, .initialized (qRn ci)]
  | (3, v, _, _) => [.constant (qRn c) i (Int32.ofNat v)]
  | (4, v, 0, _) => [.constantLong (qRn c) i (Int64.ofNat v)]
  | (4, v, _, _) => [.constantLong (qRn c) i (- Int64.ofNat v)]
  | (5, s, 0, _) => [.fieldLink (qRn c) i (qStat s).1 (qStat s).2.1 (qStat s).2.2]
  | (7, _, _, _) => [.methodLink (qRn c) i arraycopyName]
  | (8, _, _, _) => [.methodLink (qRn c) i objectInit]
  | (9, 0, _, _) => [.fieldLink (qRn c) i RJ0 "value" "[B"]
  | (9, _, _, _) => [.fieldLink (qRn c) i RJ0 "coder" "B"]
  | (10, 0, _, _) => [.methodLink (qRn c) i Lib.Math.abs.name, .static Lib.Math.abs.name, .code Lib.Math.abs.name Lib.Math.abs.code 1 (some .int), .initialized "java/lang/Math"]
  | (10, 1, _, _) => [.methodLink (qRn c) i Lib.Math.max.name, .static Lib.Math.max.name, .code Lib.Math.max.name Lib.Math.max.code 2 (some .int), .initialized "java/lang/Math"]
  | (10, 2, _, _) => [.methodLink (qRn c) i Lib.Math.min.name, .static Lib.Math.min.name, .code Lib.Math.min.name Lib.Math.min.code 2 (some .int), .initialized "java/lang/Math"]
  | _ => []
/-- the rest that must hold of it -/
def qMore (c i : Nat) (e : Nat × Nat × Nat × Nat) : Bool := match e with
  | (0, ci, k, f) => decide (ci < 8) && decide (k < (qCls ci).2.2) && decide (((qCls ci).2.1 k).1 = qRn ci) && (if f = 2 then !(qFk ci k) && ((qCls ci).2.1 k).2.2.2 && qRefTy (qFty ci k) else !((qCls ci).2.1 k).2.2.2 && (if f = 0 then decide (qFd ci k = "I") else decide (qFd ci k = "Z")))
  | (1, m, na, f) => decide (m < qMtL.length - 1) && decide ((parseMethodDescriptor (qMeth m).1.desc).map (fun d => d.parameters.length) = some na) && (if f = 10 then decide ((qRn c, i, (qMeth m).1) ∈ qNestM) else if f = 12 then decide ((qRn c, i, (qMeth m).1) ∈ qNestM) && decide ((qMeth m).1.name = "<init>") && decide (qRt m = none) else if f = 2 then decide ((qMeth m).1.name = "<init>") && decide (qRt m = none) else true)
  | (2, ci, _, _) => decide (ci < 8)
  | (5, s, nst, _) => decide (s < 5) && (if nst = 0 then true else decide ((qRn c, i, (qStat s).2.1, (qStat s).2.2) ∈ qNestF) && decide ((qStat s).1 = RX6))
  | (6, s, _, _) => decide (s < 5) && decide (c = 3) && decide (i = qStrI s)
  | _ => true
def qPlOk (c : Nat) (q : (Nat × Nat × Nat × Nat × Nat) × List Nat) : Bool := qHasL q.2 (qWords c q.1.1 q.1.2) && qMore c q.1.1 q.1.2
/-! the listings are what decode reads off the bytes; the methods are the Statement's -/
def qLenI : Instr → Nat
  | .bipush _ => 2
  | .sipush _ => 3
  | .ldc _ => 2
  | .ldc2_w _ => 3
  | .iload _ => 2
  | .lload _ => 2
  | .aload _ => 2
  | .istore _ => 2
  | .lstore _ => 2
  | .astore _ => 2
  | .iinc _ _ => 3
  | .getfield _ => 3
  | .putfield _ => 3
  | .getstatic _ => 3
  | .goto _ => 3
  | .ifCond _ _ => 3
  | .if_icmp _ _ => 3
  | .new _ => 3
  | .newarray _ => 2
  | .anewarray _ => 3
  | .invokestatic _ => 3
  | .invokevirtual _ => 3
  | .invokespecial _ => 3
  | _ => 1
def qTab : Instr → Bool
  | .tableswitch _ _ _ _ => true
  | _ => false
def qInsOk (b : ByteArray) (q : Nat × Instr) : Bool := match decode b q.1 with
  | .ok (j, len) => decide (j = q.2) && (len == qLenI q.2 || qTab q.2)
  | _ => false
def qLaw : Nat := 210
/-- what part 90 on decides by program: the tables and listings are the Statement's -/
def qTabs : Prop := (∀ (c i : Nat) (e : Nat × Nat × Nat × Nat), qPl c i = some e → (∀ w ∈ qWords c i e, w ∈ qG) ∧ qMore c i e = true) ∧
  (∀ (m pc : Nat) (i : Instr), qIns m pc = some i → ∃ len, decode (qMeth m).2.1 pc = .ok (i, len) ∧ (len = qLenI i ∨ qTab i = true)) ∧
  ∀ m, m < qLaw → Cond.code (qMeth m).1 (qMeth m).2.1 (qMx m) (qRt m) ∈ qG ∧ Cond.initialized (qMeth m).1.cls ∈ qG ∧ (qMeth m).1.cls = qRn (qOwn m) ∧ plainName (qMeth m).1.cls = true ∧ (qMeth m).1.cls ≠ "java/lang/invoke/MethodHandle" ∧ (qMeth m).1.cls ≠ "java/lang/invoke/VarHandle" ∧ qMx m ≤ 40
