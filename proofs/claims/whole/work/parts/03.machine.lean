/-! A SMALL MACHINE OF MY OWN: it reads the methods' listings (part 02), holds the heap by numbers of its own (0, 1, .. as made; 1000 on: what lay there before), ints, longs and references apart. What it comes to, the JVM comes to (part 04 on). -/
abbrev qMu : Type := Nat → Nat → Int32
abbrev qLa : Type := Nat → Nat → Int64
abbrev qRho : Type := Nat → Nat → Option Nat
abbrev qSg : Type := Nat × qRho
abbrev qSt : Type := Nat × List Value × List Value × qSg × qMu × qLa
abbrev qAct : Type := qSt ⊕ (Option Value ⊕ (Nat × List Value × Nat × List Value))
/-- how the things lie: (kind, how many): kinds 0 to 7 the classes of vwCl, 10 int[], 11 long[], 12 boolean[], 13 Town[], 14 Sheet[]; outside: 20 int[], 21 byte[], 22 the script, 30 a String -/
def qTownSh : List (Nat × Nat) := [(4, 13), (10, 64), (10, 6), (10, 6), (10, 6), (10, 6), (10, 6), (10, 24)]
def qTownsSh : Nat → List (Nat × Nat)
  | 0 => []
  | n + 1 => qTownSh ++ qTownsSh n
def qShL : List (Nat × Nat) :=
  [(6, 7), (3, 4), (10, 140)] ++ qTownSh ++ [(1, 8)] ++ qTownsSh 2 ++ [(5, 5), (10, 8), (13, 5), (10, 6), (10, 6), (10, 1024), (10, 64)] ++ qTownsSh 5 ++
  [(0, 3), (13, 24)] ++ qTownsSh 24 ++ [(13, 2)] ++ qTownsSh 2 ++ [(14, 4), (2, 3), (11, 24), (2, 3), (11, 24), (2, 3), (11, 24), (2, 3), (11, 24), (5, 5), (10, 8)] ++
  [(7, 26), (10, 4), (10, 4), (11, 96), (10, 140), (10, 124), (10, 124), (10, 124), (10, 496), (10, 248), (12, 2), (10, 2712), (10, 8), (12, 64), (10, 6), (10, 6), (10, 64), (11, 8)]
def qSh (a : Nat) : Nat × Nat :=
  if a < 1000 then qShL.getD a (99, 0) else
  if a = 1000 then (20, 5) else if a = 1001 then (20, 4) else if a = 1002 then (20, 6) else if a = 1003 then (22, 0) else
  if a = 1010 then (30, 0) else if a = 1011 then (30, 0) else if a = 1012 then (30, 0) else if a = 1013 then (30, 0) else if a = 1014 then (30, 0) else
  if a = 1020 then (21, 2) else if a = 1021 then (21, 2) else if a = 1022 then (21, 5) else if a = 1023 then (21, 5) else if a = 1024 then (21, 4) else (99, 0)
def qIns (m pc : Nat) : Option Instr := (qCodeL.getD m []).lookup pc
def qMeth (m : Nat) : qMt := qMtL.getD m qm_0
def qOwn (m : Nat) : Nat := (qMeth m).2.2.2.2
def qRt (m : Nat) : Option FieldType := (qMeth m).2.2.2.1
def qMx (m : Nat) : Nat := (qMeth m).2.2.1
def qPl (c i : Nat) : Option (Nat × Nat × Nat × Nat) := (qPlL.getD c []).lookup i
abbrev qUn : Value := .retAddr 0
abbrev qMk : Value := .retAddr 1
def qArgL : List Value → List Value
  | [] => []
  | .long x :: r => .long x :: qMk :: qArgL r
  | .double x :: r => .double x :: qMk :: qArgL r
  | v :: r => v :: qArgL r
def qLs0 (m : Nat) (as : List Value) : List Value := qArgL as ++ List.replicate (qMx m - (qArgL as).length) qUn
def qrf : Option Nat → Value
  | some a => .ref a
  | none => .null
def qset (f : qMu) (a k : Nat) (x : Int32) : qMu := fun b j => if b = a ∧ j = k then x else f b j
def qsetL (f : qLa) (a k : Nat) (x : Int64) : qLa := fun b j => if b = a ∧ j = k then x else f b j
def qsetR (f : qRho) (a k : Nat) (x : Option Nat) : qRho := fun b j => if b = a ∧ j = k then x else f b j
def qclr {α : Type} (f : Nat → Nat → α) (a : Nat) (z : α) : Nat → Nat → α := fun b j => if b = a then z else f b j
def qcpy {α : Type} (f : Nat → Nat → α) (a0 sp a dp n : Nat) : Nat → Nat → α := fun b j => if b = a ∧ dp ≤ j ∧ j < dp + n then f a0 (sp + (j - dp)) else f b j
def qOk (σ : qSg) (a k : Nat) : Bool := decide (a < σ.1) && ((qSh a).1 == k)
def qIn (i : Int32) (n : Nat) : Bool := decide (0 ≤ i) && decide (i.toNatClampNeg < n)
/-- how long an int[] is that may be read, written -/
def qIld (σ : qSg) (μ : qMu) (a : Nat) : Nat := match (qSh a).1 with
  | 10 => if a < σ.1 then (qSh a).2 else 0
  | 20 => (qSh a).2
  | 22 => (μ a 1000).toNatClampNeg
  | _ => 0
def qBld (σ : qSg) (a : Nat) : Nat := match (qSh a).1 with
  | 12 => if a < σ.1 then (qSh a).2 else 0
  | 21 => (qSh a).2
  | _ => 0
def qLen (σ : qSg) (k a : Nat) : Nat := if qOk σ a k then (qSh a).2 else 0
def qAld (σ : qSg) (a : Nat) : Nat := match (qSh a).1 with
  | 13 => if a < σ.1 then (qSh a).2 else 0
  | 14 => if a < σ.1 then (qSh a).2 else 0
  | _ => 0
def qRecv (σ : qSg) (a c : Nat) : Bool := if c = 10 then decide ((qSh a).1 = 30) else if c < 8 then qOk σ a c else false
def qSv (s : Nat) : Value := if s = 3 then .int 1 else if s = 4 then .retAddr 7 else .ref (1000 + s)
def qTg (pc : Nat) (off : Int) : Option Nat := match (pc : Int) + off with
  | .ofNat t => some t
  | .negSucc _ => none
def qpI {α : Type} (st : List Value) (k : Int32 → List Value → Option α) : Option α := match st with
  | .int x :: r => k x r
  | _ => none
def qpL {α : Type} (st : List Value) (k : Int64 → List Value → Option α) : Option α := match st with
  | .long x :: r => k x r
  | _ => none
def qpR {α : Type} (st : List Value) (k : Nat → List Value → Option α) : Option α := match st with
  | .ref x :: r => k x r
  | _ => none
def qp1 {α : Type} (st : List Value) (k : Value → List Value → Option α) : Option α := match st with
  | .int x :: r => k (.int x) r
  | .ref x :: r => k (.ref x) r
  | _ => none
def qgI (ls : List Value) (i : Nat) : Option Int32 := match ls[i]? with
  | some (.int x) => some x
  | _ => none
def qgR (ls : List Value) (i : Nat) : Option Nat := match ls[i]? with
  | some (.ref x) => some x
  | _ => none
def qgL (ls : List Value) (i : Nat) : Option Int64 := match ls[i]?, ls[i + 1]? with
  | some (.long x), some (.retAddr 1) => some x
  | _, _ => none
section
variable (pc : Nat) (st ls : List Value) (σ : qSg) (μ : qMu) (la : qLa)
def qN : Option qAct := some (.inl (pc, st, ls, σ, μ, la))
def qIf (c : Prop) [Decidable c] (off : Int) : Option qAct := (qTg pc off).bind fun t => if c then qN t st ls σ μ la else qN (pc + 3) st ls σ μ la
def qSw (x : Int32) (lo : Int) (offs : List Int) (dflt : Int) : Option qAct := match offs with
  | [] => (qTg pc dflt).bind fun t => qN t st ls σ μ la
  | o :: os => if x.toInt = lo then (qTg pc o).bind fun t => qN t st ls σ μ la else qSw x (lo + 1) os dflt
def qGetf (c idx : Nat) : Option qAct := qpR st fun a r => match qPl c idx with
  | some (0, ci, k, fk) => if qOk σ a ci then (if fk = 2 then qN (pc + 3) (qrf (σ.2 a k) :: r) ls σ μ la else qN (pc + 3) (.int (μ a k) :: r) ls σ μ la) else none
  | some (9, w, _, _) => if (qSh a).1 = 30 then (if w = 0 then qN (pc + 3) (.ref (a + 10) :: r) ls σ μ la else qN (pc + 3) (.int 0 :: r) ls σ μ la) else none
  | _ => none
def qPutf (m c idx : Nat) : Option qAct := match qPl c idx with
  | some (0, ci, k, 0) => qpI st fun x r => qpR r fun a r => if qOk σ a ci then qN (pc + 3) r ls σ (qset μ a k x) la else none
  | some (0, ci, k, 1) => qpI st fun x r => qpR r fun a r => if qOk σ a ci ∧ (x = 0 ∨ x = 1) then qN (pc + 3) r ls σ (qset μ a k x) la else none
  | some (0, ci, k, 2) => qpR st fun b r => qpR r fun a r => if qOk σ a ci ∧ (qMeth m).1.name = "<init>" ∧ c = ci then qN (pc + 3) r ls (σ.1, qsetR σ.2 a k (some b)) μ la else none
  | _ => none
def qCopy : Option qAct := qpI st fun n r => qpI r fun dp r => qpR r fun a r => qpI r fun sp r => qpR r fun a0 r =>
  if 0 ≤ sp ∧ 0 ≤ dp ∧ 0 ≤ n ∧ sp.toNatClampNeg + n.toNatClampNeg ≤ qLen σ 10 a0 ∧ dp.toNatClampNeg + n.toNatClampNeg ≤ qLen σ 10 a ∧ (r.map fun v => v.category).sum ≤ 8 ∧ qOk σ a0 10 ∧ qOk σ a 10 then
    qN (pc + 3) r ls σ (qcpy μ a0 sp.toNatClampNeg a dp.toNatClampNeg n.toNatClampNeg) la
  else if 0 ≤ sp ∧ 0 ≤ dp ∧ 0 ≤ n ∧ sp.toNatClampNeg + n.toNatClampNeg ≤ qLen σ 11 a0 ∧ dp.toNatClampNeg + n.toNatClampNeg ≤ qLen σ 11 a ∧ (r.map fun v => v.category).sum ≤ 8 ∧ qOk σ a0 11 ∧ qOk σ a 11 then
    qN (pc + 3) r ls σ μ (qcpy la a0 sp.toNatClampNeg a dp.toNatClampNeg n.toNatClampNeg)
  else none
def qCall (m' : Nat) (as rest : List Value) : Option qAct := if (rest.map fun v => v.category).sum ≤ 8 ∧ (qArgL as).length ≤ qMx m' then some (.inr (.inr (m', as, pc + 3, rest))) else none
def qInvS (c idx : Nat) : Option qAct := match qPl c idx with
  | some (1, m', na, 0) => if na ≤ st.length then qCall pc m' (st.take na).reverse (st.drop na) else none
  | some (1, m', na, 10) => if na ≤ st.length then qCall pc m' (st.take na).reverse (st.drop na) else none
  | some (7, _, _, _) => qCopy pc st ls σ μ la
  | some (10, 0, _, _) => qpI st fun x r => if (r.map fun v => v.category).sum ≤ 8 then qN (pc + 3) (.int (if 0 ≤ x then x else 0 - x) :: r) ls σ μ la else none
  | some (10, 1, _, _) => qpI st fun y r => qpI r fun x r => if (r.map fun v => v.category).sum ≤ 8 then qN (pc + 3) (.int (if x < y then y else x) :: r) ls σ μ la else none
  | some (10, 2, _, _) => qpI st fun y r => qpI r fun x r => if (r.map fun v => v.category).sum ≤ 8 then qN (pc + 3) (.int (if y < x then y else x) :: r) ls σ μ la else none
  | _ => none
def qInvV (c idx : Nat) : Option qAct := match qPl c idx with
  | some (1, m', na, 1) => qpR (st.drop na) fun a r => if qRecv σ a (qOwn m') then qCall pc m' (.ref a :: (st.take na).reverse) r else none
  | _ => none
def qInvI (c idx : Nat) : Option qAct := match qPl c idx with
  | some (1, m', na, 2) => qpR (st.drop na) fun a r => qCall pc m' (.ref a :: (st.take na).reverse) r
  | some (1, m', na, 12) => qpR (st.drop na) fun a r => qCall pc m' (.ref a :: (st.take na).reverse) r
  | some (8, _, _, _) => qpR st fun _ r => if (r.map fun v => v.category).sum ≤ 8 then qN (pc + 3) r ls σ μ la else none
  | _ => none
def qNew (c idx : Nat) : Option qAct := match qPl c idx with
  | some (2, ci, _, _) => if qSh σ.1 = (ci, (vwCl.getD ci ("", fun _ => ("", "", "", false), 0)).2.2) ∧ ci < 8 ∧ σ.1 < 1000 then qN (pc + 3) (.ref σ.1 :: st) ls (σ.1 + 1, qclr σ.2 σ.1 none) (qclr μ σ.1 0) la else none
  | _ => none
def qTag : ArrayType → Nat
  | .int => 10
  | .long => 11
  | .boolean => 12
  | _ => 99
def qNewa (t : ArrayType) : Option qAct := qpI st fun n r => if 0 ≤ n ∧ qSh σ.1 = (qTag t, n.toNatClampNeg) ∧ qTag t < 13 ∧ n.toNatClampNeg ≤ 5000 ∧ σ.1 < 1000 then qN (pc + 2) (.ref σ.1 :: r) ls (σ.1 + 1, σ.2) (qclr μ σ.1 0) (qclr la σ.1 0) else none
def qNewr (c idx : Nat) : Option qAct := qpI st fun n r => match qPl c idx with
  | some (2, 4, _, _) => if 0 ≤ n ∧ qSh σ.1 = (13, n.toNatClampNeg) ∧ n.toNatClampNeg ≤ 5000 ∧ σ.1 < 1000 then qN (pc + 3) (.ref σ.1 :: r) ls (σ.1 + 1, qclr σ.2 σ.1 none) μ la else none
  | some (2, 2, _, _) => if 0 ≤ n ∧ qSh σ.1 = (14, n.toNatClampNeg) ∧ n.toNatClampNeg ≤ 5000 ∧ σ.1 < 1000 then qN (pc + 3) (.ref σ.1 :: r) ls (σ.1 + 1, qclr σ.2 σ.1 none) μ la else none
  | _ => none
def qAast : Option qAct := qpR st fun b r => qpI r fun i r => qpR r fun a r =>
  if qIn i (qLen σ 13 a) ∧ qOk σ b 4 then qN (pc + 1) r ls (σ.1, qsetR σ.2 a i.toNatClampNeg (some b)) μ la
  else if qIn i (qLen σ 14 a) ∧ qOk σ b 2 then qN (pc + 1) r ls (σ.1, qsetR σ.2 a i.toNatClampNeg (some b)) μ la else none
def qRetI (m : Nat) : Option qAct := match st with
  | [.int v] => match qRt m with
    | some .int => some (.inr (.inl (some (.int v))))
    | some .boolean => if v = 0 ∨ v = 1 then some (.inr (.inl (some (.int v)))) else none
    | some .byte => if v.toInt8.toInt32 = v then some (.inr (.inl (some (.int v)))) else none
    | some .char => if v.toUInt32.toUInt16.toUInt32.toInt32 = v then some (.inr (.inl (some (.int v)))) else none
    | _ => none
  | _ => none
def qLdc (c idx : Nat) : Option qAct := match qPl c idx with
  | some (3, v, _, _) => qN (pc + 2) (.int (Int32.ofNat v) :: st) ls σ μ la
  | some (6, s, _, _) => qN (pc + 2) (.ref (1010 + s) :: st) ls σ μ la
  | _ => none
def qLdc2 (c idx : Nat) : Option qAct := match qPl c idx with
  | some (4, v, 0, _) => qN (pc + 3) (.long (Int64.ofNat v) :: st) ls σ μ la
  | some (4, v, _, _) => qN (pc + 3) (.long (- Int64.ofNat v) :: st) ls σ μ la
  | _ => none
def qGets (c idx : Nat) : Option qAct := match qPl c idx with
  | some (5, s, _, _) => qN (pc + 3) (qSv s :: st) ls σ μ la
  | _ => none
def qStI (i len : Nat) : Option qAct := qpI st fun x r => if i < ls.length then qN (pc + len) r (ls.set i (.int x)) σ μ la else none
def qStR (i len : Nat) : Option qAct := qpR st fun x r => if i < ls.length then qN (pc + len) r (ls.set i (.ref x)) σ μ la else none
def qStL (i len : Nat) : Option qAct := qpL st fun x r => if i + 1 < ls.length then qN (pc + len) r ((ls.set i (.long x)).set (i + 1) qMk) σ μ la else none
def qII (f : Int32 → Int32 → Int32) : Option qAct := qpI st fun y r => qpI r fun x r => qN (pc + 1) (.int (f x y) :: r) ls σ μ la
def qLL (f : Int64 → Int64 → Int64) : Option qAct := qpL st fun y r => qpL r fun x r => qN (pc + 1) (.long (f x y) :: r) ls σ μ la
def qStep (m : Nat) (i : Instr) : Option qAct := match i with
  | .iconst n => qN (pc + 1) (.int (Int32.ofInt n) :: st) ls σ μ la
  | .bipush n => qN (pc + 2) (.int (Int8.ofInt n).toInt32 :: st) ls σ μ la
  | .sipush n => qN (pc + 3) (.int (Int16.ofInt n).toInt32 :: st) ls σ μ la
  | .lconst n => qN (pc + 1) (.long (Int64.ofNat n) :: st) ls σ μ la
  | .ldc idx => qLdc pc st ls σ μ la (qOwn m) idx
  | .ldc2_w idx => qLdc2 pc st ls σ μ la (qOwn m) idx
  | .iload k => (qgI ls k).bind fun x => qN (pc + 2) (.int x :: st) ls σ μ la
  | .iload_n k => (qgI ls k).bind fun x => qN (pc + 1) (.int x :: st) ls σ μ la
  | .lload k => (qgL ls k).bind fun x => qN (pc + 2) (.long x :: st) ls σ μ la
  | .lload_n k => (qgL ls k).bind fun x => qN (pc + 1) (.long x :: st) ls σ μ la
  | .aload k => (qgR ls k).bind fun x => qN (pc + 2) (.ref x :: st) ls σ μ la
  | .aload_n k => (qgR ls k).bind fun x => qN (pc + 1) (.ref x :: st) ls σ μ la
  | .istore k => qStI pc st ls σ μ la k 2
  | .istore_n k => qStI pc st ls σ μ la k 1
  | .lstore k => qStL pc st ls σ μ la k 2
  | .lstore_n k => qStL pc st ls σ μ la k 1
  | .astore k => qStR pc st ls σ μ la k 2
  | .astore_n k => qStR pc st ls σ μ la k 1
  | .iinc k n => (qgI ls k).bind fun x => qN (pc + 3) st (ls.set k (.int (x + Int32.ofInt n))) σ μ la
  | .iaload => qpI st fun i r => qpR r fun a r => if qIn i (qIld σ μ a) then qN (pc + 1) (.int (μ a i.toNatClampNeg) :: r) ls σ μ la else none
  | .baload => qpI st fun i r => qpR r fun a r => if qIn i (qBld σ a) then qN (pc + 1) (.int (μ a i.toNatClampNeg) :: r) ls σ μ la else none
  | .laload => qpI st fun i r => qpR r fun a r => if qIn i (qLen σ 11 a) then qN (pc + 1) (.long (la a i.toNatClampNeg) :: r) ls σ μ la else none
  | .aaload => qpI st fun i r => qpR r fun a r => if qIn i (qAld σ a) then qN (pc + 1) (qrf (σ.2 a i.toNatClampNeg) :: r) ls σ μ la else none
  | .iastore => qpI st fun x r => qpI r fun i r => qpR r fun a r => if qIn i (qLen σ 10 a) then qN (pc + 1) r ls σ (qset μ a i.toNatClampNeg x) la else none
  | .bastore => qpI st fun x r => qpI r fun i r => qpR r fun a r => if qIn i (qLen σ 12 a) ∧ (x = 0 ∨ x = 1) then qN (pc + 1) r ls σ (qset μ a i.toNatClampNeg x) la else none
  | .lastore => qpL st fun x r => qpI r fun i r => qpR r fun a r => if qIn i (qLen σ 11 a) then qN (pc + 1) r ls σ μ (qsetL la a i.toNatClampNeg x) else none
  | .aastore => qAast pc st ls σ μ la
  | .arraylength => qpR st fun a r => if (qSh a).1 = 21 then qN (pc + 1) (.int (Int32.ofNat (qSh a).2) :: r) ls σ μ la else if (qSh a).1 = 22 then qN (pc + 1) (.int (μ a 1000) :: r) ls σ μ la else none
  | .getfield idx => qGetf pc st ls σ μ la (qOwn m) idx
  | .putfield idx => qPutf pc st ls σ μ la m (qOwn m) idx
  | .getstatic idx => qGets pc st ls σ μ la (qOwn m) idx
  | .iadd => qII pc st ls σ μ la (fun x y => x + y)
  | .isub => qII pc st ls σ μ la (fun x y => x - y)
  | .imul => qII pc st ls σ μ la (fun x y => x * y)
  | .iand => qII pc st ls σ μ la (fun x y => x &&& y)
  | .ior => qII pc st ls σ μ la (fun x y => x ||| y)
  | .ixor => qII pc st ls σ μ la (fun x y => x ^^^ y)
  | .ishl => qII pc st ls σ μ la (fun x y => x <<< (y &&& 31))
  | .ishr => qII pc st ls σ μ la (fun x y => x >>> (y &&& 31))
  | .idiv => qpI st fun y r => qpI r fun x r => if ¬ y = 0 then qN (pc + 1) (.int (x / y) :: r) ls σ μ la else none
  | .irem => qpI st fun y r => qpI r fun x r => if ¬ y = 0 then qN (pc + 1) (.int (x - x / y * y) :: r) ls σ μ la else none
  | .ineg => qpI st fun x r => qN (pc + 1) (.int (-x) :: r) ls σ μ la
  | .lmul => qLL pc st ls σ μ la (fun x y => x * y)
  | .land => qLL pc st ls σ μ la (fun x y => x &&& y)
  | .lor => qLL pc st ls σ μ la (fun x y => x ||| y)
  | .ldiv => qpL st fun y r => qpL r fun x r => if ¬ y = 0 then qN (pc + 1) (.long (x / y) :: r) ls σ μ la else none
  | .lrem => qpL st fun y r => qpL r fun x r => if ¬ y = 0 then qN (pc + 1) (.long (x - x / y * y) :: r) ls σ μ la else none
  | .lshl => qpI st fun y r => qpL r fun x r => qN (pc + 1) (.long (x <<< (y.toInt64 &&& 63)) :: r) ls σ μ la
  | .lushr => qpI st fun y r => qpL r fun x r => qN (pc + 1) (.long (x.toUInt64 >>> (y.toInt64.toUInt64 &&& Int64.toUInt64 63)).toInt64 :: r) ls σ μ la
  | .lcmp => qpL st fun y r => qpL r fun x r => qN (pc + 1) (.int (lg_cmp x y) :: r) ls σ μ la
  | .i2l => qpI st fun x r => qN (pc + 1) (.long x.toInt64 :: r) ls σ μ la
  | .l2i => qpL st fun x r => qN (pc + 1) (.int x.toInt32 :: r) ls σ μ la
  | .i2b => qpI st fun x r => qN (pc + 1) (.int x.toInt8.toInt32 :: r) ls σ μ la
  | .i2s => qpI st fun x r => qN (pc + 1) (.int x.toInt16.toInt32 :: r) ls σ μ la
  | .i2c => qpI st fun x r => qN (pc + 1) (.int (x.toUInt32 % 65536).toInt32 :: r) ls σ μ la
  | .dup => qp1 st fun v r => qN (pc + 1) (v :: v :: r) ls σ μ la
  | .dup2 => qp1 st fun v r => qp1 r fun w r => qN (pc + 1) (v :: w :: v :: w :: r) ls σ μ la
  | .pop => qp1 st fun _ r => qN (pc + 1) r ls σ μ la
  | .pop2 => qpL st fun _ r => qN (pc + 1) r ls σ μ la
  | .goto off => (qTg pc off).bind fun t => qN t st ls σ μ la
  | .ifCond .eq off => qpI st fun x r => qIf pc r ls σ μ la (x = 0) off
  | .ifCond .ne off => qpI st fun x r => qIf pc r ls σ μ la (¬ x = 0) off
  | .ifCond .lt off => qpI st fun x r => qIf pc r ls σ μ la (x < 0) off
  | .ifCond .ge off => qpI st fun x r => qIf pc r ls σ μ la (0 ≤ x) off
  | .ifCond .gt off => qpI st fun x r => qIf pc r ls σ μ la (0 < x) off
  | .ifCond .le off => qpI st fun x r => qIf pc r ls σ μ la (x ≤ 0) off
  | .if_icmp .eq off => qpI st fun y r => qpI r fun x r => qIf pc r ls σ μ la (x = y) off
  | .if_icmp .ne off => qpI st fun y r => qpI r fun x r => qIf pc r ls σ μ la (¬ x = y) off
  | .if_icmp .lt off => qpI st fun y r => qpI r fun x r => qIf pc r ls σ μ la (x < y) off
  | .if_icmp .ge off => qpI st fun y r => qpI r fun x r => qIf pc r ls σ μ la (y ≤ x) off
  | .if_icmp .gt off => qpI st fun y r => qpI r fun x r => qIf pc r ls σ μ la (y < x) off
  | .if_icmp .le off => qpI st fun y r => qpI r fun x r => qIf pc r ls σ μ la (x ≤ y) off
  | .tableswitch dflt lo hi offs => qpI st fun x r => if (offs.size : Int) = hi - lo + 1 then qSw pc r ls σ μ la x lo offs.toList dflt else none
  | .new idx => qNew pc st ls σ μ la (qOwn m) idx
  | .newarray t => qNewa pc st ls σ μ la t
  | .anewarray idx => qNewr pc st ls σ μ la (qOwn m) idx
  | .invokestatic idx => qInvS pc st ls σ μ la (qOwn m) idx
  | .invokevirtual idx => qInvV pc st σ (qOwn m) idx
  | .invokespecial idx => qInvI pc st ls σ μ la (qOwn m) idx
  | .ireturn => qRetI st m
  | .lreturn => match st with
    | [.long v] => if qRt m = some .long then some (.inr (.inl (some (.long v)))) else none
    | _ => none
  | .return_ => match st with
    | [] => if qRt m = none then some (.inr (.inl none)) else none
    | _ => none
  | _ => none
end
abbrev qRes : Type := Option Value × qSg × qMu × qLa
/-- n: how many steps; d: how many calls may stand open below; m the method, at pc -/
def qGo : Nat → Nat → Nat → Nat → List Value → List Value → qSg → qMu → qLa → Option qRes
  | 0, _, _, _, _, _, _, _, _ => none
  | n + 1, d, m, pc, st, ls, σ, μ, la => (qIns m pc).bind fun i => match qStep pc st ls σ μ la m i with
    | none => none
    | some (.inl (pc', st', ls', σ', μ', la')) => qGo n d m pc' st' ls' σ' μ' la'
    | some (.inr (.inl r)) => some (r, σ, μ, la)
    | some (.inr (.inr (m', as, pc', rest))) => match d with
      | 0 => none
      | d' + 1 => (qGo n d' m' 0 [] (qLs0 m' as) σ μ la).bind fun q => qGo n (d' + 1) m pc' (q.1.toList ++ rest) ls q.2.1 q.2.2.1 q.2.2.2
abbrev qPost : Type := Option Value → qSg → qMu → qLa → Prop
def qEx (d m pc : Nat) (st ls : List Value) (σ : qSg) (μ : qMu) (la : qLa) (Q : qPost) : Prop := ∃ (n : Nat) (q : qRes), qGo n d m pc st ls σ μ la = some q ∧ Q q.1 q.2.1 q.2.2.1 q.2.2.2
