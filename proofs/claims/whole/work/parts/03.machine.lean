/-! A SMALL MACHINE OF MY OWN: it reads the methods' listings (part 02), holds the heap by numbers of its own (0, 1, .. as made; 1000 on: what lay there before), ints, longs and references apart. What it comes to, the JVM comes to (part 04 on). -/
abbrev qMu : Type := Nat → Nat → Int32
abbrev qLa : Type := Nat → Nat → Int64
abbrev qRho : Type := Nat → Nat → Option Nat
abbrev qSg : Type := Nat × qRho
abbrev qSt : Type := Nat × List Value × List Value × qSg × qMu × qLa
abbrev qAct : Type := qSt ⊕ (Option Value ⊕ (Nat × List Value × Nat × List Value))
/-- how the things lie: (kind, how many): kinds 0 to 7 the classes of vwCl, 10 int[], 11 long[], 12 boolean[], 13 Town[], 14 Sheet[]; outside: 20 int[], 21 byte[], 22 the script, 30 a String -/
def qTownSh : List (Nat × Nat) := [(4, 13), (10, 64), (10, 6), (10, 6), (10, 6), (10, 6), (10, 6), (10, 24)]
def qTownsSh : Nat → List (Nat × Nat)
  | 0 => []
  | n + 1 => qTownSh ++ qTownsSh n
def qShL : List (Nat × Nat) :=
  [(6, 7), (3, 4), (10, 140)] ++ qTownSh ++ [(1, 8)] ++ qTownsSh 2 ++ [(5, 5), (10, 8), (13, 5), (10, 6), (10, 6), (10, 1024), (10, 64)] ++ qTownsSh 5 ++
  [(0, 3), (13, 24)] ++ qTownsSh 24 ++ [(13, 2)] ++ qTownsSh 2 ++ [(14, 4), (2, 3), (11, 24), (2, 3), (11, 24), (2, 3), (11, 24), (2, 3), (11, 24), (5, 5), (10, 8)] ++
  [(7, 26), (10, 4), (10, 4), (11, 96), (10, 140), (10, 124), (10, 124), (10, 124), (10, 496), (10, 248), (12, 2), (10, 2712), (10, 8), (12, 64), (10, 6), (10, 6), (10, 64), (11, 8)]
def qSh (a : Nat) : Nat × Nat :=
  if a < 1000 then qShL.getD a (99, 0) else
  if a = 1000 then (20, 5) else if a = 1001 then (20, 4) else if a = 1002 then (20, 6) else if a = 1003 then (22, 0) else
  if a = 1010 then (30, 0) else if a = 1011 then (30, 0) else if a = 1012 then (30, 0) else if a = 1013 then (30, 0) else if a = 1014 then (30, 0) else
  if a = 1020 then (21, 2) else if a = 1021 then (21, 2) else if a = 1022 then (21, 5) else if a = 1023 then (21, 5) else if a = 1024 then (21, 4) else (99, 0)
def qIns (m pc : Nat) : Option Instr := (qCodeL.getD m []).lookup pc
def qMeth (m : Nat) : qMt := qMtL.getD m qm_0
def qOwn (m : Nat) : Nat := (qMeth m).2.2.2.2
def qRt (m : Nat) : Option FieldType := (qMeth m).2.2.2.1
def qMx (m : Nat) : Nat := (qMeth m).2.2.1
def qPl (c i : Nat) : Option (Nat × Nat × Nat × Nat) := (qPlL.getD c []).lookup i
abbrev qUn : Value := .retAddr 0
abbrev qMk : Value := .retAddr 1
def qArgL : List Value → List Value
  | [] => []
  | .long x :: r => .long x :: qMk :: qArgL r
  | v :: r => v :: qArgL r
def qLs0 (m : Nat) (as : List Value) : List Value := qArgL as ++ List.replicate (qMx m - (qArgL as).length) qUn
def qrf : Option Nat → Value
  | some a => .ref a
  | none => .null
def qset (f : qMu) (a k : Nat) (x : Int32) : qMu := fun b j => if b = a ∧ j = k then x else f b j
def qsetL (f : qLa) (a k : Nat) (x : Int64) : qLa := fun b j => if b = a ∧ j = k then x else f b j
def qsetR (f : qRho) (a k : Nat) (x : Option Nat) : qRho := fun b j => if b = a ∧ j = k then x else f b j
def qclr {α : Type} (f : Nat → Nat → α) (a : Nat) (z : α) : Nat → Nat → α := fun b j => if b = a then z else f b j
def qcpy {α : Type} (f : Nat → Nat → α) (a0 sp a dp n : Nat) : Nat → Nat → α := fun b j => if b = a ∧ dp ≤ j ∧ j < dp + n then f a0 (sp + (j - dp)) else f b j
def qOk (σ : qSg) (a k : Nat) : Prop := a < σ.1 ∧ (qSh a).1 = k
