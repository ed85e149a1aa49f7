variable {d : Nat} {st ls : List Value} {σ : qSg} {μ : qMu} {la : qLa} {Q : qPost}
theorem x0_0 {x : Nat} {l1 : Value} : qEx d 0 0 st [.ref x, l1] σ μ la Q ↔ qEx d 0 1 (.ref x :: st) [.ref x, l1] σ μ la Q := (qEx_eq (i := .aload_n 0) rfl).trans Iff.rfl
theorem x0_1 {a : Nat} : qEx d 0 1 [.ref a] ls σ μ la Q ↔ qEx d 0 4 [] ls σ μ la Q := (qEx_eq (i := .invokespecial 3) rfl).trans Iff.rfl
theorem x0_4 {x : Nat} {l1 : Value} : qEx d 0 4 st [.ref x, l1] σ μ la Q ↔ qEx d 0 5 (.ref x :: st) [.ref x, l1] σ μ la Q := (qEx_eq (i := .aload_n 0) rfl).trans Iff.rfl
theorem x0_5  : qEx d 0 5 st ls σ μ la Q ↔ qEx d 0 7 (.int 24 :: st) ls σ μ la Q := (qEx_eq (i := .bipush 24) rfl).trans Iff.rfl
theorem x0_7 {x : Int32} : qEx d 0 7 (.int x :: st) ls σ μ la Q ↔ ((0 ≤ x ∧ qSh σ.1 = (13, x.toNatClampNeg) ∧ x.toNatClampNeg ≤ 5000 ∧ σ.1 < 1000) ∧ qEx d 0 10 (.ref σ.1 :: st) ls (σ.1 + 1, qclr σ.2 σ.1 none) μ la Q) := (qEx_eq (i := .anewarray 9) rfl).trans qExA_chk
theorem x0_10 {a b : Nat} : qEx d 0 10 (.ref b :: .ref a :: st) ls σ μ la Q ↔ (qOk σ a 0 = true ∧ qEx d 0 13 st ls (σ.1, qsetR σ.2 a 0 (some b)) μ la Q) := ((qEx_eq (i := .putfield 11) rfl).trans qExA_chk).trans (qAndL ⟨by decide +kernel, by decide +kernel⟩)
theorem x0_13  : qEx d 0 13 st ls σ μ la Q ↔ qEx d 0 14 (.int 0 :: st) ls σ μ la Q := (qEx_eq (i := .iconst 0) rfl).trans Iff.rfl
theorem x0_14 {x : Int32} {l0 l1 : Value} : qEx d 0 14 (.int x :: st) [l0, l1] σ μ la Q ↔ qEx d 0 15 st [l0, .int x] σ μ la Q := (qEx_eq (i := .istore_n 1) rfl).trans Iff.rfl
theorem x0_15 {x : Int32} {l0 : Value} : qEx d 0 15 st [l0, .int x] σ μ la Q ↔ qEx d 0 16 (.int x :: st) [l0, .int x] σ μ la Q := (qEx_eq (i := .iload_n 1) rfl).trans Iff.rfl
theorem x0_16  : qEx d 0 16 st ls σ μ la Q ↔ qEx d 0 18 (.int 24 :: st) ls σ μ la Q := (qEx_eq (i := .bipush 24) rfl).trans Iff.rfl
theorem x0_18 {x y : Int32} : qEx d 0 18 (.int y :: .int x :: st) ls σ μ la Q ↔ (if y ≤ x then qEx d 0 40 st ls σ μ la Q else qEx d 0 21 st ls σ μ la Q) := (qEx_eq (i := .if_icmp .ge 22) rfl).trans qExA_ite
theorem x0_21 {x : Nat} {l1 : Value} : qEx d 0 21 st [.ref x, l1] σ μ la Q ↔ qEx d 0 22 (.ref x :: st) [.ref x, l1] σ μ la Q := (qEx_eq (i := .aload_n 0) rfl).trans Iff.rfl
theorem x0_22 {a : Nat} : qEx d 0 22 (.ref a :: st) ls σ μ la Q ↔ (qOk σ a 0 = true ∧ qEx d 0 25 (qrf (σ.2 a 0) :: st) ls σ μ la Q) := (qEx_eq (i := .getfield 11) rfl).trans qExA_chk
theorem x0_25 {x : Int32} {l0 : Value} : qEx d 0 25 st [l0, .int x] σ μ la Q ↔ qEx d 0 26 (.int x :: st) [l0, .int x] σ μ la Q := (qEx_eq (i := .iload_n 1) rfl).trans Iff.rfl
theorem x0_26  : qEx d 0 26 st ls σ μ la Q ↔ ((qSh σ.1 = (4, 13) ∧ σ.1 < 1000) ∧ qEx d 0 29 (.ref σ.1 :: st) ls (σ.1 + 1, qclr σ.2 σ.1 none) (qclr μ σ.1 0) la Q) := ((qEx_eq (i := .new 9) rfl).trans qExA_chk).trans (qAndM (by decide))
theorem x0_29 {x : Nat} : qEx d 0 29 (.ref x :: st) ls σ μ la Q ↔ qEx d 0 30 (.ref x :: .ref x :: st) ls σ μ la Q := (qEx_eq (i := .dup) rfl).trans Iff.rfl
theorem x0_30 {a : Nat} {z0 : Nat} {z1 : Int32} {z2 : Nat} : qEx (d + 1) 0 30 [.ref a, .ref z0, .int z1, .ref z2] ls σ μ la Q ↔ qEx d 58 0 [] [.ref a] σ μ la fun r σ' μ' la' => qEx (d + 1) 0 33 (r.toList ++ [.ref z0, .int z1, .ref z2]) ls σ' μ' la' Q := (qEx_eq (i := .invokespecial 17) rfl).trans Iff.rfl
theorem x0_33 {x : Int32} {a b : Nat} : qEx d 0 33 (.ref b :: .int x :: .ref a :: st) ls σ μ la Q ↔ (if (qIn x (qLen σ 13 a) = true ∧ qOk σ b 4 = true) then qEx d 0 34 st ls (σ.1, qsetR σ.2 a x.toNatClampNeg (some b)) μ la Q else ((qIn x (qLen σ 14 a) = true ∧ qOk σ b 2 = true) ∧ qEx d 0 34 st ls (σ.1, qsetR σ.2 a x.toNatClampNeg (some b)) μ la Q)) := (qEx_eq (i := .aastore) rfl).trans (qExA_ite2 Iff.rfl qExA_chk)
theorem x0_34 {x : Int32} {l0 : Value} : qEx d 0 34 st [l0, .int x] σ μ la Q ↔ qEx d 0 37 st [l0, .int (x + 1)] σ μ la Q := (qEx_eq (i := .iinc 1 1) rfl).trans Iff.rfl
theorem x0_37  : qEx d 0 37 st ls σ μ la Q ↔ qEx d 0 15 st ls σ μ la Q := (qEx_eq (i := .goto (-22)) rfl).trans Iff.rfl
theorem x0_40  : qEx d 0 40 [] ls σ μ la Q ↔ Q none σ μ la := (qEx_eq (i := .return_) rfl).trans Iff.rfl
theorem x1_0 {x : Nat} {l1 : Value} : qEx d 1 0 st [.ref x, l1] σ μ la Q ↔ qEx d 1 1 (.ref x :: st) [.ref x, l1] σ μ la Q := (qEx_eq (i := .aload_n 0) rfl).trans Iff.rfl
theorem x1_1 {a : Nat} : qEx d 1 1 (.ref a :: st) ls σ μ la Q ↔ (qOk σ a 0 = true ∧ qEx d 1 4 (qrf (σ.2 a 0) :: st) ls σ μ la Q) := (qEx_eq (i := .getfield 11) rfl).trans qExA_chk
theorem x1_4 {x : Nat} {l1 : Value} : qEx d 1 4 st [.ref x, l1] σ μ la Q ↔ qEx d 1 5 (.ref x :: st) [.ref x, l1] σ μ la Q := (qEx_eq (i := .aload_n 0) rfl).trans Iff.rfl
theorem x1_5 {a : Nat} : qEx d 1 5 (.ref a :: st) ls σ μ la Q ↔ (qOk σ a 0 = true ∧ qEx d 1 8 (.int (μ a 1) :: st) ls σ μ la Q) := (qEx_eq (i := .getfield 18) rfl).trans qExA_chk
theorem x1_8 {x : Int32} {a : Nat} : qEx d 1 8 (.int x :: .ref a :: st) ls σ μ la Q ↔ (qIn x (qAld σ a) = true ∧ qEx d 1 9 (qrf (σ.2 a x.toNatClampNeg) :: st) ls σ μ la Q) := (qEx_eq (i := .aaload) rfl).trans qExA_chk
theorem x1_9 {x : Nat} {l0 : Value} : qEx d 1 9 st [l0, .ref x] σ μ la Q ↔ qEx d 1 10 (.ref x :: st) [l0, .ref x] σ μ la Q := (qEx_eq (i := .aload_n 1) rfl).trans Iff.rfl
theorem x1_10 {y0 : Nat} {a : Nat} : qEx (d + 1) 1 10 [.ref y0, .ref a] ls σ μ la Q ↔ (qOk σ a 4 = true ∧ qEx d 59 0 [] [.ref a, .ref y0] σ μ la fun r σ' μ' la' => qEx (d + 1) 1 13 (r.toList ++ []) ls σ' μ' la' Q) := (qEx_eq (i := .invokevirtual 22) rfl).trans qExA_chk
theorem x1_13 {x : Nat} {l1 : Value} : qEx d 1 13 st [.ref x, l1] σ μ la Q ↔ qEx d 1 14 (.ref x :: st) [.ref x, l1] σ μ la Q := (qEx_eq (i := .aload_n 0) rfl).trans Iff.rfl
theorem x1_14 {x : Nat} {l1 : Value} : qEx d 1 14 st [.ref x, l1] σ μ la Q ↔ qEx d 1 15 (.ref x :: st) [.ref x, l1] σ μ la Q := (qEx_eq (i := .aload_n 0) rfl).trans Iff.rfl
theorem x1_15 {a : Nat} : qEx d 1 15 (.ref a :: st) ls σ μ la Q ↔ (qOk σ a 0 = true ∧ qEx d 1 18 (.int (μ a 1) :: st) ls σ μ la Q) := (qEx_eq (i := .getfield 18) rfl).trans qExA_chk
theorem x1_18  : qEx d 1 18 st ls σ μ la Q ↔ qEx d 1 19 (.int 1 :: st) ls σ μ la Q := (qEx_eq (i := .iconst 1) rfl).trans Iff.rfl
theorem x1_19 {x y : Int32} : qEx d 1 19 (.int y :: .int x :: st) ls σ μ la Q ↔ qEx d 1 20 (.int (x + y) :: st) ls σ μ la Q := (qEx_eq (i := .iadd) rfl).trans Iff.rfl
theorem x1_20  : qEx d 1 20 st ls σ μ la Q ↔ qEx d 1 22 (.int 24 :: st) ls σ μ la Q := (qEx_eq (i := .bipush 24) rfl).trans Iff.rfl
theorem x1_22 {x y : Int32} : qEx d 1 22 (.int y :: .int x :: st) ls σ μ la Q ↔ (¬ y = 0 ∧ qEx d 1 23 (.int (x - x / y * y) :: st) ls σ μ la Q) := (qEx_eq (i := .irem) rfl).trans qExA_chk
theorem x1_23 {x : Int32} {a : Nat} : qEx d 1 23 (.int x :: .ref a :: st) ls σ μ la Q ↔ (qOk σ a 0 = true ∧ qEx d 1 26 st ls σ (qset μ a 1 x) la Q) := (qEx_eq (i := .putfield 18) rfl).trans qExA_chk
theorem x1_26 {x : Nat} {l1 : Value} : qEx d 1 26 st [.ref x, l1] σ μ la Q ↔ qEx d 1 27 (.ref x :: st) [.ref x, l1] σ μ la Q := (qEx_eq (i := .aload_n 0) rfl).trans Iff.rfl
theorem x1_27 {a : Nat} : qEx d 1 27 (.ref a :: st) ls σ μ la Q ↔ (qOk σ a 0 = true ∧ qEx d 1 30 (.int (μ a 2) :: st) ls σ μ la Q) := (qEx_eq (i := .getfield 26) rfl).trans qExA_chk
theorem x1_30  : qEx d 1 30 st ls σ μ la Q ↔ qEx d 1 32 (.int 24 :: st) ls σ μ la Q := (qEx_eq (i := .bipush 24) rfl).trans Iff.rfl
theorem x1_32 {x y : Int32} : qEx d 1 32 (.int y :: .int x :: st) ls σ μ la Q ↔ (if y ≤ x then qEx d 1 45 st ls σ μ la Q else qEx d 1 35 st ls σ μ la Q) := (qEx_eq (i := .if_icmp .ge 13) rfl).trans qExA_ite
theorem x1_35 {x : Nat} {l1 : Value} : qEx d 1 35 st [.ref x, l1] σ μ la Q ↔ qEx d 1 36 (.ref x :: st) [.ref x, l1] σ μ la Q := (qEx_eq (i := .aload_n 0) rfl).trans Iff.rfl
theorem x1_36 {x : Nat} : qEx d 1 36 (.ref x :: st) ls σ μ la Q ↔ qEx d 1 37 (.ref x :: .ref x :: st) ls σ μ la Q := (qEx_eq (i := .dup) rfl).trans Iff.rfl
theorem x1_37 {a : Nat} : qEx d 1 37 (.ref a :: st) ls σ μ la Q ↔ (qOk σ a 0 = true ∧ qEx d 1 40 (.int (μ a 2) :: st) ls σ μ la Q) := (qEx_eq (i := .getfield 26) rfl).trans qExA_chk
theorem x1_40  : qEx d 1 40 st ls σ μ la Q ↔ qEx d 1 41 (.int 1 :: st) ls σ μ la Q := (qEx_eq (i := .iconst 1) rfl).trans Iff.rfl
theorem x1_41 {x y : Int32} : qEx d 1 41 (.int y :: .int x :: st) ls σ μ la Q ↔ qEx d 1 42 (.int (x + y) :: st) ls σ μ la Q := (qEx_eq (i := .iadd) rfl).trans Iff.rfl
theorem x1_42 {x : Int32} {a : Nat} : qEx d 1 42 (.int x :: .ref a :: st) ls σ μ la Q ↔ (qOk σ a 0 = true ∧ qEx d 1 45 st ls σ (qset μ a 2 x) la Q) := (qEx_eq (i := .putfield 26) rfl).trans qExA_chk
theorem x1_45  : qEx d 1 45 [] ls σ μ la Q ↔ Q none σ μ la := (qEx_eq (i := .return_) rfl).trans Iff.rfl
theorem x2_0 {x : Nat} {l1 : Value} : qEx d 2 0 st [.ref x, l1] σ μ la Q ↔ qEx d 2 1 (.ref x :: st) [.ref x, l1] σ μ la Q := (qEx_eq (i := .aload_n 0) rfl).trans Iff.rfl
theorem x2_1 {x : Nat} {l1 : Value} : qEx d 2 1 st [.ref x, l1] σ μ la Q ↔ qEx d 2 2 (.ref x :: st) [.ref x, l1] σ μ la Q := (qEx_eq (i := .aload_n 0) rfl).trans Iff.rfl
theorem x2_2 {a : Nat} : qEx d 2 2 (.ref a :: st) ls σ μ la Q ↔ (qOk σ a 0 = true ∧ qEx d 2 5 (.int (μ a 1) :: st) ls σ μ la Q) := (qEx_eq (i := .getfield 18) rfl).trans qExA_chk
theorem x2_5  : qEx d 2 5 st ls σ μ la Q ↔ qEx d 2 7 (.int 24 :: st) ls σ μ la Q := (qEx_eq (i := .bipush 24) rfl).trans Iff.rfl
theorem x2_7 {x y : Int32} : qEx d 2 7 (.int y :: .int x :: st) ls σ μ la Q ↔ qEx d 2 8 (.int (x + y) :: st) ls σ μ la Q := (qEx_eq (i := .iadd) rfl).trans Iff.rfl
theorem x2_8  : qEx d 2 8 st ls σ μ la Q ↔ qEx d 2 9 (.int 1 :: st) ls σ μ la Q := (qEx_eq (i := .iconst 1) rfl).trans Iff.rfl
theorem x2_9 {x y : Int32} : qEx d 2 9 (.int y :: .int x :: st) ls σ μ la Q ↔ qEx d 2 10 (.int (x - y) :: st) ls σ μ la Q := (qEx_eq (i := .isub) rfl).trans Iff.rfl
theorem x2_10  : qEx d 2 10 st ls σ μ la Q ↔ qEx d 2 12 (.int 24 :: st) ls σ μ la Q := (qEx_eq (i := .bipush 24) rfl).trans Iff.rfl
theorem x2_12 {x y : Int32} : qEx d 2 12 (.int y :: .int x :: st) ls σ μ la Q ↔ (¬ y = 0 ∧ qEx d 2 13 (.int (x - x / y * y) :: st) ls σ μ la Q) := (qEx_eq (i := .irem) rfl).trans qExA_chk
theorem x2_13 {x : Int32} {a : Nat} : qEx d 2 13 (.int x :: .ref a :: st) ls σ μ la Q ↔ (qOk σ a 0 = true ∧ qEx d 2 16 st ls σ (qset μ a 1 x) la Q) := (qEx_eq (i := .putfield 18) rfl).trans qExA_chk
theorem x2_16 {x : Nat} {l1 : Value} : qEx d 2 16 st [.ref x, l1] σ μ la Q ↔ qEx d 2 17 (.ref x :: st) [.ref x, l1] σ μ la Q := (qEx_eq (i := .aload_n 0) rfl).trans Iff.rfl
theorem x2_17 {x : Nat} : qEx d 2 17 (.ref x :: st) ls σ μ la Q ↔ qEx d 2 18 (.ref x :: .ref x :: st) ls σ μ la Q := (qEx_eq (i := .dup) rfl).trans Iff.rfl
theorem x2_18 {a : Nat} : qEx d 2 18 (.ref a :: st) ls σ μ la Q ↔ (qOk σ a 0 = true ∧ qEx d 2 21 (.int (μ a 2) :: st) ls σ μ la Q) := (qEx_eq (i := .getfield 26) rfl).trans qExA_chk
theorem x2_21  : qEx d 2 21 st ls σ μ la Q ↔ qEx d 2 22 (.int 1 :: st) ls σ μ la Q := (qEx_eq (i := .iconst 1) rfl).trans Iff.rfl
theorem x2_22 {x y : Int32} : qEx d 2 22 (.int y :: .int x :: st) ls σ μ la Q ↔ qEx d 2 23 (.int (x - y) :: st) ls σ μ la Q := (qEx_eq (i := .isub) rfl).trans Iff.rfl
theorem x2_23 {x : Int32} {a : Nat} : qEx d 2 23 (.int x :: .ref a :: st) ls σ μ la Q ↔ (qOk σ a 0 = true ∧ qEx d 2 26 st ls σ (qset μ a 2 x) la Q) := (qEx_eq (i := .putfield 26) rfl).trans qExA_chk
theorem x2_26 {x : Nat} {l0 : Value} : qEx d 2 26 st [l0, .ref x] σ μ la Q ↔ qEx d 2 27 (.ref x :: st) [l0, .ref x] σ μ la Q := (qEx_eq (i := .aload_n 1) rfl).trans Iff.rfl
theorem x2_27 {x : Nat} {l1 : Value} : qEx d 2 27 st [.ref x, l1] σ μ la Q ↔ qEx d 2 28 (.ref x :: st) [.ref x, l1] σ μ la Q := (qEx_eq (i := .aload_n 0) rfl).trans Iff.rfl
theorem x2_28 {a : Nat} : qEx d 2 28 (.ref a :: st) ls σ μ la Q ↔ (qOk σ a 0 = true ∧ qEx d 2 31 (qrf (σ.2 a 0) :: st) ls σ μ la Q) := (qEx_eq (i := .getfield 11) rfl).trans qExA_chk
theorem x2_31 {x : Nat} {l1 : Value} : qEx d 2 31 st [.ref x, l1] σ μ la Q ↔ qEx d 2 32 (.ref x :: st) [.ref x, l1] σ μ la Q := (qEx_eq (i := .aload_n 0) rfl).trans Iff.rfl
theorem x2_32 {a : Nat} : qEx d 2 32 (.ref a :: st) ls σ μ la Q ↔ (qOk σ a 0 = true ∧ qEx d 2 35 (.int (μ a 1) :: st) ls σ μ la Q) := (qEx_eq (i := .getfield 18) rfl).trans qExA_chk
theorem x2_35 {x : Int32} {a : Nat} : qEx d 2 35 (.int x :: .ref a :: st) ls σ μ la Q ↔ (qIn x (qAld σ a) = true ∧ qEx d 2 36 (qrf (σ.2 a x.toNatClampNeg) :: st) ls σ μ la Q) := (qEx_eq (i := .aaload) rfl).trans qExA_chk
theorem x2_36 {y0 : Nat} {a : Nat} : qEx (d + 1) 2 36 [.ref y0, .ref a] ls σ μ la Q ↔ (qOk σ a 4 = true ∧ qEx d 59 0 [] [.ref a, .ref y0] σ μ la fun r σ' μ' la' => qEx (d + 1) 2 39 (r.toList ++ []) ls σ' μ' la' Q) := (qEx_eq (i := .invokevirtual 22) rfl).trans qExA_chk
theorem x2_39  : qEx d 2 39 [] ls σ μ la Q ↔ Q none σ μ la := (qEx_eq (i := .return_) rfl).trans Iff.rfl
theorem x3_0 {x : Nat} : qEx d 3 0 st [.ref x] σ μ la Q ↔ qEx d 3 1 (.ref x :: st) [.ref x] σ μ la Q := (qEx_eq (i := .aload_n 0) rfl).trans Iff.rfl
theorem x3_1  : qEx d 3 1 st ls σ μ la Q ↔ qEx d 3 2 (.int 0 :: st) ls σ μ la Q := (qEx_eq (i := .iconst 0) rfl).trans Iff.rfl
theorem x3_2 {x : Int32} {a : Nat} : qEx d 3 2 (.int x :: .ref a :: st) ls σ μ la Q ↔ (qOk σ a 0 = true ∧ qEx d 3 5 st ls σ (qset μ a 2 x) la Q) := (qEx_eq (i := .putfield 26) rfl).trans qExA_chk
theorem x3_5  : qEx d 3 5 [] ls σ μ la Q ↔ Q none σ μ la := (qEx_eq (i := .return_) rfl).trans Iff.rfl
theorem x37_0 {x : Nat} : qEx d 37 0 st [.ref x] σ μ la Q ↔ qEx d 37 1 (.ref x :: st) [.ref x] σ μ la Q := (qEx_eq (i := .aload_n 0) rfl).trans Iff.rfl
theorem x37_1 {a : Nat} : qEx d 37 1 [.ref a] ls σ μ la Q ↔ qEx d 37 4 [] ls σ μ la Q := (qEx_eq (i := .invokespecial 3) rfl).trans Iff.rfl
theorem x37_4 {x : Nat} : qEx d 37 4 st [.ref x] σ μ la Q ↔ qEx d 37 5 (.ref x :: st) [.ref x] σ μ la Q := (qEx_eq (i := .aload_n 0) rfl).trans Iff.rfl
theorem x37_5  : qEx d 37 5 st ls σ μ la Q ↔ qEx d 37 7 (.int 24 :: st) ls σ μ la Q := (qEx_eq (i := .bipush 24) rfl).trans Iff.rfl
theorem x37_7 {x : Int32} : qEx d 37 7 (.int x :: st) ls σ μ la Q ↔ ((0 ≤ x ∧ qSh σ.1 = (11, x.toNatClampNeg) ∧ x.toNatClampNeg ≤ 5000 ∧ σ.1 < 1000) ∧ qEx d 37 9 (.ref σ.1 :: st) ls (σ.1 + 1, σ.2) (qclr μ σ.1 0) (qclr la σ.1 0) Q) := ((qEx_eq (i := .newarray .long) rfl).trans qExA_chk).trans (qAndN (by decide))
theorem x37_9 {a b : Nat} : qEx d 37 9 (.ref b :: .ref a :: st) ls σ μ la Q ↔ (qOk σ a 2 = true ∧ qEx d 37 12 st ls (σ.1, qsetR σ.2 a 0 (some b)) μ la Q) := ((qEx_eq (i := .putfield 9) rfl).trans qExA_chk).trans (qAndL ⟨by decide +kernel, by decide +kernel⟩)
theorem x37_12 {x : Nat} : qEx d 37 12 st [.ref x] σ μ la Q ↔ qEx d 37 13 (.ref x :: st) [.ref x] σ μ la Q := (qEx_eq (i := .aload_n 0) rfl).trans Iff.rfl
theorem x37_13  : qEx d 37 13 st ls σ μ la Q ↔ qEx d 37 14 (.int (-1) :: st) ls σ μ la Q := (qEx_eq (i := .iconst (-1)) rfl).trans Iff.rfl
theorem x37_14 {x : Int32} {a : Nat} : qEx d 37 14 (.int x :: .ref a :: st) ls σ μ la Q ↔ (qOk σ a 2 = true ∧ qEx d 37 17 st ls σ (qset μ a 1 x) la Q) := (qEx_eq (i := .putfield 15) rfl).trans qExA_chk
theorem x37_17  : qEx d 37 17 [] ls σ μ la Q ↔ Q none σ μ la := (qEx_eq (i := .return_) rfl).trans Iff.rfl
theorem x38_0 {x : Nat} : qEx d 38 0 st [.ref x] σ μ la Q ↔ qEx d 38 1 (.ref x :: st) [.ref x] σ μ la Q := (qEx_eq (i := .aload_n 0) rfl).trans Iff.rfl
theorem x38_1 {a : Nat} : qEx d 38 1 (.ref a :: st) ls σ μ la Q ↔ (qOk σ a 2 = true ∧ qEx d 38 4 (.int (μ a 1) :: st) ls σ μ la Q) := (qEx_eq (i := .getfield 15) rfl).trans qExA_chk
theorem x38_4  : qEx d 38 4 st ls σ μ la Q ↔ qEx d 38 5 (.int (-1) :: st) ls σ μ la Q := (qEx_eq (i := .iconst (-1)) rfl).trans Iff.rfl
theorem x38_5 {x y : Int32} : qEx d 38 5 (.int y :: .int x :: st) ls σ μ la Q ↔ (if ¬ x = y then qEx d 38 12 st ls σ μ la Q else qEx d 38 8 st ls σ μ la Q) := (qEx_eq (i := .if_icmp .ne 7) rfl).trans qExA_ite
theorem x38_8  : qEx d 38 8 st ls σ μ la Q ↔ qEx d 38 9 (.int 1 :: st) ls σ μ la Q := (qEx_eq (i := .iconst 1) rfl).trans Iff.rfl
theorem x38_9  : qEx d 38 9 st ls σ μ la Q ↔ qEx d 38 13 st ls σ μ la Q := (qEx_eq (i := .goto 4) rfl).trans Iff.rfl
theorem x38_12  : qEx d 38 12 st ls σ μ la Q ↔ qEx d 38 13 (.int 0 :: st) ls σ μ la Q := (qEx_eq (i := .iconst 0) rfl).trans Iff.rfl
theorem x38_13 {x : Int32} : qEx d 38 13 [.int x] ls σ μ la Q ↔ ((x = 0 ∨ x = 1) ∧ Q (some (.int x)) σ μ la) := (qEx_eq (i := .ireturn) rfl).trans qExA_chk
theorem x39_0 {x : Nat} {l1 l2 l3 : Value} : qEx d 39 0 st [.ref x, l1, l2, l3] σ μ la Q ↔ qEx d 39 1 (.ref x :: st) [.ref x, l1, l2, l3] σ μ la Q := (qEx_eq (i := .aload_n 0) rfl).trans Iff.rfl
theorem x39_1 {x : Int32} {l0 l2 l3 : Value} : qEx d 39 1 st [l0, .int x, l2, l3] σ μ la Q ↔ qEx d 39 2 (.int x :: st) [l0, .int x, l2, l3] σ μ la Q := (qEx_eq (i := .iload_n 1) rfl).trans Iff.rfl
theorem x39_2 {x : Int32} {a : Nat} : qEx d 39 2 (.int x :: .ref a :: st) ls σ μ la Q ↔ (qOk σ a 2 = true ∧ qEx d 39 5 st ls σ (qset μ a 1 x) la Q) := (qEx_eq (i := .putfield 15) rfl).trans qExA_chk
theorem x39_5 {x : Nat} {l1 l2 l3 : Value} : qEx d 39 5 st [.ref x, l1, l2, l3] σ μ la Q ↔ qEx d 39 6 (.ref x :: st) [.ref x, l1, l2, l3] σ μ la Q := (qEx_eq (i := .aload_n 0) rfl).trans Iff.rfl
theorem x39_6 {x : Int32} {l0 l1 l3 : Value} : qEx d 39 6 st [l0, l1, .int x, l3] σ μ la Q ↔ qEx d 39 7 (.int x :: st) [l0, l1, .int x, l3] σ μ la Q := (qEx_eq (i := .iload_n 2) rfl).trans Iff.rfl
theorem x39_7 {x : Int32} {a : Nat} : qEx d 39 7 (.int x :: .ref a :: st) ls σ μ la Q ↔ (qOk σ a 2 = true ∧ qEx d 39 10 st ls σ (qset μ a 2 x) la Q) := (qEx_eq (i := .putfield 19) rfl).trans qExA_chk
theorem x39_10  : qEx d 39 10 st ls σ μ la Q ↔ qEx d 39 11 (.int 0 :: st) ls σ μ la Q := (qEx_eq (i := .iconst 0) rfl).trans Iff.rfl
theorem x39_11 {x : Int32} {l0 l1 l2 l3 : Value} : qEx d 39 11 (.int x :: st) [l0, l1, l2, l3] σ μ la Q ↔ qEx d 39 12 st [l0, l1, l2, .int x] σ μ la Q := (qEx_eq (i := .istore_n 3) rfl).trans Iff.rfl
theorem x39_12 {x : Int32} {l0 l1 l2 : Value} : qEx d 39 12 st [l0, l1, l2, .int x] σ μ la Q ↔ qEx d 39 13 (.int x :: st) [l0, l1, l2, .int x] σ μ la Q := (qEx_eq (i := .iload_n 3) rfl).trans Iff.rfl
theorem x39_13  : qEx d 39 13 st ls σ μ la Q ↔ qEx d 39 15 (.int 24 :: st) ls σ μ la Q := (qEx_eq (i := .bipush 24) rfl).trans Iff.rfl
theorem x39_15 {x y : Int32} : qEx d 39 15 (.int y :: .int x :: st) ls σ μ la Q ↔ (if y ≤ x then qEx d 39 31 st ls σ μ la Q else qEx d 39 18 st ls σ μ la Q) := (qEx_eq (i := .if_icmp .ge 16) rfl).trans qExA_ite
theorem x39_18 {x : Nat} {l1 l2 l3 : Value} : qEx d 39 18 st [.ref x, l1, l2, l3] σ μ la Q ↔ qEx d 39 19 (.ref x :: st) [.ref x, l1, l2, l3] σ μ la Q := (qEx_eq (i := .aload_n 0) rfl).trans Iff.rfl
theorem x39_19 {a : Nat} : qEx d 39 19 (.ref a :: st) ls σ μ la Q ↔ (qOk σ a 2 = true ∧ qEx d 39 22 (qrf (σ.2 a 0) :: st) ls σ μ la Q) := (qEx_eq (i := .getfield 9) rfl).trans qExA_chk
theorem x39_22 {x : Int32} {l0 l1 l2 : Value} : qEx d 39 22 st [l0, l1, l2, .int x] σ μ la Q ↔ qEx d 39 23 (.int x :: st) [l0, l1, l2, .int x] σ μ la Q := (qEx_eq (i := .iload_n 3) rfl).trans Iff.rfl
theorem x39_23  : qEx d 39 23 st ls σ μ la Q ↔ qEx d 39 24 (.long 0 :: st) ls σ μ la Q := (qEx_eq (i := .lconst 0) rfl).trans Iff.rfl
theorem x39_24 {x : Int32} {y : Int64} {a : Nat} : qEx d 39 24 (.long y :: .int x :: .ref a :: st) ls σ μ la Q ↔ (qIn x (qLen σ 11 a) = true ∧ qEx d 39 25 st ls σ μ (qsetL la a x.toNatClampNeg y) Q) := (qEx_eq (i := .lastore) rfl).trans qExA_chk
theorem x39_25 {x : Int32} {l0 l1 l2 : Value} : qEx d 39 25 st [l0, l1, l2, .int x] σ μ la Q ↔ qEx d 39 28 st [l0, l1, l2, .int (x + 1)] σ μ la Q := (qEx_eq (i := .iinc 3 1) rfl).trans Iff.rfl
theorem x39_28  : qEx d 39 28 st ls σ μ la Q ↔ qEx d 39 12 st ls σ μ la Q := (qEx_eq (i := .goto (-16)) rfl).trans Iff.rfl
theorem x39_31  : qEx d 39 31 [] ls σ μ la Q ↔ Q none σ μ la := (qEx_eq (i := .return_) rfl).trans Iff.rfl
theorem x40_0 {x : Nat} : qEx d 40 0 st [.ref x] σ μ la Q ↔ qEx d 40 1 (.ref x :: st) [.ref x] σ μ la Q := (qEx_eq (i := .aload_n 0) rfl).trans Iff.rfl
theorem x40_1  : qEx d 40 1 st ls σ μ la Q ↔ qEx d 40 2 (.int (-1) :: st) ls σ μ la Q := (qEx_eq (i := .iconst (-1)) rfl).trans Iff.rfl
theorem x40_2 {x : Int32} {a : Nat} : qEx d 40 2 (.int x :: .ref a :: st) ls σ μ la Q ↔ (qOk σ a 2 = true ∧ qEx d 40 5 st ls σ (qset μ a 1 x) la Q) := (qEx_eq (i := .putfield 15) rfl).trans qExA_chk
theorem x40_5 {x : Nat} : qEx d 40 5 st [.ref x] σ μ la Q ↔ qEx d 40 6 (.ref x :: st) [.ref x] σ μ la Q := (qEx_eq (i := .aload_n 0) rfl).trans Iff.rfl
theorem x40_6  : qEx d 40 6 st ls σ μ la Q ↔ qEx d 40 7 (.int 0 :: st) ls σ μ la Q := (qEx_eq (i := .iconst 0) rfl).trans Iff.rfl
theorem x40_7 {x : Int32} {a : Nat} : qEx d 40 7 (.int x :: .ref a :: st) ls σ μ la Q ↔ (qOk σ a 2 = true ∧ qEx d 40 10 st ls σ (qset μ a 2 x) la Q) := (qEx_eq (i := .putfield 19) rfl).trans qExA_chk
theorem x40_10  : qEx d 40 10 [] ls σ μ la Q ↔ Q none σ μ la := (qEx_eq (i := .return_) rfl).trans Iff.rfl
theorem x41_0 {x : Int32} {l0 l1 : Value} : qEx d 41 0 st [l0, l1, .int x] σ μ la Q ↔ qEx d 41 1 (.int x :: st) [l0, l1, .int x] σ μ la Q := (qEx_eq (i := .iload_n 2) rfl).trans Iff.rfl
theorem x41_1 {x : Int32} : qEx d 41 1 (.int x :: st) ls σ μ la Q ↔ (if x < 0 then qEx d 41 22 st ls σ μ la Q else qEx d 41 4 st ls σ μ la Q) := (qEx_eq (i := .ifCond .lt 21) rfl).trans qExA_ite
theorem x41_4 {x : Int32} {l0 l2 : Value} : qEx d 41 4 st [l0, .int x, l2] σ μ la Q ↔ qEx d 41 5 (.int x :: st) [l0, .int x, l2] σ μ la Q := (qEx_eq (i := .iload_n 1) rfl).trans Iff.rfl
theorem x41_5 {x : Int32} : qEx d 41 5 (.int x :: st) ls σ μ la Q ↔ (if x < 0 then qEx d 41 22 st ls σ μ la Q else qEx d 41 8 st ls σ μ la Q) := (qEx_eq (i := .ifCond .lt 17) rfl).trans qExA_ite
theorem x41_8 {x : Int32} {l0 l2 : Value} : qEx d 41 8 st [l0, .int x, l2] σ μ la Q ↔ qEx d 41 9 (.int x :: st) [l0, .int x, l2] σ μ la Q := (qEx_eq (i := .iload_n 1) rfl).trans Iff.rfl
theorem x41_9 {x : Nat} {l1 l2 : Value} : qEx d 41 9 st [.ref x, l1, l2] σ μ la Q ↔ qEx d 41 10 (.ref x :: st) [.ref x, l1, l2] σ μ la Q := (qEx_eq (i := .aload_n 0) rfl).trans Iff.rfl
theorem x41_10 {a : Nat} : qEx d 41 10 (.ref a :: st) ls σ μ la Q ↔ (qOk σ a 2 = true ∧ qEx d 41 13 (.int (μ a 2) :: st) ls σ μ la Q) := (qEx_eq (i := .getfield 19) rfl).trans qExA_chk
theorem x41_13 {x : Int32} {l0 l1 : Value} : qEx d 41 13 st [l0, l1, .int x] σ μ la Q ↔ qEx d 41 14 (.int x :: st) [l0, l1, .int x] σ μ la Q := (qEx_eq (i := .iload_n 2) rfl).trans Iff.rfl
theorem x41_14 {x y : Int32} : qEx d 41 14 (.int y :: .int x :: st) ls σ μ la Q ↔ qEx d 41 15 (.int (x - y) :: st) ls σ μ la Q := (qEx_eq (i := .isub) rfl).trans Iff.rfl
theorem x41_15 {x y : Int32} : qEx d 41 15 (.int y :: .int x :: st) ls σ μ la Q ↔ (if y < x then qEx d 41 22 st ls σ μ la Q else qEx d 41 18 st ls σ μ la Q) := (qEx_eq (i := .if_icmp .gt 7) rfl).trans qExA_ite
theorem x41_18  : qEx d 41 18 st ls σ μ la Q ↔ qEx d 41 19 (.int 1 :: st) ls σ μ la Q := (qEx_eq (i := .iconst 1) rfl).trans Iff.rfl
theorem x41_19  : qEx d 41 19 st ls σ μ la Q ↔ qEx d 41 23 st ls σ μ la Q := (qEx_eq (i := .goto 4) rfl).trans Iff.rfl
theorem x41_22  : qEx d 41 22 st ls σ μ la Q ↔ qEx d 41 23 (.int 0 :: st) ls σ μ la Q := (qEx_eq (i := .iconst 0) rfl).trans Iff.rfl
theorem x41_23 {x : Int32} : qEx d 41 23 [.int x] ls σ μ la Q ↔ ((x = 0 ∨ x = 1) ∧ Q (some (.int x)) σ μ la) := (qEx_eq (i := .ireturn) rfl).trans qExA_chk
theorem x42_0 {x : Nat} {l1 l2 l3 : Value} : qEx d 42 0 st [.ref x, l1, l2, l3] σ μ la Q ↔ qEx d 42 1 (.ref x :: st) [.ref x, l1, l2, l3] σ μ la Q := (qEx_eq (i := .aload_n 0) rfl).trans Iff.rfl
theorem x42_1 {a : Nat} : qEx d 42 1 (.ref a :: st) ls σ μ la Q ↔ (qOk σ a 2 = true ∧ qEx d 42 4 (qrf (σ.2 a 0) :: st) ls σ μ la Q) := (qEx_eq (i := .getfield 9) rfl).trans qExA_chk
theorem x42_4 {x : Int32} {l0 l2 l3 : Value} : qEx d 42 4 st [l0, .int x, l2, l3] σ μ la Q ↔ qEx d 42 5 (.int x :: st) [l0, .int x, l2, l3] σ μ la Q := (qEx_eq (i := .iload_n 1) rfl).trans Iff.rfl
theorem x42_5 {x : Nat} {l1 l2 l3 : Value} : qEx d 42 5 st [.ref x, l1, l2, l3] σ μ la Q ↔ qEx d 42 6 (.ref x :: st) [.ref x, l1, l2, l3] σ μ la Q := (qEx_eq (i := .aload_n 0) rfl).trans Iff.rfl
theorem x42_6 {x : Int64} {l0 l1 : Value} : qEx d 42 6 st [l0, l1, .long x, .retAddr 1] σ μ la Q ↔ qEx d 42 7 (.long x :: st) [l0, l1, .long x, .retAddr 1] σ μ la Q := (qEx_eq (i := .lload_n 2) rfl).trans Iff.rfl
theorem x42_7 {y0 : Int64} {a : Nat} {z0 : Int32} {z1 : Nat} : qEx (d + 1) 42 7 [.long y0, .ref a, .int z0, .ref z1] ls σ μ la Q ↔ (qOk σ a 2 = true ∧ qEx d 43 0 [] [.ref a, .long y0, .retAddr 1] σ μ la fun r σ' μ' la' => qEx (d + 1) 42 10 (r.toList ++ [.int z0, .ref z1]) ls σ' μ' la' Q) := (qEx_eq (i := .invokevirtual 22) rfl).trans qExA_chk
theorem x42_10 {x : Int32} {y : Int64} {a : Nat} : qEx d 42 10 (.long y :: .int x :: .ref a :: st) ls σ μ la Q ↔ (qIn x (qLen σ 11 a) = true ∧ qEx d 42 11 st ls σ μ (qsetL la a x.toNatClampNeg y) Q) := (qEx_eq (i := .lastore) rfl).trans qExA_chk
theorem x42_11 {x : Nat} {l1 l2 l3 : Value} : qEx d 42 11 st [.ref x, l1, l2, l3] σ μ la Q ↔ qEx d 42 12 (.ref x :: st) [.ref x, l1, l2, l3] σ μ la Q := (qEx_eq (i := .aload_n 0) rfl).trans Iff.rfl
theorem x42_12 {a : Nat} : qEx d 42 12 (.ref a :: st) ls σ μ la Q ↔ (qOk σ a 2 = true ∧ qEx d 42 15 (qrf (σ.2 a 0) :: st) ls σ μ la Q) := (qEx_eq (i := .getfield 9) rfl).trans qExA_chk
theorem x42_15 {x : Int32} {l0 l2 l3 : Value} : qEx d 42 15 st [l0, .int x, l2, l3] σ μ la Q ↔ qEx d 42 16 (.int x :: st) [l0, .int x, l2, l3] σ μ la Q := (qEx_eq (i := .iload_n 1) rfl).trans Iff.rfl
theorem x42_16 {x : Int32} {a : Nat} : qEx d 42 16 (.int x :: .ref a :: st) ls σ μ la Q ↔ (qIn x (qLen σ 11 a) = true ∧ qEx d 42 17 (.long (la a x.toNatClampNeg) :: st) ls σ μ la Q) := (qEx_eq (i := .laload) rfl).trans qExA_chk
theorem x42_17 {x : Int64} : qEx d 42 17 [.long x] ls σ μ la Q ↔ Q (some (.long x)) σ μ la := (qEx_eq (i := .lreturn) rfl).trans Iff.rfl
theorem x43_0 {x : Nat} {l1 l2 : Value} : qEx d 43 0 st [.ref x, l1, l2] σ μ la Q ↔ qEx d 43 1 (.ref x :: st) [.ref x, l1, l2] σ μ la Q := (qEx_eq (i := .aload_n 0) rfl).trans Iff.rfl
theorem x43_1 {a : Nat} : qEx d 43 1 (.ref a :: st) ls σ μ la Q ↔ (qOk σ a 2 = true ∧ qEx d 43 4 (.int (μ a 1) :: st) ls σ μ la Q) := (qEx_eq (i := .getfield 15) rfl).trans qExA_chk
theorem x43_4 {x : Int32} : qEx d 43 4 (.int x :: st) ls σ μ la Q ↔ (if x.toInt = 0 then qEx d 43 32 st ls σ μ la Q else (if x.toInt = 1 then qEx d 43 37 st ls σ μ la Q else (if x.toInt = 2 then qEx d 43 42 st ls σ μ la Q else qEx d 43 46 st ls σ μ la Q))) := (qEx_eq (i := .tableswitch 42 0 2 #[28, 33, 38]) rfl).trans (qExA_ite2 Iff.rfl (qExA_ite2 Iff.rfl (qExA_ite2 Iff.rfl Iff.rfl)))
theorem x43_32 {x : Int64} {l0 : Value} : qEx d 43 32 st [l0, .long x, .retAddr 1] σ μ la Q ↔ qEx d 43 33 (.long x :: st) [l0, .long x, .retAddr 1] σ μ la Q := (qEx_eq (i := .lload_n 1) rfl).trans Iff.rfl
theorem x43_33 {x : Int64} : qEx d 43 33 (.long x :: st) ls σ μ la Q ↔ qEx d 43 34 (.int (x.toInt32) :: st) ls σ μ la Q := (qEx_eq (i := .l2i) rfl).trans Iff.rfl
theorem x43_34 {x : Int32} : qEx d 43 34 (.int x :: st) ls σ μ la Q ↔ qEx d 43 35 (.int (x.toInt8.toInt32) :: st) ls σ μ la Q := (qEx_eq (i := .i2b) rfl).trans Iff.rfl
theorem x43_35 {x : Int32} : qEx d 43 35 (.int x :: st) ls σ μ la Q ↔ qEx d 43 36 (.long (x.toInt64) :: st) ls σ μ la Q := (qEx_eq (i := .i2l) rfl).trans Iff.rfl
theorem x43_36 {x : Int64} : qEx d 43 36 [.long x] ls σ μ la Q ↔ Q (some (.long x)) σ μ la := (qEx_eq (i := .lreturn) rfl).trans Iff.rfl
theorem x43_37 {x : Int64} {l0 : Value} : qEx d 43 37 st [l0, .long x, .retAddr 1] σ μ la Q ↔ qEx d 43 38 (.long x :: st) [l0, .long x, .retAddr 1] σ μ la Q := (qEx_eq (i := .lload_n 1) rfl).trans Iff.rfl
theorem x43_38 {x : Int64} : qEx d 43 38 (.long x :: st) ls σ μ la Q ↔ qEx d 43 39 (.int (x.toInt32) :: st) ls σ μ la Q := (qEx_eq (i := .l2i) rfl).trans Iff.rfl
theorem x43_39 {x : Int32} : qEx d 43 39 (.int x :: st) ls σ μ la Q ↔ qEx d 43 40 (.int (x.toInt16.toInt32) :: st) ls σ μ la Q := (qEx_eq (i := .i2s) rfl).trans Iff.rfl
theorem x43_40 {x : Int32} : qEx d 43 40 (.int x :: st) ls σ μ la Q ↔ qEx d 43 41 (.long (x.toInt64) :: st) ls σ μ la Q := (qEx_eq (i := .i2l) rfl).trans Iff.rfl
theorem x43_41 {x : Int64} : qEx d 43 41 [.long x] ls σ μ la Q ↔ Q (some (.long x)) σ μ la := (qEx_eq (i := .lreturn) rfl).trans Iff.rfl
theorem x43_42 {x : Int64} {l0 : Value} : qEx d 43 42 st [l0, .long x, .retAddr 1] σ μ la Q ↔ qEx d 43 43 (.long x :: st) [l0, .long x, .retAddr 1] σ μ la Q := (qEx_eq (i := .lload_n 1) rfl).trans Iff.rfl
theorem x43_43 {x : Int64} : qEx d 43 43 (.long x :: st) ls σ μ la Q ↔ qEx d 43 44 (.int (x.toInt32) :: st) ls σ μ la Q := (qEx_eq (i := .l2i) rfl).trans Iff.rfl
theorem x43_44 {x : Int32} : qEx d 43 44 (.int x :: st) ls σ μ la Q ↔ qEx d 43 45 (.long (x.toInt64) :: st) ls σ μ la Q := (qEx_eq (i := .i2l) rfl).trans Iff.rfl
theorem x43_45 {x : Int64} : qEx d 43 45 [.long x] ls σ μ la Q ↔ Q (some (.long x)) σ μ la := (qEx_eq (i := .lreturn) rfl).trans Iff.rfl
theorem x43_46 {x : Int64} {l0 : Value} : qEx d 43 46 st [l0, .long x, .retAddr 1] σ μ la Q ↔ qEx d 43 47 (.long x :: st) [l0, .long x, .retAddr 1] σ μ la Q := (qEx_eq (i := .lload_n 1) rfl).trans Iff.rfl
theorem x43_47 {x : Int64} : qEx d 43 47 [.long x] ls σ μ la Q ↔ Q (some (.long x)) σ μ la := (qEx_eq (i := .lreturn) rfl).trans Iff.rfl
theorem x44_0 {x : Nat} : qEx d 44 0 st [.ref x] σ μ la Q ↔ qEx d 44 1 (.ref x :: st) [.ref x] σ μ la Q := (qEx_eq (i := .aload_n 0) rfl).trans Iff.rfl
theorem x44_1 {a : Nat} : qEx d 44 1 [.ref a] ls σ μ la Q ↔ qEx d 44 4 [] ls σ μ la Q := (qEx_eq (i := .invokespecial 3) rfl).trans Iff.rfl
theorem x44_4 {x : Nat} : qEx d 44 4 st [.ref x] σ μ la Q ↔ qEx d 44 5 (.ref x :: st) [.ref x] σ μ la Q := (qEx_eq (i := .aload_n 0) rfl).trans Iff.rfl
theorem x44_5  : qEx d 44 5 st ls σ μ la Q ↔ qEx d 44 8 (.int 140 :: st) ls σ μ la Q := (qEx_eq (i := .sipush 140) rfl).trans Iff.rfl
theorem x44_8 {x : Int32} : qEx d 44 8 (.int x :: st) ls σ μ la Q ↔ ((0 ≤ x ∧ qSh σ.1 = (10, x.toNatClampNeg) ∧ x.toNatClampNeg ≤ 5000 ∧ σ.1 < 1000) ∧ qEx d 44 10 (.ref σ.1 :: st) ls (σ.1 + 1, σ.2) (qclr μ σ.1 0) (qclr la σ.1 0) Q) := ((qEx_eq (i := .newarray .int) rfl).trans qExA_chk).trans (qAndN (by decide))
theorem x44_10 {a b : Nat} : qEx d 44 10 (.ref b :: .ref a :: st) ls σ μ la Q ↔ (qOk σ a 3 = true ∧ qEx d 44 13 st ls (σ.1, qsetR σ.2 a 0 (some b)) μ la Q) := ((qEx_eq (i := .putfield 9) rfl).trans qExA_chk).trans (qAndL ⟨by decide +kernel, by decide +kernel⟩)
theorem x44_13 {x : Nat} : qEx d 44 13 st [.ref x] σ μ la Q ↔ qEx d 44 14 (.ref x :: st) [.ref x] σ μ la Q := (qEx_eq (i := .aload_n 0) rfl).trans Iff.rfl
theorem x44_14  : qEx d 44 14 st ls σ μ la Q ↔ ((qSh σ.1 = (4, 13) ∧ σ.1 < 1000) ∧ qEx d 44 17 (.ref σ.1 :: st) ls (σ.1 + 1, qclr σ.2 σ.1 none) (qclr μ σ.1 0) la Q) := ((qEx_eq (i := .new 15) rfl).trans qExA_chk).trans (qAndM (by decide))
theorem x44_17 {x : Nat} : qEx d 44 17 (.ref x :: st) ls σ μ la Q ↔ qEx d 44 18 (.ref x :: .ref x :: st) ls σ μ la Q := (qEx_eq (i := .dup) rfl).trans Iff.rfl
theorem x44_18 {a : Nat} {z0 : Nat} {z1 : Nat} : qEx (d + 1) 44 18 [.ref a, .ref z0, .ref z1] ls σ μ la Q ↔ qEx d 58 0 [] [.ref a] σ μ la fun r σ' μ' la' => qEx (d + 1) 44 21 (r.toList ++ [.ref z0, .ref z1]) ls σ' μ' la' Q := (qEx_eq (i := .invokespecial 17) rfl).trans Iff.rfl
theorem x44_21 {a b : Nat} : qEx d 44 21 (.ref b :: .ref a :: st) ls σ μ la Q ↔ (qOk σ a 3 = true ∧ qEx d 44 24 st ls (σ.1, qsetR σ.2 a 1 (some b)) μ la Q) := ((qEx_eq (i := .putfield 18) rfl).trans qExA_chk).trans (qAndL ⟨by decide +kernel, by decide +kernel⟩)
theorem x44_24  : qEx d 44 24 [] ls σ μ la Q ↔ Q none σ μ la := (qEx_eq (i := .return_) rfl).trans Iff.rfl
theorem x45_0 {x : Nat} {l1 : Value} : qEx d 45 0 st [.ref x, l1] σ μ la Q ↔ qEx d 45 1 (.ref x :: st) [.ref x, l1] σ μ la Q := (qEx_eq (i := .aload_n 0) rfl).trans Iff.rfl
theorem x45_1 {a : Nat} : qEx d 45 1 (.ref a :: st) ls σ μ la Q ↔ (qOk σ a 3 = true ∧ qEx d 45 4 (.int (μ a 2) :: st) ls σ μ la Q) := (qEx_eq (i := .getfield 22) rfl).trans qExA_chk
theorem x45_4  : qEx d 45 4 st ls σ μ la Q ↔ qEx d 45 7 (.int 140 :: st) ls σ μ la Q := (qEx_eq (i := .sipush 140) rfl).trans Iff.rfl
theorem x45_7 {x y : Int32} : qEx d 45 7 (.int y :: .int x :: st) ls σ μ la Q ↔ (if x < y then qEx d 45 12 st ls σ μ la Q else qEx d 45 10 st ls σ μ la Q) := (qEx_eq (i := .if_icmp .lt 5) rfl).trans qExA_ite
theorem x45_10  : qEx d 45 10 st ls σ μ la Q ↔ qEx d 45 11 (.int 0 :: st) ls σ μ la Q := (qEx_eq (i := .iconst 0) rfl).trans Iff.rfl
theorem x45_11 {x : Int32} : qEx d 45 11 [.int x] ls σ μ la Q ↔ ((x = 0 ∨ x = 1) ∧ Q (some (.int x)) σ μ la) := (qEx_eq (i := .ireturn) rfl).trans qExA_chk
theorem x45_12 {x : Nat} {l1 : Value} : qEx d 45 12 st [.ref x, l1] σ μ la Q ↔ qEx d 45 13 (.ref x :: st) [.ref x, l1] σ μ la Q := (qEx_eq (i := .aload_n 0) rfl).trans Iff.rfl
theorem x45_13 {a : Nat} : qEx d 45 13 (.ref a :: st) ls σ μ la Q ↔ (qOk σ a 3 = true ∧ qEx d 45 16 (qrf (σ.2 a 0) :: st) ls σ μ la Q) := (qEx_eq (i := .getfield 9) rfl).trans qExA_chk
theorem x45_16 {x : Nat} {l1 : Value} : qEx d 45 16 st [.ref x, l1] σ μ la Q ↔ qEx d 45 17 (.ref x :: st) [.ref x, l1] σ μ la Q := (qEx_eq (i := .aload_n 0) rfl).trans Iff.rfl
theorem x45_17 {a : Nat} : qEx d 45 17 (.ref a :: st) ls σ μ la Q ↔ (qOk σ a 3 = true ∧ qEx d 45 20 (.int (μ a 2) :: st) ls σ μ la Q) := (qEx_eq (i := .getfield 22) rfl).trans qExA_chk
theorem x45_20 {x : Int32} {l0 : Value} : qEx d 45 20 st [l0, .int x] σ μ la Q ↔ qEx d 45 21 (.int x :: st) [l0, .int x] σ μ la Q := (qEx_eq (i := .iload_n 1) rfl).trans Iff.rfl
theorem x45_21 {x y : Int32} {a : Nat} : qEx d 45 21 (.int y :: .int x :: .ref a :: st) ls σ μ la Q ↔ (qIn x (qLen σ 10 a) = true ∧ qEx d 45 22 st ls σ (qset μ a x.toNatClampNeg y) la Q) := (qEx_eq (i := .iastore) rfl).trans qExA_chk
theorem x45_22 {x : Nat} {l1 : Value} : qEx d 45 22 st [.ref x, l1] σ μ la Q ↔ qEx d 45 23 (.ref x :: st) [.ref x, l1] σ μ la Q := (qEx_eq (i := .aload_n 0) rfl).trans Iff.rfl
theorem x45_23 {x : Nat} : qEx d 45 23 (.ref x :: st) ls σ μ la Q ↔ qEx d 45 24 (.ref x :: .ref x :: st) ls σ μ la Q := (qEx_eq (i := .dup) rfl).trans Iff.rfl
theorem x45_24 {a : Nat} : qEx d 45 24 (.ref a :: st) ls σ μ la Q ↔ (qOk σ a 3 = true ∧ qEx d 45 27 (.int (μ a 2) :: st) ls σ μ la Q) := (qEx_eq (i := .getfield 22) rfl).trans qExA_chk
theorem x45_27  : qEx d 45 27 st ls σ μ la Q ↔ qEx d 45 28 (.int 1 :: st) ls σ μ la Q := (qEx_eq (i := .iconst 1) rfl).trans Iff.rfl
theorem x45_28 {x y : Int32} : qEx d 45 28 (.int y :: .int x :: st) ls σ μ la Q ↔ qEx d 45 29 (.int (x + y) :: st) ls σ μ la Q := (qEx_eq (i := .iadd) rfl).trans Iff.rfl
theorem x45_29 {x : Int32} {a : Nat} : qEx d 45 29 (.int x :: .ref a :: st) ls σ μ la Q ↔ (qOk σ a 3 = true ∧ qEx d 45 32 st ls σ (qset μ a 2 x) la Q) := (qEx_eq (i := .putfield 22) rfl).trans qExA_chk
theorem x45_32  : qEx d 45 32 st ls σ μ la Q ↔ qEx d 45 33 (.int 1 :: st) ls σ μ la Q := (qEx_eq (i := .iconst 1) rfl).trans Iff.rfl
theorem x45_33 {x : Int32} : qEx d 45 33 [.int x] ls σ μ la Q ↔ ((x = 0 ∨ x = 1) ∧ Q (some (.int x)) σ μ la) := (qEx_eq (i := .ireturn) rfl).trans qExA_chk
theorem x46_0 {x : Nat} : qEx d 46 0 st [.ref x] σ μ la Q ↔ qEx d 46 1 (.ref x :: st) [.ref x] σ μ la Q := (qEx_eq (i := .aload_n 0) rfl).trans Iff.rfl
theorem x46_1  : qEx d 46 1 st ls σ μ la Q ↔ qEx d 46 2 (.int 0 :: st) ls σ μ la Q := (qEx_eq (i := .iconst 0) rfl).trans Iff.rfl
theorem x46_2 {x : Int32} {a : Nat} : qEx d 46 2 (.int x :: .ref a :: st) ls σ μ la Q ↔ (qOk σ a 3 = true ∧ qEx d 46 5 st ls σ (qset μ a 3 x) la Q) := (qEx_eq (i := .putfield 26) rfl).trans qExA_chk
theorem x46_5 {x : Nat} : qEx d 46 5 st [.ref x] σ μ la Q ↔ qEx d 46 6 (.ref x :: st) [.ref x] σ μ la Q := (qEx_eq (i := .aload_n 0) rfl).trans Iff.rfl
theorem x46_6 {a : Nat} : qEx d 46 6 (.ref a :: st) ls σ μ la Q ↔ (qOk σ a 3 = true ∧ qEx d 46 9 (qrf (σ.2 a 1) :: st) ls σ μ la Q) := (qEx_eq (i := .getfield 18) rfl).trans qExA_chk
theorem x46_9  : qEx d 46 9 st ls σ μ la Q ↔ qEx d 46 10 (.int 0 :: st) ls σ μ la Q := (qEx_eq (i := .iconst 0) rfl).trans Iff.rfl
theorem x46_10 {x : Int32} {a : Nat} : qEx d 46 10 (.int x :: .ref a :: st) ls σ μ la Q ↔ (qOk σ a 4 = true ∧ qEx d 46 13 st ls σ (qset μ a 2 x) la Q) := (qEx_eq (i := .putfield 29) rfl).trans qExA_chk
theorem x46_13 {x : Nat} : qEx d 46 13 st [.ref x] σ μ la Q ↔ qEx d 46 14 (.ref x :: st) [.ref x] σ μ la Q := (qEx_eq (i := .aload_n 0) rfl).trans Iff.rfl
theorem x46_14 {a : Nat} : qEx (d + 1) 46 14 [.ref a] ls σ μ la Q ↔ (qOk σ a 3 = true ∧ qEx d 47 0 [] [.ref a, .retAddr 0, .retAddr 0] σ μ la fun r σ' μ' la' => qEx (d + 1) 46 17 (r.toList ++ []) ls σ' μ' la' Q) := (qEx_eq (i := .invokevirtual 32) rfl).trans qExA_chk
theorem x46_17 {x : Int32} : qEx d 46 17 (.int x :: st) ls σ μ la Q ↔ (if x = 0 then qEx d 46 38 st ls σ μ la Q else qEx d 46 20 st ls σ μ la Q) := (qEx_eq (i := .ifCond .eq 21) rfl).trans qExA_ite
theorem x46_20 {x : Nat} : qEx d 46 20 st [.ref x] σ μ la Q ↔ qEx d 46 21 (.ref x :: st) [.ref x] σ μ la Q := (qEx_eq (i := .aload_n 0) rfl).trans Iff.rfl
theorem x46_21 {a : Nat} : qEx (d + 1) 46 21 [.ref a] ls σ μ la Q ↔ (qOk σ a 3 = true ∧ qEx d 48 0 [] [.ref a, .retAddr 0, .retAddr 0, .retAddr 0] σ μ la fun r σ' μ' la' => qEx (d + 1) 46 24 (r.toList ++ []) ls σ' μ' la' Q) := (qEx_eq (i := .invokevirtual 36) rfl).trans qExA_chk
theorem x46_24 {x : Int32} : qEx d 46 24 (.int x :: st) ls σ μ la Q ↔ (if x = 0 then qEx d 46 38 st ls σ μ la Q else qEx d 46 27 st ls σ μ la Q) := (qEx_eq (i := .ifCond .eq 14) rfl).trans qExA_ite
theorem x46_27 {x : Nat} : qEx d 46 27 st [.ref x] σ μ la Q ↔ qEx d 46 28 (.ref x :: st) [.ref x] σ μ la Q := (qEx_eq (i := .aload_n 0) rfl).trans Iff.rfl
theorem x46_28 {a : Nat} : qEx (d + 1) 46 28 [.ref a] ls σ μ la Q ↔ (qOk σ a 3 = true ∧ qEx d 50 0 [] [.ref a, .retAddr 0] σ μ la fun r σ' μ' la' => qEx (d + 1) 46 31 (r.toList ++ []) ls σ' μ' la' Q) := (qEx_eq (i := .invokevirtual 39) rfl).trans qExA_chk
theorem x46_31 {x : Int32} : qEx d 46 31 (.int x :: st) ls σ μ la Q ↔ (if x = 0 then qEx d 46 38 st ls σ μ la Q else qEx d 46 34 st ls σ μ la Q) := (qEx_eq (i := .ifCond .eq 7) rfl).trans qExA_ite
theorem x46_34  : qEx d 46 34 st ls σ μ la Q ↔ qEx d 46 35 (.int 1 :: st) ls σ μ la Q := (qEx_eq (i := .iconst 1) rfl).trans Iff.rfl
theorem x46_35  : qEx d 46 35 st ls σ μ la Q ↔ qEx d 46 39 st ls σ μ la Q := (qEx_eq (i := .goto 4) rfl).trans Iff.rfl
theorem x46_38  : qEx d 46 38 st ls σ μ la Q ↔ qEx d 46 39 (.int 0 :: st) ls σ μ la Q := (qEx_eq (i := .iconst 0) rfl).trans Iff.rfl
theorem x46_39 {x : Int32} : qEx d 46 39 [.int x] ls σ μ la Q ↔ ((x = 0 ∨ x = 1) ∧ Q (some (.int x)) σ μ la) := (qEx_eq (i := .ireturn) rfl).trans qExA_chk
theorem x47_0 {x : Nat} {l1 l2 : Value} : qEx d 47 0 st [.ref x, l1, l2] σ μ la Q ↔ qEx d 47 1 (.ref x :: st) [.ref x, l1, l2] σ μ la Q := (qEx_eq (i := .aload_n 0) rfl).trans Iff.rfl
theorem x47_1  : qEx d 47 1 st ls σ μ la Q ↔ qEx d 47 3 (.int 108 :: st) ls σ μ la Q := (qEx_eq (i := .bipush 108) rfl).trans Iff.rfl
theorem x47_3 {y0 : Int32} {a : Nat} : qEx (d + 1) 47 3 [.int y0, .ref a] ls σ μ la Q ↔ (qOk σ a 3 = true ∧ qEx d 56 0 [] [.ref a, .int y0] σ μ la fun r σ' μ' la' => qEx (d + 1) 47 6 (r.toList ++ []) ls σ' μ' la' Q) := (qEx_eq (i := .invokevirtual 42) rfl).trans qExA_chk
theorem x47_6 {x : Int32} : qEx d 47 6 (.int x :: st) ls σ μ la Q ↔ (if ¬ x = 0 then qEx d 47 11 st ls σ μ la Q else qEx d 47 9 st ls σ μ la Q) := (qEx_eq (i := .ifCond .ne 5) rfl).trans qExA_ite
theorem x47_9  : qEx d 47 9 st ls σ μ la Q ↔ qEx d 47 10 (.int 0 :: st) ls σ μ la Q := (qEx_eq (i := .iconst 0) rfl).trans Iff.rfl
theorem x47_10 {x : Int32} : qEx d 47 10 [.int x] ls σ μ la Q ↔ ((x = 0 ∨ x = 1) ∧ Q (some (.int x)) σ μ la) := (qEx_eq (i := .ireturn) rfl).trans qExA_chk
theorem x47_11 {x : Nat} {l1 l2 : Value} : qEx d 47 11 st [.ref x, l1, l2] σ μ la Q ↔ qEx d 47 12 (.ref x :: st) [.ref x, l1, l2] σ μ la Q := (qEx_eq (i := .aload_n 0) rfl).trans Iff.rfl
theorem x47_12  : qEx d 47 12 st ls σ μ la Q ↔ qEx d 47 14 (.ref 1010 :: st) ls σ μ la Q := (qEx_eq (i := .ldc 46) rfl).trans Iff.rfl
theorem x47_14 {y0 : Nat} {a : Nat} : qEx (d + 1) 47 14 [.ref y0, .ref a] ls σ μ la Q ↔ (qOk σ a 3 = true ∧ qEx d 55 0 [] [.ref a, .ref y0, .retAddr 0] σ μ la fun r σ' μ' la' => qEx (d + 1) 47 17 (r.toList ++ []) ls σ' μ' la' Q) := (qEx_eq (i := .invokevirtual 48) rfl).trans qExA_chk
theorem x47_17 {x : Int32} {l0 l1 l2 : Value} : qEx d 47 17 (.int x :: st) [l0, l1, l2] σ μ la Q ↔ qEx d 47 18 st [l0, .int x, l2] σ μ la Q := (qEx_eq (i := .istore_n 1) rfl).trans Iff.rfl
theorem x47_18 {x : Int32} {l0 l2 : Value} : qEx d 47 18 st [l0, .int x, l2] σ μ la Q ↔ qEx d 47 19 (.int x :: st) [l0, .int x, l2] σ μ la Q := (qEx_eq (i := .iload_n 1) rfl).trans Iff.rfl
theorem x47_19 {x : Int32} : qEx d 47 19 (.int x :: st) ls σ μ la Q ↔ (if 0 ≤ x then qEx d 47 24 st ls σ μ la Q else qEx d 47 22 st ls σ μ la Q) := (qEx_eq (i := .ifCond .ge 5) rfl).trans qExA_ite
theorem x47_22  : qEx d 47 22 st ls σ μ la Q ↔ qEx d 47 23 (.int 0 :: st) ls σ μ la Q := (qEx_eq (i := .iconst 0) rfl).trans Iff.rfl
theorem x47_23 {x : Int32} : qEx d 47 23 [.int x] ls σ μ la Q ↔ ((x = 0 ∨ x = 1) ∧ Q (some (.int x)) σ μ la) := (qEx_eq (i := .ireturn) rfl).trans qExA_chk
theorem x47_24 {x : Nat} {l1 l2 : Value} : qEx d 47 24 st [.ref x, l1, l2] σ μ la Q ↔ qEx d 47 25 (.ref x :: st) [.ref x, l1, l2] σ μ la Q := (qEx_eq (i := .aload_n 0) rfl).trans Iff.rfl
theorem x47_25  : qEx d 47 25 st ls σ μ la Q ↔ qEx d 47 27 (.ref 1011 :: st) ls σ μ la Q := (qEx_eq (i := .ldc 52) rfl).trans Iff.rfl
theorem x47_27 {y0 : Nat} {a : Nat} : qEx (d + 1) 47 27 [.ref y0, .ref a] ls σ μ la Q ↔ (qOk σ a 3 = true ∧ qEx d 55 0 [] [.ref a, .ref y0, .retAddr 0] σ μ la fun r σ' μ' la' => qEx (d + 1) 47 30 (r.toList ++ []) ls σ' μ' la' Q) := (qEx_eq (i := .invokevirtual 48) rfl).trans qExA_chk
theorem x47_30 {x : Int32} {l0 l1 l2 : Value} : qEx d 47 30 (.int x :: st) [l0, l1, l2] σ μ la Q ↔ qEx d 47 31 st [l0, l1, .int x] σ μ la Q := (qEx_eq (i := .istore_n 2) rfl).trans Iff.rfl
theorem x47_31 {x : Int32} {l0 l1 : Value} : qEx d 47 31 st [l0, l1, .int x] σ μ la Q ↔ qEx d 47 32 (.int x :: st) [l0, l1, .int x] σ μ la Q := (qEx_eq (i := .iload_n 2) rfl).trans Iff.rfl
theorem x47_32 {x : Int32} : qEx d 47 32 (.int x :: st) ls σ μ la Q ↔ (if 0 ≤ x then qEx d 47 37 st ls σ μ la Q else qEx d 47 35 st ls σ μ la Q) := (qEx_eq (i := .ifCond .ge 5) rfl).trans qExA_ite
theorem x47_35  : qEx d 47 35 st ls σ μ la Q ↔ qEx d 47 36 (.int 0 :: st) ls σ μ la Q := (qEx_eq (i := .iconst 0) rfl).trans Iff.rfl
theorem x47_36 {x : Int32} : qEx d 47 36 [.int x] ls σ μ la Q ↔ ((x = 0 ∨ x = 1) ∧ Q (some (.int x)) σ μ la) := (qEx_eq (i := .ireturn) rfl).trans qExA_chk
theorem x47_37 {x : Nat} {l1 l2 : Value} : qEx d 47 37 st [.ref x, l1, l2] σ μ la Q ↔ qEx d 47 38 (.ref x :: st) [.ref x, l1, l2] σ μ la Q := (qEx_eq (i := .aload_n 0) rfl).trans Iff.rfl
theorem x47_38 {a : Nat} : qEx d 47 38 (.ref a :: st) ls σ μ la Q ↔ (qOk σ a 3 = true ∧ qEx d 47 41 (qrf (σ.2 a 1) :: st) ls σ μ la Q) := (qEx_eq (i := .getfield 18) rfl).trans qExA_chk
theorem x47_41 {x : Int32} {l0 l2 : Value} : qEx d 47 41 st [l0, .int x, l2] σ μ la Q ↔ qEx d 47 42 (.int x :: st) [l0, .int x, l2] σ μ la Q := (qEx_eq (i := .iload_n 1) rfl).trans Iff.rfl
theorem x47_42 {x : Int32} {a : Nat} : qEx d 47 42 (.int x :: .ref a :: st) ls σ μ la Q ↔ (qOk σ a 4 = true ∧ qEx d 47 45 st ls σ (qset μ a 4 x) la Q) := (qEx_eq (i := .putfield 54) rfl).trans qExA_chk
theorem x47_45 {x : Nat} {l1 l2 : Value} : qEx d 47 45 st [.ref x, l1, l2] σ μ la Q ↔ qEx d 47 46 (.ref x :: st) [.ref x, l1, l2] σ μ la Q := (qEx_eq (i := .aload_n 0) rfl).trans Iff.rfl
theorem x47_46 {a : Nat} : qEx d 47 46 (.ref a :: st) ls σ μ la Q ↔ (qOk σ a 3 = true ∧ qEx d 47 49 (qrf (σ.2 a 1) :: st) ls σ μ la Q) := (qEx_eq (i := .getfield 18) rfl).trans qExA_chk
theorem x47_49 {x : Int32} {l0 l1 : Value} : qEx d 47 49 st [l0, l1, .int x] σ μ la Q ↔ qEx d 47 50 (.int x :: st) [l0, l1, .int x] σ μ la Q := (qEx_eq (i := .iload_n 2) rfl).trans Iff.rfl
theorem x47_50 {x : Int32} {a : Nat} : qEx d 47 50 (.int x :: .ref a :: st) ls σ μ la Q ↔ (qOk σ a 4 = true ∧ qEx d 47 53 st ls σ (qset μ a 5 x) la Q) := (qEx_eq (i := .putfield 57) rfl).trans qExA_chk
theorem x47_53 {x : Nat} {l1 l2 : Value} : qEx d 47 53 st [.ref x, l1, l2] σ μ la Q ↔ qEx d 47 54 (.ref x :: st) [.ref x, l1, l2] σ μ la Q := (qEx_eq (i := .aload_n 0) rfl).trans Iff.rfl
theorem x47_54  : qEx d 47 54 st ls σ μ la Q ↔ qEx d 47 56 (.int 59 :: st) ls σ μ la Q := (qEx_eq (i := .bipush 59) rfl).trans Iff.rfl
theorem x47_56 {y0 : Int32} {a : Nat} : qEx (d + 1) 47 56 [.int y0, .ref a] ls σ μ la Q ↔ (qOk σ a 3 = true ∧ qEx d 56 0 [] [.ref a, .int y0] σ μ la fun r σ' μ' la' => qEx (d + 1) 47 59 (r.toList ++ []) ls σ' μ' la' Q) := (qEx_eq (i := .invokevirtual 42) rfl).trans qExA_chk
theorem x47_59 {x : Int32} : qEx d 47 59 [.int x] ls σ μ la Q ↔ ((x = 0 ∨ x = 1) ∧ Q (some (.int x)) σ μ la) := (qEx_eq (i := .ireturn) rfl).trans qExA_chk
theorem x48_0  : qEx d 48 0 st ls σ μ la Q ↔ qEx d 48 1 (.int 0 :: st) ls σ μ la Q := (qEx_eq (i := .iconst 0) rfl).trans Iff.rfl
theorem x48_1 {x : Int32} {l0 l1 l2 l3 : Value} : qEx d 48 1 (.int x :: st) [l0, l1, l2, l3] σ μ la Q ↔ qEx d 48 2 st [l0, .int x, l2, l3] σ μ la Q := (qEx_eq (i := .istore_n 1) rfl).trans Iff.rfl
theorem x48_2 {x : Int32} {l0 l2 l3 : Value} : qEx d 48 2 st [l0, .int x, l2, l3] σ μ la Q ↔ qEx d 48 3 (.int x :: st) [l0, .int x, l2, l3] σ μ la Q := (qEx_eq (i := .iload_n 1) rfl).trans Iff.rfl
theorem x48_3  : qEx d 48 3 st ls σ μ la Q ↔ qEx d 48 5 (.int 8 :: st) ls σ μ la Q := (qEx_eq (i := .bipush 8) rfl).trans Iff.rfl
theorem x48_5 {x y : Int32} : qEx d 48 5 (.int y :: .int x :: st) ls σ μ la Q ↔ (if y ≤ x then qEx d 48 99 st ls σ μ la Q else qEx d 48 8 st ls σ μ la Q) := (qEx_eq (i := .if_icmp .ge 94) rfl).trans qExA_ite
theorem x48_8 {x : Int32} {l0 l2 l3 : Value} : qEx d 48 8 st [l0, .int x, l2, l3] σ μ la Q ↔ qEx d 48 9 (.int x :: st) [l0, .int x, l2, l3] σ μ la Q := (qEx_eq (i := .iload_n 1) rfl).trans Iff.rfl
theorem x48_9 {x : Int32} : qEx d 48 9 (.int x :: st) ls σ μ la Q ↔ (if ¬ x = 0 then qEx d 48 17 st ls σ μ la Q else qEx d 48 12 st ls σ μ la Q) := (qEx_eq (i := .ifCond .ne 8) rfl).trans qExA_ite
theorem x48_12  : qEx d 48 12 st ls σ μ la Q ↔ qEx d 48 14 (.int 8 :: st) ls σ μ la Q := (qEx_eq (i := .bipush 8) rfl).trans Iff.rfl
theorem x48_14  : qEx d 48 14 st ls σ μ la Q ↔ qEx d 48 24 st ls σ μ la Q := (qEx_eq (i := .goto 10) rfl).trans Iff.rfl
theorem x48_17 {x : Nat} {l1 l2 l3 : Value} : qEx d 48 17 st [.ref x, l1, l2, l3] σ μ la Q ↔ qEx d 48 18 (.ref x :: st) [.ref x, l1, l2, l3] σ μ la Q := (qEx_eq (i := .aload_n 0) rfl).trans Iff.rfl
theorem x48_18 {a : Nat} : qEx d 48 18 (.ref a :: st) ls σ μ la Q ↔ (qOk σ a 3 = true ∧ qEx d 48 21 (qrf (σ.2 a 1) :: st) ls σ μ la Q) := (qEx_eq (i := .getfield 18) rfl).trans qExA_chk
theorem x48_21 {a : Nat} : qEx d 48 21 (.ref a :: st) ls σ μ la Q ↔ (qOk σ a 4 = true ∧ qEx d 48 24 (.int (μ a 0) :: st) ls σ μ la Q) := (qEx_eq (i := .getfield 60) rfl).trans qExA_chk
theorem x48_24 {x : Int32} {l0 l1 l2 l3 : Value} : qEx d 48 24 (.int x :: st) [l0, l1, l2, l3] σ μ la Q ↔ qEx d 48 25 st [l0, l1, .int x, l3] σ μ la Q := (qEx_eq (i := .istore_n 2) rfl).trans Iff.rfl
theorem x48_25 {x : Nat} {l1 l2 l3 : Value} : qEx d 48 25 st [.ref x, l1, l2, l3] σ μ la Q ↔ qEx d 48 26 (.ref x :: st) [.ref x, l1, l2, l3] σ μ la Q := (qEx_eq (i := .aload_n 0) rfl).trans Iff.rfl
theorem x48_26 {x : Int32} {l0 l2 l3 : Value} : qEx d 48 26 st [l0, .int x, l2, l3] σ μ la Q ↔ qEx d 48 27 (.int x :: st) [l0, .int x, l2, l3] σ μ la Q := (qEx_eq (i := .iload_n 1) rfl).trans Iff.rfl
theorem x48_27 {x : Int32} {l0 l1 l3 : Value} : qEx d 48 27 st [l0, l1, .int x, l3] σ μ la Q ↔ qEx d 48 28 (.int x :: st) [l0, l1, .int x, l3] σ μ la Q := (qEx_eq (i := .iload_n 2) rfl).trans Iff.rfl
theorem x48_28 {y0 : Int32} {y1 : Int32} {a : Nat} : qEx (d + 1) 48 28 [.int y1, .int y0, .ref a] ls σ μ la Q ↔ (qOk σ a 3 = true ∧ qEx d 49 0 [] [.ref a, .int y0, .int y1, .retAddr 0, .retAddr 0] σ μ la fun r σ' μ' la' => qEx (d + 1) 48 31 (r.toList ++ []) ls σ' μ' la' Q) := (qEx_eq (i := .invokevirtual 63) rfl).trans qExA_chk
theorem x48_31 {x : Int32} {l0 l1 l2 l3 : Value} : qEx d 48 31 (.int x :: st) [l0, l1, l2, l3] σ μ la Q ↔ qEx d 48 32 st [l0, l1, l2, .int x] σ μ la Q := (qEx_eq (i := .istore_n 3) rfl).trans Iff.rfl
theorem x48_32 {x : Int32} {l0 l1 l2 : Value} : qEx d 48 32 st [l0, l1, l2, .int x] σ μ la Q ↔ qEx d 48 33 (.int x :: st) [l0, l1, l2, .int x] σ μ la Q := (qEx_eq (i := .iload_n 3) rfl).trans Iff.rfl
theorem x48_33 {x : Int32} : qEx d 48 33 (.int x :: st) ls σ μ la Q ↔ (if x = 0 then qEx d 48 45 st ls σ μ la Q else qEx d 48 36 st ls σ μ la Q) := (qEx_eq (i := .ifCond .eq 12) rfl).trans qExA_ite
theorem x48_36 {x : Int32} {l0 l2 l3 : Value} : qEx d 48 36 st [l0, .int x, l2, l3] σ μ la Q ↔ qEx d 48 37 (.int x :: st) [l0, .int x, l2, l3] σ μ la Q := (qEx_eq (i := .iload_n 1) rfl).trans Iff.rfl
theorem x48_37 {x : Int32} : qEx d 48 37 (.int x :: st) ls σ μ la Q ↔ (if x ≤ 0 then qEx d 48 47 st ls σ μ la Q else qEx d 48 40 st ls σ μ la Q) := (qEx_eq (i := .ifCond .le 10) rfl).trans qExA_ite
theorem x48_40 {x : Int32} {l0 l1 l2 : Value} : qEx d 48 40 st [l0, l1, l2, .int x] σ μ la Q ↔ qEx d 48 41 (.int x :: st) [l0, l1, l2, .int x] σ μ la Q := (qEx_eq (i := .iload_n 3) rfl).trans Iff.rfl
theorem x48_41 {x : Int32} {l0 l1 l3 : Value} : qEx d 48 41 st [l0, l1, .int x, l3] σ μ la Q ↔ qEx d 48 42 (.int x :: st) [l0, l1, .int x, l3] σ μ la Q := (qEx_eq (i := .iload_n 2) rfl).trans Iff.rfl
theorem x48_42 {x y : Int32} : qEx d 48 42 (.int y :: .int x :: st) ls σ μ la Q ↔ (if y ≤ x then qEx d 48 47 st ls σ μ la Q else qEx d 48 45 st ls σ μ la Q) := (qEx_eq (i := .if_icmp .ge 5) rfl).trans qExA_ite
theorem x48_45  : qEx d 48 45 st ls σ μ la Q ↔ qEx d 48 46 (.int 0 :: st) ls σ μ la Q := (qEx_eq (i := .iconst 0) rfl).trans Iff.rfl
theorem x48_46 {x : Int32} : qEx d 48 46 [.int x] ls σ μ la Q ↔ ((x = 0 ∨ x = 1) ∧ Q (some (.int x)) σ μ la) := (qEx_eq (i := .ireturn) rfl).trans qExA_chk
theorem x48_47 {x : Nat} {l1 l2 l3 : Value} : qEx d 48 47 st [.ref x, l1, l2, l3] σ μ la Q ↔ qEx d 48 48 (.ref x :: st) [.ref x, l1, l2, l3] σ μ la Q := (qEx_eq (i := .aload_n 0) rfl).trans Iff.rfl
theorem x48_48 {a : Nat} : qEx d 48 48 (.ref a :: st) ls σ μ la Q ↔ (qOk σ a 3 = true ∧ qEx d 48 51 (qrf (σ.2 a 1) :: st) ls σ μ la Q) := (qEx_eq (i := .getfield 18) rfl).trans qExA_chk
theorem x48_51 {x : Int32} {l0 l1 l2 : Value} : qEx d 48 51 st [l0, l1, l2, .int x] σ μ la Q ↔ qEx d 48 52 (.int x :: st) [l0, l1, l2, .int x] σ μ la Q := (qEx_eq (i := .iload_n 3) rfl).trans Iff.rfl
theorem x48_52 {x : Int32} {a : Nat} : qEx d 48 52 (.int x :: .ref a :: st) ls σ μ la Q ↔ (qOk σ a 4 = true ∧ qEx d 48 55 st ls σ (qset μ a 0 x) la Q) := (qEx_eq (i := .putfield 60) rfl).trans qExA_chk
theorem x48_55 {x : Nat} {l1 l2 l3 : Value} : qEx d 48 55 st [.ref x, l1, l2, l3] σ μ la Q ↔ qEx d 48 56 (.ref x :: st) [.ref x, l1, l2, l3] σ μ la Q := (qEx_eq (i := .aload_n 0) rfl).trans Iff.rfl
theorem x48_56 {a : Nat} : qEx d 48 56 (.ref a :: st) ls σ μ la Q ↔ (qOk σ a 3 = true ∧ qEx d 48 59 (qrf (σ.2 a 1) :: st) ls σ μ la Q) := (qEx_eq (i := .getfield 18) rfl).trans qExA_chk
theorem x48_59 {x : Int32} {l0 l2 l3 : Value} : qEx d 48 59 st [l0, .int x, l2, l3] σ μ la Q ↔ qEx d 48 60 (.int x :: st) [l0, .int x, l2, l3] σ μ la Q := (qEx_eq (i := .iload_n 1) rfl).trans Iff.rfl
theorem x48_60  : qEx d 48 60 st ls σ μ la Q ↔ qEx d 48 61 (.int 1 :: st) ls σ μ la Q := (qEx_eq (i := .iconst 1) rfl).trans Iff.rfl
theorem x48_61 {x y : Int32} : qEx d 48 61 (.int y :: .int x :: st) ls σ μ la Q ↔ qEx d 48 62 (.int (x + y) :: st) ls σ μ la Q := (qEx_eq (i := .iadd) rfl).trans Iff.rfl
theorem x48_62 {x : Int32} {a : Nat} : qEx d 48 62 (.int x :: .ref a :: st) ls σ μ la Q ↔ (qOk σ a 4 = true ∧ qEx d 48 65 st ls σ (qset μ a 1 x) la Q) := (qEx_eq (i := .putfield 67) rfl).trans qExA_chk
theorem x48_65 {x : Nat} {l1 l2 l3 : Value} : qEx d 48 65 st [.ref x, l1, l2, l3] σ μ la Q ↔ qEx d 48 66 (.ref x :: st) [.ref x, l1, l2, l3] σ μ la Q := (qEx_eq (i := .aload_n 0) rfl).trans Iff.rfl
theorem x48_66  : qEx d 48 66 st ls σ μ la Q ↔ qEx d 48 68 (.int 59 :: st) ls σ μ la Q := (qEx_eq (i := .bipush 59) rfl).trans Iff.rfl
theorem x48_68 {y0 : Int32} {a : Nat} : qEx (d + 1) 48 68 [.int y0, .ref a] ls σ μ la Q ↔ (qOk σ a 3 = true ∧ qEx d 56 0 [] [.ref a, .int y0] σ μ la fun r σ' μ' la' => qEx (d + 1) 48 71 (r.toList ++ []) ls σ' μ' la' Q) := (qEx_eq (i := .invokevirtual 42) rfl).trans qExA_chk
theorem x48_71 {x : Int32} : qEx d 48 71 (.int x :: st) ls σ μ la Q ↔ (if x = 0 then qEx d 48 76 st ls σ μ la Q else qEx d 48 74 st ls σ μ la Q) := (qEx_eq (i := .ifCond .eq 5) rfl).trans qExA_ite
theorem x48_74  : qEx d 48 74 st ls σ μ la Q ↔ qEx d 48 75 (.int 1 :: st) ls σ μ la Q := (qEx_eq (i := .iconst 1) rfl).trans Iff.rfl
theorem x48_75 {x : Int32} : qEx d 48 75 [.int x] ls σ μ la Q ↔ ((x = 0 ∨ x = 1) ∧ Q (some (.int x)) σ μ la) := (qEx_eq (i := .ireturn) rfl).trans qExA_chk
theorem x48_76 {x : Int32} {l0 l2 l3 : Value} : qEx d 48 76 st [l0, .int x, l2, l3] σ μ la Q ↔ qEx d 48 77 (.int x :: st) [l0, .int x, l2, l3] σ μ la Q := (qEx_eq (i := .iload_n 1) rfl).trans Iff.rfl
theorem x48_77  : qEx d 48 77 st ls σ μ la Q ↔ qEx d 48 79 (.int 7 :: st) ls σ μ la Q := (qEx_eq (i := .bipush 7) rfl).trans Iff.rfl
theorem x48_79 {x y : Int32} : qEx d 48 79 (.int y :: .int x :: st) ls σ μ la Q ↔ (if x = y then qEx d 48 91 st ls σ μ la Q else qEx d 48 82 st ls σ μ la Q) := (qEx_eq (i := .if_icmp .eq 12) rfl).trans qExA_ite
theorem x48_82 {x : Nat} {l1 l2 l3 : Value} : qEx d 48 82 st [.ref x, l1, l2, l3] σ μ la Q ↔ qEx d 48 83 (.ref x :: st) [.ref x, l1, l2, l3] σ μ la Q := (qEx_eq (i := .aload_n 0) rfl).trans Iff.rfl
theorem x48_83  : qEx d 48 83 st ls σ μ la Q ↔ qEx d 48 85 (.int 47 :: st) ls σ μ la Q := (qEx_eq (i := .bipush 47) rfl).trans Iff.rfl
theorem x48_85 {y0 : Int32} {a : Nat} : qEx (d + 1) 48 85 [.int y0, .ref a] ls σ μ la Q ↔ (qOk σ a 3 = true ∧ qEx d 56 0 [] [.ref a, .int y0] σ μ la fun r σ' μ' la' => qEx (d + 1) 48 88 (r.toList ++ []) ls σ' μ' la' Q) := (qEx_eq (i := .invokevirtual 42) rfl).trans qExA_chk
theorem x48_88 {x : Int32} : qEx d 48 88 (.int x :: st) ls σ μ la Q ↔ (if ¬ x = 0 then qEx d 48 93 st ls σ μ la Q else qEx d 48 91 st ls σ μ la Q) := (qEx_eq (i := .ifCond .ne 5) rfl).trans qExA_ite
theorem x48_91  : qEx d 48 91 st ls σ μ la Q ↔ qEx d 48 92 (.int 0 :: st) ls σ μ la Q := (qEx_eq (i := .iconst 0) rfl).trans Iff.rfl
theorem x48_92 {x : Int32} : qEx d 48 92 [.int x] ls σ μ la Q ↔ ((x = 0 ∨ x = 1) ∧ Q (some (.int x)) σ μ la) := (qEx_eq (i := .ireturn) rfl).trans qExA_chk
theorem x48_93 {x : Int32} {l0 l2 l3 : Value} : qEx d 48 93 st [l0, .int x, l2, l3] σ μ la Q ↔ qEx d 48 96 st [l0, .int (x + 1), l2, l3] σ μ la Q := (qEx_eq (i := .iinc 1 1) rfl).trans Iff.rfl
theorem x48_96  : qEx d 48 96 st ls σ μ la Q ↔ qEx d 48 2 st ls σ μ la Q := (qEx_eq (i := .goto (-94)) rfl).trans Iff.rfl
theorem x48_99  : qEx d 48 99 st ls σ μ la Q ↔ qEx d 48 100 (.int 0 :: st) ls σ μ la Q := (qEx_eq (i := .iconst 0) rfl).trans Iff.rfl
theorem x48_100 {x : Int32} : qEx d 48 100 [.int x] ls σ μ la Q ↔ ((x = 0 ∨ x = 1) ∧ Q (some (.int x)) σ μ la) := (qEx_eq (i := .ireturn) rfl).trans qExA_chk
theorem x49_0  : qEx d 49 0 st ls σ μ la Q ↔ qEx d 49 1 (.int 0 :: st) ls σ μ la Q := (qEx_eq (i := .iconst 0) rfl).trans Iff.rfl
theorem x49_1 {x : Int32} {l0 l1 l2 l3 l4 : Value} : qEx d 49 1 (.int x :: st) [l0, l1, l2, l3, l4] σ μ la Q ↔ qEx d 49 2 st [l0, l1, l2, .int x, l4] σ μ la Q := (qEx_eq (i := .istore_n 3) rfl).trans Iff.rfl
theorem x49_2 {x : Int32} {l0 l1 l2 l4 : Value} : qEx d 49 2 st [l0, l1, l2, .int x, l4] σ μ la Q ↔ qEx d 49 3 (.int x :: st) [l0, l1, l2, .int x, l4] σ μ la Q := (qEx_eq (i := .iload_n 3) rfl).trans Iff.rfl
theorem x49_3 {x : Int32} {l0 l1 l3 l4 : Value} : qEx d 49 3 st [l0, l1, .int x, l3, l4] σ μ la Q ↔ qEx d 49 4 (.int x :: st) [l0, l1, .int x, l3, l4] σ μ la Q := (qEx_eq (i := .iload_n 2) rfl).trans Iff.rfl
theorem x49_4 {x y : Int32} : qEx d 49 4 (.int y :: .int x :: st) ls σ μ la Q ↔ (if y ≤ x then qEx d 49 44 st ls σ μ la Q else qEx d 49 7 st ls σ μ la Q) := (qEx_eq (i := .if_icmp .ge 40) rfl).trans qExA_ite
theorem x49_7 {x : Nat} {l1 l2 l3 l4 : Value} : qEx d 49 7 st [.ref x, l1, l2, l3, l4] σ μ la Q ↔ qEx d 49 8 (.ref x :: st) [.ref x, l1, l2, l3, l4] σ μ la Q := (qEx_eq (i := .aload_n 0) rfl).trans Iff.rfl
theorem x49_8  : qEx d 49 8 st ls σ μ la Q ↔ qEx d 49 10 (.ref 1012 :: st) ls σ μ la Q := (qEx_eq (i := .ldc 70) rfl).trans Iff.rfl
theorem x49_10 {y0 : Nat} {a : Nat} : qEx (d + 1) 49 10 [.ref y0, .ref a] ls σ μ la Q ↔ (qOk σ a 3 = true ∧ qEx d 55 0 [] [.ref a, .ref y0, .retAddr 0] σ μ la fun r σ' μ' la' => qEx (d + 1) 49 13 (r.toList ++ []) ls σ' μ' la' Q) := (qEx_eq (i := .invokevirtual 48) rfl).trans qExA_chk
theorem x49_13 {x : Int32} {l0 l1 l2 l3 l4 : Value} : qEx d 49 13 (.int x :: st) [l0, l1, l2, l3, l4] σ μ la Q ↔ qEx d 49 15 st [l0, l1, l2, l3, .int x] σ μ la Q := (qEx_eq (i := .istore 4) rfl).trans Iff.rfl
theorem x49_15 {x : Int32} {l0 l1 l2 l3 : Value} : qEx d 49 15 st [l0, l1, l2, l3, .int x] σ μ la Q ↔ qEx d 49 17 (.int x :: st) [l0, l1, l2, l3, .int x] σ μ la Q := (qEx_eq (i := .iload 4) rfl).trans Iff.rfl
theorem x49_17 {x : Int32} : qEx d 49 17 (.int x :: st) ls σ μ la Q ↔ (if 0 ≤ x then qEx d 49 22 st ls σ μ la Q else qEx d 49 20 st ls σ μ la Q) := (qEx_eq (i := .ifCond .ge 5) rfl).trans qExA_ite
theorem x49_20 {x : Int32} {l0 l1 l2 l4 : Value} : qEx d 49 20 st [l0, l1, l2, .int x, l4] σ μ la Q ↔ qEx d 49 21 (.int x :: st) [l0, l1, l2, .int x, l4] σ μ la Q := (qEx_eq (i := .iload_n 3) rfl).trans Iff.rfl
theorem x49_21 {x : Int32} : qEx d 49 21 [.int x] ls σ μ la Q ↔ Q (some (.int x)) σ μ la := (qEx_eq (i := .ireturn) rfl).trans Iff.rfl
theorem x49_22 {x : Nat} {l1 l2 l3 l4 : Value} : qEx d 49 22 st [.ref x, l1, l2, l3, l4] σ μ la Q ↔ qEx d 49 23 (.ref x :: st) [.ref x, l1, l2, l3, l4] σ μ la Q := (qEx_eq (i := .aload_n 0) rfl).trans Iff.rfl
theorem x49_23 {a : Nat} : qEx d 49 23 (.ref a :: st) ls σ μ la Q ↔ (qOk σ a 3 = true ∧ qEx d 49 26 (qrf (σ.2 a 1) :: st) ls σ μ la Q) := (qEx_eq (i := .getfield 18) rfl).trans qExA_chk
theorem x49_26 {a : Nat} : qEx d 49 26 (.ref a :: st) ls σ μ la Q ↔ (qOk σ a 4 = true ∧ qEx d 49 29 (qrf (σ.2 a 6) :: st) ls σ μ la Q) := (qEx_eq (i := .getfield 72) rfl).trans qExA_chk
theorem x49_29 {x : Int32} {l0 l2 l3 l4 : Value} : qEx d 49 29 st [l0, .int x, l2, l3, l4] σ μ la Q ↔ qEx d 49 30 (.int x :: st) [l0, .int x, l2, l3, l4] σ μ la Q := (qEx_eq (i := .iload_n 1) rfl).trans Iff.rfl
theorem x49_30  : qEx d 49 30 st ls σ μ la Q ↔ qEx d 49 32 (.int 8 :: st) ls σ μ la Q := (qEx_eq (i := .bipush 8) rfl).trans Iff.rfl
theorem x49_32 {x y : Int32} : qEx d 49 32 (.int y :: .int x :: st) ls σ μ la Q ↔ qEx d 49 33 (.int (x * y) :: st) ls σ μ la Q := (qEx_eq (i := .imul) rfl).trans Iff.rfl
theorem x49_33 {x : Int32} {l0 l1 l2 l4 : Value} : qEx d 49 33 st [l0, l1, l2, .int x, l4] σ μ la Q ↔ qEx d 49 34 (.int x :: st) [l0, l1, l2, .int x, l4] σ μ la Q := (qEx_eq (i := .iload_n 3) rfl).trans Iff.rfl
theorem x49_34 {x y : Int32} : qEx d 49 34 (.int y :: .int x :: st) ls σ μ la Q ↔ qEx d 49 35 (.int (x + y) :: st) ls σ μ la Q := (qEx_eq (i := .iadd) rfl).trans Iff.rfl
theorem x49_35 {x : Int32} {l0 l1 l2 l3 : Value} : qEx d 49 35 st [l0, l1, l2, l3, .int x] σ μ la Q ↔ qEx d 49 37 (.int x :: st) [l0, l1, l2, l3, .int x] σ μ la Q := (qEx_eq (i := .iload 4) rfl).trans Iff.rfl
theorem x49_37 {x y : Int32} {a : Nat} : qEx d 49 37 (.int y :: .int x :: .ref a :: st) ls σ μ la Q ↔ (qIn x (qLen σ 10 a) = true ∧ qEx d 49 38 st ls σ (qset μ a x.toNatClampNeg y) la Q) := (qEx_eq (i := .iastore) rfl).trans qExA_chk
theorem x49_38 {x : Int32} {l0 l1 l2 l4 : Value} : qEx d 49 38 st [l0, l1, l2, .int x, l4] σ μ la Q ↔ qEx d 49 41 st [l0, l1, l2, .int (x + 1), l4] σ μ la Q := (qEx_eq (i := .iinc 3 1) rfl).trans Iff.rfl
theorem x49_41  : qEx d 49 41 st ls σ μ la Q ↔ qEx d 49 2 st ls σ μ la Q := (qEx_eq (i := .goto (-39)) rfl).trans Iff.rfl
theorem x49_44 {x : Int32} {l0 l1 l3 l4 : Value} : qEx d 49 44 st [l0, l1, .int x, l3, l4] σ μ la Q ↔ qEx d 49 45 (.int x :: st) [l0, l1, .int x, l3, l4] σ μ la Q := (qEx_eq (i := .iload_n 2) rfl).trans Iff.rfl
theorem x49_45 {x : Int32} : qEx d 49 45 [.int x] ls σ μ la Q ↔ Q (some (.int x)) σ μ la := (qEx_eq (i := .ireturn) rfl).trans Iff.rfl
theorem x50_0  : qEx d 50 0 st ls σ μ la Q ↔ qEx d 50 1 (.int 0 :: st) ls σ μ la Q := (qEx_eq (i := .iconst 0) rfl).trans Iff.rfl
theorem x50_1 {x : Int32} {l0 l1 : Value} : qEx d 50 1 (.int x :: st) [l0, l1] σ μ la Q ↔ qEx d 50 2 st [l0, .int x] σ μ la Q := (qEx_eq (i := .istore_n 1) rfl).trans Iff.rfl
theorem x50_2 {x : Int32} {l0 : Value} : qEx d 50 2 st [l0, .int x] σ μ la Q ↔ qEx d 50 3 (.int x :: st) [l0, .int x] σ μ la Q := (qEx_eq (i := .iload_n 1) rfl).trans Iff.rfl
theorem x50_3  : qEx d 50 3 st ls σ μ la Q ↔ qEx d 50 5 (.int 6 :: st) ls σ μ la Q := (qEx_eq (i := .bipush 6) rfl).trans Iff.rfl
theorem x50_5 {x y : Int32} : qEx d 50 5 (.int y :: .int x :: st) ls σ μ la Q ↔ (if y ≤ x then qEx d 50 47 st ls σ μ la Q else qEx d 50 8 st ls σ μ la Q) := (qEx_eq (i := .if_icmp .ge 42) rfl).trans qExA_ite
theorem x50_8 {x : Nat} {l1 : Value} : qEx d 50 8 st [.ref x, l1] σ μ la Q ↔ qEx d 50 9 (.ref x :: st) [.ref x, l1] σ μ la Q := (qEx_eq (i := .aload_n 0) rfl).trans Iff.rfl
theorem x50_9 {x : Int32} {l0 : Value} : qEx d 50 9 st [l0, .int x] σ μ la Q ↔ qEx d 50 10 (.int x :: st) [l0, .int x] σ μ la Q := (qEx_eq (i := .iload_n 1) rfl).trans Iff.rfl
theorem x50_10 {y0 : Int32} {a : Nat} : qEx (d + 1) 50 10 [.int y0, .ref a] ls σ μ la Q ↔ (qOk σ a 3 = true ∧ qEx d 51 0 [] [.ref a, .int y0, .retAddr 0, .retAddr 0, .retAddr 0, .retAddr 0] σ μ la fun r σ' μ' la' => qEx (d + 1) 50 13 (r.toList ++ []) ls σ' μ' la' Q) := (qEx_eq (i := .invokevirtual 75) rfl).trans qExA_chk
theorem x50_13 {x : Int32} : qEx d 50 13 (.int x :: st) ls σ μ la Q ↔ (if ¬ x = 0 then qEx d 50 18 st ls σ μ la Q else qEx d 50 16 st ls σ μ la Q) := (qEx_eq (i := .ifCond .ne 5) rfl).trans qExA_ite
theorem x50_16  : qEx d 50 16 st ls σ μ la Q ↔ qEx d 50 17 (.int 0 :: st) ls σ μ la Q := (qEx_eq (i := .iconst 0) rfl).trans Iff.rfl
theorem x50_17 {x : Int32} : qEx d 50 17 [.int x] ls σ μ la Q ↔ ((x = 0 ∨ x = 1) ∧ Q (some (.int x)) σ μ la) := (qEx_eq (i := .ireturn) rfl).trans qExA_chk
theorem x50_18 {x : Nat} {l1 : Value} : qEx d 50 18 st [.ref x, l1] σ μ la Q ↔ qEx d 50 19 (.ref x :: st) [.ref x, l1] σ μ la Q := (qEx_eq (i := .aload_n 0) rfl).trans Iff.rfl
theorem x50_19 {a : Nat} : qEx d 50 19 (.ref a :: st) ls σ μ la Q ↔ (qOk σ a 3 = true ∧ qEx d 50 22 (qrf (σ.2 a 1) :: st) ls σ μ la Q) := (qEx_eq (i := .getfield 18) rfl).trans qExA_chk
theorem x50_22 {x : Int32} {l0 : Value} : qEx d 50 22 st [l0, .int x] σ μ la Q ↔ qEx d 50 23 (.int x :: st) [l0, .int x] σ μ la Q := (qEx_eq (i := .iload_n 1) rfl).trans Iff.rfl
theorem x50_23  : qEx d 50 23 st ls σ μ la Q ↔ qEx d 50 24 (.int 1 :: st) ls σ μ la Q := (qEx_eq (i := .iconst 1) rfl).trans Iff.rfl
theorem x50_24 {x y : Int32} : qEx d 50 24 (.int y :: .int x :: st) ls σ μ la Q ↔ qEx d 50 25 (.int (x + y) :: st) ls σ μ la Q := (qEx_eq (i := .iadd) rfl).trans Iff.rfl
theorem x50_25 {x : Int32} {a : Nat} : qEx d 50 25 (.int x :: .ref a :: st) ls σ μ la Q ↔ (qOk σ a 4 = true ∧ qEx d 50 28 st ls σ (qset μ a 2 x) la Q) := (qEx_eq (i := .putfield 29) rfl).trans qExA_chk
theorem x50_28 {x : Nat} {l1 : Value} : qEx d 50 28 st [.ref x, l1] σ μ la Q ↔ qEx d 50 29 (.ref x :: st) [.ref x, l1] σ μ la Q := (qEx_eq (i := .aload_n 0) rfl).trans Iff.rfl
theorem x50_29 {a : Nat} : qEx d 50 29 (.ref a :: st) ls σ μ la Q ↔ (qOk σ a 3 = true ∧ qEx d 50 32 (.int (μ a 3) :: st) ls σ μ la Q) := (qEx_eq (i := .getfield 26) rfl).trans qExA_chk
theorem x50_32 {x : Nat} {l1 : Value} : qEx d 50 32 st [.ref x, l1] σ μ la Q ↔ qEx d 50 33 (.ref x :: st) [.ref x, l1] σ μ la Q := (qEx_eq (i := .aload_n 0) rfl).trans Iff.rfl
theorem x50_33 {a : Nat} : qEx d 50 33 (.ref a :: st) ls σ μ la Q ↔ (qOk σ a 3 = true ∧ qEx d 50 36 (.int (μ a 2) :: st) ls σ μ la Q) := (qEx_eq (i := .getfield 22) rfl).trans qExA_chk
theorem x50_36 {x y : Int32} : qEx d 50 36 (.int y :: .int x :: st) ls σ μ la Q ↔ (if x < y then qEx d 50 41 st ls σ μ la Q else qEx d 50 39 st ls σ μ la Q) := (qEx_eq (i := .if_icmp .lt 5) rfl).trans qExA_ite
theorem x50_39  : qEx d 50 39 st ls σ μ la Q ↔ qEx d 50 40 (.int 1 :: st) ls σ μ la Q := (qEx_eq (i := .iconst 1) rfl).trans Iff.rfl
theorem x50_40 {x : Int32} : qEx d 50 40 [.int x] ls σ μ la Q ↔ ((x = 0 ∨ x = 1) ∧ Q (some (.int x)) σ μ la) := (qEx_eq (i := .ireturn) rfl).trans qExA_chk
theorem x50_41 {x : Int32} {l0 : Value} : qEx d 50 41 st [l0, .int x] σ μ la Q ↔ qEx d 50 44 st [l0, .int (x + 1)] σ μ la Q := (qEx_eq (i := .iinc 1 1) rfl).trans Iff.rfl
theorem x50_44  : qEx d 50 44 st ls σ μ la Q ↔ qEx d 50 2 st ls σ μ la Q := (qEx_eq (i := .goto (-42)) rfl).trans Iff.rfl
theorem x50_47  : qEx d 50 47 st ls σ μ la Q ↔ qEx d 50 48 (.int 0 :: st) ls σ μ la Q := (qEx_eq (i := .iconst 0) rfl).trans Iff.rfl
theorem x50_48 {x : Int32} : qEx d 50 48 [.int x] ls σ μ la Q ↔ ((x = 0 ∨ x = 1) ∧ Q (some (.int x)) σ μ la) := (qEx_eq (i := .ireturn) rfl).trans qExA_chk
theorem x51_0 {x : Nat} {l1 l2 l3 l4 l5 : Value} : qEx d 51 0 st [.ref x, l1, l2, l3, l4, l5] σ μ la Q ↔ qEx d 51 1 (.ref x :: st) [.ref x, l1, l2, l3, l4, l5] σ μ la Q := (qEx_eq (i := .aload_n 0) rfl).trans Iff.rfl
theorem x51_1  : qEx d 51 1 st ls σ μ la Q ↔ qEx d 51 3 (.ref 1013 :: st) ls σ μ la Q := (qEx_eq (i := .ldc 79) rfl).trans Iff.rfl
theorem x51_3 {y0 : Nat} {a : Nat} : qEx (d + 1) 51 3 [.ref y0, .ref a] ls σ μ la Q ↔ (qOk σ a 3 = true ∧ qEx d 55 0 [] [.ref a, .ref y0, .retAddr 0] σ μ la fun r σ' μ' la' => qEx (d + 1) 51 6 (r.toList ++ []) ls σ' μ' la' Q) := (qEx_eq (i := .invokevirtual 48) rfl).trans qExA_chk
theorem x51_6 {x : Int32} {l0 l1 l2 l3 l4 l5 : Value} : qEx d 51 6 (.int x :: st) [l0, l1, l2, l3, l4, l5] σ μ la Q ↔ qEx d 51 7 st [l0, l1, .int x, l3, l4, l5] σ μ la Q := (qEx_eq (i := .istore_n 2) rfl).trans Iff.rfl
theorem x51_7 {x : Int32} {l0 l1 l3 l4 l5 : Value} : qEx d 51 7 st [l0, l1, .int x, l3, l4, l5] σ μ la Q ↔ qEx d 51 8 (.int x :: st) [l0, l1, .int x, l3, l4, l5] σ μ la Q := (qEx_eq (i := .iload_n 2) rfl).trans Iff.rfl
theorem x51_8 {x : Int32} : qEx d 51 8 (.int x :: st) ls σ μ la Q ↔ (if 0 ≤ x then qEx d 51 13 st ls σ μ la Q else qEx d 51 11 st ls σ μ la Q) := (qEx_eq (i := .ifCond .ge 5) rfl).trans qExA_ite
theorem x51_11  : qEx d 51 11 st ls σ μ la Q ↔ qEx d 51 12 (.int 0 :: st) ls σ μ la Q := (qEx_eq (i := .iconst 0) rfl).trans Iff.rfl
theorem x51_12 {x : Int32} : qEx d 51 12 [.int x] ls σ μ la Q ↔ ((x = 0 ∨ x = 1) ∧ Q (some (.int x)) σ μ la) := (qEx_eq (i := .ireturn) rfl).trans qExA_chk
theorem x51_13 {x : Nat} {l1 l2 l3 l4 l5 : Value} : qEx d 51 13 st [.ref x, l1, l2, l3, l4, l5] σ μ la Q ↔ qEx d 51 14 (.ref x :: st) [.ref x, l1, l2, l3, l4, l5] σ μ la Q := (qEx_eq (i := .aload_n 0) rfl).trans Iff.rfl
theorem x51_14 {a : Nat} : qEx (d + 1) 51 14 [.ref a] ls σ μ la Q ↔ (qOk σ a 3 = true ∧ qEx d 52 0 [] [.ref a, .retAddr 0, .retAddr 0, .retAddr 0, .retAddr 0] σ μ la fun r σ' μ' la' => qEx (d + 1) 51 17 (r.toList ++ []) ls σ' μ' la' Q) := (qEx_eq (i := .invokevirtual 81) rfl).trans qExA_chk
theorem x51_17 {x : Int32} {l0 l1 l2 l3 l4 l5 : Value} : qEx d 51 17 (.int x :: st) [l0, l1, l2, l3, l4, l5] σ μ la Q ↔ qEx d 51 18 st [l0, l1, l2, .int x, l4, l5] σ μ la Q := (qEx_eq (i := .istore_n 3) rfl).trans Iff.rfl
theorem x51_18 {x : Int32} {l0 l1 l2 l4 l5 : Value} : qEx d 51 18 st [l0, l1, l2, .int x, l4, l5] σ μ la Q ↔ qEx d 51 19 (.int x :: st) [l0, l1, l2, .int x, l4, l5] σ μ la Q := (qEx_eq (i := .iload_n 3) rfl).trans Iff.rfl
theorem x51_19 {x : Int32} : qEx d 51 19 (.int x :: st) ls σ μ la Q ↔ (if 0 ≤ x then qEx d 51 24 st ls σ μ la Q else qEx d 51 22 st ls σ μ la Q) := (qEx_eq (i := .ifCond .ge 5) rfl).trans qExA_ite
theorem x51_22  : qEx d 51 22 st ls σ μ la Q ↔ qEx d 51 23 (.int 0 :: st) ls σ μ la Q := (qEx_eq (i := .iconst 0) rfl).trans Iff.rfl
theorem x51_23 {x : Int32} : qEx d 51 23 [.int x] ls σ μ la Q ↔ ((x = 0 ∨ x = 1) ∧ Q (some (.int x)) σ μ la) := (qEx_eq (i := .ireturn) rfl).trans qExA_chk
theorem x51_24 {x : Nat} {l1 l2 l3 l4 l5 : Value} : qEx d 51 24 st [.ref x, l1, l2, l3, l4, l5] σ μ la Q ↔ qEx d 51 25 (.ref x :: st) [.ref x, l1, l2, l3, l4, l5] σ μ la Q := (qEx_eq (i := .aload_n 0) rfl).trans Iff.rfl
theorem x51_25  : qEx d 51 25 st ls σ μ la Q ↔ qEx d 51 27 (.ref 1014 :: st) ls σ μ la Q := (qEx_eq (i := .ldc 85) rfl).trans Iff.rfl
theorem x51_27 {y0 : Nat} {a : Nat} : qEx (d + 1) 51 27 [.ref y0, .ref a] ls σ μ la Q ↔ (qOk σ a 3 = true ∧ qEx d 55 0 [] [.ref a, .ref y0, .retAddr 0] σ μ la fun r σ' μ' la' => qEx (d + 1) 51 30 (r.toList ++ []) ls σ' μ' la' Q) := (qEx_eq (i := .invokevirtual 48) rfl).trans qExA_chk
theorem x51_30 {x : Int32} {l0 l1 l2 l3 l4 l5 : Value} : qEx d 51 30 (.int x :: st) [l0, l1, l2, l3, l4, l5] σ μ la Q ↔ qEx d 51 32 st [l0, l1, l2, l3, .int x, l5] σ μ la Q := (qEx_eq (i := .istore 4) rfl).trans Iff.rfl
theorem x51_32 {x : Int32} {l0 l1 l2 l3 l5 : Value} : qEx d 51 32 st [l0, l1, l2, l3, .int x, l5] σ μ la Q ↔ qEx d 51 34 (.int x :: st) [l0, l1, l2, l3, .int x, l5] σ μ la Q := (qEx_eq (i := .iload 4) rfl).trans Iff.rfl
theorem x51_34 {x : Int32} : qEx d 51 34 (.int x :: st) ls σ μ la Q ↔ (if 0 ≤ x then qEx d 51 39 st ls σ μ la Q else qEx d 51 37 st ls σ μ la Q) := (qEx_eq (i := .ifCond .ge 5) rfl).trans qExA_ite
theorem x51_37  : qEx d 51 37 st ls σ μ la Q ↔ qEx d 51 38 (.int 0 :: st) ls σ μ la Q := (qEx_eq (i := .iconst 0) rfl).trans Iff.rfl
theorem x51_38 {x : Int32} : qEx d 51 38 [.int x] ls σ μ la Q ↔ ((x = 0 ∨ x = 1) ∧ Q (some (.int x)) σ μ la) := (qEx_eq (i := .ireturn) rfl).trans qExA_chk
theorem x51_39 {x : Nat} {l1 l2 l3 l4 l5 : Value} : qEx d 51 39 st [.ref x, l1, l2, l3, l4, l5] σ μ la Q ↔ qEx d 51 40 (.ref x :: st) [.ref x, l1, l2, l3, l4, l5] σ μ la Q := (qEx_eq (i := .aload_n 0) rfl).trans Iff.rfl
theorem x51_40 {a : Nat} : qEx (d + 1) 51 40 [.ref a] ls σ μ la Q ↔ (qOk σ a 3 = true ∧ qEx d 53 0 [] [.ref a, .retAddr 0, .retAddr 0, .retAddr 0] σ μ la fun r σ' μ' la' => qEx (d + 1) 51 43 (r.toList ++ []) ls σ' μ' la' Q) := (qEx_eq (i := .invokevirtual 87) rfl).trans qExA_chk
theorem x51_43 {x : Int32} {l0 l1 l2 l3 l4 l5 : Value} : qEx d 51 43 (.int x :: st) [l0, l1, l2, l3, l4, l5] σ μ la Q ↔ qEx d 51 45 st [l0, l1, l2, l3, l4, .int x] σ μ la Q := (qEx_eq (i := .istore 5) rfl).trans Iff.rfl
theorem x51_45 {x : Int32} {l0 l1 l2 l3 l4 : Value} : qEx d 51 45 st [l0, l1, l2, l3, l4, .int x] σ μ la Q ↔ qEx d 51 47 (.int x :: st) [l0, l1, l2, l3, l4, .int x] σ μ la Q := (qEx_eq (i := .iload 5) rfl).trans Iff.rfl
theorem x51_47 {x : Int32} : qEx d 51 47 (.int x :: st) ls σ μ la Q ↔ (if 0 ≤ x then qEx d 51 52 st ls σ μ la Q else qEx d 51 50 st ls σ μ la Q) := (qEx_eq (i := .ifCond .ge 5) rfl).trans qExA_ite
theorem x51_50  : qEx d 51 50 st ls σ μ la Q ↔ qEx d 51 51 (.int 0 :: st) ls σ μ la Q := (qEx_eq (i := .iconst 0) rfl).trans Iff.rfl
theorem x51_51 {x : Int32} : qEx d 51 51 [.int x] ls σ μ la Q ↔ ((x = 0 ∨ x = 1) ∧ Q (some (.int x)) σ μ la) := (qEx_eq (i := .ireturn) rfl).trans qExA_chk
theorem x51_52 {x : Nat} {l1 l2 l3 l4 l5 : Value} : qEx d 51 52 st [.ref x, l1, l2, l3, l4, l5] σ μ la Q ↔ qEx d 51 53 (.ref x :: st) [.ref x, l1, l2, l3, l4, l5] σ μ la Q := (qEx_eq (i := .aload_n 0) rfl).trans Iff.rfl
theorem x51_53 {a : Nat} : qEx d 51 53 (.ref a :: st) ls σ μ la Q ↔ (qOk σ a 3 = true ∧ qEx d 51 56 (qrf (σ.2 a 1) :: st) ls σ μ la Q) := (qEx_eq (i := .getfield 18) rfl).trans qExA_chk
theorem x51_56 {a : Nat} : qEx d 51 56 (.ref a :: st) ls σ μ la Q ↔ (qOk σ a 4 = true ∧ qEx d 51 59 (qrf (σ.2 a 7) :: st) ls σ μ la Q) := (qEx_eq (i := .getfield 90) rfl).trans qExA_chk
theorem x51_59 {x : Int32} {l0 l2 l3 l4 l5 : Value} : qEx d 51 59 st [l0, .int x, l2, l3, l4, l5] σ μ la Q ↔ qEx d 51 60 (.int x :: st) [l0, .int x, l2, l3, l4, l5] σ μ la Q := (qEx_eq (i := .iload_n 1) rfl).trans Iff.rfl
theorem x51_60 {x : Int32} {l0 l1 l3 l4 l5 : Value} : qEx d 51 60 st [l0, l1, .int x, l3, l4, l5] σ μ la Q ↔ qEx d 51 61 (.int x :: st) [l0, l1, .int x, l3, l4, l5] σ μ la Q := (qEx_eq (i := .iload_n 2) rfl).trans Iff.rfl
theorem x51_61  : qEx d 51 61 st ls σ μ la Q ↔ qEx d 51 62 (.int 1 :: st) ls σ μ la Q := (qEx_eq (i := .iconst 1) rfl).trans Iff.rfl
theorem x51_62 {x y : Int32} : qEx d 51 62 (.int y :: .int x :: st) ls σ μ la Q ↔ qEx d 51 63 (.int (x + y) :: st) ls σ μ la Q := (qEx_eq (i := .iadd) rfl).trans Iff.rfl
theorem x51_63 {x y : Int32} {a : Nat} : qEx d 51 63 (.int y :: .int x :: .ref a :: st) ls σ μ la Q ↔ (qIn x (qLen σ 10 a) = true ∧ qEx d 51 64 st ls σ (qset μ a x.toNatClampNeg y) la Q) := (qEx_eq (i := .iastore) rfl).trans qExA_chk
theorem x51_64 {x : Nat} {l1 l2 l3 l4 l5 : Value} : qEx d 51 64 st [.ref x, l1, l2, l3, l4, l5] σ μ la Q ↔ qEx d 51 65 (.ref x :: st) [.ref x, l1, l2, l3, l4, l5] σ μ la Q := (qEx_eq (i := .aload_n 0) rfl).trans Iff.rfl
theorem x51_65 {a : Nat} : qEx d 51 65 (.ref a :: st) ls σ μ la Q ↔ (qOk σ a 3 = true ∧ qEx d 51 68 (qrf (σ.2 a 1) :: st) ls σ μ la Q) := (qEx_eq (i := .getfield 18) rfl).trans qExA_chk
theorem x51_68 {a : Nat} : qEx d 51 68 (.ref a :: st) ls σ μ la Q ↔ (qOk σ a 4 = true ∧ qEx d 51 71 (qrf (σ.2 a 8) :: st) ls σ μ la Q) := (qEx_eq (i := .getfield 93) rfl).trans qExA_chk
theorem x51_71 {x : Int32} {l0 l2 l3 l4 l5 : Value} : qEx d 51 71 st [l0, .int x, l2, l3, l4, l5] σ μ la Q ↔ qEx d 51 72 (.int x :: st) [l0, .int x, l2, l3, l4, l5] σ μ la Q := (qEx_eq (i := .iload_n 1) rfl).trans Iff.rfl
theorem x51_72 {x : Int32} {l0 l1 l2 l4 l5 : Value} : qEx d 51 72 st [l0, l1, l2, .int x, l4, l5] σ μ la Q ↔ qEx d 51 73 (.int x :: st) [l0, l1, l2, .int x, l4, l5] σ μ la Q := (qEx_eq (i := .iload_n 3) rfl).trans Iff.rfl
theorem x51_73 {x y : Int32} {a : Nat} : qEx d 51 73 (.int y :: .int x :: .ref a :: st) ls σ μ la Q ↔ (qIn x (qLen σ 10 a) = true ∧ qEx d 51 74 st ls σ (qset μ a x.toNatClampNeg y) la Q) := (qEx_eq (i := .iastore) rfl).trans qExA_chk
theorem x51_74 {x : Nat} {l1 l2 l3 l4 l5 : Value} : qEx d 51 74 st [.ref x, l1, l2, l3, l4, l5] σ μ la Q ↔ qEx d 51 75 (.ref x :: st) [.ref x, l1, l2, l3, l4, l5] σ μ la Q := (qEx_eq (i := .aload_n 0) rfl).trans Iff.rfl
theorem x51_75 {a : Nat} : qEx d 51 75 (.ref a :: st) ls σ μ la Q ↔ (qOk σ a 3 = true ∧ qEx d 51 78 (qrf (σ.2 a 1) :: st) ls σ μ la Q) := (qEx_eq (i := .getfield 18) rfl).trans qExA_chk
theorem x51_78 {a : Nat} : qEx d 51 78 (.ref a :: st) ls σ μ la Q ↔ (qOk σ a 4 = true ∧ qEx d 51 81 (qrf (σ.2 a 9) :: st) ls σ μ la Q) := (qEx_eq (i := .getfield 96) rfl).trans qExA_chk
theorem x51_81 {x : Int32} {l0 l2 l3 l4 l5 : Value} : qEx d 51 81 st [l0, .int x, l2, l3, l4, l5] σ μ la Q ↔ qEx d 51 82 (.int x :: st) [l0, .int x, l2, l3, l4, l5] σ μ la Q := (qEx_eq (i := .iload_n 1) rfl).trans Iff.rfl
theorem x51_82 {x : Int32} {l0 l1 l2 l3 l5 : Value} : qEx d 51 82 st [l0, l1, l2, l3, .int x, l5] σ μ la Q ↔ qEx d 51 84 (.int x :: st) [l0, l1, l2, l3, .int x, l5] σ μ la Q := (qEx_eq (i := .iload 4) rfl).trans Iff.rfl
theorem x51_84 {x y : Int32} {a : Nat} : qEx d 51 84 (.int y :: .int x :: .ref a :: st) ls σ μ la Q ↔ (qIn x (qLen σ 10 a) = true ∧ qEx d 51 85 st ls σ (qset μ a x.toNatClampNeg y) la Q) := (qEx_eq (i := .iastore) rfl).trans qExA_chk
theorem x51_85 {x : Nat} {l1 l2 l3 l4 l5 : Value} : qEx d 51 85 st [.ref x, l1, l2, l3, l4, l5] σ μ la Q ↔ qEx d 51 86 (.ref x :: st) [.ref x, l1, l2, l3, l4, l5] σ μ la Q := (qEx_eq (i := .aload_n 0) rfl).trans Iff.rfl
theorem x51_86 {a : Nat} : qEx d 51 86 (.ref a :: st) ls σ μ la Q ↔ (qOk σ a 3 = true ∧ qEx d 51 89 (qrf (σ.2 a 1) :: st) ls σ μ la Q) := (qEx_eq (i := .getfield 18) rfl).trans qExA_chk
theorem x51_89 {a : Nat} : qEx d 51 89 (.ref a :: st) ls σ μ la Q ↔ (qOk σ a 4 = true ∧ qEx d 51 92 (qrf (σ.2 a 10) :: st) ls σ μ la Q) := (qEx_eq (i := .getfield 99) rfl).trans qExA_chk
theorem x51_92 {x : Int32} {l0 l2 l3 l4 l5 : Value} : qEx d 51 92 st [l0, .int x, l2, l3, l4, l5] σ μ la Q ↔ qEx d 51 93 (.int x :: st) [l0, .int x, l2, l3, l4, l5] σ μ la Q := (qEx_eq (i := .iload_n 1) rfl).trans Iff.rfl
theorem x51_93 {x : Int32} {l0 l1 l2 l3 l4 : Value} : qEx d 51 93 st [l0, l1, l2, l3, l4, .int x] σ μ la Q ↔ qEx d 51 95 (.int x :: st) [l0, l1, l2, l3, l4, .int x] σ μ la Q := (qEx_eq (i := .iload 5) rfl).trans Iff.rfl
theorem x51_95 {x y : Int32} {a : Nat} : qEx d 51 95 (.int y :: .int x :: .ref a :: st) ls σ μ la Q ↔ (qIn x (qLen σ 10 a) = true ∧ qEx d 51 96 st ls σ (qset μ a x.toNatClampNeg y) la Q) := (qEx_eq (i := .iastore) rfl).trans qExA_chk
theorem x51_96 {x : Nat} {l1 l2 l3 l4 l5 : Value} : qEx d 51 96 st [.ref x, l1, l2, l3, l4, l5] σ μ la Q ↔ qEx d 51 97 (.ref x :: st) [.ref x, l1, l2, l3, l4, l5] σ μ la Q := (qEx_eq (i := .aload_n 0) rfl).trans Iff.rfl
theorem x51_97  : qEx d 51 97 st ls σ μ la Q ↔ qEx d 51 99 (.int 59 :: st) ls σ μ la Q := (qEx_eq (i := .bipush 59) rfl).trans Iff.rfl
theorem x51_99 {y0 : Int32} {a : Nat} : qEx (d + 1) 51 99 [.int y0, .ref a] ls σ μ la Q ↔ (qOk σ a 3 = true ∧ qEx d 56 0 [] [.ref a, .int y0] σ μ la fun r σ' μ' la' => qEx (d + 1) 51 102 (r.toList ++ []) ls σ' μ' la' Q) := (qEx_eq (i := .invokevirtual 42) rfl).trans qExA_chk
theorem x51_102 {x : Int32} : qEx d 51 102 [.int x] ls σ μ la Q ↔ ((x = 0 ∨ x = 1) ∧ Q (some (.int x)) σ μ la) := (qEx_eq (i := .ireturn) rfl).trans qExA_chk
theorem x52_0 {x : Nat} {l1 l2 l3 l4 : Value} : qEx d 52 0 st [.ref x, l1, l2, l3, l4] σ μ la Q ↔ qEx d 52 1 (.ref x :: st) [.ref x, l1, l2, l3, l4] σ μ la Q := (qEx_eq (i := .aload_n 0) rfl).trans Iff.rfl
theorem x52_1 {a : Nat} : qEx d 52 1 (.ref a :: st) ls σ μ la Q ↔ (qOk σ a 3 = true ∧ qEx d 52 4 (.int (μ a 3) :: st) ls σ μ la Q) := (qEx_eq (i := .getfield 26) rfl).trans qExA_chk
theorem x52_4 {x : Int32} {l0 l1 l2 l3 l4 : Value} : qEx d 52 4 (.int x :: st) [l0, l1, l2, l3, l4] σ μ la Q ↔ qEx d 52 5 st [l0, .int x, l2, l3, l4] σ μ la Q := (qEx_eq (i := .istore_n 1) rfl).trans Iff.rfl
theorem x52_5 {x : Nat} {l1 l2 l3 l4 : Value} : qEx d 52 5 st [.ref x, l1, l2, l3, l4] σ μ la Q ↔ qEx d 52 6 (.ref x :: st) [.ref x, l1, l2, l3, l4] σ μ la Q := (qEx_eq (i := .aload_n 0) rfl).trans Iff.rfl
theorem x52_6 {x : Nat} {l1 l2 l3 l4 : Value} : qEx d 52 6 st [.ref x, l1, l2, l3, l4] σ μ la Q ↔ qEx d 52 7 (.ref x :: st) [.ref x, l1, l2, l3, l4] σ μ la Q := (qEx_eq (i := .aload_n 0) rfl).trans Iff.rfl
theorem x52_7 {a : Nat} : qEx d 52 7 (.ref a :: st) ls σ μ la Q ↔ (qOk σ a 3 = true ∧ qEx d 52 10 (qrf (σ.2 a 1) :: st) ls σ μ la Q) := (qEx_eq (i := .getfield 18) rfl).trans qExA_chk
theorem x52_10 {a : Nat} : qEx d 52 10 (.ref a :: st) ls σ μ la Q ↔ (qOk σ a 4 = true ∧ qEx d 52 13 (.int (μ a 0) :: st) ls σ μ la Q) := (qEx_eq (i := .getfield 60) rfl).trans qExA_chk
theorem x52_13 {y0 : Int32} {a : Nat} : qEx (d + 1) 52 13 [.int y0, .ref a] ls σ μ la Q ↔ (qOk σ a 3 = true ∧ qEx d 54 0 [] [.ref a, .int y0, .retAddr 0] σ μ la fun r σ' μ' la' => qEx (d + 1) 52 16 (r.toList ++ []) ls σ' μ' la' Q) := (qEx_eq (i := .invokevirtual 102) rfl).trans qExA_chk
theorem x52_16 {x : Int32} {l0 l1 l2 l3 l4 : Value} : qEx d 52 16 (.int x :: st) [l0, l1, l2, l3, l4] σ μ la Q ↔ qEx d 52 17 st [l0, l1, .int x, l3, l4] σ μ la Q := (qEx_eq (i := .istore_n 2) rfl).trans Iff.rfl
theorem x52_17 {x : Int32} {l0 l1 l3 l4 : Value} : qEx d 52 17 st [l0, l1, .int x, l3, l4] σ μ la Q ↔ qEx d 52 18 (.int x :: st) [l0, l1, .int x, l3, l4] σ μ la Q := (qEx_eq (i := .iload_n 2) rfl).trans Iff.rfl
theorem x52_18 {x : Int32} : qEx d 52 18 (.int x :: st) ls σ μ la Q ↔ (if 0 ≤ x then qEx d 52 23 st ls σ μ la Q else qEx d 52 21 st ls σ μ la Q) := (qEx_eq (i := .ifCond .ge 5) rfl).trans qExA_ite
theorem x52_21  : qEx d 52 21 st ls σ μ la Q ↔ qEx d 52 22 (.int (-1) :: st) ls σ μ la Q := (qEx_eq (i := .iconst (-1)) rfl).trans Iff.rfl
theorem x52_22 {x : Int32} : qEx d 52 22 [.int x] ls σ μ la Q ↔ Q (some (.int x)) σ μ la := (qEx_eq (i := .ireturn) rfl).trans Iff.rfl
theorem x52_23 {x : Nat} {l1 l2 l3 l4 : Value} : qEx d 52 23 st [.ref x, l1, l2, l3, l4] σ μ la Q ↔ qEx d 52 24 (.ref x :: st) [.ref x, l1, l2, l3, l4] σ μ la Q := (qEx_eq (i := .aload_n 0) rfl).trans Iff.rfl
theorem x52_24 {x : Nat} {l1 l2 l3 l4 : Value} : qEx d 52 24 st [.ref x, l1, l2, l3, l4] σ μ la Q ↔ qEx d 52 25 (.ref x :: st) [.ref x, l1, l2, l3, l4] σ μ la Q := (qEx_eq (i := .aload_n 0) rfl).trans Iff.rfl
theorem x52_25 {a : Nat} : qEx d 52 25 (.ref a :: st) ls σ μ la Q ↔ (qOk σ a 3 = true ∧ qEx d 52 28 (qrf (σ.2 a 1) :: st) ls σ μ la Q) := (qEx_eq (i := .getfield 18) rfl).trans qExA_chk
theorem x52_28 {a : Nat} : qEx d 52 28 (.ref a :: st) ls σ μ la Q ↔ (qOk σ a 4 = true ∧ qEx d 52 31 (.int (μ a 1) :: st) ls σ μ la Q) := (qEx_eq (i := .getfield 67) rfl).trans qExA_chk
theorem x52_31 {y0 : Int32} {a : Nat} : qEx (d + 1) 52 31 [.int y0, .ref a] ls σ μ la Q ↔ (qOk σ a 3 = true ∧ qEx d 54 0 [] [.ref a, .int y0, .retAddr 0] σ μ la fun r σ' μ' la' => qEx (d + 1) 52 34 (r.toList ++ []) ls σ' μ' la' Q) := (qEx_eq (i := .invokevirtual 102) rfl).trans qExA_chk
theorem x52_34 {x : Int32} {l0 l1 l2 l3 l4 : Value} : qEx d 52 34 (.int x :: st) [l0, l1, l2, l3, l4] σ μ la Q ↔ qEx d 52 35 st [l0, l1, l2, .int x, l4] σ μ la Q := (qEx_eq (i := .istore_n 3) rfl).trans Iff.rfl
theorem x52_35 {x : Int32} {l0 l1 l2 l4 : Value} : qEx d 52 35 st [l0, l1, l2, .int x, l4] σ μ la Q ↔ qEx d 52 36 (.int x :: st) [l0, l1, l2, .int x, l4] σ μ la Q := (qEx_eq (i := .iload_n 3) rfl).trans Iff.rfl
theorem x52_36 {x : Int32} : qEx d 52 36 (.int x :: st) ls σ μ la Q ↔ (if 0 ≤ x then qEx d 52 41 st ls σ μ la Q else qEx d 52 39 st ls σ μ la Q) := (qEx_eq (i := .ifCond .ge 5) rfl).trans qExA_ite
theorem x52_39  : qEx d 52 39 st ls σ μ la Q ↔ qEx d 52 40 (.int (-1) :: st) ls σ μ la Q := (qEx_eq (i := .iconst (-1)) rfl).trans Iff.rfl
theorem x52_40 {x : Int32} : qEx d 52 40 [.int x] ls σ μ la Q ↔ Q (some (.int x)) σ μ la := (qEx_eq (i := .ireturn) rfl).trans Iff.rfl
theorem x52_41 {x : Int32} {l0 l1 l2 l4 : Value} : qEx d 52 41 st [l0, l1, l2, .int x, l4] σ μ la Q ↔ qEx d 52 42 (.int x :: st) [l0, l1, l2, .int x, l4] σ μ la Q := (qEx_eq (i := .iload_n 3) rfl).trans Iff.rfl
theorem x52_42  : qEx d 52 42 st ls σ μ la Q ↔ qEx d 52 44 (.int 8 :: st) ls σ μ la Q := (qEx_eq (i := .bipush 8) rfl).trans Iff.rfl
theorem x52_44 {x y : Int32} : qEx d 52 44 (.int y :: .int x :: st) ls σ μ la Q ↔ qEx d 52 45 (.int (x * y) :: st) ls σ μ la Q := (qEx_eq (i := .imul) rfl).trans Iff.rfl
theorem x52_45 {x : Int32} {l0 l1 l3 l4 : Value} : qEx d 52 45 st [l0, l1, .int x, l3, l4] σ μ la Q ↔ qEx d 52 46 (.int x :: st) [l0, l1, .int x, l3, l4] σ μ la Q := (qEx_eq (i := .iload_n 2) rfl).trans Iff.rfl
theorem x52_46 {x y : Int32} : qEx d 52 46 (.int y :: .int x :: st) ls σ μ la Q ↔ qEx d 52 47 (.int (x + y) :: st) ls σ μ la Q := (qEx_eq (i := .iadd) rfl).trans Iff.rfl
theorem x52_47 {x : Int32} {l0 l1 l2 l3 l4 : Value} : qEx d 52 47 (.int x :: st) [l0, l1, l2, l3, l4] σ μ la Q ↔ qEx d 52 49 st [l0, l1, l2, l3, .int x] σ μ la Q := (qEx_eq (i := .istore 4) rfl).trans Iff.rfl
theorem x52_49 {x : Nat} {l1 l2 l3 l4 : Value} : qEx d 52 49 st [.ref x, l1, l2, l3, l4] σ μ la Q ↔ qEx d 52 50 (.ref x :: st) [.ref x, l1, l2, l3, l4] σ μ la Q := (qEx_eq (i := .aload_n 0) rfl).trans Iff.rfl
theorem x52_50 {a : Nat} : qEx d 52 50 (.ref a :: st) ls σ μ la Q ↔ (qOk σ a 3 = true ∧ qEx d 52 53 (qrf (σ.2 a 1) :: st) ls σ μ la Q) := (qEx_eq (i := .getfield 18) rfl).trans qExA_chk
theorem x52_53 {a : Nat} : qEx d 52 53 (.ref a :: st) ls σ μ la Q ↔ (qOk σ a 4 = true ∧ qEx d 52 56 (qrf (σ.2 a 6) :: st) ls σ μ la Q) := (qEx_eq (i := .getfield 72) rfl).trans qExA_chk
theorem x52_56 {x : Int32} {l0 l1 l2 l3 : Value} : qEx d 52 56 st [l0, l1, l2, l3, .int x] σ μ la Q ↔ qEx d 52 58 (.int x :: st) [l0, l1, l2, l3, .int x] σ μ la Q := (qEx_eq (i := .iload 4) rfl).trans Iff.rfl
theorem x52_58 {x : Int32} {a : Nat} : qEx d 52 58 (.int x :: .ref a :: st) ls σ μ la Q ↔ (qIn x (qIld σ μ a) = true ∧ qEx d 52 59 (.int (μ a x.toNatClampNeg) :: st) ls σ μ la Q) := (qEx_eq (i := .iaload) rfl).trans qExA_chk
theorem x52_59  : qEx d 52 59 st ls σ μ la Q ↔ qEx d 52 60 (.int 1 :: st) ls σ μ la Q := (qEx_eq (i := .iconst 1) rfl).trans Iff.rfl
theorem x52_60 {x y : Int32} : qEx d 52 60 (.int y :: .int x :: st) ls σ μ la Q ↔ (if x = y then qEx d 52 80 st ls σ μ la Q else qEx d 52 63 st ls σ μ la Q) := (qEx_eq (i := .if_icmp .eq 20) rfl).trans qExA_ite
theorem x52_63 {x : Nat} {l1 l2 l3 l4 : Value} : qEx d 52 63 st [.ref x, l1, l2, l3, l4] σ μ la Q ↔ qEx d 52 64 (.ref x :: st) [.ref x, l1, l2, l3, l4] σ μ la Q := (qEx_eq (i := .aload_n 0) rfl).trans Iff.rfl
theorem x52_64 {a : Nat} : qEx d 52 64 (.ref a :: st) ls σ μ la Q ↔ (qOk σ a 3 = true ∧ qEx d 52 67 (qrf (σ.2 a 1) :: st) ls σ μ la Q) := (qEx_eq (i := .getfield 18) rfl).trans qExA_chk
theorem x52_67 {x : Int32} {l0 l1 l2 l3 : Value} : qEx d 52 67 st [l0, l1, l2, l3, .int x] σ μ la Q ↔ qEx d 52 69 (.int x :: st) [l0, l1, l2, l3, .int x] σ μ la Q := (qEx_eq (i := .iload 4) rfl).trans Iff.rfl
theorem x52_69 {y0 : Int32} {a : Nat} : qEx (d + 1) 52 69 [.int y0, .ref a] ls σ μ la Q ↔ (qOk σ a 4 = true ∧ qEx d 62 0 [] [.ref a, .int y0, .retAddr 0] σ μ la fun r σ' μ' la' => qEx (d + 1) 52 72 (r.toList ++ []) ls σ' μ' la' Q) := (qEx_eq (i := .invokevirtual 106) rfl).trans qExA_chk
theorem x52_72  : qEx d 52 72 st ls σ μ la Q ↔ qEx d 52 74 (.int (-4) :: st) ls σ μ la Q := (qEx_eq (i := .bipush (-4)) rfl).trans Iff.rfl
theorem x52_74 {x y : Int32} : qEx d 52 74 (.int y :: .int x :: st) ls σ μ la Q ↔ (if ¬ x = y then qEx d 52 80 st ls σ μ la Q else qEx d 52 77 st ls σ μ la Q) := (qEx_eq (i := .if_icmp .ne 6) rfl).trans qExA_ite
theorem x52_77 {x : Int32} {l0 l1 l2 l3 : Value} : qEx d 52 77 st [l0, l1, l2, l3, .int x] σ μ la Q ↔ qEx d 52 79 (.int x :: st) [l0, l1, l2, l3, .int x] σ μ la Q := (qEx_eq (i := .iload 4) rfl).trans Iff.rfl
theorem x52_79 {x : Int32} : qEx d 52 79 [.int x] ls σ μ la Q ↔ Q (some (.int x)) σ μ la := (qEx_eq (i := .ireturn) rfl).trans Iff.rfl
theorem x52_80 {x : Nat} {l1 l2 l3 l4 : Value} : qEx d 52 80 st [.ref x, l1, l2, l3, l4] σ μ la Q ↔ qEx d 52 81 (.ref x :: st) [.ref x, l1, l2, l3, l4] σ μ la Q := (qEx_eq (i := .aload_n 0) rfl).trans Iff.rfl
theorem x52_81 {x : Int32} {l0 l2 l3 l4 : Value} : qEx d 52 81 st [l0, .int x, l2, l3, l4] σ μ la Q ↔ qEx d 52 82 (.int x :: st) [l0, .int x, l2, l3, l4] σ μ la Q := (qEx_eq (i := .iload_n 1) rfl).trans Iff.rfl
theorem x52_82 {x : Int32} {a : Nat} : qEx d 52 82 (.int x :: .ref a :: st) ls σ μ la Q ↔ (qOk σ a 3 = true ∧ qEx d 52 85 st ls σ (qset μ a 3 x) la Q) := (qEx_eq (i := .putfield 26) rfl).trans qExA_chk
theorem x52_85  : qEx d 52 85 st ls σ μ la Q ↔ qEx d 52 86 (.int (-1) :: st) ls σ μ la Q := (qEx_eq (i := .iconst (-1)) rfl).trans Iff.rfl
theorem x52_86 {x : Int32} : qEx d 52 86 [.int x] ls σ μ la Q ↔ Q (some (.int x)) σ μ la := (qEx_eq (i := .ireturn) rfl).trans Iff.rfl
theorem x53_0 {x : Nat} {l1 l2 l3 : Value} : qEx d 53 0 st [.ref x, l1, l2, l3] σ μ la Q ↔ qEx d 53 1 (.ref x :: st) [.ref x, l1, l2, l3] σ μ la Q := (qEx_eq (i := .aload_n 0) rfl).trans Iff.rfl
theorem x53_1 {a : Nat} : qEx d 53 1 (.ref a :: st) ls σ μ la Q ↔ (qOk σ a 3 = true ∧ qEx d 53 4 (.int (μ a 3) :: st) ls σ μ la Q) := (qEx_eq (i := .getfield 26) rfl).trans qExA_chk
theorem x53_4 {x : Int32} {l0 l1 l2 l3 : Value} : qEx d 53 4 (.int x :: st) [l0, l1, l2, l3] σ μ la Q ↔ qEx d 53 5 st [l0, .int x, l2, l3] σ μ la Q := (qEx_eq (i := .istore_n 1) rfl).trans Iff.rfl
theorem x53_5 {x : Nat} {l1 l2 l3 : Value} : qEx d 53 5 st [.ref x, l1, l2, l3] σ μ la Q ↔ qEx d 53 6 (.ref x :: st) [.ref x, l1, l2, l3] σ μ la Q := (qEx_eq (i := .aload_n 0) rfl).trans Iff.rfl
theorem x53_6  : qEx d 53 6 st ls σ μ la Q ↔ qEx d 53 8 (.int 10 :: st) ls σ μ la Q := (qEx_eq (i := .bipush 10) rfl).trans Iff.rfl
theorem x53_8 {y0 : Int32} {a : Nat} : qEx (d + 1) 53 8 [.int y0, .ref a] ls σ μ la Q ↔ (qOk σ a 3 = true ∧ qEx d 54 0 [] [.ref a, .int y0, .retAddr 0] σ μ la fun r σ' μ' la' => qEx (d + 1) 53 11 (r.toList ++ []) ls σ' μ' la' Q) := (qEx_eq (i := .invokevirtual 102) rfl).trans qExA_chk
theorem x53_11 {x : Int32} {l0 l1 l2 l3 : Value} : qEx d 53 11 (.int x :: st) [l0, l1, l2, l3] σ μ la Q ↔ qEx d 53 12 st [l0, l1, .int x, l3] σ μ la Q := (qEx_eq (i := .istore_n 2) rfl).trans Iff.rfl
theorem x53_12 {x : Int32} {l0 l1 l3 : Value} : qEx d 53 12 st [l0, l1, .int x, l3] σ μ la Q ↔ qEx d 53 13 (.int x :: st) [l0, l1, .int x, l3] σ μ la Q := (qEx_eq (i := .iload_n 2) rfl).trans Iff.rfl
theorem x53_13 {x : Int32} : qEx d 53 13 (.int x :: st) ls σ μ la Q ↔ (if 0 ≤ x then qEx d 53 18 st ls σ μ la Q else qEx d 53 16 st ls σ μ la Q) := (qEx_eq (i := .ifCond .ge 5) rfl).trans qExA_ite
theorem x53_16  : qEx d 53 16 st ls σ μ la Q ↔ qEx d 53 17 (.int (-1) :: st) ls σ μ la Q := (qEx_eq (i := .iconst (-1)) rfl).trans Iff.rfl
theorem x53_17 {x : Int32} : qEx d 53 17 [.int x] ls σ μ la Q ↔ Q (some (.int x)) σ μ la := (qEx_eq (i := .ireturn) rfl).trans Iff.rfl
theorem x53_18 {x : Nat} {l1 l2 l3 : Value} : qEx d 53 18 st [.ref x, l1, l2, l3] σ μ la Q ↔ qEx d 53 19 (.ref x :: st) [.ref x, l1, l2, l3] σ μ la Q := (qEx_eq (i := .aload_n 0) rfl).trans Iff.rfl
theorem x53_19  : qEx d 53 19 st ls σ μ la Q ↔ qEx d 53 21 (.int 10 :: st) ls σ μ la Q := (qEx_eq (i := .bipush 10) rfl).trans Iff.rfl
theorem x53_21 {y0 : Int32} {a : Nat} : qEx (d + 1) 53 21 [.int y0, .ref a] ls σ μ la Q ↔ (qOk σ a 3 = true ∧ qEx d 54 0 [] [.ref a, .int y0, .retAddr 0] σ μ la fun r σ' μ' la' => qEx (d + 1) 53 24 (r.toList ++ []) ls σ' μ' la' Q) := (qEx_eq (i := .invokevirtual 102) rfl).trans qExA_chk
theorem x53_24 {x : Int32} {l0 l1 l2 l3 : Value} : qEx d 53 24 (.int x :: st) [l0, l1, l2, l3] σ μ la Q ↔ qEx d 53 25 st [l0, l1, l2, .int x] σ μ la Q := (qEx_eq (i := .istore_n 3) rfl).trans Iff.rfl
theorem x53_25 {x : Int32} {l0 l1 l2 : Value} : qEx d 53 25 st [l0, l1, l2, .int x] σ μ la Q ↔ qEx d 53 26 (.int x :: st) [l0, l1, l2, .int x] σ μ la Q := (qEx_eq (i := .iload_n 3) rfl).trans Iff.rfl
theorem x53_26 {x : Int32} : qEx d 53 26 (.int x :: st) ls σ μ la Q ↔ (if 0 ≤ x then qEx d 53 31 st ls σ μ la Q else qEx d 53 29 st ls σ μ la Q) := (qEx_eq (i := .ifCond .ge 5) rfl).trans qExA_ite
theorem x53_29 {x : Int32} {l0 l1 l3 : Value} : qEx d 53 29 st [l0, l1, .int x, l3] σ μ la Q ↔ qEx d 53 30 (.int x :: st) [l0, l1, .int x, l3] σ μ la Q := (qEx_eq (i := .iload_n 2) rfl).trans Iff.rfl
theorem x53_30 {x : Int32} : qEx d 53 30 [.int x] ls σ μ la Q ↔ Q (some (.int x)) σ μ la := (qEx_eq (i := .ireturn) rfl).trans Iff.rfl
theorem x53_31 {x : Nat} {l1 l2 l3 : Value} : qEx d 53 31 st [.ref x, l1, l2, l3] σ μ la Q ↔ qEx d 53 32 (.ref x :: st) [.ref x, l1, l2, l3] σ μ la Q := (qEx_eq (i := .aload_n 0) rfl).trans Iff.rfl
theorem x53_32  : qEx d 53 32 st ls σ μ la Q ↔ qEx d 53 34 (.int 10 :: st) ls σ μ la Q := (qEx_eq (i := .bipush 10) rfl).trans Iff.rfl
theorem x53_34 {y0 : Int32} {a : Nat} : qEx (d + 1) 53 34 [.int y0, .ref a] ls σ μ la Q ↔ (qOk σ a 3 = true ∧ qEx d 54 0 [] [.ref a, .int y0, .retAddr 0] σ μ la fun r σ' μ' la' => qEx (d + 1) 53 37 (r.toList ++ []) ls σ' μ' la' Q) := (qEx_eq (i := .invokevirtual 102) rfl).trans qExA_chk
theorem x53_37 {x : Int32} : qEx d 53 37 (.int x :: st) ls σ μ la Q ↔ (if 0 ≤ x then qEx d 53 47 st ls σ μ la Q else qEx d 53 40 st ls σ μ la Q) := (qEx_eq (i := .ifCond .ge 10) rfl).trans qExA_ite
theorem x53_40  : qEx d 53 40 st ls σ μ la Q ↔ qEx d 53 42 (.int 10 :: st) ls σ μ la Q := (qEx_eq (i := .bipush 10) rfl).trans Iff.rfl
theorem x53_42 {x : Int32} {l0 l1 l3 : Value} : qEx d 53 42 st [l0, l1, .int x, l3] σ μ la Q ↔ qEx d 53 43 (.int x :: st) [l0, l1, .int x, l3] σ μ la Q := (qEx_eq (i := .iload_n 2) rfl).trans Iff.rfl
theorem x53_43 {x y : Int32} : qEx d 53 43 (.int y :: .int x :: st) ls σ μ la Q ↔ qEx d 53 44 (.int (x * y) :: st) ls σ μ la Q := (qEx_eq (i := .imul) rfl).trans Iff.rfl
theorem x53_44 {x : Int32} {l0 l1 l2 : Value} : qEx d 53 44 st [l0, l1, l2, .int x] σ μ la Q ↔ qEx d 53 45 (.int x :: st) [l0, l1, l2, .int x] σ μ la Q := (qEx_eq (i := .iload_n 3) rfl).trans Iff.rfl
theorem x53_45 {x y : Int32} : qEx d 53 45 (.int y :: .int x :: st) ls σ μ la Q ↔ qEx d 53 46 (.int (x + y) :: st) ls σ μ la Q := (qEx_eq (i := .iadd) rfl).trans Iff.rfl
theorem x53_46 {x : Int32} : qEx d 53 46 [.int x] ls σ μ la Q ↔ Q (some (.int x)) σ μ la := (qEx_eq (i := .ireturn) rfl).trans Iff.rfl
theorem x53_47 {x : Nat} {l1 l2 l3 : Value} : qEx d 53 47 st [.ref x, l1, l2, l3] σ μ la Q ↔ qEx d 53 48 (.ref x :: st) [.ref x, l1, l2, l3] σ μ la Q := (qEx_eq (i := .aload_n 0) rfl).trans Iff.rfl
theorem x53_48 {x : Int32} {l0 l2 l3 : Value} : qEx d 53 48 st [l0, .int x, l2, l3] σ μ la Q ↔ qEx d 53 49 (.int x :: st) [l0, .int x, l2, l3] σ μ la Q := (qEx_eq (i := .iload_n 1) rfl).trans Iff.rfl
theorem x53_49 {x : Int32} {a : Nat} : qEx d 53 49 (.int x :: .ref a :: st) ls σ μ la Q ↔ (qOk σ a 3 = true ∧ qEx d 53 52 st ls σ (qset μ a 3 x) la Q) := (qEx_eq (i := .putfield 26) rfl).trans qExA_chk
theorem x53_52  : qEx d 53 52 st ls σ μ la Q ↔ qEx d 53 53 (.int (-1) :: st) ls σ μ la Q := (qEx_eq (i := .iconst (-1)) rfl).trans Iff.rfl
theorem x53_53 {x : Int32} : qEx d 53 53 [.int x] ls σ μ la Q ↔ Q (some (.int x)) σ μ la := (qEx_eq (i := .ireturn) rfl).trans Iff.rfl
theorem x54_0 {x : Nat} {l1 l2 : Value} : qEx d 54 0 st [.ref x, l1, l2] σ μ la Q ↔ qEx d 54 1 (.ref x :: st) [.ref x, l1, l2] σ μ la Q := (qEx_eq (i := .aload_n 0) rfl).trans Iff.rfl
theorem x54_1 {a : Nat} : qEx (d + 1) 54 1 [.ref a] ls σ μ la Q ↔ (qOk σ a 3 = true ∧ qEx d 57 0 [] [.ref a] σ μ la fun r σ' μ' la' => qEx (d + 1) 54 4 (r.toList ++ []) ls σ' μ' la' Q) := (qEx_eq (i := .invokevirtual 109) rfl).trans qExA_chk
theorem x54_4  : qEx d 54 4 st ls σ μ la Q ↔ qEx d 54 6 (.int 48 :: st) ls σ μ la Q := (qEx_eq (i := .bipush 48) rfl).trans Iff.rfl
theorem x54_6 {x y : Int32} : qEx d 54 6 (.int y :: .int x :: st) ls σ μ la Q ↔ qEx d 54 7 (.int (x - y) :: st) ls σ μ la Q := (qEx_eq (i := .isub) rfl).trans Iff.rfl
theorem x54_7 {x : Int32} {l0 l1 l2 : Value} : qEx d 54 7 (.int x :: st) [l0, l1, l2] σ μ la Q ↔ qEx d 54 8 st [l0, l1, .int x] σ μ la Q := (qEx_eq (i := .istore_n 2) rfl).trans Iff.rfl
theorem x54_8 {x : Int32} {l0 l1 : Value} : qEx d 54 8 st [l0, l1, .int x] σ μ la Q ↔ qEx d 54 9 (.int x :: st) [l0, l1, .int x] σ μ la Q := (qEx_eq (i := .iload_n 2) rfl).trans Iff.rfl
theorem x54_9 {x : Int32} : qEx d 54 9 (.int x :: st) ls σ μ la Q ↔ (if x < 0 then qEx d 54 23 st ls σ μ la Q else qEx d 54 12 st ls σ μ la Q) := (qEx_eq (i := .ifCond .lt 14) rfl).trans qExA_ite
theorem x54_12 {x : Int32} {l0 l1 : Value} : qEx d 54 12 st [l0, l1, .int x] σ μ la Q ↔ qEx d 54 13 (.int x :: st) [l0, l1, .int x] σ μ la Q := (qEx_eq (i := .iload_n 2) rfl).trans Iff.rfl
theorem x54_13  : qEx d 54 13 st ls σ μ la Q ↔ qEx d 54 15 (.int 9 :: st) ls σ μ la Q := (qEx_eq (i := .bipush 9) rfl).trans Iff.rfl
theorem x54_15 {x y : Int32} : qEx d 54 15 (.int y :: .int x :: st) ls σ μ la Q ↔ (if y < x then qEx d 54 23 st ls σ μ la Q else qEx d 54 18 st ls σ μ la Q) := (qEx_eq (i := .if_icmp .gt 8) rfl).trans qExA_ite
theorem x54_18 {x : Int32} {l0 l1 : Value} : qEx d 54 18 st [l0, l1, .int x] σ μ la Q ↔ qEx d 54 19 (.int x :: st) [l0, l1, .int x] σ μ la Q := (qEx_eq (i := .iload_n 2) rfl).trans Iff.rfl
theorem x54_19 {x : Int32} {l0 l2 : Value} : qEx d 54 19 st [l0, .int x, l2] σ μ la Q ↔ qEx d 54 20 (.int x :: st) [l0, .int x, l2] σ μ la Q := (qEx_eq (i := .iload_n 1) rfl).trans Iff.rfl
theorem x54_20 {x y : Int32} : qEx d 54 20 (.int y :: .int x :: st) ls σ μ la Q ↔ (if x < y then qEx d 54 25 st ls σ μ la Q else qEx d 54 23 st ls σ μ la Q) := (qEx_eq (i := .if_icmp .lt 5) rfl).trans qExA_ite
theorem x54_23  : qEx d 54 23 st ls σ μ la Q ↔ qEx d 54 24 (.int (-1) :: st) ls σ μ la Q := (qEx_eq (i := .iconst (-1)) rfl).trans Iff.rfl
theorem x54_24 {x : Int32} : qEx d 54 24 [.int x] ls σ μ la Q ↔ Q (some (.int x)) σ μ la := (qEx_eq (i := .ireturn) rfl).trans Iff.rfl
theorem x54_25 {x : Nat} {l1 l2 : Value} : qEx d 54 25 st [.ref x, l1, l2] σ μ la Q ↔ qEx d 54 26 (.ref x :: st) [.ref x, l1, l2] σ μ la Q := (qEx_eq (i := .aload_n 0) rfl).trans Iff.rfl
theorem x54_26 {x : Nat} : qEx d 54 26 (.ref x :: st) ls σ μ la Q ↔ qEx d 54 27 (.ref x :: .ref x :: st) ls σ μ la Q := (qEx_eq (i := .dup) rfl).trans Iff.rfl
theorem x54_27 {a : Nat} : qEx d 54 27 (.ref a :: st) ls σ μ la Q ↔ (qOk σ a 3 = true ∧ qEx d 54 30 (.int (μ a 3) :: st) ls σ μ la Q) := (qEx_eq (i := .getfield 26) rfl).trans qExA_chk
theorem x54_30  : qEx d 54 30 st ls σ μ la Q ↔ qEx d 54 31 (.int 1 :: st) ls σ μ la Q := (qEx_eq (i := .iconst 1) rfl).trans Iff.rfl
theorem x54_31 {x y : Int32} : qEx d 54 31 (.int y :: .int x :: st) ls σ μ la Q ↔ qEx d 54 32 (.int (x + y) :: st) ls σ μ la Q := (qEx_eq (i := .iadd) rfl).trans Iff.rfl
theorem x54_32 {x : Int32} {a : Nat} : qEx d 54 32 (.int x :: .ref a :: st) ls σ μ la Q ↔ (qOk σ a 3 = true ∧ qEx d 54 35 st ls σ (qset μ a 3 x) la Q) := (qEx_eq (i := .putfield 26) rfl).trans qExA_chk
theorem x54_35 {x : Int32} {l0 l1 : Value} : qEx d 54 35 st [l0, l1, .int x] σ μ la Q ↔ qEx d 54 36 (.int x :: st) [l0, l1, .int x] σ μ la Q := (qEx_eq (i := .iload_n 2) rfl).trans Iff.rfl
theorem x54_36 {x : Int32} : qEx d 54 36 [.int x] ls σ μ la Q ↔ Q (some (.int x)) σ μ la := (qEx_eq (i := .ireturn) rfl).trans Iff.rfl
theorem x55_0  : qEx d 55 0 st ls σ μ la Q ↔ qEx d 55 1 (.int 0 :: st) ls σ μ la Q := (qEx_eq (i := .iconst 0) rfl).trans Iff.rfl
theorem x55_1 {x : Int32} {l0 l1 l2 : Value} : qEx d 55 1 (.int x :: st) [l0, l1, l2] σ μ la Q ↔ qEx d 55 2 st [l0, l1, .int x] σ μ la Q := (qEx_eq (i := .istore_n 2) rfl).trans Iff.rfl
theorem x55_2 {x : Int32} {l0 l1 : Value} : qEx d 55 2 st [l0, l1, .int x] σ μ la Q ↔ qEx d 55 3 (.int x :: st) [l0, l1, .int x] σ μ la Q := (qEx_eq (i := .iload_n 2) rfl).trans Iff.rfl
theorem x55_3 {x : Nat} {l0 l2 : Value} : qEx d 55 3 st [l0, .ref x, l2] σ μ la Q ↔ qEx d 55 4 (.ref x :: st) [l0, .ref x, l2] σ μ la Q := (qEx_eq (i := .aload_n 1) rfl).trans Iff.rfl
theorem x55_4 {a : Nat} {z0 : Int32} : qEx (d + 1) 55 4 [.ref a, .int z0] ls σ μ la Q ↔ ((qSh a).1 = 30 ∧ qEx d 203 0 [] [.ref a] σ μ la fun r σ' μ' la' => qEx (d + 1) 55 7 (r.toList ++ [.int z0]) ls σ' μ' la' Q) := ((qEx_eq (i := .invokevirtual 112) rfl).trans qExA_chk).trans (qAndD)
theorem x55_7 {x y : Int32} : qEx d 55 7 (.int y :: .int x :: st) ls σ μ la Q ↔ (if y ≤ x then qEx d 55 30 st ls σ μ la Q else qEx d 55 10 st ls σ μ la Q) := (qEx_eq (i := .if_icmp .ge 23) rfl).trans qExA_ite
theorem x55_10 {x : Nat} {l1 l2 : Value} : qEx d 55 10 st [.ref x, l1, l2] σ μ la Q ↔ qEx d 55 11 (.ref x :: st) [.ref x, l1, l2] σ μ la Q := (qEx_eq (i := .aload_n 0) rfl).trans Iff.rfl
theorem x55_11 {x : Nat} {l0 l2 : Value} : qEx d 55 11 st [l0, .ref x, l2] σ μ la Q ↔ qEx d 55 12 (.ref x :: st) [l0, .ref x, l2] σ μ la Q := (qEx_eq (i := .aload_n 1) rfl).trans Iff.rfl
theorem x55_12 {x : Int32} {l0 l1 : Value} : qEx d 55 12 st [l0, l1, .int x] σ μ la Q ↔ qEx d 55 13 (.int x :: st) [l0, l1, .int x] σ μ la Q := (qEx_eq (i := .iload_n 2) rfl).trans Iff.rfl
theorem x55_13 {y0 : Int32} {a : Nat} {z0 : Nat} : qEx (d + 1) 55 13 [.int y0, .ref a, .ref z0] ls σ μ la Q ↔ ((qSh a).1 = 30 ∧ qEx d 204 0 [] [.ref a, .int y0] σ μ la fun r σ' μ' la' => qEx (d + 1) 55 16 (r.toList ++ [.ref z0]) ls σ' μ' la' Q) := ((qEx_eq (i := .invokevirtual 116) rfl).trans qExA_chk).trans (qAndD)
theorem x55_16 {y0 : Int32} {a : Nat} : qEx (d + 1) 55 16 [.int y0, .ref a] ls σ μ la Q ↔ (qOk σ a 3 = true ∧ qEx d 56 0 [] [.ref a, .int y0] σ μ la fun r σ' μ' la' => qEx (d + 1) 55 19 (r.toList ++ []) ls σ' μ' la' Q) := (qEx_eq (i := .invokevirtual 42) rfl).trans qExA_chk
theorem x55_19 {x : Int32} : qEx d 55 19 (.int x :: st) ls σ μ la Q ↔ (if x = 0 then qEx d 55 24 st ls σ μ la Q else qEx d 55 22 st ls σ μ la Q) := (qEx_eq (i := .ifCond .eq 5) rfl).trans qExA_ite
theorem x55_22 {x : Int32} {l0 l1 : Value} : qEx d 55 22 st [l0, l1, .int x] σ μ la Q ↔ qEx d 55 23 (.int x :: st) [l0, l1, .int x] σ μ la Q := (qEx_eq (i := .iload_n 2) rfl).trans Iff.rfl
theorem x55_23 {x : Int32} : qEx d 55 23 [.int x] ls σ μ la Q ↔ Q (some (.int x)) σ μ la := (qEx_eq (i := .ireturn) rfl).trans Iff.rfl
theorem x55_24 {x : Int32} {l0 l1 : Value} : qEx d 55 24 st [l0, l1, .int x] σ μ la Q ↔ qEx d 55 27 st [l0, l1, .int (x + 1)] σ μ la Q := (qEx_eq (i := .iinc 2 1) rfl).trans Iff.rfl
theorem x55_27  : qEx d 55 27 st ls σ μ la Q ↔ qEx d 55 2 st ls σ μ la Q := (qEx_eq (i := .goto (-25)) rfl).trans Iff.rfl
theorem x55_30  : qEx d 55 30 st ls σ μ la Q ↔ qEx d 55 31 (.int (-1) :: st) ls σ μ la Q := (qEx_eq (i := .iconst (-1)) rfl).trans Iff.rfl
theorem x55_31 {x : Int32} : qEx d 55 31 [.int x] ls σ μ la Q ↔ Q (some (.int x)) σ μ la := (qEx_eq (i := .ireturn) rfl).trans Iff.rfl
theorem x56_0 {x : Nat} {l1 : Value} : qEx d 56 0 st [.ref x, l1] σ μ la Q ↔ qEx d 56 1 (.ref x :: st) [.ref x, l1] σ μ la Q := (qEx_eq (i := .aload_n 0) rfl).trans Iff.rfl
theorem x56_1 {a : Nat} : qEx (d + 1) 56 1 [.ref a] ls σ μ la Q ↔ (qOk σ a 3 = true ∧ qEx d 57 0 [] [.ref a] σ μ la fun r σ' μ' la' => qEx (d + 1) 56 4 (r.toList ++ []) ls σ' μ' la' Q) := (qEx_eq (i := .invokevirtual 109) rfl).trans qExA_chk
theorem x56_4 {x : Int32} {l0 : Value} : qEx d 56 4 st [l0, .int x] σ μ la Q ↔ qEx d 56 5 (.int x :: st) [l0, .int x] σ μ la Q := (qEx_eq (i := .iload_n 1) rfl).trans Iff.rfl
theorem x56_5 {x y : Int32} : qEx d 56 5 (.int y :: .int x :: st) ls σ μ la Q ↔ (if x = y then qEx d 56 10 st ls σ μ la Q else qEx d 56 8 st ls σ μ la Q) := (qEx_eq (i := .if_icmp .eq 5) rfl).trans qExA_ite
theorem x56_8  : qEx d 56 8 st ls σ μ la Q ↔ qEx d 56 9 (.int 0 :: st) ls σ μ la Q := (qEx_eq (i := .iconst 0) rfl).trans Iff.rfl
theorem x56_9 {x : Int32} : qEx d 56 9 [.int x] ls σ μ la Q ↔ ((x = 0 ∨ x = 1) ∧ Q (some (.int x)) σ μ la) := (qEx_eq (i := .ireturn) rfl).trans qExA_chk
theorem x56_10 {x : Nat} {l1 : Value} : qEx d 56 10 st [.ref x, l1] σ μ la Q ↔ qEx d 56 11 (.ref x :: st) [.ref x, l1] σ μ la Q := (qEx_eq (i := .aload_n 0) rfl).trans Iff.rfl
theorem x56_11 {x : Nat} : qEx d 56 11 (.ref x :: st) ls σ μ la Q ↔ qEx d 56 12 (.ref x :: .ref x :: st) ls σ μ la Q := (qEx_eq (i := .dup) rfl).trans Iff.rfl
theorem x56_12 {a : Nat} : qEx d 56 12 (.ref a :: st) ls σ μ la Q ↔ (qOk σ a 3 = true ∧ qEx d 56 15 (.int (μ a 3) :: st) ls σ μ la Q) := (qEx_eq (i := .getfield 26) rfl).trans qExA_chk
theorem x56_15  : qEx d 56 15 st ls σ μ la Q ↔ qEx d 56 16 (.int 1 :: st) ls σ μ la Q := (qEx_eq (i := .iconst 1) rfl).trans Iff.rfl
theorem x56_16 {x y : Int32} : qEx d 56 16 (.int y :: .int x :: st) ls σ μ la Q ↔ qEx d 56 17 (.int (x + y) :: st) ls σ μ la Q := (qEx_eq (i := .iadd) rfl).trans Iff.rfl
theorem x56_17 {x : Int32} {a : Nat} : qEx d 56 17 (.int x :: .ref a :: st) ls σ μ la Q ↔ (qOk σ a 3 = true ∧ qEx d 56 20 st ls σ (qset μ a 3 x) la Q) := (qEx_eq (i := .putfield 26) rfl).trans qExA_chk
theorem x56_20  : qEx d 56 20 st ls σ μ la Q ↔ qEx d 56 21 (.int 1 :: st) ls σ μ la Q := (qEx_eq (i := .iconst 1) rfl).trans Iff.rfl
theorem x56_21 {x : Int32} : qEx d 56 21 [.int x] ls σ μ la Q ↔ ((x = 0 ∨ x = 1) ∧ Q (some (.int x)) σ μ la) := (qEx_eq (i := .ireturn) rfl).trans qExA_chk
theorem x57_0 {x : Nat} : qEx d 57 0 st [.ref x] σ μ la Q ↔ qEx d 57 1 (.ref x :: st) [.ref x] σ μ la Q := (qEx_eq (i := .aload_n 0) rfl).trans Iff.rfl
theorem x57_1 {a : Nat} : qEx d 57 1 (.ref a :: st) ls σ μ la Q ↔ (qOk σ a 3 = true ∧ qEx d 57 4 (.int (μ a 3) :: st) ls σ μ la Q) := (qEx_eq (i := .getfield 26) rfl).trans qExA_chk
theorem x57_4 {x : Nat} : qEx d 57 4 st [.ref x] σ μ la Q ↔ qEx d 57 5 (.ref x :: st) [.ref x] σ μ la Q := (qEx_eq (i := .aload_n 0) rfl).trans Iff.rfl
theorem x57_5 {a : Nat} : qEx d 57 5 (.ref a :: st) ls σ μ la Q ↔ (qOk σ a 3 = true ∧ qEx d 57 8 (.int (μ a 2) :: st) ls σ μ la Q) := (qEx_eq (i := .getfield 22) rfl).trans qExA_chk
theorem x57_8 {x y : Int32} : qEx d 57 8 (.int y :: .int x :: st) ls σ μ la Q ↔ (if y ≤ x then qEx d 57 23 st ls σ μ la Q else qEx d 57 11 st ls σ μ la Q) := (qEx_eq (i := .if_icmp .ge 15) rfl).trans qExA_ite
theorem x57_11 {x : Nat} : qEx d 57 11 st [.ref x] σ μ la Q ↔ qEx d 57 12 (.ref x :: st) [.ref x] σ μ la Q := (qEx_eq (i := .aload_n 0) rfl).trans Iff.rfl
theorem x57_12 {a : Nat} : qEx d 57 12 (.ref a :: st) ls σ μ la Q ↔ (qOk σ a 3 = true ∧ qEx d 57 15 (qrf (σ.2 a 0) :: st) ls σ μ la Q) := (qEx_eq (i := .getfield 9) rfl).trans qExA_chk
theorem x57_15 {x : Nat} : qEx d 57 15 st [.ref x] σ μ la Q ↔ qEx d 57 16 (.ref x :: st) [.ref x] σ μ la Q := (qEx_eq (i := .aload_n 0) rfl).trans Iff.rfl
theorem x57_16 {a : Nat} : qEx d 57 16 (.ref a :: st) ls σ μ la Q ↔ (qOk σ a 3 = true ∧ qEx d 57 19 (.int (μ a 3) :: st) ls σ μ la Q) := (qEx_eq (i := .getfield 26) rfl).trans qExA_chk
theorem x57_19 {x : Int32} {a : Nat} : qEx d 57 19 (.int x :: .ref a :: st) ls σ μ la Q ↔ (qIn x (qIld σ μ a) = true ∧ qEx d 57 20 (.int (μ a x.toNatClampNeg) :: st) ls σ μ la Q) := (qEx_eq (i := .iaload) rfl).trans qExA_chk
theorem x57_20  : qEx d 57 20 st ls σ μ la Q ↔ qEx d 57 24 st ls σ μ la Q := (qEx_eq (i := .goto 4) rfl).trans Iff.rfl
theorem x57_23  : qEx d 57 23 st ls σ μ la Q ↔ qEx d 57 24 (.int (-1) :: st) ls σ μ la Q := (qEx_eq (i := .iconst (-1)) rfl).trans Iff.rfl
theorem x57_24 {x : Int32} : qEx d 57 24 [.int x] ls σ μ la Q ↔ Q (some (.int x)) σ μ la := (qEx_eq (i := .ireturn) rfl).trans Iff.rfl
theorem x58_0 {x : Nat} : qEx d 58 0 st [.ref x] σ μ la Q ↔ qEx d 58 1 (.ref x :: st) [.ref x] σ μ la Q := (qEx_eq (i := .aload_n 0) rfl).trans Iff.rfl
theorem x58_1 {a : Nat} : qEx d 58 1 [.ref a] ls σ μ la Q ↔ qEx d 58 4 [] ls σ μ la Q := (qEx_eq (i := .invokespecial 3) rfl).trans Iff.rfl
theorem x58_4 {x : Nat} : qEx d 58 4 st [.ref x] σ μ la Q ↔ qEx d 58 5 (.ref x :: st) [.ref x] σ μ la Q := (qEx_eq (i := .aload_n 0) rfl).trans Iff.rfl
theorem x58_5  : qEx d 58 5 st ls σ μ la Q ↔ qEx d 58 7 (.int 64 :: st) ls σ μ la Q := (qEx_eq (i := .bipush 64) rfl).trans Iff.rfl
theorem x58_7 {x : Int32} : qEx d 58 7 (.int x :: st) ls σ μ la Q ↔ ((0 ≤ x ∧ qSh σ.1 = (10, x.toNatClampNeg) ∧ x.toNatClampNeg ≤ 5000 ∧ σ.1 < 1000) ∧ qEx d 58 9 (.ref σ.1 :: st) ls (σ.1 + 1, σ.2) (qclr μ σ.1 0) (qclr la σ.1 0) Q) := ((qEx_eq (i := .newarray .int) rfl).trans qExA_chk).trans (qAndN (by decide))
theorem x58_9 {a b : Nat} : qEx d 58 9 (.ref b :: .ref a :: st) ls σ μ la Q ↔ (qOk σ a 4 = true ∧ qEx d 58 12 st ls (σ.1, qsetR σ.2 a 6 (some b)) μ la Q) := ((qEx_eq (i := .putfield 9) rfl).trans qExA_chk).trans (qAndL ⟨by decide +kernel, by decide +kernel⟩)
theorem x58_12 {x : Nat} : qEx d 58 12 st [.ref x] σ μ la Q ↔ qEx d 58 13 (.ref x :: st) [.ref x] σ μ la Q := (qEx_eq (i := .aload_n 0) rfl).trans Iff.rfl
theorem x58_13  : qEx d 58 13 st ls σ μ la Q ↔ qEx d 58 15 (.int 6 :: st) ls σ μ la Q := (qEx_eq (i := .bipush 6) rfl).trans Iff.rfl
theorem x58_15 {x : Int32} : qEx d 58 15 (.int x :: st) ls σ μ la Q ↔ ((0 ≤ x ∧ qSh σ.1 = (10, x.toNatClampNeg) ∧ x.toNatClampNeg ≤ 5000 ∧ σ.1 < 1000) ∧ qEx d 58 17 (.ref σ.1 :: st) ls (σ.1 + 1, σ.2) (qclr μ σ.1 0) (qclr la σ.1 0) Q) := ((qEx_eq (i := .newarray .int) rfl).trans qExA_chk).trans (qAndN (by decide))
theorem x58_17 {a b : Nat} : qEx d 58 17 (.ref b :: .ref a :: st) ls σ μ la Q ↔ (qOk σ a 4 = true ∧ qEx d 58 20 st ls (σ.1, qsetR σ.2 a 7 (some b)) μ la Q) := ((qEx_eq (i := .putfield 15) rfl).trans qExA_chk).trans (qAndL ⟨by decide +kernel, by decide +kernel⟩)
theorem x58_20 {x : Nat} : qEx d 58 20 st [.ref x] σ μ la Q ↔ qEx d 58 21 (.ref x :: st) [.ref x] σ μ la Q := (qEx_eq (i := .aload_n 0) rfl).trans Iff.rfl
theorem x58_21  : qEx d 58 21 st ls σ μ la Q ↔ qEx d 58 23 (.int 6 :: st) ls σ μ la Q := (qEx_eq (i := .bipush 6) rfl).trans Iff.rfl
theorem x58_23 {x : Int32} : qEx d 58 23 (.int x :: st) ls σ μ la Q ↔ ((0 ≤ x ∧ qSh σ.1 = (10, x.toNatClampNeg) ∧ x.toNatClampNeg ≤ 5000 ∧ σ.1 < 1000) ∧ qEx d 58 25 (.ref σ.1 :: st) ls (σ.1 + 1, σ.2) (qclr μ σ.1 0) (qclr la σ.1 0) Q) := ((qEx_eq (i := .newarray .int) rfl).trans qExA_chk).trans (qAndN (by decide))
theorem x58_25 {a b : Nat} : qEx d 58 25 (.ref b :: .ref a :: st) ls σ μ la Q ↔ (qOk σ a 4 = true ∧ qEx d 58 28 st ls (σ.1, qsetR σ.2 a 8 (some b)) μ la Q) := ((qEx_eq (i := .putfield 18) rfl).trans qExA_chk).trans (qAndL ⟨by decide +kernel, by decide +kernel⟩)
theorem x58_28 {x : Nat} : qEx d 58 28 st [.ref x] σ μ la Q ↔ qEx d 58 29 (.ref x :: st) [.ref x] σ μ la Q := (qEx_eq (i := .aload_n 0) rfl).trans Iff.rfl
theorem x58_29  : qEx d 58 29 st ls σ μ la Q ↔ qEx d 58 31 (.int 6 :: st) ls σ μ la Q := (qEx_eq (i := .bipush 6) rfl).trans Iff.rfl
theorem x58_31 {x : Int32} : qEx d 58 31 (.int x :: st) ls σ μ la Q ↔ ((0 ≤ x ∧ qSh σ.1 = (10, x.toNatClampNeg) ∧ x.toNatClampNeg ≤ 5000 ∧ σ.1 < 1000) ∧ qEx d 58 33 (.ref σ.1 :: st) ls (σ.1 + 1, σ.2) (qclr μ σ.1 0) (qclr la σ.1 0) Q) := ((qEx_eq (i := .newarray .int) rfl).trans qExA_chk).trans (qAndN (by decide))
theorem x58_33 {a b : Nat} : qEx d 58 33 (.ref b :: .ref a :: st) ls σ μ la Q ↔ (qOk σ a 4 = true ∧ qEx d 58 36 st ls (σ.1, qsetR σ.2 a 9 (some b)) μ la Q) := ((qEx_eq (i := .putfield 21) rfl).trans qExA_chk).trans (qAndL ⟨by decide +kernel, by decide +kernel⟩)
theorem x58_36 {x : Nat} : qEx d 58 36 st [.ref x] σ μ la Q ↔ qEx d 58 37 (.ref x :: st) [.ref x] σ μ la Q := (qEx_eq (i := .aload_n 0) rfl).trans Iff.rfl
theorem x58_37  : qEx d 58 37 st ls σ μ la Q ↔ qEx d 58 39 (.int 6 :: st) ls σ μ la Q := (qEx_eq (i := .bipush 6) rfl).trans Iff.rfl
theorem x58_39 {x : Int32} : qEx d 58 39 (.int x :: st) ls σ μ la Q ↔ ((0 ≤ x ∧ qSh σ.1 = (10, x.toNatClampNeg) ∧ x.toNatClampNeg ≤ 5000 ∧ σ.1 < 1000) ∧ qEx d 58 41 (.ref σ.1 :: st) ls (σ.1 + 1, σ.2) (qclr μ σ.1 0) (qclr la σ.1 0) Q) := ((qEx_eq (i := .newarray .int) rfl).trans qExA_chk).trans (qAndN (by decide))
theorem x58_41 {a b : Nat} : qEx d 58 41 (.ref b :: .ref a :: st) ls σ μ la Q ↔ (qOk σ a 4 = true ∧ qEx d 58 44 st ls (σ.1, qsetR σ.2 a 10 (some b)) μ la Q) := ((qEx_eq (i := .putfield 24) rfl).trans qExA_chk).trans (qAndL ⟨by decide +kernel, by decide +kernel⟩)
theorem x58_44 {x : Nat} : qEx d 58 44 st [.ref x] σ μ la Q ↔ qEx d 58 45 (.ref x :: st) [.ref x] σ μ la Q := (qEx_eq (i := .aload_n 0) rfl).trans Iff.rfl
theorem x58_45  : qEx d 58 45 st ls σ μ la Q ↔ qEx d 58 47 (.int 6 :: st) ls σ μ la Q := (qEx_eq (i := .bipush 6) rfl).trans Iff.rfl
theorem x58_47 {x : Int32} : qEx d 58 47 (.int x :: st) ls σ μ la Q ↔ ((0 ≤ x ∧ qSh σ.1 = (10, x.toNatClampNeg) ∧ x.toNatClampNeg ≤ 5000 ∧ σ.1 < 1000) ∧ qEx d 58 49 (.ref σ.1 :: st) ls (σ.1 + 1, σ.2) (qclr μ σ.1 0) (qclr la σ.1 0) Q) := ((qEx_eq (i := .newarray .int) rfl).trans qExA_chk).trans (qAndN (by decide))
theorem x58_49 {a b : Nat} : qEx d 58 49 (.ref b :: .ref a :: st) ls σ μ la Q ↔ (qOk σ a 4 = true ∧ qEx d 58 52 st ls (σ.1, qsetR σ.2 a 11 (some b)) μ la Q) := ((qEx_eq (i := .putfield 27) rfl).trans qExA_chk).trans (qAndL ⟨by decide +kernel, by decide +kernel⟩)
theorem x58_52 {x : Nat} : qEx d 58 52 st [.ref x] σ μ la Q ↔ qEx d 58 53 (.ref x :: st) [.ref x] σ μ la Q := (qEx_eq (i := .aload_n 0) rfl).trans Iff.rfl
theorem x58_53  : qEx d 58 53 st ls σ μ la Q ↔ qEx d 58 55 (.int 24 :: st) ls σ μ la Q := (qEx_eq (i := .bipush 24) rfl).trans Iff.rfl
theorem x58_55 {x : Int32} : qEx d 58 55 (.int x :: st) ls σ μ la Q ↔ ((0 ≤ x ∧ qSh σ.1 = (10, x.toNatClampNeg) ∧ x.toNatClampNeg ≤ 5000 ∧ σ.1 < 1000) ∧ qEx d 58 57 (.ref σ.1 :: st) ls (σ.1 + 1, σ.2) (qclr μ σ.1 0) (qclr la σ.1 0) Q) := ((qEx_eq (i := .newarray .int) rfl).trans qExA_chk).trans (qAndN (by decide))
theorem x58_57 {a b : Nat} : qEx d 58 57 (.ref b :: .ref a :: st) ls σ μ la Q ↔ (qOk σ a 4 = true ∧ qEx d 58 60 st ls (σ.1, qsetR σ.2 a 12 (some b)) μ la Q) := ((qEx_eq (i := .putfield 30) rfl).trans qExA_chk).trans (qAndL ⟨by decide +kernel, by decide +kernel⟩)
theorem x58_60  : qEx d 58 60 [] ls σ μ la Q ↔ Q none σ μ la := (qEx_eq (i := .return_) rfl).trans Iff.rfl
theorem x59_0 {x : Nat} {l1 : Value} : qEx d 59 0 st [.ref x, l1] σ μ la Q ↔ qEx d 59 1 (.ref x :: st) [.ref x, l1] σ μ la Q := (qEx_eq (i := .aload_n 0) rfl).trans Iff.rfl
theorem x59_1 {x : Nat} {l0 : Value} : qEx d 59 1 st [l0, .ref x] σ μ la Q ↔ qEx d 59 2 (.ref x :: st) [l0, .ref x] σ μ la Q := (qEx_eq (i := .aload_n 1) rfl).trans Iff.rfl
theorem x59_2 {a : Nat} : qEx d 59 2 (.ref a :: st) ls σ μ la Q ↔ (qOk σ a 4 = true ∧ qEx d 59 5 (.int (μ a 0) :: st) ls σ μ la Q) := (qEx_eq (i := .getfield 33) rfl).trans qExA_chk
theorem x59_5 {x : Int32} {a : Nat} : qEx d 59 5 (.int x :: .ref a :: st) ls σ μ la Q ↔ (qOk σ a 4 = true ∧ qEx d 59 8 st ls σ (qset μ a 0 x) la Q) := (qEx_eq (i := .putfield 33) rfl).trans qExA_chk
theorem x59_8 {x : Nat} {l1 : Value} : qEx d 59 8 st [.ref x, l1] σ μ la Q ↔ qEx d 59 9 (.ref x :: st) [.ref x, l1] σ μ la Q := (qEx_eq (i := .aload_n 0) rfl).trans Iff.rfl
theorem x59_9 {x : Nat} {l0 : Value} : qEx d 59 9 st [l0, .ref x] σ μ la Q ↔ qEx d 59 10 (.ref x :: st) [l0, .ref x] σ μ la Q := (qEx_eq (i := .aload_n 1) rfl).trans Iff.rfl
theorem x59_10 {a : Nat} : qEx d 59 10 (.ref a :: st) ls σ μ la Q ↔ (qOk σ a 4 = true ∧ qEx d 59 13 (.int (μ a 1) :: st) ls σ μ la Q) := (qEx_eq (i := .getfield 37) rfl).trans qExA_chk
theorem x59_13 {x : Int32} {a : Nat} : qEx d 59 13 (.int x :: .ref a :: st) ls σ μ la Q ↔ (qOk σ a 4 = true ∧ qEx d 59 16 st ls σ (qset μ a 1 x) la Q) := (qEx_eq (i := .putfield 37) rfl).trans qExA_chk
theorem x59_16 {x : Nat} {l1 : Value} : qEx d 59 16 st [.ref x, l1] σ μ la Q ↔ qEx d 59 17 (.ref x :: st) [.ref x, l1] σ μ la Q := (qEx_eq (i := .aload_n 0) rfl).trans Iff.rfl
theorem x59_17 {x : Nat} {l0 : Value} : qEx d 59 17 st [l0, .ref x] σ μ la Q ↔ qEx d 59 18 (.ref x :: st) [l0, .ref x] σ μ la Q := (qEx_eq (i := .aload_n 1) rfl).trans Iff.rfl
theorem x59_18 {a : Nat} : qEx d 59 18 (.ref a :: st) ls σ μ la Q ↔ (qOk σ a 4 = true ∧ qEx d 59 21 (.int (μ a 2) :: st) ls σ μ la Q) := (qEx_eq (i := .getfield 40) rfl).trans qExA_chk
theorem x59_21 {x : Int32} {a : Nat} : qEx d 59 21 (.int x :: .ref a :: st) ls σ μ la Q ↔ (qOk σ a 4 = true ∧ qEx d 59 24 st ls σ (qset μ a 2 x) la Q) := (qEx_eq (i := .putfield 40) rfl).trans qExA_chk
theorem x59_24 {x : Nat} {l1 : Value} : qEx d 59 24 st [.ref x, l1] σ μ la Q ↔ qEx d 59 25 (.ref x :: st) [.ref x, l1] σ μ la Q := (qEx_eq (i := .aload_n 0) rfl).trans Iff.rfl
theorem x59_25 {x : Nat} {l0 : Value} : qEx d 59 25 st [l0, .ref x] σ μ la Q ↔ qEx d 59 26 (.ref x :: st) [l0, .ref x] σ μ la Q := (qEx_eq (i := .aload_n 1) rfl).trans Iff.rfl
theorem x59_26 {a : Nat} : qEx d 59 26 (.ref a :: st) ls σ μ la Q ↔ (qOk σ a 4 = true ∧ qEx d 59 29 (.int (μ a 3) :: st) ls σ μ la Q) := (qEx_eq (i := .getfield 43) rfl).trans qExA_chk
theorem x59_29 {x : Int32} {a : Nat} : qEx d 59 29 (.int x :: .ref a :: st) ls σ μ la Q ↔ (qOk σ a 4 = true ∧ qEx d 59 32 st ls σ (qset μ a 3 x) la Q) := (qEx_eq (i := .putfield 43) rfl).trans qExA_chk
theorem x59_32 {x : Nat} {l1 : Value} : qEx d 59 32 st [.ref x, l1] σ μ la Q ↔ qEx d 59 33 (.ref x :: st) [.ref x, l1] σ μ la Q := (qEx_eq (i := .aload_n 0) rfl).trans Iff.rfl
theorem x59_33 {x : Nat} {l0 : Value} : qEx d 59 33 st [l0, .ref x] σ μ la Q ↔ qEx d 59 34 (.ref x :: st) [l0, .ref x] σ μ la Q := (qEx_eq (i := .aload_n 1) rfl).trans Iff.rfl
theorem x59_34 {a : Nat} : qEx d 59 34 (.ref a :: st) ls σ μ la Q ↔ (qOk σ a 4 = true ∧ qEx d 59 37 (.int (μ a 4) :: st) ls σ μ la Q) := (qEx_eq (i := .getfield 46) rfl).trans qExA_chk
theorem x59_37 {x : Int32} {a : Nat} : qEx d 59 37 (.int x :: .ref a :: st) ls σ μ la Q ↔ (qOk σ a 4 = true ∧ qEx d 59 40 st ls σ (qset μ a 4 x) la Q) := (qEx_eq (i := .putfield 46) rfl).trans qExA_chk
theorem x59_40 {x : Nat} {l1 : Value} : qEx d 59 40 st [.ref x, l1] σ μ la Q ↔ qEx d 59 41 (.ref x :: st) [.ref x, l1] σ μ la Q := (qEx_eq (i := .aload_n 0) rfl).trans Iff.rfl
theorem x59_41 {x : Nat} {l0 : Value} : qEx d 59 41 st [l0, .ref x] σ μ la Q ↔ qEx d 59 42 (.ref x :: st) [l0, .ref x] σ μ la Q := (qEx_eq (i := .aload_n 1) rfl).trans Iff.rfl
theorem x59_42 {a : Nat} : qEx d 59 42 (.ref a :: st) ls σ μ la Q ↔ (qOk σ a 4 = true ∧ qEx d 59 45 (.int (μ a 5) :: st) ls σ μ la Q) := (qEx_eq (i := .getfield 49) rfl).trans qExA_chk
theorem x59_45 {x : Int32} {a : Nat} : qEx d 59 45 (.int x :: .ref a :: st) ls σ μ la Q ↔ (qOk σ a 4 = true ∧ qEx d 59 48 st ls σ (qset μ a 5 x) la Q) := (qEx_eq (i := .putfield 49) rfl).trans qExA_chk
theorem x59_48 {x : Nat} {l0 : Value} : qEx d 59 48 st [l0, .ref x] σ μ la Q ↔ qEx d 59 49 (.ref x :: st) [l0, .ref x] σ μ la Q := (qEx_eq (i := .aload_n 1) rfl).trans Iff.rfl
theorem x59_49 {a : Nat} : qEx d 59 49 (.ref a :: st) ls σ μ la Q ↔ (qOk σ a 4 = true ∧ qEx d 59 52 (qrf (σ.2 a 6) :: st) ls σ μ la Q) := (qEx_eq (i := .getfield 9) rfl).trans qExA_chk
theorem x59_52  : qEx d 59 52 st ls σ μ la Q ↔ qEx d 59 53 (.int 0 :: st) ls σ μ la Q := (qEx_eq (i := .iconst 0) rfl).trans Iff.rfl
theorem x59_53 {x : Nat} {l1 : Value} : qEx d 59 53 st [.ref x, l1] σ μ la Q ↔ qEx d 59 54 (.ref x :: st) [.ref x, l1] σ μ la Q := (qEx_eq (i := .aload_n 0) rfl).trans Iff.rfl
theorem x59_54 {a : Nat} : qEx d 59 54 (.ref a :: st) ls σ μ la Q ↔ (qOk σ a 4 = true ∧ qEx d 59 57 (qrf (σ.2 a 6) :: st) ls σ μ la Q) := (qEx_eq (i := .getfield 9) rfl).trans qExA_chk
theorem x59_57  : qEx d 59 57 st ls σ μ la Q ↔ qEx d 59 58 (.int 0 :: st) ls σ μ la Q := (qEx_eq (i := .iconst 0) rfl).trans Iff.rfl
theorem x59_58  : qEx d 59 58 st ls σ μ la Q ↔ qEx d 59 60 (.int 64 :: st) ls σ μ la Q := (qEx_eq (i := .bipush 64) rfl).trans Iff.rfl
theorem x59_60 {n sp dp : Int32} {a a0 : Nat} : qEx d 59 60 [.int n, .int dp, .ref a, .int sp, .ref a0] ls σ μ la Q ↔ (if (0 ≤ sp ∧ 0 ≤ dp ∧ 0 ≤ n ∧ sp.toNatClampNeg + n.toNatClampNeg ≤ qLen σ 10 a0 ∧ dp.toNatClampNeg + n.toNatClampNeg ≤ qLen σ 10 a ∧ (([] : List Value).map fun v => v.category).sum ≤ 8 ∧ qOk σ a0 10 = true ∧ qOk σ a 10 = true) then qEx d 59 63 [] ls σ (qcpy μ a0 sp.toNatClampNeg a dp.toNatClampNeg n.toNatClampNeg) la Q else ((0 ≤ sp ∧ 0 ≤ dp ∧ 0 ≤ n ∧ sp.toNatClampNeg + n.toNatClampNeg ≤ qLen σ 11 a0 ∧ dp.toNatClampNeg + n.toNatClampNeg ≤ qLen σ 11 a ∧ (([] : List Value).map fun v => v.category).sum ≤ 8 ∧ qOk σ a0 11 = true ∧ qOk σ a 11 = true) ∧ qEx d 59 63 [] ls σ μ (qcpy la a0 sp.toNatClampNeg a dp.toNatClampNeg n.toNatClampNeg) Q)) := (qEx_eq (i := .invokestatic 52) rfl).trans (qExA_ite2 Iff.rfl qExA_chk)
theorem x59_63 {x : Nat} {l0 : Value} : qEx d 59 63 st [l0, .ref x] σ μ la Q ↔ qEx d 59 64 (.ref x :: st) [l0, .ref x] σ μ la Q := (qEx_eq (i := .aload_n 1) rfl).trans Iff.rfl
theorem x59_64 {a : Nat} : qEx d 59 64 (.ref a :: st) ls σ μ la Q ↔ (qOk σ a 4 = true ∧ qEx d 59 67 (qrf (σ.2 a 7) :: st) ls σ μ la Q) := (qEx_eq (i := .getfield 15) rfl).trans qExA_chk
theorem x59_67  : qEx d 59 67 st ls σ μ la Q ↔ qEx d 59 68 (.int 0 :: st) ls σ μ la Q := (qEx_eq (i := .iconst 0) rfl).trans Iff.rfl
theorem x59_68 {x : Nat} {l1 : Value} : qEx d 59 68 st [.ref x, l1] σ μ la Q ↔ qEx d 59 69 (.ref x :: st) [.ref x, l1] σ μ la Q := (qEx_eq (i := .aload_n 0) rfl).trans Iff.rfl
theorem x59_69 {a : Nat} : qEx d 59 69 (.ref a :: st) ls σ μ la Q ↔ (qOk σ a 4 = true ∧ qEx d 59 72 (qrf (σ.2 a 7) :: st) ls σ μ la Q) := (qEx_eq (i := .getfield 15) rfl).trans qExA_chk
theorem x59_72  : qEx d 59 72 st ls σ μ la Q ↔ qEx d 59 73 (.int 0 :: st) ls σ μ la Q := (qEx_eq (i := .iconst 0) rfl).trans Iff.rfl
theorem x59_73  : qEx d 59 73 st ls σ μ la Q ↔ qEx d 59 75 (.int 6 :: st) ls σ μ la Q := (qEx_eq (i := .bipush 6) rfl).trans Iff.rfl
theorem x59_75 {n sp dp : Int32} {a a0 : Nat} : qEx d 59 75 [.int n, .int dp, .ref a, .int sp, .ref a0] ls σ μ la Q ↔ (if (0 ≤ sp ∧ 0 ≤ dp ∧ 0 ≤ n ∧ sp.toNatClampNeg + n.toNatClampNeg ≤ qLen σ 10 a0 ∧ dp.toNatClampNeg + n.toNatClampNeg ≤ qLen σ 10 a ∧ (([] : List Value).map fun v => v.category).sum ≤ 8 ∧ qOk σ a0 10 = true ∧ qOk σ a 10 = true) then qEx d 59 78 [] ls σ (qcpy μ a0 sp.toNatClampNeg a dp.toNatClampNeg n.toNatClampNeg) la Q else ((0 ≤ sp ∧ 0 ≤ dp ∧ 0 ≤ n ∧ sp.toNatClampNeg + n.toNatClampNeg ≤ qLen σ 11 a0 ∧ dp.toNatClampNeg + n.toNatClampNeg ≤ qLen σ 11 a ∧ (([] : List Value).map fun v => v.category).sum ≤ 8 ∧ qOk σ a0 11 = true ∧ qOk σ a 11 = true) ∧ qEx d 59 78 [] ls σ μ (qcpy la a0 sp.toNatClampNeg a dp.toNatClampNeg n.toNatClampNeg) Q)) := (qEx_eq (i := .invokestatic 52) rfl).trans (qExA_ite2 Iff.rfl qExA_chk)
theorem x59_78 {x : Nat} {l0 : Value} : qEx d 59 78 st [l0, .ref x] σ μ la Q ↔ qEx d 59 79 (.ref x :: st) [l0, .ref x] σ μ la Q := (qEx_eq (i := .aload_n 1) rfl).trans Iff.rfl
theorem x59_79 {a : Nat} : qEx d 59 79 (.ref a :: st) ls σ μ la Q ↔ (qOk σ a 4 = true ∧ qEx d 59 82 (qrf (σ.2 a 8) :: st) ls σ μ la Q) := (qEx_eq (i := .getfield 18) rfl).trans qExA_chk
theorem x59_82  : qEx d 59 82 st ls σ μ la Q ↔ qEx d 59 83 (.int 0 :: st) ls σ μ la Q := (qEx_eq (i := .iconst 0) rfl).trans Iff.rfl
theorem x59_83 {x : Nat} {l1 : Value} : qEx d 59 83 st [.ref x, l1] σ μ la Q ↔ qEx d 59 84 (.ref x :: st) [.ref x, l1] σ μ la Q := (qEx_eq (i := .aload_n 0) rfl).trans Iff.rfl
theorem x59_84 {a : Nat} : qEx d 59 84 (.ref a :: st) ls σ μ la Q ↔ (qOk σ a 4 = true ∧ qEx d 59 87 (qrf (σ.2 a 8) :: st) ls σ μ la Q) := (qEx_eq (i := .getfield 18) rfl).trans qExA_chk
theorem x59_87  : qEx d 59 87 st ls σ μ la Q ↔ qEx d 59 88 (.int 0 :: st) ls σ μ la Q := (qEx_eq (i := .iconst 0) rfl).trans Iff.rfl
theorem x59_88  : qEx d 59 88 st ls σ μ la Q ↔ qEx d 59 90 (.int 6 :: st) ls σ μ la Q := (qEx_eq (i := .bipush 6) rfl).trans Iff.rfl
theorem x59_90 {n sp dp : Int32} {a a0 : Nat} : qEx d 59 90 [.int n, .int dp, .ref a, .int sp, .ref a0] ls σ μ la Q ↔ (if (0 ≤ sp ∧ 0 ≤ dp ∧ 0 ≤ n ∧ sp.toNatClampNeg + n.toNatClampNeg ≤ qLen σ 10 a0 ∧ dp.toNatClampNeg + n.toNatClampNeg ≤ qLen σ 10 a ∧ (([] : List Value).map fun v => v.category).sum ≤ 8 ∧ qOk σ a0 10 = true ∧ qOk σ a 10 = true) then qEx d 59 93 [] ls σ (qcpy μ a0 sp.toNatClampNeg a dp.toNatClampNeg n.toNatClampNeg) la Q else ((0 ≤ sp ∧ 0 ≤ dp ∧ 0 ≤ n ∧ sp.toNatClampNeg + n.toNatClampNeg ≤ qLen σ 11 a0 ∧ dp.toNatClampNeg + n.toNatClampNeg ≤ qLen σ 11 a ∧ (([] : List Value).map fun v => v.category).sum ≤ 8 ∧ qOk σ a0 11 = true ∧ qOk σ a 11 = true) ∧ qEx d 59 93 [] ls σ μ (qcpy la a0 sp.toNatClampNeg a dp.toNatClampNeg n.toNatClampNeg) Q)) := (qEx_eq (i := .invokestatic 52) rfl).trans (qExA_ite2 Iff.rfl qExA_chk)
theorem x59_93 {x : Nat} {l0 : Value} : qEx d 59 93 st [l0, .ref x] σ μ la Q ↔ qEx d 59 94 (.ref x :: st) [l0, .ref x] σ μ la Q := (qEx_eq (i := .aload_n 1) rfl).trans Iff.rfl
theorem x59_94 {a : Nat} : qEx d 59 94 (.ref a :: st) ls σ μ la Q ↔ (qOk σ a 4 = true ∧ qEx d 59 97 (qrf (σ.2 a 9) :: st) ls σ μ la Q) := (qEx_eq (i := .getfield 21) rfl).trans qExA_chk
theorem x59_97  : qEx d 59 97 st ls σ μ la Q ↔ qEx d 59 98 (.int 0 :: st) ls σ μ la Q := (qEx_eq (i := .iconst 0) rfl).trans Iff.rfl
theorem x59_98 {x : Nat} {l1 : Value} : qEx d 59 98 st [.ref x, l1] σ μ la Q ↔ qEx d 59 99 (.ref x :: st) [.ref x, l1] σ μ la Q := (qEx_eq (i := .aload_n 0) rfl).trans Iff.rfl
theorem x59_99 {a : Nat} : qEx d 59 99 (.ref a :: st) ls σ μ la Q ↔ (qOk σ a 4 = true ∧ qEx d 59 102 (qrf (σ.2 a 9) :: st) ls σ μ la Q) := (qEx_eq (i := .getfield 21) rfl).trans qExA_chk
theorem x59_102  : qEx d 59 102 st ls σ μ la Q ↔ qEx d 59 103 (.int 0 :: st) ls σ μ la Q := (qEx_eq (i := .iconst 0) rfl).trans Iff.rfl
theorem x59_103  : qEx d 59 103 st ls σ μ la Q ↔ qEx d 59 105 (.int 6 :: st) ls σ μ la Q := (qEx_eq (i := .bipush 6) rfl).trans Iff.rfl
theorem x59_105 {n sp dp : Int32} {a a0 : Nat} : qEx d 59 105 [.int n, .int dp, .ref a, .int sp, .ref a0] ls σ μ la Q ↔ (if (0 ≤ sp ∧ 0 ≤ dp ∧ 0 ≤ n ∧ sp.toNatClampNeg + n.toNatClampNeg ≤ qLen σ 10 a0 ∧ dp.toNatClampNeg + n.toNatClampNeg ≤ qLen σ 10 a ∧ (([] : List Value).map fun v => v.category).sum ≤ 8 ∧ qOk σ a0 10 = true ∧ qOk σ a 10 = true) then qEx d 59 108 [] ls σ (qcpy μ a0 sp.toNatClampNeg a dp.toNatClampNeg n.toNatClampNeg) la Q else ((0 ≤ sp ∧ 0 ≤ dp ∧ 0 ≤ n ∧ sp.toNatClampNeg + n.toNatClampNeg ≤ qLen σ 11 a0 ∧ dp.toNatClampNeg + n.toNatClampNeg ≤ qLen σ 11 a ∧ (([] : List Value).map fun v => v.category).sum ≤ 8 ∧ qOk σ a0 11 = true ∧ qOk σ a 11 = true) ∧ qEx d 59 108 [] ls σ μ (qcpy la a0 sp.toNatClampNeg a dp.toNatClampNeg n.toNatClampNeg) Q)) := (qEx_eq (i := .invokestatic 52) rfl).trans (qExA_ite2 Iff.rfl qExA_chk)
theorem x59_108 {x : Nat} {l0 : Value} : qEx d 59 108 st [l0, .ref x] σ μ la Q ↔ qEx d 59 109 (.ref x :: st) [l0, .ref x] σ μ la Q := (qEx_eq (i := .aload_n 1) rfl).trans Iff.rfl
theorem x59_109 {a : Nat} : qEx d 59 109 (.ref a :: st) ls σ μ la Q ↔ (qOk σ a 4 = true ∧ qEx d 59 112 (qrf (σ.2 a 10) :: st) ls σ μ la Q) := (qEx_eq (i := .getfield 24) rfl).trans qExA_chk
theorem x59_112  : qEx d 59 112 st ls σ μ la Q ↔ qEx d 59 113 (.int 0 :: st) ls σ μ la Q := (qEx_eq (i := .iconst 0) rfl).trans Iff.rfl
theorem x59_113 {x : Nat} {l1 : Value} : qEx d 59 113 st [.ref x, l1] σ μ la Q ↔ qEx d 59 114 (.ref x :: st) [.ref x, l1] σ μ la Q := (qEx_eq (i := .aload_n 0) rfl).trans Iff.rfl
theorem x59_114 {a : Nat} : qEx d 59 114 (.ref a :: st) ls σ μ la Q ↔ (qOk σ a 4 = true ∧ qEx d 59 117 (qrf (σ.2 a 10) :: st) ls σ μ la Q) := (qEx_eq (i := .getfield 24) rfl).trans qExA_chk
theorem x59_117  : qEx d 59 117 st ls σ μ la Q ↔ qEx d 59 118 (.int 0 :: st) ls σ μ la Q := (qEx_eq (i := .iconst 0) rfl).trans Iff.rfl
theorem x59_118  : qEx d 59 118 st ls σ μ la Q ↔ qEx d 59 120 (.int 6 :: st) ls σ μ la Q := (qEx_eq (i := .bipush 6) rfl).trans Iff.rfl
theorem x59_120 {n sp dp : Int32} {a a0 : Nat} : qEx d 59 120 [.int n, .int dp, .ref a, .int sp, .ref a0] ls σ μ la Q ↔ (if (0 ≤ sp ∧ 0 ≤ dp ∧ 0 ≤ n ∧ sp.toNatClampNeg + n.toNatClampNeg ≤ qLen σ 10 a0 ∧ dp.toNatClampNeg + n.toNatClampNeg ≤ qLen σ 10 a ∧ (([] : List Value).map fun v => v.category).sum ≤ 8 ∧ qOk σ a0 10 = true ∧ qOk σ a 10 = true) then qEx d 59 123 [] ls σ (qcpy μ a0 sp.toNatClampNeg a dp.toNatClampNeg n.toNatClampNeg) la Q else ((0 ≤ sp ∧ 0 ≤ dp ∧ 0 ≤ n ∧ sp.toNatClampNeg + n.toNatClampNeg ≤ qLen σ 11 a0 ∧ dp.toNatClampNeg + n.toNatClampNeg ≤ qLen σ 11 a ∧ (([] : List Value).map fun v => v.category).sum ≤ 8 ∧ qOk σ a0 11 = true ∧ qOk σ a 11 = true) ∧ qEx d 59 123 [] ls σ μ (qcpy la a0 sp.toNatClampNeg a dp.toNatClampNeg n.toNatClampNeg) Q)) := (qEx_eq (i := .invokestatic 52) rfl).trans (qExA_ite2 Iff.rfl qExA_chk)
theorem x59_123 {x : Nat} {l0 : Value} : qEx d 59 123 st [l0, .ref x] σ μ la Q ↔ qEx d 59 124 (.ref x :: st) [l0, .ref x] σ μ la Q := (qEx_eq (i := .aload_n 1) rfl).trans Iff.rfl
theorem x59_124 {a : Nat} : qEx d 59 124 (.ref a :: st) ls σ μ la Q ↔ (qOk σ a 4 = true ∧ qEx d 59 127 (qrf (σ.2 a 11) :: st) ls σ μ la Q) := (qEx_eq (i := .getfield 27) rfl).trans qExA_chk
theorem x59_127  : qEx d 59 127 st ls σ μ la Q ↔ qEx d 59 128 (.int 0 :: st) ls σ μ la Q := (qEx_eq (i := .iconst 0) rfl).trans Iff.rfl
theorem x59_128 {x : Nat} {l1 : Value} : qEx d 59 128 st [.ref x, l1] σ μ la Q ↔ qEx d 59 129 (.ref x :: st) [.ref x, l1] σ μ la Q := (qEx_eq (i := .aload_n 0) rfl).trans Iff.rfl
theorem x59_129 {a : Nat} : qEx d 59 129 (.ref a :: st) ls σ μ la Q ↔ (qOk σ a 4 = true ∧ qEx d 59 132 (qrf (σ.2 a 11) :: st) ls σ μ la Q) := (qEx_eq (i := .getfield 27) rfl).trans qExA_chk
theorem x59_132  : qEx d 59 132 st ls σ μ la Q ↔ qEx d 59 133 (.int 0 :: st) ls σ μ la Q := (qEx_eq (i := .iconst 0) rfl).trans Iff.rfl
theorem x59_133  : qEx d 59 133 st ls σ μ la Q ↔ qEx d 59 135 (.int 6 :: st) ls σ μ la Q := (qEx_eq (i := .bipush 6) rfl).trans Iff.rfl
theorem x59_135 {n sp dp : Int32} {a a0 : Nat} : qEx d 59 135 [.int n, .int dp, .ref a, .int sp, .ref a0] ls σ μ la Q ↔ (if (0 ≤ sp ∧ 0 ≤ dp ∧ 0 ≤ n ∧ sp.toNatClampNeg + n.toNatClampNeg ≤ qLen σ 10 a0 ∧ dp.toNatClampNeg + n.toNatClampNeg ≤ qLen σ 10 a ∧ (([] : List Value).map fun v => v.category).sum ≤ 8 ∧ qOk σ a0 10 = true ∧ qOk σ a 10 = true) then qEx d 59 138 [] ls σ (qcpy μ a0 sp.toNatClampNeg a dp.toNatClampNeg n.toNatClampNeg) la Q else ((0 ≤ sp ∧ 0 ≤ dp ∧ 0 ≤ n ∧ sp.toNatClampNeg + n.toNatClampNeg ≤ qLen σ 11 a0 ∧ dp.toNatClampNeg + n.toNatClampNeg ≤ qLen σ 11 a ∧ (([] : List Value).map fun v => v.category).sum ≤ 8 ∧ qOk σ a0 11 = true ∧ qOk σ a 11 = true) ∧ qEx d 59 138 [] ls σ μ (qcpy la a0 sp.toNatClampNeg a dp.toNatClampNeg n.toNatClampNeg) Q)) := (qEx_eq (i := .invokestatic 52) rfl).trans (qExA_ite2 Iff.rfl qExA_chk)
theorem x59_138 {x : Nat} {l0 : Value} : qEx d 59 138 st [l0, .ref x] σ μ la Q ↔ qEx d 59 139 (.ref x :: st) [l0, .ref x] σ μ la Q := (qEx_eq (i := .aload_n 1) rfl).trans Iff.rfl
theorem x59_139 {a : Nat} : qEx d 59 139 (.ref a :: st) ls σ μ la Q ↔ (qOk σ a 4 = true ∧ qEx d 59 142 (qrf (σ.2 a 12) :: st) ls σ μ la Q) := (qEx_eq (i := .getfield 30) rfl).trans qExA_chk
theorem x59_142  : qEx d 59 142 st ls σ μ la Q ↔ qEx d 59 143 (.int 0 :: st) ls σ μ la Q := (qEx_eq (i := .iconst 0) rfl).trans Iff.rfl
theorem x59_143 {x : Nat} {l1 : Value} : qEx d 59 143 st [.ref x, l1] σ μ la Q ↔ qEx d 59 144 (.ref x :: st) [.ref x, l1] σ μ la Q := (qEx_eq (i := .aload_n 0) rfl).trans Iff.rfl
theorem x59_144 {a : Nat} : qEx d 59 144 (.ref a :: st) ls σ μ la Q ↔ (qOk σ a 4 = true ∧ qEx d 59 147 (qrf (σ.2 a 12) :: st) ls σ μ la Q) := (qEx_eq (i := .getfield 30) rfl).trans qExA_chk
theorem x59_147  : qEx d 59 147 st ls σ μ la Q ↔ qEx d 59 148 (.int 0 :: st) ls σ μ la Q := (qEx_eq (i := .iconst 0) rfl).trans Iff.rfl
theorem x59_148  : qEx d 59 148 st ls σ μ la Q ↔ qEx d 59 150 (.int 24 :: st) ls σ μ la Q := (qEx_eq (i := .bipush 24) rfl).trans Iff.rfl
theorem x59_150 {n sp dp : Int32} {a a0 : Nat} : qEx d 59 150 [.int n, .int dp, .ref a, .int sp, .ref a0] ls σ μ la Q ↔ (if (0 ≤ sp ∧ 0 ≤ dp ∧ 0 ≤ n ∧ sp.toNatClampNeg + n.toNatClampNeg ≤ qLen σ 10 a0 ∧ dp.toNatClampNeg + n.toNatClampNeg ≤ qLen σ 10 a ∧ (([] : List Value).map fun v => v.category).sum ≤ 8 ∧ qOk σ a0 10 = true ∧ qOk σ a 10 = true) then qEx d 59 153 [] ls σ (qcpy μ a0 sp.toNatClampNeg a dp.toNatClampNeg n.toNatClampNeg) la Q else ((0 ≤ sp ∧ 0 ≤ dp ∧ 0 ≤ n ∧ sp.toNatClampNeg + n.toNatClampNeg ≤ qLen σ 11 a0 ∧ dp.toNatClampNeg + n.toNatClampNeg ≤ qLen σ 11 a ∧ (([] : List Value).map fun v => v.category).sum ≤ 8 ∧ qOk σ a0 11 = true ∧ qOk σ a 11 = true) ∧ qEx d 59 153 [] ls σ μ (qcpy la a0 sp.toNatClampNeg a dp.toNatClampNeg n.toNatClampNeg) Q)) := (qEx_eq (i := .invokestatic 52) rfl).trans (qExA_ite2 Iff.rfl qExA_chk)
theorem x59_153  : qEx d 59 153 [] ls σ μ la Q ↔ Q none σ μ la := (qEx_eq (i := .return_) rfl).trans Iff.rfl
theorem x60_0 {x : Int32} {l0 : Value} : qEx d 60 0 st [l0, .int x] σ μ la Q ↔ qEx d 60 1 (.int x :: st) [l0, .int x] σ μ la Q := (qEx_eq (i := .iload_n 1) rfl).trans Iff.rfl
theorem x60_1 {x : Int32} : qEx d 60 1 (.int x :: st) ls σ μ la Q ↔ (if x < 0 then qEx d 60 16 st ls σ μ la Q else qEx d 60 4 st ls σ μ la Q) := (qEx_eq (i := .ifCond .lt 15) rfl).trans qExA_ite
theorem x60_4 {x : Int32} {l0 : Value} : qEx d 60 4 st [l0, .int x] σ μ la Q ↔ qEx d 60 5 (.int x :: st) [l0, .int x] σ μ la Q := (qEx_eq (i := .iload_n 1) rfl).trans Iff.rfl
theorem x60_5 {x : Nat} {l1 : Value} : qEx d 60 5 st [.ref x, l1] σ μ la Q ↔ qEx d 60 6 (.ref x :: st) [.ref x, l1] σ μ la Q := (qEx_eq (i := .aload_n 0) rfl).trans Iff.rfl
theorem x60_6 {a : Nat} : qEx d 60 6 (.ref a :: st) ls σ μ la Q ↔ (qOk σ a 4 = true ∧ qEx d 60 9 (.int (μ a 2) :: st) ls σ μ la Q) := (qEx_eq (i := .getfield 40) rfl).trans qExA_chk
theorem x60_9 {x y : Int32} : qEx d 60 9 (.int y :: .int x :: st) ls σ μ la Q ↔ (if y ≤ x then qEx d 60 16 st ls σ μ la Q else qEx d 60 12 st ls σ μ la Q) := (qEx_eq (i := .if_icmp .ge 7) rfl).trans qExA_ite
theorem x60_12  : qEx d 60 12 st ls σ μ la Q ↔ qEx d 60 13 (.int 1 :: st) ls σ μ la Q := (qEx_eq (i := .iconst 1) rfl).trans Iff.rfl
theorem x60_13  : qEx d 60 13 st ls σ μ la Q ↔ qEx d 60 17 st ls σ μ la Q := (qEx_eq (i := .goto 4) rfl).trans Iff.rfl
theorem x60_16  : qEx d 60 16 st ls σ μ la Q ↔ qEx d 60 17 (.int 0 :: st) ls σ μ la Q := (qEx_eq (i := .iconst 0) rfl).trans Iff.rfl
theorem x60_17 {x : Int32} : qEx d 60 17 [.int x] ls σ μ la Q ↔ ((x = 0 ∨ x = 1) ∧ Q (some (.int x)) σ μ la) := (qEx_eq (i := .ireturn) rfl).trans qExA_chk
theorem x61_0 {x : Int32} {l0 : Value} : qEx d 61 0 st [l0, .int x] σ μ la Q ↔ qEx d 61 1 (.int x :: st) [l0, .int x] σ μ la Q := (qEx_eq (i := .iload_n 1) rfl).trans Iff.rfl
theorem x61_1 {x : Int32} : qEx d 61 1 (.int x :: st) ls σ μ la Q ↔ (if x < 0 then qEx d 61 36 st ls σ μ la Q else qEx d 61 4 st ls σ μ la Q) := (qEx_eq (i := .ifCond .lt 35) rfl).trans qExA_ite
theorem x61_4 {x : Int32} {l0 : Value} : qEx d 61 4 st [l0, .int x] σ μ la Q ↔ qEx d 61 5 (.int x :: st) [l0, .int x] σ μ la Q := (qEx_eq (i := .iload_n 1) rfl).trans Iff.rfl
theorem x61_5  : qEx d 61 5 st ls σ μ la Q ↔ qEx d 61 7 (.int 64 :: st) ls σ μ la Q := (qEx_eq (i := .bipush 64) rfl).trans Iff.rfl
theorem x61_7 {x y : Int32} : qEx d 61 7 (.int y :: .int x :: st) ls σ μ la Q ↔ (if y ≤ x then qEx d 61 36 st ls σ μ la Q else qEx d 61 10 st ls σ μ la Q) := (qEx_eq (i := .if_icmp .ge 29) rfl).trans qExA_ite
theorem x61_10 {x : Int32} {l0 : Value} : qEx d 61 10 st [l0, .int x] σ μ la Q ↔ qEx d 61 11 (.int x :: st) [l0, .int x] σ μ la Q := (qEx_eq (i := .iload_n 1) rfl).trans Iff.rfl
theorem x61_11  : qEx d 61 11 st ls σ μ la Q ↔ qEx d 61 13 (.int 8 :: st) ls σ μ la Q := (qEx_eq (i := .bipush 8) rfl).trans Iff.rfl
theorem x61_13 {x y : Int32} : qEx d 61 13 (.int y :: .int x :: st) ls σ μ la Q ↔ (¬ y = 0 ∧ qEx d 61 14 (.int (x / y) :: st) ls σ μ la Q) := (qEx_eq (i := .idiv) rfl).trans qExA_chk
theorem x61_14 {x : Nat} {l1 : Value} : qEx d 61 14 st [.ref x, l1] σ μ la Q ↔ qEx d 61 15 (.ref x :: st) [.ref x, l1] σ μ la Q := (qEx_eq (i := .aload_n 0) rfl).trans Iff.rfl
theorem x61_15 {a : Nat} : qEx d 61 15 (.ref a :: st) ls σ μ la Q ↔ (qOk σ a 4 = true ∧ qEx d 61 18 (.int (μ a 1) :: st) ls σ μ la Q) := (qEx_eq (i := .getfield 37) rfl).trans qExA_chk
theorem x61_18 {x y : Int32} : qEx d 61 18 (.int y :: .int x :: st) ls σ μ la Q ↔ (if y ≤ x then qEx d 61 36 st ls σ μ la Q else qEx d 61 21 st ls σ μ la Q) := (qEx_eq (i := .if_icmp .ge 18) rfl).trans qExA_ite
theorem x61_21 {x : Int32} {l0 : Value} : qEx d 61 21 st [l0, .int x] σ μ la Q ↔ qEx d 61 22 (.int x :: st) [l0, .int x] σ μ la Q := (qEx_eq (i := .iload_n 1) rfl).trans Iff.rfl
theorem x61_22  : qEx d 61 22 st ls σ μ la Q ↔ qEx d 61 24 (.int 8 :: st) ls σ μ la Q := (qEx_eq (i := .bipush 8) rfl).trans Iff.rfl
theorem x61_24 {x y : Int32} : qEx d 61 24 (.int y :: .int x :: st) ls σ μ la Q ↔ (¬ y = 0 ∧ qEx d 61 25 (.int (x - x / y * y) :: st) ls σ μ la Q) := (qEx_eq (i := .irem) rfl).trans qExA_chk
theorem x61_25 {x : Nat} {l1 : Value} : qEx d 61 25 st [.ref x, l1] σ μ la Q ↔ qEx d 61 26 (.ref x :: st) [.ref x, l1] σ μ la Q := (qEx_eq (i := .aload_n 0) rfl).trans Iff.rfl
theorem x61_26 {a : Nat} : qEx d 61 26 (.ref a :: st) ls σ μ la Q ↔ (qOk σ a 4 = true ∧ qEx d 61 29 (.int (μ a 0) :: st) ls σ μ la Q) := (qEx_eq (i := .getfield 33) rfl).trans qExA_chk
theorem x61_29 {x y : Int32} : qEx d 61 29 (.int y :: .int x :: st) ls σ μ la Q ↔ (if y ≤ x then qEx d 61 36 st ls σ μ la Q else qEx d 61 32 st ls σ μ la Q) := (qEx_eq (i := .if_icmp .ge 7) rfl).trans qExA_ite
theorem x61_32  : qEx d 61 32 st ls σ μ la Q ↔ qEx d 61 33 (.int 1 :: st) ls σ μ la Q := (qEx_eq (i := .iconst 1) rfl).trans Iff.rfl
theorem x61_33  : qEx d 61 33 st ls σ μ la Q ↔ qEx d 61 37 st ls σ μ la Q := (qEx_eq (i := .goto 4) rfl).trans Iff.rfl
theorem x61_36  : qEx d 61 36 st ls σ μ la Q ↔ qEx d 61 37 (.int 0 :: st) ls σ μ la Q := (qEx_eq (i := .iconst 0) rfl).trans Iff.rfl
theorem x61_37 {x : Int32} : qEx d 61 37 [.int x] ls σ μ la Q ↔ ((x = 0 ∨ x = 1) ∧ Q (some (.int x)) σ μ la) := (qEx_eq (i := .ireturn) rfl).trans qExA_chk
theorem x62_0  : qEx d 62 0 st ls σ μ la Q ↔ qEx d 62 1 (.int 0 :: st) ls σ μ la Q := (qEx_eq (i := .iconst 0) rfl).trans Iff.rfl
theorem x62_1 {x : Int32} {l0 l1 l2 : Value} : qEx d 62 1 (.int x :: st) [l0, l1, l2] σ μ la Q ↔ qEx d 62 2 st [l0, l1, .int x] σ μ la Q := (qEx_eq (i := .istore_n 2) rfl).trans Iff.rfl
theorem x62_2 {x : Int32} {l0 l1 : Value} : qEx d 62 2 st [l0, l1, .int x] σ μ la Q ↔ qEx d 62 3 (.int x :: st) [l0, l1, .int x] σ μ la Q := (qEx_eq (i := .iload_n 2) rfl).trans Iff.rfl
theorem x62_3 {x : Nat} {l1 l2 : Value} : qEx d 62 3 st [.ref x, l1, l2] σ μ la Q ↔ qEx d 62 4 (.ref x :: st) [.ref x, l1, l2] σ μ la Q := (qEx_eq (i := .aload_n 0) rfl).trans Iff.rfl
theorem x62_4 {a : Nat} : qEx d 62 4 (.ref a :: st) ls σ μ la Q ↔ (qOk σ a 4 = true ∧ qEx d 62 7 (.int (μ a 2) :: st) ls σ μ la Q) := (qEx_eq (i := .getfield 40) rfl).trans qExA_chk
theorem x62_7 {x y : Int32} : qEx d 62 7 (.int y :: .int x :: st) ls σ μ la Q ↔ (if y ≤ x then qEx d 62 28 st ls σ μ la Q else qEx d 62 10 st ls σ μ la Q) := (qEx_eq (i := .if_icmp .ge 21) rfl).trans qExA_ite
theorem x62_10 {x : Nat} {l1 l2 : Value} : qEx d 62 10 st [.ref x, l1, l2] σ μ la Q ↔ qEx d 62 11 (.ref x :: st) [.ref x, l1, l2] σ μ la Q := (qEx_eq (i := .aload_n 0) rfl).trans Iff.rfl
theorem x62_11 {a : Nat} : qEx d 62 11 (.ref a :: st) ls σ μ la Q ↔ (qOk σ a 4 = true ∧ qEx d 62 14 (qrf (σ.2 a 8) :: st) ls σ μ la Q) := (qEx_eq (i := .getfield 18) rfl).trans qExA_chk
theorem x62_14 {x : Int32} {l0 l1 : Value} : qEx d 62 14 st [l0, l1, .int x] σ μ la Q ↔ qEx d 62 15 (.int x :: st) [l0, l1, .int x] σ μ la Q := (qEx_eq (i := .iload_n 2) rfl).trans Iff.rfl
theorem x62_15 {x : Int32} {a : Nat} : qEx d 62 15 (.int x :: .ref a :: st) ls σ μ la Q ↔ (qIn x (qIld σ μ a) = true ∧ qEx d 62 16 (.int (μ a x.toNatClampNeg) :: st) ls σ μ la Q) := (qEx_eq (i := .iaload) rfl).trans qExA_chk
theorem x62_16 {x : Int32} {l0 l2 : Value} : qEx d 62 16 st [l0, .int x, l2] σ μ la Q ↔ qEx d 62 17 (.int x :: st) [l0, .int x, l2] σ μ la Q := (qEx_eq (i := .iload_n 1) rfl).trans Iff.rfl
theorem x62_17 {x y : Int32} : qEx d 62 17 (.int y :: .int x :: st) ls σ μ la Q ↔ (if ¬ x = y then qEx d 62 22 st ls σ μ la Q else qEx d 62 20 st ls σ μ la Q) := (qEx_eq (i := .if_icmp .ne 5) rfl).trans qExA_ite
theorem x62_20 {x : Int32} {l0 l1 : Value} : qEx d 62 20 st [l0, l1, .int x] σ μ la Q ↔ qEx d 62 21 (.int x :: st) [l0, l1, .int x] σ μ la Q := (qEx_eq (i := .iload_n 2) rfl).trans Iff.rfl
theorem x62_21 {x : Int32} : qEx d 62 21 [.int x] ls σ μ la Q ↔ Q (some (.int x)) σ μ la := (qEx_eq (i := .ireturn) rfl).trans Iff.rfl
theorem x62_22 {x : Int32} {l0 l1 : Value} : qEx d 62 22 st [l0, l1, .int x] σ μ la Q ↔ qEx d 62 25 st [l0, l1, .int (x + 1)] σ μ la Q := (qEx_eq (i := .iinc 2 1) rfl).trans Iff.rfl
theorem x62_25  : qEx d 62 25 st ls σ μ la Q ↔ qEx d 62 2 st ls σ μ la Q := (qEx_eq (i := .goto (-23)) rfl).trans Iff.rfl
theorem x62_28  : qEx d 62 28 st ls σ μ la Q ↔ qEx d 62 30 (.int (-4) :: st) ls σ μ la Q := (qEx_eq (i := .bipush (-4)) rfl).trans Iff.rfl
theorem x62_30 {x : Int32} : qEx d 62 30 [.int x] ls σ μ la Q ↔ Q (some (.int x)) σ μ la := (qEx_eq (i := .ireturn) rfl).trans Iff.rfl
theorem x63_0 {x : Int32} {l0 l2 l3 l4 : Value} : qEx d 63 0 st [l0, .int x, l2, l3, l4] σ μ la Q ↔ qEx d 63 1 (.int x :: st) [l0, .int x, l2, l3, l4] σ μ la Q := (qEx_eq (i := .iload_n 1) rfl).trans Iff.rfl
theorem x63_1  : qEx d 63 1 st ls σ μ la Q ↔ qEx d 63 3 (.int 8 :: st) ls σ μ la Q := (qEx_eq (i := .bipush 8) rfl).trans Iff.rfl
theorem x63_3 {x y : Int32} : qEx d 63 3 (.int y :: .int x :: st) ls σ μ la Q ↔ (¬ y = 0 ∧ qEx d 63 4 (.int (x - x / y * y) :: st) ls σ μ la Q) := (qEx_eq (i := .irem) rfl).trans qExA_chk
theorem x63_4 {x : Int32} {l0 l1 l2 l3 l4 : Value} : qEx d 63 4 (.int x :: st) [l0, l1, l2, l3, l4] σ μ la Q ↔ qEx d 63 5 st [l0, l1, l2, .int x, l4] σ μ la Q := (qEx_eq (i := .istore_n 3) rfl).trans Iff.rfl
theorem x63_5 {x : Int32} {l0 l2 l3 l4 : Value} : qEx d 63 5 st [l0, .int x, l2, l3, l4] σ μ la Q ↔ qEx d 63 6 (.int x :: st) [l0, .int x, l2, l3, l4] σ μ la Q := (qEx_eq (i := .iload_n 1) rfl).trans Iff.rfl
theorem x63_6  : qEx d 63 6 st ls σ μ la Q ↔ qEx d 63 8 (.int 8 :: st) ls σ μ la Q := (qEx_eq (i := .bipush 8) rfl).trans Iff.rfl
theorem x63_8 {x y : Int32} : qEx d 63 8 (.int y :: .int x :: st) ls σ μ la Q ↔ (¬ y = 0 ∧ qEx d 63 9 (.int (x / y) :: st) ls σ μ la Q) := (qEx_eq (i := .idiv) rfl).trans qExA_chk
theorem x63_9 {x : Int32} {l0 l1 l2 l3 l4 : Value} : qEx d 63 9 (.int x :: st) [l0, l1, l2, l3, l4] σ μ la Q ↔ qEx d 63 11 st [l0, l1, l2, l3, .int x] σ μ la Q := (qEx_eq (i := .istore 4) rfl).trans Iff.rfl
theorem x63_11 {x : Int32} {l0 l1 l3 l4 : Value} : qEx d 63 11 st [l0, l1, .int x, l3, l4] σ μ la Q ↔ qEx d 63 12 (.int x :: st) [l0, l1, .int x, l3, l4] σ μ la Q := (qEx_eq (i := .iload_n 2) rfl).trans Iff.rfl
theorem x63_12 {x : Int32} : qEx d 63 12 (.int x :: st) ls σ μ la Q ↔ (if x.toInt = 0 then qEx d 63 40 st ls σ μ la Q else (if x.toInt = 1 then qEx d 63 54 st ls σ μ la Q else (if x.toInt = 2 then qEx d 63 72 st ls σ μ la Q else qEx d 63 92 st ls σ μ la Q))) := (qEx_eq (i := .tableswitch 80 0 2 #[28, 42, 60]) rfl).trans (qExA_ite2 Iff.rfl (qExA_ite2 Iff.rfl (qExA_ite2 Iff.rfl Iff.rfl)))
theorem x63_40 {x : Int32} {l0 l1 l2 l3 : Value} : qEx d 63 40 st [l0, l1, l2, l3, .int x] σ μ la Q ↔ qEx d 63 42 (.int x :: st) [l0, l1, l2, l3, .int x] σ μ la Q := (qEx_eq (i := .iload 4) rfl).trans Iff.rfl
theorem x63_42 {x : Int32} : qEx d 63 42 (.int x :: st) ls σ μ la Q ↔ (if x ≤ 0 then qEx d 63 52 st ls σ μ la Q else qEx d 63 45 st ls σ μ la Q) := (qEx_eq (i := .ifCond .le 10) rfl).trans qExA_ite
theorem x63_45 {x : Int32} {l0 l2 l3 l4 : Value} : qEx d 63 45 st [l0, .int x, l2, l3, l4] σ μ la Q ↔ qEx d 63 46 (.int x :: st) [l0, .int x, l2, l3, l4] σ μ la Q := (qEx_eq (i := .iload_n 1) rfl).trans Iff.rfl
theorem x63_46  : qEx d 63 46 st ls σ μ la Q ↔ qEx d 63 48 (.int 8 :: st) ls σ μ la Q := (qEx_eq (i := .bipush 8) rfl).trans Iff.rfl
theorem x63_48 {x y : Int32} : qEx d 63 48 (.int y :: .int x :: st) ls σ μ la Q ↔ qEx d 63 49 (.int (x - y) :: st) ls σ μ la Q := (qEx_eq (i := .isub) rfl).trans Iff.rfl
theorem x63_49  : qEx d 63 49 st ls σ μ la Q ↔ qEx d 63 53 st ls σ μ la Q := (qEx_eq (i := .goto 4) rfl).trans Iff.rfl
theorem x63_52  : qEx d 63 52 st ls σ μ la Q ↔ qEx d 63 53 (.int (-1) :: st) ls σ μ la Q := (qEx_eq (i := .iconst (-1)) rfl).trans Iff.rfl
theorem x63_53 {x : Int32} : qEx d 63 53 [.int x] ls σ μ la Q ↔ Q (some (.int x)) σ μ la := (qEx_eq (i := .ireturn) rfl).trans Iff.rfl
theorem x63_54 {x : Int32} {l0 l1 l2 l4 : Value} : qEx d 63 54 st [l0, l1, l2, .int x, l4] σ μ la Q ↔ qEx d 63 55 (.int x :: st) [l0, l1, l2, .int x, l4] σ μ la Q := (qEx_eq (i := .iload_n 3) rfl).trans Iff.rfl
theorem x63_55  : qEx d 63 55 st ls σ μ la Q ↔ qEx d 63 56 (.int 1 :: st) ls σ μ la Q := (qEx_eq (i := .iconst 1) rfl).trans Iff.rfl
theorem x63_56 {x y : Int32} : qEx d 63 56 (.int y :: .int x :: st) ls σ μ la Q ↔ qEx d 63 57 (.int (x + y) :: st) ls σ μ la Q := (qEx_eq (i := .iadd) rfl).trans Iff.rfl
theorem x63_57 {x : Nat} {l1 l2 l3 l4 : Value} : qEx d 63 57 st [.ref x, l1, l2, l3, l4] σ μ la Q ↔ qEx d 63 58 (.ref x :: st) [.ref x, l1, l2, l3, l4] σ μ la Q := (qEx_eq (i := .aload_n 0) rfl).trans Iff.rfl
theorem x63_58 {a : Nat} : qEx d 63 58 (.ref a :: st) ls σ μ la Q ↔ (qOk σ a 4 = true ∧ qEx d 63 61 (.int (μ a 0) :: st) ls σ μ la Q) := (qEx_eq (i := .getfield 33) rfl).trans qExA_chk
theorem x63_61 {x y : Int32} : qEx d 63 61 (.int y :: .int x :: st) ls σ μ la Q ↔ (if y ≤ x then qEx d 63 70 st ls σ μ la Q else qEx d 63 64 st ls σ μ la Q) := (qEx_eq (i := .if_icmp .ge 9) rfl).trans qExA_ite
theorem x63_64 {x : Int32} {l0 l2 l3 l4 : Value} : qEx d 63 64 st [l0, .int x, l2, l3, l4] σ μ la Q ↔ qEx d 63 65 (.int x :: st) [l0, .int x, l2, l3, l4] σ μ la Q := (qEx_eq (i := .iload_n 1) rfl).trans Iff.rfl
theorem x63_65  : qEx d 63 65 st ls σ μ la Q ↔ qEx d 63 66 (.int 1 :: st) ls σ μ la Q := (qEx_eq (i := .iconst 1) rfl).trans Iff.rfl
theorem x63_66 {x y : Int32} : qEx d 63 66 (.int y :: .int x :: st) ls σ μ la Q ↔ qEx d 63 67 (.int (x + y) :: st) ls σ μ la Q := (qEx_eq (i := .iadd) rfl).trans Iff.rfl
theorem x63_67  : qEx d 63 67 st ls σ μ la Q ↔ qEx d 63 71 st ls σ μ la Q := (qEx_eq (i := .goto 4) rfl).trans Iff.rfl
theorem x63_70  : qEx d 63 70 st ls σ μ la Q ↔ qEx d 63 71 (.int (-1) :: st) ls σ μ la Q := (qEx_eq (i := .iconst (-1)) rfl).trans Iff.rfl
theorem x63_71 {x : Int32} : qEx d 63 71 [.int x] ls σ μ la Q ↔ Q (some (.int x)) σ μ la := (qEx_eq (i := .ireturn) rfl).trans Iff.rfl
theorem x63_72 {x : Int32} {l0 l1 l2 l3 : Value} : qEx d 63 72 st [l0, l1, l2, l3, .int x] σ μ la Q ↔ qEx d 63 74 (.int x :: st) [l0, l1, l2, l3, .int x] σ μ la Q := (qEx_eq (i := .iload 4) rfl).trans Iff.rfl
theorem x63_74  : qEx d 63 74 st ls σ μ la Q ↔ qEx d 63 75 (.int 1 :: st) ls σ μ la Q := (qEx_eq (i := .iconst 1) rfl).trans Iff.rfl
theorem x63_75 {x y : Int32} : qEx d 63 75 (.int y :: .int x :: st) ls σ μ la Q ↔ qEx d 63 76 (.int (x + y) :: st) ls σ μ la Q := (qEx_eq (i := .iadd) rfl).trans Iff.rfl
theorem x63_76 {x : Nat} {l1 l2 l3 l4 : Value} : qEx d 63 76 st [.ref x, l1, l2, l3, l4] σ μ la Q ↔ qEx d 63 77 (.ref x :: st) [.ref x, l1, l2, l3, l4] σ μ la Q := (qEx_eq (i := .aload_n 0) rfl).trans Iff.rfl
theorem x63_77 {a : Nat} : qEx d 63 77 (.ref a :: st) ls σ μ la Q ↔ (qOk σ a 4 = true ∧ qEx d 63 80 (.int (μ a 1) :: st) ls σ μ la Q) := (qEx_eq (i := .getfield 37) rfl).trans qExA_chk
theorem x63_80 {x y : Int32} : qEx d 63 80 (.int y :: .int x :: st) ls σ μ la Q ↔ (if y ≤ x then qEx d 63 90 st ls σ μ la Q else qEx d 63 83 st ls σ μ la Q) := (qEx_eq (i := .if_icmp .ge 10) rfl).trans qExA_ite
theorem x63_83 {x : Int32} {l0 l2 l3 l4 : Value} : qEx d 63 83 st [l0, .int x, l2, l3, l4] σ μ la Q ↔ qEx d 63 84 (.int x :: st) [l0, .int x, l2, l3, l4] σ μ la Q := (qEx_eq (i := .iload_n 1) rfl).trans Iff.rfl
theorem x63_84  : qEx d 63 84 st ls σ μ la Q ↔ qEx d 63 86 (.int 8 :: st) ls σ μ la Q := (qEx_eq (i := .bipush 8) rfl).trans Iff.rfl
theorem x63_86 {x y : Int32} : qEx d 63 86 (.int y :: .int x :: st) ls σ μ la Q ↔ qEx d 63 87 (.int (x + y) :: st) ls σ μ la Q := (qEx_eq (i := .iadd) rfl).trans Iff.rfl
theorem x63_87  : qEx d 63 87 st ls σ μ la Q ↔ qEx d 63 91 st ls σ μ la Q := (qEx_eq (i := .goto 4) rfl).trans Iff.rfl
theorem x63_90  : qEx d 63 90 st ls σ μ la Q ↔ qEx d 63 91 (.int (-1) :: st) ls σ μ la Q := (qEx_eq (i := .iconst (-1)) rfl).trans Iff.rfl
theorem x63_91 {x : Int32} : qEx d 63 91 [.int x] ls σ μ la Q ↔ Q (some (.int x)) σ μ la := (qEx_eq (i := .ireturn) rfl).trans Iff.rfl
theorem x63_92 {x : Int32} {l0 l1 l2 l4 : Value} : qEx d 63 92 st [l0, l1, l2, .int x, l4] σ μ la Q ↔ qEx d 63 93 (.int x :: st) [l0, l1, l2, .int x, l4] σ μ la Q := (qEx_eq (i := .iload_n 3) rfl).trans Iff.rfl
theorem x63_93 {x : Int32} : qEx d 63 93 (.int x :: st) ls σ μ la Q ↔ (if x ≤ 0 then qEx d 63 102 st ls σ μ la Q else qEx d 63 96 st ls σ μ la Q) := (qEx_eq (i := .ifCond .le 9) rfl).trans qExA_ite
theorem x63_96 {x : Int32} {l0 l2 l3 l4 : Value} : qEx d 63 96 st [l0, .int x, l2, l3, l4] σ μ la Q ↔ qEx d 63 97 (.int x :: st) [l0, .int x, l2, l3, l4] σ μ la Q := (qEx_eq (i := .iload_n 1) rfl).trans Iff.rfl
theorem x63_97  : qEx d 63 97 st ls σ μ la Q ↔ qEx d 63 98 (.int 1 :: st) ls σ μ la Q := (qEx_eq (i := .iconst 1) rfl).trans Iff.rfl
theorem x63_98 {x y : Int32} : qEx d 63 98 (.int y :: .int x :: st) ls σ μ la Q ↔ qEx d 63 99 (.int (x - y) :: st) ls σ μ la Q := (qEx_eq (i := .isub) rfl).trans Iff.rfl
theorem x63_99  : qEx d 63 99 st ls σ μ la Q ↔ qEx d 63 103 st ls σ μ la Q := (qEx_eq (i := .goto 4) rfl).trans Iff.rfl
theorem x63_102  : qEx d 63 102 st ls σ μ la Q ↔ qEx d 63 103 (.int (-1) :: st) ls σ μ la Q := (qEx_eq (i := .iconst (-1)) rfl).trans Iff.rfl
theorem x63_103 {x : Int32} : qEx d 63 103 [.int x] ls σ μ la Q ↔ Q (some (.int x)) σ μ la := (qEx_eq (i := .ireturn) rfl).trans Iff.rfl
theorem x64_0  : qEx d 64 0 st ls σ μ la Q ↔ qEx d 64 3 (.ref 1001 :: st) ls σ μ la Q := (qEx_eq (i := .getstatic 58) rfl).trans Iff.rfl
theorem x64_3 {x : Int32} {l0 l1 l3 : Value} : qEx d 64 3 st [l0, l1, .int x, l3] σ μ la Q ↔ qEx d 64 4 (.int x :: st) [l0, l1, .int x, l3] σ μ la Q := (qEx_eq (i := .iload_n 2) rfl).trans Iff.rfl
theorem x64_4 {x : Int32} {a : Nat} : qEx d 64 4 (.int x :: .ref a :: st) ls σ μ la Q ↔ (qIn x (qIld σ μ a) = true ∧ qEx d 64 5 (.int (μ a x.toNatClampNeg) :: st) ls σ μ la Q) := (qEx_eq (i := .iaload) rfl).trans qExA_chk
theorem x64_5 {x : Nat} {l1 l2 l3 : Value} : qEx d 64 5 st [.ref x, l1, l2, l3] σ μ la Q ↔ qEx d 64 6 (.ref x :: st) [.ref x, l1, l2, l3] σ μ la Q := (qEx_eq (i := .aload_n 0) rfl).trans Iff.rfl
theorem x64_6 {a : Nat} : qEx d 64 6 (.ref a :: st) ls σ μ la Q ↔ (qOk σ a 4 = true ∧ qEx d 64 9 (qrf (σ.2 a 12) :: st) ls σ μ la Q) := (qEx_eq (i := .getfield 30) rfl).trans qExA_chk
theorem x64_9 {x : Int32} {l0 l2 l3 : Value} : qEx d 64 9 st [l0, .int x, l2, l3] σ μ la Q ↔ qEx d 64 10 (.int x :: st) [l0, .int x, l2, l3] σ μ la Q := (qEx_eq (i := .iload_n 1) rfl).trans Iff.rfl
theorem x64_10  : qEx d 64 10 st ls σ μ la Q ↔ qEx d 64 11 (.int 4 :: st) ls σ μ la Q := (qEx_eq (i := .iconst 4) rfl).trans Iff.rfl
theorem x64_11 {x y : Int32} : qEx d 64 11 (.int y :: .int x :: st) ls σ μ la Q ↔ qEx d 64 12 (.int (x * y) :: st) ls σ μ la Q := (qEx_eq (i := .imul) rfl).trans Iff.rfl
theorem x64_12 {x : Int32} {l0 l1 l3 : Value} : qEx d 64 12 st [l0, l1, .int x, l3] σ μ la Q ↔ qEx d 64 13 (.int x :: st) [l0, l1, .int x, l3] σ μ la Q := (qEx_eq (i := .iload_n 2) rfl).trans Iff.rfl
theorem x64_13 {x y : Int32} : qEx d 64 13 (.int y :: .int x :: st) ls σ μ la Q ↔ qEx d 64 14 (.int (x + y) :: st) ls σ μ la Q := (qEx_eq (i := .iadd) rfl).trans Iff.rfl
theorem x64_14 {x : Int32} {a : Nat} : qEx d 64 14 (.int x :: .ref a :: st) ls σ μ la Q ↔ (qIn x (qIld σ μ a) = true ∧ qEx d 64 15 (.int (μ a x.toNatClampNeg) :: st) ls σ μ la Q) := (qEx_eq (i := .iaload) rfl).trans qExA_chk
theorem x64_15 {x y : Int32} : qEx d 64 15 (.int y :: .int x :: st) ls σ μ la Q ↔ qEx d 64 16 (.int (x + y) :: st) ls σ μ la Q := (qEx_eq (i := .iadd) rfl).trans Iff.rfl
theorem x64_16 {x : Int32} {l0 l1 l2 l3 : Value} : qEx d 64 16 (.int x :: st) [l0, l1, l2, l3] σ μ la Q ↔ qEx d 64 17 st [l0, l1, l2, .int x] σ μ la Q := (qEx_eq (i := .istore_n 3) rfl).trans Iff.rfl
theorem x64_17 {x : Nat} {l1 l2 l3 : Value} : qEx d 64 17 st [.ref x, l1, l2, l3] σ μ la Q ↔ qEx d 64 18 (.ref x :: st) [.ref x, l1, l2, l3] σ μ la Q := (qEx_eq (i := .aload_n 0) rfl).trans Iff.rfl
theorem x64_18 {a : Nat} : qEx d 64 18 (.ref a :: st) ls σ μ la Q ↔ (qOk σ a 4 = true ∧ qEx d 64 21 (qrf (σ.2 a 10) :: st) ls σ μ la Q) := (qEx_eq (i := .getfield 24) rfl).trans qExA_chk
theorem x64_21 {x : Int32} {l0 l2 l3 : Value} : qEx d 64 21 st [l0, .int x, l2, l3] σ μ la Q ↔ qEx d 64 22 (.int x :: st) [l0, .int x, l2, l3] σ μ la Q := (qEx_eq (i := .iload_n 1) rfl).trans Iff.rfl
theorem x64_22  : qEx d 64 22 st ls σ μ la Q ↔ qEx d 64 24 (.int 99 :: st) ls σ μ la Q := (qEx_eq (i := .bipush 99) rfl).trans Iff.rfl
theorem x64_24 {x : Nat} {l1 l2 l3 : Value} : qEx d 64 24 st [.ref x, l1, l2, l3] σ μ la Q ↔ qEx d 64 25 (.ref x :: st) [.ref x, l1, l2, l3] σ μ la Q := (qEx_eq (i := .aload_n 0) rfl).trans Iff.rfl
theorem x64_25 {a : Nat} : qEx d 64 25 (.ref a :: st) ls σ μ la Q ↔ (qOk σ a 4 = true ∧ qEx d 64 28 (qrf (σ.2 a 10) :: st) ls σ μ la Q) := (qEx_eq (i := .getfield 24) rfl).trans qExA_chk
theorem x64_28 {x : Int32} {l0 l2 l3 : Value} : qEx d 64 28 st [l0, .int x, l2, l3] σ μ la Q ↔ qEx d 64 29 (.int x :: st) [l0, .int x, l2, l3] σ μ la Q := (qEx_eq (i := .iload_n 1) rfl).trans Iff.rfl
theorem x64_29 {x : Int32} {a : Nat} : qEx d 64 29 (.int x :: .ref a :: st) ls σ μ la Q ↔ (qIn x (qIld σ μ a) = true ∧ qEx d 64 30 (.int (μ a x.toNatClampNeg) :: st) ls σ μ la Q) := (qEx_eq (i := .iaload) rfl).trans qExA_chk
theorem x64_30 {x : Int32} {l0 l1 l2 : Value} : qEx d 64 30 st [l0, l1, l2, .int x] σ μ la Q ↔ qEx d 64 31 (.int x :: st) [l0, l1, l2, .int x] σ μ la Q := (qEx_eq (i := .iload_n 3) rfl).trans Iff.rfl
theorem x64_31 {x y : Int32} : qEx d 64 31 (.int y :: .int x :: st) ls σ μ la Q ↔ qEx d 64 32 (.int (x + y) :: st) ls σ μ la Q := (qEx_eq (i := .iadd) rfl).trans Iff.rfl
theorem x64_32 {x y : Int32} {z0 : Int32} {z1 : Nat} : qEx d 64 32 [.int y, .int x, .int z0, .ref z1] ls σ μ la Q ↔ qEx d 64 35 [.int (if y < x then y else x), .int z0, .ref z1] ls σ μ la Q := (qEx_eq (i := .invokestatic 61) rfl).trans Iff.rfl
theorem x64_35 {x y : Int32} {a : Nat} : qEx d 64 35 (.int y :: .int x :: .ref a :: st) ls σ μ la Q ↔ (qIn x (qLen σ 10 a) = true ∧ qEx d 64 36 st ls σ (qset μ a x.toNatClampNeg y) la Q) := (qEx_eq (i := .iastore) rfl).trans qExA_chk
theorem x64_36 {x : Nat} {l1 l2 l3 : Value} : qEx d 64 36 st [.ref x, l1, l2, l3] σ μ la Q ↔ qEx d 64 37 (.ref x :: st) [.ref x, l1, l2, l3] σ μ la Q := (qEx_eq (i := .aload_n 0) rfl).trans Iff.rfl
theorem x64_37 {a : Nat} : qEx d 64 37 (.ref a :: st) ls σ μ la Q ↔ (qOk σ a 4 = true ∧ qEx d 64 40 (qrf (σ.2 a 12) :: st) ls σ μ la Q) := (qEx_eq (i := .getfield 30) rfl).trans qExA_chk
theorem x64_40 {x : Int32} {l0 l2 l3 : Value} : qEx d 64 40 st [l0, .int x, l2, l3] σ μ la Q ↔ qEx d 64 41 (.int x :: st) [l0, .int x, l2, l3] σ μ la Q := (qEx_eq (i := .iload_n 1) rfl).trans Iff.rfl
theorem x64_41  : qEx d 64 41 st ls σ μ la Q ↔ qEx d 64 42 (.int 4 :: st) ls σ μ la Q := (qEx_eq (i := .iconst 4) rfl).trans Iff.rfl
theorem x64_42 {x y : Int32} : qEx d 64 42 (.int y :: .int x :: st) ls σ μ la Q ↔ qEx d 64 43 (.int (x * y) :: st) ls σ μ la Q := (qEx_eq (i := .imul) rfl).trans Iff.rfl
theorem x64_43 {x : Int32} {l0 l1 l3 : Value} : qEx d 64 43 st [l0, l1, .int x, l3] σ μ la Q ↔ qEx d 64 44 (.int x :: st) [l0, l1, .int x, l3] σ μ la Q := (qEx_eq (i := .iload_n 2) rfl).trans Iff.rfl
theorem x64_44 {x y : Int32} : qEx d 64 44 (.int y :: .int x :: st) ls σ μ la Q ↔ qEx d 64 45 (.int (x + y) :: st) ls σ μ la Q := (qEx_eq (i := .iadd) rfl).trans Iff.rfl
theorem x64_45 {x : Int32} {y : Nat} : qEx d 64 45 (.int x :: .ref y :: st) ls σ μ la Q ↔ qEx d 64 46 (.int x :: .ref y :: .int x :: .ref y :: st) ls σ μ la Q := (qEx_eq (i := .dup2) rfl).trans Iff.rfl
theorem x64_46 {x : Int32} {a : Nat} : qEx d 64 46 (.int x :: .ref a :: st) ls σ μ la Q ↔ (qIn x (qIld σ μ a) = true ∧ qEx d 64 47 (.int (μ a x.toNatClampNeg) :: st) ls σ μ la Q) := (qEx_eq (i := .iaload) rfl).trans qExA_chk
theorem x64_47  : qEx d 64 47 st ls σ μ la Q ↔ qEx d 64 48 (.int 1 :: st) ls σ μ la Q := (qEx_eq (i := .iconst 1) rfl).trans Iff.rfl
theorem x64_48 {x y : Int32} : qEx d 64 48 (.int y :: .int x :: st) ls σ μ la Q ↔ qEx d 64 49 (.int (x + y) :: st) ls σ μ la Q := (qEx_eq (i := .iadd) rfl).trans Iff.rfl
theorem x64_49 {x y : Int32} {a : Nat} : qEx d 64 49 (.int y :: .int x :: .ref a :: st) ls σ μ la Q ↔ (qIn x (qLen σ 10 a) = true ∧ qEx d 64 50 st ls σ (qset μ a x.toNatClampNeg y) la Q) := (qEx_eq (i := .iastore) rfl).trans qExA_chk
theorem x64_50  : qEx d 64 50 [] ls σ μ la Q ↔ Q none σ μ la := (qEx_eq (i := .return_) rfl).trans Iff.rfl
theorem x65_0  : qEx d 65 0 st ls σ μ la Q ↔ qEx d 65 1 (.int 0 :: st) ls σ μ la Q := (qEx_eq (i := .iconst 0) rfl).trans Iff.rfl
theorem x65_1 {x : Int32} {l0 l1 l2 l3 : Value} : qEx d 65 1 (.int x :: st) [l0, l1, l2, l3] σ μ la Q ↔ qEx d 65 2 st [l0, l1, l2, .int x] σ μ la Q := (qEx_eq (i := .istore_n 3) rfl).trans Iff.rfl
theorem x65_2 {x : Int32} {l0 l1 l2 : Value} : qEx d 65 2 st [l0, l1, l2, .int x] σ μ la Q ↔ qEx d 65 3 (.int x :: st) [l0, l1, l2, .int x] σ μ la Q := (qEx_eq (i := .iload_n 3) rfl).trans Iff.rfl
theorem x65_3 {x : Nat} {l0 l1 l3 : Value} : qEx d 65 3 st [l0, l1, .ref x, l3] σ μ la Q ↔ qEx d 65 4 (.ref x :: st) [l0, l1, .ref x, l3] σ μ la Q := (qEx_eq (i := .aload_n 2) rfl).trans Iff.rfl
theorem x65_4 {a : Nat} : qEx d 65 4 (.ref a :: st) ls σ μ la Q ↔ (qOk σ a 5 = true ∧ qEx d 65 7 (.int (μ a 1) :: st) ls σ μ la Q) := (qEx_eq (i := .getfield 67) rfl).trans qExA_chk
theorem x65_7 {x y : Int32} : qEx d 65 7 (.int y :: .int x :: st) ls σ μ la Q ↔ (if y ≤ x then qEx d 65 43 st ls σ μ la Q else qEx d 65 10 st ls σ μ la Q) := (qEx_eq (i := .if_icmp .ge 36) rfl).trans qExA_ite
theorem x65_10 {x : Nat} {l1 l2 l3 : Value} : qEx d 65 10 st [.ref x, l1, l2, l3] σ μ la Q ↔ qEx d 65 11 (.ref x :: st) [.ref x, l1, l2, l3] σ μ la Q := (qEx_eq (i := .aload_n 0) rfl).trans Iff.rfl
theorem x65_11 {a : Nat} : qEx d 65 11 (.ref a :: st) ls σ μ la Q ↔ (qOk σ a 4 = true ∧ qEx d 65 14 (qrf (σ.2 a 6) :: st) ls σ μ la Q) := (qEx_eq (i := .getfield 9) rfl).trans qExA_chk
theorem x65_14 {x : Nat} {l0 l1 l3 : Value} : qEx d 65 14 st [l0, l1, .ref x, l3] σ μ la Q ↔ qEx d 65 15 (.ref x :: st) [l0, l1, .ref x, l3] σ μ la Q := (qEx_eq (i := .aload_n 2) rfl).trans Iff.rfl
theorem x65_15 {a : Nat} : qEx d 65 15 (.ref a :: st) ls σ μ la Q ↔ (qOk σ a 5 = true ∧ qEx d 65 18 (qrf (σ.2 a 0) :: st) ls σ μ la Q) := (qEx_eq (i := .getfield 72) rfl).trans qExA_chk
theorem x65_18 {x : Int32} {l0 l1 l2 : Value} : qEx d 65 18 st [l0, l1, l2, .int x] σ μ la Q ↔ qEx d 65 19 (.int x :: st) [l0, l1, l2, .int x] σ μ la Q := (qEx_eq (i := .iload_n 3) rfl).trans Iff.rfl
theorem x65_19 {x : Int32} {a : Nat} : qEx d 65 19 (.int x :: .ref a :: st) ls σ μ la Q ↔ (qIn x (qIld σ μ a) = true ∧ qEx d 65 20 (.int (μ a x.toNatClampNeg) :: st) ls σ μ la Q) := (qEx_eq (i := .iaload) rfl).trans qExA_chk
theorem x65_20 {x : Int32} {a : Nat} : qEx d 65 20 (.int x :: .ref a :: st) ls σ μ la Q ↔ (qIn x (qIld σ μ a) = true ∧ qEx d 65 21 (.int (μ a x.toNatClampNeg) :: st) ls σ μ la Q) := (qEx_eq (i := .iaload) rfl).trans qExA_chk
theorem x65_21  : qEx d 65 21 st ls σ μ la Q ↔ qEx d 65 22 (.int 4 :: st) ls σ μ la Q := (qEx_eq (i := .iconst 4) rfl).trans Iff.rfl
theorem x65_22 {x y : Int32} : qEx d 65 22 (.int y :: .int x :: st) ls σ μ la Q ↔ (if ¬ x = y then qEx d 65 37 st ls σ μ la Q else qEx d 65 25 st ls σ μ la Q) := (qEx_eq (i := .if_icmp .ne 15) rfl).trans qExA_ite
theorem x65_25 {x : Nat} {l1 l2 l3 : Value} : qEx d 65 25 st [.ref x, l1, l2, l3] σ μ la Q ↔ qEx d 65 26 (.ref x :: st) [.ref x, l1, l2, l3] σ μ la Q := (qEx_eq (i := .aload_n 0) rfl).trans Iff.rfl
theorem x65_26 {a : Nat} : qEx d 65 26 (.ref a :: st) ls σ μ la Q ↔ (qOk σ a 4 = true ∧ qEx d 65 29 (qrf (σ.2 a 6) :: st) ls σ μ la Q) := (qEx_eq (i := .getfield 9) rfl).trans qExA_chk
theorem x65_29 {x : Nat} {l0 l1 l3 : Value} : qEx d 65 29 st [l0, l1, .ref x, l3] σ μ la Q ↔ qEx d 65 30 (.ref x :: st) [l0, l1, .ref x, l3] σ μ la Q := (qEx_eq (i := .aload_n 2) rfl).trans Iff.rfl
theorem x65_30 {a : Nat} : qEx d 65 30 (.ref a :: st) ls σ μ la Q ↔ (qOk σ a 5 = true ∧ qEx d 65 33 (qrf (σ.2 a 0) :: st) ls σ μ la Q) := (qEx_eq (i := .getfield 72) rfl).trans qExA_chk
theorem x65_33 {x : Int32} {l0 l1 l2 : Value} : qEx d 65 33 st [l0, l1, l2, .int x] σ μ la Q ↔ qEx d 65 34 (.int x :: st) [l0, l1, l2, .int x] σ μ la Q := (qEx_eq (i := .iload_n 3) rfl).trans Iff.rfl
theorem x65_34 {x : Int32} {a : Nat} : qEx d 65 34 (.int x :: .ref a :: st) ls σ μ la Q ↔ (qIn x (qIld σ μ a) = true ∧ qEx d 65 35 (.int (μ a x.toNatClampNeg) :: st) ls σ μ la Q) := (qEx_eq (i := .iaload) rfl).trans qExA_chk
theorem x65_35  : qEx d 65 35 st ls σ μ la Q ↔ qEx d 65 36 (.int 0 :: st) ls σ μ la Q := (qEx_eq (i := .iconst 0) rfl).trans Iff.rfl
theorem x65_36 {x y : Int32} {a : Nat} : qEx d 65 36 (.int y :: .int x :: .ref a :: st) ls σ μ la Q ↔ (qIn x (qLen σ 10 a) = true ∧ qEx d 65 37 st ls σ (qset μ a x.toNatClampNeg y) la Q) := (qEx_eq (i := .iastore) rfl).trans qExA_chk
theorem x65_37 {x : Int32} {l0 l1 l2 : Value} : qEx d 65 37 st [l0, l1, l2, .int x] σ μ la Q ↔ qEx d 65 40 st [l0, l1, l2, .int (x + 1)] σ μ la Q := (qEx_eq (i := .iinc 3 1) rfl).trans Iff.rfl
theorem x65_40  : qEx d 65 40 st ls σ μ la Q ↔ qEx d 65 2 st ls σ μ la Q := (qEx_eq (i := .goto (-38)) rfl).trans Iff.rfl
theorem x65_43 {x : Nat} {l1 l2 l3 : Value} : qEx d 65 43 st [.ref x, l1, l2, l3] σ μ la Q ↔ qEx d 65 44 (.ref x :: st) [.ref x, l1, l2, l3] σ μ la Q := (qEx_eq (i := .aload_n 0) rfl).trans Iff.rfl
theorem x65_44 {a : Nat} : qEx d 65 44 (.ref a :: st) ls σ μ la Q ↔ (qOk σ a 4 = true ∧ qEx d 65 47 (qrf (σ.2 a 8) :: st) ls σ μ la Q) := (qEx_eq (i := .getfield 18) rfl).trans qExA_chk
theorem x65_47 {x : Int32} {l0 l2 l3 : Value} : qEx d 65 47 st [l0, .int x, l2, l3] σ μ la Q ↔ qEx d 65 48 (.int x :: st) [l0, .int x, l2, l3] σ μ la Q := (qEx_eq (i := .iload_n 1) rfl).trans Iff.rfl
theorem x65_48 {x : Nat} {l0 l1 l3 : Value} : qEx d 65 48 st [l0, l1, .ref x, l3] σ μ la Q ↔ qEx d 65 49 (.ref x :: st) [l0, l1, .ref x, l3] σ μ la Q := (qEx_eq (i := .aload_n 2) rfl).trans Iff.rfl
theorem x65_49 {a : Nat} : qEx d 65 49 (.ref a :: st) ls σ μ la Q ↔ (qOk σ a 5 = true ∧ qEx d 65 52 (.int (μ a 2) :: st) ls σ μ la Q) := (qEx_eq (i := .getfield 75) rfl).trans qExA_chk
theorem x65_52 {x y : Int32} {a : Nat} : qEx d 65 52 (.int y :: .int x :: .ref a :: st) ls σ μ la Q ↔ (qIn x (qLen σ 10 a) = true ∧ qEx d 65 53 st ls σ (qset μ a x.toNatClampNeg y) la Q) := (qEx_eq (i := .iastore) rfl).trans qExA_chk
theorem x65_53  : qEx d 65 53 [] ls σ μ la Q ↔ Q none σ μ la := (qEx_eq (i := .return_) rfl).trans Iff.rfl
theorem x66_0 {x : Nat} {l0 l1 : Value} : qEx d 66 0 st [l0, l1, .ref x] σ μ la Q ↔ qEx d 66 1 (.ref x :: st) [l0, l1, .ref x] σ μ la Q := (qEx_eq (i := .aload_n 2) rfl).trans Iff.rfl
theorem x66_1 {x : Nat} {l1 l2 : Value} : qEx d 66 1 st [.ref x, l1, l2] σ μ la Q ↔ qEx d 66 2 (.ref x :: st) [.ref x, l1, l2] σ μ la Q := (qEx_eq (i := .aload_n 0) rfl).trans Iff.rfl
theorem x66_2 {x : Int32} {l0 l2 : Value} : qEx d 66 2 st [l0, .int x, l2] σ μ la Q ↔ qEx d 66 3 (.int x :: st) [l0, .int x, l2] σ μ la Q := (qEx_eq (i := .iload_n 1) rfl).trans Iff.rfl
theorem x66_3 {x : Nat} {l1 l2 : Value} : qEx d 66 3 st [.ref x, l1, l2] σ μ la Q ↔ qEx d 66 4 (.ref x :: st) [.ref x, l1, l2] σ μ la Q := (qEx_eq (i := .aload_n 0) rfl).trans Iff.rfl
theorem x66_4 {a : Nat} : qEx d 66 4 (.ref a :: st) ls σ μ la Q ↔ (qOk σ a 4 = true ∧ qEx d 66 7 (qrf (σ.2 a 7) :: st) ls σ μ la Q) := (qEx_eq (i := .getfield 15) rfl).trans qExA_chk
theorem x66_7 {x : Int32} {l0 l2 : Value} : qEx d 66 7 st [l0, .int x, l2] σ μ la Q ↔ qEx d 66 8 (.int x :: st) [l0, .int x, l2] σ μ la Q := (qEx_eq (i := .iload_n 1) rfl).trans Iff.rfl
theorem x66_8 {x : Int32} {a : Nat} : qEx d 66 8 (.int x :: .ref a :: st) ls σ μ la Q ↔ (qIn x (qIld σ μ a) = true ∧ qEx d 66 9 (.int (μ a x.toNatClampNeg) :: st) ls σ μ la Q) := (qEx_eq (i := .iaload) rfl).trans qExA_chk
theorem x66_9 {x : Nat} {l1 l2 : Value} : qEx d 66 9 st [.ref x, l1, l2] σ μ la Q ↔ qEx d 66 10 (.ref x :: st) [.ref x, l1, l2] σ μ la Q := (qEx_eq (i := .aload_n 0) rfl).trans Iff.rfl
theorem x66_10 {a : Nat} : qEx d 66 10 (.ref a :: st) ls σ μ la Q ↔ (qOk σ a 4 = true ∧ qEx d 66 13 (qrf (σ.2 a 9) :: st) ls σ μ la Q) := (qEx_eq (i := .getfield 21) rfl).trans qExA_chk
theorem x66_13 {x : Int32} {l0 l2 : Value} : qEx d 66 13 st [l0, .int x, l2] σ μ la Q ↔ qEx d 66 14 (.int x :: st) [l0, .int x, l2] σ μ la Q := (qEx_eq (i := .iload_n 1) rfl).trans Iff.rfl
theorem x66_14 {x : Int32} {a : Nat} : qEx d 66 14 (.int x :: .ref a :: st) ls σ μ la Q ↔ (qIn x (qIld σ μ a) = true ∧ qEx d 66 15 (.int (μ a x.toNatClampNeg) :: st) ls σ μ la Q) := (qEx_eq (i := .iaload) rfl).trans qExA_chk
theorem x66_15 {x : Nat} {l1 l2 : Value} : qEx d 66 15 st [.ref x, l1, l2] σ μ la Q ↔ qEx d 66 16 (.ref x :: st) [.ref x, l1, l2] σ μ la Q := (qEx_eq (i := .aload_n 0) rfl).trans Iff.rfl
theorem x66_16 {a : Nat} : qEx d 66 16 (.ref a :: st) ls σ μ la Q ↔ (qOk σ a 4 = true ∧ qEx d 66 19 (qrf (σ.2 a 10) :: st) ls σ μ la Q) := (qEx_eq (i := .getfield 24) rfl).trans qExA_chk
theorem x66_19 {x : Int32} {l0 l2 : Value} : qEx d 66 19 st [l0, .int x, l2] σ μ la Q ↔ qEx d 66 20 (.int x :: st) [l0, .int x, l2] σ μ la Q := (qEx_eq (i := .iload_n 1) rfl).trans Iff.rfl
theorem x66_20 {x : Int32} {a : Nat} : qEx d 66 20 (.int x :: .ref a :: st) ls σ μ la Q ↔ (qIn x (qIld σ μ a) = true ∧ qEx d 66 21 (.int (μ a x.toNatClampNeg) :: st) ls σ μ la Q) := (qEx_eq (i := .iaload) rfl).trans qExA_chk
theorem x66_21 {y0 : Nat} {y1 : Int32} {y2 : Int32} {y3 : Int32} {y4 : Int32} {a : Nat} : qEx (d + 1) 66 21 [.int y4, .int y3, .int y2, .int y1, .ref y0, .ref a] ls σ μ la Q ↔ (qOk σ a 5 = true ∧ qEx d 71 0 [] [.ref a, .ref y0, .int y1, .int y2, .int y3, .int y4, .retAddr 0, .retAddr 0, .retAddr 0, .retAddr 0, .retAddr 0] σ μ la fun r σ' μ' la' => qEx (d + 1) 66 24 (r.toList ++ []) ls σ' μ' la' Q) := (qEx_eq (i := .invokevirtual 78) rfl).trans qExA_chk
theorem x66_24 {x : Nat} {l1 l2 : Value} : qEx d 66 24 st [.ref x, l1, l2] σ μ la Q ↔ qEx d 66 25 (.ref x :: st) [.ref x, l1, l2] σ μ la Q := (qEx_eq (i := .aload_n 0) rfl).trans Iff.rfl
theorem x66_25 {x : Int32} {l0 l2 : Value} : qEx d 66 25 st [l0, .int x, l2] σ μ la Q ↔ qEx d 66 26 (.int x :: st) [l0, .int x, l2] σ μ la Q := (qEx_eq (i := .iload_n 1) rfl).trans Iff.rfl
theorem x66_26 {x : Nat} {l0 l1 : Value} : qEx d 66 26 st [l0, l1, .ref x] σ μ la Q ↔ qEx d 66 27 (.ref x :: st) [l0, l1, .ref x] σ μ la Q := (qEx_eq (i := .aload_n 2) rfl).trans Iff.rfl
theorem x66_27 {y0 : Int32} {y1 : Nat} {a : Nat} : qEx (d + 1) 66 27 [.ref y1, .int y0, .ref a] ls σ μ la Q ↔ (qOk σ a 4 = true ∧ qEx d 65 0 [] [.ref a, .int y0, .ref y1, .retAddr 0] σ μ la fun r σ' μ' la' => qEx (d + 1) 66 30 (r.toList ++ []) ls σ' μ' la' Q) := (qEx_eq (i := .invokevirtual 82) rfl).trans qExA_chk
theorem x66_30 {x : Nat} {l1 l2 : Value} : qEx d 66 30 st [.ref x, l1, l2] σ μ la Q ↔ qEx d 66 31 (.ref x :: st) [.ref x, l1, l2] σ μ la Q := (qEx_eq (i := .aload_n 0) rfl).trans Iff.rfl
theorem x66_31 {a : Nat} : qEx d 66 31 (.ref a :: st) ls σ μ la Q ↔ (qOk σ a 4 = true ∧ qEx d 66 34 (qrf (σ.2 a 11) :: st) ls σ μ la Q) := (qEx_eq (i := .getfield 27) rfl).trans qExA_chk
theorem x66_34 {x : Int32} {l0 l2 : Value} : qEx d 66 34 st [l0, .int x, l2] σ μ la Q ↔ qEx d 66 35 (.int x :: st) [l0, .int x, l2] σ μ la Q := (qEx_eq (i := .iload_n 1) rfl).trans Iff.rfl
theorem x66_35 {x : Int32} {y : Nat} : qEx d 66 35 (.int x :: .ref y :: st) ls σ μ la Q ↔ qEx d 66 36 (.int x :: .ref y :: .int x :: .ref y :: st) ls σ μ la Q := (qEx_eq (i := .dup2) rfl).trans Iff.rfl
theorem x66_36 {x : Int32} {a : Nat} : qEx d 66 36 (.int x :: .ref a :: st) ls σ μ la Q ↔ (qIn x (qIld σ μ a) = true ∧ qEx d 66 37 (.int (μ a x.toNatClampNeg) :: st) ls σ μ la Q) := (qEx_eq (i := .iaload) rfl).trans qExA_chk
theorem x66_37 {x : Nat} {l0 l1 : Value} : qEx d 66 37 st [l0, l1, .ref x] σ μ la Q ↔ qEx d 66 38 (.ref x :: st) [l0, l1, .ref x] σ μ la Q := (qEx_eq (i := .aload_n 2) rfl).trans Iff.rfl
theorem x66_38 {a : Nat} : qEx d 66 38 (.ref a :: st) ls σ μ la Q ↔ (qOk σ a 5 = true ∧ qEx d 66 41 (.int (μ a 1) :: st) ls σ μ la Q) := (qEx_eq (i := .getfield 67) rfl).trans qExA_chk
theorem x66_41 {x y : Int32} : qEx d 66 41 (.int y :: .int x :: st) ls σ μ la Q ↔ qEx d 66 42 (.int (x + y) :: st) ls σ μ la Q := (qEx_eq (i := .iadd) rfl).trans Iff.rfl
theorem x66_42 {x y : Int32} {a : Nat} : qEx d 66 42 (.int y :: .int x :: .ref a :: st) ls σ μ la Q ↔ (qIn x (qLen σ 10 a) = true ∧ qEx d 66 43 st ls σ (qset μ a x.toNatClampNeg y) la Q) := (qEx_eq (i := .iastore) rfl).trans qExA_chk
theorem x66_43 {x : Nat} {l1 l2 : Value} : qEx d 66 43 st [.ref x, l1, l2] σ μ la Q ↔ qEx d 66 44 (.ref x :: st) [.ref x, l1, l2] σ μ la Q := (qEx_eq (i := .aload_n 0) rfl).trans Iff.rfl
theorem x66_44 {a : Nat} : qEx d 66 44 (.ref a :: st) ls σ μ la Q ↔ (qOk σ a 4 = true ∧ qEx d 66 47 (qrf (σ.2 a 10) :: st) ls σ μ la Q) := (qEx_eq (i := .getfield 24) rfl).trans qExA_chk
theorem x66_47 {x : Int32} {l0 l2 : Value} : qEx d 66 47 st [l0, .int x, l2] σ μ la Q ↔ qEx d 66 48 (.int x :: st) [l0, .int x, l2] σ μ la Q := (qEx_eq (i := .iload_n 1) rfl).trans Iff.rfl
theorem x66_48 {x : Nat} {l1 l2 : Value} : qEx d 66 48 st [.ref x, l1, l2] σ μ la Q ↔ qEx d 66 49 (.ref x :: st) [.ref x, l1, l2] σ μ la Q := (qEx_eq (i := .aload_n 0) rfl).trans Iff.rfl
theorem x66_49 {a : Nat} : qEx d 66 49 (.ref a :: st) ls σ μ la Q ↔ (qOk σ a 4 = true ∧ qEx d 66 52 (.int (μ a 5) :: st) ls σ μ la Q) := (qEx_eq (i := .getfield 49) rfl).trans qExA_chk
theorem x66_52  : qEx d 66 52 st ls σ μ la Q ↔ qEx d 66 53 (.int 1 :: st) ls σ μ la Q := (qEx_eq (i := .iconst 1) rfl).trans Iff.rfl
theorem x66_53 {x y : Int32} : qEx d 66 53 (.int y :: .int x :: st) ls σ μ la Q ↔ (if ¬ x = y then qEx d 66 63 st ls σ μ la Q else qEx d 66 56 st ls σ μ la Q) := (qEx_eq (i := .if_icmp .ne 10) rfl).trans qExA_ite
theorem x66_56 {x : Nat} {l0 l1 : Value} : qEx d 66 56 st [l0, l1, .ref x] σ μ la Q ↔ qEx d 66 57 (.ref x :: st) [l0, l1, .ref x] σ μ la Q := (qEx_eq (i := .aload_n 2) rfl).trans Iff.rfl
theorem x66_57 {a : Nat} : qEx d 66 57 (.ref a :: st) ls σ μ la Q ↔ (qOk σ a 5 = true ∧ qEx d 66 60 (.int (μ a 3) :: st) ls σ μ la Q) := (qEx_eq (i := .getfield 86) rfl).trans qExA_chk
theorem x66_60  : qEx d 66 60 st ls σ μ la Q ↔ qEx d 66 64 st ls σ μ la Q := (qEx_eq (i := .goto 4) rfl).trans Iff.rfl
theorem x66_63  : qEx d 66 63 st ls σ μ la Q ↔ qEx d 66 64 (.int 0 :: st) ls σ μ la Q := (qEx_eq (i := .iconst 0) rfl).trans Iff.rfl
theorem x66_64 {x y : Int32} {a : Nat} : qEx d 66 64 (.int y :: .int x :: .ref a :: st) ls σ μ la Q ↔ (qIn x (qLen σ 10 a) = true ∧ qEx d 66 65 st ls σ (qset μ a x.toNatClampNeg y) la Q) := (qEx_eq (i := .iastore) rfl).trans qExA_chk
theorem x66_65 {x : Nat} {l1 l2 : Value} : qEx d 66 65 st [.ref x, l1, l2] σ μ la Q ↔ qEx d 66 66 (.ref x :: st) [.ref x, l1, l2] σ μ la Q := (qEx_eq (i := .aload_n 0) rfl).trans Iff.rfl
theorem x66_66 {a : Nat} : qEx d 66 66 (.ref a :: st) ls σ μ la Q ↔ (qOk σ a 4 = true ∧ qEx d 66 69 (qrf (σ.2 a 7) :: st) ls σ μ la Q) := (qEx_eq (i := .getfield 15) rfl).trans qExA_chk
theorem x66_69 {x : Int32} {l0 l2 : Value} : qEx d 66 69 st [l0, .int x, l2] σ μ la Q ↔ qEx d 66 70 (.int x :: st) [l0, .int x, l2] σ μ la Q := (qEx_eq (i := .iload_n 1) rfl).trans Iff.rfl
theorem x66_70 {x : Int32} {a : Nat} : qEx d 66 70 (.int x :: .ref a :: st) ls σ μ la Q ↔ (qIn x (qIld σ μ a) = true ∧ qEx d 66 71 (.int (μ a x.toNatClampNeg) :: st) ls σ μ la Q) := (qEx_eq (i := .iaload) rfl).trans qExA_chk
theorem x66_71  : qEx d 66 71 st ls σ μ la Q ↔ qEx d 66 72 (.int 5 :: st) ls σ μ la Q := (qEx_eq (i := .iconst 5) rfl).trans Iff.rfl
theorem x66_72 {x y : Int32} : qEx d 66 72 (.int y :: .int x :: st) ls σ μ la Q ↔ (if ¬ x = y then qEx d 66 91 st ls σ μ la Q else qEx d 66 75 st ls σ μ la Q) := (qEx_eq (i := .if_icmp .ne 19) rfl).trans qExA_ite
theorem x66_75 {x : Nat} {l1 l2 : Value} : qEx d 66 75 st [.ref x, l1, l2] σ μ la Q ↔ qEx d 66 76 (.ref x :: st) [.ref x, l1, l2] σ μ la Q := (qEx_eq (i := .aload_n 0) rfl).trans Iff.rfl
theorem x66_76 {a : Nat} : qEx d 66 76 (.ref a :: st) ls σ μ la Q ↔ (qOk σ a 4 = true ∧ qEx d 66 79 (qrf (σ.2 a 9) :: st) ls σ μ la Q) := (qEx_eq (i := .getfield 21) rfl).trans qExA_chk
theorem x66_79 {x : Int32} {l0 l2 : Value} : qEx d 66 79 st [l0, .int x, l2] σ μ la Q ↔ qEx d 66 80 (.int x :: st) [l0, .int x, l2] σ μ la Q := (qEx_eq (i := .iload_n 1) rfl).trans Iff.rfl
theorem x66_80 {x : Nat} {l1 l2 : Value} : qEx d 66 80 st [.ref x, l1, l2] σ μ la Q ↔ qEx d 66 81 (.ref x :: st) [.ref x, l1, l2] σ μ la Q := (qEx_eq (i := .aload_n 0) rfl).trans Iff.rfl
theorem x66_81 {a : Nat} : qEx d 66 81 (.ref a :: st) ls σ μ la Q ↔ (qOk σ a 4 = true ∧ qEx d 66 84 (qrf (σ.2 a 9) :: st) ls σ μ la Q) := (qEx_eq (i := .getfield 21) rfl).trans qExA_chk
theorem x66_84 {x : Int32} {l0 l2 : Value} : qEx d 66 84 st [l0, .int x, l2] σ μ la Q ↔ qEx d 66 85 (.int x :: st) [l0, .int x, l2] σ μ la Q := (qEx_eq (i := .iload_n 1) rfl).trans Iff.rfl
theorem x66_85 {x : Int32} {a : Nat} : qEx d 66 85 (.int x :: .ref a :: st) ls σ μ la Q ↔ (qIn x (qIld σ μ a) = true ∧ qEx d 66 86 (.int (μ a x.toNatClampNeg) :: st) ls σ μ la Q) := (qEx_eq (i := .iaload) rfl).trans qExA_chk
theorem x66_86  : qEx d 66 86 st ls σ μ la Q ↔ qEx d 66 87 (.int 1 :: st) ls σ μ la Q := (qEx_eq (i := .iconst 1) rfl).trans Iff.rfl
theorem x66_87 {x y : Int32} : qEx d 66 87 (.int y :: .int x :: st) ls σ μ la Q ↔ qEx d 66 88 (.int (x + y) :: st) ls σ μ la Q := (qEx_eq (i := .iadd) rfl).trans Iff.rfl
theorem x66_88  : qEx d 66 88 st ls σ μ la Q ↔ qEx d 66 89 (.int 4 :: st) ls σ μ la Q := (qEx_eq (i := .iconst 4) rfl).trans Iff.rfl
theorem x66_89 {x y : Int32} : qEx d 66 89 (.int y :: .int x :: st) ls σ μ la Q ↔ (¬ y = 0 ∧ qEx d 66 90 (.int (x - x / y * y) :: st) ls σ μ la Q) := (qEx_eq (i := .irem) rfl).trans qExA_chk
theorem x66_90 {x y : Int32} {a : Nat} : qEx d 66 90 (.int y :: .int x :: .ref a :: st) ls σ μ la Q ↔ (qIn x (qLen σ 10 a) = true ∧ qEx d 66 91 st ls σ (qset μ a x.toNatClampNeg y) la Q) := (qEx_eq (i := .iastore) rfl).trans qExA_chk
theorem x66_91  : qEx d 66 91 [] ls σ μ la Q ↔ Q none σ μ la := (qEx_eq (i := .return_) rfl).trans Iff.rfl
theorem x67_0  : qEx d 67 0 st ls σ μ la Q ↔ qEx d 67 1 (.int 0 :: st) ls σ μ la Q := (qEx_eq (i := .iconst 0) rfl).trans Iff.rfl
theorem x67_1 {x : Int32} {l0 l1 l2 l3 : Value} : qEx d 67 1 (.int x :: st) [l0, l1, l2, l3] σ μ la Q ↔ qEx d 67 2 st [l0, l1, .int x, l3] σ μ la Q := (qEx_eq (i := .istore_n 2) rfl).trans Iff.rfl
theorem x67_2  : qEx d 67 2 st ls σ μ la Q ↔ qEx d 67 3 (.int 0 :: st) ls σ μ la Q := (qEx_eq (i := .iconst 0) rfl).trans Iff.rfl
theorem x67_3 {x : Int32} {l0 l1 l2 l3 : Value} : qEx d 67 3 (.int x :: st) [l0, l1, l2, l3] σ μ la Q ↔ qEx d 67 4 st [l0, l1, l2, .int x] σ μ la Q := (qEx_eq (i := .istore_n 3) rfl).trans Iff.rfl
theorem x67_4 {x : Int32} {l0 l1 l2 : Value} : qEx d 67 4 st [l0, l1, l2, .int x] σ μ la Q ↔ qEx d 67 5 (.int x :: st) [l0, l1, l2, .int x] σ μ la Q := (qEx_eq (i := .iload_n 3) rfl).trans Iff.rfl
theorem x67_5 {x : Nat} {l1 l2 l3 : Value} : qEx d 67 5 st [.ref x, l1, l2, l3] σ μ la Q ↔ qEx d 67 6 (.ref x :: st) [.ref x, l1, l2, l3] σ μ la Q := (qEx_eq (i := .aload_n 0) rfl).trans Iff.rfl
theorem x67_6 {a : Nat} : qEx d 67 6 (.ref a :: st) ls σ μ la Q ↔ (qOk σ a 4 = true ∧ qEx d 67 9 (.int (μ a 2) :: st) ls σ μ la Q) := (qEx_eq (i := .getfield 40) rfl).trans qExA_chk
theorem x67_9 {x y : Int32} : qEx d 67 9 (.int y :: .int x :: st) ls σ μ la Q ↔ (if y ≤ x then qEx d 67 40 st ls σ μ la Q else qEx d 67 12 st ls σ μ la Q) := (qEx_eq (i := .if_icmp .ge 31) rfl).trans qExA_ite
theorem x67_12 {x : Nat} {l1 l2 l3 : Value} : qEx d 67 12 st [.ref x, l1, l2, l3] σ μ la Q ↔ qEx d 67 13 (.ref x :: st) [.ref x, l1, l2, l3] σ μ la Q := (qEx_eq (i := .aload_n 0) rfl).trans Iff.rfl
theorem x67_13 {a : Nat} : qEx d 67 13 (.ref a :: st) ls σ μ la Q ↔ (qOk σ a 4 = true ∧ qEx d 67 16 (qrf (σ.2 a 10) :: st) ls σ μ la Q) := (qEx_eq (i := .getfield 24) rfl).trans qExA_chk
theorem x67_16 {x : Int32} {l0 l1 l2 : Value} : qEx d 67 16 st [l0, l1, l2, .int x] σ μ la Q ↔ qEx d 67 17 (.int x :: st) [l0, l1, l2, .int x] σ μ la Q := (qEx_eq (i := .iload_n 3) rfl).trans Iff.rfl
theorem x67_17 {x : Int32} {a : Nat} : qEx d 67 17 (.int x :: .ref a :: st) ls σ μ la Q ↔ (qIn x (qIld σ μ a) = true ∧ qEx d 67 18 (.int (μ a x.toNatClampNeg) :: st) ls σ μ la Q) := (qEx_eq (i := .iaload) rfl).trans qExA_chk
theorem x67_18 {x : Int32} : qEx d 67 18 (.int x :: st) ls σ μ la Q ↔ (if x ≤ 0 then qEx d 67 34 st ls σ μ la Q else qEx d 67 21 st ls σ μ la Q) := (qEx_eq (i := .ifCond .le 16) rfl).trans qExA_ite
theorem x67_21 {x : Nat} {l1 l2 l3 : Value} : qEx d 67 21 st [.ref x, l1, l2, l3] σ μ la Q ↔ qEx d 67 22 (.ref x :: st) [.ref x, l1, l2, l3] σ μ la Q := (qEx_eq (i := .aload_n 0) rfl).trans Iff.rfl
theorem x67_22 {x : Int32} {l0 l1 l2 : Value} : qEx d 67 22 st [l0, l1, l2, .int x] σ μ la Q ↔ qEx d 67 23 (.int x :: st) [l0, l1, l2, .int x] σ μ la Q := (qEx_eq (i := .iload_n 3) rfl).trans Iff.rfl
theorem x67_23 {x : Nat} {l0 l2 l3 : Value} : qEx d 67 23 st [l0, .ref x, l2, l3] σ μ la Q ↔ qEx d 67 24 (.ref x :: st) [l0, .ref x, l2, l3] σ μ la Q := (qEx_eq (i := .aload_n 1) rfl).trans Iff.rfl
theorem x67_24 {y0 : Int32} {y1 : Nat} {a : Nat} : qEx (d + 1) 67 24 [.ref y1, .int y0, .ref a] ls σ μ la Q ↔ (qOk σ a 4 = true ∧ qEx d 66 0 [] [.ref a, .int y0, .ref y1] σ μ la fun r σ' μ' la' => qEx (d + 1) 67 27 (r.toList ++ []) ls σ' μ' la' Q) := (qEx_eq (i := .invokevirtual 89) rfl).trans qExA_chk
theorem x67_27 {x : Int32} {l0 l1 l3 : Value} : qEx d 67 27 st [l0, l1, .int x, l3] σ μ la Q ↔ qEx d 67 28 (.int x :: st) [l0, l1, .int x, l3] σ μ la Q := (qEx_eq (i := .iload_n 2) rfl).trans Iff.rfl
theorem x67_28 {x : Nat} {l0 l2 l3 : Value} : qEx d 67 28 st [l0, .ref x, l2, l3] σ μ la Q ↔ qEx d 67 29 (.ref x :: st) [l0, .ref x, l2, l3] σ μ la Q := (qEx_eq (i := .aload_n 1) rfl).trans Iff.rfl
theorem x67_29 {a : Nat} : qEx d 67 29 (.ref a :: st) ls σ μ la Q ↔ (qOk σ a 5 = true ∧ qEx d 67 32 (.int (μ a 1) :: st) ls σ μ la Q) := (qEx_eq (i := .getfield 67) rfl).trans qExA_chk
theorem x67_32 {x y : Int32} : qEx d 67 32 (.int y :: .int x :: st) ls σ μ la Q ↔ qEx d 67 33 (.int (x + y) :: st) ls σ μ la Q := (qEx_eq (i := .iadd) rfl).trans Iff.rfl
theorem x67_33 {x : Int32} {l0 l1 l2 l3 : Value} : qEx d 67 33 (.int x :: st) [l0, l1, l2, l3] σ μ la Q ↔ qEx d 67 34 st [l0, l1, .int x, l3] σ μ la Q := (qEx_eq (i := .istore_n 2) rfl).trans Iff.rfl
theorem x67_34 {x : Int32} {l0 l1 l2 : Value} : qEx d 67 34 st [l0, l1, l2, .int x] σ μ la Q ↔ qEx d 67 37 st [l0, l1, l2, .int (x + 1)] σ μ la Q := (qEx_eq (i := .iinc 3 1) rfl).trans Iff.rfl
theorem x67_37  : qEx d 67 37 st ls σ μ la Q ↔ qEx d 67 4 st ls σ μ la Q := (qEx_eq (i := .goto (-33)) rfl).trans Iff.rfl
theorem x67_40 {x : Nat} {l1 l2 l3 : Value} : qEx d 67 40 st [.ref x, l1, l2, l3] σ μ la Q ↔ qEx d 67 41 (.ref x :: st) [.ref x, l1, l2, l3] σ μ la Q := (qEx_eq (i := .aload_n 0) rfl).trans Iff.rfl
theorem x67_41 {x : Nat} : qEx d 67 41 (.ref x :: st) ls σ μ la Q ↔ qEx d 67 42 (.ref x :: .ref x :: st) ls σ μ la Q := (qEx_eq (i := .dup) rfl).trans Iff.rfl
theorem x67_42 {a : Nat} : qEx d 67 42 (.ref a :: st) ls σ μ la Q ↔ (qOk σ a 4 = true ∧ qEx d 67 45 (.int (μ a 3) :: st) ls σ μ la Q) := (qEx_eq (i := .getfield 43) rfl).trans qExA_chk
theorem x67_45  : qEx d 67 45 st ls σ μ la Q ↔ qEx d 67 46 (.int 1 :: st) ls σ μ la Q := (qEx_eq (i := .iconst 1) rfl).trans Iff.rfl
theorem x67_46 {x y : Int32} : qEx d 67 46 (.int y :: .int x :: st) ls σ μ la Q ↔ qEx d 67 47 (.int (x + y) :: st) ls σ μ la Q := (qEx_eq (i := .iadd) rfl).trans Iff.rfl
theorem x67_47 {x : Int32} {a : Nat} : qEx d 67 47 (.int x :: .ref a :: st) ls σ μ la Q ↔ (qOk σ a 4 = true ∧ qEx d 67 50 st ls σ (qset μ a 3 x) la Q) := (qEx_eq (i := .putfield 43) rfl).trans qExA_chk
theorem x67_50 {x : Int32} {l0 l1 l3 : Value} : qEx d 67 50 st [l0, l1, .int x, l3] σ μ la Q ↔ qEx d 67 51 (.int x :: st) [l0, l1, .int x, l3] σ μ la Q := (qEx_eq (i := .iload_n 2) rfl).trans Iff.rfl
theorem x67_51 {x : Int32} : qEx d 67 51 [.int x] ls σ μ la Q ↔ Q (some (.int x)) σ μ la := (qEx_eq (i := .ireturn) rfl).trans Iff.rfl
theorem x68_0  : qEx d 68 0 st ls σ μ la Q ↔ qEx d 68 1 (.int 0 :: st) ls σ μ la Q := (qEx_eq (i := .iconst 0) rfl).trans Iff.rfl
theorem x68_1 {x : Int32} {l0 l1 l2 : Value} : qEx d 68 1 (.int x :: st) [l0, l1, l2] σ μ la Q ↔ qEx d 68 2 st [l0, .int x, l2] σ μ la Q := (qEx_eq (i := .istore_n 1) rfl).trans Iff.rfl
theorem x68_2  : qEx d 68 2 st ls σ μ la Q ↔ qEx d 68 3 (.int 0 :: st) ls σ μ la Q := (qEx_eq (i := .iconst 0) rfl).trans Iff.rfl
theorem x68_3 {x : Int32} {l0 l1 l2 : Value} : qEx d 68 3 (.int x :: st) [l0, l1, l2] σ μ la Q ↔ qEx d 68 4 st [l0, l1, .int x] σ μ la Q := (qEx_eq (i := .istore_n 2) rfl).trans Iff.rfl
theorem x68_4 {x : Int32} {l0 l1 : Value} : qEx d 68 4 st [l0, l1, .int x] σ μ la Q ↔ qEx d 68 5 (.int x :: st) [l0, l1, .int x] σ μ la Q := (qEx_eq (i := .iload_n 2) rfl).trans Iff.rfl
theorem x68_5 {x : Nat} {l1 l2 : Value} : qEx d 68 5 st [.ref x, l1, l2] σ μ la Q ↔ qEx d 68 6 (.ref x :: st) [.ref x, l1, l2] σ μ la Q := (qEx_eq (i := .aload_n 0) rfl).trans Iff.rfl
theorem x68_6 {a : Nat} : qEx d 68 6 (.ref a :: st) ls σ μ la Q ↔ (qOk σ a 4 = true ∧ qEx d 68 9 (.int (μ a 2) :: st) ls σ μ la Q) := (qEx_eq (i := .getfield 40) rfl).trans qExA_chk
theorem x68_9 {x y : Int32} : qEx d 68 9 (.int y :: .int x :: st) ls σ μ la Q ↔ (if y ≤ x then qEx d 68 27 st ls σ μ la Q else qEx d 68 12 st ls σ μ la Q) := (qEx_eq (i := .if_icmp .ge 18) rfl).trans qExA_ite
theorem x68_12 {x : Int32} {l0 l2 : Value} : qEx d 68 12 st [l0, .int x, l2] σ μ la Q ↔ qEx d 68 13 (.int x :: st) [l0, .int x, l2] σ μ la Q := (qEx_eq (i := .iload_n 1) rfl).trans Iff.rfl
theorem x68_13 {x : Nat} {l1 l2 : Value} : qEx d 68 13 st [.ref x, l1, l2] σ μ la Q ↔ qEx d 68 14 (.ref x :: st) [.ref x, l1, l2] σ μ la Q := (qEx_eq (i := .aload_n 0) rfl).trans Iff.rfl
theorem x68_14 {a : Nat} : qEx d 68 14 (.ref a :: st) ls σ μ la Q ↔ (qOk σ a 4 = true ∧ qEx d 68 17 (qrf (σ.2 a 10) :: st) ls σ μ la Q) := (qEx_eq (i := .getfield 24) rfl).trans qExA_chk
theorem x68_17 {x : Int32} {l0 l1 : Value} : qEx d 68 17 st [l0, l1, .int x] σ μ la Q ↔ qEx d 68 18 (.int x :: st) [l0, l1, .int x] σ μ la Q := (qEx_eq (i := .iload_n 2) rfl).trans Iff.rfl
theorem x68_18 {x : Int32} {a : Nat} : qEx d 68 18 (.int x :: .ref a :: st) ls σ μ la Q ↔ (qIn x (qIld σ μ a) = true ∧ qEx d 68 19 (.int (μ a x.toNatClampNeg) :: st) ls σ μ la Q) := (qEx_eq (i := .iaload) rfl).trans qExA_chk
theorem x68_19 {x y : Int32} : qEx d 68 19 (.int y :: .int x :: st) ls σ μ la Q ↔ qEx d 68 20 (.int (x + y) :: st) ls σ μ la Q := (qEx_eq (i := .iadd) rfl).trans Iff.rfl
theorem x68_20 {x : Int32} {l0 l1 l2 : Value} : qEx d 68 20 (.int x :: st) [l0, l1, l2] σ μ la Q ↔ qEx d 68 21 st [l0, .int x, l2] σ μ la Q := (qEx_eq (i := .istore_n 1) rfl).trans Iff.rfl
theorem x68_21 {x : Int32} {l0 l1 : Value} : qEx d 68 21 st [l0, l1, .int x] σ μ la Q ↔ qEx d 68 24 st [l0, l1, .int (x + 1)] σ μ la Q := (qEx_eq (i := .iinc 2 1) rfl).trans Iff.rfl
theorem x68_24  : qEx d 68 24 st ls σ μ la Q ↔ qEx d 68 4 st ls σ μ la Q := (qEx_eq (i := .goto (-20)) rfl).trans Iff.rfl
theorem x68_27 {x : Int32} {l0 l2 : Value} : qEx d 68 27 st [l0, .int x, l2] σ μ la Q ↔ qEx d 68 28 (.int x :: st) [l0, .int x, l2] σ μ la Q := (qEx_eq (i := .iload_n 1) rfl).trans Iff.rfl
theorem x68_28 {x : Int32} : qEx d 68 28 [.int x] ls σ μ la Q ↔ Q (some (.int x)) σ μ la := (qEx_eq (i := .ireturn) rfl).trans Iff.rfl
theorem x69_0  : qEx d 69 0 st ls σ μ la Q ↔ qEx d 69 1 (.int 0 :: st) ls σ μ la Q := (qEx_eq (i := .iconst 0) rfl).trans Iff.rfl
theorem x69_1 {x : Int32} {l0 l1 l2 : Value} : qEx d 69 1 (.int x :: st) [l0, l1, l2] σ μ la Q ↔ qEx d 69 2 st [l0, .int x, l2] σ μ la Q := (qEx_eq (i := .istore_n 1) rfl).trans Iff.rfl
theorem x69_2  : qEx d 69 2 st ls σ μ la Q ↔ qEx d 69 3 (.int 0 :: st) ls σ μ la Q := (qEx_eq (i := .iconst 0) rfl).trans Iff.rfl
theorem x69_3 {x : Int32} {l0 l1 l2 : Value} : qEx d 69 3 (.int x :: st) [l0, l1, l2] σ μ la Q ↔ qEx d 69 4 st [l0, l1, .int x] σ μ la Q := (qEx_eq (i := .istore_n 2) rfl).trans Iff.rfl
theorem x69_4 {x : Int32} {l0 l1 : Value} : qEx d 69 4 st [l0, l1, .int x] σ μ la Q ↔ qEx d 69 5 (.int x :: st) [l0, l1, .int x] σ μ la Q := (qEx_eq (i := .iload_n 2) rfl).trans Iff.rfl
theorem x69_5 {x : Nat} {l1 l2 : Value} : qEx d 69 5 st [.ref x, l1, l2] σ μ la Q ↔ qEx d 69 6 (.ref x :: st) [.ref x, l1, l2] σ μ la Q := (qEx_eq (i := .aload_n 0) rfl).trans Iff.rfl
theorem x69_6 {a : Nat} : qEx d 69 6 (.ref a :: st) ls σ μ la Q ↔ (qOk σ a 4 = true ∧ qEx d 69 9 (.int (μ a 2) :: st) ls σ μ la Q) := (qEx_eq (i := .getfield 40) rfl).trans qExA_chk
theorem x69_9 {x y : Int32} : qEx d 69 9 (.int y :: .int x :: st) ls σ μ la Q ↔ (if y ≤ x then qEx d 69 27 st ls σ μ la Q else qEx d 69 12 st ls σ μ la Q) := (qEx_eq (i := .if_icmp .ge 18) rfl).trans qExA_ite
theorem x69_12 {x : Int32} {l0 l2 : Value} : qEx d 69 12 st [l0, .int x, l2] σ μ la Q ↔ qEx d 69 13 (.int x :: st) [l0, .int x, l2] σ μ la Q := (qEx_eq (i := .iload_n 1) rfl).trans Iff.rfl
theorem x69_13 {x : Nat} {l1 l2 : Value} : qEx d 69 13 st [.ref x, l1, l2] σ μ la Q ↔ qEx d 69 14 (.ref x :: st) [.ref x, l1, l2] σ μ la Q := (qEx_eq (i := .aload_n 0) rfl).trans Iff.rfl
theorem x69_14 {a : Nat} : qEx d 69 14 (.ref a :: st) ls σ μ la Q ↔ (qOk σ a 4 = true ∧ qEx d 69 17 (qrf (σ.2 a 11) :: st) ls σ μ la Q) := (qEx_eq (i := .getfield 27) rfl).trans qExA_chk
theorem x69_17 {x : Int32} {l0 l1 : Value} : qEx d 69 17 st [l0, l1, .int x] σ μ la Q ↔ qEx d 69 18 (.int x :: st) [l0, l1, .int x] σ μ la Q := (qEx_eq (i := .iload_n 2) rfl).trans Iff.rfl
theorem x69_18 {x : Int32} {a : Nat} : qEx d 69 18 (.int x :: .ref a :: st) ls σ μ la Q ↔ (qIn x (qIld σ μ a) = true ∧ qEx d 69 19 (.int (μ a x.toNatClampNeg) :: st) ls σ μ la Q) := (qEx_eq (i := .iaload) rfl).trans qExA_chk
theorem x69_19 {x y : Int32} : qEx d 69 19 (.int y :: .int x :: st) ls σ μ la Q ↔ qEx d 69 20 (.int (x + y) :: st) ls σ μ la Q := (qEx_eq (i := .iadd) rfl).trans Iff.rfl
theorem x69_20 {x : Int32} {l0 l1 l2 : Value} : qEx d 69 20 (.int x :: st) [l0, l1, l2] σ μ la Q ↔ qEx d 69 21 st [l0, .int x, l2] σ μ la Q := (qEx_eq (i := .istore_n 1) rfl).trans Iff.rfl
theorem x69_21 {x : Int32} {l0 l1 : Value} : qEx d 69 21 st [l0, l1, .int x] σ μ la Q ↔ qEx d 69 24 st [l0, l1, .int (x + 1)] σ μ la Q := (qEx_eq (i := .iinc 2 1) rfl).trans Iff.rfl
theorem x69_24  : qEx d 69 24 st ls σ μ la Q ↔ qEx d 69 4 st ls σ μ la Q := (qEx_eq (i := .goto (-20)) rfl).trans Iff.rfl
theorem x69_27 {x : Int32} {l0 l2 : Value} : qEx d 69 27 st [l0, .int x, l2] σ μ la Q ↔ qEx d 69 28 (.int x :: st) [l0, .int x, l2] σ μ la Q := (qEx_eq (i := .iload_n 1) rfl).trans Iff.rfl
theorem x69_28 {x : Int32} : qEx d 69 28 [.int x] ls σ μ la Q ↔ Q (some (.int x)) σ μ la := (qEx_eq (i := .ireturn) rfl).trans Iff.rfl
theorem x70_0 {x : Nat} : qEx d 70 0 st [.ref x] σ μ la Q ↔ qEx d 70 1 (.ref x :: st) [.ref x] σ μ la Q := (qEx_eq (i := .aload_n 0) rfl).trans Iff.rfl
theorem x70_1 {a : Nat} : qEx d 70 1 [.ref a] ls σ μ la Q ↔ qEx d 70 4 [] ls σ μ la Q := (qEx_eq (i := .invokespecial 3) rfl).trans Iff.rfl
theorem x70_4 {x : Nat} : qEx d 70 4 st [.ref x] σ μ la Q ↔ qEx d 70 5 (.ref x :: st) [.ref x] σ μ la Q := (qEx_eq (i := .aload_n 0) rfl).trans Iff.rfl
theorem x70_5  : qEx d 70 5 st ls σ μ la Q ↔ qEx d 70 7 (.int 8 :: st) ls σ μ la Q := (qEx_eq (i := .bipush 8) rfl).trans Iff.rfl
theorem x70_7 {x : Int32} : qEx d 70 7 (.int x :: st) ls σ μ la Q ↔ ((0 ≤ x ∧ qSh σ.1 = (10, x.toNatClampNeg) ∧ x.toNatClampNeg ≤ 5000 ∧ σ.1 < 1000) ∧ qEx d 70 9 (.ref σ.1 :: st) ls (σ.1 + 1, σ.2) (qclr μ σ.1 0) (qclr la σ.1 0) Q) := ((qEx_eq (i := .newarray .int) rfl).trans qExA_chk).trans (qAndN (by decide))
theorem x70_9 {a b : Nat} : qEx d 70 9 (.ref b :: .ref a :: st) ls σ μ la Q ↔ (qOk σ a 5 = true ∧ qEx d 70 12 st ls (σ.1, qsetR σ.2 a 0 (some b)) μ la Q) := ((qEx_eq (i := .putfield 9) rfl).trans qExA_chk).trans (qAndL ⟨by decide +kernel, by decide +kernel⟩)
theorem x70_12  : qEx d 70 12 [] ls σ μ la Q ↔ Q none σ μ la := (qEx_eq (i := .return_) rfl).trans Iff.rfl
theorem x71_0 {x : Nat} {l0 l2 l3 l4 l5 l6 l7 l8 l9 l10 : Value} : qEx d 71 0 st [l0, .ref x, l2, l3, l4, l5, l6, l7, l8, l9, l10] σ μ la Q ↔ qEx d 71 1 (.ref x :: st) [l0, .ref x, l2, l3, l4, l5, l6, l7, l8, l9, l10] σ μ la Q := (qEx_eq (i := .aload_n 1) rfl).trans Iff.rfl
theorem x71_1 {a : Nat} : qEx d 71 1 (.ref a :: st) ls σ μ la Q ↔ (qOk σ a 4 = true ∧ qEx d 71 4 (.int (μ a 4) :: st) ls σ μ la Q) := (qEx_eq (i := .getfield 15) rfl).trans qExA_chk
theorem x71_4  : qEx d 71 4 st ls σ μ la Q ↔ qEx d 71 5 (.int 1 :: st) ls σ μ la Q := (qEx_eq (i := .iconst 1) rfl).trans Iff.rfl
theorem x71_5 {x y : Int32} : qEx d 71 5 (.int y :: .int x :: st) ls σ μ la Q ↔ (if ¬ x = y then qEx d 71 12 st ls σ μ la Q else qEx d 71 8 st ls σ μ la Q) := (qEx_eq (i := .if_icmp .ne 7) rfl).trans qExA_ite
theorem x71_8  : qEx d 71 8 st ls σ μ la Q ↔ qEx d 71 9 (.int 0 :: st) ls σ μ la Q := (qEx_eq (i := .iconst 0) rfl).trans Iff.rfl
theorem x71_9  : qEx d 71 9 st ls σ μ la Q ↔ qEx d 71 14 st ls σ μ la Q := (qEx_eq (i := .goto 5) rfl).trans Iff.rfl
theorem x71_12 {x : Int32} {l0 l1 l2 l3 l5 l6 l7 l8 l9 l10 : Value} : qEx d 71 12 st [l0, l1, l2, l3, .int x, l5, l6, l7, l8, l9, l10] σ μ la Q ↔ qEx d 71 14 (.int x :: st) [l0, l1, l2, l3, .int x, l5, l6, l7, l8, l9, l10] σ μ la Q := (qEx_eq (i := .iload 4) rfl).trans Iff.rfl
theorem x71_14 {x : Int32} {l0 l1 l2 l3 l4 l5 l6 l7 l8 l9 l10 : Value} : qEx d 71 14 (.int x :: st) [l0, l1, l2, l3, l4, l5, l6, l7, l8, l9, l10] σ μ la Q ↔ qEx d 71 16 st [l0, l1, l2, l3, l4, l5, .int x, l7, l8, l9, l10] σ μ la Q := (qEx_eq (i := .istore 6) rfl).trans Iff.rfl
theorem x71_16 {x : Nat} {l1 l2 l3 l4 l5 l6 l7 l8 l9 l10 : Value} : qEx d 71 16 st [.ref x, l1, l2, l3, l4, l5, l6, l7, l8, l9, l10] σ μ la Q ↔ qEx d 71 17 (.ref x :: st) [.ref x, l1, l2, l3, l4, l5, l6, l7, l8, l9, l10] σ μ la Q := (qEx_eq (i := .aload_n 0) rfl).trans Iff.rfl
theorem x71_17 {x : Int32} {l0 l1 l2 l3 l4 l5 l7 l8 l9 l10 : Value} : qEx d 71 17 st [l0, l1, l2, l3, l4, l5, .int x, l7, l8, l9, l10] σ μ la Q ↔ qEx d 71 19 (.int x :: st) [l0, l1, l2, l3, l4, l5, .int x, l7, l8, l9, l10] σ μ la Q := (qEx_eq (i := .iload 6) rfl).trans Iff.rfl
theorem x71_19 {x : Int32} {l0 l1 l2 l4 l5 l6 l7 l8 l9 l10 : Value} : qEx d 71 19 st [l0, l1, l2, .int x, l4, l5, l6, l7, l8, l9, l10] σ μ la Q ↔ qEx d 71 20 (.int x :: st) [l0, l1, l2, .int x, l4, l5, l6, l7, l8, l9, l10] σ μ la Q := (qEx_eq (i := .iload_n 3) rfl).trans Iff.rfl
theorem x71_20  : qEx d 71 20 st ls σ μ la Q ↔ qEx d 71 21 (.int 3 :: st) ls σ μ la Q := (qEx_eq (i := .iconst 3) rfl).trans Iff.rfl
theorem x71_21 {x y : Int32} : qEx d 71 21 (.int y :: .int x :: st) ls σ μ la Q ↔ (if ¬ x = y then qEx d 71 28 st ls σ μ la Q else qEx d 71 24 st ls σ μ la Q) := (qEx_eq (i := .if_icmp .ne 7) rfl).trans qExA_ite
theorem x71_24  : qEx d 71 24 st ls σ μ la Q ↔ qEx d 71 25 (.int 3 :: st) ls σ μ la Q := (qEx_eq (i := .iconst 3) rfl).trans Iff.rfl
theorem x71_25  : qEx d 71 25 st ls σ μ la Q ↔ qEx d 71 29 st ls σ μ la Q := (qEx_eq (i := .goto 4) rfl).trans Iff.rfl
theorem x71_28  : qEx d 71 28 st ls σ μ la Q ↔ qEx d 71 29 (.int 2 :: st) ls σ μ la Q := (qEx_eq (i := .iconst 2) rfl).trans Iff.rfl
theorem x71_29 {x y : Int32} : qEx d 71 29 (.int y :: .int x :: st) ls σ μ la Q ↔ qEx d 71 30 (.int (x + y) :: st) ls σ μ la Q := (qEx_eq (i := .iadd) rfl).trans Iff.rfl
theorem x71_30  : qEx d 71 30 st ls σ μ la Q ↔ qEx d 71 31 (.int 4 :: st) ls σ μ la Q := (qEx_eq (i := .iconst 4) rfl).trans Iff.rfl
theorem x71_31 {x y : Int32} : qEx d 71 31 (.int y :: .int x :: st) ls σ μ la Q ↔ (¬ y = 0 ∧ qEx d 71 32 (.int (x - x / y * y) :: st) ls σ μ la Q) := (qEx_eq (i := .irem) rfl).trans qExA_chk
theorem x71_32 {x : Int32} {a : Nat} : qEx d 71 32 (.int x :: .ref a :: st) ls σ μ la Q ↔ (qOk σ a 5 = true ∧ qEx d 71 35 st ls σ (qset μ a 4 x) la Q) := (qEx_eq (i := .putfield 21) rfl).trans qExA_chk
theorem x71_35 {x : Nat} {l1 l2 l3 l4 l5 l6 l7 l8 l9 l10 : Value} : qEx d 71 35 st [.ref x, l1, l2, l3, l4, l5, l6, l7, l8, l9, l10] σ μ la Q ↔ qEx d 71 36 (.ref x :: st) [.ref x, l1, l2, l3, l4, l5, l6, l7, l8, l9, l10] σ μ la Q := (qEx_eq (i := .aload_n 0) rfl).trans Iff.rfl
theorem x71_36 {x : Int32} {l0 l1 l2 l4 l5 l6 l7 l8 l9 l10 : Value} : qEx d 71 36 st [l0, l1, l2, .int x, l4, l5, l6, l7, l8, l9, l10] σ μ la Q ↔ qEx d 71 37 (.int x :: st) [l0, l1, l2, .int x, l4, l5, l6, l7, l8, l9, l10] σ μ la Q := (qEx_eq (i := .iload_n 3) rfl).trans Iff.rfl
theorem x71_37  : qEx d 71 37 st ls σ μ la Q ↔ qEx d 71 38 (.int 2 :: st) ls σ μ la Q := (qEx_eq (i := .iconst 2) rfl).trans Iff.rfl
theorem x71_38 {x y : Int32} : qEx d 71 38 (.int y :: .int x :: st) ls σ μ la Q ↔ (if ¬ x = y then qEx d 71 48 st ls σ μ la Q else qEx d 71 41 st ls σ μ la Q) := (qEx_eq (i := .if_icmp .ne 10) rfl).trans qExA_ite
theorem x71_41 {x : Int32} {l0 l1 l2 l3 l4 l6 l7 l8 l9 l10 : Value} : qEx d 71 41 st [l0, l1, l2, l3, l4, .int x, l6, l7, l8, l9, l10] σ μ la Q ↔ qEx d 71 43 (.int x :: st) [l0, l1, l2, l3, l4, .int x, l6, l7, l8, l9, l10] σ μ la Q := (qEx_eq (i := .iload 5) rfl).trans Iff.rfl
theorem x71_43  : qEx d 71 43 st ls σ μ la Q ↔ qEx d 71 44 (.int 2 :: st) ls σ μ la Q := (qEx_eq (i := .iconst 2) rfl).trans Iff.rfl
theorem x71_44 {x y : Int32} : qEx d 71 44 (.int y :: .int x :: st) ls σ μ la Q ↔ (¬ y = 0 ∧ qEx d 71 45 (.int (x / y) :: st) ls σ μ la Q) := (qEx_eq (i := .idiv) rfl).trans qExA_chk
theorem x71_45  : qEx d 71 45 st ls σ μ la Q ↔ qEx d 71 50 st ls σ μ la Q := (qEx_eq (i := .goto 5) rfl).trans Iff.rfl
theorem x71_48 {x : Int32} {l0 l1 l2 l3 l4 l6 l7 l8 l9 l10 : Value} : qEx d 71 48 st [l0, l1, l2, l3, l4, .int x, l6, l7, l8, l9, l10] σ μ la Q ↔ qEx d 71 50 (.int x :: st) [l0, l1, l2, l3, l4, .int x, l6, l7, l8, l9, l10] σ μ la Q := (qEx_eq (i := .iload 5) rfl).trans Iff.rfl
theorem x71_50 {x : Int32} {a : Nat} : qEx d 71 50 (.int x :: .ref a :: st) ls σ μ la Q ↔ (qOk σ a 5 = true ∧ qEx d 71 53 st ls σ (qset μ a 3 x) la Q) := (qEx_eq (i := .putfield 24) rfl).trans qExA_chk
theorem x71_53 {x : Nat} {l1 l2 l3 l4 l5 l6 l7 l8 l9 l10 : Value} : qEx d 71 53 st [.ref x, l1, l2, l3, l4, l5, l6, l7, l8, l9, l10] σ μ la Q ↔ qEx d 71 54 (.ref x :: st) [.ref x, l1, l2, l3, l4, l5, l6, l7, l8, l9, l10] σ μ la Q := (qEx_eq (i := .aload_n 0) rfl).trans Iff.rfl
theorem x71_54  : qEx d 71 54 st ls σ μ la Q ↔ qEx d 71 55 (.int 0 :: st) ls σ μ la Q := (qEx_eq (i := .iconst 0) rfl).trans Iff.rfl
theorem x71_55 {x : Int32} {a : Nat} : qEx d 71 55 (.int x :: .ref a :: st) ls σ μ la Q ↔ (qOk σ a 5 = true ∧ qEx d 71 58 st ls σ (qset μ a 1 x) la Q) := (qEx_eq (i := .putfield 27) rfl).trans qExA_chk
theorem x71_58 {x : Nat} {l1 l2 l3 l4 l5 l6 l7 l8 l9 l10 : Value} : qEx d 71 58 st [.ref x, l1, l2, l3, l4, l5, l6, l7, l8, l9, l10] σ μ la Q ↔ qEx d 71 59 (.ref x :: st) [.ref x, l1, l2, l3, l4, l5, l6, l7, l8, l9, l10] σ μ la Q := (qEx_eq (i := .aload_n 0) rfl).trans Iff.rfl
theorem x71_59 {x : Nat} {l0 l2 l3 l4 l5 l6 l7 l8 l9 l10 : Value} : qEx d 71 59 st [l0, .ref x, l2, l3, l4, l5, l6, l7, l8, l9, l10] σ μ la Q ↔ qEx d 71 60 (.ref x :: st) [l0, .ref x, l2, l3, l4, l5, l6, l7, l8, l9, l10] σ μ la Q := (qEx_eq (i := .aload_n 1) rfl).trans Iff.rfl
theorem x71_60 {a : Nat} : qEx d 71 60 (.ref a :: st) ls σ μ la Q ↔ (qOk σ a 4 = true ∧ qEx d 71 63 (qrf (σ.2 a 8) :: st) ls σ μ la Q) := (qEx_eq (i := .getfield 30) rfl).trans qExA_chk
theorem x71_63 {x : Int32} {l0 l1 l3 l4 l5 l6 l7 l8 l9 l10 : Value} : qEx d 71 63 st [l0, l1, .int x, l3, l4, l5, l6, l7, l8, l9, l10] σ μ la Q ↔ qEx d 71 64 (.int x :: st) [l0, l1, .int x, l3, l4, l5, l6, l7, l8, l9, l10] σ μ la Q := (qEx_eq (i := .iload_n 2) rfl).trans Iff.rfl
theorem x71_64 {x : Int32} {a : Nat} : qEx d 71 64 (.int x :: .ref a :: st) ls σ μ la Q ↔ (qIn x (qIld σ μ a) = true ∧ qEx d 71 65 (.int (μ a x.toNatClampNeg) :: st) ls σ μ la Q) := (qEx_eq (i := .iaload) rfl).trans qExA_chk
theorem x71_65 {x : Int32} {a : Nat} : qEx d 71 65 (.int x :: .ref a :: st) ls σ μ la Q ↔ (qOk σ a 5 = true ∧ qEx d 71 68 st ls σ (qset μ a 2 x) la Q) := (qEx_eq (i := .putfield 33) rfl).trans qExA_chk
theorem x71_68 {x : Int32} {l0 l1 l2 l4 l5 l6 l7 l8 l9 l10 : Value} : qEx d 71 68 st [l0, l1, l2, .int x, l4, l5, l6, l7, l8, l9, l10] σ μ la Q ↔ qEx d 71 69 (.int x :: st) [l0, l1, l2, .int x, l4, l5, l6, l7, l8, l9, l10] σ μ la Q := (qEx_eq (i := .iload_n 3) rfl).trans Iff.rfl
theorem x71_69  : qEx d 71 69 st ls σ μ la Q ↔ qEx d 71 70 (.int 4 :: st) ls σ μ la Q := (qEx_eq (i := .iconst 4) rfl).trans Iff.rfl
theorem x71_70 {y0 : Int32} {y1 : Int32} : qEx (d + 1) 71 70 [.int y1, .int y0] ls σ μ la Q ↔ qEx d 113 0 [] [.int y0, .int y1, .retAddr 0, .retAddr 0] σ μ la fun r σ' μ' la' => qEx (d + 1) 71 73 (r.toList ++ []) ls σ' μ' la' Q := (qEx_eq (i := .invokestatic 36) rfl).trans Iff.rfl
theorem x71_73 {x : Int32} {l0 l1 l2 l3 l4 l5 l6 l7 l8 l9 l10 : Value} : qEx d 71 73 (.int x :: st) [l0, l1, l2, l3, l4, l5, l6, l7, l8, l9, l10] σ μ la Q ↔ qEx d 71 75 st [l0, l1, l2, l3, l4, l5, l6, .int x, l8, l9, l10] σ μ la Q := (qEx_eq (i := .istore 7) rfl).trans Iff.rfl
theorem x71_75  : qEx d 71 75 st ls σ μ la Q ↔ qEx d 71 76 (.int 0 :: st) ls σ μ la Q := (qEx_eq (i := .iconst 0) rfl).trans Iff.rfl
theorem x71_76 {x : Int32} {l0 l1 l2 l3 l4 l5 l6 l7 l8 l9 l10 : Value} : qEx d 71 76 (.int x :: st) [l0, l1, l2, l3, l4, l5, l6, l7, l8, l9, l10] σ μ la Q ↔ qEx d 71 78 st [l0, l1, l2, l3, l4, l5, l6, l7, .int x, l9, l10] σ μ la Q := (qEx_eq (i := .istore 8) rfl).trans Iff.rfl
theorem x71_78 {x : Int32} {l0 l1 l2 l3 l4 l5 l6 l7 l9 l10 : Value} : qEx d 71 78 st [l0, l1, l2, l3, l4, l5, l6, l7, .int x, l9, l10] σ μ la Q ↔ qEx d 71 80 (.int x :: st) [l0, l1, l2, l3, l4, l5, l6, l7, .int x, l9, l10] σ μ la Q := (qEx_eq (i := .iload 8) rfl).trans Iff.rfl
theorem x71_80  : qEx d 71 80 st ls σ μ la Q ↔ qEx d 71 82 (.int 8 :: st) ls σ μ la Q := (qEx_eq (i := .bipush 8) rfl).trans Iff.rfl
theorem x71_82 {x y : Int32} : qEx d 71 82 (.int y :: .int x :: st) ls σ μ la Q ↔ (if y ≤ x then qEx d 71 207 st ls σ μ la Q else qEx d 71 85 st ls σ μ la Q) := (qEx_eq (i := .if_icmp .ge 125) rfl).trans qExA_ite
theorem x71_85 {x : Nat} {l0 l2 l3 l4 l5 l6 l7 l8 l9 l10 : Value} : qEx d 71 85 st [l0, .ref x, l2, l3, l4, l5, l6, l7, l8, l9, l10] σ μ la Q ↔ qEx d 71 86 (.ref x :: st) [l0, .ref x, l2, l3, l4, l5, l6, l7, l8, l9, l10] σ μ la Q := (qEx_eq (i := .aload_n 1) rfl).trans Iff.rfl
theorem x71_86 {x : Nat} {l1 l2 l3 l4 l5 l6 l7 l8 l9 l10 : Value} : qEx d 71 86 st [.ref x, l1, l2, l3, l4, l5, l6, l7, l8, l9, l10] σ μ la Q ↔ qEx d 71 87 (.ref x :: st) [.ref x, l1, l2, l3, l4, l5, l6, l7, l8, l9, l10] σ μ la Q := (qEx_eq (i := .aload_n 0) rfl).trans Iff.rfl
theorem x71_87 {a : Nat} : qEx d 71 87 (.ref a :: st) ls σ μ la Q ↔ (qOk σ a 5 = true ∧ qEx d 71 90 (.int (μ a 2) :: st) ls σ μ la Q) := (qEx_eq (i := .getfield 33) rfl).trans qExA_chk
theorem x71_90 {x : Nat} {l1 l2 l3 l4 l5 l6 l7 l8 l9 l10 : Value} : qEx d 71 90 st [.ref x, l1, l2, l3, l4, l5, l6, l7, l8, l9, l10] σ μ la Q ↔ qEx d 71 91 (.ref x :: st) [.ref x, l1, l2, l3, l4, l5, l6, l7, l8, l9, l10] σ μ la Q := (qEx_eq (i := .aload_n 0) rfl).trans Iff.rfl
theorem x71_91 {a : Nat} : qEx d 71 91 (.ref a :: st) ls σ μ la Q ↔ (qOk σ a 5 = true ∧ qEx d 71 94 (.int (μ a 4) :: st) ls σ μ la Q) := (qEx_eq (i := .getfield 21) rfl).trans qExA_chk
theorem x71_94 {y0 : Int32} {y1 : Int32} {a : Nat} : qEx (d + 1) 71 94 [.int y1, .int y0, .ref a] ls σ μ la Q ↔ (qOk σ a 4 = true ∧ qEx d 63 0 [] [.ref a, .int y0, .int y1, .retAddr 0, .retAddr 0] σ μ la fun r σ' μ' la' => qEx (d + 1) 71 97 (r.toList ++ []) ls σ' μ' la' Q) := (qEx_eq (i := .invokevirtual 40) rfl).trans qExA_chk
theorem x71_97 {x : Int32} {l0 l1 l2 l3 l4 l5 l6 l7 l8 l9 l10 : Value} : qEx d 71 97 (.int x :: st) [l0, l1, l2, l3, l4, l5, l6, l7, l8, l9, l10] σ μ la Q ↔ qEx d 71 99 st [l0, l1, l2, l3, l4, l5, l6, l7, l8, .int x, l10] σ μ la Q := (qEx_eq (i := .istore 9) rfl).trans Iff.rfl
theorem x71_99 {x : Int32} {l0 l1 l2 l3 l4 l5 l6 l7 l8 l10 : Value} : qEx d 71 99 st [l0, l1, l2, l3, l4, l5, l6, l7, l8, .int x, l10] σ μ la Q ↔ qEx d 71 101 (.int x :: st) [l0, l1, l2, l3, l4, l5, l6, l7, l8, .int x, l10] σ μ la Q := (qEx_eq (i := .iload 9) rfl).trans Iff.rfl
theorem x71_101 {x : Int32} : qEx d 71 101 (.int x :: st) ls σ μ la Q ↔ (if x < 0 then qEx d 71 115 st ls σ μ la Q else qEx d 71 104 st ls σ μ la Q) := (qEx_eq (i := .ifCond .lt 14) rfl).trans qExA_ite
theorem x71_104 {x : Nat} {l0 l2 l3 l4 l5 l6 l7 l8 l9 l10 : Value} : qEx d 71 104 st [l0, .ref x, l2, l3, l4, l5, l6, l7, l8, l9, l10] σ μ la Q ↔ qEx d 71 105 (.ref x :: st) [l0, .ref x, l2, l3, l4, l5, l6, l7, l8, l9, l10] σ μ la Q := (qEx_eq (i := .aload_n 1) rfl).trans Iff.rfl
theorem x71_105 {x : Int32} {l0 l1 l2 l3 l4 l5 l6 l7 l8 l10 : Value} : qEx d 71 105 st [l0, l1, l2, l3, l4, l5, l6, l7, l8, .int x, l10] σ μ la Q ↔ qEx d 71 107 (.int x :: st) [l0, l1, l2, l3, l4, l5, l6, l7, l8, .int x, l10] σ μ la Q := (qEx_eq (i := .iload 9) rfl).trans Iff.rfl
theorem x71_107 {y0 : Int32} {a : Nat} : qEx (d + 1) 71 107 [.int y0, .ref a] ls σ μ la Q ↔ (qOk σ a 4 = true ∧ qEx d 62 0 [] [.ref a, .int y0, .retAddr 0] σ μ la fun r σ' μ' la' => qEx (d + 1) 71 110 (r.toList ++ []) ls σ' μ' la' Q) := (qEx_eq (i := .invokevirtual 44) rfl).trans qExA_chk
theorem x71_110  : qEx d 71 110 st ls σ μ la Q ↔ qEx d 71 112 (.int (-4) :: st) ls σ μ la Q := (qEx_eq (i := .bipush (-4)) rfl).trans Iff.rfl
theorem x71_112 {x y : Int32} : qEx d 71 112 (.int y :: .int x :: st) ls σ μ la Q ↔ (if x = y then qEx d 71 116 st ls σ μ la Q else qEx d 71 115 st ls σ μ la Q) := (qEx_eq (i := .if_icmp .eq 4) rfl).trans qExA_ite
theorem x71_115  : qEx d 71 115 [] ls σ μ la Q ↔ Q none σ μ la := (qEx_eq (i := .return_) rfl).trans Iff.rfl
theorem x71_116 {x : Nat} {l0 l2 l3 l4 l5 l6 l7 l8 l9 l10 : Value} : qEx d 71 116 st [l0, .ref x, l2, l3, l4, l5, l6, l7, l8, l9, l10] σ μ la Q ↔ qEx d 71 117 (.ref x :: st) [l0, .ref x, l2, l3, l4, l5, l6, l7, l8, l9, l10] σ μ la Q := (qEx_eq (i := .aload_n 1) rfl).trans Iff.rfl
theorem x71_117 {a : Nat} : qEx d 71 117 (.ref a :: st) ls σ μ la Q ↔ (qOk σ a 4 = true ∧ qEx d 71 120 (qrf (σ.2 a 6) :: st) ls σ μ la Q) := (qEx_eq (i := .getfield 48) rfl).trans qExA_chk
theorem x71_120 {x : Int32} {l0 l1 l2 l3 l4 l5 l6 l7 l8 l10 : Value} : qEx d 71 120 st [l0, l1, l2, l3, l4, l5, l6, l7, l8, .int x, l10] σ μ la Q ↔ qEx d 71 122 (.int x :: st) [l0, l1, l2, l3, l4, l5, l6, l7, l8, .int x, l10] σ μ la Q := (qEx_eq (i := .iload 9) rfl).trans Iff.rfl
theorem x71_122 {x : Int32} {a : Nat} : qEx d 71 122 (.int x :: .ref a :: st) ls σ μ la Q ↔ (qIn x (qIld σ μ a) = true ∧ qEx d 71 123 (.int (μ a x.toNatClampNeg) :: st) ls σ μ la Q) := (qEx_eq (i := .iaload) rfl).trans qExA_chk
theorem x71_123 {x : Int32} {l0 l1 l2 l3 l4 l5 l6 l7 l8 l9 l10 : Value} : qEx d 71 123 (.int x :: st) [l0, l1, l2, l3, l4, l5, l6, l7, l8, l9, l10] σ μ la Q ↔ qEx d 71 125 st [l0, l1, l2, l3, l4, l5, l6, l7, l8, l9, .int x] σ μ la Q := (qEx_eq (i := .istore 10) rfl).trans Iff.rfl
theorem x71_125 {x : Int32} {l0 l1 l2 l3 l4 l5 l6 l7 l8 l9 : Value} : qEx d 71 125 st [l0, l1, l2, l3, l4, l5, l6, l7, l8, l9, .int x] σ μ la Q ↔ qEx d 71 127 (.int x :: st) [l0, l1, l2, l3, l4, l5, l6, l7, l8, l9, .int x] σ μ la Q := (qEx_eq (i := .iload 10) rfl).trans Iff.rfl
theorem x71_127  : qEx d 71 127 st ls σ μ la Q ↔ qEx d 71 128 (.int 1 :: st) ls σ μ la Q := (qEx_eq (i := .iconst 1) rfl).trans Iff.rfl
theorem x71_128 {x y : Int32} : qEx d 71 128 (.int y :: .int x :: st) ls σ μ la Q ↔ (if x = y then qEx d 71 148 st ls σ μ la Q else qEx d 71 131 st ls σ μ la Q) := (qEx_eq (i := .if_icmp .eq 20) rfl).trans qExA_ite
theorem x71_131 {x : Int32} {l0 l1 l2 l3 l4 l5 l6 l8 l9 l10 : Value} : qEx d 71 131 st [l0, l1, l2, l3, l4, l5, l6, .int x, l8, l9, l10] σ μ la Q ↔ qEx d 71 133 (.int x :: st) [l0, l1, l2, l3, l4, l5, l6, .int x, l8, l9, l10] σ μ la Q := (qEx_eq (i := .iload 7) rfl).trans Iff.rfl
theorem x71_133 {x : Int32} : qEx d 71 133 (.int x :: st) ls σ μ la Q ↔ (if x = 0 then qEx d 71 149 st ls σ μ la Q else qEx d 71 136 st ls σ μ la Q) := (qEx_eq (i := .ifCond .eq 16) rfl).trans qExA_ite
theorem x71_136 {x : Int32} {l0 l1 l2 l3 l4 l5 l6 l7 l8 l9 : Value} : qEx d 71 136 st [l0, l1, l2, l3, l4, l5, l6, l7, l8, l9, .int x] σ μ la Q ↔ qEx d 71 138 (.int x :: st) [l0, l1, l2, l3, l4, l5, l6, l7, l8, l9, .int x] σ μ la Q := (qEx_eq (i := .iload 10) rfl).trans Iff.rfl
theorem x71_138  : qEx d 71 138 st ls σ μ la Q ↔ qEx d 71 139 (.int 2 :: st) ls σ μ la Q := (qEx_eq (i := .iconst 2) rfl).trans Iff.rfl
theorem x71_139 {x y : Int32} : qEx d 71 139 (.int y :: .int x :: st) ls σ μ la Q ↔ (if x = y then qEx d 71 148 st ls σ μ la Q else qEx d 71 142 st ls σ μ la Q) := (qEx_eq (i := .if_icmp .eq 9) rfl).trans qExA_ite
theorem x71_142 {x : Int32} {l0 l1 l2 l3 l4 l5 l6 l7 l8 l9 : Value} : qEx d 71 142 st [l0, l1, l2, l3, l4, l5, l6, l7, l8, l9, .int x] σ μ la Q ↔ qEx d 71 144 (.int x :: st) [l0, l1, l2, l3, l4, l5, l6, l7, l8, l9, .int x] σ μ la Q := (qEx_eq (i := .iload 10) rfl).trans Iff.rfl
theorem x71_144  : qEx d 71 144 st ls σ μ la Q ↔ qEx d 71 145 (.int 3 :: st) ls σ μ la Q := (qEx_eq (i := .iconst 3) rfl).trans Iff.rfl
theorem x71_145 {x y : Int32} : qEx d 71 145 (.int y :: .int x :: st) ls σ μ la Q ↔ (if ¬ x = y then qEx d 71 149 st ls σ μ la Q else qEx d 71 148 st ls σ μ la Q) := (qEx_eq (i := .if_icmp .ne 4) rfl).trans qExA_ite
theorem x71_148  : qEx d 71 148 [] ls σ μ la Q ↔ Q none σ μ la := (qEx_eq (i := .return_) rfl).trans Iff.rfl
theorem x71_149  : qEx d 71 149 st ls σ μ la Q ↔ qEx d 71 152 (.ref 1000 :: st) ls σ μ la Q := (qEx_eq (i := .getstatic 51) rfl).trans Iff.rfl
theorem x71_152 {x : Int32} {l0 l1 l2 l3 l4 l5 l6 l7 l8 l9 : Value} : qEx d 71 152 st [l0, l1, l2, l3, l4, l5, l6, l7, l8, l9, .int x] σ μ la Q ↔ qEx d 71 154 (.int x :: st) [l0, l1, l2, l3, l4, l5, l6, l7, l8, l9, .int x] σ μ la Q := (qEx_eq (i := .iload 10) rfl).trans Iff.rfl
theorem x71_154 {x : Int32} {a : Nat} : qEx d 71 154 (.int x :: .ref a :: st) ls σ μ la Q ↔ (qIn x (qIld σ μ a) = true ∧ qEx d 71 155 (.int (μ a x.toNatClampNeg) :: st) ls σ μ la Q) := (qEx_eq (i := .iaload) rfl).trans qExA_chk
theorem x71_155 {x : Nat} {l1 l2 l3 l4 l5 l6 l7 l8 l9 l10 : Value} : qEx d 71 155 st [.ref x, l1, l2, l3, l4, l5, l6, l7, l8, l9, l10] σ μ la Q ↔ qEx d 71 156 (.ref x :: st) [.ref x, l1, l2, l3, l4, l5, l6, l7, l8, l9, l10] σ μ la Q := (qEx_eq (i := .aload_n 0) rfl).trans Iff.rfl
theorem x71_156 {a : Nat} : qEx d 71 156 (.ref a :: st) ls σ μ la Q ↔ (qOk σ a 5 = true ∧ qEx d 71 159 (.int (μ a 3) :: st) ls σ μ la Q) := (qEx_eq (i := .getfield 24) rfl).trans qExA_chk
theorem x71_159 {x y : Int32} : qEx d 71 159 (.int y :: .int x :: st) ls σ μ la Q ↔ (if x ≤ y then qEx d 71 163 st ls σ μ la Q else qEx d 71 162 st ls σ μ la Q) := (qEx_eq (i := .if_icmp .le 4) rfl).trans qExA_ite
theorem x71_162  : qEx d 71 162 [] ls σ μ la Q ↔ Q none σ μ la := (qEx_eq (i := .return_) rfl).trans Iff.rfl
theorem x71_163 {x : Nat} {l1 l2 l3 l4 l5 l6 l7 l8 l9 l10 : Value} : qEx d 71 163 st [.ref x, l1, l2, l3, l4, l5, l6, l7, l8, l9, l10] σ μ la Q ↔ qEx d 71 164 (.ref x :: st) [.ref x, l1, l2, l3, l4, l5, l6, l7, l8, l9, l10] σ μ la Q := (qEx_eq (i := .aload_n 0) rfl).trans Iff.rfl
theorem x71_164 {x : Nat} : qEx d 71 164 (.ref x :: st) ls σ μ la Q ↔ qEx d 71 165 (.ref x :: .ref x :: st) ls σ μ la Q := (qEx_eq (i := .dup) rfl).trans Iff.rfl
theorem x71_165 {a : Nat} : qEx d 71 165 (.ref a :: st) ls σ μ la Q ↔ (qOk σ a 5 = true ∧ qEx d 71 168 (.int (μ a 3) :: st) ls σ μ la Q) := (qEx_eq (i := .getfield 24) rfl).trans qExA_chk
theorem x71_168  : qEx d 71 168 st ls σ μ la Q ↔ qEx d 71 171 (.ref 1000 :: st) ls σ μ la Q := (qEx_eq (i := .getstatic 51) rfl).trans Iff.rfl
theorem x71_171 {x : Int32} {l0 l1 l2 l3 l4 l5 l6 l7 l8 l9 : Value} : qEx d 71 171 st [l0, l1, l2, l3, l4, l5, l6, l7, l8, l9, .int x] σ μ la Q ↔ qEx d 71 173 (.int x :: st) [l0, l1, l2, l3, l4, l5, l6, l7, l8, l9, .int x] σ μ la Q := (qEx_eq (i := .iload 10) rfl).trans Iff.rfl
theorem x71_173 {x : Int32} {a : Nat} : qEx d 71 173 (.int x :: .ref a :: st) ls σ μ la Q ↔ (qIn x (qIld σ μ a) = true ∧ qEx d 71 174 (.int (μ a x.toNatClampNeg) :: st) ls σ μ la Q) := (qEx_eq (i := .iaload) rfl).trans qExA_chk
theorem x71_174 {x y : Int32} : qEx d 71 174 (.int y :: .int x :: st) ls σ μ la Q ↔ qEx d 71 175 (.int (x - y) :: st) ls σ μ la Q := (qEx_eq (i := .isub) rfl).trans Iff.rfl
theorem x71_175 {x : Int32} {a : Nat} : qEx d 71 175 (.int x :: .ref a :: st) ls σ μ la Q ↔ (qOk σ a 5 = true ∧ qEx d 71 178 st ls σ (qset μ a 3 x) la Q) := (qEx_eq (i := .putfield 24) rfl).trans qExA_chk
theorem x71_178 {x : Nat} {l1 l2 l3 l4 l5 l6 l7 l8 l9 l10 : Value} : qEx d 71 178 st [.ref x, l1, l2, l3, l4, l5, l6, l7, l8, l9, l10] σ μ la Q ↔ qEx d 71 179 (.ref x :: st) [.ref x, l1, l2, l3, l4, l5, l6, l7, l8, l9, l10] σ μ la Q := (qEx_eq (i := .aload_n 0) rfl).trans Iff.rfl
theorem x71_179 {a : Nat} : qEx d 71 179 (.ref a :: st) ls σ μ la Q ↔ (qOk σ a 5 = true ∧ qEx d 71 182 (qrf (σ.2 a 0) :: st) ls σ μ la Q) := (qEx_eq (i := .getfield 9) rfl).trans qExA_chk
theorem x71_182 {x : Int32} {l0 l1 l2 l3 l4 l5 l6 l7 l9 l10 : Value} : qEx d 71 182 st [l0, l1, l2, l3, l4, l5, l6, l7, .int x, l9, l10] σ μ la Q ↔ qEx d 71 184 (.int x :: st) [l0, l1, l2, l3, l4, l5, l6, l7, .int x, l9, l10] σ μ la Q := (qEx_eq (i := .iload 8) rfl).trans Iff.rfl
theorem x71_184 {x : Int32} {l0 l1 l2 l3 l4 l5 l6 l7 l8 l10 : Value} : qEx d 71 184 st [l0, l1, l2, l3, l4, l5, l6, l7, l8, .int x, l10] σ μ la Q ↔ qEx d 71 186 (.int x :: st) [l0, l1, l2, l3, l4, l5, l6, l7, l8, .int x, l10] σ μ la Q := (qEx_eq (i := .iload 9) rfl).trans Iff.rfl
theorem x71_186 {x y : Int32} {a : Nat} : qEx d 71 186 (.int y :: .int x :: .ref a :: st) ls σ μ la Q ↔ (qIn x (qLen σ 10 a) = true ∧ qEx d 71 187 st ls σ (qset μ a x.toNatClampNeg y) la Q) := (qEx_eq (i := .iastore) rfl).trans qExA_chk
theorem x71_187 {x : Nat} {l1 l2 l3 l4 l5 l6 l7 l8 l9 l10 : Value} : qEx d 71 187 st [.ref x, l1, l2, l3, l4, l5, l6, l7, l8, l9, l10] σ μ la Q ↔ qEx d 71 188 (.ref x :: st) [.ref x, l1, l2, l3, l4, l5, l6, l7, l8, l9, l10] σ μ la Q := (qEx_eq (i := .aload_n 0) rfl).trans Iff.rfl
theorem x71_188 {x : Int32} {l0 l1 l2 l3 l4 l5 l6 l7 l9 l10 : Value} : qEx d 71 188 st [l0, l1, l2, l3, l4, l5, l6, l7, .int x, l9, l10] σ μ la Q ↔ qEx d 71 190 (.int x :: st) [l0, l1, l2, l3, l4, l5, l6, l7, .int x, l9, l10] σ μ la Q := (qEx_eq (i := .iload 8) rfl).trans Iff.rfl
theorem x71_190  : qEx d 71 190 st ls σ μ la Q ↔ qEx d 71 191 (.int 1 :: st) ls σ μ la Q := (qEx_eq (i := .iconst 1) rfl).trans Iff.rfl
theorem x71_191 {x y : Int32} : qEx d 71 191 (.int y :: .int x :: st) ls σ μ la Q ↔ qEx d 71 192 (.int (x + y) :: st) ls σ μ la Q := (qEx_eq (i := .iadd) rfl).trans Iff.rfl
theorem x71_192 {x : Int32} {a : Nat} : qEx d 71 192 (.int x :: .ref a :: st) ls σ μ la Q ↔ (qOk σ a 5 = true ∧ qEx d 71 195 st ls σ (qset μ a 1 x) la Q) := (qEx_eq (i := .putfield 27) rfl).trans qExA_chk
theorem x71_195 {x : Nat} {l1 l2 l3 l4 l5 l6 l7 l8 l9 l10 : Value} : qEx d 71 195 st [.ref x, l1, l2, l3, l4, l5, l6, l7, l8, l9, l10] σ μ la Q ↔ qEx d 71 196 (.ref x :: st) [.ref x, l1, l2, l3, l4, l5, l6, l7, l8, l9, l10] σ μ la Q := (qEx_eq (i := .aload_n 0) rfl).trans Iff.rfl
theorem x71_196 {x : Int32} {l0 l1 l2 l3 l4 l5 l6 l7 l8 l10 : Value} : qEx d 71 196 st [l0, l1, l2, l3, l4, l5, l6, l7, l8, .int x, l10] σ μ la Q ↔ qEx d 71 198 (.int x :: st) [l0, l1, l2, l3, l4, l5, l6, l7, l8, .int x, l10] σ μ la Q := (qEx_eq (i := .iload 9) rfl).trans Iff.rfl
theorem x71_198 {x : Int32} {a : Nat} : qEx d 71 198 (.int x :: .ref a :: st) ls σ μ la Q ↔ (qOk σ a 5 = true ∧ qEx d 71 201 st ls σ (qset μ a 2 x) la Q) := (qEx_eq (i := .putfield 33) rfl).trans qExA_chk
theorem x71_201 {x : Int32} {l0 l1 l2 l3 l4 l5 l6 l7 l9 l10 : Value} : qEx d 71 201 st [l0, l1, l2, l3, l4, l5, l6, l7, .int x, l9, l10] σ μ la Q ↔ qEx d 71 204 st [l0, l1, l2, l3, l4, l5, l6, l7, .int (x + 1), l9, l10] σ μ la Q := (qEx_eq (i := .iinc 8 1) rfl).trans Iff.rfl
theorem x71_204  : qEx d 71 204 st ls σ μ la Q ↔ qEx d 71 78 st ls σ μ la Q := (qEx_eq (i := .goto (-126)) rfl).trans Iff.rfl
theorem x71_207  : qEx d 71 207 [] ls σ μ la Q ↔ Q none σ μ la := (qEx_eq (i := .return_) rfl).trans Iff.rfl
theorem x72_0 {x : Nat} {l1 l2 l3 l4 : Value} : qEx d 72 0 st [.ref x, l1, l2, l3, l4] σ μ la Q ↔ qEx d 72 1 (.ref x :: st) [.ref x, l1, l2, l3, l4] σ μ la Q := (qEx_eq (i := .aload_n 0) rfl).trans Iff.rfl
theorem x72_1 {a : Nat} : qEx d 72 1 (.ref a :: st) ls σ μ la Q ↔ (qOk σ a 5 = true ∧ qEx d 72 4 (.int (μ a 1) :: st) ls σ μ la Q) := (qEx_eq (i := .getfield 27) rfl).trans qExA_chk
theorem x72_4 {x : Int32} {l0 l1 l2 l4 : Value} : qEx d 72 4 st [l0, l1, l2, .int x, l4] σ μ la Q ↔ qEx d 72 5 (.int x :: st) [l0, l1, l2, .int x, l4] σ μ la Q := (qEx_eq (i := .iload_n 3) rfl).trans Iff.rfl
theorem x72_5 {x y : Int32} : qEx d 72 5 (.int y :: .int x :: st) ls σ μ la Q ↔ (if x = y then qEx d 72 10 st ls σ μ la Q else qEx d 72 8 st ls σ μ la Q) := (qEx_eq (i := .if_icmp .eq 5) rfl).trans qExA_ite
theorem x72_8  : qEx d 72 8 st ls σ μ la Q ↔ qEx d 72 9 (.int 0 :: st) ls σ μ la Q := (qEx_eq (i := .iconst 0) rfl).trans Iff.rfl
theorem x72_9 {x : Int32} : qEx d 72 9 [.int x] ls σ μ la Q ↔ ((x = 0 ∨ x = 1) ∧ Q (some (.int x)) σ μ la) := (qEx_eq (i := .ireturn) rfl).trans qExA_chk
theorem x72_10  : qEx d 72 10 st ls σ μ la Q ↔ qEx d 72 11 (.int 0 :: st) ls σ μ la Q := (qEx_eq (i := .iconst 0) rfl).trans Iff.rfl
theorem x72_11 {x : Int32} {l0 l1 l2 l3 l4 : Value} : qEx d 72 11 (.int x :: st) [l0, l1, l2, l3, l4] σ μ la Q ↔ qEx d 72 13 st [l0, l1, l2, l3, .int x] σ μ la Q := (qEx_eq (i := .istore 4) rfl).trans Iff.rfl
theorem x72_13 {x : Int32} {l0 l1 l2 l3 : Value} : qEx d 72 13 st [l0, l1, l2, l3, .int x] σ μ la Q ↔ qEx d 72 15 (.int x :: st) [l0, l1, l2, l3, .int x] σ μ la Q := (qEx_eq (i := .iload 4) rfl).trans Iff.rfl
theorem x72_15 {x : Int32} {l0 l1 l2 l4 : Value} : qEx d 72 15 st [l0, l1, l2, .int x, l4] σ μ la Q ↔ qEx d 72 16 (.int x :: st) [l0, l1, l2, .int x, l4] σ μ la Q := (qEx_eq (i := .iload_n 3) rfl).trans Iff.rfl
theorem x72_16 {x y : Int32} : qEx d 72 16 (.int y :: .int x :: st) ls σ μ la Q ↔ (if y ≤ x then qEx d 72 48 st ls σ μ la Q else qEx d 72 19 st ls σ μ la Q) := (qEx_eq (i := .if_icmp .ge 32) rfl).trans qExA_ite
theorem x72_19 {x : Nat} {l0 l2 l3 l4 : Value} : qEx d 72 19 st [l0, .ref x, l2, l3, l4] σ μ la Q ↔ qEx d 72 20 (.ref x :: st) [l0, .ref x, l2, l3, l4] σ μ la Q := (qEx_eq (i := .aload_n 1) rfl).trans Iff.rfl
theorem x72_20 {a : Nat} : qEx d 72 20 (.ref a :: st) ls σ μ la Q ↔ (qOk σ a 2 = true ∧ qEx d 72 23 (qrf (σ.2 a 0) :: st) ls σ μ la Q) := (qEx_eq (i := .getfield 54) rfl).trans qExA_chk
theorem x72_23 {x : Int32} {l0 l1 l3 l4 : Value} : qEx d 72 23 st [l0, l1, .int x, l3, l4] σ μ la Q ↔ qEx d 72 24 (.int x :: st) [l0, l1, .int x, l3, l4] σ μ la Q := (qEx_eq (i := .iload_n 2) rfl).trans Iff.rfl
theorem x72_24 {x : Int32} {l0 l1 l2 l3 : Value} : qEx d 72 24 st [l0, l1, l2, l3, .int x] σ μ la Q ↔ qEx d 72 26 (.int x :: st) [l0, l1, l2, l3, .int x] σ μ la Q := (qEx_eq (i := .iload 4) rfl).trans Iff.rfl
theorem x72_26 {x y : Int32} : qEx d 72 26 (.int y :: .int x :: st) ls σ μ la Q ↔ qEx d 72 27 (.int (x + y) :: st) ls σ μ la Q := (qEx_eq (i := .iadd) rfl).trans Iff.rfl
theorem x72_27 {x : Int32} {a : Nat} : qEx d 72 27 (.int x :: .ref a :: st) ls σ μ la Q ↔ (qIn x (qLen σ 11 a) = true ∧ qEx d 72 28 (.long (la a x.toNatClampNeg) :: st) ls σ μ la Q) := (qEx_eq (i := .laload) rfl).trans qExA_chk
theorem x72_28 {x : Nat} {l1 l2 l3 l4 : Value} : qEx d 72 28 st [.ref x, l1, l2, l3, l4] σ μ la Q ↔ qEx d 72 29 (.ref x :: st) [.ref x, l1, l2, l3, l4] σ μ la Q := (qEx_eq (i := .aload_n 0) rfl).trans Iff.rfl
theorem x72_29 {a : Nat} : qEx d 72 29 (.ref a :: st) ls σ μ la Q ↔ (qOk σ a 5 = true ∧ qEx d 72 32 (qrf (σ.2 a 0) :: st) ls σ μ la Q) := (qEx_eq (i := .getfield 9) rfl).trans qExA_chk
theorem x72_32 {x : Int32} {l0 l1 l2 l3 : Value} : qEx d 72 32 st [l0, l1, l2, l3, .int x] σ μ la Q ↔ qEx d 72 34 (.int x :: st) [l0, l1, l2, l3, .int x] σ μ la Q := (qEx_eq (i := .iload 4) rfl).trans Iff.rfl
theorem x72_34 {x : Int32} {a : Nat} : qEx d 72 34 (.int x :: .ref a :: st) ls σ μ la Q ↔ (qIn x (qIld σ μ a) = true ∧ qEx d 72 35 (.int (μ a x.toNatClampNeg) :: st) ls σ μ la Q) := (qEx_eq (i := .iaload) rfl).trans qExA_chk
theorem x72_35 {x : Int32} : qEx d 72 35 (.int x :: st) ls σ μ la Q ↔ qEx d 72 36 (.long (x.toInt64) :: st) ls σ μ la Q := (qEx_eq (i := .i2l) rfl).trans Iff.rfl
theorem x72_36 {x y : Int64} : qEx d 72 36 (.long y :: .long x :: st) ls σ μ la Q ↔ qEx d 72 37 (.int (lg_cmp x y) :: st) ls σ μ la Q := (qEx_eq (i := .lcmp) rfl).trans Iff.rfl
theorem x72_37 {x : Int32} : qEx d 72 37 (.int x :: st) ls σ μ la Q ↔ (if x = 0 then qEx d 72 42 st ls σ μ la Q else qEx d 72 40 st ls σ μ la Q) := (qEx_eq (i := .ifCond .eq 5) rfl).trans qExA_ite
theorem x72_40  : qEx d 72 40 st ls σ μ la Q ↔ qEx d 72 41 (.int 0 :: st) ls σ μ la Q := (qEx_eq (i := .iconst 0) rfl).trans Iff.rfl
theorem x72_41 {x : Int32} : qEx d 72 41 [.int x] ls σ μ la Q ↔ ((x = 0 ∨ x = 1) ∧ Q (some (.int x)) σ μ la) := (qEx_eq (i := .ireturn) rfl).trans qExA_chk
theorem x72_42 {x : Int32} {l0 l1 l2 l3 : Value} : qEx d 72 42 st [l0, l1, l2, l3, .int x] σ μ la Q ↔ qEx d 72 45 st [l0, l1, l2, l3, .int (x + 1)] σ μ la Q := (qEx_eq (i := .iinc 4 1) rfl).trans Iff.rfl
theorem x72_45  : qEx d 72 45 st ls σ μ la Q ↔ qEx d 72 13 st ls σ μ la Q := (qEx_eq (i := .goto (-32)) rfl).trans Iff.rfl
theorem x72_48  : qEx d 72 48 st ls σ μ la Q ↔ qEx d 72 49 (.int 1 :: st) ls σ μ la Q := (qEx_eq (i := .iconst 1) rfl).trans Iff.rfl
theorem x72_49 {x : Int32} : qEx d 72 49 [.int x] ls σ μ la Q ↔ ((x = 0 ∨ x = 1) ∧ Q (some (.int x)) σ μ la) := (qEx_eq (i := .ireturn) rfl).trans qExA_chk
theorem x73_0  : qEx d 73 0 st ls σ μ la Q ↔ qEx d 73 1 (.long 0 :: st) ls σ μ la Q := (qEx_eq (i := .lconst 0) rfl).trans Iff.rfl
theorem x73_1 {x : Int64} {l0 l1 l2 l3 : Value} : qEx d 73 1 (.long x :: st) [l0, l1, l2, l3] σ μ la Q ↔ qEx d 73 2 st [l0, .long x, .retAddr 1, l3] σ μ la Q := (qEx_eq (i := .lstore_n 1) rfl).trans Iff.rfl
theorem x73_2  : qEx d 73 2 st ls σ μ la Q ↔ qEx d 73 3 (.int 0 :: st) ls σ μ la Q := (qEx_eq (i := .iconst 0) rfl).trans Iff.rfl
theorem x73_3 {x : Int32} {l0 l1 l2 l3 : Value} : qEx d 73 3 (.int x :: st) [l0, l1, l2, l3] σ μ la Q ↔ qEx d 73 4 st [l0, l1, l2, .int x] σ μ la Q := (qEx_eq (i := .istore_n 3) rfl).trans Iff.rfl
theorem x73_4 {x : Int32} {l0 l1 l2 : Value} : qEx d 73 4 st [l0, l1, l2, .int x] σ μ la Q ↔ qEx d 73 5 (.int x :: st) [l0, l1, l2, .int x] σ μ la Q := (qEx_eq (i := .iload_n 3) rfl).trans Iff.rfl
theorem x73_5 {x : Nat} {l1 l2 l3 : Value} : qEx d 73 5 st [.ref x, l1, l2, l3] σ μ la Q ↔ qEx d 73 6 (.ref x :: st) [.ref x, l1, l2, l3] σ μ la Q := (qEx_eq (i := .aload_n 0) rfl).trans Iff.rfl
theorem x73_6 {a : Nat} : qEx d 73 6 (.ref a :: st) ls σ μ la Q ↔ (qOk σ a 5 = true ∧ qEx d 73 9 (.int (μ a 1) :: st) ls σ μ la Q) := (qEx_eq (i := .getfield 27) rfl).trans qExA_chk
theorem x73_9 {x y : Int32} : qEx d 73 9 (.int y :: .int x :: st) ls σ μ la Q ↔ (if y ≤ x then qEx d 73 29 st ls σ μ la Q else qEx d 73 12 st ls σ μ la Q) := (qEx_eq (i := .if_icmp .ge 20) rfl).trans qExA_ite
theorem x73_12 {x : Int64} {l0 l3 : Value} : qEx d 73 12 st [l0, .long x, .retAddr 1, l3] σ μ la Q ↔ qEx d 73 13 (.long x :: st) [l0, .long x, .retAddr 1, l3] σ μ la Q := (qEx_eq (i := .lload_n 1) rfl).trans Iff.rfl
theorem x73_13  : qEx d 73 13 st ls σ μ la Q ↔ qEx d 73 14 (.long 1 :: st) ls σ μ la Q := (qEx_eq (i := .lconst 1) rfl).trans Iff.rfl
theorem x73_14 {x : Nat} {l1 l2 l3 : Value} : qEx d 73 14 st [.ref x, l1, l2, l3] σ μ la Q ↔ qEx d 73 15 (.ref x :: st) [.ref x, l1, l2, l3] σ μ la Q := (qEx_eq (i := .aload_n 0) rfl).trans Iff.rfl
theorem x73_15 {a : Nat} : qEx d 73 15 (.ref a :: st) ls σ μ la Q ↔ (qOk σ a 5 = true ∧ qEx d 73 18 (qrf (σ.2 a 0) :: st) ls σ μ la Q) := (qEx_eq (i := .getfield 9) rfl).trans qExA_chk
theorem x73_18 {x : Int32} {l0 l1 l2 : Value} : qEx d 73 18 st [l0, l1, l2, .int x] σ μ la Q ↔ qEx d 73 19 (.int x :: st) [l0, l1, l2, .int x] σ μ la Q := (qEx_eq (i := .iload_n 3) rfl).trans Iff.rfl
theorem x73_19 {x : Int32} {a : Nat} : qEx d 73 19 (.int x :: .ref a :: st) ls σ μ la Q ↔ (qIn x (qIld σ μ a) = true ∧ qEx d 73 20 (.int (μ a x.toNatClampNeg) :: st) ls σ μ la Q) := (qEx_eq (i := .iaload) rfl).trans qExA_chk
theorem x73_20 {x : Int64} {y : Int32} : qEx d 73 20 (.int y :: .long x :: st) ls σ μ la Q ↔ qEx d 73 21 (.long (x <<< (y.toInt64 &&& 63)) :: st) ls σ μ la Q := (qEx_eq (i := .lshl) rfl).trans Iff.rfl
theorem x73_21 {x y : Int64} : qEx d 73 21 (.long y :: .long x :: st) ls σ μ la Q ↔ qEx d 73 22 (.long (x ||| y) :: st) ls σ μ la Q := (qEx_eq (i := .lor) rfl).trans Iff.rfl
theorem x73_22 {x : Int64} {l0 l1 l2 l3 : Value} : qEx d 73 22 (.long x :: st) [l0, l1, l2, l3] σ μ la Q ↔ qEx d 73 23 st [l0, .long x, .retAddr 1, l3] σ μ la Q := (qEx_eq (i := .lstore_n 1) rfl).trans Iff.rfl
theorem x73_23 {x : Int32} {l0 l1 l2 : Value} : qEx d 73 23 st [l0, l1, l2, .int x] σ μ la Q ↔ qEx d 73 26 st [l0, l1, l2, .int (x + 1)] σ μ la Q := (qEx_eq (i := .iinc 3 1) rfl).trans Iff.rfl
theorem x73_26  : qEx d 73 26 st ls σ μ la Q ↔ qEx d 73 4 st ls σ μ la Q := (qEx_eq (i := .goto (-22)) rfl).trans Iff.rfl
theorem x73_29 {x : Int64} {l0 l3 : Value} : qEx d 73 29 st [l0, .long x, .retAddr 1, l3] σ μ la Q ↔ qEx d 73 30 (.long x :: st) [l0, .long x, .retAddr 1, l3] σ μ la Q := (qEx_eq (i := .lload_n 1) rfl).trans Iff.rfl
theorem x73_30 {x : Int64} : qEx d 73 30 [.long x] ls σ μ la Q ↔ Q (some (.long x)) σ μ la := (qEx_eq (i := .lreturn) rfl).trans Iff.rfl
theorem x203_0 {x : Nat} : qEx d 203 0 st [.ref x] σ μ la Q ↔ qEx d 203 1 (.ref x :: st) [.ref x] σ μ la Q := (qEx_eq (i := .aload_n 0) rfl).trans Iff.rfl
theorem x203_1 {a : Nat} : qEx d 203 1 (.ref a :: st) ls σ μ la Q ↔ ((qSh a).1 = 30 ∧ qEx d 203 4 (.ref (a + 10) :: st) ls σ μ la Q) := (qEx_eq (i := .getfield 9) rfl).trans qExA_chk
theorem x203_4 {a : Nat} : qEx d 203 4 (.ref a :: st) ls σ μ la Q ↔ (if (qSh a).1 = 21 then qEx d 203 5 (.int (Int32.ofNat (qSh a).2) :: st) ls σ μ la Q else ((qSh a).1 = 22 ∧ qEx d 203 5 (.int (μ a 1000) :: st) ls σ μ la Q)) := (qEx_eq (i := .arraylength) rfl).trans (qExA_ite2 Iff.rfl qExA_chk)
theorem x203_5 {x : Nat} : qEx d 203 5 st [.ref x] σ μ la Q ↔ qEx d 203 6 (.ref x :: st) [.ref x] σ μ la Q := (qEx_eq (i := .aload_n 0) rfl).trans Iff.rfl
theorem x203_6 {a : Nat} {z0 : Int32} : qEx (d + 1) 203 6 [.ref a, .int z0] ls σ μ la Q ↔ ((qSh a).1 = 30 ∧ qEx d 205 0 [] [.ref a] σ μ la fun r σ' μ' la' => qEx (d + 1) 203 9 (r.toList ++ [.int z0]) ls σ' μ' la' Q) := ((qEx_eq (i := .invokevirtual 335) rfl).trans qExA_chk).trans (qAndD)
theorem x203_9 {x y : Int32} : qEx d 203 9 (.int y :: .int x :: st) ls σ μ la Q ↔ qEx d 203 10 (.int (x >>> (y &&& 31)) :: st) ls σ μ la Q := (qEx_eq (i := .ishr) rfl).trans Iff.rfl
theorem x203_10 {x : Int32} : qEx d 203 10 [.int x] ls σ μ la Q ↔ Q (some (.int x)) σ μ la := (qEx_eq (i := .ireturn) rfl).trans Iff.rfl
theorem x204_0 {x : Nat} {l1 : Value} : qEx d 204 0 st [.ref x, l1] σ μ la Q ↔ qEx d 204 1 (.ref x :: st) [.ref x, l1] σ μ la Q := (qEx_eq (i := .aload_n 0) rfl).trans Iff.rfl
theorem x204_1 {a : Nat} : qEx (d + 1) 204 1 [.ref a] ls σ μ la Q ↔ ((qSh a).1 = 30 ∧ qEx d 206 0 [] [.ref a] σ μ la fun r σ' μ' la' => qEx (d + 1) 204 4 (r.toList ++ []) ls σ' μ' la' Q) := ((qEx_eq (i := .invokevirtual 492) rfl).trans qExA_chk).trans (qAndD)
theorem x204_4 {x : Int32} : qEx d 204 4 (.int x :: st) ls σ μ la Q ↔ (if x = 0 then qEx d 204 16 st ls σ μ la Q else qEx d 204 7 st ls σ μ la Q) := (qEx_eq (i := .ifCond .eq 12) rfl).trans qExA_ite
theorem x204_7 {x : Nat} {l1 : Value} : qEx d 204 7 st [.ref x, l1] σ μ la Q ↔ qEx d 204 8 (.ref x :: st) [.ref x, l1] σ μ la Q := (qEx_eq (i := .aload_n 0) rfl).trans Iff.rfl
theorem x204_8 {a : Nat} : qEx d 204 8 (.ref a :: st) ls σ μ la Q ↔ ((qSh a).1 = 30 ∧ qEx d 204 11 (.ref (a + 10) :: st) ls σ μ la Q) := (qEx_eq (i := .getfield 9) rfl).trans qExA_chk
theorem x204_11 {x : Int32} {l0 : Value} : qEx d 204 11 st [l0, .int x] σ μ la Q ↔ qEx d 204 12 (.int x :: st) [l0, .int x] σ μ la Q := (qEx_eq (i := .iload_n 1) rfl).trans Iff.rfl
theorem x204_12 {y0 : Nat} {y1 : Int32} : qEx (d + 1) 204 12 [.int y1, .ref y0] ls σ μ la Q ↔ qEx d 208 0 [] [.ref y0, .int y1] σ μ la fun r σ' μ' la' => qEx (d + 1) 204 15 (r.toList ++ []) ls σ' μ' la' Q := (qEx_eq (i := .invokestatic 495) rfl).trans Iff.rfl
theorem x204_15 {x : Int32} : qEx d 204 15 [.int x] ls σ μ la Q ↔ (x.toUInt32.toUInt16.toUInt32.toInt32 = x ∧ Q (some (.int x)) σ μ la) := (qEx_eq (i := .ireturn) rfl).trans qExA_chk
theorem x204_16 {x : Nat} {l1 : Value} : qEx d 204 16 st [.ref x, l1] σ μ la Q ↔ qEx d 204 17 (.ref x :: st) [.ref x, l1] σ μ la Q := (qEx_eq (i := .aload_n 0) rfl).trans Iff.rfl
theorem x204_17 {a : Nat} : qEx d 204 17 (.ref a :: st) ls σ μ la Q ↔ ((qSh a).1 = 30 ∧ qEx d 204 20 (.ref (a + 10) :: st) ls σ μ la Q) := (qEx_eq (i := .getfield 9) rfl).trans qExA_chk
theorem x204_20 {x : Int32} {l0 : Value} : qEx d 204 20 st [l0, .int x] σ μ la Q ↔ qEx d 204 21 (.int x :: st) [l0, .int x] σ μ la Q := (qEx_eq (i := .iload_n 1) rfl).trans Iff.rfl
theorem x205_0  : qEx d 205 0 st ls σ μ la Q ↔ qEx d 205 3 (.int 1 :: st) ls σ μ la Q := (qEx_eq (i := .getstatic 38) rfl).trans Iff.rfl
theorem x205_3 {x : Int32} : qEx d 205 3 (.int x :: st) ls σ μ la Q ↔ (if x = 0 then qEx d 205 13 st ls σ μ la Q else qEx d 205 6 st ls σ μ la Q) := (qEx_eq (i := .ifCond .eq 10) rfl).trans qExA_ite
theorem x205_6 {x : Nat} : qEx d 205 6 st [.ref x] σ μ la Q ↔ qEx d 205 7 (.ref x :: st) [.ref x] σ μ la Q := (qEx_eq (i := .aload_n 0) rfl).trans Iff.rfl
theorem x205_7 {a : Nat} : qEx d 205 7 (.ref a :: st) ls σ μ la Q ↔ ((qSh a).1 = 30 ∧ qEx d 205 10 (.int 0 :: st) ls σ μ la Q) := (qEx_eq (i := .getfield 15) rfl).trans qExA_chk
theorem x205_10  : qEx d 205 10 st ls σ μ la Q ↔ qEx d 205 14 st ls σ μ la Q := (qEx_eq (i := .goto 4) rfl).trans Iff.rfl
theorem x205_13  : qEx d 205 13 st ls σ μ la Q ↔ qEx d 205 14 (.int 1 :: st) ls σ μ la Q := (qEx_eq (i := .iconst 1) rfl).trans Iff.rfl
theorem x205_14 {x : Int32} : qEx d 205 14 [.int x] ls σ μ la Q ↔ (x.toInt8.toInt32 = x ∧ Q (some (.int x)) σ μ la) := (qEx_eq (i := .ireturn) rfl).trans qExA_chk
theorem x206_0  : qEx d 206 0 st ls σ μ la Q ↔ qEx d 206 3 (.int 1 :: st) ls σ μ la Q := (qEx_eq (i := .getstatic 38) rfl).trans Iff.rfl
theorem x206_3 {x : Int32} : qEx d 206 3 (.int x :: st) ls σ μ la Q ↔ (if x = 0 then qEx d 206 17 st ls σ μ la Q else qEx d 206 6 st ls σ μ la Q) := (qEx_eq (i := .ifCond .eq 14) rfl).trans qExA_ite
theorem x206_6 {x : Nat} : qEx d 206 6 st [.ref x] σ μ la Q ↔ qEx d 206 7 (.ref x :: st) [.ref x] σ μ la Q := (qEx_eq (i := .aload_n 0) rfl).trans Iff.rfl
theorem x206_7 {a : Nat} : qEx d 206 7 (.ref a :: st) ls σ μ la Q ↔ ((qSh a).1 = 30 ∧ qEx d 206 10 (.int 0 :: st) ls σ μ la Q) := (qEx_eq (i := .getfield 15) rfl).trans qExA_chk
theorem x206_10 {x : Int32} : qEx d 206 10 (.int x :: st) ls σ μ la Q ↔ (if ¬ x = 0 then qEx d 206 17 st ls σ μ la Q else qEx d 206 13 st ls σ μ la Q) := (qEx_eq (i := .ifCond .ne 7) rfl).trans qExA_ite
theorem x206_13  : qEx d 206 13 st ls σ μ la Q ↔ qEx d 206 14 (.int 1 :: st) ls σ μ la Q := (qEx_eq (i := .iconst 1) rfl).trans Iff.rfl
theorem x206_14  : qEx d 206 14 st ls σ μ la Q ↔ qEx d 206 18 st ls σ μ la Q := (qEx_eq (i := .goto 4) rfl).trans Iff.rfl
theorem x206_17  : qEx d 206 17 st ls σ μ la Q ↔ qEx d 206 18 (.int 0 :: st) ls σ μ la Q := (qEx_eq (i := .iconst 0) rfl).trans Iff.rfl
theorem x206_18 {x : Int32} : qEx d 206 18 [.int x] ls σ μ la Q ↔ ((x = 0 ∨ x = 1) ∧ Q (some (.int x)) σ μ la) := (qEx_eq (i := .ireturn) rfl).trans qExA_chk
theorem x207_0 {x : Int32} {l1 : Value} : qEx d 207 0 st [.int x, l1] σ μ la Q ↔ qEx d 207 1 (.int x :: st) [.int x, l1] σ μ la Q := (qEx_eq (i := .iload_n 0) rfl).trans Iff.rfl
theorem x207_1 {x : Int32} {l0 : Value} : qEx d 207 1 st [l0, .int x] σ μ la Q ↔ qEx d 207 2 (.int x :: st) [l0, .int x] σ μ la Q := (qEx_eq (i := .iload_n 1) rfl).trans Iff.rfl
theorem x207_2  : qEx d 207 2 st ls σ μ la Q ↔ qEx d 207 5 (.retAddr 7 :: st) ls σ μ la Q := (qEx_eq (i := .getstatic 1053) rfl).trans Iff.rfl
theorem x207_5 {y0 : Int32} {y1 : Int32} : qEx (d + 1) 207 5 [.retAddr 7, .int y1, .int y0] ls σ μ la Q ↔ qEx d 209 0 [] [.int y0, .int y1, .retAddr 7] σ μ la fun r σ' μ' la' => qEx (d + 1) 207 8 (r.toList ++ []) ls σ' μ' la' Q := (qEx_eq (i := .invokestatic 1059) rfl).trans Iff.rfl
theorem x207_8 {x : Int32} : qEx d 207 8 (.int x :: st) ls σ μ la Q ↔ qEx d 207 9 st ls σ μ la Q := (qEx_eq (i := .pop) rfl).trans Iff.rfl
theorem x207_9  : qEx d 207 9 [] ls σ μ la Q ↔ Q none σ μ la := (qEx_eq (i := .return_) rfl).trans Iff.rfl
theorem x208_0 {x : Int32} {l0 : Value} : qEx d 208 0 st [l0, .int x] σ μ la Q ↔ qEx d 208 1 (.int x :: st) [l0, .int x] σ μ la Q := (qEx_eq (i := .iload_n 1) rfl).trans Iff.rfl
theorem x208_1 {x : Nat} {l1 : Value} : qEx d 208 1 st [.ref x, l1] σ μ la Q ↔ qEx d 208 2 (.ref x :: st) [.ref x, l1] σ μ la Q := (qEx_eq (i := .aload_n 0) rfl).trans Iff.rfl
theorem x208_2 {a : Nat} : qEx d 208 2 (.ref a :: st) ls σ μ la Q ↔ (if (qSh a).1 = 21 then qEx d 208 3 (.int (Int32.ofNat (qSh a).2) :: st) ls σ μ la Q else ((qSh a).1 = 22 ∧ qEx d 208 3 (.int (μ a 1000) :: st) ls σ μ la Q)) := (qEx_eq (i := .arraylength) rfl).trans (qExA_ite2 Iff.rfl qExA_chk)
theorem x208_3 {y0 : Int32} {y1 : Int32} : qEx (d + 1) 208 3 [.int y1, .int y0] ls σ μ la Q ↔ qEx d 207 0 [] [.int y0, .int y1] σ μ la fun r σ' μ' la' => qEx (d + 1) 208 6 (r.toList ++ []) ls σ' μ' la' Q := (qEx_eq (i := .invokestatic 9) rfl).trans Iff.rfl
theorem x208_6 {x : Nat} {l1 : Value} : qEx d 208 6 st [.ref x, l1] σ μ la Q ↔ qEx d 208 7 (.ref x :: st) [.ref x, l1] σ μ la Q := (qEx_eq (i := .aload_n 0) rfl).trans Iff.rfl
theorem x208_7 {x : Int32} {l0 : Value} : qEx d 208 7 st [l0, .int x] σ μ la Q ↔ qEx d 208 8 (.int x :: st) [l0, .int x] σ μ la Q := (qEx_eq (i := .iload_n 1) rfl).trans Iff.rfl
theorem x208_8 {x : Int32} {a : Nat} : qEx d 208 8 (.int x :: .ref a :: st) ls σ μ la Q ↔ (qIn x (qBld σ a) = true ∧ qEx d 208 9 (.int (μ a x.toNatClampNeg) :: st) ls σ μ la Q) := (qEx_eq (i := .baload) rfl).trans qExA_chk
theorem x208_9  : qEx d 208 9 st ls σ μ la Q ↔ qEx d 208 12 (.int 255 :: st) ls σ μ la Q := (qEx_eq (i := .sipush 255) rfl).trans Iff.rfl
theorem x208_12 {x y : Int32} : qEx d 208 12 (.int y :: .int x :: st) ls σ μ la Q ↔ qEx d 208 13 (.int (x &&& y) :: st) ls σ μ la Q := (qEx_eq (i := .iand) rfl).trans Iff.rfl
theorem x208_13 {x : Int32} : qEx d 208 13 (.int x :: st) ls σ μ la Q ↔ qEx d 208 14 (.int ((x.toUInt32 % 65536).toInt32) :: st) ls σ μ la Q := (qEx_eq (i := .i2c) rfl).trans Iff.rfl
theorem x208_14 {x : Int32} : qEx d 208 14 [.int x] ls σ μ la Q ↔ (x.toUInt32.toUInt16.toUInt32.toInt32 = x ∧ Q (some (.int x)) σ μ la) := (qEx_eq (i := .ireturn) rfl).trans qExA_chk
theorem x209_0 {x : Int32} {l1 l2 : Value} : qEx d 209 0 st [.int x, l1, l2] σ μ la Q ↔ qEx d 209 1 (.int x :: st) [.int x, l1, l2] σ μ la Q := (qEx_eq (i := .iload_n 0) rfl).trans Iff.rfl
theorem x209_1 {x : Int32} : qEx d 209 1 (.int x :: st) ls σ μ la Q ↔ (if x < 0 then qEx d 209 9 st ls σ μ la Q else qEx d 209 4 st ls σ μ la Q) := (qEx_eq (i := .ifCond .lt 8) rfl).trans qExA_ite
theorem x209_4 {x : Int32} {l1 l2 : Value} : qEx d 209 4 st [.int x, l1, l2] σ μ la Q ↔ qEx d 209 5 (.int x :: st) [.int x, l1, l2] σ μ la Q := (qEx_eq (i := .iload_n 0) rfl).trans Iff.rfl
theorem x209_5 {x : Int32} {l0 l2 : Value} : qEx d 209 5 st [l0, .int x, l2] σ μ la Q ↔ qEx d 209 6 (.int x :: st) [l0, .int x, l2] σ μ la Q := (qEx_eq (i := .iload_n 1) rfl).trans Iff.rfl
theorem x209_6 {x y : Int32} : qEx d 209 6 (.int y :: .int x :: st) ls σ μ la Q ↔ (if x < y then qEx d 209 16 st ls σ μ la Q else qEx d 209 9 st ls σ μ la Q) := (qEx_eq (i := .if_icmp .lt 10) rfl).trans qExA_ite
theorem x209_9 {x : Nat} {l0 l1 : Value} : qEx d 209 9 st [l0, l1, .ref x] σ μ la Q ↔ qEx d 209 10 (.ref x :: st) [l0, l1, .ref x] σ μ la Q := (qEx_eq (i := .aload_n 2) rfl).trans Iff.rfl
theorem x209_10 {x : Int32} {l1 l2 : Value} : qEx d 209 10 st [.int x, l1, l2] σ μ la Q ↔ qEx d 209 11 (.int x :: st) [.int x, l1, l2] σ μ la Q := (qEx_eq (i := .iload_n 0) rfl).trans Iff.rfl
theorem x209_11 {x : Int32} {l0 l2 : Value} : qEx d 209 11 st [l0, .int x, l2] σ μ la Q ↔ qEx d 209 12 (.int x :: st) [l0, .int x, l2] σ μ la Q := (qEx_eq (i := .iload_n 1) rfl).trans Iff.rfl
theorem x209_16 {x : Int32} {l1 l2 : Value} : qEx d 209 16 st [.int x, l1, l2] σ μ la Q ↔ qEx d 209 17 (.int x :: st) [.int x, l1, l2] σ μ la Q := (qEx_eq (i := .iload_n 0) rfl).trans Iff.rfl
theorem x209_17 {x : Int32} : qEx d 209 17 [.int x] ls σ μ la Q ↔ Q (some (.int x)) σ μ la := (qEx_eq (i := .ireturn) rfl).trans Iff.rfl
