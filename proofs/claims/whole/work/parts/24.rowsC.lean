variable {d : Nat} {st ls : List Value} {σ : qSg} {μ : qMu} {la : qLa} {Q : qPost}
theorem x74_0 {x : Nat} : qEx d 74 0 st [.ref x] σ μ la Q ↔ qEx d 74 1 (.ref x :: st) [.ref x] σ μ la Q := (qEx_eq (i := .aload_n 0) rfl).trans Iff.rfl
theorem x74_1 {a : Nat} : qEx d 74 1 [.ref a] ls σ μ la Q ↔ qEx d 74 4 [] ls σ μ la Q := (qEx_eq (i := .invokespecial 1) rfl).trans Iff.rfl
theorem x74_4 {x : Nat} : qEx d 74 4 st [.ref x] σ μ la Q ↔ qEx d 74 5 (.ref x :: st) [.ref x] σ μ la Q := (qEx_eq (i := .aload_n 0) rfl).trans Iff.rfl
theorem x74_5  : qEx d 74 5 st ls σ μ la Q ↔ ((qSh σ.1 = (3, 4) ∧ σ.1 < 1000) ∧ qEx d 74 8 (.ref σ.1 :: st) ls (σ.1 + 1, qclr σ.2 σ.1 none) (qclr μ σ.1 0) la Q) := ((qEx_eq (i := .new 7) rfl).trans qExA_chk).trans (qAndM (by decide))
theorem x74_8 {x : Nat} : qEx d 74 8 (.ref x :: st) ls σ μ la Q ↔ qEx d 74 9 (.ref x :: .ref x :: st) ls σ μ la Q := (qEx_eq (i := .dup) rfl).trans Iff.rfl
theorem x74_9 {a : Nat} {z0 : Nat} {z1 : Nat} : qEx (d + 1) 74 9 [.ref a, .ref z0, .ref z1] ls σ μ la Q ↔ qEx d 44 0 [] [.ref a] σ μ la fun r σ' μ' la' => qEx (d + 1) 74 12 (r.toList ++ [.ref z0, .ref z1]) ls σ' μ' la' Q := (qEx_eq (i := .invokespecial 9) rfl).trans Iff.rfl
theorem x74_12 {a b : Nat} : qEx d 74 12 (.ref b :: .ref a :: st) ls σ μ la Q ↔ (qOk σ a 6 = true ∧ qEx d 74 15 st ls (σ.1, qsetR σ.2 a 0 (some b)) μ la Q) := ((qEx_eq (i := .putfield 10) rfl).trans qExA_chk).trans (qAndL ⟨by decide +kernel, by decide +kernel⟩)
theorem x74_15 {x : Nat} : qEx d 74 15 st [.ref x] σ μ la Q ↔ qEx d 74 16 (.ref x :: st) [.ref x] σ μ la Q := (qEx_eq (i := .aload_n 0) rfl).trans Iff.rfl
theorem x74_16  : qEx d 74 16 st ls σ μ la Q ↔ ((qSh σ.1 = (1, 8) ∧ σ.1 < 1000) ∧ qEx d 74 19 (.ref σ.1 :: st) ls (σ.1 + 1, qclr σ.2 σ.1 none) (qclr μ σ.1 0) la Q) := ((qEx_eq (i := .new 16) rfl).trans qExA_chk).trans (qAndM (by decide))
theorem x74_19 {x : Nat} : qEx d 74 19 (.ref x :: st) ls σ μ la Q ↔ qEx d 74 20 (.ref x :: .ref x :: st) ls σ μ la Q := (qEx_eq (i := .dup) rfl).trans Iff.rfl
theorem x74_20 {a : Nat} {z0 : Nat} {z1 : Nat} : qEx (d + 1) 74 20 [.ref a, .ref z0, .ref z1] ls σ μ la Q ↔ qEx d 4 0 [] [.ref a, .retAddr 0] σ μ la fun r σ' μ' la' => qEx (d + 1) 74 23 (r.toList ++ [.ref z0, .ref z1]) ls σ' μ' la' Q := (qEx_eq (i := .invokespecial 18) rfl).trans Iff.rfl
theorem x74_23 {a b : Nat} : qEx d 74 23 (.ref b :: .ref a :: st) ls σ μ la Q ↔ (qOk σ a 6 = true ∧ qEx d 74 26 st ls (σ.1, qsetR σ.2 a 6 (some b)) μ la Q) := ((qEx_eq (i := .putfield 19) rfl).trans qExA_chk).trans (qAndL ⟨by decide +kernel, by decide +kernel⟩)
theorem x74_26 {x : Nat} : qEx d 74 26 st [.ref x] σ μ la Q ↔ qEx d 74 27 (.ref x :: st) [.ref x] σ μ la Q := (qEx_eq (i := .aload_n 0) rfl).trans Iff.rfl
theorem x74_27 {x : Nat} : qEx d 74 27 st [.ref x] σ μ la Q ↔ qEx d 74 28 (.ref x :: st) [.ref x] σ μ la Q := (qEx_eq (i := .aload_n 0) rfl).trans Iff.rfl
theorem x74_28 {a : Nat} : qEx d 74 28 (.ref a :: st) ls σ μ la Q ↔ (qOk σ a 6 = true ∧ qEx d 74 31 (qrf (σ.2 a 6) :: st) ls σ μ la Q) := (qEx_eq (i := .getfield 19) rfl).trans qExA_chk
theorem x74_31 {a : Nat} : qEx d 74 31 (.ref a :: st) ls σ μ la Q ↔ (qOk σ a 1 = true ∧ qEx d 74 34 (qrf (σ.2 a 0) :: st) ls σ μ la Q) := (qEx_eq (i := .getfield 23) rfl).trans qExA_chk
theorem x74_34 {a b : Nat} : qEx d 74 34 (.ref b :: .ref a :: st) ls σ μ la Q ↔ (qOk σ a 6 = true ∧ qEx d 74 37 st ls (σ.1, qsetR σ.2 a 1 (some b)) μ la Q) := ((qEx_eq (i := .putfield 27) rfl).trans qExA_chk).trans (qAndL ⟨by decide +kernel, by decide +kernel⟩)
theorem x74_37 {x : Nat} : qEx d 74 37 st [.ref x] σ μ la Q ↔ qEx d 74 38 (.ref x :: st) [.ref x] σ μ la Q := (qEx_eq (i := .aload_n 0) rfl).trans Iff.rfl
theorem x74_38  : qEx d 74 38 st ls σ μ la Q ↔ ((qSh σ.1 = (0, 3) ∧ σ.1 < 1000) ∧ qEx d 74 41 (.ref σ.1 :: st) ls (σ.1 + 1, qclr σ.2 σ.1 none) (qclr μ σ.1 0) la Q) := ((qEx_eq (i := .new 28) rfl).trans qExA_chk).trans (qAndM (by decide))
theorem x74_41 {x : Nat} : qEx d 74 41 (.ref x :: st) ls σ μ la Q ↔ qEx d 74 42 (.ref x :: .ref x :: st) ls σ μ la Q := (qEx_eq (i := .dup) rfl).trans Iff.rfl
theorem x74_42 {a : Nat} {z0 : Nat} {z1 : Nat} : qEx (d + 1) 74 42 [.ref a, .ref z0, .ref z1] ls σ μ la Q ↔ qEx d 0 0 [] [.ref a, .retAddr 0] σ μ la fun r σ' μ' la' => qEx (d + 1) 74 45 (r.toList ++ [.ref z0, .ref z1]) ls σ' μ' la' Q := (qEx_eq (i := .invokespecial 30) rfl).trans Iff.rfl
theorem x74_45 {a b : Nat} : qEx d 74 45 (.ref b :: .ref a :: st) ls σ μ la Q ↔ (qOk σ a 6 = true ∧ qEx d 74 48 st ls (σ.1, qsetR σ.2 a 2 (some b)) μ la Q) := ((qEx_eq (i := .putfield 31) rfl).trans qExA_chk).trans (qAndL ⟨by decide +kernel, by decide +kernel⟩)
theorem x74_48 {x : Nat} : qEx d 74 48 st [.ref x] σ μ la Q ↔ qEx d 74 49 (.ref x :: st) [.ref x] σ μ la Q := (qEx_eq (i := .aload_n 0) rfl).trans Iff.rfl
theorem x74_49  : qEx d 74 49 st ls σ μ la Q ↔ qEx d 74 50 (.int 2 :: st) ls σ μ la Q := (qEx_eq (i := .iconst 2) rfl).trans Iff.rfl
theorem x74_50 {x : Int32} : qEx d 74 50 (.int x :: st) ls σ μ la Q ↔ ((0 ≤ x ∧ qSh σ.1 = (13, x.toNatClampNeg) ∧ x.toNatClampNeg ≤ 5000 ∧ σ.1 < 1000) ∧ qEx d 74 53 (.ref σ.1 :: st) ls (σ.1 + 1, qclr σ.2 σ.1 none) μ la Q) := (qEx_eq (i := .anewarray 35) rfl).trans qExA_chk
theorem x74_53 {x : Nat} : qEx d 74 53 (.ref x :: st) ls σ μ la Q ↔ qEx d 74 54 (.ref x :: .ref x :: st) ls σ μ la Q := (qEx_eq (i := .dup) rfl).trans Iff.rfl
theorem x74_54  : qEx d 74 54 st ls σ μ la Q ↔ qEx d 74 55 (.int 0 :: st) ls σ μ la Q := (qEx_eq (i := .iconst 0) rfl).trans Iff.rfl
theorem x74_55  : qEx d 74 55 st ls σ μ la Q ↔ ((qSh σ.1 = (4, 13) ∧ σ.1 < 1000) ∧ qEx d 74 58 (.ref σ.1 :: st) ls (σ.1 + 1, qclr σ.2 σ.1 none) (qclr μ σ.1 0) la Q) := ((qEx_eq (i := .new 35) rfl).trans qExA_chk).trans (qAndM (by decide))
theorem x74_58 {x : Nat} : qEx d 74 58 (.ref x :: st) ls σ μ la Q ↔ qEx d 74 59 (.ref x :: .ref x :: st) ls σ μ la Q := (qEx_eq (i := .dup) rfl).trans Iff.rfl
theorem x74_59 {a : Nat} {z0 : Nat} {z1 : Int32} {z2 : Nat} {z3 : Nat} {z4 : Nat} : qEx (d + 1) 74 59 [.ref a, .ref z0, .int z1, .ref z2, .ref z3, .ref z4] ls σ μ la Q ↔ qEx d 58 0 [] [.ref a] σ μ la fun r σ' μ' la' => qEx (d + 1) 74 62 (r.toList ++ [.ref z0, .int z1, .ref z2, .ref z3, .ref z4]) ls σ' μ' la' Q := (qEx_eq (i := .invokespecial 37) rfl).trans Iff.rfl
theorem x74_62 {x : Int32} {a b : Nat} : qEx d 74 62 (.ref b :: .int x :: .ref a :: st) ls σ μ la Q ↔ (if (qIn x (qLen σ 13 a) = true ∧ qOk σ b 4 = true) then qEx d 74 63 st ls (σ.1, qsetR σ.2 a x.toNatClampNeg (some b)) μ la Q else ((qIn x (qLen σ 14 a) = true ∧ qOk σ b 2 = true) ∧ qEx d 74 63 st ls (σ.1, qsetR σ.2 a x.toNatClampNeg (some b)) μ la Q)) := (qEx_eq (i := .aastore) rfl).trans (qExA_ite2 Iff.rfl qExA_chk)
theorem x74_63 {x : Nat} : qEx d 74 63 (.ref x :: st) ls σ μ la Q ↔ qEx d 74 64 (.ref x :: .ref x :: st) ls σ μ la Q := (qEx_eq (i := .dup) rfl).trans Iff.rfl
theorem x74_64  : qEx d 74 64 st ls σ μ la Q ↔ qEx d 74 65 (.int 1 :: st) ls σ μ la Q := (qEx_eq (i := .iconst 1) rfl).trans Iff.rfl
theorem x74_65  : qEx d 74 65 st ls σ μ la Q ↔ ((qSh σ.1 = (4, 13) ∧ σ.1 < 1000) ∧ qEx d 74 68 (.ref σ.1 :: st) ls (σ.1 + 1, qclr σ.2 σ.1 none) (qclr μ σ.1 0) la Q) := ((qEx_eq (i := .new 35) rfl).trans qExA_chk).trans (qAndM (by decide))
theorem x74_68 {x : Nat} : qEx d 74 68 (.ref x :: st) ls σ μ la Q ↔ qEx d 74 69 (.ref x :: .ref x :: st) ls σ μ la Q := (qEx_eq (i := .dup) rfl).trans Iff.rfl
theorem x74_69 {a : Nat} {z0 : Nat} {z1 : Int32} {z2 : Nat} {z3 : Nat} {z4 : Nat} : qEx (d + 1) 74 69 [.ref a, .ref z0, .int z1, .ref z2, .ref z3, .ref z4] ls σ μ la Q ↔ qEx d 58 0 [] [.ref a] σ μ la fun r σ' μ' la' => qEx (d + 1) 74 72 (r.toList ++ [.ref z0, .int z1, .ref z2, .ref z3, .ref z4]) ls σ' μ' la' Q := (qEx_eq (i := .invokespecial 37) rfl).trans Iff.rfl
theorem x74_72 {x : Int32} {a b : Nat} : qEx d 74 72 (.ref b :: .int x :: .ref a :: st) ls σ μ la Q ↔ (if (qIn x (qLen σ 13 a) = true ∧ qOk σ b 4 = true) then qEx d 74 73 st ls (σ.1, qsetR σ.2 a x.toNatClampNeg (some b)) μ la Q else ((qIn x (qLen σ 14 a) = true ∧ qOk σ b 2 = true) ∧ qEx d 74 73 st ls (σ.1, qsetR σ.2 a x.toNatClampNeg (some b)) μ la Q)) := (qEx_eq (i := .aastore) rfl).trans (qExA_ite2 Iff.rfl qExA_chk)
theorem x74_73 {a b : Nat} : qEx d 74 73 (.ref b :: .ref a :: st) ls σ μ la Q ↔ (qOk σ a 6 = true ∧ qEx d 74 76 st ls (σ.1, qsetR σ.2 a 3 (some b)) μ la Q) := ((qEx_eq (i := .putfield 38) rfl).trans qExA_chk).trans (qAndL ⟨by decide +kernel, by decide +kernel⟩)
theorem x74_76 {x : Nat} : qEx d 74 76 st [.ref x] σ μ la Q ↔ qEx d 74 77 (.ref x :: st) [.ref x] σ μ la Q := (qEx_eq (i := .aload_n 0) rfl).trans Iff.rfl
theorem x74_77  : qEx d 74 77 st ls σ μ la Q ↔ qEx d 74 78 (.int 4 :: st) ls σ μ la Q := (qEx_eq (i := .iconst 4) rfl).trans Iff.rfl
theorem x74_78 {x : Int32} : qEx d 74 78 (.int x :: st) ls σ μ la Q ↔ ((0 ≤ x ∧ qSh σ.1 = (14, x.toNatClampNeg) ∧ x.toNatClampNeg ≤ 5000 ∧ σ.1 < 1000) ∧ qEx d 74 81 (.ref σ.1 :: st) ls (σ.1 + 1, qclr σ.2 σ.1 none) μ la Q) := (qEx_eq (i := .anewarray 42) rfl).trans qExA_chk
theorem x74_81 {x : Nat} : qEx d 74 81 (.ref x :: st) ls σ μ la Q ↔ qEx d 74 82 (.ref x :: .ref x :: st) ls σ μ la Q := (qEx_eq (i := .dup) rfl).trans Iff.rfl
theorem x74_82  : qEx d 74 82 st ls σ μ la Q ↔ qEx d 74 83 (.int 0 :: st) ls σ μ la Q := (qEx_eq (i := .iconst 0) rfl).trans Iff.rfl
theorem x74_83  : qEx d 74 83 st ls σ μ la Q ↔ ((qSh σ.1 = (2, 3) ∧ σ.1 < 1000) ∧ qEx d 74 86 (.ref σ.1 :: st) ls (σ.1 + 1, qclr σ.2 σ.1 none) (qclr μ σ.1 0) la Q) := ((qEx_eq (i := .new 42) rfl).trans qExA_chk).trans (qAndM (by decide))
theorem x74_86 {x : Nat} : qEx d 74 86 (.ref x :: st) ls σ μ la Q ↔ qEx d 74 87 (.ref x :: .ref x :: st) ls σ μ la Q := (qEx_eq (i := .dup) rfl).trans Iff.rfl
theorem x74_87 {a : Nat} {z0 : Nat} {z1 : Int32} {z2 : Nat} {z3 : Nat} {z4 : Nat} : qEx (d + 1) 74 87 [.ref a, .ref z0, .int z1, .ref z2, .ref z3, .ref z4] ls σ μ la Q ↔ qEx d 37 0 [] [.ref a] σ μ la fun r σ' μ' la' => qEx (d + 1) 74 90 (r.toList ++ [.ref z0, .int z1, .ref z2, .ref z3, .ref z4]) ls σ' μ' la' Q := (qEx_eq (i := .invokespecial 44) rfl).trans Iff.rfl
theorem x74_90 {x : Int32} {a b : Nat} : qEx d 74 90 (.ref b :: .int x :: .ref a :: st) ls σ μ la Q ↔ (if (qIn x (qLen σ 13 a) = true ∧ qOk σ b 4 = true) then qEx d 74 91 st ls (σ.1, qsetR σ.2 a x.toNatClampNeg (some b)) μ la Q else ((qIn x (qLen σ 14 a) = true ∧ qOk σ b 2 = true) ∧ qEx d 74 91 st ls (σ.1, qsetR σ.2 a x.toNatClampNeg (some b)) μ la Q)) := (qEx_eq (i := .aastore) rfl).trans (qExA_ite2 Iff.rfl qExA_chk)
theorem x74_91 {x : Nat} : qEx d 74 91 (.ref x :: st) ls σ μ la Q ↔ qEx d 74 92 (.ref x :: .ref x :: st) ls σ μ la Q := (qEx_eq (i := .dup) rfl).trans Iff.rfl
theorem x74_92  : qEx d 74 92 st ls σ μ la Q ↔ qEx d 74 93 (.int 1 :: st) ls σ μ la Q := (qEx_eq (i := .iconst 1) rfl).trans Iff.rfl
theorem x74_93  : qEx d 74 93 st ls σ μ la Q ↔ ((qSh σ.1 = (2, 3) ∧ σ.1 < 1000) ∧ qEx d 74 96 (.ref σ.1 :: st) ls (σ.1 + 1, qclr σ.2 σ.1 none) (qclr μ σ.1 0) la Q) := ((qEx_eq (i := .new 42) rfl).trans qExA_chk).trans (qAndM (by decide))
theorem x74_96 {x : Nat} : qEx d 74 96 (.ref x :: st) ls σ μ la Q ↔ qEx d 74 97 (.ref x :: .ref x :: st) ls σ μ la Q := (qEx_eq (i := .dup) rfl).trans Iff.rfl
theorem x74_97 {a : Nat} {z0 : Nat} {z1 : Int32} {z2 : Nat} {z3 : Nat} {z4 : Nat} : qEx (d + 1) 74 97 [.ref a, .ref z0, .int z1, .ref z2, .ref z3, .ref z4] ls σ μ la Q ↔ qEx d 37 0 [] [.ref a] σ μ la fun r σ' μ' la' => qEx (d + 1) 74 100 (r.toList ++ [.ref z0, .int z1, .ref z2, .ref z3, .ref z4]) ls σ' μ' la' Q := (qEx_eq (i := .invokespecial 44) rfl).trans Iff.rfl
theorem x74_100 {x : Int32} {a b : Nat} : qEx d 74 100 (.ref b :: .int x :: .ref a :: st) ls σ μ la Q ↔ (if (qIn x (qLen σ 13 a) = true ∧ qOk σ b 4 = true) then qEx d 74 101 st ls (σ.1, qsetR σ.2 a x.toNatClampNeg (some b)) μ la Q else ((qIn x (qLen σ 14 a) = true ∧ qOk σ b 2 = true) ∧ qEx d 74 101 st ls (σ.1, qsetR σ.2 a x.toNatClampNeg (some b)) μ la Q)) := (qEx_eq (i := .aastore) rfl).trans (qExA_ite2 Iff.rfl qExA_chk)
theorem x74_101 {x : Nat} : qEx d 74 101 (.ref x :: st) ls σ μ la Q ↔ qEx d 74 102 (.ref x :: .ref x :: st) ls σ μ la Q := (qEx_eq (i := .dup) rfl).trans Iff.rfl
theorem x74_102  : qEx d 74 102 st ls σ μ la Q ↔ qEx d 74 103 (.int 2 :: st) ls σ μ la Q := (qEx_eq (i := .iconst 2) rfl).trans Iff.rfl
theorem x74_103  : qEx d 74 103 st ls σ μ la Q ↔ ((qSh σ.1 = (2, 3) ∧ σ.1 < 1000) ∧ qEx d 74 106 (.ref σ.1 :: st) ls (σ.1 + 1, qclr σ.2 σ.1 none) (qclr μ σ.1 0) la Q) := ((qEx_eq (i := .new 42) rfl).trans qExA_chk).trans (qAndM (by decide))
theorem x74_106 {x : Nat} : qEx d 74 106 (.ref x :: st) ls σ μ la Q ↔ qEx d 74 107 (.ref x :: .ref x :: st) ls σ μ la Q := (qEx_eq (i := .dup) rfl).trans Iff.rfl
theorem x74_107 {a : Nat} {z0 : Nat} {z1 : Int32} {z2 : Nat} {z3 : Nat} {z4 : Nat} : qEx (d + 1) 74 107 [.ref a, .ref z0, .int z1, .ref z2, .ref z3, .ref z4] ls σ μ la Q ↔ qEx d 37 0 [] [.ref a] σ μ la fun r σ' μ' la' => qEx (d + 1) 74 110 (r.toList ++ [.ref z0, .int z1, .ref z2, .ref z3, .ref z4]) ls σ' μ' la' Q := (qEx_eq (i := .invokespecial 44) rfl).trans Iff.rfl
theorem x74_110 {x : Int32} {a b : Nat} : qEx d 74 110 (.ref b :: .int x :: .ref a :: st) ls σ μ la Q ↔ (if (qIn x (qLen σ 13 a) = true ∧ qOk σ b 4 = true) then qEx d 74 111 st ls (σ.1, qsetR σ.2 a x.toNatClampNeg (some b)) μ la Q else ((qIn x (qLen σ 14 a) = true ∧ qOk σ b 2 = true) ∧ qEx d 74 111 st ls (σ.1, qsetR σ.2 a x.toNatClampNeg (some b)) μ la Q)) := (qEx_eq (i := .aastore) rfl).trans (qExA_ite2 Iff.rfl qExA_chk)
theorem x74_111 {x : Nat} : qEx d 74 111 (.ref x :: st) ls σ μ la Q ↔ qEx d 74 112 (.ref x :: .ref x :: st) ls σ μ la Q := (qEx_eq (i := .dup) rfl).trans Iff.rfl
theorem x74_112  : qEx d 74 112 st ls σ μ la Q ↔ qEx d 74 113 (.int 3 :: st) ls σ μ la Q := (qEx_eq (i := .iconst 3) rfl).trans Iff.rfl
theorem x74_113  : qEx d 74 113 st ls σ μ la Q ↔ ((qSh σ.1 = (2, 3) ∧ σ.1 < 1000) ∧ qEx d 74 116 (.ref σ.1 :: st) ls (σ.1 + 1, qclr σ.2 σ.1 none) (qclr μ σ.1 0) la Q) := ((qEx_eq (i := .new 42) rfl).trans qExA_chk).trans (qAndM (by decide))
theorem x74_116 {x : Nat} : qEx d 74 116 (.ref x :: st) ls σ μ la Q ↔ qEx d 74 117 (.ref x :: .ref x :: st) ls σ μ la Q := (qEx_eq (i := .dup) rfl).trans Iff.rfl
theorem x74_117 {a : Nat} {z0 : Nat} {z1 : Int32} {z2 : Nat} {z3 : Nat} {z4 : Nat} : qEx (d + 1) 74 117 [.ref a, .ref z0, .int z1, .ref z2, .ref z3, .ref z4] ls σ μ la Q ↔ qEx d 37 0 [] [.ref a] σ μ la fun r σ' μ' la' => qEx (d + 1) 74 120 (r.toList ++ [.ref z0, .int z1, .ref z2, .ref z3, .ref z4]) ls σ' μ' la' Q := (qEx_eq (i := .invokespecial 44) rfl).trans Iff.rfl
theorem x74_120 {x : Int32} {a b : Nat} : qEx d 74 120 (.ref b :: .int x :: .ref a :: st) ls σ μ la Q ↔ (if (qIn x (qLen σ 13 a) = true ∧ qOk σ b 4 = true) then qEx d 74 121 st ls (σ.1, qsetR σ.2 a x.toNatClampNeg (some b)) μ la Q else ((qIn x (qLen σ 14 a) = true ∧ qOk σ b 2 = true) ∧ qEx d 74 121 st ls (σ.1, qsetR σ.2 a x.toNatClampNeg (some b)) μ la Q)) := (qEx_eq (i := .aastore) rfl).trans (qExA_ite2 Iff.rfl qExA_chk)
theorem x74_121 {a b : Nat} : qEx d 74 121 (.ref b :: .ref a :: st) ls σ μ la Q ↔ (qOk σ a 6 = true ∧ qEx d 74 124 st ls (σ.1, qsetR σ.2 a 4 (some b)) μ la Q) := ((qEx_eq (i := .putfield 45) rfl).trans qExA_chk).trans (qAndL ⟨by decide +kernel, by decide +kernel⟩)
theorem x74_124 {x : Nat} : qEx d 74 124 st [.ref x] σ μ la Q ↔ qEx d 74 125 (.ref x :: st) [.ref x] σ μ la Q := (qEx_eq (i := .aload_n 0) rfl).trans Iff.rfl
theorem x74_125  : qEx d 74 125 st ls σ μ la Q ↔ ((qSh σ.1 = (5, 5) ∧ σ.1 < 1000) ∧ qEx d 74 128 (.ref σ.1 :: st) ls (σ.1 + 1, qclr σ.2 σ.1 none) (qclr μ σ.1 0) la Q) := ((qEx_eq (i := .new 49) rfl).trans qExA_chk).trans (qAndM (by decide))
theorem x74_128 {x : Nat} : qEx d 74 128 (.ref x :: st) ls σ μ la Q ↔ qEx d 74 129 (.ref x :: .ref x :: st) ls σ μ la Q := (qEx_eq (i := .dup) rfl).trans Iff.rfl
theorem x74_129 {a : Nat} {z0 : Nat} {z1 : Nat} : qEx (d + 1) 74 129 [.ref a, .ref z0, .ref z1] ls σ μ la Q ↔ qEx d 70 0 [] [.ref a] σ μ la fun r σ' μ' la' => qEx (d + 1) 74 132 (r.toList ++ [.ref z0, .ref z1]) ls σ' μ' la' Q := (qEx_eq (i := .invokespecial 51) rfl).trans Iff.rfl
theorem x74_132 {a b : Nat} : qEx d 74 132 (.ref b :: .ref a :: st) ls σ μ la Q ↔ (qOk σ a 6 = true ∧ qEx d 74 135 st ls (σ.1, qsetR σ.2 a 5 (some b)) μ la Q) := ((qEx_eq (i := .putfield 52) rfl).trans qExA_chk).trans (qAndL ⟨by decide +kernel, by decide +kernel⟩)
theorem x74_135  : qEx d 74 135 [] ls σ μ la Q ↔ Q none σ μ la := (qEx_eq (i := .return_) rfl).trans Iff.rfl
theorem x75_0 {x : Int32} {l0 : Value} : qEx d 75 0 st [l0, .int x] σ μ la Q ↔ qEx d 75 1 (.int x :: st) [l0, .int x] σ μ la Q := (qEx_eq (i := .iload_n 1) rfl).trans Iff.rfl
theorem x75_1 {x : Int32} : qEx d 75 1 (.int x :: st) ls σ μ la Q ↔ (if x < 0 then qEx d 75 11 st ls σ μ la Q else qEx d 75 4 st ls σ μ la Q) := (qEx_eq (i := .ifCond .lt 10) rfl).trans qExA_ite
theorem x75_4 {x : Int32} {l0 : Value} : qEx d 75 4 st [l0, .int x] σ μ la Q ↔ qEx d 75 5 (.int x :: st) [l0, .int x] σ μ la Q := (qEx_eq (i := .iload_n 1) rfl).trans Iff.rfl
theorem x75_5  : qEx d 75 5 st ls σ μ la Q ↔ qEx d 75 8 (.int 255 :: st) ls σ μ la Q := (qEx_eq (i := .sipush 255) rfl).trans Iff.rfl
theorem x75_8 {x y : Int32} : qEx d 75 8 (.int y :: .int x :: st) ls σ μ la Q ↔ (if x ≤ y then qEx d 75 13 st ls σ μ la Q else qEx d 75 11 st ls σ μ la Q) := (qEx_eq (i := .if_icmp .le 5) rfl).trans qExA_ite
theorem x75_11  : qEx d 75 11 st ls σ μ la Q ↔ qEx d 75 12 (.int (-1) :: st) ls σ μ la Q := (qEx_eq (i := .iconst (-1)) rfl).trans Iff.rfl
theorem x75_12 {x : Int32} : qEx d 75 12 [.int x] ls σ μ la Q ↔ Q (some (.int x)) σ μ la := (qEx_eq (i := .ireturn) rfl).trans Iff.rfl
theorem x75_13 {x : Nat} {l1 : Value} : qEx d 75 13 st [.ref x, l1] σ μ la Q ↔ qEx d 75 14 (.ref x :: st) [.ref x, l1] σ μ la Q := (qEx_eq (i := .aload_n 0) rfl).trans Iff.rfl
theorem x75_14 {a : Nat} : qEx d 75 14 (.ref a :: st) ls σ μ la Q ↔ (qOk σ a 6 = true ∧ qEx d 75 17 (qrf (σ.2 a 0) :: st) ls σ μ la Q) := (qEx_eq (i := .getfield 10) rfl).trans qExA_chk
theorem x75_17 {x : Int32} {l0 : Value} : qEx d 75 17 st [l0, .int x] σ μ la Q ↔ qEx d 75 18 (.int x :: st) [l0, .int x] σ μ la Q := (qEx_eq (i := .iload_n 1) rfl).trans Iff.rfl
theorem x75_18 {y0 : Int32} {a : Nat} : qEx (d + 1) 75 18 [.int y0, .ref a] ls σ μ la Q ↔ (qOk σ a 3 = true ∧ qEx d 45 0 [] [.ref a, .int y0] σ μ la fun r σ' μ' la' => qEx (d + 1) 75 21 (r.toList ++ []) ls σ' μ' la' Q) := (qEx_eq (i := .invokevirtual 56) rfl).trans qExA_chk
theorem x75_21 {x : Int32} : qEx d 75 21 (.int x :: st) ls σ μ la Q ↔ (if x = 0 then qEx d 75 34 st ls σ μ la Q else qEx d 75 24 st ls σ μ la Q) := (qEx_eq (i := .ifCond .eq 13) rfl).trans qExA_ite
theorem x75_24 {x : Nat} {l1 : Value} : qEx d 75 24 st [.ref x, l1] σ μ la Q ↔ qEx d 75 25 (.ref x :: st) [.ref x, l1] σ μ la Q := (qEx_eq (i := .aload_n 0) rfl).trans Iff.rfl
theorem x75_25 {a : Nat} : qEx d 75 25 (.ref a :: st) ls σ μ la Q ↔ (qOk σ a 6 = true ∧ qEx d 75 28 (qrf (σ.2 a 0) :: st) ls σ μ la Q) := (qEx_eq (i := .getfield 10) rfl).trans qExA_chk
theorem x75_28 {a : Nat} : qEx d 75 28 (.ref a :: st) ls σ μ la Q ↔ (qOk σ a 3 = true ∧ qEx d 75 31 (.int (μ a 2) :: st) ls σ μ la Q) := (qEx_eq (i := .getfield 60) rfl).trans qExA_chk
theorem x75_31  : qEx d 75 31 st ls σ μ la Q ↔ qEx d 75 36 st ls σ μ la Q := (qEx_eq (i := .goto 5) rfl).trans Iff.rfl
theorem x75_34  : qEx d 75 34 st ls σ μ la Q ↔ qEx d 75 36 (.int (-3) :: st) ls σ μ la Q := (qEx_eq (i := .bipush (-3)) rfl).trans Iff.rfl
theorem x75_36 {x : Int32} : qEx d 75 36 [.int x] ls σ μ la Q ↔ Q (some (.int x)) σ μ la := (qEx_eq (i := .ireturn) rfl).trans Iff.rfl
theorem x76_0 {x : Nat} {l1 : Value} : qEx d 76 0 st [.ref x, l1] σ μ la Q ↔ qEx d 76 1 (.ref x :: st) [.ref x, l1] σ μ la Q := (qEx_eq (i := .aload_n 0) rfl).trans Iff.rfl
theorem x76_1 {a : Nat} : qEx d 76 1 (.ref a :: st) ls σ μ la Q ↔ (qOk σ a 6 = true ∧ qEx d 76 4 (qrf (σ.2 a 0) :: st) ls σ μ la Q) := (qEx_eq (i := .getfield 10) rfl).trans qExA_chk
theorem x76_4 {a : Nat} : qEx (d + 1) 76 4 [.ref a] ls σ μ la Q ↔ (qOk σ a 3 = true ∧ qEx d 46 0 [] [.ref a] σ μ la fun r σ' μ' la' => qEx (d + 1) 76 7 (r.toList ++ []) ls σ' μ' la' Q) := (qEx_eq (i := .invokevirtual 64) rfl).trans qExA_chk
theorem x76_7 {x : Int32} {l0 l1 : Value} : qEx d 76 7 (.int x :: st) [l0, l1] σ μ la Q ↔ qEx d 76 8 st [l0, .int x] σ μ la Q := (qEx_eq (i := .istore_n 1) rfl).trans Iff.rfl
theorem x76_8 {x : Nat} {l1 : Value} : qEx d 76 8 st [.ref x, l1] σ μ la Q ↔ qEx d 76 9 (.ref x :: st) [.ref x, l1] σ μ la Q := (qEx_eq (i := .aload_n 0) rfl).trans Iff.rfl
theorem x76_9 {a : Nat} : qEx d 76 9 (.ref a :: st) ls σ μ la Q ↔ (qOk σ a 6 = true ∧ qEx d 76 12 (qrf (σ.2 a 0) :: st) ls σ μ la Q) := (qEx_eq (i := .getfield 10) rfl).trans qExA_chk
theorem x76_12  : qEx d 76 12 st ls σ μ la Q ↔ qEx d 76 13 (.int 0 :: st) ls σ μ la Q := (qEx_eq (i := .iconst 0) rfl).trans Iff.rfl
theorem x76_13 {x : Int32} {a : Nat} : qEx d 76 13 (.int x :: .ref a :: st) ls σ μ la Q ↔ (qOk σ a 3 = true ∧ qEx d 76 16 st ls σ (qset μ a 2 x) la Q) := (qEx_eq (i := .putfield 60) rfl).trans qExA_chk
theorem x76_16 {x : Int32} {l0 : Value} : qEx d 76 16 st [l0, .int x] σ μ la Q ↔ qEx d 76 17 (.int x :: st) [l0, .int x] σ μ la Q := (qEx_eq (i := .iload_n 1) rfl).trans Iff.rfl
theorem x76_17 {x : Int32} : qEx d 76 17 (.int x :: st) ls σ μ la Q ↔ (if ¬ x = 0 then qEx d 76 31 st ls σ μ la Q else qEx d 76 20 st ls σ μ la Q) := (qEx_eq (i := .ifCond .ne 14) rfl).trans qExA_ite
theorem x76_20  : qEx d 76 20 st ls σ μ la Q ↔ qEx d 76 22 (.int (-100) :: st) ls σ μ la Q := (qEx_eq (i := .bipush (-100)) rfl).trans Iff.rfl
theorem x76_22 {x : Nat} {l1 : Value} : qEx d 76 22 st [.ref x, l1] σ μ la Q ↔ qEx d 76 23 (.ref x :: st) [.ref x, l1] σ μ la Q := (qEx_eq (i := .aload_n 0) rfl).trans Iff.rfl
theorem x76_23 {a : Nat} : qEx d 76 23 (.ref a :: st) ls σ μ la Q ↔ (qOk σ a 6 = true ∧ qEx d 76 26 (qrf (σ.2 a 0) :: st) ls σ μ la Q) := (qEx_eq (i := .getfield 10) rfl).trans qExA_chk
theorem x76_26 {a : Nat} : qEx d 76 26 (.ref a :: st) ls σ μ la Q ↔ (qOk σ a 3 = true ∧ qEx d 76 29 (.int (μ a 3) :: st) ls σ μ la Q) := (qEx_eq (i := .getfield 68) rfl).trans qExA_chk
theorem x76_29 {x y : Int32} : qEx d 76 29 (.int y :: .int x :: st) ls σ μ la Q ↔ qEx d 76 30 (.int (x - y) :: st) ls σ μ la Q := (qEx_eq (i := .isub) rfl).trans Iff.rfl
theorem x76_30 {x : Int32} : qEx d 76 30 [.int x] ls σ μ la Q ↔ Q (some (.int x)) σ μ la := (qEx_eq (i := .ireturn) rfl).trans Iff.rfl
theorem x76_31 {x : Nat} {l1 : Value} : qEx d 76 31 st [.ref x, l1] σ μ la Q ↔ qEx d 76 32 (.ref x :: st) [.ref x, l1] σ μ la Q := (qEx_eq (i := .aload_n 0) rfl).trans Iff.rfl
theorem x76_32 {a : Nat} : qEx d 76 32 (.ref a :: st) ls σ μ la Q ↔ (qOk σ a 6 = true ∧ qEx d 76 35 (qrf (σ.2 a 1) :: st) ls σ μ la Q) := (qEx_eq (i := .getfield 27) rfl).trans qExA_chk
theorem x76_35 {x : Nat} {l1 : Value} : qEx d 76 35 st [.ref x, l1] σ μ la Q ↔ qEx d 76 36 (.ref x :: st) [.ref x, l1] σ μ la Q := (qEx_eq (i := .aload_n 0) rfl).trans Iff.rfl
theorem x76_36 {a : Nat} : qEx d 76 36 (.ref a :: st) ls σ μ la Q ↔ (qOk σ a 6 = true ∧ qEx d 76 39 (qrf (σ.2 a 0) :: st) ls σ μ la Q) := (qEx_eq (i := .getfield 10) rfl).trans qExA_chk
theorem x76_39 {a : Nat} : qEx d 76 39 (.ref a :: st) ls σ μ la Q ↔ (qOk σ a 3 = true ∧ qEx d 76 42 (qrf (σ.2 a 1) :: st) ls σ μ la Q) := (qEx_eq (i := .getfield 71) rfl).trans qExA_chk
theorem x76_42 {y0 : Nat} {a : Nat} : qEx (d + 1) 76 42 [.ref y0, .ref a] ls σ μ la Q ↔ (qOk σ a 4 = true ∧ qEx d 59 0 [] [.ref a, .ref y0] σ μ la fun r σ' μ' la' => qEx (d + 1) 76 45 (r.toList ++ []) ls σ' μ' la' Q) := (qEx_eq (i := .invokevirtual 74) rfl).trans qExA_chk
theorem x76_45 {x : Nat} {l1 : Value} : qEx d 76 45 st [.ref x, l1] σ μ la Q ↔ qEx d 76 46 (.ref x :: st) [.ref x, l1] σ μ la Q := (qEx_eq (i := .aload_n 0) rfl).trans Iff.rfl
theorem x76_46 {a : Nat} : qEx d 76 46 (.ref a :: st) ls σ μ la Q ↔ (qOk σ a 6 = true ∧ qEx d 76 49 (qrf (σ.2 a 2) :: st) ls σ μ la Q) := (qEx_eq (i := .getfield 31) rfl).trans qExA_chk
theorem x76_49 {a : Nat} : qEx (d + 1) 76 49 [.ref a] ls σ μ la Q ↔ (qOk σ a 0 = true ∧ qEx d 3 0 [] [.ref a] σ μ la fun r σ' μ' la' => qEx (d + 1) 76 52 (r.toList ++ []) ls σ' μ' la' Q) := (qEx_eq (i := .invokevirtual 78) rfl).trans qExA_chk
theorem x76_52 {x : Nat} {l1 : Value} : qEx d 76 52 st [.ref x, l1] σ μ la Q ↔ qEx d 76 53 (.ref x :: st) [.ref x, l1] σ μ la Q := (qEx_eq (i := .aload_n 0) rfl).trans Iff.rfl
theorem x76_53 {a : Nat} : qEx d 76 53 (.ref a :: st) ls σ μ la Q ↔ (qOk σ a 6 = true ∧ qEx d 76 56 (qrf (σ.2 a 1) :: st) ls σ μ la Q) := (qEx_eq (i := .getfield 27) rfl).trans qExA_chk
theorem x76_56 {a : Nat} : qEx d 76 56 (.ref a :: st) ls σ μ la Q ↔ (qOk σ a 4 = true ∧ qEx d 76 59 (.int (μ a 2) :: st) ls σ μ la Q) := (qEx_eq (i := .getfield 81) rfl).trans qExA_chk
theorem x76_59 {x : Int32} : qEx d 76 59 [.int x] ls σ μ la Q ↔ Q (some (.int x)) σ μ la := (qEx_eq (i := .ireturn) rfl).trans Iff.rfl
theorem x77_0 {x : Nat} {l1 l2 : Value} : qEx d 77 0 st [.ref x, l1, l2] σ μ la Q ↔ qEx d 77 1 (.ref x :: st) [.ref x, l1, l2] σ μ la Q := (qEx_eq (i := .aload_n 0) rfl).trans Iff.rfl
theorem x77_1 {a : Nat} : qEx d 77 1 (.ref a :: st) ls σ μ la Q ↔ (qOk σ a 6 = true ∧ qEx d 77 4 (qrf (σ.2 a 1) :: st) ls σ μ la Q) := (qEx_eq (i := .getfield 27) rfl).trans qExA_chk
theorem x77_4 {x : Int32} {l0 l2 : Value} : qEx d 77 4 st [l0, .int x, l2] σ μ la Q ↔ qEx d 77 5 (.int x :: st) [l0, .int x, l2] σ μ la Q := (qEx_eq (i := .iload_n 1) rfl).trans Iff.rfl
theorem x77_5 {y0 : Int32} {a : Nat} : qEx (d + 1) 77 5 [.int y0, .ref a] ls σ μ la Q ↔ (qOk σ a 4 = true ∧ qEx d 60 0 [] [.ref a, .int y0] σ μ la fun r σ' μ' la' => qEx (d + 1) 77 8 (r.toList ++ []) ls σ' μ' la' Q) := (qEx_eq (i := .invokevirtual 84) rfl).trans qExA_chk
theorem x77_8 {x : Int32} : qEx d 77 8 (.int x :: st) ls σ μ la Q ↔ (if x = 0 then qEx d 77 21 st ls σ μ la Q else qEx d 77 11 st ls σ μ la Q) := (qEx_eq (i := .ifCond .eq 13) rfl).trans qExA_ite
theorem x77_11 {x : Int32} {l0 l1 : Value} : qEx d 77 11 st [l0, l1, .int x] σ μ la Q ↔ qEx d 77 12 (.int x :: st) [l0, l1, .int x] σ μ la Q := (qEx_eq (i := .iload_n 2) rfl).trans Iff.rfl
theorem x77_12 {x : Int32} : qEx d 77 12 (.int x :: st) ls σ μ la Q ↔ (if x < 0 then qEx d 77 21 st ls σ μ la Q else qEx d 77 15 st ls σ μ la Q) := (qEx_eq (i := .ifCond .lt 9) rfl).trans qExA_ite
theorem x77_15 {x : Int32} {l0 l1 : Value} : qEx d 77 15 st [l0, l1, .int x] σ μ la Q ↔ qEx d 77 16 (.int x :: st) [l0, l1, .int x] σ μ la Q := (qEx_eq (i := .iload_n 2) rfl).trans Iff.rfl
theorem x77_16  : qEx d 77 16 st ls σ μ la Q ↔ qEx d 77 18 (.int 8 :: st) ls σ μ la Q := (qEx_eq (i := .bipush 8) rfl).trans Iff.rfl
theorem x77_18 {x y : Int32} : qEx d 77 18 (.int y :: .int x :: st) ls σ μ la Q ↔ (if x ≤ y then qEx d 77 23 st ls σ μ la Q else qEx d 77 21 st ls σ μ la Q) := (qEx_eq (i := .if_icmp .le 5) rfl).trans qExA_ite
theorem x77_21  : qEx d 77 21 st ls σ μ la Q ↔ qEx d 77 22 (.int (-1) :: st) ls σ μ la Q := (qEx_eq (i := .iconst (-1)) rfl).trans Iff.rfl
theorem x77_22 {x : Int32} : qEx d 77 22 [.int x] ls σ μ la Q ↔ Q (some (.int x)) σ μ la := (qEx_eq (i := .ireturn) rfl).trans Iff.rfl
theorem x77_23 {x : Int32} {l0 l1 : Value} : qEx d 77 23 st [l0, l1, .int x] σ μ la Q ↔ qEx d 77 24 (.int x :: st) [l0, l1, .int x] σ μ la Q := (qEx_eq (i := .iload_n 2) rfl).trans Iff.rfl
theorem x77_24 {x : Int32} : qEx d 77 24 (.int x :: st) ls σ μ la Q ↔ (if x.toInt = 0 then qEx d 77 60 st ls σ μ la Q else (if x.toInt = 1 then qEx d 77 70 st ls σ μ la Q else (if x.toInt = 2 then qEx d 77 80 st ls σ μ la Q else (if x.toInt = 3 then qEx d 77 90 st ls σ μ la Q else (if x.toInt = 4 then qEx d 77 100 st ls σ μ la Q else qEx d 77 110 st ls σ μ la Q))))) := (qEx_eq (i := .tableswitch 86 0 4 #[36, 46, 56, 66, 76]) rfl).trans (qExA_ite2 Iff.rfl (qExA_ite2 Iff.rfl (qExA_ite2 Iff.rfl (qExA_ite2 Iff.rfl (qExA_ite2 Iff.rfl Iff.rfl)))))
theorem x77_60 {x : Nat} {l1 l2 : Value} : qEx d 77 60 st [.ref x, l1, l2] σ μ la Q ↔ qEx d 77 61 (.ref x :: st) [.ref x, l1, l2] σ μ la Q := (qEx_eq (i := .aload_n 0) rfl).trans Iff.rfl
theorem x77_61 {a : Nat} : qEx d 77 61 (.ref a :: st) ls σ μ la Q ↔ (qOk σ a 6 = true ∧ qEx d 77 64 (qrf (σ.2 a 1) :: st) ls σ μ la Q) := (qEx_eq (i := .getfield 27) rfl).trans qExA_chk
theorem x77_64 {a : Nat} : qEx d 77 64 (.ref a :: st) ls σ μ la Q ↔ (qOk σ a 4 = true ∧ qEx d 77 67 (qrf (σ.2 a 7) :: st) ls σ μ la Q) := (qEx_eq (i := .getfield 87) rfl).trans qExA_chk
theorem x77_67 {x : Int32} {l0 l2 : Value} : qEx d 77 67 st [l0, .int x, l2] σ μ la Q ↔ qEx d 77 68 (.int x :: st) [l0, .int x, l2] σ μ la Q := (qEx_eq (i := .iload_n 1) rfl).trans Iff.rfl
theorem x77_68 {x : Int32} {a : Nat} : qEx d 77 68 (.int x :: .ref a :: st) ls σ μ la Q ↔ (qIn x (qIld σ μ a) = true ∧ qEx d 77 69 (.int (μ a x.toNatClampNeg) :: st) ls σ μ la Q) := (qEx_eq (i := .iaload) rfl).trans qExA_chk
theorem x77_69 {x : Int32} : qEx d 77 69 [.int x] ls σ μ la Q ↔ Q (some (.int x)) σ μ la := (qEx_eq (i := .ireturn) rfl).trans Iff.rfl
theorem x77_70 {x : Nat} {l1 l2 : Value} : qEx d 77 70 st [.ref x, l1, l2] σ μ la Q ↔ qEx d 77 71 (.ref x :: st) [.ref x, l1, l2] σ μ la Q := (qEx_eq (i := .aload_n 0) rfl).trans Iff.rfl
theorem x77_71 {a : Nat} : qEx d 77 71 (.ref a :: st) ls σ μ la Q ↔ (qOk σ a 6 = true ∧ qEx d 77 74 (qrf (σ.2 a 1) :: st) ls σ μ la Q) := (qEx_eq (i := .getfield 27) rfl).trans qExA_chk
theorem x77_74 {a : Nat} : qEx d 77 74 (.ref a :: st) ls σ μ la Q ↔ (qOk σ a 4 = true ∧ qEx d 77 77 (qrf (σ.2 a 8) :: st) ls σ μ la Q) := (qEx_eq (i := .getfield 91) rfl).trans qExA_chk
theorem x77_77 {x : Int32} {l0 l2 : Value} : qEx d 77 77 st [l0, .int x, l2] σ μ la Q ↔ qEx d 77 78 (.int x :: st) [l0, .int x, l2] σ μ la Q := (qEx_eq (i := .iload_n 1) rfl).trans Iff.rfl
theorem x77_78 {x : Int32} {a : Nat} : qEx d 77 78 (.int x :: .ref a :: st) ls σ μ la Q ↔ (qIn x (qIld σ μ a) = true ∧ qEx d 77 79 (.int (μ a x.toNatClampNeg) :: st) ls σ μ la Q) := (qEx_eq (i := .iaload) rfl).trans qExA_chk
theorem x77_79 {x : Int32} : qEx d 77 79 [.int x] ls σ μ la Q ↔ Q (some (.int x)) σ μ la := (qEx_eq (i := .ireturn) rfl).trans Iff.rfl
theorem x77_80 {x : Nat} {l1 l2 : Value} : qEx d 77 80 st [.ref x, l1, l2] σ μ la Q ↔ qEx d 77 81 (.ref x :: st) [.ref x, l1, l2] σ μ la Q := (qEx_eq (i := .aload_n 0) rfl).trans Iff.rfl
theorem x77_81 {a : Nat} : qEx d 77 81 (.ref a :: st) ls σ μ la Q ↔ (qOk σ a 6 = true ∧ qEx d 77 84 (qrf (σ.2 a 1) :: st) ls σ μ la Q) := (qEx_eq (i := .getfield 27) rfl).trans qExA_chk
theorem x77_84 {a : Nat} : qEx d 77 84 (.ref a :: st) ls σ μ la Q ↔ (qOk σ a 4 = true ∧ qEx d 77 87 (qrf (σ.2 a 9) :: st) ls σ μ la Q) := (qEx_eq (i := .getfield 94) rfl).trans qExA_chk
theorem x77_87 {x : Int32} {l0 l2 : Value} : qEx d 77 87 st [l0, .int x, l2] σ μ la Q ↔ qEx d 77 88 (.int x :: st) [l0, .int x, l2] σ μ la Q := (qEx_eq (i := .iload_n 1) rfl).trans Iff.rfl
theorem x77_88 {x : Int32} {a : Nat} : qEx d 77 88 (.int x :: .ref a :: st) ls σ μ la Q ↔ (qIn x (qIld σ μ a) = true ∧ qEx d 77 89 (.int (μ a x.toNatClampNeg) :: st) ls σ μ la Q) := (qEx_eq (i := .iaload) rfl).trans qExA_chk
theorem x77_89 {x : Int32} : qEx d 77 89 [.int x] ls σ μ la Q ↔ Q (some (.int x)) σ μ la := (qEx_eq (i := .ireturn) rfl).trans Iff.rfl
theorem x77_90 {x : Nat} {l1 l2 : Value} : qEx d 77 90 st [.ref x, l1, l2] σ μ la Q ↔ qEx d 77 91 (.ref x :: st) [.ref x, l1, l2] σ μ la Q := (qEx_eq (i := .aload_n 0) rfl).trans Iff.rfl
theorem x77_91 {a : Nat} : qEx d 77 91 (.ref a :: st) ls σ μ la Q ↔ (qOk σ a 6 = true ∧ qEx d 77 94 (qrf (σ.2 a 1) :: st) ls σ μ la Q) := (qEx_eq (i := .getfield 27) rfl).trans qExA_chk
theorem x77_94 {a : Nat} : qEx d 77 94 (.ref a :: st) ls σ μ la Q ↔ (qOk σ a 4 = true ∧ qEx d 77 97 (qrf (σ.2 a 10) :: st) ls σ μ la Q) := (qEx_eq (i := .getfield 97) rfl).trans qExA_chk
theorem x77_97 {x : Int32} {l0 l2 : Value} : qEx d 77 97 st [l0, .int x, l2] σ μ la Q ↔ qEx d 77 98 (.int x :: st) [l0, .int x, l2] σ μ la Q := (qEx_eq (i := .iload_n 1) rfl).trans Iff.rfl
theorem x77_98 {x : Int32} {a : Nat} : qEx d 77 98 (.int x :: .ref a :: st) ls σ μ la Q ↔ (qIn x (qIld σ μ a) = true ∧ qEx d 77 99 (.int (μ a x.toNatClampNeg) :: st) ls σ μ la Q) := (qEx_eq (i := .iaload) rfl).trans qExA_chk
theorem x77_99 {x : Int32} : qEx d 77 99 [.int x] ls σ μ la Q ↔ Q (some (.int x)) σ μ la := (qEx_eq (i := .ireturn) rfl).trans Iff.rfl
theorem x77_100 {x : Nat} {l1 l2 : Value} : qEx d 77 100 st [.ref x, l1, l2] σ μ la Q ↔ qEx d 77 101 (.ref x :: st) [.ref x, l1, l2] σ μ la Q := (qEx_eq (i := .aload_n 0) rfl).trans Iff.rfl
theorem x77_101 {a : Nat} : qEx d 77 101 (.ref a :: st) ls σ μ la Q ↔ (qOk σ a 6 = true ∧ qEx d 77 104 (qrf (σ.2 a 1) :: st) ls σ μ la Q) := (qEx_eq (i := .getfield 27) rfl).trans qExA_chk
theorem x77_104 {a : Nat} : qEx d 77 104 (.ref a :: st) ls σ μ la Q ↔ (qOk σ a 4 = true ∧ qEx d 77 107 (qrf (σ.2 a 11) :: st) ls σ μ la Q) := (qEx_eq (i := .getfield 100) rfl).trans qExA_chk
theorem x77_107 {x : Int32} {l0 l2 : Value} : qEx d 77 107 st [l0, .int x, l2] σ μ la Q ↔ qEx d 77 108 (.int x :: st) [l0, .int x, l2] σ μ la Q := (qEx_eq (i := .iload_n 1) rfl).trans Iff.rfl
theorem x77_108 {x : Int32} {a : Nat} : qEx d 77 108 (.int x :: .ref a :: st) ls σ μ la Q ↔ (qIn x (qIld σ μ a) = true ∧ qEx d 77 109 (.int (μ a x.toNatClampNeg) :: st) ls σ μ la Q) := (qEx_eq (i := .iaload) rfl).trans qExA_chk
theorem x77_109 {x : Int32} : qEx d 77 109 [.int x] ls σ μ la Q ↔ Q (some (.int x)) σ μ la := (qEx_eq (i := .ireturn) rfl).trans Iff.rfl
theorem x77_110 {x : Nat} {l1 l2 : Value} : qEx d 77 110 st [.ref x, l1, l2] σ μ la Q ↔ qEx d 77 111 (.ref x :: st) [.ref x, l1, l2] σ μ la Q := (qEx_eq (i := .aload_n 0) rfl).trans Iff.rfl
theorem x77_111 {a : Nat} : qEx d 77 111 (.ref a :: st) ls σ μ la Q ↔ (qOk σ a 6 = true ∧ qEx d 77 114 (qrf (σ.2 a 1) :: st) ls σ μ la Q) := (qEx_eq (i := .getfield 27) rfl).trans qExA_chk
theorem x77_114 {a : Nat} : qEx d 77 114 (.ref a :: st) ls σ μ la Q ↔ (qOk σ a 4 = true ∧ qEx d 77 117 (qrf (σ.2 a 12) :: st) ls σ μ la Q) := (qEx_eq (i := .getfield 103) rfl).trans qExA_chk
theorem x77_117 {x : Int32} {l0 l2 : Value} : qEx d 77 117 st [l0, .int x, l2] σ μ la Q ↔ qEx d 77 118 (.int x :: st) [l0, .int x, l2] σ μ la Q := (qEx_eq (i := .iload_n 1) rfl).trans Iff.rfl
theorem x77_118  : qEx d 77 118 st ls σ μ la Q ↔ qEx d 77 119 (.int 4 :: st) ls σ μ la Q := (qEx_eq (i := .iconst 4) rfl).trans Iff.rfl
theorem x77_119 {x y : Int32} : qEx d 77 119 (.int y :: .int x :: st) ls σ μ la Q ↔ qEx d 77 120 (.int (x * y) :: st) ls σ μ la Q := (qEx_eq (i := .imul) rfl).trans Iff.rfl
theorem x77_120 {x : Int32} {l0 l1 : Value} : qEx d 77 120 st [l0, l1, .int x] σ μ la Q ↔ qEx d 77 121 (.int x :: st) [l0, l1, .int x] σ μ la Q := (qEx_eq (i := .iload_n 2) rfl).trans Iff.rfl
theorem x77_121 {x y : Int32} : qEx d 77 121 (.int y :: .int x :: st) ls σ μ la Q ↔ qEx d 77 122 (.int (x + y) :: st) ls σ μ la Q := (qEx_eq (i := .iadd) rfl).trans Iff.rfl
theorem x77_122  : qEx d 77 122 st ls σ μ la Q ↔ qEx d 77 123 (.int 5 :: st) ls σ μ la Q := (qEx_eq (i := .iconst 5) rfl).trans Iff.rfl
theorem x77_123 {x y : Int32} : qEx d 77 123 (.int y :: .int x :: st) ls σ μ la Q ↔ qEx d 77 124 (.int (x - y) :: st) ls σ μ la Q := (qEx_eq (i := .isub) rfl).trans Iff.rfl
theorem x77_124 {x : Int32} {a : Nat} : qEx d 77 124 (.int x :: .ref a :: st) ls σ μ la Q ↔ (qIn x (qIld σ μ a) = true ∧ qEx d 77 125 (.int (μ a x.toNatClampNeg) :: st) ls σ μ la Q) := (qEx_eq (i := .iaload) rfl).trans qExA_chk
theorem x77_125 {x : Int32} : qEx d 77 125 [.int x] ls σ μ la Q ↔ Q (some (.int x)) σ μ la := (qEx_eq (i := .ireturn) rfl).trans Iff.rfl
theorem x78_0 {x : Nat} {l1 : Value} : qEx d 78 0 st [.ref x, l1] σ μ la Q ↔ qEx d 78 1 (.ref x :: st) [.ref x, l1] σ μ la Q := (qEx_eq (i := .aload_n 0) rfl).trans Iff.rfl
theorem x78_1 {a : Nat} : qEx d 78 1 (.ref a :: st) ls σ μ la Q ↔ (qOk σ a 6 = true ∧ qEx d 78 4 (qrf (σ.2 a 1) :: st) ls σ μ la Q) := (qEx_eq (i := .getfield 27) rfl).trans qExA_chk
theorem x78_4 {x : Int32} {l0 : Value} : qEx d 78 4 st [l0, .int x] σ μ la Q ↔ qEx d 78 5 (.int x :: st) [l0, .int x] σ μ la Q := (qEx_eq (i := .iload_n 1) rfl).trans Iff.rfl
theorem x78_5 {y0 : Int32} {a : Nat} : qEx (d + 1) 78 5 [.int y0, .ref a] ls σ μ la Q ↔ (qOk σ a 4 = true ∧ qEx d 61 0 [] [.ref a, .int y0] σ μ la fun r σ' μ' la' => qEx (d + 1) 78 8 (r.toList ++ []) ls σ' μ' la' Q) := (qEx_eq (i := .invokevirtual 106) rfl).trans qExA_chk
theorem x78_8 {x : Int32} : qEx d 78 8 (.int x :: st) ls σ μ la Q ↔ (if x = 0 then qEx d 78 23 st ls σ μ la Q else qEx d 78 11 st ls σ μ la Q) := (qEx_eq (i := .ifCond .eq 15) rfl).trans qExA_ite
theorem x78_11 {x : Nat} {l1 : Value} : qEx d 78 11 st [.ref x, l1] σ μ la Q ↔ qEx d 78 12 (.ref x :: st) [.ref x, l1] σ μ la Q := (qEx_eq (i := .aload_n 0) rfl).trans Iff.rfl
theorem x78_12 {a : Nat} : qEx d 78 12 (.ref a :: st) ls σ μ la Q ↔ (qOk σ a 6 = true ∧ qEx d 78 15 (qrf (σ.2 a 1) :: st) ls σ μ la Q) := (qEx_eq (i := .getfield 27) rfl).trans qExA_chk
theorem x78_15 {a : Nat} : qEx d 78 15 (.ref a :: st) ls σ μ la Q ↔ (qOk σ a 4 = true ∧ qEx d 78 18 (qrf (σ.2 a 6) :: st) ls σ μ la Q) := (qEx_eq (i := .getfield 109) rfl).trans qExA_chk
theorem x78_18 {x : Int32} {l0 : Value} : qEx d 78 18 st [l0, .int x] σ μ la Q ↔ qEx d 78 19 (.int x :: st) [l0, .int x] σ μ la Q := (qEx_eq (i := .iload_n 1) rfl).trans Iff.rfl
theorem x78_19 {x : Int32} {a : Nat} : qEx d 78 19 (.int x :: .ref a :: st) ls σ μ la Q ↔ (qIn x (qIld σ μ a) = true ∧ qEx d 78 20 (.int (μ a x.toNatClampNeg) :: st) ls σ μ la Q) := (qEx_eq (i := .iaload) rfl).trans qExA_chk
theorem x78_20  : qEx d 78 20 st ls σ μ la Q ↔ qEx d 78 24 st ls σ μ la Q := (qEx_eq (i := .goto 4) rfl).trans Iff.rfl
theorem x78_23  : qEx d 78 23 st ls σ μ la Q ↔ qEx d 78 24 (.int (-1) :: st) ls σ μ la Q := (qEx_eq (i := .iconst (-1)) rfl).trans Iff.rfl
theorem x78_24 {x : Int32} : qEx d 78 24 [.int x] ls σ μ la Q ↔ Q (some (.int x)) σ μ la := (qEx_eq (i := .ireturn) rfl).trans Iff.rfl
theorem x79_0 {x : Nat} {l1 : Value} : qEx d 79 0 st [.ref x, l1] σ μ la Q ↔ qEx d 79 1 (.ref x :: st) [.ref x, l1] σ μ la Q := (qEx_eq (i := .aload_n 0) rfl).trans Iff.rfl
theorem x79_1 {a : Nat} : qEx d 79 1 (.ref a :: st) ls σ μ la Q ↔ (qOk σ a 6 = true ∧ qEx d 79 4 (qrf (σ.2 a 1) :: st) ls σ μ la Q) := (qEx_eq (i := .getfield 27) rfl).trans qExA_chk
theorem x79_4 {x : Int32} {l0 : Value} : qEx d 79 4 st [l0, .int x] σ μ la Q ↔ qEx d 79 5 (.int x :: st) [l0, .int x] σ μ la Q := (qEx_eq (i := .iload_n 1) rfl).trans Iff.rfl
theorem x79_5 {y0 : Int32} {a : Nat} : qEx (d + 1) 79 5 [.int y0, .ref a] ls σ μ la Q ↔ (qOk σ a 4 = true ∧ qEx d 61 0 [] [.ref a, .int y0] σ μ la fun r σ' μ' la' => qEx (d + 1) 79 8 (r.toList ++ []) ls σ' μ' la' Q) := (qEx_eq (i := .invokevirtual 106) rfl).trans qExA_chk
theorem x79_8 {x : Int32} : qEx d 79 8 (.int x :: st) ls σ μ la Q ↔ (if x = 0 then qEx d 79 22 st ls σ μ la Q else qEx d 79 11 st ls σ μ la Q) := (qEx_eq (i := .ifCond .eq 14) rfl).trans qExA_ite
theorem x79_11 {x : Nat} {l1 : Value} : qEx d 79 11 st [.ref x, l1] σ μ la Q ↔ qEx d 79 12 (.ref x :: st) [.ref x, l1] σ μ la Q := (qEx_eq (i := .aload_n 0) rfl).trans Iff.rfl
theorem x79_12 {a : Nat} : qEx d 79 12 (.ref a :: st) ls σ μ la Q ↔ (qOk σ a 6 = true ∧ qEx d 79 15 (qrf (σ.2 a 1) :: st) ls σ μ la Q) := (qEx_eq (i := .getfield 27) rfl).trans qExA_chk
theorem x79_15 {x : Int32} {l0 : Value} : qEx d 79 15 st [l0, .int x] σ μ la Q ↔ qEx d 79 16 (.int x :: st) [l0, .int x] σ μ la Q := (qEx_eq (i := .iload_n 1) rfl).trans Iff.rfl
theorem x79_16 {y0 : Int32} {a : Nat} : qEx (d + 1) 79 16 [.int y0, .ref a] ls σ μ la Q ↔ (qOk σ a 4 = true ∧ qEx d 62 0 [] [.ref a, .int y0, .retAddr 0] σ μ la fun r σ' μ' la' => qEx (d + 1) 79 19 (r.toList ++ []) ls σ' μ' la' Q) := (qEx_eq (i := .invokevirtual 112) rfl).trans qExA_chk
theorem x79_19  : qEx d 79 19 st ls σ μ la Q ↔ qEx d 79 23 st ls σ μ la Q := (qEx_eq (i := .goto 4) rfl).trans Iff.rfl
theorem x79_22  : qEx d 79 22 st ls σ μ la Q ↔ qEx d 79 23 (.int (-1) :: st) ls σ μ la Q := (qEx_eq (i := .iconst (-1)) rfl).trans Iff.rfl
theorem x79_23 {x : Int32} : qEx d 79 23 [.int x] ls σ μ la Q ↔ Q (some (.int x)) σ μ la := (qEx_eq (i := .ireturn) rfl).trans Iff.rfl
theorem x80_0 {x : Nat} {l1 l2 : Value} : qEx d 80 0 st [.ref x, l1, l2] σ μ la Q ↔ qEx d 80 1 (.ref x :: st) [.ref x, l1, l2] σ μ la Q := (qEx_eq (i := .aload_n 0) rfl).trans Iff.rfl
theorem x80_1 {a : Nat} : qEx d 80 1 (.ref a :: st) ls σ μ la Q ↔ (qOk σ a 6 = true ∧ qEx d 80 4 (qrf (σ.2 a 1) :: st) ls σ μ la Q) := (qEx_eq (i := .getfield 27) rfl).trans qExA_chk
theorem x80_4 {x : Int32} {l0 l2 : Value} : qEx d 80 4 st [l0, .int x, l2] σ μ la Q ↔ qEx d 80 5 (.int x :: st) [l0, .int x, l2] σ μ la Q := (qEx_eq (i := .iload_n 1) rfl).trans Iff.rfl
theorem x80_5 {y0 : Int32} {a : Nat} : qEx (d + 1) 80 5 [.int y0, .ref a] ls σ μ la Q ↔ (qOk σ a 4 = true ∧ qEx d 60 0 [] [.ref a, .int y0] σ μ la fun r σ' μ' la' => qEx (d + 1) 80 8 (r.toList ++ []) ls σ' μ' la' Q) := (qEx_eq (i := .invokevirtual 84) rfl).trans qExA_chk
theorem x80_8 {x : Int32} : qEx d 80 8 (.int x :: st) ls σ μ la Q ↔ (if x = 0 then qEx d 80 21 st ls σ μ la Q else qEx d 80 11 st ls σ μ la Q) := (qEx_eq (i := .ifCond .eq 13) rfl).trans qExA_ite
theorem x80_11 {x : Int32} {l0 l1 : Value} : qEx d 80 11 st [l0, l1, .int x] σ μ la Q ↔ qEx d 80 12 (.int x :: st) [l0, l1, .int x] σ μ la Q := (qEx_eq (i := .iload_n 2) rfl).trans Iff.rfl
theorem x80_12 {x : Int32} : qEx d 80 12 (.int x :: st) ls σ μ la Q ↔ (if x < 0 then qEx d 80 21 st ls σ μ la Q else qEx d 80 15 st ls σ μ la Q) := (qEx_eq (i := .ifCond .lt 9) rfl).trans qExA_ite
theorem x80_15 {x : Int32} {l0 l1 : Value} : qEx d 80 15 st [l0, l1, .int x] σ μ la Q ↔ qEx d 80 16 (.int x :: st) [l0, l1, .int x] σ μ la Q := (qEx_eq (i := .iload_n 2) rfl).trans Iff.rfl
theorem x80_16  : qEx d 80 16 st ls σ μ la Q ↔ qEx d 80 18 (.int 6 :: st) ls σ μ la Q := (qEx_eq (i := .bipush 6) rfl).trans Iff.rfl
theorem x80_18 {x y : Int32} : qEx d 80 18 (.int y :: .int x :: st) ls σ μ la Q ↔ (if x < y then qEx d 80 23 st ls σ μ la Q else qEx d 80 21 st ls σ μ la Q) := (qEx_eq (i := .if_icmp .lt 5) rfl).trans qExA_ite
theorem x80_21  : qEx d 80 21 st ls σ μ la Q ↔ qEx d 80 22 (.int (-1) :: st) ls σ μ la Q := (qEx_eq (i := .iconst (-1)) rfl).trans Iff.rfl
theorem x80_22 {x : Int32} : qEx d 80 22 [.int x] ls σ μ la Q ↔ Q (some (.int x)) σ μ la := (qEx_eq (i := .ireturn) rfl).trans Iff.rfl
theorem x80_23 {x : Nat} {l1 l2 : Value} : qEx d 80 23 st [.ref x, l1, l2] σ μ la Q ↔ qEx d 80 24 (.ref x :: st) [.ref x, l1, l2] σ μ la Q := (qEx_eq (i := .aload_n 0) rfl).trans Iff.rfl
theorem x80_24 {a : Nat} : qEx d 80 24 (.ref a :: st) ls σ μ la Q ↔ (qOk σ a 6 = true ∧ qEx d 80 27 (qrf (σ.2 a 1) :: st) ls σ μ la Q) := (qEx_eq (i := .getfield 27) rfl).trans qExA_chk
theorem x80_27 {a : Nat} : qEx d 80 27 (.ref a :: st) ls σ μ la Q ↔ (qOk σ a 4 = true ∧ qEx d 80 30 (qrf (σ.2 a 7) :: st) ls σ μ la Q) := (qEx_eq (i := .getfield 87) rfl).trans qExA_chk
theorem x80_30 {x : Int32} {l0 l2 : Value} : qEx d 80 30 st [l0, .int x, l2] σ μ la Q ↔ qEx d 80 31 (.int x :: st) [l0, .int x, l2] σ μ la Q := (qEx_eq (i := .iload_n 1) rfl).trans Iff.rfl
theorem x80_31 {x : Int32} {a : Nat} : qEx d 80 31 (.int x :: .ref a :: st) ls σ μ la Q ↔ (qIn x (qIld σ μ a) = true ∧ qEx d 80 32 (.int (μ a x.toNatClampNeg) :: st) ls σ μ la Q) := (qEx_eq (i := .iaload) rfl).trans qExA_chk
theorem x80_32 {x : Int32} {l0 l1 : Value} : qEx d 80 32 st [l0, l1, .int x] σ μ la Q ↔ qEx d 80 33 (.int x :: st) [l0, l1, .int x] σ μ la Q := (qEx_eq (i := .iload_n 2) rfl).trans Iff.rfl
theorem x80_33 {y0 : Int32} {y1 : Int32} : qEx (d + 1) 80 33 [.int y1, .int y0] ls σ μ la Q ↔ qEx d 113 0 [] [.int y0, .int y1, .retAddr 0, .retAddr 0] σ μ la fun r σ' μ' la' => qEx (d + 1) 80 36 (r.toList ++ []) ls σ' μ' la' Q := (qEx_eq (i := .invokestatic 116) rfl).trans Iff.rfl
theorem x80_36 {x : Int32} : qEx d 80 36 (.int x :: st) ls σ μ la Q ↔ (if x = 0 then qEx d 80 43 st ls σ μ la Q else qEx d 80 39 st ls σ μ la Q) := (qEx_eq (i := .ifCond .eq 7) rfl).trans qExA_ite
theorem x80_39 {x : Int32} {l0 l2 : Value} : qEx d 80 39 st [l0, .int x, l2] σ μ la Q ↔ qEx d 80 40 (.int x :: st) [l0, .int x, l2] σ μ la Q := (qEx_eq (i := .iload_n 1) rfl).trans Iff.rfl
theorem x80_40  : qEx d 80 40 st ls σ μ la Q ↔ qEx d 80 45 st ls σ μ la Q := (qEx_eq (i := .goto 5) rfl).trans Iff.rfl
theorem x80_43  : qEx d 80 43 st ls σ μ la Q ↔ qEx d 80 45 (.int (-12) :: st) ls σ μ la Q := (qEx_eq (i := .bipush (-12)) rfl).trans Iff.rfl
theorem x80_45 {x : Int32} : qEx d 80 45 [.int x] ls σ μ la Q ↔ Q (some (.int x)) σ μ la := (qEx_eq (i := .ireturn) rfl).trans Iff.rfl
theorem x81_0 {x : Nat} : qEx d 81 0 st [.ref x] σ μ la Q ↔ qEx d 81 1 (.ref x :: st) [.ref x] σ μ la Q := (qEx_eq (i := .aload_n 0) rfl).trans Iff.rfl
theorem x81_1 {a : Nat} : qEx d 81 1 (.ref a :: st) ls σ μ la Q ↔ (qOk σ a 6 = true ∧ qEx d 81 4 (qrf (σ.2 a 1) :: st) ls σ μ la Q) := (qEx_eq (i := .getfield 27) rfl).trans qExA_chk
theorem x81_4 {a : Nat} : qEx d 81 4 (.ref a :: st) ls σ μ la Q ↔ (qOk σ a 4 = true ∧ qEx d 81 7 (.int (μ a 2) :: st) ls σ μ la Q) := (qEx_eq (i := .getfield 81) rfl).trans qExA_chk
theorem x81_7 {x : Int32} : qEx d 81 7 (.int x :: st) ls σ μ la Q ↔ (if ¬ x = 0 then qEx d 81 13 st ls σ μ la Q else qEx d 81 10 st ls σ μ la Q) := (qEx_eq (i := .ifCond .ne 6) rfl).trans qExA_ite
theorem x81_10  : qEx d 81 10 st ls σ μ la Q ↔ qEx d 81 12 (.int (-2) :: st) ls σ μ la Q := (qEx_eq (i := .bipush (-2)) rfl).trans Iff.rfl
theorem x81_12 {x : Int32} : qEx d 81 12 [.int x] ls σ μ la Q ↔ Q (some (.int x)) σ μ la := (qEx_eq (i := .ireturn) rfl).trans Iff.rfl
theorem x81_13 {x : Nat} : qEx d 81 13 st [.ref x] σ μ la Q ↔ qEx d 81 14 (.ref x :: st) [.ref x] σ μ la Q := (qEx_eq (i := .aload_n 0) rfl).trans Iff.rfl
theorem x81_14 {a : Nat} : qEx d 81 14 (.ref a :: st) ls σ μ la Q ↔ (qOk σ a 6 = true ∧ qEx d 81 17 (qrf (σ.2 a 1) :: st) ls σ μ la Q) := (qEx_eq (i := .getfield 27) rfl).trans qExA_chk
theorem x81_17 {a : Nat} : qEx d 81 17 (.ref a :: st) ls σ μ la Q ↔ (qOk σ a 4 = true ∧ qEx d 81 20 (.int (μ a 3) :: st) ls σ μ la Q) := (qEx_eq (i := .getfield 120) rfl).trans qExA_chk
theorem x81_20  : qEx d 81 20 st ls σ μ la Q ↔ qEx d 81 23 (.int 9999 :: st) ls σ μ la Q := (qEx_eq (i := .sipush 9999) rfl).trans Iff.rfl
theorem x81_23 {x y : Int32} : qEx d 81 23 (.int y :: .int x :: st) ls σ μ la Q ↔ (if x < y then qEx d 81 29 st ls σ μ la Q else qEx d 81 26 st ls σ μ la Q) := (qEx_eq (i := .if_icmp .lt 6) rfl).trans qExA_ite
theorem x81_26  : qEx d 81 26 st ls σ μ la Q ↔ qEx d 81 28 (.int (-3) :: st) ls σ μ la Q := (qEx_eq (i := .bipush (-3)) rfl).trans Iff.rfl
theorem x81_28 {x : Int32} : qEx d 81 28 [.int x] ls σ μ la Q ↔ Q (some (.int x)) σ μ la := (qEx_eq (i := .ireturn) rfl).trans Iff.rfl
theorem x81_29 {x : Nat} : qEx d 81 29 st [.ref x] σ μ la Q ↔ qEx d 81 30 (.ref x :: st) [.ref x] σ μ la Q := (qEx_eq (i := .aload_n 0) rfl).trans Iff.rfl
theorem x81_30 {a : Nat} : qEx d 81 30 (.ref a :: st) ls σ μ la Q ↔ (qOk σ a 6 = true ∧ qEx d 81 33 (qrf (σ.2 a 2) :: st) ls σ μ la Q) := (qEx_eq (i := .getfield 31) rfl).trans qExA_chk
theorem x81_33 {x : Nat} : qEx d 81 33 st [.ref x] σ μ la Q ↔ qEx d 81 34 (.ref x :: st) [.ref x] σ μ la Q := (qEx_eq (i := .aload_n 0) rfl).trans Iff.rfl
theorem x81_34 {a : Nat} : qEx d 81 34 (.ref a :: st) ls σ μ la Q ↔ (qOk σ a 6 = true ∧ qEx d 81 37 (qrf (σ.2 a 1) :: st) ls σ μ la Q) := (qEx_eq (i := .getfield 27) rfl).trans qExA_chk
theorem x81_37 {y0 : Nat} {a : Nat} : qEx (d + 1) 81 37 [.ref y0, .ref a] ls σ μ la Q ↔ (qOk σ a 0 = true ∧ qEx d 1 0 [] [.ref a, .ref y0] σ μ la fun r σ' μ' la' => qEx (d + 1) 81 40 (r.toList ++ []) ls σ' μ' la' Q) := (qEx_eq (i := .invokevirtual 123) rfl).trans qExA_chk
theorem x81_40 {x : Nat} : qEx d 81 40 st [.ref x] σ μ la Q ↔ qEx d 81 41 (.ref x :: st) [.ref x] σ μ la Q := (qEx_eq (i := .aload_n 0) rfl).trans Iff.rfl
theorem x81_41 {a : Nat} : qEx d 81 41 (.ref a :: st) ls σ μ la Q ↔ (qOk σ a 6 = true ∧ qEx d 81 44 (qrf (σ.2 a 1) :: st) ls σ μ la Q) := (qEx_eq (i := .getfield 27) rfl).trans qExA_chk
theorem x81_44 {x : Nat} : qEx d 81 44 st [.ref x] σ μ la Q ↔ qEx d 81 45 (.ref x :: st) [.ref x] σ μ la Q := (qEx_eq (i := .aload_n 0) rfl).trans Iff.rfl
theorem x81_45 {a : Nat} : qEx d 81 45 (.ref a :: st) ls σ μ la Q ↔ (qOk σ a 6 = true ∧ qEx d 81 48 (qrf (σ.2 a 5) :: st) ls σ μ la Q) := (qEx_eq (i := .getfield 52) rfl).trans qExA_chk
theorem x81_48 {y0 : Nat} {a : Nat} : qEx (d + 1) 81 48 [.ref y0, .ref a] ls σ μ la Q ↔ (qOk σ a 4 = true ∧ qEx d 67 0 [] [.ref a, .ref y0, .retAddr 0, .retAddr 0] σ μ la fun r σ' μ' la' => qEx (d + 1) 81 51 (r.toList ++ []) ls σ' μ' la' Q) := (qEx_eq (i := .invokevirtual 126) rfl).trans qExA_chk
theorem x81_51 {x : Int32} : qEx d 81 51 [.int x] ls σ μ la Q ↔ Q (some (.int x)) σ μ la := (qEx_eq (i := .ireturn) rfl).trans Iff.rfl
theorem x82_0 {x : Nat} {l1 l2 : Value} : qEx d 82 0 st [.ref x, l1, l2] σ μ la Q ↔ qEx d 82 1 (.ref x :: st) [.ref x, l1, l2] σ μ la Q := (qEx_eq (i := .aload_n 0) rfl).trans Iff.rfl
theorem x82_1 {a : Nat} : qEx d 82 1 (.ref a :: st) ls σ μ la Q ↔ (qOk σ a 6 = true ∧ qEx d 82 4 (qrf (σ.2 a 1) :: st) ls σ μ la Q) := (qEx_eq (i := .getfield 27) rfl).trans qExA_chk
theorem x82_4 {x : Int32} {l0 l2 : Value} : qEx d 82 4 st [l0, .int x, l2] σ μ la Q ↔ qEx d 82 5 (.int x :: st) [l0, .int x, l2] σ μ la Q := (qEx_eq (i := .iload_n 1) rfl).trans Iff.rfl
theorem x82_5 {y0 : Int32} {a : Nat} : qEx (d + 1) 82 5 [.int y0, .ref a] ls σ μ la Q ↔ (qOk σ a 4 = true ∧ qEx d 60 0 [] [.ref a, .int y0] σ μ la fun r σ' μ' la' => qEx (d + 1) 82 8 (r.toList ++ []) ls σ' μ' la' Q) := (qEx_eq (i := .invokevirtual 84) rfl).trans qExA_chk
theorem x82_8 {x : Int32} : qEx d 82 8 (.int x :: st) ls σ μ la Q ↔ (if x = 0 then qEx d 82 20 st ls σ μ la Q else qEx d 82 11 st ls σ μ la Q) := (qEx_eq (i := .ifCond .eq 12) rfl).trans qExA_ite
theorem x82_11 {x : Int32} {l0 l1 : Value} : qEx d 82 11 st [l0, l1, .int x] σ μ la Q ↔ qEx d 82 12 (.int x :: st) [l0, l1, .int x] σ μ la Q := (qEx_eq (i := .iload_n 2) rfl).trans Iff.rfl
theorem x82_12 {x : Int32} : qEx d 82 12 (.int x :: st) ls σ μ la Q ↔ (if x < 0 then qEx d 82 20 st ls σ μ la Q else qEx d 82 15 st ls σ μ la Q) := (qEx_eq (i := .ifCond .lt 8) rfl).trans qExA_ite
theorem x82_15 {x : Int32} {l0 l1 : Value} : qEx d 82 15 st [l0, l1, .int x] σ μ la Q ↔ qEx d 82 16 (.int x :: st) [l0, l1, .int x] σ μ la Q := (qEx_eq (i := .iload_n 2) rfl).trans Iff.rfl
theorem x82_16  : qEx d 82 16 st ls σ μ la Q ↔ qEx d 82 17 (.int 4 :: st) ls σ μ la Q := (qEx_eq (i := .iconst 4) rfl).trans Iff.rfl
theorem x82_17 {x y : Int32} : qEx d 82 17 (.int y :: .int x :: st) ls σ μ la Q ↔ (if x < y then qEx d 82 22 st ls σ μ la Q else qEx d 82 20 st ls σ μ la Q) := (qEx_eq (i := .if_icmp .lt 5) rfl).trans qExA_ite
theorem x82_20  : qEx d 82 20 st ls σ μ la Q ↔ qEx d 82 21 (.int (-1) :: st) ls σ μ la Q := (qEx_eq (i := .iconst (-1)) rfl).trans Iff.rfl
theorem x82_21 {x : Int32} : qEx d 82 21 [.int x] ls σ μ la Q ↔ Q (some (.int x)) σ μ la := (qEx_eq (i := .ireturn) rfl).trans Iff.rfl
theorem x82_22 {x : Nat} {l1 l2 : Value} : qEx d 82 22 st [.ref x, l1, l2] σ μ la Q ↔ qEx d 82 23 (.ref x :: st) [.ref x, l1, l2] σ μ la Q := (qEx_eq (i := .aload_n 0) rfl).trans Iff.rfl
theorem x82_23 {a : Nat} : qEx d 82 23 (.ref a :: st) ls σ μ la Q ↔ (qOk σ a 6 = true ∧ qEx d 82 26 (qrf (σ.2 a 2) :: st) ls σ μ la Q) := (qEx_eq (i := .getfield 31) rfl).trans qExA_chk
theorem x82_26 {x : Nat} {l1 l2 : Value} : qEx d 82 26 st [.ref x, l1, l2] σ μ la Q ↔ qEx d 82 27 (.ref x :: st) [.ref x, l1, l2] σ μ la Q := (qEx_eq (i := .aload_n 0) rfl).trans Iff.rfl
theorem x82_27 {a : Nat} : qEx d 82 27 (.ref a :: st) ls σ μ la Q ↔ (qOk σ a 6 = true ∧ qEx d 82 30 (qrf (σ.2 a 1) :: st) ls σ μ la Q) := (qEx_eq (i := .getfield 27) rfl).trans qExA_chk
theorem x82_30 {y0 : Nat} {a : Nat} : qEx (d + 1) 82 30 [.ref y0, .ref a] ls σ μ la Q ↔ (qOk σ a 0 = true ∧ qEx d 1 0 [] [.ref a, .ref y0] σ μ la fun r σ' μ' la' => qEx (d + 1) 82 33 (r.toList ++ []) ls σ' μ' la' Q) := (qEx_eq (i := .invokevirtual 123) rfl).trans qExA_chk
theorem x82_33 {x : Nat} {l1 l2 : Value} : qEx d 82 33 st [.ref x, l1, l2] σ μ la Q ↔ qEx d 82 34 (.ref x :: st) [.ref x, l1, l2] σ μ la Q := (qEx_eq (i := .aload_n 0) rfl).trans Iff.rfl
theorem x82_34 {a : Nat} : qEx d 82 34 (.ref a :: st) ls σ μ la Q ↔ (qOk σ a 6 = true ∧ qEx d 82 37 (qrf (σ.2 a 1) :: st) ls σ μ la Q) := (qEx_eq (i := .getfield 27) rfl).trans qExA_chk
theorem x82_37 {x : Int32} {l0 l2 : Value} : qEx d 82 37 st [l0, .int x, l2] σ μ la Q ↔ qEx d 82 38 (.int x :: st) [l0, .int x, l2] σ μ la Q := (qEx_eq (i := .iload_n 1) rfl).trans Iff.rfl
theorem x82_38 {x : Int32} {l0 l1 : Value} : qEx d 82 38 st [l0, l1, .int x] σ μ la Q ↔ qEx d 82 39 (.int x :: st) [l0, l1, .int x] σ μ la Q := (qEx_eq (i := .iload_n 2) rfl).trans Iff.rfl
theorem x82_39 {y0 : Int32} {y1 : Int32} {a : Nat} : qEx (d + 1) 82 39 [.int y1, .int y0, .ref a] ls σ μ la Q ↔ (qOk σ a 4 = true ∧ qEx d 64 0 [] [.ref a, .int y0, .int y1, .retAddr 0] σ μ la fun r σ' μ' la' => qEx (d + 1) 82 42 (r.toList ++ []) ls σ' μ' la' Q) := (qEx_eq (i := .invokevirtual 130) rfl).trans qExA_chk
theorem x82_42 {x : Nat} {l1 l2 : Value} : qEx d 82 42 st [.ref x, l1, l2] σ μ la Q ↔ qEx d 82 43 (.ref x :: st) [.ref x, l1, l2] σ μ la Q := (qEx_eq (i := .aload_n 0) rfl).trans Iff.rfl
theorem x82_43 {a : Nat} : qEx d 82 43 (.ref a :: st) ls σ μ la Q ↔ (qOk σ a 6 = true ∧ qEx d 82 46 (qrf (σ.2 a 1) :: st) ls σ μ la Q) := (qEx_eq (i := .getfield 27) rfl).trans qExA_chk
theorem x82_46 {a : Nat} : qEx d 82 46 (.ref a :: st) ls σ μ la Q ↔ (qOk σ a 4 = true ∧ qEx d 82 49 (qrf (σ.2 a 10) :: st) ls σ μ la Q) := (qEx_eq (i := .getfield 97) rfl).trans qExA_chk
theorem x82_49 {x : Int32} {l0 l2 : Value} : qEx d 82 49 st [l0, .int x, l2] σ μ la Q ↔ qEx d 82 50 (.int x :: st) [l0, .int x, l2] σ μ la Q := (qEx_eq (i := .iload_n 1) rfl).trans Iff.rfl
theorem x82_50 {x : Int32} {a : Nat} : qEx d 82 50 (.int x :: .ref a :: st) ls σ μ la Q ↔ (qIn x (qIld σ μ a) = true ∧ qEx d 82 51 (.int (μ a x.toNatClampNeg) :: st) ls σ μ la Q) := (qEx_eq (i := .iaload) rfl).trans qExA_chk
theorem x82_51 {x : Int32} : qEx d 82 51 [.int x] ls σ μ la Q ↔ Q (some (.int x)) σ μ la := (qEx_eq (i := .ireturn) rfl).trans Iff.rfl
theorem x83_0 {x : Nat} {l1 l2 l3 : Value} : qEx d 83 0 st [.ref x, l1, l2, l3] σ μ la Q ↔ qEx d 83 1 (.ref x :: st) [.ref x, l1, l2, l3] σ μ la Q := (qEx_eq (i := .aload_n 0) rfl).trans Iff.rfl
theorem x83_1 {a : Nat} : qEx d 83 1 (.ref a :: st) ls σ μ la Q ↔ (qOk σ a 6 = true ∧ qEx d 83 4 (qrf (σ.2 a 1) :: st) ls σ μ la Q) := (qEx_eq (i := .getfield 27) rfl).trans qExA_chk
theorem x83_4 {x : Int32} {l0 l2 l3 : Value} : qEx d 83 4 st [l0, .int x, l2, l3] σ μ la Q ↔ qEx d 83 5 (.int x :: st) [l0, .int x, l2, l3] σ μ la Q := (qEx_eq (i := .iload_n 1) rfl).trans Iff.rfl
theorem x83_5 {y0 : Int32} {a : Nat} : qEx (d + 1) 83 5 [.int y0, .ref a] ls σ μ la Q ↔ (qOk σ a 4 = true ∧ qEx d 60 0 [] [.ref a, .int y0] σ μ la fun r σ' μ' la' => qEx (d + 1) 83 8 (r.toList ++ []) ls σ' μ' la' Q) := (qEx_eq (i := .invokevirtual 84) rfl).trans qExA_chk
theorem x83_8 {x : Int32} : qEx d 83 8 (.int x :: st) ls σ μ la Q ↔ (if x = 0 then qEx d 83 20 st ls σ μ la Q else qEx d 83 11 st ls σ μ la Q) := (qEx_eq (i := .ifCond .eq 12) rfl).trans qExA_ite
theorem x83_11 {x : Int32} {l0 l1 l3 : Value} : qEx d 83 11 st [l0, l1, .int x, l3] σ μ la Q ↔ qEx d 83 12 (.int x :: st) [l0, l1, .int x, l3] σ μ la Q := (qEx_eq (i := .iload_n 2) rfl).trans Iff.rfl
theorem x83_12 {x : Int32} : qEx d 83 12 (.int x :: st) ls σ μ la Q ↔ (if x < 0 then qEx d 83 20 st ls σ μ la Q else qEx d 83 15 st ls σ μ la Q) := (qEx_eq (i := .ifCond .lt 8) rfl).trans qExA_ite
theorem x83_15 {x : Int32} {l0 l1 l3 : Value} : qEx d 83 15 st [l0, l1, .int x, l3] σ μ la Q ↔ qEx d 83 16 (.int x :: st) [l0, l1, .int x, l3] σ μ la Q := (qEx_eq (i := .iload_n 2) rfl).trans Iff.rfl
theorem x83_16  : qEx d 83 16 st ls σ μ la Q ↔ qEx d 83 17 (.int 4 :: st) ls σ μ la Q := (qEx_eq (i := .iconst 4) rfl).trans Iff.rfl
theorem x83_17 {x y : Int32} : qEx d 83 17 (.int y :: .int x :: st) ls σ μ la Q ↔ (if x < y then qEx d 83 22 st ls σ μ la Q else qEx d 83 20 st ls σ μ la Q) := (qEx_eq (i := .if_icmp .lt 5) rfl).trans qExA_ite
theorem x83_20  : qEx d 83 20 st ls σ μ la Q ↔ qEx d 83 21 (.int (-1) :: st) ls σ μ la Q := (qEx_eq (i := .iconst (-1)) rfl).trans Iff.rfl
theorem x83_21 {x : Int32} : qEx d 83 21 [.int x] ls σ μ la Q ↔ Q (some (.int x)) σ μ la := (qEx_eq (i := .ireturn) rfl).trans Iff.rfl
theorem x83_22 {x : Nat} {l1 l2 l3 : Value} : qEx d 83 22 st [.ref x, l1, l2, l3] σ μ la Q ↔ qEx d 83 23 (.ref x :: st) [.ref x, l1, l2, l3] σ μ la Q := (qEx_eq (i := .aload_n 0) rfl).trans Iff.rfl
theorem x83_23 {a : Nat} : qEx d 83 23 (.ref a :: st) ls σ μ la Q ↔ (qOk σ a 6 = true ∧ qEx d 83 26 (qrf (σ.2 a 1) :: st) ls σ μ la Q) := (qEx_eq (i := .getfield 27) rfl).trans qExA_chk
theorem x83_26 {a : Nat} : qEx d 83 26 (.ref a :: st) ls σ μ la Q ↔ (qOk σ a 4 = true ∧ qEx d 83 29 (qrf (σ.2 a 9) :: st) ls σ μ la Q) := (qEx_eq (i := .getfield 94) rfl).trans qExA_chk
theorem x83_29 {x : Int32} {l0 l2 l3 : Value} : qEx d 83 29 st [l0, .int x, l2, l3] σ μ la Q ↔ qEx d 83 30 (.int x :: st) [l0, .int x, l2, l3] σ μ la Q := (qEx_eq (i := .iload_n 1) rfl).trans Iff.rfl
theorem x83_30 {x : Int32} {a : Nat} : qEx d 83 30 (.int x :: .ref a :: st) ls σ μ la Q ↔ (qIn x (qIld σ μ a) = true ∧ qEx d 83 31 (.int (μ a x.toNatClampNeg) :: st) ls σ μ la Q) := (qEx_eq (i := .iaload) rfl).trans qExA_chk
theorem x83_31 {x : Int32} {l0 l1 l2 l3 : Value} : qEx d 83 31 (.int x :: st) [l0, l1, l2, l3] σ μ la Q ↔ qEx d 83 32 st [l0, l1, l2, .int x] σ μ la Q := (qEx_eq (i := .istore_n 3) rfl).trans Iff.rfl
theorem x83_32 {x : Int32} {l0 l1 l2 : Value} : qEx d 83 32 st [l0, l1, l2, .int x] σ μ la Q ↔ qEx d 83 33 (.int x :: st) [l0, l1, l2, .int x] σ μ la Q := (qEx_eq (i := .iload_n 3) rfl).trans Iff.rfl
theorem x83_33 {x : Int32} {l0 l1 l3 : Value} : qEx d 83 33 st [l0, l1, .int x, l3] σ μ la Q ↔ qEx d 83 34 (.int x :: st) [l0, l1, .int x, l3] σ μ la Q := (qEx_eq (i := .iload_n 2) rfl).trans Iff.rfl
theorem x83_34 {x y : Int32} : qEx d 83 34 (.int y :: .int x :: st) ls σ μ la Q ↔ (if ¬ x = y then qEx d 83 40 st ls σ μ la Q else qEx d 83 37 st ls σ μ la Q) := (qEx_eq (i := .if_icmp .ne 6) rfl).trans qExA_ite
theorem x83_37  : qEx d 83 37 st ls σ μ la Q ↔ qEx d 83 39 (.int (-2) :: st) ls σ μ la Q := (qEx_eq (i := .bipush (-2)) rfl).trans Iff.rfl
theorem x83_39 {x : Int32} : qEx d 83 39 [.int x] ls σ μ la Q ↔ Q (some (.int x)) σ μ la := (qEx_eq (i := .ireturn) rfl).trans Iff.rfl
theorem x83_40 {x : Nat} {l1 l2 l3 : Value} : qEx d 83 40 st [.ref x, l1, l2, l3] σ μ la Q ↔ qEx d 83 41 (.ref x :: st) [.ref x, l1, l2, l3] σ μ la Q := (qEx_eq (i := .aload_n 0) rfl).trans Iff.rfl
theorem x83_41 {a : Nat} : qEx d 83 41 (.ref a :: st) ls σ μ la Q ↔ (qOk σ a 6 = true ∧ qEx d 83 44 (qrf (σ.2 a 2) :: st) ls σ μ la Q) := (qEx_eq (i := .getfield 31) rfl).trans qExA_chk
theorem x83_44 {x : Nat} {l1 l2 l3 : Value} : qEx d 83 44 st [.ref x, l1, l2, l3] σ μ la Q ↔ qEx d 83 45 (.ref x :: st) [.ref x, l1, l2, l3] σ μ la Q := (qEx_eq (i := .aload_n 0) rfl).trans Iff.rfl
theorem x83_45 {a : Nat} : qEx d 83 45 (.ref a :: st) ls σ μ la Q ↔ (qOk σ a 6 = true ∧ qEx d 83 48 (qrf (σ.2 a 1) :: st) ls σ μ la Q) := (qEx_eq (i := .getfield 27) rfl).trans qExA_chk
theorem x83_48 {y0 : Nat} {a : Nat} : qEx (d + 1) 83 48 [.ref y0, .ref a] ls σ μ la Q ↔ (qOk σ a 0 = true ∧ qEx d 1 0 [] [.ref a, .ref y0] σ μ la fun r σ' μ' la' => qEx (d + 1) 83 51 (r.toList ++ []) ls σ' μ' la' Q) := (qEx_eq (i := .invokevirtual 123) rfl).trans qExA_chk
theorem x83_51 {x : Nat} {l1 l2 l3 : Value} : qEx d 83 51 st [.ref x, l1, l2, l3] σ μ la Q ↔ qEx d 83 52 (.ref x :: st) [.ref x, l1, l2, l3] σ μ la Q := (qEx_eq (i := .aload_n 0) rfl).trans Iff.rfl
theorem x83_52 {a : Nat} : qEx d 83 52 (.ref a :: st) ls σ μ la Q ↔ (qOk σ a 6 = true ∧ qEx d 83 55 (qrf (σ.2 a 1) :: st) ls σ μ la Q) := (qEx_eq (i := .getfield 27) rfl).trans qExA_chk
theorem x83_55 {a : Nat} : qEx d 83 55 (.ref a :: st) ls σ μ la Q ↔ (qOk σ a 4 = true ∧ qEx d 83 58 (qrf (σ.2 a 9) :: st) ls σ μ la Q) := (qEx_eq (i := .getfield 94) rfl).trans qExA_chk
theorem x83_58 {x : Int32} {l0 l2 l3 : Value} : qEx d 83 58 st [l0, .int x, l2, l3] σ μ la Q ↔ qEx d 83 59 (.int x :: st) [l0, .int x, l2, l3] σ μ la Q := (qEx_eq (i := .iload_n 1) rfl).trans Iff.rfl
theorem x83_59 {x : Int32} {l0 l1 l3 : Value} : qEx d 83 59 st [l0, l1, .int x, l3] σ μ la Q ↔ qEx d 83 60 (.int x :: st) [l0, l1, .int x, l3] σ μ la Q := (qEx_eq (i := .iload_n 2) rfl).trans Iff.rfl
theorem x83_60 {x y : Int32} {a : Nat} : qEx d 83 60 (.int y :: .int x :: .ref a :: st) ls σ μ la Q ↔ (qIn x (qLen σ 10 a) = true ∧ qEx d 83 61 st ls σ (qset μ a x.toNatClampNeg y) la Q) := (qEx_eq (i := .iastore) rfl).trans qExA_chk
theorem x83_61 {x : Int32} {l0 l1 l2 : Value} : qEx d 83 61 st [l0, l1, l2, .int x] σ μ la Q ↔ qEx d 83 62 (.int x :: st) [l0, l1, l2, .int x] σ μ la Q := (qEx_eq (i := .iload_n 3) rfl).trans Iff.rfl
theorem x83_62 {x : Int32} : qEx d 83 62 [.int x] ls σ μ la Q ↔ Q (some (.int x)) σ μ la := (qEx_eq (i := .ireturn) rfl).trans Iff.rfl
theorem x84_0 {x : Nat} {l1 l2 l3 l4 : Value} : qEx d 84 0 st [.ref x, l1, l2, l3, l4] σ μ la Q ↔ qEx d 84 1 (.ref x :: st) [.ref x, l1, l2, l3, l4] σ μ la Q := (qEx_eq (i := .aload_n 0) rfl).trans Iff.rfl
theorem x84_1 {a : Nat} : qEx d 84 1 (.ref a :: st) ls σ μ la Q ↔ (qOk σ a 6 = true ∧ qEx d 84 4 (qrf (σ.2 a 1) :: st) ls σ μ la Q) := (qEx_eq (i := .getfield 27) rfl).trans qExA_chk
theorem x84_4 {x : Int32} {l0 l2 l3 l4 : Value} : qEx d 84 4 st [l0, .int x, l2, l3, l4] σ μ la Q ↔ qEx d 84 5 (.int x :: st) [l0, .int x, l2, l3, l4] σ μ la Q := (qEx_eq (i := .iload_n 1) rfl).trans Iff.rfl
theorem x84_5 {y0 : Int32} {a : Nat} : qEx (d + 1) 84 5 [.int y0, .ref a] ls σ μ la Q ↔ (qOk σ a 4 = true ∧ qEx d 61 0 [] [.ref a, .int y0] σ μ la fun r σ' μ' la' => qEx (d + 1) 84 8 (r.toList ++ []) ls σ' μ' la' Q) := (qEx_eq (i := .invokevirtual 106) rfl).trans qExA_chk
theorem x84_8 {x : Int32} : qEx d 84 8 (.int x :: st) ls σ μ la Q ↔ (if x = 0 then qEx d 84 20 st ls σ μ la Q else qEx d 84 11 st ls σ μ la Q) := (qEx_eq (i := .ifCond .eq 12) rfl).trans qExA_ite
theorem x84_11 {x : Int32} {l0 l1 l3 l4 : Value} : qEx d 84 11 st [l0, l1, .int x, l3, l4] σ μ la Q ↔ qEx d 84 12 (.int x :: st) [l0, l1, .int x, l3, l4] σ μ la Q := (qEx_eq (i := .iload_n 2) rfl).trans Iff.rfl
theorem x84_12 {x : Int32} : qEx d 84 12 (.int x :: st) ls σ μ la Q ↔ (if x < 0 then qEx d 84 20 st ls σ μ la Q else qEx d 84 15 st ls σ μ la Q) := (qEx_eq (i := .ifCond .lt 8) rfl).trans qExA_ite
theorem x84_15 {x : Int32} {l0 l1 l3 l4 : Value} : qEx d 84 15 st [l0, l1, .int x, l3, l4] σ μ la Q ↔ qEx d 84 16 (.int x :: st) [l0, l1, .int x, l3, l4] σ μ la Q := (qEx_eq (i := .iload_n 2) rfl).trans Iff.rfl
theorem x84_16  : qEx d 84 16 st ls σ μ la Q ↔ qEx d 84 17 (.int 1 :: st) ls σ μ la Q := (qEx_eq (i := .iconst 1) rfl).trans Iff.rfl
theorem x84_17 {x y : Int32} : qEx d 84 17 (.int y :: .int x :: st) ls σ μ la Q ↔ (if x ≤ y then qEx d 84 22 st ls σ μ la Q else qEx d 84 20 st ls σ μ la Q) := (qEx_eq (i := .if_icmp .le 5) rfl).trans qExA_ite
theorem x84_20  : qEx d 84 20 st ls σ μ la Q ↔ qEx d 84 21 (.int (-1) :: st) ls σ μ la Q := (qEx_eq (i := .iconst (-1)) rfl).trans Iff.rfl
theorem x84_21 {x : Int32} : qEx d 84 21 [.int x] ls σ μ la Q ↔ Q (some (.int x)) σ μ la := (qEx_eq (i := .ireturn) rfl).trans Iff.rfl
theorem x84_22 {x : Nat} {l1 l2 l3 l4 : Value} : qEx d 84 22 st [.ref x, l1, l2, l3, l4] σ μ la Q ↔ qEx d 84 23 (.ref x :: st) [.ref x, l1, l2, l3, l4] σ μ la Q := (qEx_eq (i := .aload_n 0) rfl).trans Iff.rfl
theorem x84_23 {a : Nat} : qEx d 84 23 (.ref a :: st) ls σ μ la Q ↔ (qOk σ a 6 = true ∧ qEx d 84 26 (qrf (σ.2 a 1) :: st) ls σ μ la Q) := (qEx_eq (i := .getfield 27) rfl).trans qExA_chk
theorem x84_26 {a : Nat} : qEx d 84 26 (.ref a :: st) ls σ μ la Q ↔ (qOk σ a 4 = true ∧ qEx d 84 29 (qrf (σ.2 a 6) :: st) ls σ μ la Q) := (qEx_eq (i := .getfield 109) rfl).trans qExA_chk
theorem x84_29 {x : Int32} {l0 l2 l3 l4 : Value} : qEx d 84 29 st [l0, .int x, l2, l3, l4] σ μ la Q ↔ qEx d 84 30 (.int x :: st) [l0, .int x, l2, l3, l4] σ μ la Q := (qEx_eq (i := .iload_n 1) rfl).trans Iff.rfl
theorem x84_30 {x : Int32} {a : Nat} : qEx d 84 30 (.int x :: .ref a :: st) ls σ μ la Q ↔ (qIn x (qIld σ μ a) = true ∧ qEx d 84 31 (.int (μ a x.toNatClampNeg) :: st) ls σ μ la Q) := (qEx_eq (i := .iaload) rfl).trans qExA_chk
theorem x84_31 {x : Int32} {l0 l1 l2 l3 l4 : Value} : qEx d 84 31 (.int x :: st) [l0, l1, l2, l3, l4] σ μ la Q ↔ qEx d 84 32 st [l0, l1, l2, .int x, l4] σ μ la Q := (qEx_eq (i := .istore_n 3) rfl).trans Iff.rfl
theorem x84_32 {x : Int32} {l0 l1 l3 l4 : Value} : qEx d 84 32 st [l0, l1, .int x, l3, l4] σ μ la Q ↔ qEx d 84 33 (.int x :: st) [l0, l1, .int x, l3, l4] σ μ la Q := (qEx_eq (i := .iload_n 2) rfl).trans Iff.rfl
theorem x84_33  : qEx d 84 33 st ls σ μ la Q ↔ qEx d 84 34 (.int 1 :: st) ls σ μ la Q := (qEx_eq (i := .iconst 1) rfl).trans Iff.rfl
theorem x84_34 {x y : Int32} : qEx d 84 34 (.int y :: .int x :: st) ls σ μ la Q ↔ (if ¬ x = y then qEx d 84 41 st ls σ μ la Q else qEx d 84 37 st ls σ μ la Q) := (qEx_eq (i := .if_icmp .ne 7) rfl).trans qExA_ite
theorem x84_37  : qEx d 84 37 st ls σ μ la Q ↔ qEx d 84 38 (.int 1 :: st) ls σ μ la Q := (qEx_eq (i := .iconst 1) rfl).trans Iff.rfl
theorem x84_38  : qEx d 84 38 st ls σ μ la Q ↔ qEx d 84 42 st ls σ μ la Q := (qEx_eq (i := .goto 4) rfl).trans Iff.rfl
theorem x84_41  : qEx d 84 41 st ls σ μ la Q ↔ qEx d 84 42 (.int 0 :: st) ls σ μ la Q := (qEx_eq (i := .iconst 0) rfl).trans Iff.rfl
theorem x84_42 {x : Int32} {l0 l1 l2 l3 l4 : Value} : qEx d 84 42 (.int x :: st) [l0, l1, l2, l3, l4] σ μ la Q ↔ qEx d 84 44 st [l0, l1, l2, l3, .int x] σ μ la Q := (qEx_eq (i := .istore 4) rfl).trans Iff.rfl
theorem x84_44 {x : Int32} {l0 l1 l2 l4 : Value} : qEx d 84 44 st [l0, l1, l2, .int x, l4] σ μ la Q ↔ qEx d 84 45 (.int x :: st) [l0, l1, l2, .int x, l4] σ μ la Q := (qEx_eq (i := .iload_n 3) rfl).trans Iff.rfl
theorem x84_45 {x : Int32} {l0 l1 l2 l3 : Value} : qEx d 84 45 st [l0, l1, l2, l3, .int x] σ μ la Q ↔ qEx d 84 47 (.int x :: st) [l0, l1, l2, l3, .int x] σ μ la Q := (qEx_eq (i := .iload 4) rfl).trans Iff.rfl
theorem x84_47 {x y : Int32} : qEx d 84 47 (.int y :: .int x :: st) ls σ μ la Q ↔ (if ¬ x = y then qEx d 84 53 st ls σ μ la Q else qEx d 84 50 st ls σ μ la Q) := (qEx_eq (i := .if_icmp .ne 6) rfl).trans qExA_ite
theorem x84_50  : qEx d 84 50 st ls σ μ la Q ↔ qEx d 84 52 (.int (-2) :: st) ls σ μ la Q := (qEx_eq (i := .bipush (-2)) rfl).trans Iff.rfl
theorem x84_52 {x : Int32} : qEx d 84 52 [.int x] ls σ μ la Q ↔ Q (some (.int x)) σ μ la := (qEx_eq (i := .ireturn) rfl).trans Iff.rfl
theorem x84_53 {x : Int32} {l0 l1 l2 l3 : Value} : qEx d 84 53 st [l0, l1, l2, l3, .int x] σ μ la Q ↔ qEx d 84 55 (.int x :: st) [l0, l1, l2, l3, .int x] σ μ la Q := (qEx_eq (i := .iload 4) rfl).trans Iff.rfl
theorem x84_55  : qEx d 84 55 st ls σ μ la Q ↔ qEx d 84 56 (.int 1 :: st) ls σ μ la Q := (qEx_eq (i := .iconst 1) rfl).trans Iff.rfl
theorem x84_56 {x y : Int32} : qEx d 84 56 (.int y :: .int x :: st) ls σ μ la Q ↔ (if ¬ x = y then qEx d 84 75 st ls σ μ la Q else qEx d 84 59 st ls σ μ la Q) := (qEx_eq (i := .if_icmp .ne 19) rfl).trans qExA_ite
theorem x84_59 {x : Nat} {l1 l2 l3 l4 : Value} : qEx d 84 59 st [.ref x, l1, l2, l3, l4] σ μ la Q ↔ qEx d 84 60 (.ref x :: st) [.ref x, l1, l2, l3, l4] σ μ la Q := (qEx_eq (i := .aload_n 0) rfl).trans Iff.rfl
theorem x84_60 {a : Nat} : qEx d 84 60 (.ref a :: st) ls σ μ la Q ↔ (qOk σ a 6 = true ∧ qEx d 84 63 (qrf (σ.2 a 1) :: st) ls σ μ la Q) := (qEx_eq (i := .getfield 27) rfl).trans qExA_chk
theorem x84_63 {x : Int32} {l0 l2 l3 l4 : Value} : qEx d 84 63 st [l0, .int x, l2, l3, l4] σ μ la Q ↔ qEx d 84 64 (.int x :: st) [l0, .int x, l2, l3, l4] σ μ la Q := (qEx_eq (i := .iload_n 1) rfl).trans Iff.rfl
theorem x84_64 {y0 : Int32} {a : Nat} : qEx (d + 1) 84 64 [.int y0, .ref a] ls σ μ la Q ↔ (qOk σ a 4 = true ∧ qEx d 62 0 [] [.ref a, .int y0, .retAddr 0] σ μ la fun r σ' μ' la' => qEx (d + 1) 84 67 (r.toList ++ []) ls σ' μ' la' Q) := (qEx_eq (i := .invokevirtual 112) rfl).trans qExA_chk
theorem x84_67  : qEx d 84 67 st ls σ μ la Q ↔ qEx d 84 69 (.int (-4) :: st) ls σ μ la Q := (qEx_eq (i := .bipush (-4)) rfl).trans Iff.rfl
theorem x84_69 {x y : Int32} : qEx d 84 69 (.int y :: .int x :: st) ls σ μ la Q ↔ (if x = y then qEx d 84 75 st ls σ μ la Q else qEx d 84 72 st ls σ μ la Q) := (qEx_eq (i := .if_icmp .eq 6) rfl).trans qExA_ite
theorem x84_72  : qEx d 84 72 st ls σ μ la Q ↔ qEx d 84 74 (.int (-2) :: st) ls σ μ la Q := (qEx_eq (i := .bipush (-2)) rfl).trans Iff.rfl
theorem x84_74 {x : Int32} : qEx d 84 74 [.int x] ls σ μ la Q ↔ Q (some (.int x)) σ μ la := (qEx_eq (i := .ireturn) rfl).trans Iff.rfl
theorem x84_75 {x : Nat} {l1 l2 l3 l4 : Value} : qEx d 84 75 st [.ref x, l1, l2, l3, l4] σ μ la Q ↔ qEx d 84 76 (.ref x :: st) [.ref x, l1, l2, l3, l4] σ μ la Q := (qEx_eq (i := .aload_n 0) rfl).trans Iff.rfl
theorem x84_76 {a : Nat} : qEx d 84 76 (.ref a :: st) ls σ μ la Q ↔ (qOk σ a 6 = true ∧ qEx d 84 79 (qrf (σ.2 a 2) :: st) ls σ μ la Q) := (qEx_eq (i := .getfield 31) rfl).trans qExA_chk
theorem x84_79 {x : Nat} {l1 l2 l3 l4 : Value} : qEx d 84 79 st [.ref x, l1, l2, l3, l4] σ μ la Q ↔ qEx d 84 80 (.ref x :: st) [.ref x, l1, l2, l3, l4] σ μ la Q := (qEx_eq (i := .aload_n 0) rfl).trans Iff.rfl
theorem x84_80 {a : Nat} : qEx d 84 80 (.ref a :: st) ls σ μ la Q ↔ (qOk σ a 6 = true ∧ qEx d 84 83 (qrf (σ.2 a 1) :: st) ls σ μ la Q) := (qEx_eq (i := .getfield 27) rfl).trans qExA_chk
theorem x84_83 {y0 : Nat} {a : Nat} : qEx (d + 1) 84 83 [.ref y0, .ref a] ls σ μ la Q ↔ (qOk σ a 0 = true ∧ qEx d 1 0 [] [.ref a, .ref y0] σ μ la fun r σ' μ' la' => qEx (d + 1) 84 86 (r.toList ++ []) ls σ' μ' la' Q) := (qEx_eq (i := .invokevirtual 123) rfl).trans qExA_chk
theorem x84_86 {x : Nat} {l1 l2 l3 l4 : Value} : qEx d 84 86 st [.ref x, l1, l2, l3, l4] σ μ la Q ↔ qEx d 84 87 (.ref x :: st) [.ref x, l1, l2, l3, l4] σ μ la Q := (qEx_eq (i := .aload_n 0) rfl).trans Iff.rfl
theorem x84_87 {a : Nat} : qEx d 84 87 (.ref a :: st) ls σ μ la Q ↔ (qOk σ a 6 = true ∧ qEx d 84 90 (qrf (σ.2 a 1) :: st) ls σ μ la Q) := (qEx_eq (i := .getfield 27) rfl).trans qExA_chk
theorem x84_90 {a : Nat} : qEx d 84 90 (.ref a :: st) ls σ μ la Q ↔ (qOk σ a 4 = true ∧ qEx d 84 93 (qrf (σ.2 a 6) :: st) ls σ μ la Q) := (qEx_eq (i := .getfield 109) rfl).trans qExA_chk
theorem x84_93 {x : Int32} {l0 l2 l3 l4 : Value} : qEx d 84 93 st [l0, .int x, l2, l3, l4] σ μ la Q ↔ qEx d 84 94 (.int x :: st) [l0, .int x, l2, l3, l4] σ μ la Q := (qEx_eq (i := .iload_n 1) rfl).trans Iff.rfl
theorem x84_94 {x : Int32} {l0 l1 l2 l3 : Value} : qEx d 84 94 st [l0, l1, l2, l3, .int x] σ μ la Q ↔ qEx d 84 96 (.int x :: st) [l0, l1, l2, l3, .int x] σ μ la Q := (qEx_eq (i := .iload 4) rfl).trans Iff.rfl
theorem x84_96 {x y : Int32} {a : Nat} : qEx d 84 96 (.int y :: .int x :: .ref a :: st) ls σ μ la Q ↔ (qIn x (qLen σ 10 a) = true ∧ qEx d 84 97 st ls σ (qset μ a x.toNatClampNeg y) la Q) := (qEx_eq (i := .iastore) rfl).trans qExA_chk
theorem x84_97 {x : Int32} {l0 l1 l2 l4 : Value} : qEx d 84 97 st [l0, l1, l2, .int x, l4] σ μ la Q ↔ qEx d 84 98 (.int x :: st) [l0, l1, l2, .int x, l4] σ μ la Q := (qEx_eq (i := .iload_n 3) rfl).trans Iff.rfl
theorem x84_98 {x : Int32} : qEx d 84 98 [.int x] ls σ μ la Q ↔ Q (some (.int x)) σ μ la := (qEx_eq (i := .ireturn) rfl).trans Iff.rfl
theorem x85_0 {x : Nat} : qEx d 85 0 st [.ref x] σ μ la Q ↔ qEx d 85 1 (.ref x :: st) [.ref x] σ μ la Q := (qEx_eq (i := .aload_n 0) rfl).trans Iff.rfl
theorem x85_1 {a : Nat} : qEx d 85 1 (.ref a :: st) ls σ μ la Q ↔ (qOk σ a 6 = true ∧ qEx d 85 4 (qrf (σ.2 a 2) :: st) ls σ μ la Q) := (qEx_eq (i := .getfield 31) rfl).trans qExA_chk
theorem x85_4 {a : Nat} : qEx d 85 4 (.ref a :: st) ls σ μ la Q ↔ (qOk σ a 0 = true ∧ qEx d 85 7 (.int (μ a 2) :: st) ls σ μ la Q) := (qEx_eq (i := .getfield 134) rfl).trans qExA_chk
theorem x85_7 {x : Int32} : qEx d 85 7 (.int x :: st) ls σ μ la Q ↔ (if ¬ x = 0 then qEx d 85 13 st ls σ μ la Q else qEx d 85 10 st ls σ μ la Q) := (qEx_eq (i := .ifCond .ne 6) rfl).trans qExA_ite
theorem x85_10  : qEx d 85 10 st ls σ μ la Q ↔ qEx d 85 12 (.int (-4) :: st) ls σ μ la Q := (qEx_eq (i := .bipush (-4)) rfl).trans Iff.rfl
theorem x85_12 {x : Int32} : qEx d 85 12 [.int x] ls σ μ la Q ↔ Q (some (.int x)) σ μ la := (qEx_eq (i := .ireturn) rfl).trans Iff.rfl
theorem x85_13 {x : Nat} : qEx d 85 13 st [.ref x] σ μ la Q ↔ qEx d 85 14 (.ref x :: st) [.ref x] σ μ la Q := (qEx_eq (i := .aload_n 0) rfl).trans Iff.rfl
theorem x85_14 {a : Nat} : qEx d 85 14 (.ref a :: st) ls σ μ la Q ↔ (qOk σ a 6 = true ∧ qEx d 85 17 (qrf (σ.2 a 2) :: st) ls σ μ la Q) := (qEx_eq (i := .getfield 31) rfl).trans qExA_chk
theorem x85_17 {x : Nat} : qEx d 85 17 st [.ref x] σ μ la Q ↔ qEx d 85 18 (.ref x :: st) [.ref x] σ μ la Q := (qEx_eq (i := .aload_n 0) rfl).trans Iff.rfl
theorem x85_18 {a : Nat} : qEx d 85 18 (.ref a :: st) ls σ μ la Q ↔ (qOk σ a 6 = true ∧ qEx d 85 21 (qrf (σ.2 a 1) :: st) ls σ μ la Q) := (qEx_eq (i := .getfield 27) rfl).trans qExA_chk
theorem x85_21 {y0 : Nat} {a : Nat} : qEx (d + 1) 85 21 [.ref y0, .ref a] ls σ μ la Q ↔ (qOk σ a 0 = true ∧ qEx d 2 0 [] [.ref a, .ref y0] σ μ la fun r σ' μ' la' => qEx (d + 1) 85 24 (r.toList ++ []) ls σ' μ' la' Q) := (qEx_eq (i := .invokevirtual 137) rfl).trans qExA_chk
theorem x85_24 {x : Nat} : qEx d 85 24 st [.ref x] σ μ la Q ↔ qEx d 85 25 (.ref x :: st) [.ref x] σ μ la Q := (qEx_eq (i := .aload_n 0) rfl).trans Iff.rfl
theorem x85_25 {a : Nat} : qEx d 85 25 (.ref a :: st) ls σ μ la Q ↔ (qOk σ a 6 = true ∧ qEx d 85 28 (qrf (σ.2 a 2) :: st) ls σ μ la Q) := (qEx_eq (i := .getfield 31) rfl).trans qExA_chk
theorem x85_28 {a : Nat} : qEx d 85 28 (.ref a :: st) ls σ μ la Q ↔ (qOk σ a 0 = true ∧ qEx d 85 31 (.int (μ a 2) :: st) ls σ μ la Q) := (qEx_eq (i := .getfield 134) rfl).trans qExA_chk
theorem x85_31 {x : Int32} : qEx d 85 31 [.int x] ls σ μ la Q ↔ Q (some (.int x)) σ μ la := (qEx_eq (i := .ireturn) rfl).trans Iff.rfl
theorem x86_0 {x : Int32} {l0 : Value} : qEx d 86 0 st [l0, .int x] σ μ la Q ↔ qEx d 86 1 (.int x :: st) [l0, .int x] σ μ la Q := (qEx_eq (i := .iload_n 1) rfl).trans Iff.rfl
theorem x86_1 {x : Int32} : qEx d 86 1 (.int x :: st) ls σ μ la Q ↔ (if x < 0 then qEx d 86 9 st ls σ μ la Q else qEx d 86 4 st ls σ μ la Q) := (qEx_eq (i := .ifCond .lt 8) rfl).trans qExA_ite
theorem x86_4 {x : Int32} {l0 : Value} : qEx d 86 4 st [l0, .int x] σ μ la Q ↔ qEx d 86 5 (.int x :: st) [l0, .int x] σ μ la Q := (qEx_eq (i := .iload_n 1) rfl).trans Iff.rfl
theorem x86_5  : qEx d 86 5 st ls σ μ la Q ↔ qEx d 86 6 (.int 2 :: st) ls σ μ la Q := (qEx_eq (i := .iconst 2) rfl).trans Iff.rfl
theorem x86_6 {x y : Int32} : qEx d 86 6 (.int y :: .int x :: st) ls σ μ la Q ↔ (if x < y then qEx d 86 11 st ls σ μ la Q else qEx d 86 9 st ls σ μ la Q) := (qEx_eq (i := .if_icmp .lt 5) rfl).trans qExA_ite
theorem x86_9  : qEx d 86 9 st ls σ μ la Q ↔ qEx d 86 10 (.int (-1) :: st) ls σ μ la Q := (qEx_eq (i := .iconst (-1)) rfl).trans Iff.rfl
theorem x86_10 {x : Int32} : qEx d 86 10 [.int x] ls σ μ la Q ↔ Q (some (.int x)) σ μ la := (qEx_eq (i := .ireturn) rfl).trans Iff.rfl
theorem x86_11 {x : Nat} {l1 : Value} : qEx d 86 11 st [.ref x, l1] σ μ la Q ↔ qEx d 86 12 (.ref x :: st) [.ref x, l1] σ μ la Q := (qEx_eq (i := .aload_n 0) rfl).trans Iff.rfl
theorem x86_12 {a : Nat} : qEx d 86 12 (.ref a :: st) ls σ μ la Q ↔ (qOk σ a 6 = true ∧ qEx d 86 15 (qrf (σ.2 a 1) :: st) ls σ μ la Q) := (qEx_eq (i := .getfield 27) rfl).trans qExA_chk
theorem x86_15 {a : Nat} : qEx d 86 15 (.ref a :: st) ls σ μ la Q ↔ (qOk σ a 4 = true ∧ qEx d 86 18 (.int (μ a 2) :: st) ls σ μ la Q) := (qEx_eq (i := .getfield 81) rfl).trans qExA_chk
theorem x86_18 {x : Int32} : qEx d 86 18 (.int x :: st) ls σ μ la Q ↔ (if ¬ x = 0 then qEx d 86 24 st ls σ μ la Q else qEx d 86 21 st ls σ μ la Q) := (qEx_eq (i := .ifCond .ne 6) rfl).trans qExA_ite
theorem x86_21  : qEx d 86 21 st ls σ μ la Q ↔ qEx d 86 23 (.int (-2) :: st) ls σ μ la Q := (qEx_eq (i := .bipush (-2)) rfl).trans Iff.rfl
theorem x86_23 {x : Int32} : qEx d 86 23 [.int x] ls σ μ la Q ↔ Q (some (.int x)) σ μ la := (qEx_eq (i := .ireturn) rfl).trans Iff.rfl
theorem x86_24 {x : Nat} {l1 : Value} : qEx d 86 24 st [.ref x, l1] σ μ la Q ↔ qEx d 86 25 (.ref x :: st) [.ref x, l1] σ μ la Q := (qEx_eq (i := .aload_n 0) rfl).trans Iff.rfl
theorem x86_25 {a : Nat} : qEx d 86 25 (.ref a :: st) ls σ μ la Q ↔ (qOk σ a 6 = true ∧ qEx d 86 28 (qrf (σ.2 a 3) :: st) ls σ μ la Q) := (qEx_eq (i := .getfield 38) rfl).trans qExA_chk
theorem x86_28 {x : Int32} {l0 : Value} : qEx d 86 28 st [l0, .int x] σ μ la Q ↔ qEx d 86 29 (.int x :: st) [l0, .int x] σ μ la Q := (qEx_eq (i := .iload_n 1) rfl).trans Iff.rfl
theorem x86_29 {x : Int32} {a : Nat} : qEx d 86 29 (.int x :: .ref a :: st) ls σ μ la Q ↔ (qIn x (qAld σ a) = true ∧ qEx d 86 30 (qrf (σ.2 a x.toNatClampNeg) :: st) ls σ μ la Q) := (qEx_eq (i := .aaload) rfl).trans qExA_chk
theorem x86_30 {x : Nat} {l1 : Value} : qEx d 86 30 st [.ref x, l1] σ μ la Q ↔ qEx d 86 31 (.ref x :: st) [.ref x, l1] σ μ la Q := (qEx_eq (i := .aload_n 0) rfl).trans Iff.rfl
theorem x86_31 {a : Nat} : qEx d 86 31 (.ref a :: st) ls σ μ la Q ↔ (qOk σ a 6 = true ∧ qEx d 86 34 (qrf (σ.2 a 1) :: st) ls σ μ la Q) := (qEx_eq (i := .getfield 27) rfl).trans qExA_chk
theorem x86_34 {y0 : Nat} {a : Nat} : qEx (d + 1) 86 34 [.ref y0, .ref a] ls σ μ la Q ↔ (qOk σ a 4 = true ∧ qEx d 59 0 [] [.ref a, .ref y0] σ μ la fun r σ' μ' la' => qEx (d + 1) 86 37 (r.toList ++ []) ls σ' μ' la' Q) := (qEx_eq (i := .invokevirtual 74) rfl).trans qExA_chk
theorem x86_37 {x : Nat} {l1 : Value} : qEx d 86 37 st [.ref x, l1] σ μ la Q ↔ qEx d 86 38 (.ref x :: st) [.ref x, l1] σ μ la Q := (qEx_eq (i := .aload_n 0) rfl).trans Iff.rfl
theorem x86_38 {a : Nat} : qEx d 86 38 (.ref a :: st) ls σ μ la Q ↔ (qOk σ a 6 = true ∧ qEx d 86 41 (qrf (σ.2 a 1) :: st) ls σ μ la Q) := (qEx_eq (i := .getfield 27) rfl).trans qExA_chk
theorem x86_41 {a : Nat} : qEx d 86 41 (.ref a :: st) ls σ μ la Q ↔ (qOk σ a 4 = true ∧ qEx d 86 44 (.int (μ a 3) :: st) ls σ μ la Q) := (qEx_eq (i := .getfield 120) rfl).trans qExA_chk
theorem x86_44 {x : Int32} : qEx d 86 44 [.int x] ls σ μ la Q ↔ Q (some (.int x)) σ μ la := (qEx_eq (i := .ireturn) rfl).trans Iff.rfl
theorem x87_0 {x : Int32} {l0 : Value} : qEx d 87 0 st [l0, .int x] σ μ la Q ↔ qEx d 87 1 (.int x :: st) [l0, .int x] σ μ la Q := (qEx_eq (i := .iload_n 1) rfl).trans Iff.rfl
theorem x87_1 {x : Int32} : qEx d 87 1 (.int x :: st) ls σ μ la Q ↔ (if x < 0 then qEx d 87 9 st ls σ μ la Q else qEx d 87 4 st ls σ μ la Q) := (qEx_eq (i := .ifCond .lt 8) rfl).trans qExA_ite
theorem x87_4 {x : Int32} {l0 : Value} : qEx d 87 4 st [l0, .int x] σ μ la Q ↔ qEx d 87 5 (.int x :: st) [l0, .int x] σ μ la Q := (qEx_eq (i := .iload_n 1) rfl).trans Iff.rfl
theorem x87_5  : qEx d 87 5 st ls σ μ la Q ↔ qEx d 87 6 (.int 2 :: st) ls σ μ la Q := (qEx_eq (i := .iconst 2) rfl).trans Iff.rfl
theorem x87_6 {x y : Int32} : qEx d 87 6 (.int y :: .int x :: st) ls σ μ la Q ↔ (if x < y then qEx d 87 11 st ls σ μ la Q else qEx d 87 9 st ls σ μ la Q) := (qEx_eq (i := .if_icmp .lt 5) rfl).trans qExA_ite
theorem x87_9  : qEx d 87 9 st ls σ μ la Q ↔ qEx d 87 10 (.int (-1) :: st) ls σ μ la Q := (qEx_eq (i := .iconst (-1)) rfl).trans Iff.rfl
theorem x87_10 {x : Int32} : qEx d 87 10 [.int x] ls σ μ la Q ↔ Q (some (.int x)) σ μ la := (qEx_eq (i := .ireturn) rfl).trans Iff.rfl
theorem x87_11 {x : Nat} {l1 : Value} : qEx d 87 11 st [.ref x, l1] σ μ la Q ↔ qEx d 87 12 (.ref x :: st) [.ref x, l1] σ μ la Q := (qEx_eq (i := .aload_n 0) rfl).trans Iff.rfl
theorem x87_12 {a : Nat} : qEx d 87 12 (.ref a :: st) ls σ μ la Q ↔ (qOk σ a 6 = true ∧ qEx d 87 15 (qrf (σ.2 a 3) :: st) ls σ μ la Q) := (qEx_eq (i := .getfield 38) rfl).trans qExA_chk
theorem x87_15 {x : Int32} {l0 : Value} : qEx d 87 15 st [l0, .int x] σ μ la Q ↔ qEx d 87 16 (.int x :: st) [l0, .int x] σ μ la Q := (qEx_eq (i := .iload_n 1) rfl).trans Iff.rfl
theorem x87_16 {x : Int32} {a : Nat} : qEx d 87 16 (.int x :: .ref a :: st) ls σ μ la Q ↔ (qIn x (qAld σ a) = true ∧ qEx d 87 17 (qrf (σ.2 a x.toNatClampNeg) :: st) ls σ μ la Q) := (qEx_eq (i := .aaload) rfl).trans qExA_chk
theorem x87_17 {a : Nat} : qEx d 87 17 (.ref a :: st) ls σ μ la Q ↔ (qOk σ a 4 = true ∧ qEx d 87 20 (.int (μ a 2) :: st) ls σ μ la Q) := (qEx_eq (i := .getfield 81) rfl).trans qExA_chk
theorem x87_20 {x : Int32} : qEx d 87 20 (.int x :: st) ls σ μ la Q ↔ (if ¬ x = 0 then qEx d 87 26 st ls σ μ la Q else qEx d 87 23 st ls σ μ la Q) := (qEx_eq (i := .ifCond .ne 6) rfl).trans qExA_ite
theorem x87_23  : qEx d 87 23 st ls σ μ la Q ↔ qEx d 87 25 (.int (-2) :: st) ls σ μ la Q := (qEx_eq (i := .bipush (-2)) rfl).trans Iff.rfl
theorem x87_25 {x : Int32} : qEx d 87 25 [.int x] ls σ μ la Q ↔ Q (some (.int x)) σ μ la := (qEx_eq (i := .ireturn) rfl).trans Iff.rfl
theorem x87_26 {x : Nat} {l1 : Value} : qEx d 87 26 st [.ref x, l1] σ μ la Q ↔ qEx d 87 27 (.ref x :: st) [.ref x, l1] σ μ la Q := (qEx_eq (i := .aload_n 0) rfl).trans Iff.rfl
theorem x87_27 {a : Nat} : qEx d 87 27 (.ref a :: st) ls σ μ la Q ↔ (qOk σ a 6 = true ∧ qEx d 87 30 (qrf (σ.2 a 1) :: st) ls σ μ la Q) := (qEx_eq (i := .getfield 27) rfl).trans qExA_chk
theorem x87_30 {x : Nat} {l1 : Value} : qEx d 87 30 st [.ref x, l1] σ μ la Q ↔ qEx d 87 31 (.ref x :: st) [.ref x, l1] σ μ la Q := (qEx_eq (i := .aload_n 0) rfl).trans Iff.rfl
theorem x87_31 {a : Nat} : qEx d 87 31 (.ref a :: st) ls σ μ la Q ↔ (qOk σ a 6 = true ∧ qEx d 87 34 (qrf (σ.2 a 3) :: st) ls σ μ la Q) := (qEx_eq (i := .getfield 38) rfl).trans qExA_chk
theorem x87_34 {x : Int32} {l0 : Value} : qEx d 87 34 st [l0, .int x] σ μ la Q ↔ qEx d 87 35 (.int x :: st) [l0, .int x] σ μ la Q := (qEx_eq (i := .iload_n 1) rfl).trans Iff.rfl
theorem x87_35 {x : Int32} {a : Nat} : qEx d 87 35 (.int x :: .ref a :: st) ls σ μ la Q ↔ (qIn x (qAld σ a) = true ∧ qEx d 87 36 (qrf (σ.2 a x.toNatClampNeg) :: st) ls σ μ la Q) := (qEx_eq (i := .aaload) rfl).trans qExA_chk
theorem x87_36 {y0 : Nat} {a : Nat} : qEx (d + 1) 87 36 [.ref y0, .ref a] ls σ μ la Q ↔ (qOk σ a 4 = true ∧ qEx d 59 0 [] [.ref a, .ref y0] σ μ la fun r σ' μ' la' => qEx (d + 1) 87 39 (r.toList ++ []) ls σ' μ' la' Q) := (qEx_eq (i := .invokevirtual 74) rfl).trans qExA_chk
theorem x87_39 {x : Nat} {l1 : Value} : qEx d 87 39 st [.ref x, l1] σ μ la Q ↔ qEx d 87 40 (.ref x :: st) [.ref x, l1] σ μ la Q := (qEx_eq (i := .aload_n 0) rfl).trans Iff.rfl
theorem x87_40 {a : Nat} : qEx d 87 40 (.ref a :: st) ls σ μ la Q ↔ (qOk σ a 6 = true ∧ qEx d 87 43 (qrf (σ.2 a 2) :: st) ls σ μ la Q) := (qEx_eq (i := .getfield 31) rfl).trans qExA_chk
theorem x87_43 {a : Nat} : qEx (d + 1) 87 43 [.ref a] ls σ μ la Q ↔ (qOk σ a 0 = true ∧ qEx d 3 0 [] [.ref a] σ μ la fun r σ' μ' la' => qEx (d + 1) 87 46 (r.toList ++ []) ls σ' μ' la' Q) := (qEx_eq (i := .invokevirtual 78) rfl).trans qExA_chk
theorem x87_46 {x : Nat} {l1 : Value} : qEx d 87 46 st [.ref x, l1] σ μ la Q ↔ qEx d 87 47 (.ref x :: st) [.ref x, l1] σ μ la Q := (qEx_eq (i := .aload_n 0) rfl).trans Iff.rfl
theorem x87_47 {a : Nat} : qEx d 87 47 (.ref a :: st) ls σ μ la Q ↔ (qOk σ a 6 = true ∧ qEx d 87 50 (qrf (σ.2 a 1) :: st) ls σ μ la Q) := (qEx_eq (i := .getfield 27) rfl).trans qExA_chk
theorem x87_50 {a : Nat} : qEx d 87 50 (.ref a :: st) ls σ μ la Q ↔ (qOk σ a 4 = true ∧ qEx d 87 53 (.int (μ a 3) :: st) ls σ μ la Q) := (qEx_eq (i := .getfield 120) rfl).trans qExA_chk
theorem x87_53 {x : Int32} : qEx d 87 53 [.int x] ls σ μ la Q ↔ Q (some (.int x)) σ μ la := (qEx_eq (i := .ireturn) rfl).trans Iff.rfl
theorem x88_0 {x : Nat} {l1 l2 : Value} : qEx d 88 0 st [.ref x, l1, l2] σ μ la Q ↔ qEx d 88 1 (.ref x :: st) [.ref x, l1, l2] σ μ la Q := (qEx_eq (i := .aload_n 0) rfl).trans Iff.rfl
theorem x88_1 {a : Nat} : qEx d 88 1 (.ref a :: st) ls σ μ la Q ↔ (qOk σ a 6 = true ∧ qEx d 88 4 (qrf (σ.2 a 1) :: st) ls σ μ la Q) := (qEx_eq (i := .getfield 27) rfl).trans qExA_chk
theorem x88_4 {x : Int32} {l0 l2 : Value} : qEx d 88 4 st [l0, .int x, l2] σ μ la Q ↔ qEx d 88 5 (.int x :: st) [l0, .int x, l2] σ μ la Q := (qEx_eq (i := .iload_n 1) rfl).trans Iff.rfl
theorem x88_5 {y0 : Int32} {a : Nat} : qEx (d + 1) 88 5 [.int y0, .ref a] ls σ μ la Q ↔ (qOk σ a 4 = true ∧ qEx d 60 0 [] [.ref a, .int y0] σ μ la fun r σ' μ' la' => qEx (d + 1) 88 8 (r.toList ++ []) ls σ' μ' la' Q) := (qEx_eq (i := .invokevirtual 84) rfl).trans qExA_chk
theorem x88_8 {x : Int32} : qEx d 88 8 (.int x :: st) ls σ μ la Q ↔ (if x = 0 then qEx d 88 18 st ls σ μ la Q else qEx d 88 11 st ls σ μ la Q) := (qEx_eq (i := .ifCond .eq 10) rfl).trans qExA_ite
theorem x88_11 {x : Int32} {l0 l1 : Value} : qEx d 88 11 st [l0, l1, .int x] σ μ la Q ↔ qEx d 88 12 (.int x :: st) [l0, l1, .int x] σ μ la Q := (qEx_eq (i := .iload_n 2) rfl).trans Iff.rfl
theorem x88_12 {y0 : Int32} : qEx (d + 1) 88 12 [.int y0] ls σ μ la Q ↔ qEx d 110 0 [] [.int y0] σ μ la fun r σ' μ' la' => qEx (d + 1) 88 15 (r.toList ++ []) ls σ' μ' la' Q := (qEx_eq (i := .invokestatic 140) rfl).trans Iff.rfl
theorem x88_15 {x : Int32} : qEx d 88 15 (.int x :: st) ls σ μ la Q ↔ (if ¬ x = 0 then qEx d 88 20 st ls σ μ la Q else qEx d 88 18 st ls σ μ la Q) := (qEx_eq (i := .ifCond .ne 5) rfl).trans qExA_ite
theorem x88_18  : qEx d 88 18 st ls σ μ la Q ↔ qEx d 88 19 (.int (-1) :: st) ls σ μ la Q := (qEx_eq (i := .iconst (-1)) rfl).trans Iff.rfl
theorem x88_19 {x : Int32} : qEx d 88 19 [.int x] ls σ μ la Q ↔ Q (some (.int x)) σ μ la := (qEx_eq (i := .ireturn) rfl).trans Iff.rfl
theorem x88_20 {x : Nat} {l1 l2 : Value} : qEx d 88 20 st [.ref x, l1, l2] σ μ la Q ↔ qEx d 88 21 (.ref x :: st) [.ref x, l1, l2] σ μ la Q := (qEx_eq (i := .aload_n 0) rfl).trans Iff.rfl
theorem x88_21 {a : Nat} : qEx d 88 21 (.ref a :: st) ls σ μ la Q ↔ (qOk σ a 6 = true ∧ qEx d 88 24 (qrf (σ.2 a 6) :: st) ls σ μ la Q) := (qEx_eq (i := .getfield 19) rfl).trans qExA_chk
theorem x88_24 {x : Int32} {l0 l2 : Value} : qEx d 88 24 st [l0, .int x, l2] σ μ la Q ↔ qEx d 88 25 (.int x :: st) [l0, .int x, l2] σ μ la Q := (qEx_eq (i := .iload_n 1) rfl).trans Iff.rfl
theorem x88_25 {x : Nat} {l1 l2 : Value} : qEx d 88 25 st [.ref x, l1, l2] σ μ la Q ↔ qEx d 88 26 (.ref x :: st) [.ref x, l1, l2] σ μ la Q := (qEx_eq (i := .aload_n 0) rfl).trans Iff.rfl
theorem x88_26 {a : Nat} : qEx d 88 26 (.ref a :: st) ls σ μ la Q ↔ (qOk σ a 6 = true ∧ qEx d 88 29 (qrf (σ.2 a 1) :: st) ls σ μ la Q) := (qEx_eq (i := .getfield 27) rfl).trans qExA_chk
theorem x88_29 {a : Nat} : qEx d 88 29 (.ref a :: st) ls σ μ la Q ↔ (qOk σ a 4 = true ∧ qEx d 88 32 (qrf (σ.2 a 9) :: st) ls σ μ la Q) := (qEx_eq (i := .getfield 94) rfl).trans qExA_chk
theorem x88_32 {x : Int32} {l0 l2 : Value} : qEx d 88 32 st [l0, .int x, l2] σ μ la Q ↔ qEx d 88 33 (.int x :: st) [l0, .int x, l2] σ μ la Q := (qEx_eq (i := .iload_n 1) rfl).trans Iff.rfl
theorem x88_33 {x : Int32} {a : Nat} : qEx d 88 33 (.int x :: .ref a :: st) ls σ μ la Q ↔ (qIn x (qIld σ μ a) = true ∧ qEx d 88 34 (.int (μ a x.toNatClampNeg) :: st) ls σ μ la Q) := (qEx_eq (i := .iaload) rfl).trans qExA_chk
theorem x88_34 {x : Int32} {l0 l1 : Value} : qEx d 88 34 st [l0, l1, .int x] σ μ la Q ↔ qEx d 88 35 (.int x :: st) [l0, l1, .int x] σ μ la Q := (qEx_eq (i := .iload_n 2) rfl).trans Iff.rfl
theorem x88_35 {y0 : Int32} {y1 : Int32} {y2 : Int32} {a : Nat} : qEx (d + 1) 88 35 [.int y2, .int y1, .int y0, .ref a] ls σ μ la Q ↔ (qOk σ a 1 = true ∧ qEx d 5 0 [] [.ref a, .int y0, .int y1, .int y2] σ μ la fun r σ' μ' la' => qEx (d + 1) 88 38 (r.toList ++ []) ls σ' μ' la' Q) := (qEx_eq (i := .invokevirtual 143) rfl).trans qExA_chk
theorem x88_38 {x : Int32} : qEx d 88 38 [.int x] ls σ μ la Q ↔ Q (some (.int x)) σ μ la := (qEx_eq (i := .ireturn) rfl).trans Iff.rfl
theorem x89_0 {x : Nat} {l1 l2 : Value} : qEx d 89 0 st [.ref x, l1, l2] σ μ la Q ↔ qEx d 89 1 (.ref x :: st) [.ref x, l1, l2] σ μ la Q := (qEx_eq (i := .aload_n 0) rfl).trans Iff.rfl
theorem x89_1 {a : Nat} : qEx d 89 1 (.ref a :: st) ls σ μ la Q ↔ (qOk σ a 6 = true ∧ qEx d 89 4 (qrf (σ.2 a 1) :: st) ls σ μ la Q) := (qEx_eq (i := .getfield 27) rfl).trans qExA_chk
theorem x89_4 {x : Int32} {l0 l2 : Value} : qEx d 89 4 st [l0, .int x, l2] σ μ la Q ↔ qEx d 89 5 (.int x :: st) [l0, .int x, l2] σ μ la Q := (qEx_eq (i := .iload_n 1) rfl).trans Iff.rfl
theorem x89_5 {y0 : Int32} {a : Nat} : qEx (d + 1) 89 5 [.int y0, .ref a] ls σ μ la Q ↔ (qOk σ a 4 = true ∧ qEx d 60 0 [] [.ref a, .int y0] σ μ la fun r σ' μ' la' => qEx (d + 1) 89 8 (r.toList ++ []) ls σ' μ' la' Q) := (qEx_eq (i := .invokevirtual 84) rfl).trans qExA_chk
theorem x89_8 {x : Int32} : qEx d 89 8 (.int x :: st) ls σ μ la Q ↔ (if x = 0 then qEx d 89 18 st ls σ μ la Q else qEx d 89 11 st ls σ μ la Q) := (qEx_eq (i := .ifCond .eq 10) rfl).trans qExA_ite
theorem x89_11 {x : Int32} {l0 l1 : Value} : qEx d 89 11 st [l0, l1, .int x] σ μ la Q ↔ qEx d 89 12 (.int x :: st) [l0, l1, .int x] σ μ la Q := (qEx_eq (i := .iload_n 2) rfl).trans Iff.rfl
theorem x89_12 {y0 : Int32} : qEx (d + 1) 89 12 [.int y0] ls σ μ la Q ↔ qEx d 110 0 [] [.int y0] σ μ la fun r σ' μ' la' => qEx (d + 1) 89 15 (r.toList ++ []) ls σ' μ' la' Q := (qEx_eq (i := .invokestatic 140) rfl).trans Iff.rfl
theorem x89_15 {x : Int32} : qEx d 89 15 (.int x :: st) ls σ μ la Q ↔ (if ¬ x = 0 then qEx d 89 20 st ls σ μ la Q else qEx d 89 18 st ls σ μ la Q) := (qEx_eq (i := .ifCond .ne 5) rfl).trans qExA_ite
theorem x89_18  : qEx d 89 18 st ls σ μ la Q ↔ qEx d 89 19 (.int (-1) :: st) ls σ μ la Q := (qEx_eq (i := .iconst (-1)) rfl).trans Iff.rfl
theorem x89_19 {x : Int32} : qEx d 89 19 [.int x] ls σ μ la Q ↔ Q (some (.int x)) σ μ la := (qEx_eq (i := .ireturn) rfl).trans Iff.rfl
theorem x89_20 {x : Nat} {l1 l2 : Value} : qEx d 89 20 st [.ref x, l1, l2] σ μ la Q ↔ qEx d 89 21 (.ref x :: st) [.ref x, l1, l2] σ μ la Q := (qEx_eq (i := .aload_n 0) rfl).trans Iff.rfl
theorem x89_21 {a : Nat} : qEx d 89 21 (.ref a :: st) ls σ μ la Q ↔ (qOk σ a 6 = true ∧ qEx d 89 24 (qrf (σ.2 a 5) :: st) ls σ μ la Q) := (qEx_eq (i := .getfield 52) rfl).trans qExA_chk
theorem x89_24 {x : Nat} {l1 l2 : Value} : qEx d 89 24 st [.ref x, l1, l2] σ μ la Q ↔ qEx d 89 25 (.ref x :: st) [.ref x, l1, l2] σ μ la Q := (qEx_eq (i := .aload_n 0) rfl).trans Iff.rfl
theorem x89_25 {a : Nat} : qEx d 89 25 (.ref a :: st) ls σ μ la Q ↔ (qOk σ a 6 = true ∧ qEx d 89 28 (qrf (σ.2 a 1) :: st) ls σ μ la Q) := (qEx_eq (i := .getfield 27) rfl).trans qExA_chk
theorem x89_28 {x : Int32} {l0 l2 : Value} : qEx d 89 28 st [l0, .int x, l2] σ μ la Q ↔ qEx d 89 29 (.int x :: st) [l0, .int x, l2] σ μ la Q := (qEx_eq (i := .iload_n 1) rfl).trans Iff.rfl
theorem x89_29 {x : Nat} {l1 l2 : Value} : qEx d 89 29 st [.ref x, l1, l2] σ μ la Q ↔ qEx d 89 30 (.ref x :: st) [.ref x, l1, l2] σ μ la Q := (qEx_eq (i := .aload_n 0) rfl).trans Iff.rfl
theorem x89_30 {a : Nat} : qEx d 89 30 (.ref a :: st) ls σ μ la Q ↔ (qOk σ a 6 = true ∧ qEx d 89 33 (qrf (σ.2 a 1) :: st) ls σ μ la Q) := (qEx_eq (i := .getfield 27) rfl).trans qExA_chk
theorem x89_33 {a : Nat} : qEx d 89 33 (.ref a :: st) ls σ μ la Q ↔ (qOk σ a 4 = true ∧ qEx d 89 36 (qrf (σ.2 a 7) :: st) ls σ μ la Q) := (qEx_eq (i := .getfield 87) rfl).trans qExA_chk
theorem x89_36 {x : Int32} {l0 l2 : Value} : qEx d 89 36 st [l0, .int x, l2] σ μ la Q ↔ qEx d 89 37 (.int x :: st) [l0, .int x, l2] σ μ la Q := (qEx_eq (i := .iload_n 1) rfl).trans Iff.rfl
theorem x89_37 {x : Int32} {a : Nat} : qEx d 89 37 (.int x :: .ref a :: st) ls σ μ la Q ↔ (qIn x (qIld σ μ a) = true ∧ qEx d 89 38 (.int (μ a x.toNatClampNeg) :: st) ls σ μ la Q) := (qEx_eq (i := .iaload) rfl).trans qExA_chk
theorem x89_38 {x : Nat} {l1 l2 : Value} : qEx d 89 38 st [.ref x, l1, l2] σ μ la Q ↔ qEx d 89 39 (.ref x :: st) [.ref x, l1, l2] σ μ la Q := (qEx_eq (i := .aload_n 0) rfl).trans Iff.rfl
theorem x89_39 {a : Nat} : qEx d 89 39 (.ref a :: st) ls σ μ la Q ↔ (qOk σ a 6 = true ∧ qEx d 89 42 (qrf (σ.2 a 1) :: st) ls σ μ la Q) := (qEx_eq (i := .getfield 27) rfl).trans qExA_chk
theorem x89_42 {a : Nat} : qEx d 89 42 (.ref a :: st) ls σ μ la Q ↔ (qOk σ a 4 = true ∧ qEx d 89 45 (qrf (σ.2 a 9) :: st) ls σ μ la Q) := (qEx_eq (i := .getfield 94) rfl).trans qExA_chk
theorem x89_45 {x : Int32} {l0 l2 : Value} : qEx d 89 45 st [l0, .int x, l2] σ μ la Q ↔ qEx d 89 46 (.int x :: st) [l0, .int x, l2] σ μ la Q := (qEx_eq (i := .iload_n 1) rfl).trans Iff.rfl
theorem x89_46 {x : Int32} {a : Nat} : qEx d 89 46 (.int x :: .ref a :: st) ls σ μ la Q ↔ (qIn x (qIld σ μ a) = true ∧ qEx d 89 47 (.int (μ a x.toNatClampNeg) :: st) ls σ μ la Q) := (qEx_eq (i := .iaload) rfl).trans qExA_chk
theorem x89_47 {x : Int32} {l0 l1 : Value} : qEx d 89 47 st [l0, l1, .int x] σ μ la Q ↔ qEx d 89 48 (.int x :: st) [l0, l1, .int x] σ μ la Q := (qEx_eq (i := .iload_n 2) rfl).trans Iff.rfl
theorem x89_48 {y0 : Nat} {y1 : Int32} {y2 : Int32} {y3 : Int32} {y4 : Int32} {a : Nat} : qEx (d + 1) 89 48 [.int y4, .int y3, .int y2, .int y1, .ref y0, .ref a] ls σ μ la Q ↔ (qOk σ a 5 = true ∧ qEx d 71 0 [] [.ref a, .ref y0, .int y1, .int y2, .int y3, .int y4, .retAddr 0, .retAddr 0, .retAddr 0, .retAddr 0, .retAddr 0] σ μ la fun r σ' μ' la' => qEx (d + 1) 89 51 (r.toList ++ []) ls σ' μ' la' Q) := (qEx_eq (i := .invokevirtual 147) rfl).trans qExA_chk
theorem x89_51 {x : Nat} {l1 l2 : Value} : qEx d 89 51 st [.ref x, l1, l2] σ μ la Q ↔ qEx d 89 52 (.ref x :: st) [.ref x, l1, l2] σ μ la Q := (qEx_eq (i := .aload_n 0) rfl).trans Iff.rfl
theorem x89_52 {a : Nat} : qEx d 89 52 (.ref a :: st) ls σ μ la Q ↔ (qOk σ a 6 = true ∧ qEx d 89 55 (qrf (σ.2 a 5) :: st) ls σ μ la Q) := (qEx_eq (i := .getfield 52) rfl).trans qExA_chk
theorem x89_55 {a : Nat} : qEx d 89 55 (.ref a :: st) ls σ μ la Q ↔ (qOk σ a 5 = true ∧ qEx d 89 58 (.int (μ a 1) :: st) ls σ μ la Q) := (qEx_eq (i := .getfield 151) rfl).trans qExA_chk
theorem x89_58 {x : Int32} : qEx d 89 58 [.int x] ls σ μ la Q ↔ Q (some (.int x)) σ μ la := (qEx_eq (i := .ireturn) rfl).trans Iff.rfl
theorem x90_0 {x : Nat} {l1 l2 : Value} : qEx d 90 0 st [.ref x, l1, l2] σ μ la Q ↔ qEx d 90 1 (.ref x :: st) [.ref x, l1, l2] σ μ la Q := (qEx_eq (i := .aload_n 0) rfl).trans Iff.rfl
theorem x90_1 {a : Nat} : qEx d 90 1 (.ref a :: st) ls σ μ la Q ↔ (qOk σ a 6 = true ∧ qEx d 90 4 (qrf (σ.2 a 1) :: st) ls σ μ la Q) := (qEx_eq (i := .getfield 27) rfl).trans qExA_chk
theorem x90_4 {x : Int32} {l0 l2 : Value} : qEx d 90 4 st [l0, .int x, l2] σ μ la Q ↔ qEx d 90 5 (.int x :: st) [l0, .int x, l2] σ μ la Q := (qEx_eq (i := .iload_n 1) rfl).trans Iff.rfl
theorem x90_5 {y0 : Int32} {a : Nat} : qEx (d + 1) 90 5 [.int y0, .ref a] ls σ μ la Q ↔ (qOk σ a 4 = true ∧ qEx d 60 0 [] [.ref a, .int y0] σ μ la fun r σ' μ' la' => qEx (d + 1) 90 8 (r.toList ++ []) ls σ' μ' la' Q) := (qEx_eq (i := .invokevirtual 84) rfl).trans qExA_chk
theorem x90_8 {x : Int32} : qEx d 90 8 (.int x :: st) ls σ μ la Q ↔ (if x = 0 then qEx d 90 21 st ls σ μ la Q else qEx d 90 11 st ls σ μ la Q) := (qEx_eq (i := .ifCond .eq 13) rfl).trans qExA_ite
theorem x90_11 {x : Int32} {l0 l1 : Value} : qEx d 90 11 st [l0, l1, .int x] σ μ la Q ↔ qEx d 90 12 (.int x :: st) [l0, l1, .int x] σ μ la Q := (qEx_eq (i := .iload_n 2) rfl).trans Iff.rfl
theorem x90_12 {x : Int32} : qEx d 90 12 (.int x :: st) ls σ μ la Q ↔ (if x < 0 then qEx d 90 21 st ls σ μ la Q else qEx d 90 15 st ls σ μ la Q) := (qEx_eq (i := .ifCond .lt 9) rfl).trans qExA_ite
theorem x90_15 {x : Int32} {l0 l1 : Value} : qEx d 90 15 st [l0, l1, .int x] σ μ la Q ↔ qEx d 90 16 (.int x :: st) [l0, l1, .int x] σ μ la Q := (qEx_eq (i := .iload_n 2) rfl).trans Iff.rfl
theorem x90_16  : qEx d 90 16 st ls σ μ la Q ↔ qEx d 90 18 (.int 20 :: st) ls σ μ la Q := (qEx_eq (i := .bipush 20) rfl).trans Iff.rfl
theorem x90_18 {x y : Int32} : qEx d 90 18 (.int y :: .int x :: st) ls σ μ la Q ↔ (if x ≤ y then qEx d 90 23 st ls σ μ la Q else qEx d 90 21 st ls σ μ la Q) := (qEx_eq (i := .if_icmp .le 5) rfl).trans qExA_ite
theorem x90_21  : qEx d 90 21 st ls σ μ la Q ↔ qEx d 90 22 (.int (-1) :: st) ls σ μ la Q := (qEx_eq (i := .iconst (-1)) rfl).trans Iff.rfl
theorem x90_22 {x : Int32} : qEx d 90 22 [.int x] ls σ μ la Q ↔ Q (some (.int x)) σ μ la := (qEx_eq (i := .ireturn) rfl).trans Iff.rfl
theorem x90_23 {x : Nat} {l1 l2 : Value} : qEx d 90 23 st [.ref x, l1, l2] σ μ la Q ↔ qEx d 90 24 (.ref x :: st) [.ref x, l1, l2] σ μ la Q := (qEx_eq (i := .aload_n 0) rfl).trans Iff.rfl
theorem x90_24 {a : Nat} : qEx d 90 24 (.ref a :: st) ls σ μ la Q ↔ (qOk σ a 6 = true ∧ qEx d 90 27 (qrf (σ.2 a 6) :: st) ls σ μ la Q) := (qEx_eq (i := .getfield 19) rfl).trans qExA_chk
theorem x90_27 {x : Int32} {l0 l2 : Value} : qEx d 90 27 st [l0, .int x, l2] σ μ la Q ↔ qEx d 90 28 (.int x :: st) [l0, .int x, l2] σ μ la Q := (qEx_eq (i := .iload_n 1) rfl).trans Iff.rfl
theorem x90_28 {x : Int32} {l0 l1 : Value} : qEx d 90 28 st [l0, l1, .int x] σ μ la Q ↔ qEx d 90 29 (.int x :: st) [l0, l1, .int x] σ μ la Q := (qEx_eq (i := .iload_n 2) rfl).trans Iff.rfl
theorem x90_29 {y0 : Int32} {y1 : Int32} {a : Nat} : qEx (d + 1) 90 29 [.int y1, .int y0, .ref a] ls σ μ la Q ↔ (qOk σ a 1 = true ∧ qEx d 6 0 [] [.ref a, .int y0, .int y1, .retAddr 0] σ μ la fun r σ' μ' la' => qEx (d + 1) 90 32 (r.toList ++ []) ls σ' μ' la' Q) := (qEx_eq (i := .invokevirtual 152) rfl).trans qExA_chk
theorem x90_32 {x : Int32} : qEx d 90 32 [.int x] ls σ μ la Q ↔ Q (some (.int x)) σ μ la := (qEx_eq (i := .ireturn) rfl).trans Iff.rfl
theorem x91_0 {x : Nat} : qEx d 91 0 st [.ref x] σ μ la Q ↔ qEx d 91 1 (.ref x :: st) [.ref x] σ μ la Q := (qEx_eq (i := .aload_n 0) rfl).trans Iff.rfl
theorem x91_1 {a : Nat} : qEx d 91 1 (.ref a :: st) ls σ μ la Q ↔ (qOk σ a 6 = true ∧ qEx d 91 4 (qrf (σ.2 a 1) :: st) ls σ μ la Q) := (qEx_eq (i := .getfield 27) rfl).trans qExA_chk
theorem x91_4 {a : Nat} : qEx d 91 4 (.ref a :: st) ls σ μ la Q ↔ (qOk σ a 4 = true ∧ qEx d 91 7 (.int (μ a 2) :: st) ls σ μ la Q) := (qEx_eq (i := .getfield 81) rfl).trans qExA_chk
theorem x91_7 {x : Int32} : qEx d 91 7 (.int x :: st) ls σ μ la Q ↔ (if ¬ x = 0 then qEx d 91 15 st ls σ μ la Q else qEx d 91 10 st ls σ μ la Q) := (qEx_eq (i := .ifCond .ne 8) rfl).trans qExA_ite
theorem x91_10  : qEx d 91 10 st ls σ μ la Q ↔ qEx d 91 12 (.int (-2) :: st) ls σ μ la Q := (qEx_eq (i := .bipush (-2)) rfl).trans Iff.rfl
theorem x91_12  : qEx d 91 12 st ls σ μ la Q ↔ qEx d 91 22 st ls σ μ la Q := (qEx_eq (i := .goto 10) rfl).trans Iff.rfl
theorem x91_15 {x : Nat} : qEx d 91 15 st [.ref x] σ μ la Q ↔ qEx d 91 16 (.ref x :: st) [.ref x] σ μ la Q := (qEx_eq (i := .aload_n 0) rfl).trans Iff.rfl
theorem x91_16 {a : Nat} : qEx d 91 16 (.ref a :: st) ls σ μ la Q ↔ (qOk σ a 6 = true ∧ qEx d 91 19 (qrf (σ.2 a 6) :: st) ls σ μ la Q) := (qEx_eq (i := .getfield 19) rfl).trans qExA_chk
theorem x91_19 {a : Nat} : qEx (d + 1) 91 19 [.ref a] ls σ μ la Q ↔ (qOk σ a 1 = true ∧ qEx d 7 0 [] [.ref a, .retAddr 0, .retAddr 0] σ μ la fun r σ' μ' la' => qEx (d + 1) 91 22 (r.toList ++ []) ls σ' μ' la' Q) := (qEx_eq (i := .invokevirtual 156) rfl).trans qExA_chk
theorem x91_22 {x : Int32} : qEx d 91 22 [.int x] ls σ μ la Q ↔ Q (some (.int x)) σ μ la := (qEx_eq (i := .ireturn) rfl).trans Iff.rfl
theorem x92_0 {x : Nat} {l1 l2 : Value} : qEx d 92 0 st [.ref x, l1, l2] σ μ la Q ↔ qEx d 92 1 (.ref x :: st) [.ref x, l1, l2] σ μ la Q := (qEx_eq (i := .aload_n 0) rfl).trans Iff.rfl
theorem x92_1 {a : Nat} : qEx d 92 1 (.ref a :: st) ls σ μ la Q ↔ (qOk σ a 6 = true ∧ qEx d 92 4 (qrf (σ.2 a 1) :: st) ls σ μ la Q) := (qEx_eq (i := .getfield 27) rfl).trans qExA_chk
theorem x92_4 {x : Int32} {l0 l2 : Value} : qEx d 92 4 st [l0, .int x, l2] σ μ la Q ↔ qEx d 92 5 (.int x :: st) [l0, .int x, l2] σ μ la Q := (qEx_eq (i := .iload_n 1) rfl).trans Iff.rfl
theorem x92_5 {y0 : Int32} {a : Nat} : qEx (d + 1) 92 5 [.int y0, .ref a] ls σ μ la Q ↔ (qOk σ a 4 = true ∧ qEx d 60 0 [] [.ref a, .int y0] σ μ la fun r σ' μ' la' => qEx (d + 1) 92 8 (r.toList ++ []) ls σ' μ' la' Q) := (qEx_eq (i := .invokevirtual 84) rfl).trans qExA_chk
theorem x92_8 {x : Int32} : qEx d 92 8 (.int x :: st) ls σ μ la Q ↔ (if x = 0 then qEx d 92 22 st ls σ μ la Q else qEx d 92 11 st ls σ μ la Q) := (qEx_eq (i := .ifCond .eq 14) rfl).trans qExA_ite
theorem x92_11 {x : Nat} {l1 l2 : Value} : qEx d 92 11 st [.ref x, l1, l2] σ μ la Q ↔ qEx d 92 12 (.ref x :: st) [.ref x, l1, l2] σ μ la Q := (qEx_eq (i := .aload_n 0) rfl).trans Iff.rfl
theorem x92_12 {a : Nat} : qEx d 92 12 (.ref a :: st) ls σ μ la Q ↔ (qOk σ a 6 = true ∧ qEx d 92 15 (qrf (σ.2 a 1) :: st) ls σ μ la Q) := (qEx_eq (i := .getfield 27) rfl).trans qExA_chk
theorem x92_15 {x : Int32} {l0 l1 : Value} : qEx d 92 15 st [l0, l1, .int x] σ μ la Q ↔ qEx d 92 16 (.int x :: st) [l0, l1, .int x] σ μ la Q := (qEx_eq (i := .iload_n 2) rfl).trans Iff.rfl
theorem x92_16 {y0 : Int32} {a : Nat} : qEx (d + 1) 92 16 [.int y0, .ref a] ls σ μ la Q ↔ (qOk σ a 4 = true ∧ qEx d 61 0 [] [.ref a, .int y0] σ μ la fun r σ' μ' la' => qEx (d + 1) 92 19 (r.toList ++ []) ls σ' μ' la' Q) := (qEx_eq (i := .invokevirtual 106) rfl).trans qExA_chk
theorem x92_19 {x : Int32} : qEx d 92 19 (.int x :: st) ls σ μ la Q ↔ (if ¬ x = 0 then qEx d 92 24 st ls σ μ la Q else qEx d 92 22 st ls σ μ la Q) := (qEx_eq (i := .ifCond .ne 5) rfl).trans qExA_ite
theorem x92_22  : qEx d 92 22 st ls σ μ la Q ↔ qEx d 92 23 (.int (-1) :: st) ls σ μ la Q := (qEx_eq (i := .iconst (-1)) rfl).trans Iff.rfl
theorem x92_23 {x : Int32} : qEx d 92 23 [.int x] ls σ μ la Q ↔ Q (some (.int x)) σ μ la := (qEx_eq (i := .ireturn) rfl).trans Iff.rfl
theorem x92_24 {x : Nat} {l1 l2 : Value} : qEx d 92 24 st [.ref x, l1, l2] σ μ la Q ↔ qEx d 92 25 (.ref x :: st) [.ref x, l1, l2] σ μ la Q := (qEx_eq (i := .aload_n 0) rfl).trans Iff.rfl
theorem x92_25 {a : Nat} : qEx d 92 25 (.ref a :: st) ls σ μ la Q ↔ (qOk σ a 6 = true ∧ qEx d 92 28 (qrf (σ.2 a 6) :: st) ls σ μ la Q) := (qEx_eq (i := .getfield 19) rfl).trans qExA_chk
theorem x92_28 {x : Int32} {l0 l2 : Value} : qEx d 92 28 st [l0, .int x, l2] σ μ la Q ↔ qEx d 92 29 (.int x :: st) [l0, .int x, l2] σ μ la Q := (qEx_eq (i := .iload_n 1) rfl).trans Iff.rfl
theorem x92_29 {x : Nat} {l1 l2 : Value} : qEx d 92 29 st [.ref x, l1, l2] σ μ la Q ↔ qEx d 92 30 (.ref x :: st) [.ref x, l1, l2] σ μ la Q := (qEx_eq (i := .aload_n 0) rfl).trans Iff.rfl
theorem x92_30 {a : Nat} : qEx d 92 30 (.ref a :: st) ls σ μ la Q ↔ (qOk σ a 6 = true ∧ qEx d 92 33 (qrf (σ.2 a 1) :: st) ls σ μ la Q) := (qEx_eq (i := .getfield 27) rfl).trans qExA_chk
theorem x92_33 {a : Nat} : qEx d 92 33 (.ref a :: st) ls σ μ la Q ↔ (qOk σ a 4 = true ∧ qEx d 92 36 (qrf (σ.2 a 9) :: st) ls σ μ la Q) := (qEx_eq (i := .getfield 94) rfl).trans qExA_chk
theorem x92_36 {x : Int32} {l0 l2 : Value} : qEx d 92 36 st [l0, .int x, l2] σ μ la Q ↔ qEx d 92 37 (.int x :: st) [l0, .int x, l2] σ μ la Q := (qEx_eq (i := .iload_n 1) rfl).trans Iff.rfl
theorem x92_37 {x : Int32} {a : Nat} : qEx d 92 37 (.int x :: .ref a :: st) ls σ μ la Q ↔ (qIn x (qIld σ μ a) = true ∧ qEx d 92 38 (.int (μ a x.toNatClampNeg) :: st) ls σ μ la Q) := (qEx_eq (i := .iaload) rfl).trans qExA_chk
theorem x92_38 {x : Int32} {l0 l1 : Value} : qEx d 92 38 st [l0, l1, .int x] σ μ la Q ↔ qEx d 92 39 (.int x :: st) [l0, l1, .int x] σ μ la Q := (qEx_eq (i := .iload_n 2) rfl).trans Iff.rfl
theorem x92_39 {y0 : Int32} {y1 : Int32} {y2 : Int32} {a : Nat} : qEx (d + 1) 92 39 [.int y2, .int y1, .int y0, .ref a] ls σ μ la Q ↔ (qOk σ a 1 = true ∧ qEx d 9 0 [] [.ref a, .int y0, .int y1, .int y2, .retAddr 0] σ μ la fun r σ' μ' la' => qEx (d + 1) 92 42 (r.toList ++ []) ls σ' μ' la' Q) := (qEx_eq (i := .invokevirtual 160) rfl).trans qExA_chk
theorem x92_42 {x : Int32} : qEx d 92 42 [.int x] ls σ μ la Q ↔ Q (some (.int x)) σ μ la := (qEx_eq (i := .ireturn) rfl).trans Iff.rfl
theorem x93_0 {x : Nat} {l1 l2 : Value} : qEx d 93 0 st [.ref x, l1, l2] σ μ la Q ↔ qEx d 93 1 (.ref x :: st) [.ref x, l1, l2] σ μ la Q := (qEx_eq (i := .aload_n 0) rfl).trans Iff.rfl
theorem x93_1 {a : Nat} : qEx d 93 1 (.ref a :: st) ls σ μ la Q ↔ (qOk σ a 6 = true ∧ qEx d 93 4 (qrf (σ.2 a 1) :: st) ls σ μ la Q) := (qEx_eq (i := .getfield 27) rfl).trans qExA_chk
theorem x93_4 {x : Int32} {l0 l2 : Value} : qEx d 93 4 st [l0, .int x, l2] σ μ la Q ↔ qEx d 93 5 (.int x :: st) [l0, .int x, l2] σ μ la Q := (qEx_eq (i := .iload_n 1) rfl).trans Iff.rfl
theorem x93_5 {y0 : Int32} {a : Nat} : qEx (d + 1) 93 5 [.int y0, .ref a] ls σ μ la Q ↔ (qOk σ a 4 = true ∧ qEx d 60 0 [] [.ref a, .int y0] σ μ la fun r σ' μ' la' => qEx (d + 1) 93 8 (r.toList ++ []) ls σ' μ' la' Q) := (qEx_eq (i := .invokevirtual 84) rfl).trans qExA_chk
theorem x93_8 {x : Int32} : qEx d 93 8 (.int x :: st) ls σ μ la Q ↔ (if x = 0 then qEx d 93 22 st ls σ μ la Q else qEx d 93 11 st ls σ μ la Q) := (qEx_eq (i := .ifCond .eq 14) rfl).trans qExA_ite
theorem x93_11 {x : Nat} {l1 l2 : Value} : qEx d 93 11 st [.ref x, l1, l2] σ μ la Q ↔ qEx d 93 12 (.ref x :: st) [.ref x, l1, l2] σ μ la Q := (qEx_eq (i := .aload_n 0) rfl).trans Iff.rfl
theorem x93_12 {a : Nat} : qEx d 93 12 (.ref a :: st) ls σ μ la Q ↔ (qOk σ a 6 = true ∧ qEx d 93 15 (qrf (σ.2 a 1) :: st) ls σ μ la Q) := (qEx_eq (i := .getfield 27) rfl).trans qExA_chk
theorem x93_15 {x : Int32} {l0 l1 : Value} : qEx d 93 15 st [l0, l1, .int x] σ μ la Q ↔ qEx d 93 16 (.int x :: st) [l0, l1, .int x] σ μ la Q := (qEx_eq (i := .iload_n 2) rfl).trans Iff.rfl
theorem x93_16 {y0 : Int32} {a : Nat} : qEx (d + 1) 93 16 [.int y0, .ref a] ls σ μ la Q ↔ (qOk σ a 4 = true ∧ qEx d 61 0 [] [.ref a, .int y0] σ μ la fun r σ' μ' la' => qEx (d + 1) 93 19 (r.toList ++ []) ls σ' μ' la' Q) := (qEx_eq (i := .invokevirtual 106) rfl).trans qExA_chk
theorem x93_19 {x : Int32} : qEx d 93 19 (.int x :: st) ls σ μ la Q ↔ (if ¬ x = 0 then qEx d 93 24 st ls σ μ la Q else qEx d 93 22 st ls σ μ la Q) := (qEx_eq (i := .ifCond .ne 5) rfl).trans qExA_ite
theorem x93_22  : qEx d 93 22 st ls σ μ la Q ↔ qEx d 93 23 (.int (-1) :: st) ls σ μ la Q := (qEx_eq (i := .iconst (-1)) rfl).trans Iff.rfl
theorem x93_23 {x : Int32} : qEx d 93 23 [.int x] ls σ μ la Q ↔ Q (some (.int x)) σ μ la := (qEx_eq (i := .ireturn) rfl).trans Iff.rfl
theorem x93_24 {x : Nat} {l1 l2 : Value} : qEx d 93 24 st [.ref x, l1, l2] σ μ la Q ↔ qEx d 93 25 (.ref x :: st) [.ref x, l1, l2] σ μ la Q := (qEx_eq (i := .aload_n 0) rfl).trans Iff.rfl
theorem x93_25 {a : Nat} : qEx d 93 25 (.ref a :: st) ls σ μ la Q ↔ (qOk σ a 6 = true ∧ qEx d 93 28 (qrf (σ.2 a 6) :: st) ls σ μ la Q) := (qEx_eq (i := .getfield 19) rfl).trans qExA_chk
theorem x93_28 {x : Int32} {l0 l2 : Value} : qEx d 93 28 st [l0, .int x, l2] σ μ la Q ↔ qEx d 93 29 (.int x :: st) [l0, .int x, l2] σ μ la Q := (qEx_eq (i := .iload_n 1) rfl).trans Iff.rfl
theorem x93_29 {x : Int32} {l0 l1 : Value} : qEx d 93 29 st [l0, l1, .int x] σ μ la Q ↔ qEx d 93 30 (.int x :: st) [l0, l1, .int x] σ μ la Q := (qEx_eq (i := .iload_n 2) rfl).trans Iff.rfl
theorem x93_30 {y0 : Int32} {y1 : Int32} {a : Nat} : qEx (d + 1) 93 30 [.int y1, .int y0, .ref a] ls σ μ la Q ↔ (qOk σ a 1 = true ∧ qEx d 10 0 [] [.ref a, .int y0, .int y1, .retAddr 0, .retAddr 0] σ μ la fun r σ' μ' la' => qEx (d + 1) 93 33 (r.toList ++ []) ls σ' μ' la' Q) := (qEx_eq (i := .invokevirtual 163) rfl).trans qExA_chk
theorem x93_33 {x : Int32} : qEx d 93 33 [.int x] ls σ μ la Q ↔ Q (some (.int x)) σ μ la := (qEx_eq (i := .ireturn) rfl).trans Iff.rfl
theorem x94_0 {x : Nat} {l1 l2 l3 : Value} : qEx d 94 0 st [.ref x, l1, l2, l3] σ μ la Q ↔ qEx d 94 1 (.ref x :: st) [.ref x, l1, l2, l3] σ μ la Q := (qEx_eq (i := .aload_n 0) rfl).trans Iff.rfl
theorem x94_1 {a : Nat} : qEx d 94 1 (.ref a :: st) ls σ μ la Q ↔ (qOk σ a 6 = true ∧ qEx d 94 4 (qrf (σ.2 a 1) :: st) ls σ μ la Q) := (qEx_eq (i := .getfield 27) rfl).trans qExA_chk
theorem x94_4 {x : Int32} {l0 l2 l3 : Value} : qEx d 94 4 st [l0, .int x, l2, l3] σ μ la Q ↔ qEx d 94 5 (.int x :: st) [l0, .int x, l2, l3] σ μ la Q := (qEx_eq (i := .iload_n 1) rfl).trans Iff.rfl
theorem x94_5 {y0 : Int32} {a : Nat} : qEx (d + 1) 94 5 [.int y0, .ref a] ls σ μ la Q ↔ (qOk σ a 4 = true ∧ qEx d 60 0 [] [.ref a, .int y0] σ μ la fun r σ' μ' la' => qEx (d + 1) 94 8 (r.toList ++ []) ls σ' μ' la' Q) := (qEx_eq (i := .invokevirtual 84) rfl).trans qExA_chk
theorem x94_8 {x : Int32} : qEx d 94 8 (.int x :: st) ls σ μ la Q ↔ (if x = 0 then qEx d 94 31 st ls σ μ la Q else qEx d 94 11 st ls σ μ la Q) := (qEx_eq (i := .ifCond .eq 23) rfl).trans qExA_ite
theorem x94_11 {x : Nat} {l1 l2 l3 : Value} : qEx d 94 11 st [.ref x, l1, l2, l3] σ μ la Q ↔ qEx d 94 12 (.ref x :: st) [.ref x, l1, l2, l3] σ μ la Q := (qEx_eq (i := .aload_n 0) rfl).trans Iff.rfl
theorem x94_12 {a : Nat} : qEx d 94 12 (.ref a :: st) ls σ μ la Q ↔ (qOk σ a 6 = true ∧ qEx d 94 15 (qrf (σ.2 a 1) :: st) ls σ μ la Q) := (qEx_eq (i := .getfield 27) rfl).trans qExA_chk
theorem x94_15 {x : Int32} {l0 l1 l3 : Value} : qEx d 94 15 st [l0, l1, .int x, l3] σ μ la Q ↔ qEx d 94 16 (.int x :: st) [l0, l1, .int x, l3] σ μ la Q := (qEx_eq (i := .iload_n 2) rfl).trans Iff.rfl
theorem x94_16 {y0 : Int32} {a : Nat} : qEx (d + 1) 94 16 [.int y0, .ref a] ls σ μ la Q ↔ (qOk σ a 4 = true ∧ qEx d 61 0 [] [.ref a, .int y0] σ μ la fun r σ' μ' la' => qEx (d + 1) 94 19 (r.toList ++ []) ls σ' μ' la' Q) := (qEx_eq (i := .invokevirtual 106) rfl).trans qExA_chk
theorem x94_19 {x : Int32} : qEx d 94 19 (.int x :: st) ls σ μ la Q ↔ (if x = 0 then qEx d 94 31 st ls σ μ la Q else qEx d 94 22 st ls σ μ la Q) := (qEx_eq (i := .ifCond .eq 12) rfl).trans qExA_ite
theorem x94_22 {x : Int32} {l0 l1 l2 : Value} : qEx d 94 22 st [l0, l1, l2, .int x] σ μ la Q ↔ qEx d 94 23 (.int x :: st) [l0, l1, l2, .int x] σ μ la Q := (qEx_eq (i := .iload_n 3) rfl).trans Iff.rfl
theorem x94_23 {x : Int32} : qEx d 94 23 (.int x :: st) ls σ μ la Q ↔ (if x < 0 then qEx d 94 31 st ls σ μ la Q else qEx d 94 26 st ls σ μ la Q) := (qEx_eq (i := .ifCond .lt 8) rfl).trans qExA_ite
theorem x94_26 {x : Int32} {l0 l1 l2 : Value} : qEx d 94 26 st [l0, l1, l2, .int x] σ μ la Q ↔ qEx d 94 27 (.int x :: st) [l0, l1, l2, .int x] σ μ la Q := (qEx_eq (i := .iload_n 3) rfl).trans Iff.rfl
theorem x94_27  : qEx d 94 27 st ls σ μ la Q ↔ qEx d 94 28 (.int 1 :: st) ls σ μ la Q := (qEx_eq (i := .iconst 1) rfl).trans Iff.rfl
theorem x94_28 {x y : Int32} : qEx d 94 28 (.int y :: .int x :: st) ls σ μ la Q ↔ (if x ≤ y then qEx d 94 33 st ls σ μ la Q else qEx d 94 31 st ls σ μ la Q) := (qEx_eq (i := .if_icmp .le 5) rfl).trans qExA_ite
theorem x94_31  : qEx d 94 31 st ls σ μ la Q ↔ qEx d 94 32 (.int (-1) :: st) ls σ μ la Q := (qEx_eq (i := .iconst (-1)) rfl).trans Iff.rfl
theorem x94_32 {x : Int32} : qEx d 94 32 [.int x] ls σ μ la Q ↔ Q (some (.int x)) σ μ la := (qEx_eq (i := .ireturn) rfl).trans Iff.rfl
theorem x94_33 {x : Nat} {l1 l2 l3 : Value} : qEx d 94 33 st [.ref x, l1, l2, l3] σ μ la Q ↔ qEx d 94 34 (.ref x :: st) [.ref x, l1, l2, l3] σ μ la Q := (qEx_eq (i := .aload_n 0) rfl).trans Iff.rfl
theorem x94_34 {a : Nat} : qEx d 94 34 (.ref a :: st) ls σ μ la Q ↔ (qOk σ a 6 = true ∧ qEx d 94 37 (qrf (σ.2 a 6) :: st) ls σ μ la Q) := (qEx_eq (i := .getfield 19) rfl).trans qExA_chk
theorem x94_37 {x : Int32} {l0 l2 l3 : Value} : qEx d 94 37 st [l0, .int x, l2, l3] σ μ la Q ↔ qEx d 94 38 (.int x :: st) [l0, .int x, l2, l3] σ μ la Q := (qEx_eq (i := .iload_n 1) rfl).trans Iff.rfl
theorem x94_38 {x : Int32} {l0 l1 l3 : Value} : qEx d 94 38 st [l0, l1, .int x, l3] σ μ la Q ↔ qEx d 94 39 (.int x :: st) [l0, l1, .int x, l3] σ μ la Q := (qEx_eq (i := .iload_n 2) rfl).trans Iff.rfl
theorem x94_39 {x : Int32} {l0 l1 l2 : Value} : qEx d 94 39 st [l0, l1, l2, .int x] σ μ la Q ↔ qEx d 94 40 (.int x :: st) [l0, l1, l2, .int x] σ μ la Q := (qEx_eq (i := .iload_n 3) rfl).trans Iff.rfl
theorem x94_40 {y0 : Int32} {y1 : Int32} {y2 : Int32} {a : Nat} : qEx (d + 1) 94 40 [.int y2, .int y1, .int y0, .ref a] ls σ μ la Q ↔ (qOk σ a 1 = true ∧ qEx d 11 0 [] [.ref a, .int y0, .int y1, .int y2, .retAddr 0] σ μ la fun r σ' μ' la' => qEx (d + 1) 94 43 (r.toList ++ []) ls σ' μ' la' Q) := (qEx_eq (i := .invokevirtual 166) rfl).trans qExA_chk
theorem x94_43 {x : Int32} : qEx d 94 43 [.int x] ls σ μ la Q ↔ Q (some (.int x)) σ μ la := (qEx_eq (i := .ireturn) rfl).trans Iff.rfl
theorem x95_0 {x : Int32} {l0 : Value} : qEx d 95 0 st [l0, .int x] σ μ la Q ↔ qEx d 95 1 (.int x :: st) [l0, .int x] σ μ la Q := (qEx_eq (i := .iload_n 1) rfl).trans Iff.rfl
theorem x95_1  : qEx d 95 1 st ls σ μ la Q ↔ qEx d 95 2 (.int (-1) :: st) ls σ μ la Q := (qEx_eq (i := .iconst (-1)) rfl).trans Iff.rfl
theorem x95_2 {x y : Int32} : qEx d 95 2 (.int y :: .int x :: st) ls σ μ la Q ↔ (if y ≤ x then qEx d 95 7 st ls σ μ la Q else qEx d 95 5 st ls σ μ la Q) := (qEx_eq (i := .if_icmp .ge 5) rfl).trans qExA_ite
theorem x95_5  : qEx d 95 5 st ls σ μ la Q ↔ qEx d 95 6 (.int (-1) :: st) ls σ μ la Q := (qEx_eq (i := .iconst (-1)) rfl).trans Iff.rfl
theorem x95_6 {x : Int32} : qEx d 95 6 [.int x] ls σ μ la Q ↔ Q (some (.int x)) σ μ la := (qEx_eq (i := .ireturn) rfl).trans Iff.rfl
theorem x95_7 {x : Nat} {l1 : Value} : qEx d 95 7 st [.ref x, l1] σ μ la Q ↔ qEx d 95 8 (.ref x :: st) [.ref x, l1] σ μ la Q := (qEx_eq (i := .aload_n 0) rfl).trans Iff.rfl
theorem x95_8 {a : Nat} : qEx d 95 8 (.ref a :: st) ls σ μ la Q ↔ (qOk σ a 6 = true ∧ qEx d 95 11 (qrf (σ.2 a 1) :: st) ls σ μ la Q) := (qEx_eq (i := .getfield 27) rfl).trans qExA_chk
theorem x95_11 {a : Nat} : qEx d 95 11 (.ref a :: st) ls σ μ la Q ↔ (qOk σ a 4 = true ∧ qEx d 95 14 (.int (μ a 2) :: st) ls σ μ la Q) := (qEx_eq (i := .getfield 81) rfl).trans qExA_chk
theorem x95_14 {x : Int32} : qEx d 95 14 (.int x :: st) ls σ μ la Q ↔ (if ¬ x = 0 then qEx d 95 20 st ls σ μ la Q else qEx d 95 17 st ls σ μ la Q) := (qEx_eq (i := .ifCond .ne 6) rfl).trans qExA_ite
theorem x95_17  : qEx d 95 17 st ls σ μ la Q ↔ qEx d 95 19 (.int (-2) :: st) ls σ μ la Q := (qEx_eq (i := .bipush (-2)) rfl).trans Iff.rfl
theorem x95_19 {x : Int32} : qEx d 95 19 [.int x] ls σ μ la Q ↔ Q (some (.int x)) σ μ la := (qEx_eq (i := .ireturn) rfl).trans Iff.rfl
theorem x95_20 {x : Nat} {l1 : Value} : qEx d 95 20 st [.ref x, l1] σ μ la Q ↔ qEx d 95 21 (.ref x :: st) [.ref x, l1] σ μ la Q := (qEx_eq (i := .aload_n 0) rfl).trans Iff.rfl
theorem x95_21 {a : Nat} : qEx d 95 21 (.ref a :: st) ls σ μ la Q ↔ (qOk σ a 6 = true ∧ qEx d 95 24 (qrf (σ.2 a 6) :: st) ls σ μ la Q) := (qEx_eq (i := .getfield 19) rfl).trans qExA_chk
theorem x95_24 {x : Int32} {l0 : Value} : qEx d 95 24 st [l0, .int x] σ μ la Q ↔ qEx d 95 25 (.int x :: st) [l0, .int x] σ μ la Q := (qEx_eq (i := .iload_n 1) rfl).trans Iff.rfl
theorem x95_25 {y0 : Int32} {a : Nat} : qEx (d + 1) 95 25 [.int y0, .ref a] ls σ μ la Q ↔ (qOk σ a 1 = true ∧ qEx d 17 0 [] [.ref a, .int y0, .retAddr 0, .retAddr 0, .retAddr 0, .retAddr 0, .retAddr 0] σ μ la fun r σ' μ' la' => qEx (d + 1) 95 28 (r.toList ++ []) ls σ' μ' la' Q) := (qEx_eq (i := .invokevirtual 169) rfl).trans qExA_chk
theorem x95_28 {x : Int32} : qEx d 95 28 [.int x] ls σ μ la Q ↔ Q (some (.int x)) σ μ la := (qEx_eq (i := .ireturn) rfl).trans Iff.rfl
theorem x96_0 {x : Nat} {l1 l2 : Value} : qEx d 96 0 st [.ref x, l1, l2] σ μ la Q ↔ qEx d 96 1 (.ref x :: st) [.ref x, l1, l2] σ μ la Q := (qEx_eq (i := .aload_n 0) rfl).trans Iff.rfl
theorem x96_1 {a : Nat} : qEx d 96 1 (.ref a :: st) ls σ μ la Q ↔ (qOk σ a 6 = true ∧ qEx d 96 4 (qrf (σ.2 a 1) :: st) ls σ μ la Q) := (qEx_eq (i := .getfield 27) rfl).trans qExA_chk
theorem x96_4 {x : Int32} {l0 l2 : Value} : qEx d 96 4 st [l0, .int x, l2] σ μ la Q ↔ qEx d 96 5 (.int x :: st) [l0, .int x, l2] σ μ la Q := (qEx_eq (i := .iload_n 1) rfl).trans Iff.rfl
theorem x96_5 {y0 : Int32} {a : Nat} : qEx (d + 1) 96 5 [.int y0, .ref a] ls σ μ la Q ↔ (qOk σ a 4 = true ∧ qEx d 61 0 [] [.ref a, .int y0] σ μ la fun r σ' μ' la' => qEx (d + 1) 96 8 (r.toList ++ []) ls σ' μ' la' Q) := (qEx_eq (i := .invokevirtual 106) rfl).trans qExA_chk
theorem x96_8 {x : Int32} : qEx d 96 8 (.int x :: st) ls σ μ la Q ↔ (if x = 0 then qEx d 96 20 st ls σ μ la Q else qEx d 96 11 st ls σ μ la Q) := (qEx_eq (i := .ifCond .eq 12) rfl).trans qExA_ite
theorem x96_11 {x : Int32} {l0 l1 : Value} : qEx d 96 11 st [l0, l1, .int x] σ μ la Q ↔ qEx d 96 12 (.int x :: st) [l0, l1, .int x] σ μ la Q := (qEx_eq (i := .iload_n 2) rfl).trans Iff.rfl
theorem x96_12 {x : Int32} : qEx d 96 12 (.int x :: st) ls σ μ la Q ↔ (if x < 0 then qEx d 96 20 st ls σ μ la Q else qEx d 96 15 st ls σ μ la Q) := (qEx_eq (i := .ifCond .lt 8) rfl).trans qExA_ite
theorem x96_15 {x : Int32} {l0 l1 : Value} : qEx d 96 15 st [l0, l1, .int x] σ μ la Q ↔ qEx d 96 16 (.int x :: st) [l0, l1, .int x] σ μ la Q := (qEx_eq (i := .iload_n 2) rfl).trans Iff.rfl
theorem x96_16  : qEx d 96 16 st ls σ μ la Q ↔ qEx d 96 17 (.int 2 :: st) ls σ μ la Q := (qEx_eq (i := .iconst 2) rfl).trans Iff.rfl
theorem x96_17 {x y : Int32} : qEx d 96 17 (.int y :: .int x :: st) ls σ μ la Q ↔ (if x ≤ y then qEx d 96 22 st ls σ μ la Q else qEx d 96 20 st ls σ μ la Q) := (qEx_eq (i := .if_icmp .le 5) rfl).trans qExA_ite
theorem x96_20  : qEx d 96 20 st ls σ μ la Q ↔ qEx d 96 21 (.int (-1) :: st) ls σ μ la Q := (qEx_eq (i := .iconst (-1)) rfl).trans Iff.rfl
theorem x96_21 {x : Int32} : qEx d 96 21 [.int x] ls σ μ la Q ↔ Q (some (.int x)) σ μ la := (qEx_eq (i := .ireturn) rfl).trans Iff.rfl
theorem x96_22 {x : Nat} {l1 l2 : Value} : qEx d 96 22 st [.ref x, l1, l2] σ μ la Q ↔ qEx d 96 23 (.ref x :: st) [.ref x, l1, l2] σ μ la Q := (qEx_eq (i := .aload_n 0) rfl).trans Iff.rfl
theorem x96_23 {a : Nat} : qEx d 96 23 (.ref a :: st) ls σ μ la Q ↔ (qOk σ a 6 = true ∧ qEx d 96 26 (qrf (σ.2 a 6) :: st) ls σ μ la Q) := (qEx_eq (i := .getfield 19) rfl).trans qExA_chk
theorem x96_26 {x : Int32} {l0 l2 : Value} : qEx d 96 26 st [l0, .int x, l2] σ μ la Q ↔ qEx d 96 27 (.int x :: st) [l0, .int x, l2] σ μ la Q := (qEx_eq (i := .iload_n 1) rfl).trans Iff.rfl
theorem x96_27 {x : Int32} {l0 l1 : Value} : qEx d 96 27 st [l0, l1, .int x] σ μ la Q ↔ qEx d 96 28 (.int x :: st) [l0, l1, .int x] σ μ la Q := (qEx_eq (i := .iload_n 2) rfl).trans Iff.rfl
theorem x96_28 {y0 : Int32} {y1 : Int32} {a : Nat} : qEx (d + 1) 96 28 [.int y1, .int y0, .ref a] ls σ μ la Q ↔ (qOk σ a 1 = true ∧ qEx d 22 0 [] [.ref a, .int y0, .int y1, .retAddr 0, .retAddr 0, .retAddr 0, .retAddr 0, .retAddr 0, .retAddr 0] σ μ la fun r σ' μ' la' => qEx (d + 1) 96 31 (r.toList ++ []) ls σ' μ' la' Q) := (qEx_eq (i := .invokevirtual 172) rfl).trans qExA_chk
theorem x96_31 {x : Int32} : qEx d 96 31 [.int x] ls σ μ la Q ↔ Q (some (.int x)) σ μ la := (qEx_eq (i := .ireturn) rfl).trans Iff.rfl
theorem x97_0 {x : Nat} {l1 l2 l3 : Value} : qEx d 97 0 st [.ref x, l1, l2, l3] σ μ la Q ↔ qEx d 97 1 (.ref x :: st) [.ref x, l1, l2, l3] σ μ la Q := (qEx_eq (i := .aload_n 0) rfl).trans Iff.rfl
theorem x97_1 {a : Nat} : qEx d 97 1 (.ref a :: st) ls σ μ la Q ↔ (qOk σ a 6 = true ∧ qEx d 97 4 (qrf (σ.2 a 1) :: st) ls σ μ la Q) := (qEx_eq (i := .getfield 27) rfl).trans qExA_chk
theorem x97_4 {x : Int32} {l0 l2 l3 : Value} : qEx d 97 4 st [l0, .int x, l2, l3] σ μ la Q ↔ qEx d 97 5 (.int x :: st) [l0, .int x, l2, l3] σ μ la Q := (qEx_eq (i := .iload_n 1) rfl).trans Iff.rfl
theorem x97_5 {y0 : Int32} {a : Nat} : qEx (d + 1) 97 5 [.int y0, .ref a] ls σ μ la Q ↔ (qOk σ a 4 = true ∧ qEx d 60 0 [] [.ref a, .int y0] σ μ la fun r σ' μ' la' => qEx (d + 1) 97 8 (r.toList ++ []) ls σ' μ' la' Q) := (qEx_eq (i := .invokevirtual 84) rfl).trans qExA_chk
theorem x97_8 {x : Int32} : qEx d 97 8 (.int x :: st) ls σ μ la Q ↔ (if x = 0 then qEx d 97 36 st ls σ μ la Q else qEx d 97 11 st ls σ μ la Q) := (qEx_eq (i := .ifCond .eq 28) rfl).trans qExA_ite
theorem x97_11 {x : Nat} {l1 l2 l3 : Value} : qEx d 97 11 st [.ref x, l1, l2, l3] σ μ la Q ↔ qEx d 97 12 (.ref x :: st) [.ref x, l1, l2, l3] σ μ la Q := (qEx_eq (i := .aload_n 0) rfl).trans Iff.rfl
theorem x97_12 {a : Nat} : qEx d 97 12 (.ref a :: st) ls σ μ la Q ↔ (qOk σ a 6 = true ∧ qEx d 97 15 (qrf (σ.2 a 1) :: st) ls σ μ la Q) := (qEx_eq (i := .getfield 27) rfl).trans qExA_chk
theorem x97_15 {x : Int32} {l0 l1 l3 : Value} : qEx d 97 15 st [l0, l1, .int x, l3] σ μ la Q ↔ qEx d 97 16 (.int x :: st) [l0, l1, .int x, l3] σ μ la Q := (qEx_eq (i := .iload_n 2) rfl).trans Iff.rfl
theorem x97_16 {y0 : Int32} {a : Nat} : qEx (d + 1) 97 16 [.int y0, .ref a] ls σ μ la Q ↔ (qOk σ a 4 = true ∧ qEx d 60 0 [] [.ref a, .int y0] σ μ la fun r σ' μ' la' => qEx (d + 1) 97 19 (r.toList ++ []) ls σ' μ' la' Q) := (qEx_eq (i := .invokevirtual 84) rfl).trans qExA_chk
theorem x97_19 {x : Int32} : qEx d 97 19 (.int x :: st) ls σ μ la Q ↔ (if x = 0 then qEx d 97 36 st ls σ μ la Q else qEx d 97 22 st ls σ μ la Q) := (qEx_eq (i := .ifCond .eq 17) rfl).trans qExA_ite
theorem x97_22 {x : Int32} {l0 l2 l3 : Value} : qEx d 97 22 st [l0, .int x, l2, l3] σ μ la Q ↔ qEx d 97 23 (.int x :: st) [l0, .int x, l2, l3] σ μ la Q := (qEx_eq (i := .iload_n 1) rfl).trans Iff.rfl
theorem x97_23 {x : Int32} {l0 l1 l3 : Value} : qEx d 97 23 st [l0, l1, .int x, l3] σ μ la Q ↔ qEx d 97 24 (.int x :: st) [l0, l1, .int x, l3] σ μ la Q := (qEx_eq (i := .iload_n 2) rfl).trans Iff.rfl
theorem x97_24 {x y : Int32} : qEx d 97 24 (.int y :: .int x :: st) ls σ μ la Q ↔ (if x = y then qEx d 97 36 st ls σ μ la Q else qEx d 97 27 st ls σ μ la Q) := (qEx_eq (i := .if_icmp .eq 12) rfl).trans qExA_ite
theorem x97_27 {x : Int32} {l0 l1 l2 : Value} : qEx d 97 27 st [l0, l1, l2, .int x] σ μ la Q ↔ qEx d 97 28 (.int x :: st) [l0, l1, l2, .int x] σ μ la Q := (qEx_eq (i := .iload_n 3) rfl).trans Iff.rfl
theorem x97_28 {x : Int32} : qEx d 97 28 (.int x :: st) ls σ μ la Q ↔ (if x < 0 then qEx d 97 36 st ls σ μ la Q else qEx d 97 31 st ls σ μ la Q) := (qEx_eq (i := .ifCond .lt 8) rfl).trans qExA_ite
theorem x97_31 {x : Int32} {l0 l1 l2 : Value} : qEx d 97 31 st [l0, l1, l2, .int x] σ μ la Q ↔ qEx d 97 32 (.int x :: st) [l0, l1, l2, .int x] σ μ la Q := (qEx_eq (i := .iload_n 3) rfl).trans Iff.rfl
theorem x97_32  : qEx d 97 32 st ls σ μ la Q ↔ qEx d 97 33 (.int 2 :: st) ls σ μ la Q := (qEx_eq (i := .iconst 2) rfl).trans Iff.rfl
theorem x97_33 {x y : Int32} : qEx d 97 33 (.int y :: .int x :: st) ls σ μ la Q ↔ (if x ≤ y then qEx d 97 38 st ls σ μ la Q else qEx d 97 36 st ls σ μ la Q) := (qEx_eq (i := .if_icmp .le 5) rfl).trans qExA_ite
theorem x97_36  : qEx d 97 36 st ls σ μ la Q ↔ qEx d 97 37 (.int (-1) :: st) ls σ μ la Q := (qEx_eq (i := .iconst (-1)) rfl).trans Iff.rfl
theorem x97_37 {x : Int32} : qEx d 97 37 [.int x] ls σ μ la Q ↔ Q (some (.int x)) σ μ la := (qEx_eq (i := .ireturn) rfl).trans Iff.rfl
theorem x97_38 {x : Nat} {l1 l2 l3 : Value} : qEx d 97 38 st [.ref x, l1, l2, l3] σ μ la Q ↔ qEx d 97 39 (.ref x :: st) [.ref x, l1, l2, l3] σ μ la Q := (qEx_eq (i := .aload_n 0) rfl).trans Iff.rfl
theorem x97_39 {a : Nat} : qEx d 97 39 (.ref a :: st) ls σ μ la Q ↔ (qOk σ a 6 = true ∧ qEx d 97 42 (qrf (σ.2 a 6) :: st) ls σ μ la Q) := (qEx_eq (i := .getfield 19) rfl).trans qExA_chk
theorem x97_42 {x : Int32} {l0 l2 l3 : Value} : qEx d 97 42 st [l0, .int x, l2, l3] σ μ la Q ↔ qEx d 97 43 (.int x :: st) [l0, .int x, l2, l3] σ μ la Q := (qEx_eq (i := .iload_n 1) rfl).trans Iff.rfl
theorem x97_43 {x : Int32} {l0 l1 l3 : Value} : qEx d 97 43 st [l0, l1, .int x, l3] σ μ la Q ↔ qEx d 97 44 (.int x :: st) [l0, l1, .int x, l3] σ μ la Q := (qEx_eq (i := .iload_n 2) rfl).trans Iff.rfl
theorem x97_44 {x : Int32} {l0 l1 l2 : Value} : qEx d 97 44 st [l0, l1, l2, .int x] σ μ la Q ↔ qEx d 97 45 (.int x :: st) [l0, l1, l2, .int x] σ μ la Q := (qEx_eq (i := .iload_n 3) rfl).trans Iff.rfl
theorem x97_45 {y0 : Int32} {y1 : Int32} {y2 : Int32} {a : Nat} : qEx (d + 1) 97 45 [.int y2, .int y1, .int y0, .ref a] ls σ μ la Q ↔ (qOk σ a 1 = true ∧ qEx d 28 0 [] [.ref a, .int y0, .int y1, .int y2] σ μ la fun r σ' μ' la' => qEx (d + 1) 97 48 (r.toList ++ []) ls σ' μ' la' Q) := (qEx_eq (i := .invokevirtual 175) rfl).trans qExA_chk
theorem x97_48 {x : Int32} : qEx d 97 48 [.int x] ls σ μ la Q ↔ Q (some (.int x)) σ μ la := (qEx_eq (i := .ireturn) rfl).trans Iff.rfl
theorem x98_0 {x : Int32} {l0 l2 : Value} : qEx d 98 0 st [l0, .int x, l2] σ μ la Q ↔ qEx d 98 1 (.int x :: st) [l0, .int x, l2] σ μ la Q := (qEx_eq (i := .iload_n 1) rfl).trans Iff.rfl
theorem x98_1  : qEx d 98 1 st ls σ μ la Q ↔ qEx d 98 2 (.int 1 :: st) ls σ μ la Q := (qEx_eq (i := .iconst 1) rfl).trans Iff.rfl
theorem x98_2 {x y : Int32} : qEx d 98 2 (.int y :: .int x :: st) ls σ μ la Q ↔ (if x < y then qEx d 98 19 st ls σ μ la Q else qEx d 98 5 st ls σ μ la Q) := (qEx_eq (i := .if_icmp .lt 17) rfl).trans qExA_ite
theorem x98_5 {x : Int32} {l0 l2 : Value} : qEx d 98 5 st [l0, .int x, l2] σ μ la Q ↔ qEx d 98 6 (.int x :: st) [l0, .int x, l2] σ μ la Q := (qEx_eq (i := .iload_n 1) rfl).trans Iff.rfl
theorem x98_6  : qEx d 98 6 st ls σ μ la Q ↔ qEx d 98 7 (.int 3 :: st) ls σ μ la Q := (qEx_eq (i := .iconst 3) rfl).trans Iff.rfl
theorem x98_7 {x y : Int32} : qEx d 98 7 (.int y :: .int x :: st) ls σ μ la Q ↔ (if y < x then qEx d 98 19 st ls σ μ la Q else qEx d 98 10 st ls σ μ la Q) := (qEx_eq (i := .if_icmp .gt 12) rfl).trans qExA_ite
theorem x98_10 {x : Int32} {l0 l1 : Value} : qEx d 98 10 st [l0, l1, .int x] σ μ la Q ↔ qEx d 98 11 (.int x :: st) [l0, l1, .int x] σ μ la Q := (qEx_eq (i := .iload_n 2) rfl).trans Iff.rfl
theorem x98_11 {x : Int32} : qEx d 98 11 (.int x :: st) ls σ μ la Q ↔ (if x < 0 then qEx d 98 19 st ls σ μ la Q else qEx d 98 14 st ls σ μ la Q) := (qEx_eq (i := .ifCond .lt 8) rfl).trans qExA_ite
theorem x98_14 {x : Int32} {l0 l1 : Value} : qEx d 98 14 st [l0, l1, .int x] σ μ la Q ↔ qEx d 98 15 (.int x :: st) [l0, l1, .int x] σ μ la Q := (qEx_eq (i := .iload_n 2) rfl).trans Iff.rfl
theorem x98_15  : qEx d 98 15 st ls σ μ la Q ↔ qEx d 98 16 (.int 1 :: st) ls σ μ la Q := (qEx_eq (i := .iconst 1) rfl).trans Iff.rfl
theorem x98_16 {x y : Int32} : qEx d 98 16 (.int y :: .int x :: st) ls σ μ la Q ↔ (if x ≤ y then qEx d 98 21 st ls σ μ la Q else qEx d 98 19 st ls σ μ la Q) := (qEx_eq (i := .if_icmp .le 5) rfl).trans qExA_ite
theorem x98_19  : qEx d 98 19 st ls σ μ la Q ↔ qEx d 98 20 (.int (-1) :: st) ls σ μ la Q := (qEx_eq (i := .iconst (-1)) rfl).trans Iff.rfl
theorem x98_20 {x : Int32} : qEx d 98 20 [.int x] ls σ μ la Q ↔ Q (some (.int x)) σ μ la := (qEx_eq (i := .ireturn) rfl).trans Iff.rfl
theorem x98_21 {x : Nat} {l1 l2 : Value} : qEx d 98 21 st [.ref x, l1, l2] σ μ la Q ↔ qEx d 98 22 (.ref x :: st) [.ref x, l1, l2] σ μ la Q := (qEx_eq (i := .aload_n 0) rfl).trans Iff.rfl
theorem x98_22 {a : Nat} : qEx d 98 22 (.ref a :: st) ls σ μ la Q ↔ (qOk σ a 6 = true ∧ qEx d 98 25 (qrf (σ.2 a 1) :: st) ls σ μ la Q) := (qEx_eq (i := .getfield 27) rfl).trans qExA_chk
theorem x98_25 {a : Nat} : qEx d 98 25 (.ref a :: st) ls σ μ la Q ↔ (qOk σ a 4 = true ∧ qEx d 98 28 (.int (μ a 2) :: st) ls σ μ la Q) := (qEx_eq (i := .getfield 81) rfl).trans qExA_chk
theorem x98_28 {x : Int32} : qEx d 98 28 (.int x :: st) ls σ μ la Q ↔ (if ¬ x = 0 then qEx d 98 34 st ls σ μ la Q else qEx d 98 31 st ls σ μ la Q) := (qEx_eq (i := .ifCond .ne 6) rfl).trans qExA_ite
theorem x98_31  : qEx d 98 31 st ls σ μ la Q ↔ qEx d 98 33 (.int (-2) :: st) ls σ μ la Q := (qEx_eq (i := .bipush (-2)) rfl).trans Iff.rfl
theorem x98_33 {x : Int32} : qEx d 98 33 [.int x] ls σ μ la Q ↔ Q (some (.int x)) σ μ la := (qEx_eq (i := .ireturn) rfl).trans Iff.rfl
theorem x98_34 {x : Nat} {l1 l2 : Value} : qEx d 98 34 st [.ref x, l1, l2] σ μ la Q ↔ qEx d 98 35 (.ref x :: st) [.ref x, l1, l2] σ μ la Q := (qEx_eq (i := .aload_n 0) rfl).trans Iff.rfl
theorem x98_35 {a : Nat} : qEx d 98 35 (.ref a :: st) ls σ μ la Q ↔ (qOk σ a 6 = true ∧ qEx d 98 38 (qrf (σ.2 a 6) :: st) ls σ μ la Q) := (qEx_eq (i := .getfield 19) rfl).trans qExA_chk
theorem x98_38 {x : Int32} {l0 l2 : Value} : qEx d 98 38 st [l0, .int x, l2] σ μ la Q ↔ qEx d 98 39 (.int x :: st) [l0, .int x, l2] σ μ la Q := (qEx_eq (i := .iload_n 1) rfl).trans Iff.rfl
theorem x98_39 {x : Int32} {l0 l1 : Value} : qEx d 98 39 st [l0, l1, .int x] σ μ la Q ↔ qEx d 98 40 (.int x :: st) [l0, l1, .int x] σ μ la Q := (qEx_eq (i := .iload_n 2) rfl).trans Iff.rfl
theorem x98_40 {y0 : Int32} {y1 : Int32} {a : Nat} : qEx (d + 1) 98 40 [.int y1, .int y0, .ref a] ls σ μ la Q ↔ (qOk σ a 1 = true ∧ qEx d 31 0 [] [.ref a, .int y0, .int y1, .retAddr 0, .retAddr 0] σ μ la fun r σ' μ' la' => qEx (d + 1) 98 43 (r.toList ++ []) ls σ' μ' la' Q) := (qEx_eq (i := .invokevirtual 178) rfl).trans qExA_chk
theorem x98_43 {x : Int32} : qEx d 98 43 [.int x] ls σ μ la Q ↔ Q (some (.int x)) σ μ la := (qEx_eq (i := .ireturn) rfl).trans Iff.rfl
theorem x99_0 {x : Nat} {l1 l2 l3 : Value} : qEx d 99 0 st [.ref x, l1, l2, l3] σ μ la Q ↔ qEx d 99 1 (.ref x :: st) [.ref x, l1, l2, l3] σ μ la Q := (qEx_eq (i := .aload_n 0) rfl).trans Iff.rfl
theorem x99_1 {a : Nat} : qEx d 99 1 (.ref a :: st) ls σ μ la Q ↔ (qOk σ a 6 = true ∧ qEx d 99 4 (qrf (σ.2 a 1) :: st) ls σ μ la Q) := (qEx_eq (i := .getfield 27) rfl).trans qExA_chk
theorem x99_4 {x : Int32} {l0 l2 l3 : Value} : qEx d 99 4 st [l0, .int x, l2, l3] σ μ la Q ↔ qEx d 99 5 (.int x :: st) [l0, .int x, l2, l3] σ μ la Q := (qEx_eq (i := .iload_n 1) rfl).trans Iff.rfl
theorem x99_5 {y0 : Int32} {a : Nat} : qEx (d + 1) 99 5 [.int y0, .ref a] ls σ μ la Q ↔ (qOk σ a 4 = true ∧ qEx d 61 0 [] [.ref a, .int y0] σ μ la fun r σ' μ' la' => qEx (d + 1) 99 8 (r.toList ++ []) ls σ' μ' la' Q) := (qEx_eq (i := .invokevirtual 106) rfl).trans qExA_chk
theorem x99_8 {x : Int32} : qEx d 99 8 (.int x :: st) ls σ μ la Q ↔ (if x = 0 then qEx d 99 30 st ls σ μ la Q else qEx d 99 11 st ls σ μ la Q) := (qEx_eq (i := .ifCond .eq 22) rfl).trans qExA_ite
theorem x99_11 {x : Int32} {l0 l1 l3 : Value} : qEx d 99 11 st [l0, l1, .int x, l3] σ μ la Q ↔ qEx d 99 12 (.int x :: st) [l0, l1, .int x, l3] σ μ la Q := (qEx_eq (i := .iload_n 2) rfl).trans Iff.rfl
theorem x99_12 {x : Int32} : qEx d 99 12 (.int x :: st) ls σ μ la Q ↔ (if x < 0 then qEx d 99 30 st ls σ μ la Q else qEx d 99 15 st ls σ μ la Q) := (qEx_eq (i := .ifCond .lt 18) rfl).trans qExA_ite
theorem x99_15 {x : Int32} {l0 l1 l3 : Value} : qEx d 99 15 st [l0, l1, .int x, l3] σ μ la Q ↔ qEx d 99 16 (.int x :: st) [l0, l1, .int x, l3] σ μ la Q := (qEx_eq (i := .iload_n 2) rfl).trans Iff.rfl
theorem x99_16  : qEx d 99 16 st ls σ μ la Q ↔ qEx d 99 18 (.int 10 :: st) ls σ μ la Q := (qEx_eq (i := .bipush 10) rfl).trans Iff.rfl
theorem x99_18 {x y : Int32} : qEx d 99 18 (.int y :: .int x :: st) ls σ μ la Q ↔ (if y < x then qEx d 99 30 st ls σ μ la Q else qEx d 99 21 st ls σ μ la Q) := (qEx_eq (i := .if_icmp .gt 12) rfl).trans qExA_ite
theorem x99_21 {x : Int32} {l0 l1 l2 : Value} : qEx d 99 21 st [l0, l1, l2, .int x] σ μ la Q ↔ qEx d 99 22 (.int x :: st) [l0, l1, l2, .int x] σ μ la Q := (qEx_eq (i := .iload_n 3) rfl).trans Iff.rfl
theorem x99_22 {x : Int32} : qEx d 99 22 (.int x :: st) ls σ μ la Q ↔ (if x < 0 then qEx d 99 30 st ls σ μ la Q else qEx d 99 25 st ls σ μ la Q) := (qEx_eq (i := .ifCond .lt 8) rfl).trans qExA_ite
theorem x99_25 {x : Int32} {l0 l1 l2 : Value} : qEx d 99 25 st [l0, l1, l2, .int x] σ μ la Q ↔ qEx d 99 26 (.int x :: st) [l0, l1, l2, .int x] σ μ la Q := (qEx_eq (i := .iload_n 3) rfl).trans Iff.rfl
theorem x99_26  : qEx d 99 26 st ls σ μ la Q ↔ qEx d 99 27 (.int 1 :: st) ls σ μ la Q := (qEx_eq (i := .iconst 1) rfl).trans Iff.rfl
theorem x99_27 {x y : Int32} : qEx d 99 27 (.int y :: .int x :: st) ls σ μ la Q ↔ (if x ≤ y then qEx d 99 32 st ls σ μ la Q else qEx d 99 30 st ls σ μ la Q) := (qEx_eq (i := .if_icmp .le 5) rfl).trans qExA_ite
theorem x99_30  : qEx d 99 30 st ls σ μ la Q ↔ qEx d 99 31 (.int (-1) :: st) ls σ μ la Q := (qEx_eq (i := .iconst (-1)) rfl).trans Iff.rfl
theorem x99_31 {x : Int32} : qEx d 99 31 [.int x] ls σ μ la Q ↔ Q (some (.int x)) σ μ la := (qEx_eq (i := .ireturn) rfl).trans Iff.rfl
theorem x99_32 {x : Nat} {l1 l2 l3 : Value} : qEx d 99 32 st [.ref x, l1, l2, l3] σ μ la Q ↔ qEx d 99 33 (.ref x :: st) [.ref x, l1, l2, l3] σ μ la Q := (qEx_eq (i := .aload_n 0) rfl).trans Iff.rfl
theorem x99_33 {a : Nat} : qEx d 99 33 (.ref a :: st) ls σ μ la Q ↔ (qOk σ a 6 = true ∧ qEx d 99 36 (qrf (σ.2 a 6) :: st) ls σ μ la Q) := (qEx_eq (i := .getfield 19) rfl).trans qExA_chk
theorem x99_36 {x : Int32} {l0 l2 l3 : Value} : qEx d 99 36 st [l0, .int x, l2, l3] σ μ la Q ↔ qEx d 99 37 (.int x :: st) [l0, .int x, l2, l3] σ μ la Q := (qEx_eq (i := .iload_n 1) rfl).trans Iff.rfl
theorem x99_37 {x : Int32} {l0 l1 l3 : Value} : qEx d 99 37 st [l0, l1, .int x, l3] σ μ la Q ↔ qEx d 99 38 (.int x :: st) [l0, l1, .int x, l3] σ μ la Q := (qEx_eq (i := .iload_n 2) rfl).trans Iff.rfl
theorem x99_38 {x : Int32} {l0 l1 l2 : Value} : qEx d 99 38 st [l0, l1, l2, .int x] σ μ la Q ↔ qEx d 99 39 (.int x :: st) [l0, l1, l2, .int x] σ μ la Q := (qEx_eq (i := .iload_n 3) rfl).trans Iff.rfl
theorem x99_39 {y0 : Int32} {y1 : Int32} {y2 : Int32} {a : Nat} : qEx (d + 1) 99 39 [.int y2, .int y1, .int y0, .ref a] ls σ μ la Q ↔ (qOk σ a 1 = true ∧ qEx d 32 0 [] [.ref a, .int y0, .int y1, .int y2, .retAddr 0, .retAddr 0, .retAddr 0, .retAddr 0] σ μ la fun r σ' μ' la' => qEx (d + 1) 99 42 (r.toList ++ []) ls σ' μ' la' Q) := (qEx_eq (i := .invokevirtual 181) rfl).trans qExA_chk
theorem x99_42 {x : Int32} : qEx d 99 42 [.int x] ls σ μ la Q ↔ Q (some (.int x)) σ μ la := (qEx_eq (i := .ireturn) rfl).trans Iff.rfl
theorem x100_0 {x : Int32} {l0 l2 l3 : Value} : qEx d 100 0 st [l0, .int x, l2, l3] σ μ la Q ↔ qEx d 100 1 (.int x :: st) [l0, .int x, l2, l3] σ μ la Q := (qEx_eq (i := .iload_n 1) rfl).trans Iff.rfl
theorem x100_1 {x : Int32} : qEx d 100 1 (.int x :: st) ls σ μ la Q ↔ (if x < 0 then qEx d 100 30 st ls σ μ la Q else qEx d 100 4 st ls σ μ la Q) := (qEx_eq (i := .ifCond .lt 29) rfl).trans qExA_ite
theorem x100_4 {x : Int32} {l0 l2 l3 : Value} : qEx d 100 4 st [l0, .int x, l2, l3] σ μ la Q ↔ qEx d 100 5 (.int x :: st) [l0, .int x, l2, l3] σ μ la Q := (qEx_eq (i := .iload_n 1) rfl).trans Iff.rfl
theorem x100_5  : qEx d 100 5 st ls σ μ la Q ↔ qEx d 100 7 (.int 40 :: st) ls σ μ la Q := (qEx_eq (i := .bipush 40) rfl).trans Iff.rfl
theorem x100_7 {x y : Int32} : qEx d 100 7 (.int y :: .int x :: st) ls σ μ la Q ↔ (if y < x then qEx d 100 30 st ls σ μ la Q else qEx d 100 10 st ls σ μ la Q) := (qEx_eq (i := .if_icmp .gt 23) rfl).trans qExA_ite
theorem x100_10 {x : Int32} {l0 l1 l3 : Value} : qEx d 100 10 st [l0, l1, .int x, l3] σ μ la Q ↔ qEx d 100 11 (.int x :: st) [l0, l1, .int x, l3] σ μ la Q := (qEx_eq (i := .iload_n 2) rfl).trans Iff.rfl
theorem x100_11  : qEx d 100 11 st ls σ μ la Q ↔ qEx d 100 12 (.int 1 :: st) ls σ μ la Q := (qEx_eq (i := .iconst 1) rfl).trans Iff.rfl
theorem x100_12 {x y : Int32} : qEx d 100 12 (.int y :: .int x :: st) ls σ μ la Q ↔ (if x < y then qEx d 100 30 st ls σ μ la Q else qEx d 100 15 st ls σ μ la Q) := (qEx_eq (i := .if_icmp .lt 18) rfl).trans qExA_ite
theorem x100_15 {x : Int32} {l0 l1 l3 : Value} : qEx d 100 15 st [l0, l1, .int x, l3] σ μ la Q ↔ qEx d 100 16 (.int x :: st) [l0, l1, .int x, l3] σ μ la Q := (qEx_eq (i := .iload_n 2) rfl).trans Iff.rfl
theorem x100_16  : qEx d 100 16 st ls σ μ la Q ↔ qEx d 100 18 (.int 999999 :: st) ls σ μ la Q := (qEx_eq (i := .ldc 184) rfl).trans Iff.rfl
theorem x100_18 {x y : Int32} : qEx d 100 18 (.int y :: .int x :: st) ls σ μ la Q ↔ (if y < x then qEx d 100 30 st ls σ μ la Q else qEx d 100 21 st ls σ μ la Q) := (qEx_eq (i := .if_icmp .gt 12) rfl).trans qExA_ite
theorem x100_21 {x : Int32} {l0 l1 l2 : Value} : qEx d 100 21 st [l0, l1, l2, .int x] σ μ la Q ↔ qEx d 100 22 (.int x :: st) [l0, l1, l2, .int x] σ μ la Q := (qEx_eq (i := .iload_n 3) rfl).trans Iff.rfl
theorem x100_22 {x : Int32} : qEx d 100 22 (.int x :: st) ls σ μ la Q ↔ (if x < 0 then qEx d 100 30 st ls σ μ la Q else qEx d 100 25 st ls σ μ la Q) := (qEx_eq (i := .ifCond .lt 8) rfl).trans qExA_ite
theorem x100_25 {x : Int32} {l0 l1 l2 : Value} : qEx d 100 25 st [l0, l1, l2, .int x] σ μ la Q ↔ qEx d 100 26 (.int x :: st) [l0, l1, l2, .int x] σ μ la Q := (qEx_eq (i := .iload_n 3) rfl).trans Iff.rfl
theorem x100_26  : qEx d 100 26 st ls σ μ la Q ↔ qEx d 100 27 (.int 1 :: st) ls σ μ la Q := (qEx_eq (i := .iconst 1) rfl).trans Iff.rfl
theorem x100_27 {x y : Int32} : qEx d 100 27 (.int y :: .int x :: st) ls σ μ la Q ↔ (if x ≤ y then qEx d 100 32 st ls σ μ la Q else qEx d 100 30 st ls σ μ la Q) := (qEx_eq (i := .if_icmp .le 5) rfl).trans qExA_ite
theorem x100_30  : qEx d 100 30 st ls σ μ la Q ↔ qEx d 100 31 (.int (-1) :: st) ls σ μ la Q := (qEx_eq (i := .iconst (-1)) rfl).trans Iff.rfl
theorem x100_31 {x : Int32} : qEx d 100 31 [.int x] ls σ μ la Q ↔ Q (some (.int x)) σ μ la := (qEx_eq (i := .ireturn) rfl).trans Iff.rfl
theorem x100_32 {x : Nat} {l1 l2 l3 : Value} : qEx d 100 32 st [.ref x, l1, l2, l3] σ μ la Q ↔ qEx d 100 33 (.ref x :: st) [.ref x, l1, l2, l3] σ μ la Q := (qEx_eq (i := .aload_n 0) rfl).trans Iff.rfl
theorem x100_33 {a : Nat} : qEx d 100 33 (.ref a :: st) ls σ μ la Q ↔ (qOk σ a 6 = true ∧ qEx d 100 36 (qrf (σ.2 a 1) :: st) ls σ μ la Q) := (qEx_eq (i := .getfield 27) rfl).trans qExA_chk
theorem x100_36 {a : Nat} : qEx d 100 36 (.ref a :: st) ls σ μ la Q ↔ (qOk σ a 4 = true ∧ qEx d 100 39 (.int (μ a 2) :: st) ls σ μ la Q) := (qEx_eq (i := .getfield 81) rfl).trans qExA_chk
theorem x100_39 {x : Int32} : qEx d 100 39 (.int x :: st) ls σ μ la Q ↔ (if ¬ x = 0 then qEx d 100 45 st ls σ μ la Q else qEx d 100 42 st ls σ μ la Q) := (qEx_eq (i := .ifCond .ne 6) rfl).trans qExA_ite
theorem x100_42  : qEx d 100 42 st ls σ μ la Q ↔ qEx d 100 44 (.int (-2) :: st) ls σ μ la Q := (qEx_eq (i := .bipush (-2)) rfl).trans Iff.rfl
theorem x100_44 {x : Int32} : qEx d 100 44 [.int x] ls σ μ la Q ↔ Q (some (.int x)) σ μ la := (qEx_eq (i := .ireturn) rfl).trans Iff.rfl
theorem x100_45 {x : Nat} {l1 l2 l3 : Value} : qEx d 100 45 st [.ref x, l1, l2, l3] σ μ la Q ↔ qEx d 100 46 (.ref x :: st) [.ref x, l1, l2, l3] σ μ la Q := (qEx_eq (i := .aload_n 0) rfl).trans Iff.rfl
theorem x100_46 {a : Nat} : qEx d 100 46 (.ref a :: st) ls σ μ la Q ↔ (qOk σ a 6 = true ∧ qEx d 100 49 (qrf (σ.2 a 6) :: st) ls σ μ la Q) := (qEx_eq (i := .getfield 19) rfl).trans qExA_chk
theorem x100_49 {x : Int32} {l0 l2 l3 : Value} : qEx d 100 49 st [l0, .int x, l2, l3] σ μ la Q ↔ qEx d 100 50 (.int x :: st) [l0, .int x, l2, l3] σ μ la Q := (qEx_eq (i := .iload_n 1) rfl).trans Iff.rfl
theorem x100_50 {x : Int32} {l0 l1 l3 : Value} : qEx d 100 50 st [l0, l1, .int x, l3] σ μ la Q ↔ qEx d 100 51 (.int x :: st) [l0, l1, .int x, l3] σ μ la Q := (qEx_eq (i := .iload_n 2) rfl).trans Iff.rfl
theorem x100_51 {x : Int32} {l0 l1 l2 : Value} : qEx d 100 51 st [l0, l1, l2, .int x] σ μ la Q ↔ qEx d 100 52 (.int x :: st) [l0, l1, l2, .int x] σ μ la Q := (qEx_eq (i := .iload_n 3) rfl).trans Iff.rfl
theorem x100_52 {y0 : Int32} {y1 : Int32} {y2 : Int32} {a : Nat} : qEx (d + 1) 100 52 [.int y2, .int y1, .int y0, .ref a] ls σ μ la Q ↔ (qOk σ a 1 = true ∧ qEx d 35 0 [] [.ref a, .int y0, .int y1, .int y2, .retAddr 0, .retAddr 0, .retAddr 0, .retAddr 0, .retAddr 0] σ μ la fun r σ' μ' la' => qEx (d + 1) 100 55 (r.toList ++ []) ls σ' μ' la' Q) := (qEx_eq (i := .invokevirtual 185) rfl).trans qExA_chk
theorem x100_55 {x : Int32} : qEx d 100 55 [.int x] ls σ μ la Q ↔ Q (some (.int x)) σ μ la := (qEx_eq (i := .ireturn) rfl).trans Iff.rfl
theorem x101_0 {x : Int32} {l0 l2 l3 : Value} : qEx d 101 0 st [l0, .int x, l2, l3] σ μ la Q ↔ qEx d 101 1 (.int x :: st) [l0, .int x, l2, l3] σ μ la Q := (qEx_eq (i := .iload_n 1) rfl).trans Iff.rfl
theorem x101_1 {y0 : Int32} : qEx (d + 1) 101 1 [.int y0] ls σ μ la Q ↔ qEx d 111 0 [] [.int y0] σ μ la fun r σ' μ' la' => qEx (d + 1) 101 4 (r.toList ++ []) ls σ' μ' la' Q := (qEx_eq (i := .invokestatic 188) rfl).trans Iff.rfl
theorem x101_4 {x : Int32} : qEx d 101 4 (.int x :: st) ls σ μ la Q ↔ (if x = 0 then qEx d 101 20 st ls σ μ la Q else qEx d 101 7 st ls σ μ la Q) := (qEx_eq (i := .ifCond .eq 16) rfl).trans qExA_ite
theorem x101_7 {x : Int32} {l0 l1 l3 : Value} : qEx d 101 7 st [l0, l1, .int x, l3] σ μ la Q ↔ qEx d 101 8 (.int x :: st) [l0, l1, .int x, l3] σ μ la Q := (qEx_eq (i := .iload_n 2) rfl).trans Iff.rfl
theorem x101_8 {y0 : Int32} : qEx (d + 1) 101 8 [.int y0] ls σ μ la Q ↔ qEx d 112 0 [] [.int y0] σ μ la fun r σ' μ' la' => qEx (d + 1) 101 11 (r.toList ++ []) ls σ' μ' la' Q := (qEx_eq (i := .invokestatic 191) rfl).trans Iff.rfl
theorem x101_11 {x : Int32} : qEx d 101 11 (.int x :: st) ls σ μ la Q ↔ (if x = 0 then qEx d 101 20 st ls σ μ la Q else qEx d 101 14 st ls σ μ la Q) := (qEx_eq (i := .ifCond .eq 9) rfl).trans qExA_ite
theorem x101_14 {x : Int32} {l0 l1 l2 : Value} : qEx d 101 14 st [l0, l1, l2, .int x] σ μ la Q ↔ qEx d 101 15 (.int x :: st) [l0, l1, l2, .int x] σ μ la Q := (qEx_eq (i := .iload_n 3) rfl).trans Iff.rfl
theorem x101_15  : qEx d 101 15 st ls σ μ la Q ↔ qEx d 101 17 (.int 24 :: st) ls σ μ la Q := (qEx_eq (i := .bipush 24) rfl).trans Iff.rfl
theorem x101_17 {x y : Int32} : qEx d 101 17 (.int y :: .int x :: st) ls σ μ la Q ↔ (if x ≤ y then qEx d 101 22 st ls σ μ la Q else qEx d 101 20 st ls σ μ la Q) := (qEx_eq (i := .if_icmp .le 5) rfl).trans qExA_ite
theorem x101_20  : qEx d 101 20 st ls σ μ la Q ↔ qEx d 101 21 (.int (-1) :: st) ls σ μ la Q := (qEx_eq (i := .iconst (-1)) rfl).trans Iff.rfl
theorem x101_21 {x : Int32} : qEx d 101 21 [.int x] ls σ μ la Q ↔ Q (some (.int x)) σ μ la := (qEx_eq (i := .ireturn) rfl).trans Iff.rfl
theorem x101_22 {x : Int32} {l0 l1 l2 : Value} : qEx d 101 22 st [l0, l1, l2, .int x] σ μ la Q ↔ qEx d 101 23 (.int x :: st) [l0, l1, l2, .int x] σ μ la Q := (qEx_eq (i := .iload_n 3) rfl).trans Iff.rfl
theorem x101_23 {x : Int32} : qEx d 101 23 (.int x :: st) ls σ μ la Q ↔ (if 0 ≤ x then qEx d 101 29 st ls σ μ la Q else qEx d 101 26 st ls σ μ la Q) := (qEx_eq (i := .ifCond .ge 6) rfl).trans qExA_ite
theorem x101_26  : qEx d 101 26 st ls σ μ la Q ↔ qEx d 101 28 (.int (-14) :: st) ls σ μ la Q := (qEx_eq (i := .bipush (-14)) rfl).trans Iff.rfl
theorem x101_28 {x : Int32} : qEx d 101 28 [.int x] ls σ μ la Q ↔ Q (some (.int x)) σ μ la := (qEx_eq (i := .ireturn) rfl).trans Iff.rfl
theorem x101_29 {x : Nat} {l1 l2 l3 : Value} : qEx d 101 29 st [.ref x, l1, l2, l3] σ μ la Q ↔ qEx d 101 30 (.ref x :: st) [.ref x, l1, l2, l3] σ μ la Q := (qEx_eq (i := .aload_n 0) rfl).trans Iff.rfl
theorem x101_30 {a : Nat} : qEx d 101 30 (.ref a :: st) ls σ μ la Q ↔ (qOk σ a 6 = true ∧ qEx d 101 33 (qrf (σ.2 a 4) :: st) ls σ μ la Q) := (qEx_eq (i := .getfield 45) rfl).trans qExA_chk
theorem x101_33 {x : Int32} {l0 l2 l3 : Value} : qEx d 101 33 st [l0, .int x, l2, l3] σ μ la Q ↔ qEx d 101 34 (.int x :: st) [l0, .int x, l2, l3] σ μ la Q := (qEx_eq (i := .iload_n 1) rfl).trans Iff.rfl
theorem x101_34 {x : Int32} {a : Nat} : qEx d 101 34 (.int x :: .ref a :: st) ls σ μ la Q ↔ (qIn x (qAld σ a) = true ∧ qEx d 101 35 (qrf (σ.2 a x.toNatClampNeg) :: st) ls σ μ la Q) := (qEx_eq (i := .aaload) rfl).trans qExA_chk
theorem x101_35 {x : Int32} {l0 l1 l3 : Value} : qEx d 101 35 st [l0, l1, .int x, l3] σ μ la Q ↔ qEx d 101 36 (.int x :: st) [l0, l1, .int x, l3] σ μ la Q := (qEx_eq (i := .iload_n 2) rfl).trans Iff.rfl
theorem x101_36 {x : Int32} {l0 l1 l2 : Value} : qEx d 101 36 st [l0, l1, l2, .int x] σ μ la Q ↔ qEx d 101 37 (.int x :: st) [l0, l1, l2, .int x] σ μ la Q := (qEx_eq (i := .iload_n 3) rfl).trans Iff.rfl
theorem x101_37 {y0 : Int32} {y1 : Int32} {a : Nat} : qEx (d + 1) 101 37 [.int y1, .int y0, .ref a] ls σ μ la Q ↔ (qOk σ a 2 = true ∧ qEx d 39 0 [] [.ref a, .int y0, .int y1, .retAddr 0] σ μ la fun r σ' μ' la' => qEx (d + 1) 101 40 (r.toList ++ []) ls σ' μ' la' Q) := (qEx_eq (i := .invokevirtual 194) rfl).trans qExA_chk
theorem x101_40 {x : Int32} {l0 l1 l2 : Value} : qEx d 101 40 st [l0, l1, l2, .int x] σ μ la Q ↔ qEx d 101 41 (.int x :: st) [l0, l1, l2, .int x] σ μ la Q := (qEx_eq (i := .iload_n 3) rfl).trans Iff.rfl
theorem x101_41 {x : Int32} : qEx d 101 41 [.int x] ls σ μ la Q ↔ Q (some (.int x)) σ μ la := (qEx_eq (i := .ireturn) rfl).trans Iff.rfl
theorem x102_0 {x : Int32} {l0 l2 : Value} : qEx d 102 0 st [l0, .int x, l2] σ μ la Q ↔ qEx d 102 1 (.int x :: st) [l0, .int x, l2] σ μ la Q := (qEx_eq (i := .iload_n 1) rfl).trans Iff.rfl
theorem x102_1 {y0 : Int32} : qEx (d + 1) 102 1 [.int y0] ls σ μ la Q ↔ qEx d 111 0 [] [.int y0] σ μ la fun r σ' μ' la' => qEx (d + 1) 102 4 (r.toList ++ []) ls σ' μ' la' Q := (qEx_eq (i := .invokestatic 188) rfl).trans Iff.rfl
theorem x102_4 {x : Int32} : qEx d 102 4 (.int x :: st) ls σ μ la Q ↔ (if ¬ x = 0 then qEx d 102 9 st ls σ μ la Q else qEx d 102 7 st ls σ μ la Q) := (qEx_eq (i := .ifCond .ne 5) rfl).trans qExA_ite
theorem x102_7  : qEx d 102 7 st ls σ μ la Q ↔ qEx d 102 8 (.int (-1) :: st) ls σ μ la Q := (qEx_eq (i := .iconst (-1)) rfl).trans Iff.rfl
theorem x102_8 {x : Int32} : qEx d 102 8 [.int x] ls σ μ la Q ↔ Q (some (.int x)) σ μ la := (qEx_eq (i := .ireturn) rfl).trans Iff.rfl
theorem x102_9 {x : Nat} {l1 l2 : Value} : qEx d 102 9 st [.ref x, l1, l2] σ μ la Q ↔ qEx d 102 10 (.ref x :: st) [.ref x, l1, l2] σ μ la Q := (qEx_eq (i := .aload_n 0) rfl).trans Iff.rfl
theorem x102_10 {a : Nat} : qEx d 102 10 (.ref a :: st) ls σ μ la Q ↔ (qOk σ a 6 = true ∧ qEx d 102 13 (qrf (σ.2 a 4) :: st) ls σ μ la Q) := (qEx_eq (i := .getfield 45) rfl).trans qExA_chk
theorem x102_13 {x : Int32} {l0 l2 : Value} : qEx d 102 13 st [l0, .int x, l2] σ μ la Q ↔ qEx d 102 14 (.int x :: st) [l0, .int x, l2] σ μ la Q := (qEx_eq (i := .iload_n 1) rfl).trans Iff.rfl
theorem x102_14 {x : Int32} {a : Nat} : qEx d 102 14 (.int x :: .ref a :: st) ls σ μ la Q ↔ (qIn x (qAld σ a) = true ∧ qEx d 102 15 (qrf (σ.2 a x.toNatClampNeg) :: st) ls σ μ la Q) := (qEx_eq (i := .aaload) rfl).trans qExA_chk
theorem x102_15 {a : Nat} : qEx (d + 1) 102 15 [.ref a] ls σ μ la Q ↔ (qOk σ a 2 = true ∧ qEx d 38 0 [] [.ref a] σ μ la fun r σ' μ' la' => qEx (d + 1) 102 18 (r.toList ++ []) ls σ' μ' la' Q) := (qEx_eq (i := .invokevirtual 197) rfl).trans qExA_chk
theorem x102_18 {x : Int32} : qEx d 102 18 (.int x :: st) ls σ μ la Q ↔ (if x = 0 then qEx d 102 24 st ls σ μ la Q else qEx d 102 21 st ls σ μ la Q) := (qEx_eq (i := .ifCond .eq 6) rfl).trans qExA_ite
theorem x102_21  : qEx d 102 21 st ls σ μ la Q ↔ qEx d 102 23 (.int (-11) :: st) ls σ μ la Q := (qEx_eq (i := .bipush (-11)) rfl).trans Iff.rfl
theorem x102_23 {x : Int32} : qEx d 102 23 [.int x] ls σ μ la Q ↔ Q (some (.int x)) σ μ la := (qEx_eq (i := .ireturn) rfl).trans Iff.rfl
theorem x102_24 {x : Nat} {l1 l2 : Value} : qEx d 102 24 st [.ref x, l1, l2] σ μ la Q ↔ qEx d 102 25 (.ref x :: st) [.ref x, l1, l2] σ μ la Q := (qEx_eq (i := .aload_n 0) rfl).trans Iff.rfl
theorem x102_25 {a : Nat} : qEx d 102 25 (.ref a :: st) ls σ μ la Q ↔ (qOk σ a 6 = true ∧ qEx d 102 28 (qrf (σ.2 a 4) :: st) ls σ μ la Q) := (qEx_eq (i := .getfield 45) rfl).trans qExA_chk
theorem x102_28 {x : Int32} {l0 l2 : Value} : qEx d 102 28 st [l0, .int x, l2] σ μ la Q ↔ qEx d 102 29 (.int x :: st) [l0, .int x, l2] σ μ la Q := (qEx_eq (i := .iload_n 1) rfl).trans Iff.rfl
theorem x102_29 {x : Int32} {a : Nat} : qEx d 102 29 (.int x :: .ref a :: st) ls σ μ la Q ↔ (qIn x (qAld σ a) = true ∧ qEx d 102 30 (qrf (σ.2 a x.toNatClampNeg) :: st) ls σ μ la Q) := (qEx_eq (i := .aaload) rfl).trans qExA_chk
theorem x102_30 {a : Nat} : qEx d 102 30 (.ref a :: st) ls σ μ la Q ↔ (qOk σ a 2 = true ∧ qEx d 102 33 (.int (μ a 2) :: st) ls σ μ la Q) := (qEx_eq (i := .getfield 200) rfl).trans qExA_chk
theorem x102_33 {x : Int32} {l0 l1 l2 : Value} : qEx d 102 33 (.int x :: st) [l0, l1, l2] σ μ la Q ↔ qEx d 102 34 st [l0, l1, .int x] σ μ la Q := (qEx_eq (i := .istore_n 2) rfl).trans Iff.rfl
theorem x102_34 {x : Nat} {l1 l2 : Value} : qEx d 102 34 st [.ref x, l1, l2] σ μ la Q ↔ qEx d 102 35 (.ref x :: st) [.ref x, l1, l2] σ μ la Q := (qEx_eq (i := .aload_n 0) rfl).trans Iff.rfl
theorem x102_35 {a : Nat} : qEx d 102 35 (.ref a :: st) ls σ μ la Q ↔ (qOk σ a 6 = true ∧ qEx d 102 38 (qrf (σ.2 a 4) :: st) ls σ μ la Q) := (qEx_eq (i := .getfield 45) rfl).trans qExA_chk
theorem x102_38 {x : Int32} {l0 l2 : Value} : qEx d 102 38 st [l0, .int x, l2] σ μ la Q ↔ qEx d 102 39 (.int x :: st) [l0, .int x, l2] σ μ la Q := (qEx_eq (i := .iload_n 1) rfl).trans Iff.rfl
theorem x102_39 {x : Int32} {a : Nat} : qEx d 102 39 (.int x :: .ref a :: st) ls σ μ la Q ↔ (qIn x (qAld σ a) = true ∧ qEx d 102 40 (qrf (σ.2 a x.toNatClampNeg) :: st) ls σ μ la Q) := (qEx_eq (i := .aaload) rfl).trans qExA_chk
theorem x102_40 {a : Nat} : qEx (d + 1) 102 40 [.ref a] ls σ μ la Q ↔ (qOk σ a 2 = true ∧ qEx d 40 0 [] [.ref a] σ μ la fun r σ' μ' la' => qEx (d + 1) 102 43 (r.toList ++ []) ls σ' μ' la' Q) := (qEx_eq (i := .invokevirtual 201) rfl).trans qExA_chk
theorem x102_43 {x : Int32} {l0 l1 : Value} : qEx d 102 43 st [l0, l1, .int x] σ μ la Q ↔ qEx d 102 44 (.int x :: st) [l0, l1, .int x] σ μ la Q := (qEx_eq (i := .iload_n 2) rfl).trans Iff.rfl
theorem x102_44 {x : Int32} : qEx d 102 44 [.int x] ls σ μ la Q ↔ Q (some (.int x)) σ μ la := (qEx_eq (i := .ireturn) rfl).trans Iff.rfl
theorem x103_0 {x : Nat} {l1 l2 l3 l4 l5 l6 : Value} : qEx d 103 0 st [.ref x, l1, l2, l3, l4, l5, l6] σ μ la Q ↔ qEx d 103 1 (.ref x :: st) [.ref x, l1, l2, l3, l4, l5, l6] σ μ la Q := (qEx_eq (i := .aload_n 0) rfl).trans Iff.rfl
theorem x103_1 {x : Int32} {l0 l2 l3 l4 l5 l6 : Value} : qEx d 103 1 st [l0, .int x, l2, l3, l4, l5, l6] σ μ la Q ↔ qEx d 103 2 (.int x :: st) [l0, .int x, l2, l3, l4, l5, l6] σ μ la Q := (qEx_eq (i := .iload_n 1) rfl).trans Iff.rfl
theorem x103_2 {x : Int32} {l0 l1 l3 l4 l5 l6 : Value} : qEx d 103 2 st [l0, l1, .int x, l3, l4, l5, l6] σ μ la Q ↔ qEx d 103 3 (.int x :: st) [l0, l1, .int x, l3, l4, l5, l6] σ μ la Q := (qEx_eq (i := .iload_n 2) rfl).trans Iff.rfl
theorem x103_3 {x : Int32} {l0 l1 l2 l4 l5 l6 : Value} : qEx d 103 3 st [l0, l1, l2, .int x, l4, l5, l6] σ μ la Q ↔ qEx d 103 4 (.int x :: st) [l0, l1, l2, .int x, l4, l5, l6] σ μ la Q := (qEx_eq (i := .iload_n 3) rfl).trans Iff.rfl
theorem x103_4  : qEx d 103 4 st ls σ μ la Q ↔ qEx d 103 5 (.int 1 :: st) ls σ μ la Q := (qEx_eq (i := .iconst 1) rfl).trans Iff.rfl
theorem x103_5 {y0 : Int32} {y1 : Int32} {y2 : Int32} {y3 : Int32} {a : Nat} : qEx (d + 1) 103 5 [.int y3, .int y2, .int y1, .int y0, .ref a] ls σ μ la Q ↔ (qOk σ a 6 = true ∧ qEx d 115 0 [] [.ref a, .int y0, .int y1, .int y2, .int y3] σ μ la fun r σ' μ' la' => qEx (d + 1) 103 8 (r.toList ++ []) ls σ' μ' la' Q) := (qEx_eq (i := .invokevirtual 204) rfl).trans qExA_chk
theorem x103_8 {x : Int32} {l0 l1 l2 l3 l4 l5 l6 : Value} : qEx d 103 8 (.int x :: st) [l0, l1, l2, l3, l4, l5, l6] σ μ la Q ↔ qEx d 103 10 st [l0, l1, l2, l3, l4, l5, .int x] σ μ la Q := (qEx_eq (i := .istore 6) rfl).trans Iff.rfl
theorem x103_10 {x : Int32} {l0 l1 l2 l3 l4 l5 : Value} : qEx d 103 10 st [l0, l1, l2, l3, l4, l5, .int x] σ μ la Q ↔ qEx d 103 12 (.int x :: st) [l0, l1, l2, l3, l4, l5, .int x] σ μ la Q := (qEx_eq (i := .iload 6) rfl).trans Iff.rfl
theorem x103_12 {x : Int32} : qEx d 103 12 (.int x :: st) ls σ μ la Q ↔ (if ¬ x = 0 then qEx d 103 30 st ls σ μ la Q else qEx d 103 15 st ls σ μ la Q) := (qEx_eq (i := .ifCond .ne 18) rfl).trans qExA_ite
theorem x103_15 {x : Nat} {l1 l2 l3 l4 l5 l6 : Value} : qEx d 103 15 st [.ref x, l1, l2, l3, l4, l5, l6] σ μ la Q ↔ qEx d 103 16 (.ref x :: st) [.ref x, l1, l2, l3, l4, l5, l6] σ μ la Q := (qEx_eq (i := .aload_n 0) rfl).trans Iff.rfl
theorem x103_16 {a : Nat} : qEx d 103 16 (.ref a :: st) ls σ μ la Q ↔ (qOk σ a 6 = true ∧ qEx d 103 19 (qrf (σ.2 a 4) :: st) ls σ μ la Q) := (qEx_eq (i := .getfield 45) rfl).trans qExA_chk
theorem x103_19 {x : Int32} {l0 l2 l3 l4 l5 l6 : Value} : qEx d 103 19 st [l0, .int x, l2, l3, l4, l5, l6] σ μ la Q ↔ qEx d 103 20 (.int x :: st) [l0, .int x, l2, l3, l4, l5, l6] σ μ la Q := (qEx_eq (i := .iload_n 1) rfl).trans Iff.rfl
theorem x103_20 {x : Int32} {a : Nat} : qEx d 103 20 (.int x :: .ref a :: st) ls σ μ la Q ↔ (qIn x (qAld σ a) = true ∧ qEx d 103 21 (qrf (σ.2 a x.toNatClampNeg) :: st) ls σ μ la Q) := (qEx_eq (i := .aaload) rfl).trans qExA_chk
theorem x103_21 {x : Int32} {l0 l1 l2 l4 l5 l6 : Value} : qEx d 103 21 st [l0, l1, l2, .int x, l4, l5, l6] σ μ la Q ↔ qEx d 103 22 (.int x :: st) [l0, l1, l2, .int x, l4, l5, l6] σ μ la Q := (qEx_eq (i := .iload_n 3) rfl).trans Iff.rfl
theorem x103_22 {x : Int64} {l0 l1 l2 l3 l6 : Value} : qEx d 103 22 st [l0, l1, l2, l3, .long x, .retAddr 1, l6] σ μ la Q ↔ qEx d 103 24 (.long x :: st) [l0, l1, l2, l3, .long x, .retAddr 1, l6] σ μ la Q := (qEx_eq (i := .lload 4) rfl).trans Iff.rfl
theorem x103_24 {y0 : Int32} {y1 : Int64} {a : Nat} : qEx (d + 1) 103 24 [.long y1, .int y0, .ref a] ls σ μ la Q ↔ (qOk σ a 2 = true ∧ qEx d 42 0 [] [.ref a, .int y0, .long y1, .retAddr 1] σ μ la fun r σ' μ' la' => qEx (d + 1) 103 27 (r.toList ++ []) ls σ' μ' la' Q) := (qEx_eq (i := .invokevirtual 208) rfl).trans qExA_chk
theorem x103_27  : qEx d 103 27 st ls σ μ la Q ↔ qEx d 103 33 st ls σ μ la Q := (qEx_eq (i := .goto 6) rfl).trans Iff.rfl
theorem x103_30 {x : Int32} {l0 l1 l2 l3 l4 l5 : Value} : qEx d 103 30 st [l0, l1, l2, l3, l4, l5, .int x] σ μ la Q ↔ qEx d 103 32 (.int x :: st) [l0, l1, l2, l3, l4, l5, .int x] σ μ la Q := (qEx_eq (i := .iload 6) rfl).trans Iff.rfl
theorem x103_32 {x : Int32} : qEx d 103 32 (.int x :: st) ls σ μ la Q ↔ qEx d 103 33 (.long (x.toInt64) :: st) ls σ μ la Q := (qEx_eq (i := .i2l) rfl).trans Iff.rfl
theorem x103_33 {x : Int64} : qEx d 103 33 [.long x] ls σ μ la Q ↔ Q (some (.long x)) σ μ la := (qEx_eq (i := .lreturn) rfl).trans Iff.rfl
theorem x104_0 {x : Int32} {l0 l2 l3 l4 l5 l6 l7 : Value} : qEx d 104 0 st [l0, .int x, l2, l3, l4, l5, l6, l7] σ μ la Q ↔ qEx d 104 1 (.int x :: st) [l0, .int x, l2, l3, l4, l5, l6, l7] σ μ la Q := (qEx_eq (i := .iload_n 1) rfl).trans Iff.rfl
theorem x104_1 {y0 : Int32} : qEx (d + 1) 104 1 [.int y0] ls σ μ la Q ↔ qEx d 111 0 [] [.int y0] σ μ la fun r σ' μ' la' => qEx (d + 1) 104 4 (r.toList ++ []) ls σ' μ' la' Q := (qEx_eq (i := .invokestatic 188) rfl).trans Iff.rfl
theorem x104_4 {x : Int32} : qEx d 104 4 (.int x :: st) ls σ μ la Q ↔ (if x = 0 then qEx d 104 14 st ls σ μ la Q else qEx d 104 7 st ls σ μ la Q) := (qEx_eq (i := .ifCond .eq 10) rfl).trans qExA_ite
theorem x104_7 {x : Int32} {l0 l1 l2 l4 l5 l6 l7 : Value} : qEx d 104 7 st [l0, l1, l2, .int x, l4, l5, l6, l7] σ μ la Q ↔ qEx d 104 8 (.int x :: st) [l0, l1, l2, .int x, l4, l5, l6, l7] σ μ la Q := (qEx_eq (i := .iload_n 3) rfl).trans Iff.rfl
theorem x104_8 {y0 : Int32} : qEx (d + 1) 104 8 [.int y0] ls σ μ la Q ↔ qEx d 111 0 [] [.int y0] σ μ la fun r σ' μ' la' => qEx (d + 1) 104 11 (r.toList ++ []) ls σ' μ' la' Q := (qEx_eq (i := .invokestatic 188) rfl).trans Iff.rfl
theorem x104_11 {x : Int32} : qEx d 104 11 (.int x :: st) ls σ μ la Q ↔ (if ¬ x = 0 then qEx d 104 16 st ls σ μ la Q else qEx d 104 14 st ls σ μ la Q) := (qEx_eq (i := .ifCond .ne 5) rfl).trans qExA_ite
theorem x104_14  : qEx d 104 14 st ls σ μ la Q ↔ qEx d 104 15 (.int (-1) :: st) ls σ μ la Q := (qEx_eq (i := .iconst (-1)) rfl).trans Iff.rfl
theorem x104_15 {x : Int32} : qEx d 104 15 [.int x] ls σ μ la Q ↔ Q (some (.int x)) σ μ la := (qEx_eq (i := .ireturn) rfl).trans Iff.rfl
theorem x104_16 {x : Nat} {l1 l2 l3 l4 l5 l6 l7 : Value} : qEx d 104 16 st [.ref x, l1, l2, l3, l4, l5, l6, l7] σ μ la Q ↔ qEx d 104 17 (.ref x :: st) [.ref x, l1, l2, l3, l4, l5, l6, l7] σ μ la Q := (qEx_eq (i := .aload_n 0) rfl).trans Iff.rfl
theorem x104_17 {a : Nat} : qEx d 104 17 (.ref a :: st) ls σ μ la Q ↔ (qOk σ a 6 = true ∧ qEx d 104 20 (qrf (σ.2 a 4) :: st) ls σ μ la Q) := (qEx_eq (i := .getfield 45) rfl).trans qExA_chk
theorem x104_20 {x : Int32} {l0 l2 l3 l4 l5 l6 l7 : Value} : qEx d 104 20 st [l0, .int x, l2, l3, l4, l5, l6, l7] σ μ la Q ↔ qEx d 104 21 (.int x :: st) [l0, .int x, l2, l3, l4, l5, l6, l7] σ μ la Q := (qEx_eq (i := .iload_n 1) rfl).trans Iff.rfl
theorem x104_21 {x : Int32} {a : Nat} : qEx d 104 21 (.int x :: .ref a :: st) ls σ μ la Q ↔ (qIn x (qAld σ a) = true ∧ qEx d 104 22 (qrf (σ.2 a x.toNatClampNeg) :: st) ls σ μ la Q) := (qEx_eq (i := .aaload) rfl).trans qExA_chk
theorem x104_22 {x : Nat} {l0 l1 l2 l3 l4 l5 l6 l7 : Value} : qEx d 104 22 (.ref x :: st) [l0, l1, l2, l3, l4, l5, l6, l7] σ μ la Q ↔ qEx d 104 24 st [l0, l1, l2, l3, l4, l5, .ref x, l7] σ μ la Q := (qEx_eq (i := .astore 6) rfl).trans Iff.rfl
theorem x104_24 {x : Nat} {l1 l2 l3 l4 l5 l6 l7 : Value} : qEx d 104 24 st [.ref x, l1, l2, l3, l4, l5, l6, l7] σ μ la Q ↔ qEx d 104 25 (.ref x :: st) [.ref x, l1, l2, l3, l4, l5, l6, l7] σ μ la Q := (qEx_eq (i := .aload_n 0) rfl).trans Iff.rfl
theorem x104_25 {a : Nat} : qEx d 104 25 (.ref a :: st) ls σ μ la Q ↔ (qOk σ a 6 = true ∧ qEx d 104 28 (qrf (σ.2 a 4) :: st) ls σ μ la Q) := (qEx_eq (i := .getfield 45) rfl).trans qExA_chk
theorem x104_28 {x : Int32} {l0 l1 l2 l4 l5 l6 l7 : Value} : qEx d 104 28 st [l0, l1, l2, .int x, l4, l5, l6, l7] σ μ la Q ↔ qEx d 104 29 (.int x :: st) [l0, l1, l2, .int x, l4, l5, l6, l7] σ μ la Q := (qEx_eq (i := .iload_n 3) rfl).trans Iff.rfl
theorem x104_29 {x : Int32} {a : Nat} : qEx d 104 29 (.int x :: .ref a :: st) ls σ μ la Q ↔ (qIn x (qAld σ a) = true ∧ qEx d 104 30 (qrf (σ.2 a x.toNatClampNeg) :: st) ls σ μ la Q) := (qEx_eq (i := .aaload) rfl).trans qExA_chk
theorem x104_30 {x : Nat} {l0 l1 l2 l3 l4 l5 l6 l7 : Value} : qEx d 104 30 (.ref x :: st) [l0, l1, l2, l3, l4, l5, l6, l7] σ μ la Q ↔ qEx d 104 32 st [l0, l1, l2, l3, l4, l5, l6, .ref x] σ μ la Q := (qEx_eq (i := .astore 7) rfl).trans Iff.rfl
theorem x104_32 {x : Nat} {l0 l1 l2 l3 l4 l5 l7 : Value} : qEx d 104 32 st [l0, l1, l2, l3, l4, l5, .ref x, l7] σ μ la Q ↔ qEx d 104 34 (.ref x :: st) [l0, l1, l2, l3, l4, l5, .ref x, l7] σ μ la Q := (qEx_eq (i := .aload 6) rfl).trans Iff.rfl
theorem x104_34 {a : Nat} : qEx (d + 1) 104 34 [.ref a] ls σ μ la Q ↔ (qOk σ a 2 = true ∧ qEx d 38 0 [] [.ref a] σ μ la fun r σ' μ' la' => qEx (d + 1) 104 37 (r.toList ++ []) ls σ' μ' la' Q) := (qEx_eq (i := .invokevirtual 197) rfl).trans qExA_chk
theorem x104_37 {x : Int32} : qEx d 104 37 (.int x :: st) ls σ μ la Q ↔ (if ¬ x = 0 then qEx d 104 48 st ls σ μ la Q else qEx d 104 40 st ls σ μ la Q) := (qEx_eq (i := .ifCond .ne 11) rfl).trans qExA_ite
theorem x104_40 {x : Nat} {l0 l1 l2 l3 l4 l5 l6 : Value} : qEx d 104 40 st [l0, l1, l2, l3, l4, l5, l6, .ref x] σ μ la Q ↔ qEx d 104 42 (.ref x :: st) [l0, l1, l2, l3, l4, l5, l6, .ref x] σ μ la Q := (qEx_eq (i := .aload 7) rfl).trans Iff.rfl
theorem x104_42 {a : Nat} : qEx (d + 1) 104 42 [.ref a] ls σ μ la Q ↔ (qOk σ a 2 = true ∧ qEx d 38 0 [] [.ref a] σ μ la fun r σ' μ' la' => qEx (d + 1) 104 45 (r.toList ++ []) ls σ' μ' la' Q) := (qEx_eq (i := .invokevirtual 197) rfl).trans qExA_chk
theorem x104_45 {x : Int32} : qEx d 104 45 (.int x :: st) ls σ μ la Q ↔ (if x = 0 then qEx d 104 51 st ls σ μ la Q else qEx d 104 48 st ls σ μ la Q) := (qEx_eq (i := .ifCond .eq 6) rfl).trans qExA_ite
theorem x104_48  : qEx d 104 48 st ls σ μ la Q ↔ qEx d 104 50 (.int (-11) :: st) ls σ μ la Q := (qEx_eq (i := .bipush (-11)) rfl).trans Iff.rfl
theorem x104_50 {x : Int32} : qEx d 104 50 [.int x] ls σ μ la Q ↔ Q (some (.int x)) σ μ la := (qEx_eq (i := .ireturn) rfl).trans Iff.rfl
theorem x104_51 {x : Nat} {l0 l1 l2 l3 l4 l5 l7 : Value} : qEx d 104 51 st [l0, l1, l2, l3, l4, l5, .ref x, l7] σ μ la Q ↔ qEx d 104 53 (.ref x :: st) [l0, l1, l2, l3, l4, l5, .ref x, l7] σ μ la Q := (qEx_eq (i := .aload 6) rfl).trans Iff.rfl
theorem x104_53 {a : Nat} : qEx d 104 53 (.ref a :: st) ls σ μ la Q ↔ (qOk σ a 2 = true ∧ qEx d 104 56 (.int (μ a 1) :: st) ls σ μ la Q) := (qEx_eq (i := .getfield 212) rfl).trans qExA_chk
theorem x104_56 {x : Nat} {l0 l1 l2 l3 l4 l5 l6 : Value} : qEx d 104 56 st [l0, l1, l2, l3, l4, l5, l6, .ref x] σ μ la Q ↔ qEx d 104 58 (.ref x :: st) [l0, l1, l2, l3, l4, l5, l6, .ref x] σ μ la Q := (qEx_eq (i := .aload 7) rfl).trans Iff.rfl
theorem x104_58 {a : Nat} : qEx d 104 58 (.ref a :: st) ls σ μ la Q ↔ (qOk σ a 2 = true ∧ qEx d 104 61 (.int (μ a 1) :: st) ls σ μ la Q) := (qEx_eq (i := .getfield 212) rfl).trans qExA_chk
theorem x104_61 {x y : Int32} : qEx d 104 61 (.int y :: .int x :: st) ls σ μ la Q ↔ (if x = y then qEx d 104 67 st ls σ μ la Q else qEx d 104 64 st ls σ μ la Q) := (qEx_eq (i := .if_icmp .eq 6) rfl).trans qExA_ite
theorem x104_64  : qEx d 104 64 st ls σ μ la Q ↔ qEx d 104 66 (.int (-12) :: st) ls σ μ la Q := (qEx_eq (i := .bipush (-12)) rfl).trans Iff.rfl
theorem x104_66 {x : Int32} : qEx d 104 66 [.int x] ls σ μ la Q ↔ Q (some (.int x)) σ μ la := (qEx_eq (i := .ireturn) rfl).trans Iff.rfl
theorem x104_67 {x : Nat} {l0 l1 l2 l3 l4 l5 l7 : Value} : qEx d 104 67 st [l0, l1, l2, l3, l4, l5, .ref x, l7] σ μ la Q ↔ qEx d 104 69 (.ref x :: st) [l0, l1, l2, l3, l4, l5, .ref x, l7] σ μ la Q := (qEx_eq (i := .aload 6) rfl).trans Iff.rfl
theorem x104_69 {x : Int32} {l0 l1 l3 l4 l5 l6 l7 : Value} : qEx d 104 69 st [l0, l1, .int x, l3, l4, l5, l6, l7] σ μ la Q ↔ qEx d 104 70 (.int x :: st) [l0, l1, .int x, l3, l4, l5, l6, l7] σ μ la Q := (qEx_eq (i := .iload_n 2) rfl).trans Iff.rfl
theorem x104_70 {x : Int32} {l0 l1 l2 l3 l4 l6 l7 : Value} : qEx d 104 70 st [l0, l1, l2, l3, l4, .int x, l6, l7] σ μ la Q ↔ qEx d 104 72 (.int x :: st) [l0, l1, l2, l3, l4, .int x, l6, l7] σ μ la Q := (qEx_eq (i := .iload 5) rfl).trans Iff.rfl
theorem x104_72 {y0 : Int32} {y1 : Int32} {a : Nat} : qEx (d + 1) 104 72 [.int y1, .int y0, .ref a] ls σ μ la Q ↔ (qOk σ a 2 = true ∧ qEx d 41 0 [] [.ref a, .int y0, .int y1] σ μ la fun r σ' μ' la' => qEx (d + 1) 104 75 (r.toList ++ []) ls σ' μ' la' Q) := (qEx_eq (i := .invokevirtual 215) rfl).trans qExA_chk
theorem x104_75 {x : Int32} : qEx d 104 75 (.int x :: st) ls σ μ la Q ↔ (if x = 0 then qEx d 104 90 st ls σ μ la Q else qEx d 104 78 st ls σ μ la Q) := (qEx_eq (i := .ifCond .eq 15) rfl).trans qExA_ite
theorem x104_78 {x : Nat} {l0 l1 l2 l3 l4 l5 l6 : Value} : qEx d 104 78 st [l0, l1, l2, l3, l4, l5, l6, .ref x] σ μ la Q ↔ qEx d 104 80 (.ref x :: st) [l0, l1, l2, l3, l4, l5, l6, .ref x] σ μ la Q := (qEx_eq (i := .aload 7) rfl).trans Iff.rfl
theorem x104_80 {x : Int32} {l0 l1 l2 l3 l5 l6 l7 : Value} : qEx d 104 80 st [l0, l1, l2, l3, .int x, l5, l6, l7] σ μ la Q ↔ qEx d 104 82 (.int x :: st) [l0, l1, l2, l3, .int x, l5, l6, l7] σ μ la Q := (qEx_eq (i := .iload 4) rfl).trans Iff.rfl
theorem x104_82 {x : Int32} {l0 l1 l2 l3 l4 l6 l7 : Value} : qEx d 104 82 st [l0, l1, l2, l3, l4, .int x, l6, l7] σ μ la Q ↔ qEx d 104 84 (.int x :: st) [l0, l1, l2, l3, l4, .int x, l6, l7] σ μ la Q := (qEx_eq (i := .iload 5) rfl).trans Iff.rfl
theorem x104_84 {y0 : Int32} {y1 : Int32} {a : Nat} : qEx (d + 1) 104 84 [.int y1, .int y0, .ref a] ls σ μ la Q ↔ (qOk σ a 2 = true ∧ qEx d 41 0 [] [.ref a, .int y0, .int y1] σ μ la fun r σ' μ' la' => qEx (d + 1) 104 87 (r.toList ++ []) ls σ' μ' la' Q) := (qEx_eq (i := .invokevirtual 215) rfl).trans qExA_chk
theorem x104_87 {x : Int32} : qEx d 104 87 (.int x :: st) ls σ μ la Q ↔ (if ¬ x = 0 then qEx d 104 93 st ls σ μ la Q else qEx d 104 90 st ls σ μ la Q) := (qEx_eq (i := .ifCond .ne 6) rfl).trans qExA_ite
theorem x104_90  : qEx d 104 90 st ls σ μ la Q ↔ qEx d 104 92 (.int (-13) :: st) ls σ μ la Q := (qEx_eq (i := .bipush (-13)) rfl).trans Iff.rfl
theorem x104_92 {x : Int32} : qEx d 104 92 [.int x] ls σ μ la Q ↔ Q (some (.int x)) σ μ la := (qEx_eq (i := .ireturn) rfl).trans Iff.rfl
theorem x104_93 {x : Nat} {l0 l1 l2 l3 l4 l5 l7 : Value} : qEx d 104 93 st [l0, l1, l2, l3, l4, l5, .ref x, l7] σ μ la Q ↔ qEx d 104 95 (.ref x :: st) [l0, l1, l2, l3, l4, l5, .ref x, l7] σ μ la Q := (qEx_eq (i := .aload 6) rfl).trans Iff.rfl
theorem x104_95 {a : Nat} : qEx d 104 95 (.ref a :: st) ls σ μ la Q ↔ (qOk σ a 2 = true ∧ qEx d 104 98 (qrf (σ.2 a 0) :: st) ls σ μ la Q) := (qEx_eq (i := .getfield 218) rfl).trans qExA_chk
theorem x104_98 {x : Int32} {l0 l1 l3 l4 l5 l6 l7 : Value} : qEx d 104 98 st [l0, l1, .int x, l3, l4, l5, l6, l7] σ μ la Q ↔ qEx d 104 99 (.int x :: st) [l0, l1, .int x, l3, l4, l5, l6, l7] σ μ la Q := (qEx_eq (i := .iload_n 2) rfl).trans Iff.rfl
theorem x104_99 {x : Nat} {l0 l1 l2 l3 l4 l5 l6 : Value} : qEx d 104 99 st [l0, l1, l2, l3, l4, l5, l6, .ref x] σ μ la Q ↔ qEx d 104 101 (.ref x :: st) [l0, l1, l2, l3, l4, l5, l6, .ref x] σ μ la Q := (qEx_eq (i := .aload 7) rfl).trans Iff.rfl
theorem x104_101 {a : Nat} : qEx d 104 101 (.ref a :: st) ls σ μ la Q ↔ (qOk σ a 2 = true ∧ qEx d 104 104 (qrf (σ.2 a 0) :: st) ls σ μ la Q) := (qEx_eq (i := .getfield 218) rfl).trans qExA_chk
theorem x104_104 {x : Int32} {l0 l1 l2 l3 l5 l6 l7 : Value} : qEx d 104 104 st [l0, l1, l2, l3, .int x, l5, l6, l7] σ μ la Q ↔ qEx d 104 106 (.int x :: st) [l0, l1, l2, l3, .int x, l5, l6, l7] σ μ la Q := (qEx_eq (i := .iload 4) rfl).trans Iff.rfl
theorem x104_106 {x : Int32} {l0 l1 l2 l3 l4 l6 l7 : Value} : qEx d 104 106 st [l0, l1, l2, l3, l4, .int x, l6, l7] σ μ la Q ↔ qEx d 104 108 (.int x :: st) [l0, l1, l2, l3, l4, .int x, l6, l7] σ μ la Q := (qEx_eq (i := .iload 5) rfl).trans Iff.rfl
theorem x104_108 {n sp dp : Int32} {a a0 : Nat} : qEx d 104 108 [.int n, .int dp, .ref a, .int sp, .ref a0] ls σ μ la Q ↔ (if (0 ≤ sp ∧ 0 ≤ dp ∧ 0 ≤ n ∧ sp.toNatClampNeg + n.toNatClampNeg ≤ qLen σ 10 a0 ∧ dp.toNatClampNeg + n.toNatClampNeg ≤ qLen σ 10 a ∧ (([] : List Value).map fun v => v.category).sum ≤ 8 ∧ qOk σ a0 10 = true ∧ qOk σ a 10 = true) then qEx d 104 111 [] ls σ (qcpy μ a0 sp.toNatClampNeg a dp.toNatClampNeg n.toNatClampNeg) la Q else ((0 ≤ sp ∧ 0 ≤ dp ∧ 0 ≤ n ∧ sp.toNatClampNeg + n.toNatClampNeg ≤ qLen σ 11 a0 ∧ dp.toNatClampNeg + n.toNatClampNeg ≤ qLen σ 11 a ∧ (([] : List Value).map fun v => v.category).sum ≤ 8 ∧ qOk σ a0 11 = true ∧ qOk σ a 11 = true) ∧ qEx d 104 111 [] ls σ μ (qcpy la a0 sp.toNatClampNeg a dp.toNatClampNeg n.toNatClampNeg) Q)) := (qEx_eq (i := .invokestatic 222) rfl).trans (qExA_ite2 Iff.rfl qExA_chk)
theorem x104_111 {x : Int32} {l0 l1 l2 l3 l4 l6 l7 : Value} : qEx d 104 111 st [l0, l1, l2, l3, l4, .int x, l6, l7] σ μ la Q ↔ qEx d 104 113 (.int x :: st) [l0, l1, l2, l3, l4, .int x, l6, l7] σ μ la Q := (qEx_eq (i := .iload 5) rfl).trans Iff.rfl
theorem x104_113 {x : Int32} : qEx d 104 113 [.int x] ls σ μ la Q ↔ Q (some (.int x)) σ μ la := (qEx_eq (i := .ireturn) rfl).trans Iff.rfl
theorem x105_0 {x : Nat} {l1 l2 l3 l4 l5 l6 l7 : Value} : qEx d 105 0 st [.ref x, l1, l2, l3, l4, l5, l6, l7] σ μ la Q ↔ qEx d 105 1 (.ref x :: st) [.ref x, l1, l2, l3, l4, l5, l6, l7] σ μ la Q := (qEx_eq (i := .aload_n 0) rfl).trans Iff.rfl
theorem x105_1 {a : Nat} : qEx d 105 1 (.ref a :: st) ls σ μ la Q ↔ (qOk σ a 6 = true ∧ qEx d 105 4 (qrf (σ.2 a 1) :: st) ls σ μ la Q) := (qEx_eq (i := .getfield 27) rfl).trans qExA_chk
theorem x105_4 {x : Int32} {l0 l2 l3 l4 l5 l6 l7 : Value} : qEx d 105 4 st [l0, .int x, l2, l3, l4, l5, l6, l7] σ μ la Q ↔ qEx d 105 5 (.int x :: st) [l0, .int x, l2, l3, l4, l5, l6, l7] σ μ la Q := (qEx_eq (i := .iload_n 1) rfl).trans Iff.rfl
theorem x105_5 {y0 : Int32} {a : Nat} : qEx (d + 1) 105 5 [.int y0, .ref a] ls σ μ la Q ↔ (qOk σ a 4 = true ∧ qEx d 60 0 [] [.ref a, .int y0] σ μ la fun r σ' μ' la' => qEx (d + 1) 105 8 (r.toList ++ []) ls σ' μ' la' Q) := (qEx_eq (i := .invokevirtual 84) rfl).trans qExA_chk
theorem x105_8 {x : Int32} : qEx d 105 8 (.int x :: st) ls σ μ la Q ↔ (if ¬ x = 0 then qEx d 105 13 st ls σ μ la Q else qEx d 105 11 st ls σ μ la Q) := (qEx_eq (i := .ifCond .ne 5) rfl).trans qExA_ite
theorem x105_11  : qEx d 105 11 st ls σ μ la Q ↔ qEx d 105 12 (.int (-1) :: st) ls σ μ la Q := (qEx_eq (i := .iconst (-1)) rfl).trans Iff.rfl
theorem x105_12 {x : Int32} : qEx d 105 12 [.int x] ls σ μ la Q ↔ Q (some (.int x)) σ μ la := (qEx_eq (i := .ireturn) rfl).trans Iff.rfl
theorem x105_13 {x : Nat} {l1 l2 l3 l4 l5 l6 l7 : Value} : qEx d 105 13 st [.ref x, l1, l2, l3, l4, l5, l6, l7] σ μ la Q ↔ qEx d 105 14 (.ref x :: st) [.ref x, l1, l2, l3, l4, l5, l6, l7] σ μ la Q := (qEx_eq (i := .aload_n 0) rfl).trans Iff.rfl
theorem x105_14 {x : Int32} {l0 l1 l2 l4 l5 l6 l7 : Value} : qEx d 105 14 st [l0, l1, l2, .int x, l4, l5, l6, l7] σ μ la Q ↔ qEx d 105 15 (.int x :: st) [l0, l1, l2, .int x, l4, l5, l6, l7] σ μ la Q := (qEx_eq (i := .iload_n 3) rfl).trans Iff.rfl
theorem x105_15 {x : Int32} {l0 l1 l2 l3 l5 l6 l7 : Value} : qEx d 105 15 st [l0, l1, l2, l3, .int x, l5, l6, l7] σ μ la Q ↔ qEx d 105 17 (.int x :: st) [l0, l1, l2, l3, .int x, l5, l6, l7] σ μ la Q := (qEx_eq (i := .iload 4) rfl).trans Iff.rfl
theorem x105_17 {x : Int32} {l0 l1 l2 l3 l4 l6 l7 : Value} : qEx d 105 17 st [l0, l1, l2, l3, l4, .int x, l6, l7] σ μ la Q ↔ qEx d 105 19 (.int x :: st) [l0, l1, l2, l3, l4, .int x, l6, l7] σ μ la Q := (qEx_eq (i := .iload 5) rfl).trans Iff.rfl
theorem x105_19 {x : Int32} {l0 l1 l3 l4 l5 l6 l7 : Value} : qEx d 105 19 st [l0, l1, .int x, l3, l4, l5, l6, l7] σ μ la Q ↔ qEx d 105 20 (.int x :: st) [l0, l1, .int x, l3, l4, l5, l6, l7] σ μ la Q := (qEx_eq (i := .iload_n 2) rfl).trans Iff.rfl
theorem x105_20 {y0 : Int32} {y1 : Int32} {y2 : Int32} {y3 : Int32} {a : Nat} : qEx (d + 1) 105 20 [.int y3, .int y2, .int y1, .int y0, .ref a] ls σ μ la Q ↔ (qOk σ a 6 = true ∧ qEx d 114 0 [] [.ref a, .int y0, .int y1, .int y2, .int y3] σ μ la fun r σ' μ' la' => qEx (d + 1) 105 23 (r.toList ++ []) ls σ' μ' la' Q) := (qEx_eq (i := .invokevirtual 228) rfl).trans qExA_chk
theorem x105_23 {x : Int32} {l0 l1 l2 l3 l4 l5 l6 l7 : Value} : qEx d 105 23 (.int x :: st) [l0, l1, l2, l3, l4, l5, l6, l7] σ μ la Q ↔ qEx d 105 25 st [l0, l1, l2, l3, l4, l5, .int x, l7] σ μ la Q := (qEx_eq (i := .istore 6) rfl).trans Iff.rfl
theorem x105_25 {x : Int32} {l0 l1 l2 l3 l4 l5 l7 : Value} : qEx d 105 25 st [l0, l1, l2, l3, l4, l5, .int x, l7] σ μ la Q ↔ qEx d 105 27 (.int x :: st) [l0, l1, l2, l3, l4, l5, .int x, l7] σ μ la Q := (qEx_eq (i := .iload 6) rfl).trans Iff.rfl
theorem x105_27 {x : Int32} : qEx d 105 27 (.int x :: st) ls σ μ la Q ↔ (if x = 0 then qEx d 105 33 st ls σ μ la Q else qEx d 105 30 st ls σ μ la Q) := (qEx_eq (i := .ifCond .eq 6) rfl).trans qExA_ite
theorem x105_30 {x : Int32} {l0 l1 l2 l3 l4 l5 l7 : Value} : qEx d 105 30 st [l0, l1, l2, l3, l4, l5, .int x, l7] σ μ la Q ↔ qEx d 105 32 (.int x :: st) [l0, l1, l2, l3, l4, l5, .int x, l7] σ μ la Q := (qEx_eq (i := .iload 6) rfl).trans Iff.rfl
theorem x105_32 {x : Int32} : qEx d 105 32 [.int x] ls σ μ la Q ↔ Q (some (.int x)) σ μ la := (qEx_eq (i := .ireturn) rfl).trans Iff.rfl
theorem x105_33 {x : Nat} {l1 l2 l3 l4 l5 l6 l7 : Value} : qEx d 105 33 st [.ref x, l1, l2, l3, l4, l5, l6, l7] σ μ la Q ↔ qEx d 105 34 (.ref x :: st) [.ref x, l1, l2, l3, l4, l5, l6, l7] σ μ la Q := (qEx_eq (i := .aload_n 0) rfl).trans Iff.rfl
theorem x105_34 {a : Nat} : qEx d 105 34 (.ref a :: st) ls σ μ la Q ↔ (qOk σ a 6 = true ∧ qEx d 105 37 (qrf (σ.2 a 5) :: st) ls σ μ la Q) := (qEx_eq (i := .getfield 52) rfl).trans qExA_chk
theorem x105_37 {x : Nat} {l1 l2 l3 l4 l5 l6 l7 : Value} : qEx d 105 37 st [.ref x, l1, l2, l3, l4, l5, l6, l7] σ μ la Q ↔ qEx d 105 38 (.ref x :: st) [.ref x, l1, l2, l3, l4, l5, l6, l7] σ μ la Q := (qEx_eq (i := .aload_n 0) rfl).trans Iff.rfl
theorem x105_38 {a : Nat} : qEx d 105 38 (.ref a :: st) ls σ μ la Q ↔ (qOk σ a 6 = true ∧ qEx d 105 41 (qrf (σ.2 a 1) :: st) ls σ μ la Q) := (qEx_eq (i := .getfield 27) rfl).trans qExA_chk
theorem x105_41 {x : Int32} {l0 l2 l3 l4 l5 l6 l7 : Value} : qEx d 105 41 st [l0, .int x, l2, l3, l4, l5, l6, l7] σ μ la Q ↔ qEx d 105 42 (.int x :: st) [l0, .int x, l2, l3, l4, l5, l6, l7] σ μ la Q := (qEx_eq (i := .iload_n 1) rfl).trans Iff.rfl
theorem x105_42 {x : Nat} {l1 l2 l3 l4 l5 l6 l7 : Value} : qEx d 105 42 st [.ref x, l1, l2, l3, l4, l5, l6, l7] σ μ la Q ↔ qEx d 105 43 (.ref x :: st) [.ref x, l1, l2, l3, l4, l5, l6, l7] σ μ la Q := (qEx_eq (i := .aload_n 0) rfl).trans Iff.rfl
theorem x105_43 {a : Nat} : qEx d 105 43 (.ref a :: st) ls σ μ la Q ↔ (qOk σ a 6 = true ∧ qEx d 105 46 (qrf (σ.2 a 1) :: st) ls σ μ la Q) := (qEx_eq (i := .getfield 27) rfl).trans qExA_chk
theorem x105_46 {a : Nat} : qEx d 105 46 (.ref a :: st) ls σ μ la Q ↔ (qOk σ a 4 = true ∧ qEx d 105 49 (qrf (σ.2 a 7) :: st) ls σ μ la Q) := (qEx_eq (i := .getfield 87) rfl).trans qExA_chk
theorem x105_49 {x : Int32} {l0 l2 l3 l4 l5 l6 l7 : Value} : qEx d 105 49 st [l0, .int x, l2, l3, l4, l5, l6, l7] σ μ la Q ↔ qEx d 105 50 (.int x :: st) [l0, .int x, l2, l3, l4, l5, l6, l7] σ μ la Q := (qEx_eq (i := .iload_n 1) rfl).trans Iff.rfl
theorem x105_50 {x : Int32} {a : Nat} : qEx d 105 50 (.int x :: .ref a :: st) ls σ μ la Q ↔ (qIn x (qIld σ μ a) = true ∧ qEx d 105 51 (.int (μ a x.toNatClampNeg) :: st) ls σ μ la Q) := (qEx_eq (i := .iaload) rfl).trans qExA_chk
theorem x105_51 {x : Nat} {l1 l2 l3 l4 l5 l6 l7 : Value} : qEx d 105 51 st [.ref x, l1, l2, l3, l4, l5, l6, l7] σ μ la Q ↔ qEx d 105 52 (.ref x :: st) [.ref x, l1, l2, l3, l4, l5, l6, l7] σ μ la Q := (qEx_eq (i := .aload_n 0) rfl).trans Iff.rfl
theorem x105_52 {a : Nat} : qEx d 105 52 (.ref a :: st) ls σ μ la Q ↔ (qOk σ a 6 = true ∧ qEx d 105 55 (qrf (σ.2 a 1) :: st) ls σ μ la Q) := (qEx_eq (i := .getfield 27) rfl).trans qExA_chk
theorem x105_55 {a : Nat} : qEx d 105 55 (.ref a :: st) ls σ μ la Q ↔ (qOk σ a 4 = true ∧ qEx d 105 58 (qrf (σ.2 a 9) :: st) ls σ μ la Q) := (qEx_eq (i := .getfield 94) rfl).trans qExA_chk
theorem x105_58 {x : Int32} {l0 l2 l3 l4 l5 l6 l7 : Value} : qEx d 105 58 st [l0, .int x, l2, l3, l4, l5, l6, l7] σ μ la Q ↔ qEx d 105 59 (.int x :: st) [l0, .int x, l2, l3, l4, l5, l6, l7] σ μ la Q := (qEx_eq (i := .iload_n 1) rfl).trans Iff.rfl
theorem x105_59 {x : Int32} {a : Nat} : qEx d 105 59 (.int x :: .ref a :: st) ls σ μ la Q ↔ (qIn x (qIld σ μ a) = true ∧ qEx d 105 60 (.int (μ a x.toNatClampNeg) :: st) ls σ μ la Q) := (qEx_eq (i := .iaload) rfl).trans qExA_chk
theorem x105_60 {x : Nat} {l1 l2 l3 l4 l5 l6 l7 : Value} : qEx d 105 60 st [.ref x, l1, l2, l3, l4, l5, l6, l7] σ μ la Q ↔ qEx d 105 61 (.ref x :: st) [.ref x, l1, l2, l3, l4, l5, l6, l7] σ μ la Q := (qEx_eq (i := .aload_n 0) rfl).trans Iff.rfl
theorem x105_61 {a : Nat} : qEx d 105 61 (.ref a :: st) ls σ μ la Q ↔ (qOk σ a 6 = true ∧ qEx d 105 64 (qrf (σ.2 a 1) :: st) ls σ μ la Q) := (qEx_eq (i := .getfield 27) rfl).trans qExA_chk
theorem x105_64 {a : Nat} : qEx d 105 64 (.ref a :: st) ls σ μ la Q ↔ (qOk σ a 4 = true ∧ qEx d 105 67 (qrf (σ.2 a 10) :: st) ls σ μ la Q) := (qEx_eq (i := .getfield 97) rfl).trans qExA_chk
theorem x105_67 {x : Int32} {l0 l2 l3 l4 l5 l6 l7 : Value} : qEx d 105 67 st [l0, .int x, l2, l3, l4, l5, l6, l7] σ μ la Q ↔ qEx d 105 68 (.int x :: st) [l0, .int x, l2, l3, l4, l5, l6, l7] σ μ la Q := (qEx_eq (i := .iload_n 1) rfl).trans Iff.rfl
theorem x105_68 {x : Int32} {a : Nat} : qEx d 105 68 (.int x :: .ref a :: st) ls σ μ la Q ↔ (qIn x (qIld σ μ a) = true ∧ qEx d 105 69 (.int (μ a x.toNatClampNeg) :: st) ls σ μ la Q) := (qEx_eq (i := .iaload) rfl).trans qExA_chk
theorem x105_69 {y0 : Nat} {y1 : Int32} {y2 : Int32} {y3 : Int32} {y4 : Int32} {a : Nat} : qEx (d + 1) 105 69 [.int y4, .int y3, .int y2, .int y1, .ref y0, .ref a] ls σ μ la Q ↔ (qOk σ a 5 = true ∧ qEx d 71 0 [] [.ref a, .ref y0, .int y1, .int y2, .int y3, .int y4, .retAddr 0, .retAddr 0, .retAddr 0, .retAddr 0, .retAddr 0] σ μ la fun r σ' μ' la' => qEx (d + 1) 105 72 (r.toList ++ []) ls σ' μ' la' Q) := (qEx_eq (i := .invokevirtual 147) rfl).trans qExA_chk
theorem x105_72 {x : Nat} {l1 l2 l3 l4 l5 l6 l7 : Value} : qEx d 105 72 st [.ref x, l1, l2, l3, l4, l5, l6, l7] σ μ la Q ↔ qEx d 105 73 (.ref x :: st) [.ref x, l1, l2, l3, l4, l5, l6, l7] σ μ la Q := (qEx_eq (i := .aload_n 0) rfl).trans Iff.rfl
theorem x105_73 {a : Nat} : qEx d 105 73 (.ref a :: st) ls σ μ la Q ↔ (qOk σ a 6 = true ∧ qEx d 105 76 (qrf (σ.2 a 5) :: st) ls σ μ la Q) := (qEx_eq (i := .getfield 52) rfl).trans qExA_chk
theorem x105_76 {a : Nat} : qEx d 105 76 (.ref a :: st) ls σ μ la Q ↔ (qOk σ a 5 = true ∧ qEx d 105 79 (.int (μ a 1) :: st) ls σ μ la Q) := (qEx_eq (i := .getfield 151) rfl).trans qExA_chk
theorem x105_79 {x : Int32} {l0 l1 l3 l4 l5 l6 l7 : Value} : qEx d 105 79 st [l0, l1, .int x, l3, l4, l5, l6, l7] σ μ la Q ↔ qEx d 105 80 (.int x :: st) [l0, l1, .int x, l3, l4, l5, l6, l7] σ μ la Q := (qEx_eq (i := .iload_n 2) rfl).trans Iff.rfl
theorem x105_80 {x y : Int32} : qEx d 105 80 (.int y :: .int x :: st) ls σ μ la Q ↔ (if y ≤ x then qEx d 105 86 st ls σ μ la Q else qEx d 105 83 st ls σ μ la Q) := (qEx_eq (i := .if_icmp .ge 6) rfl).trans qExA_ite
theorem x105_83  : qEx d 105 83 st ls σ μ la Q ↔ qEx d 105 85 (.int (-2) :: st) ls σ μ la Q := (qEx_eq (i := .bipush (-2)) rfl).trans Iff.rfl
theorem x105_85 {x : Int32} : qEx d 105 85 [.int x] ls σ μ la Q ↔ Q (some (.int x)) σ μ la := (qEx_eq (i := .ireturn) rfl).trans Iff.rfl
theorem x105_86  : qEx d 105 86 st ls σ μ la Q ↔ qEx d 105 87 (.int 0 :: st) ls σ μ la Q := (qEx_eq (i := .iconst 0) rfl).trans Iff.rfl
theorem x105_87 {x : Int32} {l0 l1 l2 l3 l4 l5 l6 l7 : Value} : qEx d 105 87 (.int x :: st) [l0, l1, l2, l3, l4, l5, l6, l7] σ μ la Q ↔ qEx d 105 89 st [l0, l1, l2, l3, l4, l5, l6, .int x] σ μ la Q := (qEx_eq (i := .istore 7) rfl).trans Iff.rfl
theorem x105_89 {x : Int32} {l0 l1 l2 l3 l4 l5 l6 : Value} : qEx d 105 89 st [l0, l1, l2, l3, l4, l5, l6, .int x] σ μ la Q ↔ qEx d 105 91 (.int x :: st) [l0, l1, l2, l3, l4, l5, l6, .int x] σ μ la Q := (qEx_eq (i := .iload 7) rfl).trans Iff.rfl
theorem x105_91 {x : Int32} {l0 l1 l3 l4 l5 l6 l7 : Value} : qEx d 105 91 st [l0, l1, .int x, l3, l4, l5, l6, l7] σ μ la Q ↔ qEx d 105 92 (.int x :: st) [l0, l1, .int x, l3, l4, l5, l6, l7] σ μ la Q := (qEx_eq (i := .iload_n 2) rfl).trans Iff.rfl
theorem x105_92 {x y : Int32} : qEx d 105 92 (.int y :: .int x :: st) ls σ μ la Q ↔ (if y ≤ x then qEx d 105 127 st ls σ μ la Q else qEx d 105 95 st ls σ μ la Q) := (qEx_eq (i := .if_icmp .ge 35) rfl).trans qExA_ite
theorem x105_95 {x : Nat} {l1 l2 l3 l4 l5 l6 l7 : Value} : qEx d 105 95 st [.ref x, l1, l2, l3, l4, l5, l6, l7] σ μ la Q ↔ qEx d 105 96 (.ref x :: st) [.ref x, l1, l2, l3, l4, l5, l6, l7] σ μ la Q := (qEx_eq (i := .aload_n 0) rfl).trans Iff.rfl
theorem x105_96 {a : Nat} : qEx d 105 96 (.ref a :: st) ls σ μ la Q ↔ (qOk σ a 6 = true ∧ qEx d 105 99 (qrf (σ.2 a 4) :: st) ls σ μ la Q) := (qEx_eq (i := .getfield 45) rfl).trans qExA_chk
theorem x105_99 {x : Int32} {l0 l1 l2 l4 l5 l6 l7 : Value} : qEx d 105 99 st [l0, l1, l2, .int x, l4, l5, l6, l7] σ μ la Q ↔ qEx d 105 100 (.int x :: st) [l0, l1, l2, .int x, l4, l5, l6, l7] σ μ la Q := (qEx_eq (i := .iload_n 3) rfl).trans Iff.rfl
theorem x105_100 {x : Int32} {a : Nat} : qEx d 105 100 (.int x :: .ref a :: st) ls σ μ la Q ↔ (qIn x (qAld σ a) = true ∧ qEx d 105 101 (qrf (σ.2 a x.toNatClampNeg) :: st) ls σ μ la Q) := (qEx_eq (i := .aaload) rfl).trans qExA_chk
theorem x105_101 {x : Int32} {l0 l1 l2 l3 l4 l6 l7 : Value} : qEx d 105 101 st [l0, l1, l2, l3, l4, .int x, l6, l7] σ μ la Q ↔ qEx d 105 103 (.int x :: st) [l0, l1, l2, l3, l4, .int x, l6, l7] σ μ la Q := (qEx_eq (i := .iload 5) rfl).trans Iff.rfl
theorem x105_103 {x : Int32} {l0 l1 l2 l3 l4 l5 l6 : Value} : qEx d 105 103 st [l0, l1, l2, l3, l4, l5, l6, .int x] σ μ la Q ↔ qEx d 105 105 (.int x :: st) [l0, l1, l2, l3, l4, l5, l6, .int x] σ μ la Q := (qEx_eq (i := .iload 7) rfl).trans Iff.rfl
theorem x105_105 {x y : Int32} : qEx d 105 105 (.int y :: .int x :: st) ls σ μ la Q ↔ qEx d 105 106 (.int (x + y) :: st) ls σ μ la Q := (qEx_eq (i := .iadd) rfl).trans Iff.rfl
theorem x105_106 {x : Nat} {l1 l2 l3 l4 l5 l6 l7 : Value} : qEx d 105 106 st [.ref x, l1, l2, l3, l4, l5, l6, l7] σ μ la Q ↔ qEx d 105 107 (.ref x :: st) [.ref x, l1, l2, l3, l4, l5, l6, l7] σ μ la Q := (qEx_eq (i := .aload_n 0) rfl).trans Iff.rfl
theorem x105_107 {a : Nat} : qEx d 105 107 (.ref a :: st) ls σ μ la Q ↔ (qOk σ a 6 = true ∧ qEx d 105 110 (qrf (σ.2 a 5) :: st) ls σ μ la Q) := (qEx_eq (i := .getfield 52) rfl).trans qExA_chk
theorem x105_110 {a : Nat} : qEx d 105 110 (.ref a :: st) ls σ μ la Q ↔ (qOk σ a 5 = true ∧ qEx d 105 113 (qrf (σ.2 a 0) :: st) ls σ μ la Q) := (qEx_eq (i := .getfield 231) rfl).trans qExA_chk
theorem x105_113 {x : Int32} {l0 l1 l2 l3 l4 l5 l6 : Value} : qEx d 105 113 st [l0, l1, l2, l3, l4, l5, l6, .int x] σ μ la Q ↔ qEx d 105 115 (.int x :: st) [l0, l1, l2, l3, l4, l5, l6, .int x] σ μ la Q := (qEx_eq (i := .iload 7) rfl).trans Iff.rfl
theorem x105_115 {x : Int32} {a : Nat} : qEx d 105 115 (.int x :: .ref a :: st) ls σ μ la Q ↔ (qIn x (qIld σ μ a) = true ∧ qEx d 105 116 (.int (μ a x.toNatClampNeg) :: st) ls σ μ la Q) := (qEx_eq (i := .iaload) rfl).trans qExA_chk
theorem x105_116 {x : Int32} : qEx d 105 116 (.int x :: st) ls σ μ la Q ↔ qEx d 105 117 (.long (x.toInt64) :: st) ls σ μ la Q := (qEx_eq (i := .i2l) rfl).trans Iff.rfl
theorem x105_117 {y0 : Int32} {y1 : Int64} {a : Nat} : qEx (d + 1) 105 117 [.long y1, .int y0, .ref a] ls σ μ la Q ↔ (qOk σ a 2 = true ∧ qEx d 42 0 [] [.ref a, .int y0, .long y1, .retAddr 1] σ μ la fun r σ' μ' la' => qEx (d + 1) 105 120 (r.toList ++ []) ls σ' μ' la' Q) := (qEx_eq (i := .invokevirtual 208) rfl).trans qExA_chk
theorem x105_120 {x : Int64} : qEx d 105 120 (.long x :: st) ls σ μ la Q ↔ qEx d 105 121 st ls σ μ la Q := (qEx_eq (i := .pop2) rfl).trans Iff.rfl
theorem x105_121 {x : Int32} {l0 l1 l2 l3 l4 l5 l6 : Value} : qEx d 105 121 st [l0, l1, l2, l3, l4, l5, l6, .int x] σ μ la Q ↔ qEx d 105 124 st [l0, l1, l2, l3, l4, l5, l6, .int (x + 1)] σ μ la Q := (qEx_eq (i := .iinc 7 1) rfl).trans Iff.rfl
theorem x105_124  : qEx d 105 124 st ls σ μ la Q ↔ qEx d 105 89 st ls σ μ la Q := (qEx_eq (i := .goto (-35)) rfl).trans Iff.rfl
theorem x105_127 {x : Int32} {l0 l1 l3 l4 l5 l6 l7 : Value} : qEx d 105 127 st [l0, l1, .int x, l3, l4, l5, l6, l7] σ μ la Q ↔ qEx d 105 128 (.int x :: st) [l0, l1, .int x, l3, l4, l5, l6, l7] σ μ la Q := (qEx_eq (i := .iload_n 2) rfl).trans Iff.rfl
theorem x105_128 {x : Int32} : qEx d 105 128 [.int x] ls σ μ la Q ↔ Q (some (.int x)) σ μ la := (qEx_eq (i := .ireturn) rfl).trans Iff.rfl
theorem x106_0 {x : Nat} {l1 l2 l3 l4 l5 l6 l7 : Value} : qEx d 106 0 st [.ref x, l1, l2, l3, l4, l5, l6, l7] σ μ la Q ↔ qEx d 106 1 (.ref x :: st) [.ref x, l1, l2, l3, l4, l5, l6, l7] σ μ la Q := (qEx_eq (i := .aload_n 0) rfl).trans Iff.rfl
theorem x106_1 {x : Int32} {l0 l2 l3 l4 l5 l6 l7 : Value} : qEx d 106 1 st [l0, .int x, l2, l3, l4, l5, l6, l7] σ μ la Q ↔ qEx d 106 2 (.int x :: st) [l0, .int x, l2, l3, l4, l5, l6, l7] σ μ la Q := (qEx_eq (i := .iload_n 1) rfl).trans Iff.rfl
theorem x106_2 {x : Int32} {l0 l1 l3 l4 l5 l6 l7 : Value} : qEx d 106 2 st [l0, l1, .int x, l3, l4, l5, l6, l7] σ μ la Q ↔ qEx d 106 3 (.int x :: st) [l0, l1, .int x, l3, l4, l5, l6, l7] σ μ la Q := (qEx_eq (i := .iload_n 2) rfl).trans Iff.rfl
theorem x106_3 {x : Int32} {l0 l1 l2 l4 l5 l6 l7 : Value} : qEx d 106 3 st [l0, l1, l2, .int x, l4, l5, l6, l7] σ μ la Q ↔ qEx d 106 4 (.int x :: st) [l0, l1, l2, .int x, l4, l5, l6, l7] σ μ la Q := (qEx_eq (i := .iload_n 3) rfl).trans Iff.rfl
theorem x106_4 {x : Int32} {l0 l1 l2 l3 l5 l6 l7 : Value} : qEx d 106 4 st [l0, l1, l2, l3, .int x, l5, l6, l7] σ μ la Q ↔ qEx d 106 6 (.int x :: st) [l0, l1, l2, l3, .int x, l5, l6, l7] σ μ la Q := (qEx_eq (i := .iload 4) rfl).trans Iff.rfl
theorem x106_6 {y0 : Int32} {y1 : Int32} {y2 : Int32} {y3 : Int32} {a : Nat} : qEx (d + 1) 106 6 [.int y3, .int y2, .int y1, .int y0, .ref a] ls σ μ la Q ↔ (qOk σ a 6 = true ∧ qEx d 114 0 [] [.ref a, .int y0, .int y1, .int y2, .int y3] σ μ la fun r σ' μ' la' => qEx (d + 1) 106 9 (r.toList ++ []) ls σ' μ' la' Q) := (qEx_eq (i := .invokevirtual 228) rfl).trans qExA_chk
theorem x106_9 {x : Int32} {l0 l1 l2 l3 l4 l5 l6 l7 : Value} : qEx d 106 9 (.int x :: st) [l0, l1, l2, l3, l4, l5, l6, l7] σ μ la Q ↔ qEx d 106 11 st [l0, l1, l2, l3, l4, .int x, l6, l7] σ μ la Q := (qEx_eq (i := .istore 5) rfl).trans Iff.rfl
theorem x106_11 {x : Int32} {l0 l1 l2 l3 l4 l6 l7 : Value} : qEx d 106 11 st [l0, l1, l2, l3, l4, .int x, l6, l7] σ μ la Q ↔ qEx d 106 13 (.int x :: st) [l0, l1, l2, l3, l4, .int x, l6, l7] σ μ la Q := (qEx_eq (i := .iload 5) rfl).trans Iff.rfl
theorem x106_13 {x : Int32} : qEx d 106 13 (.int x :: st) ls σ μ la Q ↔ (if x = 0 then qEx d 106 19 st ls σ μ la Q else qEx d 106 16 st ls σ μ la Q) := (qEx_eq (i := .ifCond .eq 6) rfl).trans qExA_ite
theorem x106_16 {x : Int32} {l0 l1 l2 l3 l4 l6 l7 : Value} : qEx d 106 16 st [l0, l1, l2, l3, l4, .int x, l6, l7] σ μ la Q ↔ qEx d 106 18 (.int x :: st) [l0, l1, l2, l3, l4, .int x, l6, l7] σ μ la Q := (qEx_eq (i := .iload 5) rfl).trans Iff.rfl
theorem x106_18 {x : Int32} : qEx d 106 18 [.int x] ls σ μ la Q ↔ Q (some (.int x)) σ μ la := (qEx_eq (i := .ireturn) rfl).trans Iff.rfl
theorem x106_19  : qEx d 106 19 st ls σ μ la Q ↔ qEx d 106 20 (.int 0 :: st) ls σ μ la Q := (qEx_eq (i := .iconst 0) rfl).trans Iff.rfl
theorem x106_20 {x : Int32} {l0 l1 l2 l3 l4 l5 l6 l7 : Value} : qEx d 106 20 (.int x :: st) [l0, l1, l2, l3, l4, l5, l6, l7] σ μ la Q ↔ qEx d 106 22 st [l0, l1, l2, l3, l4, l5, .int x, l7] σ μ la Q := (qEx_eq (i := .istore 6) rfl).trans Iff.rfl
theorem x106_22  : qEx d 106 22 st ls σ μ la Q ↔ qEx d 106 23 (.int 0 :: st) ls σ μ la Q := (qEx_eq (i := .iconst 0) rfl).trans Iff.rfl
theorem x106_23 {x : Int32} {l0 l1 l2 l3 l4 l5 l6 l7 : Value} : qEx d 106 23 (.int x :: st) [l0, l1, l2, l3, l4, l5, l6, l7] σ μ la Q ↔ qEx d 106 25 st [l0, l1, l2, l3, l4, l5, l6, .int x] σ μ la Q := (qEx_eq (i := .istore 7) rfl).trans Iff.rfl
theorem x106_25 {x : Int32} {l0 l1 l2 l3 l4 l5 l6 : Value} : qEx d 106 25 st [l0, l1, l2, l3, l4, l5, l6, .int x] σ μ la Q ↔ qEx d 106 27 (.int x :: st) [l0, l1, l2, l3, l4, l5, l6, .int x] σ μ la Q := (qEx_eq (i := .iload 7) rfl).trans Iff.rfl
theorem x106_27 {x : Nat} {l1 l2 l3 l4 l5 l6 l7 : Value} : qEx d 106 27 st [.ref x, l1, l2, l3, l4, l5, l6, l7] σ μ la Q ↔ qEx d 106 28 (.ref x :: st) [.ref x, l1, l2, l3, l4, l5, l6, l7] σ μ la Q := (qEx_eq (i := .aload_n 0) rfl).trans Iff.rfl
theorem x106_28 {a : Nat} : qEx d 106 28 (.ref a :: st) ls σ μ la Q ↔ (qOk σ a 6 = true ∧ qEx d 106 31 (qrf (σ.2 a 1) :: st) ls σ μ la Q) := (qEx_eq (i := .getfield 27) rfl).trans qExA_chk
theorem x106_31 {a : Nat} : qEx d 106 31 (.ref a :: st) ls σ μ la Q ↔ (qOk σ a 4 = true ∧ qEx d 106 34 (.int (μ a 2) :: st) ls σ μ la Q) := (qEx_eq (i := .getfield 81) rfl).trans qExA_chk
theorem x106_34 {x y : Int32} : qEx d 106 34 (.int y :: .int x :: st) ls σ μ la Q ↔ (if y ≤ x then qEx d 106 72 st ls σ μ la Q else qEx d 106 37 st ls σ μ la Q) := (qEx_eq (i := .if_icmp .ge 38) rfl).trans qExA_ite
theorem x106_37 {x : Nat} {l1 l2 l3 l4 l5 l6 l7 : Value} : qEx d 106 37 st [.ref x, l1, l2, l3, l4, l5, l6, l7] σ μ la Q ↔ qEx d 106 38 (.ref x :: st) [.ref x, l1, l2, l3, l4, l5, l6, l7] σ μ la Q := (qEx_eq (i := .aload_n 0) rfl).trans Iff.rfl
theorem x106_38 {x : Int32} {l0 l1 l2 l3 l4 l5 l6 : Value} : qEx d 106 38 st [l0, l1, l2, l3, l4, l5, l6, .int x] σ μ la Q ↔ qEx d 106 40 (.int x :: st) [l0, l1, l2, l3, l4, l5, l6, .int x] σ μ la Q := (qEx_eq (i := .iload 7) rfl).trans Iff.rfl
theorem x106_40 {x : Nat} {l1 l2 l3 l4 l5 l6 l7 : Value} : qEx d 106 40 st [.ref x, l1, l2, l3, l4, l5, l6, l7] σ μ la Q ↔ qEx d 106 41 (.ref x :: st) [.ref x, l1, l2, l3, l4, l5, l6, l7] σ μ la Q := (qEx_eq (i := .aload_n 0) rfl).trans Iff.rfl
theorem x106_41 {a : Nat} : qEx d 106 41 (.ref a :: st) ls σ μ la Q ↔ (qOk σ a 6 = true ∧ qEx d 106 44 (qrf (σ.2 a 4) :: st) ls σ μ la Q) := (qEx_eq (i := .getfield 45) rfl).trans qExA_chk
theorem x106_44 {x : Int32} {l0 l2 l3 l4 l5 l6 l7 : Value} : qEx d 106 44 st [l0, .int x, l2, l3, l4, l5, l6, l7] σ μ la Q ↔ qEx d 106 45 (.int x :: st) [l0, .int x, l2, l3, l4, l5, l6, l7] σ μ la Q := (qEx_eq (i := .iload_n 1) rfl).trans Iff.rfl
theorem x106_45 {x : Int32} {a : Nat} : qEx d 106 45 (.int x :: .ref a :: st) ls σ μ la Q ↔ (qIn x (qAld σ a) = true ∧ qEx d 106 46 (qrf (σ.2 a x.toNatClampNeg) :: st) ls σ μ la Q) := (qEx_eq (i := .aaload) rfl).trans qExA_chk
theorem x106_46 {x : Int32} {l0 l1 l2 l4 l5 l6 l7 : Value} : qEx d 106 46 st [l0, l1, l2, .int x, l4, l5, l6, l7] σ μ la Q ↔ qEx d 106 47 (.int x :: st) [l0, l1, l2, .int x, l4, l5, l6, l7] σ μ la Q := (qEx_eq (i := .iload_n 3) rfl).trans Iff.rfl
theorem x106_47 {x : Int32} {l0 l1 l2 l3 l5 l6 l7 : Value} : qEx d 106 47 st [l0, l1, l2, l3, .int x, l5, l6, l7] σ μ la Q ↔ qEx d 106 49 (.int x :: st) [l0, l1, l2, l3, .int x, l5, l6, l7] σ μ la Q := (qEx_eq (i := .iload 4) rfl).trans Iff.rfl
theorem x106_49 {y0 : Int32} {y1 : Nat} {y2 : Int32} {y3 : Int32} {a : Nat} : qEx (d + 1) 106 49 [.int y3, .int y2, .ref y1, .int y0, .ref a] ls σ μ la Q ↔ (qOk σ a 6 = true ∧ qEx d 116 0 [] [.ref a, .int y0, .ref y1, .int y2, .int y3, .retAddr 0] σ μ la fun r σ' μ' la' => qEx (d + 1) 106 52 (r.toList ++ []) ls σ' μ' la' Q) := (qEx_eq (i := .invokevirtual 234) rfl).trans qExA_chk
theorem x106_52  : qEx d 106 52 st ls σ μ la Q ↔ qEx d 106 54 (.int (-4) :: st) ls σ μ la Q := (qEx_eq (i := .bipush (-4)) rfl).trans Iff.rfl
theorem x106_54 {x y : Int32} : qEx d 106 54 (.int y :: .int x :: st) ls σ μ la Q ↔ (if x = y then qEx d 106 66 st ls σ μ la Q else qEx d 106 57 st ls σ μ la Q) := (qEx_eq (i := .if_icmp .eq 12) rfl).trans qExA_ite
theorem x106_57 {x : Int32} {l0 l1 l2 l3 l4 l5 l7 : Value} : qEx d 106 57 st [l0, l1, l2, l3, l4, l5, .int x, l7] σ μ la Q ↔ qEx d 106 59 (.int x :: st) [l0, l1, l2, l3, l4, l5, .int x, l7] σ μ la Q := (qEx_eq (i := .iload 6) rfl).trans Iff.rfl
theorem x106_59  : qEx d 106 59 st ls σ μ la Q ↔ qEx d 106 60 (.int 1 :: st) ls σ μ la Q := (qEx_eq (i := .iconst 1) rfl).trans Iff.rfl
theorem x106_60 {x : Int32} {l0 l1 l2 l3 l4 l5 l6 : Value} : qEx d 106 60 st [l0, l1, l2, l3, l4, l5, l6, .int x] σ μ la Q ↔ qEx d 106 62 (.int x :: st) [l0, l1, l2, l3, l4, l5, l6, .int x] σ μ la Q := (qEx_eq (i := .iload 7) rfl).trans Iff.rfl
theorem x106_62 {x y : Int32} : qEx d 106 62 (.int y :: .int x :: st) ls σ μ la Q ↔ qEx d 106 63 (.int (x <<< (y &&& 31)) :: st) ls σ μ la Q := (qEx_eq (i := .ishl) rfl).trans Iff.rfl
theorem x106_63 {x y : Int32} : qEx d 106 63 (.int y :: .int x :: st) ls σ μ la Q ↔ qEx d 106 64 (.int (x ||| y) :: st) ls σ μ la Q := (qEx_eq (i := .ior) rfl).trans Iff.rfl
theorem x106_64 {x : Int32} {l0 l1 l2 l3 l4 l5 l6 l7 : Value} : qEx d 106 64 (.int x :: st) [l0, l1, l2, l3, l4, l5, l6, l7] σ μ la Q ↔ qEx d 106 66 st [l0, l1, l2, l3, l4, l5, .int x, l7] σ μ la Q := (qEx_eq (i := .istore 6) rfl).trans Iff.rfl
theorem x106_66 {x : Int32} {l0 l1 l2 l3 l4 l5 l6 : Value} : qEx d 106 66 st [l0, l1, l2, l3, l4, l5, l6, .int x] σ μ la Q ↔ qEx d 106 69 st [l0, l1, l2, l3, l4, l5, l6, .int (x + 1)] σ μ la Q := (qEx_eq (i := .iinc 7 1) rfl).trans Iff.rfl
theorem x106_69  : qEx d 106 69 st ls σ μ la Q ↔ qEx d 106 25 st ls σ μ la Q := (qEx_eq (i := .goto (-44)) rfl).trans Iff.rfl
theorem x106_72 {x : Int32} {l0 l1 l2 l3 l4 l5 l7 : Value} : qEx d 106 72 st [l0, l1, l2, l3, l4, l5, .int x, l7] σ μ la Q ↔ qEx d 106 74 (.int x :: st) [l0, l1, l2, l3, l4, l5, .int x, l7] σ μ la Q := (qEx_eq (i := .iload 6) rfl).trans Iff.rfl
theorem x106_74 {x : Int32} : qEx d 106 74 [.int x] ls σ μ la Q ↔ Q (some (.int x)) σ μ la := (qEx_eq (i := .ireturn) rfl).trans Iff.rfl
theorem x107_0 {x : Nat} {l1 l2 l3 l4 l5 l6 : Value} : qEx d 107 0 st [.ref x, l1, l2, l3, l4, l5, l6] σ μ la Q ↔ qEx d 107 1 (.ref x :: st) [.ref x, l1, l2, l3, l4, l5, l6] σ μ la Q := (qEx_eq (i := .aload_n 0) rfl).trans Iff.rfl
theorem x107_1 {a : Nat} : qEx d 107 1 (.ref a :: st) ls σ μ la Q ↔ (qOk σ a 6 = true ∧ qEx d 107 4 (qrf (σ.2 a 1) :: st) ls σ μ la Q) := (qEx_eq (i := .getfield 27) rfl).trans qExA_chk
theorem x107_4 {x : Int32} {l0 l2 l3 l4 l5 l6 : Value} : qEx d 107 4 st [l0, .int x, l2, l3, l4, l5, l6] σ μ la Q ↔ qEx d 107 5 (.int x :: st) [l0, .int x, l2, l3, l4, l5, l6] σ μ la Q := (qEx_eq (i := .iload_n 1) rfl).trans Iff.rfl
theorem x107_5 {y0 : Int32} {a : Nat} : qEx (d + 1) 107 5 [.int y0, .ref a] ls σ μ la Q ↔ (qOk σ a 4 = true ∧ qEx d 60 0 [] [.ref a, .int y0] σ μ la fun r σ' μ' la' => qEx (d + 1) 107 8 (r.toList ++ []) ls σ' μ' la' Q) := (qEx_eq (i := .invokevirtual 84) rfl).trans qExA_chk
theorem x107_8 {x : Int32} : qEx d 107 8 (.int x :: st) ls σ μ la Q ↔ (if ¬ x = 0 then qEx d 107 13 st ls σ μ la Q else qEx d 107 11 st ls σ μ la Q) := (qEx_eq (i := .ifCond .ne 5) rfl).trans qExA_ite
theorem x107_11  : qEx d 107 11 st ls σ μ la Q ↔ qEx d 107 12 (.int (-1) :: st) ls σ μ la Q := (qEx_eq (i := .iconst (-1)) rfl).trans Iff.rfl
theorem x107_12 {x : Int32} : qEx d 107 12 [.int x] ls σ μ la Q ↔ Q (some (.int x)) σ μ la := (qEx_eq (i := .ireturn) rfl).trans Iff.rfl
theorem x107_13 {x : Nat} {l1 l2 l3 l4 l5 l6 : Value} : qEx d 107 13 st [.ref x, l1, l2, l3, l4, l5, l6] σ μ la Q ↔ qEx d 107 14 (.ref x :: st) [.ref x, l1, l2, l3, l4, l5, l6] σ μ la Q := (qEx_eq (i := .aload_n 0) rfl).trans Iff.rfl
theorem x107_14 {x : Int32} {l0 l1 l3 l4 l5 l6 : Value} : qEx d 107 14 st [l0, l1, .int x, l3, l4, l5, l6] σ μ la Q ↔ qEx d 107 15 (.int x :: st) [l0, l1, .int x, l3, l4, l5, l6] σ μ la Q := (qEx_eq (i := .iload_n 2) rfl).trans Iff.rfl
theorem x107_15 {x : Int32} {l0 l1 l2 l4 l5 l6 : Value} : qEx d 107 15 st [l0, l1, l2, .int x, l4, l5, l6] σ μ la Q ↔ qEx d 107 16 (.int x :: st) [l0, l1, l2, .int x, l4, l5, l6] σ μ la Q := (qEx_eq (i := .iload_n 3) rfl).trans Iff.rfl
theorem x107_16 {x : Int32} {l0 l1 l2 l3 l5 l6 : Value} : qEx d 107 16 st [l0, l1, l2, l3, .int x, l5, l6] σ μ la Q ↔ qEx d 107 18 (.int x :: st) [l0, l1, l2, l3, .int x, l5, l6] σ μ la Q := (qEx_eq (i := .iload 4) rfl).trans Iff.rfl
theorem x107_18 {x : Int32} {l0 l1 l2 l3 l4 l6 : Value} : qEx d 107 18 st [l0, l1, l2, l3, l4, .int x, l6] σ μ la Q ↔ qEx d 107 20 (.int x :: st) [l0, l1, l2, l3, l4, .int x, l6] σ μ la Q := (qEx_eq (i := .iload 5) rfl).trans Iff.rfl
theorem x107_20 {y0 : Int32} {y1 : Int32} {y2 : Int32} {y3 : Int32} {a : Nat} : qEx (d + 1) 107 20 [.int y3, .int y2, .int y1, .int y0, .ref a] ls σ μ la Q ↔ (qOk σ a 6 = true ∧ qEx d 114 0 [] [.ref a, .int y0, .int y1, .int y2, .int y3] σ μ la fun r σ' μ' la' => qEx (d + 1) 107 23 (r.toList ++ []) ls σ' μ' la' Q) := (qEx_eq (i := .invokevirtual 228) rfl).trans qExA_chk
theorem x107_23 {x : Int32} {l0 l1 l2 l3 l4 l5 l6 : Value} : qEx d 107 23 (.int x :: st) [l0, l1, l2, l3, l4, l5, l6] σ μ la Q ↔ qEx d 107 25 st [l0, l1, l2, l3, l4, l5, .int x] σ μ la Q := (qEx_eq (i := .istore 6) rfl).trans Iff.rfl
theorem x107_25 {x : Int32} {l0 l1 l2 l3 l4 l5 : Value} : qEx d 107 25 st [l0, l1, l2, l3, l4, l5, .int x] σ μ la Q ↔ qEx d 107 27 (.int x :: st) [l0, l1, l2, l3, l4, l5, .int x] σ μ la Q := (qEx_eq (i := .iload 6) rfl).trans Iff.rfl
theorem x107_27 {x : Int32} : qEx d 107 27 (.int x :: st) ls σ μ la Q ↔ (if ¬ x = 0 then qEx d 107 48 st ls σ μ la Q else qEx d 107 30 st ls σ μ la Q) := (qEx_eq (i := .ifCond .ne 21) rfl).trans qExA_ite
theorem x107_30 {x : Nat} {l1 l2 l3 l4 l5 l6 : Value} : qEx d 107 30 st [.ref x, l1, l2, l3, l4, l5, l6] σ μ la Q ↔ qEx d 107 31 (.ref x :: st) [.ref x, l1, l2, l3, l4, l5, l6] σ μ la Q := (qEx_eq (i := .aload_n 0) rfl).trans Iff.rfl
theorem x107_31 {x : Int32} {l0 l2 l3 l4 l5 l6 : Value} : qEx d 107 31 st [l0, .int x, l2, l3, l4, l5, l6] σ μ la Q ↔ qEx d 107 32 (.int x :: st) [l0, .int x, l2, l3, l4, l5, l6] σ μ la Q := (qEx_eq (i := .iload_n 1) rfl).trans Iff.rfl
theorem x107_32 {x : Nat} {l1 l2 l3 l4 l5 l6 : Value} : qEx d 107 32 st [.ref x, l1, l2, l3, l4, l5, l6] σ μ la Q ↔ qEx d 107 33 (.ref x :: st) [.ref x, l1, l2, l3, l4, l5, l6] σ μ la Q := (qEx_eq (i := .aload_n 0) rfl).trans Iff.rfl
theorem x107_33 {a : Nat} : qEx d 107 33 (.ref a :: st) ls σ μ la Q ↔ (qOk σ a 6 = true ∧ qEx d 107 36 (qrf (σ.2 a 4) :: st) ls σ μ la Q) := (qEx_eq (i := .getfield 45) rfl).trans qExA_chk
theorem x107_36 {x : Int32} {l0 l1 l3 l4 l5 l6 : Value} : qEx d 107 36 st [l0, l1, .int x, l3, l4, l5, l6] σ μ la Q ↔ qEx d 107 37 (.int x :: st) [l0, l1, .int x, l3, l4, l5, l6] σ μ la Q := (qEx_eq (i := .iload_n 2) rfl).trans Iff.rfl
theorem x107_37 {x : Int32} {a : Nat} : qEx d 107 37 (.int x :: .ref a :: st) ls σ μ la Q ↔ (qIn x (qAld σ a) = true ∧ qEx d 107 38 (qrf (σ.2 a x.toNatClampNeg) :: st) ls σ μ la Q) := (qEx_eq (i := .aaload) rfl).trans qExA_chk
theorem x107_38 {x : Int32} {l0 l1 l2 l3 l5 l6 : Value} : qEx d 107 38 st [l0, l1, l2, l3, .int x, l5, l6] σ μ la Q ↔ qEx d 107 40 (.int x :: st) [l0, l1, l2, l3, .int x, l5, l6] σ μ la Q := (qEx_eq (i := .iload 4) rfl).trans Iff.rfl
theorem x107_40 {x : Int32} {l0 l1 l2 l3 l4 l6 : Value} : qEx d 107 40 st [l0, l1, l2, l3, l4, .int x, l6] σ μ la Q ↔ qEx d 107 42 (.int x :: st) [l0, l1, l2, l3, l4, .int x, l6] σ μ la Q := (qEx_eq (i := .iload 5) rfl).trans Iff.rfl
theorem x107_42 {y0 : Int32} {y1 : Nat} {y2 : Int32} {y3 : Int32} {a : Nat} : qEx (d + 1) 107 42 [.int y3, .int y2, .ref y1, .int y0, .ref a] ls σ μ la Q ↔ (qOk σ a 6 = true ∧ qEx d 116 0 [] [.ref a, .int y0, .ref y1, .int y2, .int y3, .retAddr 0] σ μ la fun r σ' μ' la' => qEx (d + 1) 107 45 (r.toList ++ []) ls σ' μ' la' Q) := (qEx_eq (i := .invokevirtual 234) rfl).trans qExA_chk
theorem x107_45  : qEx d 107 45 st ls σ μ la Q ↔ qEx d 107 50 st ls σ μ la Q := (qEx_eq (i := .goto 5) rfl).trans Iff.rfl
theorem x107_48 {x : Int32} {l0 l1 l2 l3 l4 l5 : Value} : qEx d 107 48 st [l0, l1, l2, l3, l4, l5, .int x] σ μ la Q ↔ qEx d 107 50 (.int x :: st) [l0, l1, l2, l3, l4, l5, .int x] σ μ la Q := (qEx_eq (i := .iload 6) rfl).trans Iff.rfl
theorem x107_50 {x : Int32} : qEx d 107 50 [.int x] ls σ μ la Q ↔ Q (some (.int x)) σ μ la := (qEx_eq (i := .ireturn) rfl).trans Iff.rfl
theorem x108_0 {x : Nat} {l1 l2 l3 l4 l5 l6 l7 l8 : Value} : qEx d 108 0 st [.ref x, l1, l2, l3, l4, l5, l6, l7, l8] σ μ la Q ↔ qEx d 108 1 (.ref x :: st) [.ref x, l1, l2, l3, l4, l5, l6, l7, l8] σ μ la Q := (qEx_eq (i := .aload_n 0) rfl).trans Iff.rfl
theorem x108_1 {a : Nat} : qEx d 108 1 (.ref a :: st) ls σ μ la Q ↔ (qOk σ a 6 = true ∧ qEx d 108 4 (qrf (σ.2 a 1) :: st) ls σ μ la Q) := (qEx_eq (i := .getfield 27) rfl).trans qExA_chk
theorem x108_4 {x : Int32} {l0 l2 l3 l4 l5 l6 l7 l8 : Value} : qEx d 108 4 st [l0, .int x, l2, l3, l4, l5, l6, l7, l8] σ μ la Q ↔ qEx d 108 5 (.int x :: st) [l0, .int x, l2, l3, l4, l5, l6, l7, l8] σ μ la Q := (qEx_eq (i := .iload_n 1) rfl).trans Iff.rfl
theorem x108_5 {y0 : Int32} {a : Nat} : qEx (d + 1) 108 5 [.int y0, .ref a] ls σ μ la Q ↔ (qOk σ a 4 = true ∧ qEx d 60 0 [] [.ref a, .int y0] σ μ la fun r σ' μ' la' => qEx (d + 1) 108 8 (r.toList ++ []) ls σ' μ' la' Q) := (qEx_eq (i := .invokevirtual 84) rfl).trans qExA_chk
theorem x108_8 {x : Int32} : qEx d 108 8 (.int x :: st) ls σ μ la Q ↔ (if ¬ x = 0 then qEx d 108 13 st ls σ μ la Q else qEx d 108 11 st ls σ μ la Q) := (qEx_eq (i := .ifCond .ne 5) rfl).trans qExA_ite
theorem x108_11  : qEx d 108 11 st ls σ μ la Q ↔ qEx d 108 12 (.int (-1) :: st) ls σ μ la Q := (qEx_eq (i := .iconst (-1)) rfl).trans Iff.rfl
theorem x108_12 {x : Int32} : qEx d 108 12 [.int x] ls σ μ la Q ↔ Q (some (.int x)) σ μ la := (qEx_eq (i := .ireturn) rfl).trans Iff.rfl
theorem x108_13 {x : Nat} {l1 l2 l3 l4 l5 l6 l7 l8 : Value} : qEx d 108 13 st [.ref x, l1, l2, l3, l4, l5, l6, l7, l8] σ μ la Q ↔ qEx d 108 14 (.ref x :: st) [.ref x, l1, l2, l3, l4, l5, l6, l7, l8] σ μ la Q := (qEx_eq (i := .aload_n 0) rfl).trans Iff.rfl
theorem x108_14 {x : Int32} {l0 l1 l3 l4 l5 l6 l7 l8 : Value} : qEx d 108 14 st [l0, l1, .int x, l3, l4, l5, l6, l7, l8] σ μ la Q ↔ qEx d 108 15 (.int x :: st) [l0, l1, .int x, l3, l4, l5, l6, l7, l8] σ μ la Q := (qEx_eq (i := .iload_n 2) rfl).trans Iff.rfl
theorem x108_15 {x : Int32} {l0 l1 l2 l4 l5 l6 l7 l8 : Value} : qEx d 108 15 st [l0, l1, l2, .int x, l4, l5, l6, l7, l8] σ μ la Q ↔ qEx d 108 16 (.int x :: st) [l0, l1, l2, .int x, l4, l5, l6, l7, l8] σ μ la Q := (qEx_eq (i := .iload_n 3) rfl).trans Iff.rfl
theorem x108_16 {x : Int32} {l0 l1 l2 l3 l5 l6 l7 l8 : Value} : qEx d 108 16 st [l0, l1, l2, l3, .int x, l5, l6, l7, l8] σ μ la Q ↔ qEx d 108 18 (.int x :: st) [l0, l1, l2, l3, .int x, l5, l6, l7, l8] σ μ la Q := (qEx_eq (i := .iload 4) rfl).trans Iff.rfl
theorem x108_18 {x : Int32} {l0 l1 l2 l3 l4 l6 l7 l8 : Value} : qEx d 108 18 st [l0, l1, l2, l3, l4, .int x, l6, l7, l8] σ μ la Q ↔ qEx d 108 20 (.int x :: st) [l0, l1, l2, l3, l4, .int x, l6, l7, l8] σ μ la Q := (qEx_eq (i := .iload 5) rfl).trans Iff.rfl
theorem x108_20 {y0 : Int32} {y1 : Int32} {y2 : Int32} {y3 : Int32} {a : Nat} : qEx (d + 1) 108 20 [.int y3, .int y2, .int y1, .int y0, .ref a] ls σ μ la Q ↔ (qOk σ a 6 = true ∧ qEx d 114 0 [] [.ref a, .int y0, .int y1, .int y2, .int y3] σ μ la fun r σ' μ' la' => qEx (d + 1) 108 23 (r.toList ++ []) ls σ' μ' la' Q) := (qEx_eq (i := .invokevirtual 228) rfl).trans qExA_chk
theorem x108_23 {x : Int32} {l0 l1 l2 l3 l4 l5 l6 l7 l8 : Value} : qEx d 108 23 (.int x :: st) [l0, l1, l2, l3, l4, l5, l6, l7, l8] σ μ la Q ↔ qEx d 108 25 st [l0, l1, l2, l3, l4, l5, .int x, l7, l8] σ μ la Q := (qEx_eq (i := .istore 6) rfl).trans Iff.rfl
theorem x108_25 {x : Int32} {l0 l1 l2 l3 l4 l5 l7 l8 : Value} : qEx d 108 25 st [l0, l1, l2, l3, l4, l5, .int x, l7, l8] σ μ la Q ↔ qEx d 108 27 (.int x :: st) [l0, l1, l2, l3, l4, l5, .int x, l7, l8] σ μ la Q := (qEx_eq (i := .iload 6) rfl).trans Iff.rfl
theorem x108_27 {x : Int32} : qEx d 108 27 (.int x :: st) ls σ μ la Q ↔ (if x = 0 then qEx d 108 33 st ls σ μ la Q else qEx d 108 30 st ls σ μ la Q) := (qEx_eq (i := .ifCond .eq 6) rfl).trans qExA_ite
theorem x108_30 {x : Int32} {l0 l1 l2 l3 l4 l5 l7 l8 : Value} : qEx d 108 30 st [l0, l1, l2, l3, l4, l5, .int x, l7, l8] σ μ la Q ↔ qEx d 108 32 (.int x :: st) [l0, l1, l2, l3, l4, l5, .int x, l7, l8] σ μ la Q := (qEx_eq (i := .iload 6) rfl).trans Iff.rfl
theorem x108_32 {x : Int32} : qEx d 108 32 [.int x] ls σ μ la Q ↔ Q (some (.int x)) σ μ la := (qEx_eq (i := .ireturn) rfl).trans Iff.rfl
theorem x108_33  : qEx d 108 33 st ls σ μ la Q ↔ qEx d 108 34 (.int 0 :: st) ls σ μ la Q := (qEx_eq (i := .iconst 0) rfl).trans Iff.rfl
theorem x108_34 {x : Int32} {l0 l1 l2 l3 l4 l5 l6 l7 l8 : Value} : qEx d 108 34 (.int x :: st) [l0, l1, l2, l3, l4, l5, l6, l7, l8] σ μ la Q ↔ qEx d 108 36 st [l0, l1, l2, l3, l4, l5, l6, .int x, l8] σ μ la Q := (qEx_eq (i := .istore 7) rfl).trans Iff.rfl
theorem x108_36  : qEx d 108 36 st ls σ μ la Q ↔ qEx d 108 37 (.int 1 :: st) ls σ μ la Q := (qEx_eq (i := .iconst 1) rfl).trans Iff.rfl
theorem x108_37 {x : Int32} {l0 l1 l2 l3 l4 l5 l6 l7 l8 : Value} : qEx d 108 37 (.int x :: st) [l0, l1, l2, l3, l4, l5, l6, l7, l8] σ μ la Q ↔ qEx d 108 39 st [l0, l1, l2, l3, l4, l5, l6, l7, .int x] σ μ la Q := (qEx_eq (i := .istore 8) rfl).trans Iff.rfl
theorem x108_39 {x : Int32} {l0 l1 l2 l3 l4 l5 l6 l7 : Value} : qEx d 108 39 st [l0, l1, l2, l3, l4, l5, l6, l7, .int x] σ μ la Q ↔ qEx d 108 41 (.int x :: st) [l0, l1, l2, l3, l4, l5, l6, l7, .int x] σ μ la Q := (qEx_eq (i := .iload 8) rfl).trans Iff.rfl
theorem x108_41  : qEx d 108 41 st ls σ μ la Q ↔ qEx d 108 43 (.int 6 :: st) ls σ μ la Q := (qEx_eq (i := .bipush 6) rfl).trans Iff.rfl
theorem x108_43 {x y : Int32} : qEx d 108 43 (.int y :: .int x :: st) ls σ μ la Q ↔ (if y ≤ x then qEx d 108 113 st ls σ μ la Q else qEx d 108 46 st ls σ μ la Q) := (qEx_eq (i := .if_icmp .ge 70) rfl).trans qExA_ite
theorem x108_46 {x : Nat} {l1 l2 l3 l4 l5 l6 l7 l8 : Value} : qEx d 108 46 st [.ref x, l1, l2, l3, l4, l5, l6, l7, l8] σ μ la Q ↔ qEx d 108 47 (.ref x :: st) [.ref x, l1, l2, l3, l4, l5, l6, l7, l8] σ μ la Q := (qEx_eq (i := .aload_n 0) rfl).trans Iff.rfl
theorem x108_47 {a : Nat} : qEx d 108 47 (.ref a :: st) ls σ μ la Q ↔ (qOk σ a 6 = true ∧ qEx d 108 50 (qrf (σ.2 a 5) :: st) ls σ μ la Q) := (qEx_eq (i := .getfield 52) rfl).trans qExA_chk
theorem x108_50 {x : Nat} {l1 l2 l3 l4 l5 l6 l7 l8 : Value} : qEx d 108 50 st [.ref x, l1, l2, l3, l4, l5, l6, l7, l8] σ μ la Q ↔ qEx d 108 51 (.ref x :: st) [.ref x, l1, l2, l3, l4, l5, l6, l7, l8] σ μ la Q := (qEx_eq (i := .aload_n 0) rfl).trans Iff.rfl
theorem x108_51 {a : Nat} : qEx d 108 51 (.ref a :: st) ls σ μ la Q ↔ (qOk σ a 6 = true ∧ qEx d 108 54 (qrf (σ.2 a 1) :: st) ls σ μ la Q) := (qEx_eq (i := .getfield 27) rfl).trans qExA_chk
theorem x108_54 {x : Int32} {l0 l2 l3 l4 l5 l6 l7 l8 : Value} : qEx d 108 54 st [l0, .int x, l2, l3, l4, l5, l6, l7, l8] σ μ la Q ↔ qEx d 108 55 (.int x :: st) [l0, .int x, l2, l3, l4, l5, l6, l7, l8] σ μ la Q := (qEx_eq (i := .iload_n 1) rfl).trans Iff.rfl
theorem x108_55 {x : Int32} {l0 l1 l2 l3 l4 l5 l6 l7 : Value} : qEx d 108 55 st [l0, l1, l2, l3, l4, l5, l6, l7, .int x] σ μ la Q ↔ qEx d 108 57 (.int x :: st) [l0, l1, l2, l3, l4, l5, l6, l7, .int x] σ μ la Q := (qEx_eq (i := .iload 8) rfl).trans Iff.rfl
theorem x108_57 {x : Nat} {l1 l2 l3 l4 l5 l6 l7 l8 : Value} : qEx d 108 57 st [.ref x, l1, l2, l3, l4, l5, l6, l7, l8] σ μ la Q ↔ qEx d 108 58 (.ref x :: st) [.ref x, l1, l2, l3, l4, l5, l6, l7, l8] σ μ la Q := (qEx_eq (i := .aload_n 0) rfl).trans Iff.rfl
theorem x108_58 {a : Nat} : qEx d 108 58 (.ref a :: st) ls σ μ la Q ↔ (qOk σ a 6 = true ∧ qEx d 108 61 (qrf (σ.2 a 1) :: st) ls σ μ la Q) := (qEx_eq (i := .getfield 27) rfl).trans qExA_chk
theorem x108_61 {a : Nat} : qEx d 108 61 (.ref a :: st) ls σ μ la Q ↔ (qOk σ a 4 = true ∧ qEx d 108 64 (qrf (σ.2 a 9) :: st) ls σ μ la Q) := (qEx_eq (i := .getfield 94) rfl).trans qExA_chk
theorem x108_64 {x : Int32} {l0 l2 l3 l4 l5 l6 l7 l8 : Value} : qEx d 108 64 st [l0, .int x, l2, l3, l4, l5, l6, l7, l8] σ μ la Q ↔ qEx d 108 65 (.int x :: st) [l0, .int x, l2, l3, l4, l5, l6, l7, l8] σ μ la Q := (qEx_eq (i := .iload_n 1) rfl).trans Iff.rfl
theorem x108_65 {x : Int32} {a : Nat} : qEx d 108 65 (.int x :: .ref a :: st) ls σ μ la Q ↔ (qIn x (qIld σ μ a) = true ∧ qEx d 108 66 (.int (μ a x.toNatClampNeg) :: st) ls σ μ la Q) := (qEx_eq (i := .iaload) rfl).trans qExA_chk
theorem x108_66 {x : Nat} {l1 l2 l3 l4 l5 l6 l7 l8 : Value} : qEx d 108 66 st [.ref x, l1, l2, l3, l4, l5, l6, l7, l8] σ μ la Q ↔ qEx d 108 67 (.ref x :: st) [.ref x, l1, l2, l3, l4, l5, l6, l7, l8] σ μ la Q := (qEx_eq (i := .aload_n 0) rfl).trans Iff.rfl
theorem x108_67 {a : Nat} : qEx d 108 67 (.ref a :: st) ls σ μ la Q ↔ (qOk σ a 6 = true ∧ qEx d 108 70 (qrf (σ.2 a 1) :: st) ls σ μ la Q) := (qEx_eq (i := .getfield 27) rfl).trans qExA_chk
theorem x108_70 {a : Nat} : qEx d 108 70 (.ref a :: st) ls σ μ la Q ↔ (qOk σ a 4 = true ∧ qEx d 108 73 (qrf (σ.2 a 10) :: st) ls σ μ la Q) := (qEx_eq (i := .getfield 97) rfl).trans qExA_chk
theorem x108_73 {x : Int32} {l0 l2 l3 l4 l5 l6 l7 l8 : Value} : qEx d 108 73 st [l0, .int x, l2, l3, l4, l5, l6, l7, l8] σ μ la Q ↔ qEx d 108 74 (.int x :: st) [l0, .int x, l2, l3, l4, l5, l6, l7, l8] σ μ la Q := (qEx_eq (i := .iload_n 1) rfl).trans Iff.rfl
theorem x108_74 {x : Int32} {a : Nat} : qEx d 108 74 (.int x :: .ref a :: st) ls σ μ la Q ↔ (qIn x (qIld σ μ a) = true ∧ qEx d 108 75 (.int (μ a x.toNatClampNeg) :: st) ls σ μ la Q) := (qEx_eq (i := .iaload) rfl).trans qExA_chk
theorem x108_75 {y0 : Nat} {y1 : Int32} {y2 : Int32} {y3 : Int32} {y4 : Int32} {a : Nat} : qEx (d + 1) 108 75 [.int y4, .int y3, .int y2, .int y1, .ref y0, .ref a] ls σ μ la Q ↔ (qOk σ a 5 = true ∧ qEx d 71 0 [] [.ref a, .ref y0, .int y1, .int y2, .int y3, .int y4, .retAddr 0, .retAddr 0, .retAddr 0, .retAddr 0, .retAddr 0] σ μ la fun r σ' μ' la' => qEx (d + 1) 108 78 (r.toList ++ []) ls σ' μ' la' Q) := (qEx_eq (i := .invokevirtual 147) rfl).trans qExA_chk
theorem x108_78 {x : Nat} {l1 l2 l3 l4 l5 l6 l7 l8 : Value} : qEx d 108 78 st [.ref x, l1, l2, l3, l4, l5, l6, l7, l8] σ μ la Q ↔ qEx d 108 79 (.ref x :: st) [.ref x, l1, l2, l3, l4, l5, l6, l7, l8] σ μ la Q := (qEx_eq (i := .aload_n 0) rfl).trans Iff.rfl
theorem x108_79 {a : Nat} : qEx d 108 79 (.ref a :: st) ls σ μ la Q ↔ (qOk σ a 6 = true ∧ qEx d 108 82 (qrf (σ.2 a 5) :: st) ls σ μ la Q) := (qEx_eq (i := .getfield 52) rfl).trans qExA_chk
theorem x108_82 {x : Nat} {l1 l2 l3 l4 l5 l6 l7 l8 : Value} : qEx d 108 82 st [.ref x, l1, l2, l3, l4, l5, l6, l7, l8] σ μ la Q ↔ qEx d 108 83 (.ref x :: st) [.ref x, l1, l2, l3, l4, l5, l6, l7, l8] σ μ la Q := (qEx_eq (i := .aload_n 0) rfl).trans Iff.rfl
theorem x108_83 {a : Nat} : qEx d 108 83 (.ref a :: st) ls σ μ la Q ↔ (qOk σ a 6 = true ∧ qEx d 108 86 (qrf (σ.2 a 4) :: st) ls σ μ la Q) := (qEx_eq (i := .getfield 45) rfl).trans qExA_chk
theorem x108_86 {x : Int32} {l0 l1 l3 l4 l5 l6 l7 l8 : Value} : qEx d 108 86 st [l0, l1, .int x, l3, l4, l5, l6, l7, l8] σ μ la Q ↔ qEx d 108 87 (.int x :: st) [l0, l1, .int x, l3, l4, l5, l6, l7, l8] σ μ la Q := (qEx_eq (i := .iload_n 2) rfl).trans Iff.rfl
theorem x108_87 {x : Int32} {a : Nat} : qEx d 108 87 (.int x :: .ref a :: st) ls σ μ la Q ↔ (qIn x (qAld σ a) = true ∧ qEx d 108 88 (qrf (σ.2 a x.toNatClampNeg) :: st) ls σ μ la Q) := (qEx_eq (i := .aaload) rfl).trans qExA_chk
theorem x108_88 {x : Int32} {l0 l1 l2 l3 l5 l6 l7 l8 : Value} : qEx d 108 88 st [l0, l1, l2, l3, .int x, l5, l6, l7, l8] σ μ la Q ↔ qEx d 108 90 (.int x :: st) [l0, l1, l2, l3, .int x, l5, l6, l7, l8] σ μ la Q := (qEx_eq (i := .iload 4) rfl).trans Iff.rfl
theorem x108_90 {x : Int32} {l0 l1 l2 l3 l4 l6 l7 l8 : Value} : qEx d 108 90 st [l0, l1, l2, l3, l4, .int x, l6, l7, l8] σ μ la Q ↔ qEx d 108 92 (.int x :: st) [l0, l1, l2, l3, l4, .int x, l6, l7, l8] σ μ la Q := (qEx_eq (i := .iload 5) rfl).trans Iff.rfl
theorem x108_92 {y0 : Nat} {y1 : Int32} {y2 : Int32} {a : Nat} : qEx (d + 1) 108 92 [.int y2, .int y1, .ref y0, .ref a] ls σ μ la Q ↔ (qOk σ a 5 = true ∧ qEx d 72 0 [] [.ref a, .ref y0, .int y1, .int y2, .retAddr 0] σ μ la fun r σ' μ' la' => qEx (d + 1) 108 95 (r.toList ++ []) ls σ' μ' la' Q) := (qEx_eq (i := .invokevirtual 238) rfl).trans qExA_chk
theorem x108_95 {x : Int32} : qEx d 108 95 (.int x :: st) ls σ μ la Q ↔ (if x = 0 then qEx d 108 107 st ls σ μ la Q else qEx d 108 98 st ls σ μ la Q) := (qEx_eq (i := .ifCond .eq 12) rfl).trans qExA_ite
theorem x108_98 {x : Int32} {l0 l1 l2 l3 l4 l5 l6 l8 : Value} : qEx d 108 98 st [l0, l1, l2, l3, l4, l5, l6, .int x, l8] σ μ la Q ↔ qEx d 108 100 (.int x :: st) [l0, l1, l2, l3, l4, l5, l6, .int x, l8] σ μ la Q := (qEx_eq (i := .iload 7) rfl).trans Iff.rfl
theorem x108_100  : qEx d 108 100 st ls σ μ la Q ↔ qEx d 108 101 (.int 1 :: st) ls σ μ la Q := (qEx_eq (i := .iconst 1) rfl).trans Iff.rfl
theorem x108_101 {x : Int32} {l0 l1 l2 l3 l4 l5 l6 l7 : Value} : qEx d 108 101 st [l0, l1, l2, l3, l4, l5, l6, l7, .int x] σ μ la Q ↔ qEx d 108 103 (.int x :: st) [l0, l1, l2, l3, l4, l5, l6, l7, .int x] σ μ la Q := (qEx_eq (i := .iload 8) rfl).trans Iff.rfl
theorem x108_103 {x y : Int32} : qEx d 108 103 (.int y :: .int x :: st) ls σ μ la Q ↔ qEx d 108 104 (.int (x <<< (y &&& 31)) :: st) ls σ μ la Q := (qEx_eq (i := .ishl) rfl).trans Iff.rfl
theorem x108_104 {x y : Int32} : qEx d 108 104 (.int y :: .int x :: st) ls σ μ la Q ↔ qEx d 108 105 (.int (x ||| y) :: st) ls σ μ la Q := (qEx_eq (i := .ior) rfl).trans Iff.rfl
theorem x108_105 {x : Int32} {l0 l1 l2 l3 l4 l5 l6 l7 l8 : Value} : qEx d 108 105 (.int x :: st) [l0, l1, l2, l3, l4, l5, l6, l7, l8] σ μ la Q ↔ qEx d 108 107 st [l0, l1, l2, l3, l4, l5, l6, .int x, l8] σ μ la Q := (qEx_eq (i := .istore 7) rfl).trans Iff.rfl
theorem x108_107 {x : Int32} {l0 l1 l2 l3 l4 l5 l6 l7 : Value} : qEx d 108 107 st [l0, l1, l2, l3, l4, l5, l6, l7, .int x] σ μ la Q ↔ qEx d 108 110 st [l0, l1, l2, l3, l4, l5, l6, l7, .int (x + 1)] σ μ la Q := (qEx_eq (i := .iinc 8 1) rfl).trans Iff.rfl
theorem x108_110  : qEx d 108 110 st ls σ μ la Q ↔ qEx d 108 39 st ls σ μ la Q := (qEx_eq (i := .goto (-71)) rfl).trans Iff.rfl
theorem x108_113 {x : Int32} {l0 l1 l2 l3 l4 l5 l6 l8 : Value} : qEx d 108 113 st [l0, l1, l2, l3, l4, l5, l6, .int x, l8] σ μ la Q ↔ qEx d 108 115 (.int x :: st) [l0, l1, l2, l3, l4, l5, l6, .int x, l8] σ μ la Q := (qEx_eq (i := .iload 7) rfl).trans Iff.rfl
theorem x108_115 {x : Int32} : qEx d 108 115 [.int x] ls σ μ la Q ↔ Q (some (.int x)) σ μ la := (qEx_eq (i := .ireturn) rfl).trans Iff.rfl
theorem x109_0 {x : Int32} {l0 : Value} : qEx d 109 0 st [l0, .int x] σ μ la Q ↔ qEx d 109 1 (.int x :: st) [l0, .int x] σ μ la Q := (qEx_eq (i := .iload_n 1) rfl).trans Iff.rfl
theorem x109_1 {x : Int32} : qEx d 109 1 (.int x :: st) ls σ μ la Q ↔ (if x.toInt = 0 then qEx d 109 56 st ls σ μ la Q else (if x.toInt = 1 then qEx d 109 64 st ls σ μ la Q else (if x.toInt = 2 then qEx d 109 72 st ls σ μ la Q else (if x.toInt = 3 then qEx d 109 80 st ls σ μ la Q else (if x.toInt = 4 then qEx d 109 88 st ls σ μ la Q else (if x.toInt = 5 then qEx d 109 96 st ls σ μ la Q else (if x.toInt = 6 then qEx d 109 104 st ls σ μ la Q else (if x.toInt = 7 then qEx d 109 112 st ls σ μ la Q else (if x.toInt = 8 then qEx d 109 120 st ls σ μ la Q else (if x.toInt = 9 then qEx d 109 128 st ls σ μ la Q else qEx d 109 136 st ls σ μ la Q)))))))))) := (qEx_eq (i := .tableswitch 135 0 9 #[55, 63, 71, 79, 87, 95, 103, 111, 119, 127]) rfl).trans (qExA_ite2 Iff.rfl (qExA_ite2 Iff.rfl (qExA_ite2 Iff.rfl (qExA_ite2 Iff.rfl (qExA_ite2 Iff.rfl (qExA_ite2 Iff.rfl (qExA_ite2 Iff.rfl (qExA_ite2 Iff.rfl (qExA_ite2 Iff.rfl (qExA_ite2 Iff.rfl Iff.rfl))))))))))
theorem x109_56 {x : Nat} {l1 : Value} : qEx d 109 56 st [.ref x, l1] σ μ la Q ↔ qEx d 109 57 (.ref x :: st) [.ref x, l1] σ μ la Q := (qEx_eq (i := .aload_n 0) rfl).trans Iff.rfl
theorem x109_57 {a : Nat} : qEx d 109 57 (.ref a :: st) ls σ μ la Q ↔ (qOk σ a 6 = true ∧ qEx d 109 60 (qrf (σ.2 a 1) :: st) ls σ μ la Q) := (qEx_eq (i := .getfield 27) rfl).trans qExA_chk
theorem x109_60 {a : Nat} : qEx d 109 60 (.ref a :: st) ls σ μ la Q ↔ (qOk σ a 4 = true ∧ qEx d 109 63 (.int (μ a 2) :: st) ls σ μ la Q) := (qEx_eq (i := .getfield 81) rfl).trans qExA_chk
theorem x109_63 {x : Int32} : qEx d 109 63 [.int x] ls σ μ la Q ↔ Q (some (.int x)) σ μ la := (qEx_eq (i := .ireturn) rfl).trans Iff.rfl
theorem x109_64 {x : Nat} {l1 : Value} : qEx d 109 64 st [.ref x, l1] σ μ la Q ↔ qEx d 109 65 (.ref x :: st) [.ref x, l1] σ μ la Q := (qEx_eq (i := .aload_n 0) rfl).trans Iff.rfl
theorem x109_65 {a : Nat} : qEx d 109 65 (.ref a :: st) ls σ μ la Q ↔ (qOk σ a 6 = true ∧ qEx d 109 68 (qrf (σ.2 a 1) :: st) ls σ μ la Q) := (qEx_eq (i := .getfield 27) rfl).trans qExA_chk
theorem x109_68 {a : Nat} : qEx d 109 68 (.ref a :: st) ls σ μ la Q ↔ (qOk σ a 4 = true ∧ qEx d 109 71 (.int (μ a 0) :: st) ls σ μ la Q) := (qEx_eq (i := .getfield 242) rfl).trans qExA_chk
theorem x109_71 {x : Int32} : qEx d 109 71 [.int x] ls σ μ la Q ↔ Q (some (.int x)) σ μ la := (qEx_eq (i := .ireturn) rfl).trans Iff.rfl
theorem x109_72 {x : Nat} {l1 : Value} : qEx d 109 72 st [.ref x, l1] σ μ la Q ↔ qEx d 109 73 (.ref x :: st) [.ref x, l1] σ μ la Q := (qEx_eq (i := .aload_n 0) rfl).trans Iff.rfl
theorem x109_73 {a : Nat} : qEx d 109 73 (.ref a :: st) ls σ μ la Q ↔ (qOk σ a 6 = true ∧ qEx d 109 76 (qrf (σ.2 a 1) :: st) ls σ μ la Q) := (qEx_eq (i := .getfield 27) rfl).trans qExA_chk
theorem x109_76 {a : Nat} : qEx d 109 76 (.ref a :: st) ls σ μ la Q ↔ (qOk σ a 4 = true ∧ qEx d 109 79 (.int (μ a 1) :: st) ls σ μ la Q) := (qEx_eq (i := .getfield 245) rfl).trans qExA_chk
theorem x109_79 {x : Int32} : qEx d 109 79 [.int x] ls σ μ la Q ↔ Q (some (.int x)) σ μ la := (qEx_eq (i := .ireturn) rfl).trans Iff.rfl
theorem x109_80 {x : Nat} {l1 : Value} : qEx d 109 80 st [.ref x, l1] σ μ la Q ↔ qEx d 109 81 (.ref x :: st) [.ref x, l1] σ μ la Q := (qEx_eq (i := .aload_n 0) rfl).trans Iff.rfl
theorem x109_81 {a : Nat} : qEx d 109 81 (.ref a :: st) ls σ μ la Q ↔ (qOk σ a 6 = true ∧ qEx d 109 84 (qrf (σ.2 a 1) :: st) ls σ μ la Q) := (qEx_eq (i := .getfield 27) rfl).trans qExA_chk
theorem x109_84 {a : Nat} : qEx d 109 84 (.ref a :: st) ls σ μ la Q ↔ (qOk σ a 4 = true ∧ qEx d 109 87 (.int (μ a 3) :: st) ls σ μ la Q) := (qEx_eq (i := .getfield 120) rfl).trans qExA_chk
theorem x109_87 {x : Int32} : qEx d 109 87 [.int x] ls σ μ la Q ↔ Q (some (.int x)) σ μ la := (qEx_eq (i := .ireturn) rfl).trans Iff.rfl
theorem x109_88 {x : Nat} {l1 : Value} : qEx d 109 88 st [.ref x, l1] σ μ la Q ↔ qEx d 109 89 (.ref x :: st) [.ref x, l1] σ μ la Q := (qEx_eq (i := .aload_n 0) rfl).trans Iff.rfl
theorem x109_89 {a : Nat} : qEx d 109 89 (.ref a :: st) ls σ μ la Q ↔ (qOk σ a 6 = true ∧ qEx d 109 92 (qrf (σ.2 a 1) :: st) ls σ μ la Q) := (qEx_eq (i := .getfield 27) rfl).trans qExA_chk
theorem x109_92 {a : Nat} : qEx (d + 1) 109 92 [.ref a] ls σ μ la Q ↔ (qOk σ a 4 = true ∧ qEx d 68 0 [] [.ref a, .retAddr 0, .retAddr 0] σ μ la fun r σ' μ' la' => qEx (d + 1) 109 95 (r.toList ++ []) ls σ' μ' la' Q) := (qEx_eq (i := .invokevirtual 248) rfl).trans qExA_chk
theorem x109_95 {x : Int32} : qEx d 109 95 [.int x] ls σ μ la Q ↔ Q (some (.int x)) σ μ la := (qEx_eq (i := .ireturn) rfl).trans Iff.rfl
theorem x109_96 {x : Nat} {l1 : Value} : qEx d 109 96 st [.ref x, l1] σ μ la Q ↔ qEx d 109 97 (.ref x :: st) [.ref x, l1] σ μ la Q := (qEx_eq (i := .aload_n 0) rfl).trans Iff.rfl
theorem x109_97 {a : Nat} : qEx d 109 97 (.ref a :: st) ls σ μ la Q ↔ (qOk σ a 6 = true ∧ qEx d 109 100 (qrf (σ.2 a 1) :: st) ls σ μ la Q) := (qEx_eq (i := .getfield 27) rfl).trans qExA_chk
theorem x109_100 {a : Nat} : qEx (d + 1) 109 100 [.ref a] ls σ μ la Q ↔ (qOk σ a 4 = true ∧ qEx d 69 0 [] [.ref a, .retAddr 0, .retAddr 0] σ μ la fun r σ' μ' la' => qEx (d + 1) 109 103 (r.toList ++ []) ls σ' μ' la' Q) := (qEx_eq (i := .invokevirtual 251) rfl).trans qExA_chk
theorem x109_103 {x : Int32} : qEx d 109 103 [.int x] ls σ μ la Q ↔ Q (some (.int x)) σ μ la := (qEx_eq (i := .ireturn) rfl).trans Iff.rfl
theorem x109_104 {x : Nat} {l1 : Value} : qEx d 109 104 st [.ref x, l1] σ μ la Q ↔ qEx d 109 105 (.ref x :: st) [.ref x, l1] σ μ la Q := (qEx_eq (i := .aload_n 0) rfl).trans Iff.rfl
theorem x109_105 {a : Nat} : qEx d 109 105 (.ref a :: st) ls σ μ la Q ↔ (qOk σ a 6 = true ∧ qEx d 109 108 (qrf (σ.2 a 2) :: st) ls σ μ la Q) := (qEx_eq (i := .getfield 31) rfl).trans qExA_chk
theorem x109_108 {a : Nat} : qEx d 109 108 (.ref a :: st) ls σ μ la Q ↔ (qOk σ a 0 = true ∧ qEx d 109 111 (.int (μ a 2) :: st) ls σ μ la Q) := (qEx_eq (i := .getfield 134) rfl).trans qExA_chk
theorem x109_111 {x : Int32} : qEx d 109 111 [.int x] ls σ μ la Q ↔ Q (some (.int x)) σ μ la := (qEx_eq (i := .ireturn) rfl).trans Iff.rfl
theorem x109_112 {x : Nat} {l1 : Value} : qEx d 109 112 st [.ref x, l1] σ μ la Q ↔ qEx d 109 113 (.ref x :: st) [.ref x, l1] σ μ la Q := (qEx_eq (i := .aload_n 0) rfl).trans Iff.rfl
theorem x109_113 {a : Nat} : qEx d 109 113 (.ref a :: st) ls σ μ la Q ↔ (qOk σ a 6 = true ∧ qEx d 109 116 (qrf (σ.2 a 0) :: st) ls σ μ la Q) := (qEx_eq (i := .getfield 10) rfl).trans qExA_chk
theorem x109_116 {a : Nat} : qEx d 109 116 (.ref a :: st) ls σ μ la Q ↔ (qOk σ a 3 = true ∧ qEx d 109 119 (.int (μ a 2) :: st) ls σ μ la Q) := (qEx_eq (i := .getfield 60) rfl).trans qExA_chk
theorem x109_119 {x : Int32} : qEx d 109 119 [.int x] ls σ μ la Q ↔ Q (some (.int x)) σ μ la := (qEx_eq (i := .ireturn) rfl).trans Iff.rfl
theorem x109_120 {x : Nat} {l1 : Value} : qEx d 109 120 st [.ref x, l1] σ μ la Q ↔ qEx d 109 121 (.ref x :: st) [.ref x, l1] σ μ la Q := (qEx_eq (i := .aload_n 0) rfl).trans Iff.rfl
theorem x109_121 {a : Nat} : qEx d 109 121 (.ref a :: st) ls σ μ la Q ↔ (qOk σ a 6 = true ∧ qEx d 109 124 (qrf (σ.2 a 1) :: st) ls σ μ la Q) := (qEx_eq (i := .getfield 27) rfl).trans qExA_chk
theorem x109_124 {a : Nat} : qEx d 109 124 (.ref a :: st) ls σ μ la Q ↔ (qOk σ a 4 = true ∧ qEx d 109 127 (.int (μ a 4) :: st) ls σ μ la Q) := (qEx_eq (i := .getfield 254) rfl).trans qExA_chk
theorem x109_127 {x : Int32} : qEx d 109 127 [.int x] ls σ μ la Q ↔ Q (some (.int x)) σ μ la := (qEx_eq (i := .ireturn) rfl).trans Iff.rfl
theorem x109_128 {x : Nat} {l1 : Value} : qEx d 109 128 st [.ref x, l1] σ μ la Q ↔ qEx d 109 129 (.ref x :: st) [.ref x, l1] σ μ la Q := (qEx_eq (i := .aload_n 0) rfl).trans Iff.rfl
theorem x109_129 {a : Nat} : qEx d 109 129 (.ref a :: st) ls σ μ la Q ↔ (qOk σ a 6 = true ∧ qEx d 109 132 (qrf (σ.2 a 1) :: st) ls σ μ la Q) := (qEx_eq (i := .getfield 27) rfl).trans qExA_chk
theorem x109_132 {a : Nat} : qEx d 109 132 (.ref a :: st) ls σ μ la Q ↔ (qOk σ a 4 = true ∧ qEx d 109 135 (.int (μ a 5) :: st) ls σ μ la Q) := (qEx_eq (i := .getfield 257) rfl).trans qExA_chk
theorem x109_135 {x : Int32} : qEx d 109 135 [.int x] ls σ μ la Q ↔ Q (some (.int x)) σ μ la := (qEx_eq (i := .ireturn) rfl).trans Iff.rfl
theorem x109_136  : qEx d 109 136 st ls σ μ la Q ↔ qEx d 109 137 (.int (-1) :: st) ls σ μ la Q := (qEx_eq (i := .iconst (-1)) rfl).trans Iff.rfl
theorem x109_137 {x : Int32} : qEx d 109 137 [.int x] ls σ μ la Q ↔ Q (some (.int x)) σ μ la := (qEx_eq (i := .ireturn) rfl).trans Iff.rfl
theorem x110_0 {x : Int32} : qEx d 110 0 st [.int x] σ μ la Q ↔ qEx d 110 1 (.int x :: st) [.int x] σ μ la Q := (qEx_eq (i := .iload_n 0) rfl).trans Iff.rfl
theorem x110_1 {x : Int32} : qEx d 110 1 (.int x :: st) ls σ μ la Q ↔ (if x < 0 then qEx d 110 14 st ls σ μ la Q else qEx d 110 4 st ls σ μ la Q) := (qEx_eq (i := .ifCond .lt 13) rfl).trans qExA_ite
theorem x110_4 {x : Int32} : qEx d 110 4 st [.int x] σ μ la Q ↔ qEx d 110 5 (.int x :: st) [.int x] σ μ la Q := (qEx_eq (i := .iload_n 0) rfl).trans Iff.rfl
theorem x110_5  : qEx d 110 5 st ls σ μ la Q ↔ qEx d 110 7 (.int 99 :: st) ls σ μ la Q := (qEx_eq (i := .bipush 99) rfl).trans Iff.rfl
theorem x110_7 {x y : Int32} : qEx d 110 7 (.int y :: .int x :: st) ls σ μ la Q ↔ (if y < x then qEx d 110 14 st ls σ μ la Q else qEx d 110 10 st ls σ μ la Q) := (qEx_eq (i := .if_icmp .gt 7) rfl).trans qExA_ite
theorem x110_10  : qEx d 110 10 st ls σ μ la Q ↔ qEx d 110 11 (.int 1 :: st) ls σ μ la Q := (qEx_eq (i := .iconst 1) rfl).trans Iff.rfl
theorem x110_11  : qEx d 110 11 st ls σ μ la Q ↔ qEx d 110 15 st ls σ μ la Q := (qEx_eq (i := .goto 4) rfl).trans Iff.rfl
theorem x110_14  : qEx d 110 14 st ls σ μ la Q ↔ qEx d 110 15 (.int 0 :: st) ls σ μ la Q := (qEx_eq (i := .iconst 0) rfl).trans Iff.rfl
theorem x110_15 {x : Int32} : qEx d 110 15 [.int x] ls σ μ la Q ↔ ((x = 0 ∨ x = 1) ∧ Q (some (.int x)) σ μ la) := (qEx_eq (i := .ireturn) rfl).trans qExA_chk
theorem x111_0 {x : Int32} : qEx d 111 0 st [.int x] σ μ la Q ↔ qEx d 111 1 (.int x :: st) [.int x] σ μ la Q := (qEx_eq (i := .iload_n 0) rfl).trans Iff.rfl
theorem x111_1 {x : Int32} : qEx d 111 1 (.int x :: st) ls σ μ la Q ↔ (if x < 0 then qEx d 111 13 st ls σ μ la Q else qEx d 111 4 st ls σ μ la Q) := (qEx_eq (i := .ifCond .lt 12) rfl).trans qExA_ite
theorem x111_4 {x : Int32} : qEx d 111 4 st [.int x] σ μ la Q ↔ qEx d 111 5 (.int x :: st) [.int x] σ μ la Q := (qEx_eq (i := .iload_n 0) rfl).trans Iff.rfl
theorem x111_5  : qEx d 111 5 st ls σ μ la Q ↔ qEx d 111 6 (.int 4 :: st) ls σ μ la Q := (qEx_eq (i := .iconst 4) rfl).trans Iff.rfl
theorem x111_6 {x y : Int32} : qEx d 111 6 (.int y :: .int x :: st) ls σ μ la Q ↔ (if y ≤ x then qEx d 111 13 st ls σ μ la Q else qEx d 111 9 st ls σ μ la Q) := (qEx_eq (i := .if_icmp .ge 7) rfl).trans qExA_ite
theorem x111_9  : qEx d 111 9 st ls σ μ la Q ↔ qEx d 111 10 (.int 1 :: st) ls σ μ la Q := (qEx_eq (i := .iconst 1) rfl).trans Iff.rfl
theorem x111_10  : qEx d 111 10 st ls σ μ la Q ↔ qEx d 111 14 st ls σ μ la Q := (qEx_eq (i := .goto 4) rfl).trans Iff.rfl
theorem x111_13  : qEx d 111 13 st ls σ μ la Q ↔ qEx d 111 14 (.int 0 :: st) ls σ μ la Q := (qEx_eq (i := .iconst 0) rfl).trans Iff.rfl
theorem x111_14 {x : Int32} : qEx d 111 14 [.int x] ls σ μ la Q ↔ ((x = 0 ∨ x = 1) ∧ Q (some (.int x)) σ μ la) := (qEx_eq (i := .ireturn) rfl).trans qExA_chk
theorem x112_0 {x : Int32} : qEx d 112 0 st [.int x] σ μ la Q ↔ qEx d 112 1 (.int x :: st) [.int x] σ μ la Q := (qEx_eq (i := .iload_n 0) rfl).trans Iff.rfl
theorem x112_1 {x : Int32} : qEx d 112 1 (.int x :: st) ls σ μ la Q ↔ (if x < 0 then qEx d 112 13 st ls σ μ la Q else qEx d 112 4 st ls σ μ la Q) := (qEx_eq (i := .ifCond .lt 12) rfl).trans qExA_ite
theorem x112_4 {x : Int32} : qEx d 112 4 st [.int x] σ μ la Q ↔ qEx d 112 5 (.int x :: st) [.int x] σ μ la Q := (qEx_eq (i := .iload_n 0) rfl).trans Iff.rfl
theorem x112_5  : qEx d 112 5 st ls σ μ la Q ↔ qEx d 112 6 (.int 4 :: st) ls σ μ la Q := (qEx_eq (i := .iconst 4) rfl).trans Iff.rfl
theorem x112_6 {x y : Int32} : qEx d 112 6 (.int y :: .int x :: st) ls σ μ la Q ↔ (if y ≤ x then qEx d 112 13 st ls σ μ la Q else qEx d 112 9 st ls σ μ la Q) := (qEx_eq (i := .if_icmp .ge 7) rfl).trans qExA_ite
theorem x112_9  : qEx d 112 9 st ls σ μ la Q ↔ qEx d 112 10 (.int 1 :: st) ls σ μ la Q := (qEx_eq (i := .iconst 1) rfl).trans Iff.rfl
theorem x112_10  : qEx d 112 10 st ls σ μ la Q ↔ qEx d 112 14 st ls σ μ la Q := (qEx_eq (i := .goto 4) rfl).trans Iff.rfl
theorem x112_13  : qEx d 112 13 st ls σ μ la Q ↔ qEx d 112 14 (.int 0 :: st) ls σ μ la Q := (qEx_eq (i := .iconst 0) rfl).trans Iff.rfl
theorem x112_14 {x : Int32} : qEx d 112 14 [.int x] ls σ μ la Q ↔ ((x = 0 ∨ x = 1) ∧ Q (some (.int x)) σ μ la) := (qEx_eq (i := .ireturn) rfl).trans qExA_chk
theorem x113_0 {x : Int32} {l1 l2 l3 : Value} : qEx d 113 0 st [.int x, l1, l2, l3] σ μ la Q ↔ qEx d 113 1 (.int x :: st) [.int x, l1, l2, l3] σ μ la Q := (qEx_eq (i := .iload_n 0) rfl).trans Iff.rfl
theorem x113_1 {x : Int32} {l0 l1 l2 l3 : Value} : qEx d 113 1 (.int x :: st) [l0, l1, l2, l3] σ μ la Q ↔ qEx d 113 2 st [l0, l1, .int x, l3] σ μ la Q := (qEx_eq (i := .istore_n 2) rfl).trans Iff.rfl
theorem x113_2  : qEx d 113 2 st ls σ μ la Q ↔ qEx d 113 3 (.int 0 :: st) ls σ μ la Q := (qEx_eq (i := .iconst 0) rfl).trans Iff.rfl
theorem x113_3 {x : Int32} {l0 l1 l2 l3 : Value} : qEx d 113 3 (.int x :: st) [l0, l1, l2, l3] σ μ la Q ↔ qEx d 113 4 st [l0, l1, l2, .int x] σ μ la Q := (qEx_eq (i := .istore_n 3) rfl).trans Iff.rfl
theorem x113_4 {x : Int32} {l0 l1 l2 : Value} : qEx d 113 4 st [l0, l1, l2, .int x] σ μ la Q ↔ qEx d 113 5 (.int x :: st) [l0, l1, l2, .int x] σ μ la Q := (qEx_eq (i := .iload_n 3) rfl).trans Iff.rfl
theorem x113_5  : qEx d 113 5 st ls σ μ la Q ↔ qEx d 113 7 (.int 6 :: st) ls σ μ la Q := (qEx_eq (i := .bipush 6) rfl).trans Iff.rfl
theorem x113_7 {x y : Int32} : qEx d 113 7 (.int y :: .int x :: st) ls σ μ la Q ↔ (if y ≤ x then qEx d 113 33 st ls σ μ la Q else qEx d 113 10 st ls σ μ la Q) := (qEx_eq (i := .if_icmp .ge 26) rfl).trans qExA_ite
theorem x113_10 {x : Int32} {l0 l1 l3 : Value} : qEx d 113 10 st [l0, l1, .int x, l3] σ μ la Q ↔ qEx d 113 11 (.int x :: st) [l0, l1, .int x, l3] σ μ la Q := (qEx_eq (i := .iload_n 2) rfl).trans Iff.rfl
theorem x113_11 {x : Int32} : qEx d 113 11 (.int x :: st) ls σ μ la Q ↔ (if x < 0 then qEx d 113 33 st ls σ μ la Q else qEx d 113 14 st ls σ μ la Q) := (qEx_eq (i := .ifCond .lt 22) rfl).trans qExA_ite
theorem x113_14 {x : Int32} {l0 l1 l3 : Value} : qEx d 113 14 st [l0, l1, .int x, l3] σ μ la Q ↔ qEx d 113 15 (.int x :: st) [l0, l1, .int x, l3] σ μ la Q := (qEx_eq (i := .iload_n 2) rfl).trans Iff.rfl
theorem x113_15 {x : Int32} {l0 l2 l3 : Value} : qEx d 113 15 st [l0, .int x, l2, l3] σ μ la Q ↔ qEx d 113 16 (.int x :: st) [l0, .int x, l2, l3] σ μ la Q := (qEx_eq (i := .iload_n 1) rfl).trans Iff.rfl
theorem x113_16 {x y : Int32} : qEx d 113 16 (.int y :: .int x :: st) ls σ μ la Q ↔ (if ¬ x = y then qEx d 113 21 st ls σ μ la Q else qEx d 113 19 st ls σ μ la Q) := (qEx_eq (i := .if_icmp .ne 5) rfl).trans qExA_ite
theorem x113_19  : qEx d 113 19 st ls σ μ la Q ↔ qEx d 113 20 (.int 1 :: st) ls σ μ la Q := (qEx_eq (i := .iconst 1) rfl).trans Iff.rfl
theorem x113_20 {x : Int32} : qEx d 113 20 [.int x] ls σ μ la Q ↔ ((x = 0 ∨ x = 1) ∧ Q (some (.int x)) σ μ la) := (qEx_eq (i := .ireturn) rfl).trans qExA_chk
theorem x113_21  : qEx d 113 21 st ls σ μ la Q ↔ qEx d 113 24 (.ref 1002 :: st) ls σ μ la Q := (qEx_eq (i := .getstatic 260) rfl).trans Iff.rfl
theorem x113_24 {x : Int32} {l0 l1 l3 : Value} : qEx d 113 24 st [l0, l1, .int x, l3] σ μ la Q ↔ qEx d 113 25 (.int x :: st) [l0, l1, .int x, l3] σ μ la Q := (qEx_eq (i := .iload_n 2) rfl).trans Iff.rfl
theorem x113_25 {x : Int32} {a : Nat} : qEx d 113 25 (.int x :: .ref a :: st) ls σ μ la Q ↔ (qIn x (qIld σ μ a) = true ∧ qEx d 113 26 (.int (μ a x.toNatClampNeg) :: st) ls σ μ la Q) := (qEx_eq (i := .iaload) rfl).trans qExA_chk
theorem x113_26 {x : Int32} {l0 l1 l2 l3 : Value} : qEx d 113 26 (.int x :: st) [l0, l1, l2, l3] σ μ la Q ↔ qEx d 113 27 st [l0, l1, .int x, l3] σ μ la Q := (qEx_eq (i := .istore_n 2) rfl).trans Iff.rfl
theorem x113_27 {x : Int32} {l0 l1 l2 : Value} : qEx d 113 27 st [l0, l1, l2, .int x] σ μ la Q ↔ qEx d 113 30 st [l0, l1, l2, .int (x + 1)] σ μ la Q := (qEx_eq (i := .iinc 3 1) rfl).trans Iff.rfl
theorem x113_30  : qEx d 113 30 st ls σ μ la Q ↔ qEx d 113 4 st ls σ μ la Q := (qEx_eq (i := .goto (-26)) rfl).trans Iff.rfl
theorem x113_33  : qEx d 113 33 st ls σ μ la Q ↔ qEx d 113 34 (.int 0 :: st) ls σ μ la Q := (qEx_eq (i := .iconst 0) rfl).trans Iff.rfl
theorem x113_34 {x : Int32} : qEx d 113 34 [.int x] ls σ μ la Q ↔ ((x = 0 ∨ x = 1) ∧ Q (some (.int x)) σ μ la) := (qEx_eq (i := .ireturn) rfl).trans qExA_chk
theorem x114_0 {x : Int32} {l0 l1 l2 l3 : Value} : qEx d 114 0 st [l0, l1, l2, l3, .int x] σ μ la Q ↔ qEx d 114 2 (.int x :: st) [l0, l1, l2, l3, .int x] σ μ la Q := (qEx_eq (i := .iload 4) rfl).trans Iff.rfl
theorem x114_2  : qEx d 114 2 st ls σ μ la Q ↔ qEx d 114 3 (.int 1 :: st) ls σ μ la Q := (qEx_eq (i := .iconst 1) rfl).trans Iff.rfl
theorem x114_3 {x y : Int32} : qEx d 114 3 (.int y :: .int x :: st) ls σ μ la Q ↔ (if x < y then qEx d 114 13 st ls σ μ la Q else qEx d 114 6 st ls σ μ la Q) := (qEx_eq (i := .if_icmp .lt 10) rfl).trans qExA_ite
theorem x114_6 {x : Int32} {l0 l1 l2 l3 : Value} : qEx d 114 6 st [l0, l1, l2, l3, .int x] σ μ la Q ↔ qEx d 114 8 (.int x :: st) [l0, l1, l2, l3, .int x] σ μ la Q := (qEx_eq (i := .iload 4) rfl).trans Iff.rfl
theorem x114_8  : qEx d 114 8 st ls σ μ la Q ↔ qEx d 114 10 (.int 8 :: st) ls σ μ la Q := (qEx_eq (i := .bipush 8) rfl).trans Iff.rfl
theorem x114_10 {x y : Int32} : qEx d 114 10 (.int y :: .int x :: st) ls σ μ la Q ↔ (if x ≤ y then qEx d 114 15 st ls σ μ la Q else qEx d 114 13 st ls σ μ la Q) := (qEx_eq (i := .if_icmp .le 5) rfl).trans qExA_ite
theorem x114_13  : qEx d 114 13 st ls σ μ la Q ↔ qEx d 114 14 (.int (-1) :: st) ls σ μ la Q := (qEx_eq (i := .iconst (-1)) rfl).trans Iff.rfl
theorem x114_14 {x : Int32} : qEx d 114 14 [.int x] ls σ μ la Q ↔ Q (some (.int x)) σ μ la := (qEx_eq (i := .ireturn) rfl).trans Iff.rfl
theorem x114_15 {x : Nat} {l1 l2 l3 l4 : Value} : qEx d 114 15 st [.ref x, l1, l2, l3, l4] σ μ la Q ↔ qEx d 114 16 (.ref x :: st) [.ref x, l1, l2, l3, l4] σ μ la Q := (qEx_eq (i := .aload_n 0) rfl).trans Iff.rfl
theorem x114_16 {x : Int32} {l0 l2 l3 l4 : Value} : qEx d 114 16 st [l0, .int x, l2, l3, l4] σ μ la Q ↔ qEx d 114 17 (.int x :: st) [l0, .int x, l2, l3, l4] σ μ la Q := (qEx_eq (i := .iload_n 1) rfl).trans Iff.rfl
theorem x114_17 {x : Int32} {l0 l1 l3 l4 : Value} : qEx d 114 17 st [l0, l1, .int x, l3, l4] σ μ la Q ↔ qEx d 114 18 (.int x :: st) [l0, l1, .int x, l3, l4] σ μ la Q := (qEx_eq (i := .iload_n 2) rfl).trans Iff.rfl
theorem x114_18 {x : Int32} {l0 l1 l2 l4 : Value} : qEx d 114 18 st [l0, l1, l2, .int x, l4] σ μ la Q ↔ qEx d 114 19 (.int x :: st) [l0, l1, l2, .int x, l4] σ μ la Q := (qEx_eq (i := .iload_n 3) rfl).trans Iff.rfl
theorem x114_19 {x : Int32} {l0 l1 l2 l3 : Value} : qEx d 114 19 st [l0, l1, l2, l3, .int x] σ μ la Q ↔ qEx d 114 21 (.int x :: st) [l0, l1, l2, l3, .int x] σ μ la Q := (qEx_eq (i := .iload 4) rfl).trans Iff.rfl
theorem x114_21 {y0 : Int32} {y1 : Int32} {y2 : Int32} {y3 : Int32} {a : Nat} : qEx (d + 1) 114 21 [.int y3, .int y2, .int y1, .int y0, .ref a] ls σ μ la Q ↔ (qOk σ a 6 = true ∧ qEx d 115 0 [] [.ref a, .int y0, .int y1, .int y2, .int y3] σ μ la fun r σ' μ' la' => qEx (d + 1) 114 24 (r.toList ++ []) ls σ' μ' la' Q) := (qEx_eq (i := .invokevirtual 204) rfl).trans qExA_chk
theorem x114_24 {x : Int32} : qEx d 114 24 [.int x] ls σ μ la Q ↔ Q (some (.int x)) σ μ la := (qEx_eq (i := .ireturn) rfl).trans Iff.rfl
theorem x115_0 {x : Int32} {l0 l2 l3 l4 : Value} : qEx d 115 0 st [l0, .int x, l2, l3, l4] σ μ la Q ↔ qEx d 115 1 (.int x :: st) [l0, .int x, l2, l3, l4] σ μ la Q := (qEx_eq (i := .iload_n 1) rfl).trans Iff.rfl
theorem x115_1 {y0 : Int32} : qEx (d + 1) 115 1 [.int y0] ls σ μ la Q ↔ qEx d 111 0 [] [.int y0] σ μ la fun r σ' μ' la' => qEx (d + 1) 115 4 (r.toList ++ []) ls σ' μ' la' Q := (qEx_eq (i := .invokestatic 188) rfl).trans Iff.rfl
theorem x115_4 {x : Int32} : qEx d 115 4 (.int x :: st) ls σ μ la Q ↔ (if x = 0 then qEx d 115 14 st ls σ μ la Q else qEx d 115 7 st ls σ μ la Q) := (qEx_eq (i := .ifCond .eq 10) rfl).trans qExA_ite
theorem x115_7 {x : Int32} {l0 l1 l3 l4 : Value} : qEx d 115 7 st [l0, l1, .int x, l3, l4] σ μ la Q ↔ qEx d 115 8 (.int x :: st) [l0, l1, .int x, l3, l4] σ μ la Q := (qEx_eq (i := .iload_n 2) rfl).trans Iff.rfl
theorem x115_8 {y0 : Int32} : qEx (d + 1) 115 8 [.int y0] ls σ μ la Q ↔ qEx d 112 0 [] [.int y0] σ μ la fun r σ' μ' la' => qEx (d + 1) 115 11 (r.toList ++ []) ls σ' μ' la' Q := (qEx_eq (i := .invokestatic 191) rfl).trans Iff.rfl
theorem x115_11 {x : Int32} : qEx d 115 11 (.int x :: st) ls σ μ la Q ↔ (if ¬ x = 0 then qEx d 115 16 st ls σ μ la Q else qEx d 115 14 st ls σ μ la Q) := (qEx_eq (i := .ifCond .ne 5) rfl).trans qExA_ite
theorem x115_14  : qEx d 115 14 st ls σ μ la Q ↔ qEx d 115 15 (.int (-1) :: st) ls σ μ la Q := (qEx_eq (i := .iconst (-1)) rfl).trans Iff.rfl
theorem x115_15 {x : Int32} : qEx d 115 15 [.int x] ls σ μ la Q ↔ Q (some (.int x)) σ μ la := (qEx_eq (i := .ireturn) rfl).trans Iff.rfl
theorem x115_16 {x : Nat} {l1 l2 l3 l4 : Value} : qEx d 115 16 st [.ref x, l1, l2, l3, l4] σ μ la Q ↔ qEx d 115 17 (.ref x :: st) [.ref x, l1, l2, l3, l4] σ μ la Q := (qEx_eq (i := .aload_n 0) rfl).trans Iff.rfl
theorem x115_17 {a : Nat} : qEx d 115 17 (.ref a :: st) ls σ μ la Q ↔ (qOk σ a 6 = true ∧ qEx d 115 20 (qrf (σ.2 a 4) :: st) ls σ μ la Q) := (qEx_eq (i := .getfield 45) rfl).trans qExA_chk
theorem x115_20 {x : Int32} {l0 l2 l3 l4 : Value} : qEx d 115 20 st [l0, .int x, l2, l3, l4] σ μ la Q ↔ qEx d 115 21 (.int x :: st) [l0, .int x, l2, l3, l4] σ μ la Q := (qEx_eq (i := .iload_n 1) rfl).trans Iff.rfl
theorem x115_21 {x : Int32} {a : Nat} : qEx d 115 21 (.int x :: .ref a :: st) ls σ μ la Q ↔ (qIn x (qAld σ a) = true ∧ qEx d 115 22 (qrf (σ.2 a x.toNatClampNeg) :: st) ls σ μ la Q) := (qEx_eq (i := .aaload) rfl).trans qExA_chk
theorem x115_22 {a : Nat} : qEx (d + 1) 115 22 [.ref a] ls σ μ la Q ↔ (qOk σ a 2 = true ∧ qEx d 38 0 [] [.ref a] σ μ la fun r σ' μ' la' => qEx (d + 1) 115 25 (r.toList ++ []) ls σ' μ' la' Q) := (qEx_eq (i := .invokevirtual 197) rfl).trans qExA_chk
theorem x115_25 {x : Int32} : qEx d 115 25 (.int x :: st) ls σ μ la Q ↔ (if x = 0 then qEx d 115 31 st ls σ μ la Q else qEx d 115 28 st ls σ μ la Q) := (qEx_eq (i := .ifCond .eq 6) rfl).trans qExA_ite
theorem x115_28  : qEx d 115 28 st ls σ μ la Q ↔ qEx d 115 30 (.int (-11) :: st) ls σ μ la Q := (qEx_eq (i := .bipush (-11)) rfl).trans Iff.rfl
theorem x115_30 {x : Int32} : qEx d 115 30 [.int x] ls σ μ la Q ↔ Q (some (.int x)) σ μ la := (qEx_eq (i := .ireturn) rfl).trans Iff.rfl
theorem x115_31 {x : Nat} {l1 l2 l3 l4 : Value} : qEx d 115 31 st [.ref x, l1, l2, l3, l4] σ μ la Q ↔ qEx d 115 32 (.ref x :: st) [.ref x, l1, l2, l3, l4] σ μ la Q := (qEx_eq (i := .aload_n 0) rfl).trans Iff.rfl
theorem x115_32 {a : Nat} : qEx d 115 32 (.ref a :: st) ls σ μ la Q ↔ (qOk σ a 6 = true ∧ qEx d 115 35 (qrf (σ.2 a 4) :: st) ls σ μ la Q) := (qEx_eq (i := .getfield 45) rfl).trans qExA_chk
theorem x115_35 {x : Int32} {l0 l2 l3 l4 : Value} : qEx d 115 35 st [l0, .int x, l2, l3, l4] σ μ la Q ↔ qEx d 115 36 (.int x :: st) [l0, .int x, l2, l3, l4] σ μ la Q := (qEx_eq (i := .iload_n 1) rfl).trans Iff.rfl
theorem x115_36 {x : Int32} {a : Nat} : qEx d 115 36 (.int x :: .ref a :: st) ls σ μ la Q ↔ (qIn x (qAld σ a) = true ∧ qEx d 115 37 (qrf (σ.2 a x.toNatClampNeg) :: st) ls σ μ la Q) := (qEx_eq (i := .aaload) rfl).trans qExA_chk
theorem x115_37 {a : Nat} : qEx d 115 37 (.ref a :: st) ls σ μ la Q ↔ (qOk σ a 2 = true ∧ qEx d 115 40 (.int (μ a 1) :: st) ls σ μ la Q) := (qEx_eq (i := .getfield 212) rfl).trans qExA_chk
theorem x115_40 {x : Int32} {l0 l1 l3 l4 : Value} : qEx d 115 40 st [l0, l1, .int x, l3, l4] σ μ la Q ↔ qEx d 115 41 (.int x :: st) [l0, l1, .int x, l3, l4] σ μ la Q := (qEx_eq (i := .iload_n 2) rfl).trans Iff.rfl
theorem x115_41 {x y : Int32} : qEx d 115 41 (.int y :: .int x :: st) ls σ μ la Q ↔ (if x = y then qEx d 115 47 st ls σ μ la Q else qEx d 115 44 st ls σ μ la Q) := (qEx_eq (i := .if_icmp .eq 6) rfl).trans qExA_ite
theorem x115_44  : qEx d 115 44 st ls σ μ la Q ↔ qEx d 115 46 (.int (-12) :: st) ls σ μ la Q := (qEx_eq (i := .bipush (-12)) rfl).trans Iff.rfl
theorem x115_46 {x : Int32} : qEx d 115 46 [.int x] ls σ μ la Q ↔ Q (some (.int x)) σ μ la := (qEx_eq (i := .ireturn) rfl).trans Iff.rfl
theorem x115_47 {x : Nat} {l1 l2 l3 l4 : Value} : qEx d 115 47 st [.ref x, l1, l2, l3, l4] σ μ la Q ↔ qEx d 115 48 (.ref x :: st) [.ref x, l1, l2, l3, l4] σ μ la Q := (qEx_eq (i := .aload_n 0) rfl).trans Iff.rfl
theorem x115_48 {a : Nat} : qEx d 115 48 (.ref a :: st) ls σ μ la Q ↔ (qOk σ a 6 = true ∧ qEx d 115 51 (qrf (σ.2 a 4) :: st) ls σ μ la Q) := (qEx_eq (i := .getfield 45) rfl).trans qExA_chk
theorem x115_51 {x : Int32} {l0 l2 l3 l4 : Value} : qEx d 115 51 st [l0, .int x, l2, l3, l4] σ μ la Q ↔ qEx d 115 52 (.int x :: st) [l0, .int x, l2, l3, l4] σ μ la Q := (qEx_eq (i := .iload_n 1) rfl).trans Iff.rfl
theorem x115_52 {x : Int32} {a : Nat} : qEx d 115 52 (.int x :: .ref a :: st) ls σ μ la Q ↔ (qIn x (qAld σ a) = true ∧ qEx d 115 53 (qrf (σ.2 a x.toNatClampNeg) :: st) ls σ μ la Q) := (qEx_eq (i := .aaload) rfl).trans qExA_chk
theorem x115_53 {x : Int32} {l0 l1 l2 l4 : Value} : qEx d 115 53 st [l0, l1, l2, .int x, l4] σ μ la Q ↔ qEx d 115 54 (.int x :: st) [l0, l1, l2, .int x, l4] σ μ la Q := (qEx_eq (i := .iload_n 3) rfl).trans Iff.rfl
theorem x115_54 {x : Int32} {l0 l1 l2 l3 : Value} : qEx d 115 54 st [l0, l1, l2, l3, .int x] σ μ la Q ↔ qEx d 115 56 (.int x :: st) [l0, l1, l2, l3, .int x] σ μ la Q := (qEx_eq (i := .iload 4) rfl).trans Iff.rfl
theorem x115_56 {y0 : Int32} {y1 : Int32} {a : Nat} : qEx (d + 1) 115 56 [.int y1, .int y0, .ref a] ls σ μ la Q ↔ (qOk σ a 2 = true ∧ qEx d 41 0 [] [.ref a, .int y0, .int y1] σ μ la fun r σ' μ' la' => qEx (d + 1) 115 59 (r.toList ++ []) ls σ' μ' la' Q) := (qEx_eq (i := .invokevirtual 215) rfl).trans qExA_chk
theorem x115_59 {x : Int32} : qEx d 115 59 (.int x :: st) ls σ μ la Q ↔ (if x = 0 then qEx d 115 66 st ls σ μ la Q else qEx d 115 62 st ls σ μ la Q) := (qEx_eq (i := .ifCond .eq 7) rfl).trans qExA_ite
theorem x115_62  : qEx d 115 62 st ls σ μ la Q ↔ qEx d 115 63 (.int 0 :: st) ls σ μ la Q := (qEx_eq (i := .iconst 0) rfl).trans Iff.rfl
theorem x115_63  : qEx d 115 63 st ls σ μ la Q ↔ qEx d 115 68 st ls σ μ la Q := (qEx_eq (i := .goto 5) rfl).trans Iff.rfl
theorem x115_66  : qEx d 115 66 st ls σ μ la Q ↔ qEx d 115 68 (.int (-13) :: st) ls σ μ la Q := (qEx_eq (i := .bipush (-13)) rfl).trans Iff.rfl
theorem x115_68 {x : Int32} : qEx d 115 68 [.int x] ls σ μ la Q ↔ Q (some (.int x)) σ μ la := (qEx_eq (i := .ireturn) rfl).trans Iff.rfl
theorem x116_0  : qEx d 116 0 st ls σ μ la Q ↔ qEx d 116 1 (.int 1 :: st) ls σ μ la Q := (qEx_eq (i := .iconst 1) rfl).trans Iff.rfl
theorem x116_1 {x : Int32} {l0 l1 l2 l3 l4 l5 : Value} : qEx d 116 1 (.int x :: st) [l0, l1, l2, l3, l4, l5] σ μ la Q ↔ qEx d 116 3 st [l0, l1, l2, l3, l4, .int x] σ μ la Q := (qEx_eq (i := .istore 5) rfl).trans Iff.rfl
theorem x116_3 {x : Int32} {l0 l1 l2 l3 l4 : Value} : qEx d 116 3 st [l0, l1, l2, l3, l4, .int x] σ μ la Q ↔ qEx d 116 5 (.int x :: st) [l0, l1, l2, l3, l4, .int x] σ μ la Q := (qEx_eq (i := .iload 5) rfl).trans Iff.rfl
theorem x116_5  : qEx d 116 5 st ls σ μ la Q ↔ qEx d 116 7 (.int 99 :: st) ls σ μ la Q := (qEx_eq (i := .bipush 99) rfl).trans Iff.rfl
theorem x116_7 {x y : Int32} : qEx d 116 7 (.int y :: .int x :: st) ls σ μ la Q ↔ (if y < x then qEx d 116 65 st ls σ μ la Q else qEx d 116 10 st ls σ μ la Q) := (qEx_eq (i := .if_icmp .gt 58) rfl).trans qExA_ite
theorem x116_10 {x : Nat} {l1 l2 l3 l4 l5 : Value} : qEx d 116 10 st [.ref x, l1, l2, l3, l4, l5] σ μ la Q ↔ qEx d 116 11 (.ref x :: st) [.ref x, l1, l2, l3, l4, l5] σ μ la Q := (qEx_eq (i := .aload_n 0) rfl).trans Iff.rfl
theorem x116_11 {a : Nat} : qEx d 116 11 (.ref a :: st) ls σ μ la Q ↔ (qOk σ a 6 = true ∧ qEx d 116 14 (qrf (σ.2 a 5) :: st) ls σ μ la Q) := (qEx_eq (i := .getfield 52) rfl).trans qExA_chk
theorem x116_14 {x : Nat} {l1 l2 l3 l4 l5 : Value} : qEx d 116 14 st [.ref x, l1, l2, l3, l4, l5] σ μ la Q ↔ qEx d 116 15 (.ref x :: st) [.ref x, l1, l2, l3, l4, l5] σ μ la Q := (qEx_eq (i := .aload_n 0) rfl).trans Iff.rfl
theorem x116_15 {a : Nat} : qEx d 116 15 (.ref a :: st) ls σ μ la Q ↔ (qOk σ a 6 = true ∧ qEx d 116 18 (qrf (σ.2 a 1) :: st) ls σ μ la Q) := (qEx_eq (i := .getfield 27) rfl).trans qExA_chk
theorem x116_18 {x : Int32} {l0 l2 l3 l4 l5 : Value} : qEx d 116 18 st [l0, .int x, l2, l3, l4, l5] σ μ la Q ↔ qEx d 116 19 (.int x :: st) [l0, .int x, l2, l3, l4, l5] σ μ la Q := (qEx_eq (i := .iload_n 1) rfl).trans Iff.rfl
theorem x116_19 {x : Nat} {l1 l2 l3 l4 l5 : Value} : qEx d 116 19 st [.ref x, l1, l2, l3, l4, l5] σ μ la Q ↔ qEx d 116 20 (.ref x :: st) [.ref x, l1, l2, l3, l4, l5] σ μ la Q := (qEx_eq (i := .aload_n 0) rfl).trans Iff.rfl
theorem x116_20 {a : Nat} : qEx d 116 20 (.ref a :: st) ls σ μ la Q ↔ (qOk σ a 6 = true ∧ qEx d 116 23 (qrf (σ.2 a 1) :: st) ls σ μ la Q) := (qEx_eq (i := .getfield 27) rfl).trans qExA_chk
theorem x116_23 {a : Nat} : qEx d 116 23 (.ref a :: st) ls σ μ la Q ↔ (qOk σ a 4 = true ∧ qEx d 116 26 (qrf (σ.2 a 7) :: st) ls σ μ la Q) := (qEx_eq (i := .getfield 87) rfl).trans qExA_chk
theorem x116_26 {x : Int32} {l0 l2 l3 l4 l5 : Value} : qEx d 116 26 st [l0, .int x, l2, l3, l4, l5] σ μ la Q ↔ qEx d 116 27 (.int x :: st) [l0, .int x, l2, l3, l4, l5] σ μ la Q := (qEx_eq (i := .iload_n 1) rfl).trans Iff.rfl
theorem x116_27 {x : Int32} {a : Nat} : qEx d 116 27 (.int x :: .ref a :: st) ls σ μ la Q ↔ (qIn x (qIld σ μ a) = true ∧ qEx d 116 28 (.int (μ a x.toNatClampNeg) :: st) ls σ μ la Q) := (qEx_eq (i := .iaload) rfl).trans qExA_chk
theorem x116_28 {x : Nat} {l1 l2 l3 l4 l5 : Value} : qEx d 116 28 st [.ref x, l1, l2, l3, l4, l5] σ μ la Q ↔ qEx d 116 29 (.ref x :: st) [.ref x, l1, l2, l3, l4, l5] σ μ la Q := (qEx_eq (i := .aload_n 0) rfl).trans Iff.rfl
theorem x116_29 {a : Nat} : qEx d 116 29 (.ref a :: st) ls σ μ la Q ↔ (qOk σ a 6 = true ∧ qEx d 116 32 (qrf (σ.2 a 1) :: st) ls σ μ la Q) := (qEx_eq (i := .getfield 27) rfl).trans qExA_chk
theorem x116_32 {a : Nat} : qEx d 116 32 (.ref a :: st) ls σ μ la Q ↔ (qOk σ a 4 = true ∧ qEx d 116 35 (qrf (σ.2 a 9) :: st) ls σ μ la Q) := (qEx_eq (i := .getfield 94) rfl).trans qExA_chk
theorem x116_35 {x : Int32} {l0 l2 l3 l4 l5 : Value} : qEx d 116 35 st [l0, .int x, l2, l3, l4, l5] σ μ la Q ↔ qEx d 116 36 (.int x :: st) [l0, .int x, l2, l3, l4, l5] σ μ la Q := (qEx_eq (i := .iload_n 1) rfl).trans Iff.rfl
theorem x116_36 {x : Int32} {a : Nat} : qEx d 116 36 (.int x :: .ref a :: st) ls σ μ la Q ↔ (qIn x (qIld σ μ a) = true ∧ qEx d 116 37 (.int (μ a x.toNatClampNeg) :: st) ls σ μ la Q) := (qEx_eq (i := .iaload) rfl).trans qExA_chk
theorem x116_37 {x : Int32} {l0 l1 l2 l3 l4 : Value} : qEx d 116 37 st [l0, l1, l2, l3, l4, .int x] σ μ la Q ↔ qEx d 116 39 (.int x :: st) [l0, l1, l2, l3, l4, .int x] σ μ la Q := (qEx_eq (i := .iload 5) rfl).trans Iff.rfl
theorem x116_39 {y0 : Nat} {y1 : Int32} {y2 : Int32} {y3 : Int32} {y4 : Int32} {a : Nat} : qEx (d + 1) 116 39 [.int y4, .int y3, .int y2, .int y1, .ref y0, .ref a] ls σ μ la Q ↔ (qOk σ a 5 = true ∧ qEx d 71 0 [] [.ref a, .ref y0, .int y1, .int y2, .int y3, .int y4, .retAddr 0, .retAddr 0, .retAddr 0, .retAddr 0, .retAddr 0] σ μ la fun r σ' μ' la' => qEx (d + 1) 116 42 (r.toList ++ []) ls σ' μ' la' Q) := (qEx_eq (i := .invokevirtual 147) rfl).trans qExA_chk
theorem x116_42 {x : Nat} {l1 l2 l3 l4 l5 : Value} : qEx d 116 42 st [.ref x, l1, l2, l3, l4, l5] σ μ la Q ↔ qEx d 116 43 (.ref x :: st) [.ref x, l1, l2, l3, l4, l5] σ μ la Q := (qEx_eq (i := .aload_n 0) rfl).trans Iff.rfl
theorem x116_43 {a : Nat} : qEx d 116 43 (.ref a :: st) ls σ μ la Q ↔ (qOk σ a 6 = true ∧ qEx d 116 46 (qrf (σ.2 a 5) :: st) ls σ μ la Q) := (qEx_eq (i := .getfield 52) rfl).trans qExA_chk
theorem x116_46 {x : Nat} {l0 l1 l3 l4 l5 : Value} : qEx d 116 46 st [l0, l1, .ref x, l3, l4, l5] σ μ la Q ↔ qEx d 116 47 (.ref x :: st) [l0, l1, .ref x, l3, l4, l5] σ μ la Q := (qEx_eq (i := .aload_n 2) rfl).trans Iff.rfl
theorem x116_47 {x : Int32} {l0 l1 l2 l4 l5 : Value} : qEx d 116 47 st [l0, l1, l2, .int x, l4, l5] σ μ la Q ↔ qEx d 116 48 (.int x :: st) [l0, l1, l2, .int x, l4, l5] σ μ la Q := (qEx_eq (i := .iload_n 3) rfl).trans Iff.rfl
theorem x116_48 {x : Int32} {l0 l1 l2 l3 l5 : Value} : qEx d 116 48 st [l0, l1, l2, l3, .int x, l5] σ μ la Q ↔ qEx d 116 50 (.int x :: st) [l0, l1, l2, l3, .int x, l5] σ μ la Q := (qEx_eq (i := .iload 4) rfl).trans Iff.rfl
theorem x116_50 {y0 : Nat} {y1 : Int32} {y2 : Int32} {a : Nat} : qEx (d + 1) 116 50 [.int y2, .int y1, .ref y0, .ref a] ls σ μ la Q ↔ (qOk σ a 5 = true ∧ qEx d 72 0 [] [.ref a, .ref y0, .int y1, .int y2, .retAddr 0] σ μ la fun r σ' μ' la' => qEx (d + 1) 116 53 (r.toList ++ []) ls σ' μ' la' Q) := (qEx_eq (i := .invokevirtual 238) rfl).trans qExA_chk
theorem x116_53 {x : Int32} : qEx d 116 53 (.int x :: st) ls σ μ la Q ↔ (if x = 0 then qEx d 116 59 st ls σ μ la Q else qEx d 116 56 st ls σ μ la Q) := (qEx_eq (i := .ifCond .eq 6) rfl).trans qExA_ite
theorem x116_56 {x : Int32} {l0 l1 l2 l3 l4 : Value} : qEx d 116 56 st [l0, l1, l2, l3, l4, .int x] σ μ la Q ↔ qEx d 116 58 (.int x :: st) [l0, l1, l2, l3, l4, .int x] σ μ la Q := (qEx_eq (i := .iload 5) rfl).trans Iff.rfl
theorem x116_58 {x : Int32} : qEx d 116 58 [.int x] ls σ μ la Q ↔ Q (some (.int x)) σ μ la := (qEx_eq (i := .ireturn) rfl).trans Iff.rfl
theorem x116_59 {x : Int32} {l0 l1 l2 l3 l4 : Value} : qEx d 116 59 st [l0, l1, l2, l3, l4, .int x] σ μ la Q ↔ qEx d 116 62 st [l0, l1, l2, l3, l4, .int (x + 1)] σ μ la Q := (qEx_eq (i := .iinc 5 1) rfl).trans Iff.rfl
theorem x116_62  : qEx d 116 62 st ls σ μ la Q ↔ qEx d 116 3 st ls σ μ la Q := (qEx_eq (i := .goto (-59)) rfl).trans Iff.rfl
theorem x116_65  : qEx d 116 65 st ls σ μ la Q ↔ qEx d 116 67 (.int (-4) :: st) ls σ μ la Q := (qEx_eq (i := .bipush (-4)) rfl).trans Iff.rfl
theorem x116_67 {x : Int32} : qEx d 116 67 [.int x] ls σ μ la Q ↔ Q (some (.int x)) σ μ la := (qEx_eq (i := .ireturn) rfl).trans Iff.rfl
