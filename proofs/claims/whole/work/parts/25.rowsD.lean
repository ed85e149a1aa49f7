variable {d : Nat} {st ls : List Value} {σ : qSg} {μ : qMu} {la : qLa} {Q : qPost}
theorem x117_0 {x : Nat} {l1 : Value} : qEx d 117 0 st [.ref x, l1] σ μ la Q ↔ qEx d 117 1 (.ref x :: st) [.ref x, l1] σ μ la Q := (qEx_eq (i := .aload_n 0) rfl).trans Iff.rfl
theorem x117_1 {a : Nat} : qEx d 117 1 [.ref a] ls σ μ la Q ↔ qEx d 117 4 [] ls σ μ la Q := (qEx_eq (i := .invokespecial 1) rfl).trans Iff.rfl
theorem x117_4 {x : Nat} {l1 : Value} : qEx d 117 4 st [.ref x, l1] σ μ la Q ↔ qEx d 117 5 (.ref x :: st) [.ref x, l1] σ μ la Q := (qEx_eq (i := .aload_n 0) rfl).trans Iff.rfl
theorem x117_5  : qEx d 117 5 st ls σ μ la Q ↔ qEx d 117 6 (.int 4 :: st) ls σ μ la Q := (qEx_eq (i := .iconst 4) rfl).trans Iff.rfl
theorem x117_6 {x : Int32} : qEx d 117 6 (.int x :: st) ls σ μ la Q ↔ ((0 ≤ x ∧ qSh σ.1 = (10, x.toNatClampNeg) ∧ x.toNatClampNeg ≤ 5000 ∧ σ.1 < 1000) ∧ qEx d 117 8 (.ref σ.1 :: st) ls (σ.1 + 1, σ.2) (qclr μ σ.1 0) (qclr la σ.1 0) Q) := ((qEx_eq (i := .newarray .int) rfl).trans qExA_chk).trans (qAndN (by decide))
theorem x117_8 {a b : Nat} : qEx d 117 8 (.ref b :: .ref a :: st) ls σ μ la Q ↔ (qOk σ a 7 = true ∧ qEx d 117 11 st ls (σ.1, qsetR σ.2 a 0 (some b)) μ la Q) := ((qEx_eq (i := .putfield 7) rfl).trans qExA_chk).trans (qAndL ⟨by decide +kernel, by decide +kernel⟩)
theorem x117_11 {x : Nat} {l1 : Value} : qEx d 117 11 st [.ref x, l1] σ μ la Q ↔ qEx d 117 12 (.ref x :: st) [.ref x, l1] σ μ la Q := (qEx_eq (i := .aload_n 0) rfl).trans Iff.rfl
theorem x117_12  : qEx d 117 12 st ls σ μ la Q ↔ qEx d 117 13 (.int 4 :: st) ls σ μ la Q := (qEx_eq (i := .iconst 4) rfl).trans Iff.rfl
theorem x117_13 {x : Int32} : qEx d 117 13 (.int x :: st) ls σ μ la Q ↔ ((0 ≤ x ∧ qSh σ.1 = (10, x.toNatClampNeg) ∧ x.toNatClampNeg ≤ 5000 ∧ σ.1 < 1000) ∧ qEx d 117 15 (.ref σ.1 :: st) ls (σ.1 + 1, σ.2) (qclr μ σ.1 0) (qclr la σ.1 0) Q) := ((qEx_eq (i := .newarray .int) rfl).trans qExA_chk).trans (qAndN (by decide))
theorem x117_15 {a b : Nat} : qEx d 117 15 (.ref b :: .ref a :: st) ls σ μ la Q ↔ (qOk σ a 7 = true ∧ qEx d 117 18 st ls (σ.1, qsetR σ.2 a 1 (some b)) μ la Q) := ((qEx_eq (i := .putfield 13) rfl).trans qExA_chk).trans (qAndL ⟨by decide +kernel, by decide +kernel⟩)
theorem x117_18 {x : Nat} {l1 : Value} : qEx d 117 18 st [.ref x, l1] σ μ la Q ↔ qEx d 117 19 (.ref x :: st) [.ref x, l1] σ μ la Q := (qEx_eq (i := .aload_n 0) rfl).trans Iff.rfl
theorem x117_19  : qEx d 117 19 st ls σ μ la Q ↔ qEx d 117 21 (.int 96 :: st) ls σ μ la Q := (qEx_eq (i := .bipush 96) rfl).trans Iff.rfl
theorem x117_21 {x : Int32} : qEx d 117 21 (.int x :: st) ls σ μ la Q ↔ ((0 ≤ x ∧ qSh σ.1 = (11, x.toNatClampNeg) ∧ x.toNatClampNeg ≤ 5000 ∧ σ.1 < 1000) ∧ qEx d 117 23 (.ref σ.1 :: st) ls (σ.1 + 1, σ.2) (qclr μ σ.1 0) (qclr la σ.1 0) Q) := ((qEx_eq (i := .newarray .long) rfl).trans qExA_chk).trans (qAndN (by decide))
theorem x117_23 {a b : Nat} : qEx d 117 23 (.ref b :: .ref a :: st) ls σ μ la Q ↔ (qOk σ a 7 = true ∧ qEx d 117 26 st ls (σ.1, qsetR σ.2 a 2 (some b)) μ la Q) := ((qEx_eq (i := .putfield 16) rfl).trans qExA_chk).trans (qAndL ⟨by decide +kernel, by decide +kernel⟩)
theorem x117_26 {x : Nat} {l1 : Value} : qEx d 117 26 st [.ref x, l1] σ μ la Q ↔ qEx d 117 27 (.ref x :: st) [.ref x, l1] σ μ la Q := (qEx_eq (i := .aload_n 0) rfl).trans Iff.rfl
theorem x117_27  : qEx d 117 27 st ls σ μ la Q ↔ qEx d 117 30 (.int 140 :: st) ls σ μ la Q := (qEx_eq (i := .sipush 140) rfl).trans Iff.rfl
theorem x117_30 {x : Int32} : qEx d 117 30 (.int x :: st) ls σ μ la Q ↔ ((0 ≤ x ∧ qSh σ.1 = (10, x.toNatClampNeg) ∧ x.toNatClampNeg ≤ 5000 ∧ σ.1 < 1000) ∧ qEx d 117 32 (.ref σ.1 :: st) ls (σ.1 + 1, σ.2) (qclr μ σ.1 0) (qclr la σ.1 0) Q) := ((qEx_eq (i := .newarray .int) rfl).trans qExA_chk).trans (qAndN (by decide))
theorem x117_32 {a b : Nat} : qEx d 117 32 (.ref b :: .ref a :: st) ls σ μ la Q ↔ (qOk σ a 7 = true ∧ qEx d 117 35 st ls (σ.1, qsetR σ.2 a 4 (some b)) μ la Q) := ((qEx_eq (i := .putfield 20) rfl).trans qExA_chk).trans (qAndL ⟨by decide +kernel, by decide +kernel⟩)
theorem x117_35 {x : Nat} {l1 : Value} : qEx d 117 35 st [.ref x, l1] σ μ la Q ↔ qEx d 117 36 (.ref x :: st) [.ref x, l1] σ μ la Q := (qEx_eq (i := .aload_n 0) rfl).trans Iff.rfl
theorem x117_36  : qEx d 117 36 st ls σ μ la Q ↔ qEx d 117 38 (.int 124 :: st) ls σ μ la Q := (qEx_eq (i := .bipush 124) rfl).trans Iff.rfl
theorem x117_38 {x : Int32} : qEx d 117 38 (.int x :: st) ls σ μ la Q ↔ ((0 ≤ x ∧ qSh σ.1 = (10, x.toNatClampNeg) ∧ x.toNatClampNeg ≤ 5000 ∧ σ.1 < 1000) ∧ qEx d 117 40 (.ref σ.1 :: st) ls (σ.1 + 1, σ.2) (qclr μ σ.1 0) (qclr la σ.1 0) Q) := ((qEx_eq (i := .newarray .int) rfl).trans qExA_chk).trans (qAndN (by decide))
theorem x117_40 {a b : Nat} : qEx d 117 40 (.ref b :: .ref a :: st) ls σ μ la Q ↔ (qOk σ a 7 = true ∧ qEx d 117 43 st ls (σ.1, qsetR σ.2 a 6 (some b)) μ la Q) := ((qEx_eq (i := .putfield 23) rfl).trans qExA_chk).trans (qAndL ⟨by decide +kernel, by decide +kernel⟩)
theorem x117_43 {x : Nat} {l1 : Value} : qEx d 117 43 st [.ref x, l1] σ μ la Q ↔ qEx d 117 44 (.ref x :: st) [.ref x, l1] σ μ la Q := (qEx_eq (i := .aload_n 0) rfl).trans Iff.rfl
theorem x117_44  : qEx d 117 44 st ls σ μ la Q ↔ qEx d 117 46 (.int 124 :: st) ls σ μ la Q := (qEx_eq (i := .bipush 124) rfl).trans Iff.rfl
theorem x117_46 {x : Int32} : qEx d 117 46 (.int x :: st) ls σ μ la Q ↔ ((0 ≤ x ∧ qSh σ.1 = (10, x.toNatClampNeg) ∧ x.toNatClampNeg ≤ 5000 ∧ σ.1 < 1000) ∧ qEx d 117 48 (.ref σ.1 :: st) ls (σ.1 + 1, σ.2) (qclr μ σ.1 0) (qclr la σ.1 0) Q) := ((qEx_eq (i := .newarray .int) rfl).trans qExA_chk).trans (qAndN (by decide))
theorem x117_48 {a b : Nat} : qEx d 117 48 (.ref b :: .ref a :: st) ls σ μ la Q ↔ (qOk σ a 7 = true ∧ qEx d 117 51 st ls (σ.1, qsetR σ.2 a 7 (some b)) μ la Q) := ((qEx_eq (i := .putfield 26) rfl).trans qExA_chk).trans (qAndL ⟨by decide +kernel, by decide +kernel⟩)
theorem x117_51 {x : Nat} {l1 : Value} : qEx d 117 51 st [.ref x, l1] σ μ la Q ↔ qEx d 117 52 (.ref x :: st) [.ref x, l1] σ μ la Q := (qEx_eq (i := .aload_n 0) rfl).trans Iff.rfl
theorem x117_52  : qEx d 117 52 st ls σ μ la Q ↔ qEx d 117 54 (.int 124 :: st) ls σ μ la Q := (qEx_eq (i := .bipush 124) rfl).trans Iff.rfl
theorem x117_54 {x : Int32} : qEx d 117 54 (.int x :: st) ls σ μ la Q ↔ ((0 ≤ x ∧ qSh σ.1 = (10, x.toNatClampNeg) ∧ x.toNatClampNeg ≤ 5000 ∧ σ.1 < 1000) ∧ qEx d 117 56 (.ref σ.1 :: st) ls (σ.1 + 1, σ.2) (qclr μ σ.1 0) (qclr la σ.1 0) Q) := ((qEx_eq (i := .newarray .int) rfl).trans qExA_chk).trans (qAndN (by decide))
theorem x117_56 {a b : Nat} : qEx d 117 56 (.ref b :: .ref a :: st) ls σ μ la Q ↔ (qOk σ a 7 = true ∧ qEx d 117 59 st ls (σ.1, qsetR σ.2 a 8 (some b)) μ la Q) := ((qEx_eq (i := .putfield 29) rfl).trans qExA_chk).trans (qAndL ⟨by decide +kernel, by decide +kernel⟩)
theorem x117_59 {x : Nat} {l1 : Value} : qEx d 117 59 st [.ref x, l1] σ μ la Q ↔ qEx d 117 60 (.ref x :: st) [.ref x, l1] σ μ la Q := (qEx_eq (i := .aload_n 0) rfl).trans Iff.rfl
theorem x117_60  : qEx d 117 60 st ls σ μ la Q ↔ qEx d 117 63 (.int 496 :: st) ls σ μ la Q := (qEx_eq (i := .sipush 496) rfl).trans Iff.rfl
theorem x117_63 {x : Int32} : qEx d 117 63 (.int x :: st) ls σ μ la Q ↔ ((0 ≤ x ∧ qSh σ.1 = (10, x.toNatClampNeg) ∧ x.toNatClampNeg ≤ 5000 ∧ σ.1 < 1000) ∧ qEx d 117 65 (.ref σ.1 :: st) ls (σ.1 + 1, σ.2) (qclr μ σ.1 0) (qclr la σ.1 0) Q) := ((qEx_eq (i := .newarray .int) rfl).trans qExA_chk).trans (qAndN (by decide))
theorem x117_65 {a b : Nat} : qEx d 117 65 (.ref b :: .ref a :: st) ls σ μ la Q ↔ (qOk σ a 7 = true ∧ qEx d 117 68 st ls (σ.1, qsetR σ.2 a 9 (some b)) μ la Q) := ((qEx_eq (i := .putfield 32) rfl).trans qExA_chk).trans (qAndL ⟨by decide +kernel, by decide +kernel⟩)
theorem x117_68 {x : Nat} {l1 : Value} : qEx d 117 68 st [.ref x, l1] σ μ la Q ↔ qEx d 117 69 (.ref x :: st) [.ref x, l1] σ μ la Q := (qEx_eq (i := .aload_n 0) rfl).trans Iff.rfl
theorem x117_69  : qEx d 117 69 st ls σ μ la Q ↔ qEx d 117 72 (.int 248 :: st) ls σ μ la Q := (qEx_eq (i := .sipush 248) rfl).trans Iff.rfl
theorem x117_72 {x : Int32} : qEx d 117 72 (.int x :: st) ls σ μ la Q ↔ ((0 ≤ x ∧ qSh σ.1 = (10, x.toNatClampNeg) ∧ x.toNatClampNeg ≤ 5000 ∧ σ.1 < 1000) ∧ qEx d 117 74 (.ref σ.1 :: st) ls (σ.1 + 1, σ.2) (qclr μ σ.1 0) (qclr la σ.1 0) Q) := ((qEx_eq (i := .newarray .int) rfl).trans qExA_chk).trans (qAndN (by decide))
theorem x117_74 {a b : Nat} : qEx d 117 74 (.ref b :: .ref a :: st) ls σ μ la Q ↔ (qOk σ a 7 = true ∧ qEx d 117 77 st ls (σ.1, qsetR σ.2 a 10 (some b)) μ la Q) := ((qEx_eq (i := .putfield 35) rfl).trans qExA_chk).trans (qAndL ⟨by decide +kernel, by decide +kernel⟩)
theorem x117_77 {x : Nat} {l1 : Value} : qEx d 117 77 st [.ref x, l1] σ μ la Q ↔ qEx d 117 78 (.ref x :: st) [.ref x, l1] σ μ la Q := (qEx_eq (i := .aload_n 0) rfl).trans Iff.rfl
theorem x117_78  : qEx d 117 78 st ls σ μ la Q ↔ qEx d 117 79 (.int 2 :: st) ls σ μ la Q := (qEx_eq (i := .iconst 2) rfl).trans Iff.rfl
theorem x117_79 {x : Int32} : qEx d 117 79 (.int x :: st) ls σ μ la Q ↔ ((0 ≤ x ∧ qSh σ.1 = (12, x.toNatClampNeg) ∧ x.toNatClampNeg ≤ 5000 ∧ σ.1 < 1000) ∧ qEx d 117 81 (.ref σ.1 :: st) ls (σ.1 + 1, σ.2) (qclr μ σ.1 0) (qclr la σ.1 0) Q) := ((qEx_eq (i := .newarray .boolean) rfl).trans qExA_chk).trans (qAndN (by decide))
theorem x117_81 {a b : Nat} : qEx d 117 81 (.ref b :: .ref a :: st) ls σ μ la Q ↔ (qOk σ a 7 = true ∧ qEx d 117 84 st ls (σ.1, qsetR σ.2 a 11 (some b)) μ la Q) := ((qEx_eq (i := .putfield 38) rfl).trans qExA_chk).trans (qAndL ⟨by decide +kernel, by decide +kernel⟩)
theorem x117_84 {x : Nat} {l1 : Value} : qEx d 117 84 st [.ref x, l1] σ μ la Q ↔ qEx d 117 85 (.ref x :: st) [.ref x, l1] σ μ la Q := (qEx_eq (i := .aload_n 0) rfl).trans Iff.rfl
theorem x117_85  : qEx d 117 85 st ls σ μ la Q ↔ qEx d 117 88 (.int 2712 :: st) ls σ μ la Q := (qEx_eq (i := .sipush 2712) rfl).trans Iff.rfl
theorem x117_88 {x : Int32} : qEx d 117 88 (.int x :: st) ls σ μ la Q ↔ ((0 ≤ x ∧ qSh σ.1 = (10, x.toNatClampNeg) ∧ x.toNatClampNeg ≤ 5000 ∧ σ.1 < 1000) ∧ qEx d 117 90 (.ref σ.1 :: st) ls (σ.1 + 1, σ.2) (qclr μ σ.1 0) (qclr la σ.1 0) Q) := ((qEx_eq (i := .newarray .int) rfl).trans qExA_chk).trans (qAndN (by decide))
theorem x117_90 {a b : Nat} : qEx d 117 90 (.ref b :: .ref a :: st) ls σ μ la Q ↔ (qOk σ a 7 = true ∧ qEx d 117 93 st ls (σ.1, qsetR σ.2 a 12 (some b)) μ la Q) := ((qEx_eq (i := .putfield 42) rfl).trans qExA_chk).trans (qAndL ⟨by decide +kernel, by decide +kernel⟩)
theorem x117_93 {x : Nat} {l1 : Value} : qEx d 117 93 st [.ref x, l1] σ μ la Q ↔ qEx d 117 94 (.ref x :: st) [.ref x, l1] σ μ la Q := (qEx_eq (i := .aload_n 0) rfl).trans Iff.rfl
theorem x117_94  : qEx d 117 94 st ls σ μ la Q ↔ qEx d 117 96 (.int 8 :: st) ls σ μ la Q := (qEx_eq (i := .bipush 8) rfl).trans Iff.rfl
theorem x117_96 {x : Int32} : qEx d 117 96 (.int x :: st) ls σ μ la Q ↔ ((0 ≤ x ∧ qSh σ.1 = (10, x.toNatClampNeg) ∧ x.toNatClampNeg ≤ 5000 ∧ σ.1 < 1000) ∧ qEx d 117 98 (.ref σ.1 :: st) ls (σ.1 + 1, σ.2) (qclr μ σ.1 0) (qclr la σ.1 0) Q) := ((qEx_eq (i := .newarray .int) rfl).trans qExA_chk).trans (qAndN (by decide))
theorem x117_98 {a b : Nat} : qEx d 117 98 (.ref b :: .ref a :: st) ls σ μ la Q ↔ (qOk σ a 7 = true ∧ qEx d 117 101 st ls (σ.1, qsetR σ.2 a 14 (some b)) μ la Q) := ((qEx_eq (i := .putfield 45) rfl).trans qExA_chk).trans (qAndL ⟨by decide +kernel, by decide +kernel⟩)
theorem x117_101 {x : Nat} {l1 : Value} : qEx d 117 101 st [.ref x, l1] σ μ la Q ↔ qEx d 117 102 (.ref x :: st) [.ref x, l1] σ μ la Q := (qEx_eq (i := .aload_n 0) rfl).trans Iff.rfl
theorem x117_102  : qEx d 117 102 st ls σ μ la Q ↔ qEx d 117 104 (.int 64 :: st) ls σ μ la Q := (qEx_eq (i := .bipush 64) rfl).trans Iff.rfl
theorem x117_104 {x : Int32} : qEx d 117 104 (.int x :: st) ls σ μ la Q ↔ ((0 ≤ x ∧ qSh σ.1 = (12, x.toNatClampNeg) ∧ x.toNatClampNeg ≤ 5000 ∧ σ.1 < 1000) ∧ qEx d 117 106 (.ref σ.1 :: st) ls (σ.1 + 1, σ.2) (qclr μ σ.1 0) (qclr la σ.1 0) Q) := ((qEx_eq (i := .newarray .boolean) rfl).trans qExA_chk).trans (qAndN (by decide))
theorem x117_106 {a b : Nat} : qEx d 117 106 (.ref b :: .ref a :: st) ls σ μ la Q ↔ (qOk σ a 7 = true ∧ qEx d 117 109 st ls (σ.1, qsetR σ.2 a 19 (some b)) μ la Q) := ((qEx_eq (i := .putfield 48) rfl).trans qExA_chk).trans (qAndL ⟨by decide +kernel, by decide +kernel⟩)
theorem x117_109 {x : Nat} {l1 : Value} : qEx d 117 109 st [.ref x, l1] σ μ la Q ↔ qEx d 117 110 (.ref x :: st) [.ref x, l1] σ μ la Q := (qEx_eq (i := .aload_n 0) rfl).trans Iff.rfl
theorem x117_110  : qEx d 117 110 st ls σ μ la Q ↔ qEx d 117 112 (.int 6 :: st) ls σ μ la Q := (qEx_eq (i := .bipush 6) rfl).trans Iff.rfl
theorem x117_112 {x : Int32} : qEx d 117 112 (.int x :: st) ls σ μ la Q ↔ ((0 ≤ x ∧ qSh σ.1 = (10, x.toNatClampNeg) ∧ x.toNatClampNeg ≤ 5000 ∧ σ.1 < 1000) ∧ qEx d 117 114 (.ref σ.1 :: st) ls (σ.1 + 1, σ.2) (qclr μ σ.1 0) (qclr la σ.1 0) Q) := ((qEx_eq (i := .newarray .int) rfl).trans qExA_chk).trans (qAndN (by decide))
theorem x117_114 {a b : Nat} : qEx d 117 114 (.ref b :: .ref a :: st) ls σ μ la Q ↔ (qOk σ a 7 = true ∧ qEx d 117 117 st ls (σ.1, qsetR σ.2 a 20 (some b)) μ la Q) := ((qEx_eq (i := .putfield 51) rfl).trans qExA_chk).trans (qAndL ⟨by decide +kernel, by decide +kernel⟩)
theorem x117_117 {x : Nat} {l1 : Value} : qEx d 117 117 st [.ref x, l1] σ μ la Q ↔ qEx d 117 118 (.ref x :: st) [.ref x, l1] σ μ la Q := (qEx_eq (i := .aload_n 0) rfl).trans Iff.rfl
theorem x117_118  : qEx d 117 118 st ls σ μ la Q ↔ qEx d 117 120 (.int 6 :: st) ls σ μ la Q := (qEx_eq (i := .bipush 6) rfl).trans Iff.rfl
theorem x117_120 {x : Int32} : qEx d 117 120 (.int x :: st) ls σ μ la Q ↔ ((0 ≤ x ∧ qSh σ.1 = (10, x.toNatClampNeg) ∧ x.toNatClampNeg ≤ 5000 ∧ σ.1 < 1000) ∧ qEx d 117 122 (.ref σ.1 :: st) ls (σ.1 + 1, σ.2) (qclr μ σ.1 0) (qclr la σ.1 0) Q) := ((qEx_eq (i := .newarray .int) rfl).trans qExA_chk).trans (qAndN (by decide))
theorem x117_122 {a b : Nat} : qEx d 117 122 (.ref b :: .ref a :: st) ls σ μ la Q ↔ (qOk σ a 7 = true ∧ qEx d 117 125 st ls (σ.1, qsetR σ.2 a 21 (some b)) μ la Q) := ((qEx_eq (i := .putfield 54) rfl).trans qExA_chk).trans (qAndL ⟨by decide +kernel, by decide +kernel⟩)
theorem x117_125 {x : Nat} {l1 : Value} : qEx d 117 125 st [.ref x, l1] σ μ la Q ↔ qEx d 117 126 (.ref x :: st) [.ref x, l1] σ μ la Q := (qEx_eq (i := .aload_n 0) rfl).trans Iff.rfl
theorem x117_126  : qEx d 117 126 st ls σ μ la Q ↔ qEx d 117 128 (.int 64 :: st) ls σ μ la Q := (qEx_eq (i := .bipush 64) rfl).trans Iff.rfl
theorem x117_128 {x : Int32} : qEx d 117 128 (.int x :: st) ls σ μ la Q ↔ ((0 ≤ x ∧ qSh σ.1 = (10, x.toNatClampNeg) ∧ x.toNatClampNeg ≤ 5000 ∧ σ.1 < 1000) ∧ qEx d 117 130 (.ref σ.1 :: st) ls (σ.1 + 1, σ.2) (qclr μ σ.1 0) (qclr la σ.1 0) Q) := ((qEx_eq (i := .newarray .int) rfl).trans qExA_chk).trans (qAndN (by decide))
theorem x117_130 {a b : Nat} : qEx d 117 130 (.ref b :: .ref a :: st) ls σ μ la Q ↔ (qOk σ a 7 = true ∧ qEx d 117 133 st ls (σ.1, qsetR σ.2 a 24 (some b)) μ la Q) := ((qEx_eq (i := .putfield 57) rfl).trans qExA_chk).trans (qAndL ⟨by decide +kernel, by decide +kernel⟩)
theorem x117_133 {x : Nat} {l1 : Value} : qEx d 117 133 st [.ref x, l1] σ μ la Q ↔ qEx d 117 134 (.ref x :: st) [.ref x, l1] σ μ la Q := (qEx_eq (i := .aload_n 0) rfl).trans Iff.rfl
theorem x117_134  : qEx d 117 134 st ls σ μ la Q ↔ qEx d 117 136 (.int 8 :: st) ls σ μ la Q := (qEx_eq (i := .bipush 8) rfl).trans Iff.rfl
theorem x117_136 {x : Int32} : qEx d 117 136 (.int x :: st) ls σ μ la Q ↔ ((0 ≤ x ∧ qSh σ.1 = (11, x.toNatClampNeg) ∧ x.toNatClampNeg ≤ 5000 ∧ σ.1 < 1000) ∧ qEx d 117 138 (.ref σ.1 :: st) ls (σ.1 + 1, σ.2) (qclr μ σ.1 0) (qclr la σ.1 0) Q) := ((qEx_eq (i := .newarray .long) rfl).trans qExA_chk).trans (qAndN (by decide))
theorem x117_138 {a b : Nat} : qEx d 117 138 (.ref b :: .ref a :: st) ls σ μ la Q ↔ (qOk σ a 7 = true ∧ qEx d 117 141 st ls (σ.1, qsetR σ.2 a 25 (some b)) μ la Q) := ((qEx_eq (i := .putfield 60) rfl).trans qExA_chk).trans (qAndL ⟨by decide +kernel, by decide +kernel⟩)
theorem x117_141  : qEx d 117 141 st ls σ μ la Q ↔ qEx d 117 142 (.int 0 :: st) ls σ μ la Q := (qEx_eq (i := .iconst 0) rfl).trans Iff.rfl
theorem x117_142 {x : Int32} {l0 l1 : Value} : qEx d 117 142 (.int x :: st) [l0, l1] σ μ la Q ↔ qEx d 117 143 st [l0, .int x] σ μ la Q := (qEx_eq (i := .istore_n 1) rfl).trans Iff.rfl
theorem x117_143 {x : Int32} {l0 : Value} : qEx d 117 143 st [l0, .int x] σ μ la Q ↔ qEx d 117 144 (.int x :: st) [l0, .int x] σ μ la Q := (qEx_eq (i := .iload_n 1) rfl).trans Iff.rfl
theorem x117_144  : qEx d 117 144 st ls σ μ la Q ↔ qEx d 117 145 (.int 4 :: st) ls σ μ la Q := (qEx_eq (i := .iconst 4) rfl).trans Iff.rfl
theorem x117_145 {x y : Int32} : qEx d 117 145 (.int y :: .int x :: st) ls σ μ la Q ↔ (if y ≤ x then qEx d 117 161 st ls σ μ la Q else qEx d 117 148 st ls σ μ la Q) := (qEx_eq (i := .if_icmp .ge 16) rfl).trans qExA_ite
theorem x117_148 {x : Nat} {l1 : Value} : qEx d 117 148 st [.ref x, l1] σ μ la Q ↔ qEx d 117 149 (.ref x :: st) [.ref x, l1] σ μ la Q := (qEx_eq (i := .aload_n 0) rfl).trans Iff.rfl
theorem x117_149 {a : Nat} : qEx d 117 149 (.ref a :: st) ls σ μ la Q ↔ (qOk σ a 7 = true ∧ qEx d 117 152 (qrf (σ.2 a 0) :: st) ls σ μ la Q) := (qEx_eq (i := .getfield 7) rfl).trans qExA_chk
theorem x117_152 {x : Int32} {l0 : Value} : qEx d 117 152 st [l0, .int x] σ μ la Q ↔ qEx d 117 153 (.int x :: st) [l0, .int x] σ μ la Q := (qEx_eq (i := .iload_n 1) rfl).trans Iff.rfl
theorem x117_153  : qEx d 117 153 st ls σ μ la Q ↔ qEx d 117 154 (.int (-1) :: st) ls σ μ la Q := (qEx_eq (i := .iconst (-1)) rfl).trans Iff.rfl
theorem x117_154 {x y : Int32} {a : Nat} : qEx d 117 154 (.int y :: .int x :: .ref a :: st) ls σ μ la Q ↔ (qIn x (qLen σ 10 a) = true ∧ qEx d 117 155 st ls σ (qset μ a x.toNatClampNeg y) la Q) := (qEx_eq (i := .iastore) rfl).trans qExA_chk
theorem x117_155 {x : Int32} {l0 : Value} : qEx d 117 155 st [l0, .int x] σ μ la Q ↔ qEx d 117 158 st [l0, .int (x + 1)] σ μ la Q := (qEx_eq (i := .iinc 1 1) rfl).trans Iff.rfl
theorem x117_158  : qEx d 117 158 st ls σ μ la Q ↔ qEx d 117 143 st ls σ μ la Q := (qEx_eq (i := .goto (-15)) rfl).trans Iff.rfl
theorem x117_161  : qEx d 117 161 [] ls σ μ la Q ↔ Q none σ μ la := (qEx_eq (i := .return_) rfl).trans Iff.rfl
theorem x118_0 {x : Int32} {l1 l2 : Value} : qEx d 118 0 st [.int x, l1, l2] σ μ la Q ↔ qEx d 118 1 (.int x :: st) [.int x, l1, l2] σ μ la Q := (qEx_eq (i := .iload_n 0) rfl).trans Iff.rfl
theorem x118_1 {x : Int32} {l0 l2 : Value} : qEx d 118 1 st [l0, .int x, l2] σ μ la Q ↔ qEx d 118 2 (.int x :: st) [l0, .int x, l2] σ μ la Q := (qEx_eq (i := .iload_n 1) rfl).trans Iff.rfl
theorem x118_2 {x y : Int32} : qEx d 118 2 (.int y :: .int x :: st) ls σ μ la Q ↔ (if x < y then qEx d 118 14 st ls σ μ la Q else qEx d 118 5 st ls σ μ la Q) := (qEx_eq (i := .if_icmp .lt 12) rfl).trans qExA_ite
theorem x118_5 {x : Int32} {l1 l2 : Value} : qEx d 118 5 st [.int x, l1, l2] σ μ la Q ↔ qEx d 118 6 (.int x :: st) [.int x, l1, l2] σ μ la Q := (qEx_eq (i := .iload_n 0) rfl).trans Iff.rfl
theorem x118_6 {x : Int32} {l0 l1 : Value} : qEx d 118 6 st [l0, l1, .int x] σ μ la Q ↔ qEx d 118 7 (.int x :: st) [l0, l1, .int x] σ μ la Q := (qEx_eq (i := .iload_n 2) rfl).trans Iff.rfl
theorem x118_7 {x y : Int32} : qEx d 118 7 (.int y :: .int x :: st) ls σ μ la Q ↔ (if y < x then qEx d 118 14 st ls σ μ la Q else qEx d 118 10 st ls σ μ la Q) := (qEx_eq (i := .if_icmp .gt 7) rfl).trans qExA_ite
theorem x118_10  : qEx d 118 10 st ls σ μ la Q ↔ qEx d 118 11 (.int 1 :: st) ls σ μ la Q := (qEx_eq (i := .iconst 1) rfl).trans Iff.rfl
theorem x118_11  : qEx d 118 11 st ls σ μ la Q ↔ qEx d 118 15 st ls σ μ la Q := (qEx_eq (i := .goto 4) rfl).trans Iff.rfl
theorem x118_14  : qEx d 118 14 st ls σ μ la Q ↔ qEx d 118 15 (.int 0 :: st) ls σ μ la Q := (qEx_eq (i := .iconst 0) rfl).trans Iff.rfl
theorem x118_15 {x : Int32} : qEx d 118 15 [.int x] ls σ μ la Q ↔ ((x = 0 ∨ x = 1) ∧ Q (some (.int x)) σ μ la) := (qEx_eq (i := .ireturn) rfl).trans qExA_chk
theorem x119_0 {x : Int32} {l1 : Value} : qEx d 119 0 st [.int x, l1] σ μ la Q ↔ qEx d 119 1 (.int x :: st) [.int x, l1] σ μ la Q := (qEx_eq (i := .iload_n 0) rfl).trans Iff.rfl
theorem x119_1 {x : Int32} {l0 : Value} : qEx d 119 1 st [l0, .int x] σ μ la Q ↔ qEx d 119 2 (.int x :: st) [l0, .int x] σ μ la Q := (qEx_eq (i := .iload_n 1) rfl).trans Iff.rfl
theorem x119_2 {x y : Int32} : qEx d 119 2 (.int y :: .int x :: st) ls σ μ la Q ↔ qEx d 119 3 (.int (x >>> (y &&& 31)) :: st) ls σ μ la Q := (qEx_eq (i := .ishr) rfl).trans Iff.rfl
theorem x119_3  : qEx d 119 3 st ls σ μ la Q ↔ qEx d 119 4 (.int 1 :: st) ls σ μ la Q := (qEx_eq (i := .iconst 1) rfl).trans Iff.rfl
theorem x119_4 {x y : Int32} : qEx d 119 4 (.int y :: .int x :: st) ls σ μ la Q ↔ qEx d 119 5 (.int (x &&& y) :: st) ls σ μ la Q := (qEx_eq (i := .iand) rfl).trans Iff.rfl
theorem x119_5  : qEx d 119 5 st ls σ μ la Q ↔ qEx d 119 6 (.int 1 :: st) ls σ μ la Q := (qEx_eq (i := .iconst 1) rfl).trans Iff.rfl
theorem x119_6 {x y : Int32} : qEx d 119 6 (.int y :: .int x :: st) ls σ μ la Q ↔ (if ¬ x = y then qEx d 119 13 st ls σ μ la Q else qEx d 119 9 st ls σ μ la Q) := (qEx_eq (i := .if_icmp .ne 7) rfl).trans qExA_ite
theorem x119_9  : qEx d 119 9 st ls σ μ la Q ↔ qEx d 119 10 (.int 1 :: st) ls σ μ la Q := (qEx_eq (i := .iconst 1) rfl).trans Iff.rfl
theorem x119_10  : qEx d 119 10 st ls σ μ la Q ↔ qEx d 119 14 st ls σ μ la Q := (qEx_eq (i := .goto 4) rfl).trans Iff.rfl
theorem x119_13  : qEx d 119 13 st ls σ μ la Q ↔ qEx d 119 14 (.int 0 :: st) ls σ μ la Q := (qEx_eq (i := .iconst 0) rfl).trans Iff.rfl
theorem x119_14 {x : Int32} : qEx d 119 14 [.int x] ls σ μ la Q ↔ ((x = 0 ∨ x = 1) ∧ Q (some (.int x)) σ μ la) := (qEx_eq (i := .ireturn) rfl).trans qExA_chk
theorem x120_0  : qEx d 120 0 st ls σ μ la Q ↔ qEx d 120 1 (.int 0 :: st) ls σ μ la Q := (qEx_eq (i := .iconst 0) rfl).trans Iff.rfl
theorem x120_1 {x : Int32} {l0 l1 l2 l3 l4 l5 : Value} : qEx d 120 1 (.int x :: st) [l0, l1, l2, l3, l4, l5] σ μ la Q ↔ qEx d 120 3 st [l0, l1, l2, l3, l4, .int x] σ μ la Q := (qEx_eq (i := .istore 5) rfl).trans Iff.rfl
theorem x120_3 {x : Int32} {l0 l1 l2 l3 l4 : Value} : qEx d 120 3 st [l0, l1, l2, l3, l4, .int x] σ μ la Q ↔ qEx d 120 5 (.int x :: st) [l0, l1, l2, l3, l4, .int x] σ μ la Q := (qEx_eq (i := .iload 5) rfl).trans Iff.rfl
theorem x120_5 {x : Int32} {l0 l1 l2 l3 l5 : Value} : qEx d 120 5 st [l0, l1, l2, l3, .int x, l5] σ μ la Q ↔ qEx d 120 7 (.int x :: st) [l0, l1, l2, l3, .int x, l5] σ μ la Q := (qEx_eq (i := .iload 4) rfl).trans Iff.rfl
theorem x120_7 {x y : Int32} : qEx d 120 7 (.int y :: .int x :: st) ls σ μ la Q ↔ (if y ≤ x then qEx d 120 28 st ls σ μ la Q else qEx d 120 10 st ls σ μ la Q) := (qEx_eq (i := .if_icmp .ge 21) rfl).trans qExA_ite
theorem x120_10 {x : Nat} {l0 l1 l3 l4 l5 : Value} : qEx d 120 10 st [l0, l1, .ref x, l3, l4, l5] σ μ la Q ↔ qEx d 120 11 (.ref x :: st) [l0, l1, .ref x, l3, l4, l5] σ μ la Q := (qEx_eq (i := .aload_n 2) rfl).trans Iff.rfl
theorem x120_11 {x : Int32} {l0 l1 l2 l4 l5 : Value} : qEx d 120 11 st [l0, l1, l2, .int x, l4, l5] σ μ la Q ↔ qEx d 120 12 (.int x :: st) [l0, l1, l2, .int x, l4, l5] σ μ la Q := (qEx_eq (i := .iload_n 3) rfl).trans Iff.rfl
theorem x120_12 {x : Int32} {l0 l1 l2 l3 l4 : Value} : qEx d 120 12 st [l0, l1, l2, l3, l4, .int x] σ μ la Q ↔ qEx d 120 14 (.int x :: st) [l0, l1, l2, l3, l4, .int x] σ μ la Q := (qEx_eq (i := .iload 5) rfl).trans Iff.rfl
theorem x120_14 {x y : Int32} : qEx d 120 14 (.int y :: .int x :: st) ls σ μ la Q ↔ qEx d 120 15 (.int (x + y) :: st) ls σ μ la Q := (qEx_eq (i := .iadd) rfl).trans Iff.rfl
theorem x120_15 {x : Nat} {l1 l2 l3 l4 l5 : Value} : qEx d 120 15 st [.ref x, l1, l2, l3, l4, l5] σ μ la Q ↔ qEx d 120 16 (.ref x :: st) [.ref x, l1, l2, l3, l4, l5] σ μ la Q := (qEx_eq (i := .aload_n 0) rfl).trans Iff.rfl
theorem x120_16 {x : Int32} {l0 l2 l3 l4 l5 : Value} : qEx d 120 16 st [l0, .int x, l2, l3, l4, l5] σ μ la Q ↔ qEx d 120 17 (.int x :: st) [l0, .int x, l2, l3, l4, l5] σ μ la Q := (qEx_eq (i := .iload_n 1) rfl).trans Iff.rfl
theorem x120_17 {x : Int32} {l0 l1 l2 l3 l4 : Value} : qEx d 120 17 st [l0, l1, l2, l3, l4, .int x] σ μ la Q ↔ qEx d 120 19 (.int x :: st) [l0, l1, l2, l3, l4, .int x] σ μ la Q := (qEx_eq (i := .iload 5) rfl).trans Iff.rfl
theorem x120_19 {x y : Int32} : qEx d 120 19 (.int y :: .int x :: st) ls σ μ la Q ↔ qEx d 120 20 (.int (x + y) :: st) ls σ μ la Q := (qEx_eq (i := .iadd) rfl).trans Iff.rfl
theorem x120_20 {x : Int32} {a : Nat} : qEx d 120 20 (.int x :: .ref a :: st) ls σ μ la Q ↔ (qIn x (qIld σ μ a) = true ∧ qEx d 120 21 (.int (μ a x.toNatClampNeg) :: st) ls σ μ la Q) := (qEx_eq (i := .iaload) rfl).trans qExA_chk
theorem x120_21 {x y : Int32} {a : Nat} : qEx d 120 21 (.int y :: .int x :: .ref a :: st) ls σ μ la Q ↔ (qIn x (qLen σ 10 a) = true ∧ qEx d 120 22 st ls σ (qset μ a x.toNatClampNeg y) la Q) := (qEx_eq (i := .iastore) rfl).trans qExA_chk
theorem x120_22 {x : Int32} {l0 l1 l2 l3 l4 : Value} : qEx d 120 22 st [l0, l1, l2, l3, l4, .int x] σ μ la Q ↔ qEx d 120 25 st [l0, l1, l2, l3, l4, .int (x + 1)] σ μ la Q := (qEx_eq (i := .iinc 5 1) rfl).trans Iff.rfl
theorem x120_25  : qEx d 120 25 st ls σ μ la Q ↔ qEx d 120 3 st ls σ μ la Q := (qEx_eq (i := .goto (-22)) rfl).trans Iff.rfl
theorem x120_28  : qEx d 120 28 [] ls σ μ la Q ↔ Q none σ μ la := (qEx_eq (i := .return_) rfl).trans Iff.rfl
theorem x121_0 {x : Nat} : qEx d 121 0 st [.ref x] σ μ la Q ↔ qEx d 121 1 (.ref x :: st) [.ref x] σ μ la Q := (qEx_eq (i := .aload_n 0) rfl).trans Iff.rfl
theorem x121_1 {a : Nat} : qEx d 121 1 (.ref a :: st) ls σ μ la Q ↔ (qOk σ a 7 = true ∧ qEx d 121 4 (qrf (σ.2 a 6) :: st) ls σ μ la Q) := (qEx_eq (i := .getfield 23) rfl).trans qExA_chk
theorem x121_4  : qEx d 121 4 st ls σ μ la Q ↔ qEx d 121 6 (.int 115 :: st) ls σ μ la Q := (qEx_eq (i := .bipush 115) rfl).trans Iff.rfl
theorem x121_6 {x : Int32} {a : Nat} : qEx d 121 6 (.int x :: .ref a :: st) ls σ μ la Q ↔ (qIn x (qIld σ μ a) = true ∧ qEx d 121 7 (.int (μ a x.toNatClampNeg) :: st) ls σ μ la Q) := (qEx_eq (i := .iaload) rfl).trans qExA_chk
theorem x121_7 {x : Int32} : qEx d 121 7 (.int x :: st) ls σ μ la Q ↔ (if x ≤ 0 then qEx d 121 14 st ls σ μ la Q else qEx d 121 10 st ls σ μ la Q) := (qEx_eq (i := .ifCond .le 7) rfl).trans qExA_ite
theorem x121_10  : qEx d 121 10 st ls σ μ la Q ↔ qEx d 121 11 (.int 1 :: st) ls σ μ la Q := (qEx_eq (i := .iconst 1) rfl).trans Iff.rfl
theorem x121_11  : qEx d 121 11 st ls σ μ la Q ↔ qEx d 121 15 st ls σ μ la Q := (qEx_eq (i := .goto 4) rfl).trans Iff.rfl
theorem x121_14  : qEx d 121 14 st ls σ μ la Q ↔ qEx d 121 15 (.int 0 :: st) ls σ μ la Q := (qEx_eq (i := .iconst 0) rfl).trans Iff.rfl
theorem x121_15 {x : Int32} : qEx d 121 15 [.int x] ls σ μ la Q ↔ ((x = 0 ∨ x = 1) ∧ Q (some (.int x)) σ μ la) := (qEx_eq (i := .ireturn) rfl).trans qExA_chk
theorem x122_0 {x : Int32} {l0 : Value} : qEx d 122 0 st [l0, .int x] σ μ la Q ↔ qEx d 122 1 (.int x :: st) [l0, .int x] σ μ la Q := (qEx_eq (i := .iload_n 1) rfl).trans Iff.rfl
theorem x122_1  : qEx d 122 1 st ls σ μ la Q ↔ qEx d 122 2 (.int 0 :: st) ls σ μ la Q := (qEx_eq (i := .iconst 0) rfl).trans Iff.rfl
theorem x122_2 {x : Nat} {l1 : Value} : qEx d 122 2 st [.ref x, l1] σ μ la Q ↔ qEx d 122 3 (.ref x :: st) [.ref x, l1] σ μ la Q := (qEx_eq (i := .aload_n 0) rfl).trans Iff.rfl
theorem x122_3 {a : Nat} : qEx d 122 3 (.ref a :: st) ls σ μ la Q ↔ (qOk σ a 7 = true ∧ qEx d 122 6 (qrf (σ.2 a 6) :: st) ls σ μ la Q) := (qEx_eq (i := .getfield 23) rfl).trans qExA_chk
theorem x122_6  : qEx d 122 6 st ls σ μ la Q ↔ qEx d 122 8 (.int 115 :: st) ls σ μ la Q := (qEx_eq (i := .bipush 115) rfl).trans Iff.rfl
theorem x122_8 {x : Int32} {a : Nat} : qEx d 122 8 (.int x :: .ref a :: st) ls σ μ la Q ↔ (qIn x (qIld σ μ a) = true ∧ qEx d 122 9 (.int (μ a x.toNatClampNeg) :: st) ls σ μ la Q) := (qEx_eq (i := .iaload) rfl).trans qExA_chk
theorem x122_9  : qEx d 122 9 st ls σ μ la Q ↔ qEx d 122 10 (.int 1 :: st) ls σ μ la Q := (qEx_eq (i := .iconst 1) rfl).trans Iff.rfl
theorem x122_10 {x y : Int32} : qEx d 122 10 (.int y :: .int x :: st) ls σ μ la Q ↔ qEx d 122 11 (.int (x - y) :: st) ls σ μ la Q := (qEx_eq (i := .isub) rfl).trans Iff.rfl
theorem x122_11 {y0 : Int32} {y1 : Int32} {y2 : Int32} : qEx (d + 1) 122 11 [.int y2, .int y1, .int y0] ls σ μ la Q ↔ qEx d 118 0 [] [.int y0, .int y1, .int y2] σ μ la fun r σ' μ' la' => qEx (d + 1) 122 14 (r.toList ++ []) ls σ' μ' la' Q := (qEx_eq (i := .invokestatic 63) rfl).trans Iff.rfl
theorem x122_14 {x : Int32} : qEx d 122 14 [.int x] ls σ μ la Q ↔ ((x = 0 ∨ x = 1) ∧ Q (some (.int x)) σ μ la) := (qEx_eq (i := .ireturn) rfl).trans qExA_chk
theorem x123_0 {x : Int32} {l0 : Value} : qEx d 123 0 st [l0, .int x] σ μ la Q ↔ qEx d 123 1 (.int x :: st) [l0, .int x] σ μ la Q := (qEx_eq (i := .iload_n 1) rfl).trans Iff.rfl
theorem x123_1 {x : Int32} : qEx d 123 1 (.int x :: st) ls σ μ la Q ↔ (if x < 0 then qEx d 123 36 st ls σ μ la Q else qEx d 123 4 st ls σ μ la Q) := (qEx_eq (i := .ifCond .lt 35) rfl).trans qExA_ite
theorem x123_4 {x : Int32} {l0 : Value} : qEx d 123 4 st [l0, .int x] σ μ la Q ↔ qEx d 123 5 (.int x :: st) [l0, .int x] σ μ la Q := (qEx_eq (i := .iload_n 1) rfl).trans Iff.rfl
theorem x123_5  : qEx d 123 5 st ls σ μ la Q ↔ qEx d 123 7 (.int 8 :: st) ls σ μ la Q := (qEx_eq (i := .bipush 8) rfl).trans Iff.rfl
theorem x123_7 {x y : Int32} : qEx d 123 7 (.int y :: .int x :: st) ls σ μ la Q ↔ (¬ y = 0 ∧ qEx d 123 8 (.int (x / y) :: st) ls σ μ la Q) := (qEx_eq (i := .idiv) rfl).trans qExA_chk
theorem x123_8 {x : Nat} {l1 : Value} : qEx d 123 8 st [.ref x, l1] σ μ la Q ↔ qEx d 123 9 (.ref x :: st) [.ref x, l1] σ μ la Q := (qEx_eq (i := .aload_n 0) rfl).trans Iff.rfl
theorem x123_9 {a : Nat} : qEx d 123 9 (.ref a :: st) ls σ μ la Q ↔ (qOk σ a 7 = true ∧ qEx d 123 12 (qrf (σ.2 a 6) :: st) ls σ μ la Q) := (qEx_eq (i := .getfield 23) rfl).trans qExA_chk
theorem x123_12  : qEx d 123 12 st ls σ μ la Q ↔ qEx d 123 14 (.int 114 :: st) ls σ μ la Q := (qEx_eq (i := .bipush 114) rfl).trans Iff.rfl
theorem x123_14 {x : Int32} {a : Nat} : qEx d 123 14 (.int x :: .ref a :: st) ls σ μ la Q ↔ (qIn x (qIld σ μ a) = true ∧ qEx d 123 15 (.int (μ a x.toNatClampNeg) :: st) ls σ μ la Q) := (qEx_eq (i := .iaload) rfl).trans qExA_chk
theorem x123_15 {x y : Int32} : qEx d 123 15 (.int y :: .int x :: st) ls σ μ la Q ↔ (if y ≤ x then qEx d 123 36 st ls σ μ la Q else qEx d 123 18 st ls σ μ la Q) := (qEx_eq (i := .if_icmp .ge 21) rfl).trans qExA_ite
theorem x123_18 {x : Int32} {l0 : Value} : qEx d 123 18 st [l0, .int x] σ μ la Q ↔ qEx d 123 19 (.int x :: st) [l0, .int x] σ μ la Q := (qEx_eq (i := .iload_n 1) rfl).trans Iff.rfl
theorem x123_19  : qEx d 123 19 st ls σ μ la Q ↔ qEx d 123 21 (.int 8 :: st) ls σ μ la Q := (qEx_eq (i := .bipush 8) rfl).trans Iff.rfl
theorem x123_21 {x y : Int32} : qEx d 123 21 (.int y :: .int x :: st) ls σ μ la Q ↔ (¬ y = 0 ∧ qEx d 123 22 (.int (x - x / y * y) :: st) ls σ μ la Q) := (qEx_eq (i := .irem) rfl).trans qExA_chk
theorem x123_22 {x : Nat} {l1 : Value} : qEx d 123 22 st [.ref x, l1] σ μ la Q ↔ qEx d 123 23 (.ref x :: st) [.ref x, l1] σ μ la Q := (qEx_eq (i := .aload_n 0) rfl).trans Iff.rfl
theorem x123_23 {a : Nat} : qEx d 123 23 (.ref a :: st) ls σ μ la Q ↔ (qOk σ a 7 = true ∧ qEx d 123 26 (qrf (σ.2 a 6) :: st) ls σ μ la Q) := (qEx_eq (i := .getfield 23) rfl).trans qExA_chk
theorem x123_26  : qEx d 123 26 st ls σ μ la Q ↔ qEx d 123 28 (.int 113 :: st) ls σ μ la Q := (qEx_eq (i := .bipush 113) rfl).trans Iff.rfl
theorem x123_28 {x : Int32} {a : Nat} : qEx d 123 28 (.int x :: .ref a :: st) ls σ μ la Q ↔ (qIn x (qIld σ μ a) = true ∧ qEx d 123 29 (.int (μ a x.toNatClampNeg) :: st) ls σ μ la Q) := (qEx_eq (i := .iaload) rfl).trans qExA_chk
theorem x123_29 {x y : Int32} : qEx d 123 29 (.int y :: .int x :: st) ls σ μ la Q ↔ (if y ≤ x then qEx d 123 36 st ls σ μ la Q else qEx d 123 32 st ls σ μ la Q) := (qEx_eq (i := .if_icmp .ge 7) rfl).trans qExA_ite
theorem x123_32  : qEx d 123 32 st ls σ μ la Q ↔ qEx d 123 33 (.int 1 :: st) ls σ μ la Q := (qEx_eq (i := .iconst 1) rfl).trans Iff.rfl
theorem x123_33  : qEx d 123 33 st ls σ μ la Q ↔ qEx d 123 37 st ls σ μ la Q := (qEx_eq (i := .goto 4) rfl).trans Iff.rfl
theorem x123_36  : qEx d 123 36 st ls σ μ la Q ↔ qEx d 123 37 (.int 0 :: st) ls σ μ la Q := (qEx_eq (i := .iconst 0) rfl).trans Iff.rfl
theorem x123_37 {x : Int32} : qEx d 123 37 [.int x] ls σ μ la Q ↔ ((x = 0 ∨ x = 1) ∧ Q (some (.int x)) σ μ la) := (qEx_eq (i := .ireturn) rfl).trans qExA_chk
theorem x124_0 {x : Int32} {l0 : Value} : qEx d 124 0 st [l0, .int x] σ μ la Q ↔ qEx d 124 1 (.int x :: st) [l0, .int x] σ μ la Q := (qEx_eq (i := .iload_n 1) rfl).trans Iff.rfl
theorem x124_1  : qEx d 124 1 st ls σ μ la Q ↔ qEx d 124 2 (.int 0 :: st) ls σ μ la Q := (qEx_eq (i := .iconst 0) rfl).trans Iff.rfl
theorem x124_2  : qEx d 124 2 st ls σ μ la Q ↔ qEx d 124 5 (.int 255 :: st) ls σ μ la Q := (qEx_eq (i := .sipush 255) rfl).trans Iff.rfl
theorem x124_5 {y0 : Int32} {y1 : Int32} {y2 : Int32} : qEx (d + 1) 124 5 [.int y2, .int y1, .int y0] ls σ μ la Q ↔ qEx d 118 0 [] [.int y0, .int y1, .int y2] σ μ la fun r σ' μ' la' => qEx (d + 1) 124 8 (r.toList ++ []) ls σ' μ' la' Q := (qEx_eq (i := .invokestatic 63) rfl).trans Iff.rfl
theorem x124_8 {x : Int32} : qEx d 124 8 (.int x :: st) ls σ μ la Q ↔ (if ¬ x = 0 then qEx d 124 13 st ls σ μ la Q else qEx d 124 11 st ls σ μ la Q) := (qEx_eq (i := .ifCond .ne 5) rfl).trans qExA_ite
theorem x124_11  : qEx d 124 11 st ls σ μ la Q ↔ qEx d 124 12 (.int (-1) :: st) ls σ μ la Q := (qEx_eq (i := .iconst (-1)) rfl).trans Iff.rfl
theorem x124_12 {x : Int32} : qEx d 124 12 [.int x] ls σ μ la Q ↔ Q (some (.int x)) σ μ la := (qEx_eq (i := .ireturn) rfl).trans Iff.rfl
theorem x124_13 {x : Nat} {l1 : Value} : qEx d 124 13 st [.ref x, l1] σ μ la Q ↔ qEx d 124 14 (.ref x :: st) [.ref x, l1] σ μ la Q := (qEx_eq (i := .aload_n 0) rfl).trans Iff.rfl
theorem x124_14 {a : Nat} : qEx d 124 14 (.ref a :: st) ls σ μ la Q ↔ (qOk σ a 7 = true ∧ qEx d 124 17 (.int (μ a 3) :: st) ls σ μ la Q) := (qEx_eq (i := .getfield 67) rfl).trans qExA_chk
theorem x124_17  : qEx d 124 17 st ls σ μ la Q ↔ qEx d 124 20 (.int 140 :: st) ls σ μ la Q := (qEx_eq (i := .sipush 140) rfl).trans Iff.rfl
theorem x124_20 {x y : Int32} : qEx d 124 20 (.int y :: .int x :: st) ls σ μ la Q ↔ (if ¬ x = y then qEx d 124 26 st ls σ μ la Q else qEx d 124 23 st ls σ μ la Q) := (qEx_eq (i := .if_icmp .ne 6) rfl).trans qExA_ite
theorem x124_23  : qEx d 124 23 st ls σ μ la Q ↔ qEx d 124 25 (.int (-3) :: st) ls σ μ la Q := (qEx_eq (i := .bipush (-3)) rfl).trans Iff.rfl
theorem x124_25 {x : Int32} : qEx d 124 25 [.int x] ls σ μ la Q ↔ Q (some (.int x)) σ μ la := (qEx_eq (i := .ireturn) rfl).trans Iff.rfl
theorem x124_26 {x : Nat} {l1 : Value} : qEx d 124 26 st [.ref x, l1] σ μ la Q ↔ qEx d 124 27 (.ref x :: st) [.ref x, l1] σ μ la Q := (qEx_eq (i := .aload_n 0) rfl).trans Iff.rfl
theorem x124_27 {a : Nat} : qEx d 124 27 (.ref a :: st) ls σ μ la Q ↔ (qOk σ a 7 = true ∧ qEx d 124 30 (qrf (σ.2 a 4) :: st) ls σ μ la Q) := (qEx_eq (i := .getfield 20) rfl).trans qExA_chk
theorem x124_30 {x : Nat} {l1 : Value} : qEx d 124 30 st [.ref x, l1] σ μ la Q ↔ qEx d 124 31 (.ref x :: st) [.ref x, l1] σ μ la Q := (qEx_eq (i := .aload_n 0) rfl).trans Iff.rfl
theorem x124_31 {a : Nat} : qEx d 124 31 (.ref a :: st) ls σ μ la Q ↔ (qOk σ a 7 = true ∧ qEx d 124 34 (.int (μ a 3) :: st) ls σ μ la Q) := (qEx_eq (i := .getfield 67) rfl).trans qExA_chk
theorem x124_34 {x : Int32} {l0 : Value} : qEx d 124 34 st [l0, .int x] σ μ la Q ↔ qEx d 124 35 (.int x :: st) [l0, .int x] σ μ la Q := (qEx_eq (i := .iload_n 1) rfl).trans Iff.rfl
theorem x124_35 {x y : Int32} {a : Nat} : qEx d 124 35 (.int y :: .int x :: .ref a :: st) ls σ μ la Q ↔ (qIn x (qLen σ 10 a) = true ∧ qEx d 124 36 st ls σ (qset μ a x.toNatClampNeg y) la Q) := (qEx_eq (i := .iastore) rfl).trans qExA_chk
theorem x124_36 {x : Nat} {l1 : Value} : qEx d 124 36 st [.ref x, l1] σ μ la Q ↔ qEx d 124 37 (.ref x :: st) [.ref x, l1] σ μ la Q := (qEx_eq (i := .aload_n 0) rfl).trans Iff.rfl
theorem x124_37 {x : Nat} : qEx d 124 37 (.ref x :: st) ls σ μ la Q ↔ qEx d 124 38 (.ref x :: .ref x :: st) ls σ μ la Q := (qEx_eq (i := .dup) rfl).trans Iff.rfl
theorem x124_38 {a : Nat} : qEx d 124 38 (.ref a :: st) ls σ μ la Q ↔ (qOk σ a 7 = true ∧ qEx d 124 41 (.int (μ a 3) :: st) ls σ μ la Q) := (qEx_eq (i := .getfield 67) rfl).trans qExA_chk
theorem x124_41  : qEx d 124 41 st ls σ μ la Q ↔ qEx d 124 42 (.int 1 :: st) ls σ μ la Q := (qEx_eq (i := .iconst 1) rfl).trans Iff.rfl
theorem x124_42 {x y : Int32} : qEx d 124 42 (.int y :: .int x :: st) ls σ μ la Q ↔ qEx d 124 43 (.int (x + y) :: st) ls σ μ la Q := (qEx_eq (i := .iadd) rfl).trans Iff.rfl
theorem x124_43 {x : Int32} {a : Nat} : qEx d 124 43 (.int x :: .ref a :: st) ls σ μ la Q ↔ (qOk σ a 7 = true ∧ qEx d 124 46 st ls σ (qset μ a 3 x) la Q) := (qEx_eq (i := .putfield 67) rfl).trans qExA_chk
theorem x124_46 {x : Nat} {l1 : Value} : qEx d 124 46 st [.ref x, l1] σ μ la Q ↔ qEx d 124 47 (.ref x :: st) [.ref x, l1] σ μ la Q := (qEx_eq (i := .aload_n 0) rfl).trans Iff.rfl
theorem x124_47 {a : Nat} : qEx d 124 47 (.ref a :: st) ls σ μ la Q ↔ (qOk σ a 7 = true ∧ qEx d 124 50 (.int (μ a 3) :: st) ls σ μ la Q) := (qEx_eq (i := .getfield 67) rfl).trans qExA_chk
theorem x124_50 {x : Int32} : qEx d 124 50 [.int x] ls σ μ la Q ↔ Q (some (.int x)) σ μ la := (qEx_eq (i := .ireturn) rfl).trans Iff.rfl
theorem x125_0 {x : Nat} : qEx d 125 0 st [.ref x] σ μ la Q ↔ qEx d 125 1 (.ref x :: st) [.ref x] σ μ la Q := (qEx_eq (i := .aload_n 0) rfl).trans Iff.rfl
theorem x125_1 {a : Nat} : qEx d 125 1 (.ref a :: st) ls σ μ la Q ↔ (qOk σ a 7 = true ∧ qEx d 125 4 (.int (μ a 5) :: st) ls σ μ la Q) := (qEx_eq (i := .getfield 71) rfl).trans qExA_chk
theorem x125_4 {x : Nat} : qEx d 125 4 st [.ref x] σ μ la Q ↔ qEx d 125 5 (.ref x :: st) [.ref x] σ μ la Q := (qEx_eq (i := .aload_n 0) rfl).trans Iff.rfl
theorem x125_5 {a : Nat} : qEx d 125 5 (.ref a :: st) ls σ μ la Q ↔ (qOk σ a 7 = true ∧ qEx d 125 8 (.int (μ a 3) :: st) ls σ μ la Q) := (qEx_eq (i := .getfield 67) rfl).trans qExA_chk
theorem x125_8 {x y : Int32} : qEx d 125 8 (.int y :: .int x :: st) ls σ μ la Q ↔ (if y ≤ x then qEx d 125 23 st ls σ μ la Q else qEx d 125 11 st ls σ μ la Q) := (qEx_eq (i := .if_icmp .ge 15) rfl).trans qExA_ite
theorem x125_11 {x : Nat} : qEx d 125 11 st [.ref x] σ μ la Q ↔ qEx d 125 12 (.ref x :: st) [.ref x] σ μ la Q := (qEx_eq (i := .aload_n 0) rfl).trans Iff.rfl
theorem x125_12 {a : Nat} : qEx d 125 12 (.ref a :: st) ls σ μ la Q ↔ (qOk σ a 7 = true ∧ qEx d 125 15 (qrf (σ.2 a 4) :: st) ls σ μ la Q) := (qEx_eq (i := .getfield 20) rfl).trans qExA_chk
theorem x125_15 {x : Nat} : qEx d 125 15 st [.ref x] σ μ la Q ↔ qEx d 125 16 (.ref x :: st) [.ref x] σ μ la Q := (qEx_eq (i := .aload_n 0) rfl).trans Iff.rfl
theorem x125_16 {a : Nat} : qEx d 125 16 (.ref a :: st) ls σ μ la Q ↔ (qOk σ a 7 = true ∧ qEx d 125 19 (.int (μ a 5) :: st) ls σ μ la Q) := (qEx_eq (i := .getfield 71) rfl).trans qExA_chk
theorem x125_19 {x : Int32} {a : Nat} : qEx d 125 19 (.int x :: .ref a :: st) ls σ μ la Q ↔ (qIn x (qIld σ μ a) = true ∧ qEx d 125 20 (.int (μ a x.toNatClampNeg) :: st) ls σ μ la Q) := (qEx_eq (i := .iaload) rfl).trans qExA_chk
theorem x125_20  : qEx d 125 20 st ls σ μ la Q ↔ qEx d 125 24 st ls σ μ la Q := (qEx_eq (i := .goto 4) rfl).trans Iff.rfl
theorem x125_23  : qEx d 125 23 st ls σ μ la Q ↔ qEx d 125 24 (.int (-1) :: st) ls σ μ la Q := (qEx_eq (i := .iconst (-1)) rfl).trans Iff.rfl
theorem x125_24 {x : Int32} : qEx d 125 24 [.int x] ls σ μ la Q ↔ Q (some (.int x)) σ μ la := (qEx_eq (i := .ireturn) rfl).trans Iff.rfl
theorem x126_0 {x : Nat} {l1 : Value} : qEx d 126 0 st [.ref x, l1] σ μ la Q ↔ qEx d 126 1 (.ref x :: st) [.ref x, l1] σ μ la Q := (qEx_eq (i := .aload_n 0) rfl).trans Iff.rfl
theorem x126_1 {a : Nat} : qEx (d + 1) 126 1 [.ref a] ls σ μ la Q ↔ (qOk σ a 7 = true ∧ qEx d 125 0 [] [.ref a] σ μ la fun r σ' μ' la' => qEx (d + 1) 126 4 (r.toList ++ []) ls σ' μ' la' Q) := (qEx_eq (i := .invokevirtual 74) rfl).trans qExA_chk
theorem x126_4 {x : Int32} {l0 : Value} : qEx d 126 4 st [l0, .int x] σ μ la Q ↔ qEx d 126 5 (.int x :: st) [l0, .int x] σ μ la Q := (qEx_eq (i := .iload_n 1) rfl).trans Iff.rfl
theorem x126_5 {x y : Int32} : qEx d 126 5 (.int y :: .int x :: st) ls σ μ la Q ↔ (if x = y then qEx d 126 10 st ls σ μ la Q else qEx d 126 8 st ls σ μ la Q) := (qEx_eq (i := .if_icmp .eq 5) rfl).trans qExA_ite
theorem x126_8  : qEx d 126 8 st ls σ μ la Q ↔ qEx d 126 9 (.int 0 :: st) ls σ μ la Q := (qEx_eq (i := .iconst 0) rfl).trans Iff.rfl
theorem x126_9 {x : Int32} : qEx d 126 9 [.int x] ls σ μ la Q ↔ ((x = 0 ∨ x = 1) ∧ Q (some (.int x)) σ μ la) := (qEx_eq (i := .ireturn) rfl).trans qExA_chk
theorem x126_10 {x : Nat} {l1 : Value} : qEx d 126 10 st [.ref x, l1] σ μ la Q ↔ qEx d 126 11 (.ref x :: st) [.ref x, l1] σ μ la Q := (qEx_eq (i := .aload_n 0) rfl).trans Iff.rfl
theorem x126_11 {x : Nat} : qEx d 126 11 (.ref x :: st) ls σ μ la Q ↔ qEx d 126 12 (.ref x :: .ref x :: st) ls σ μ la Q := (qEx_eq (i := .dup) rfl).trans Iff.rfl
theorem x126_12 {a : Nat} : qEx d 126 12 (.ref a :: st) ls σ μ la Q ↔ (qOk σ a 7 = true ∧ qEx d 126 15 (.int (μ a 5) :: st) ls σ μ la Q) := (qEx_eq (i := .getfield 71) rfl).trans qExA_chk
theorem x126_15  : qEx d 126 15 st ls σ μ la Q ↔ qEx d 126 16 (.int 1 :: st) ls σ μ la Q := (qEx_eq (i := .iconst 1) rfl).trans Iff.rfl
theorem x126_16 {x y : Int32} : qEx d 126 16 (.int y :: .int x :: st) ls σ μ la Q ↔ qEx d 126 17 (.int (x + y) :: st) ls σ μ la Q := (qEx_eq (i := .iadd) rfl).trans Iff.rfl
theorem x126_17 {x : Int32} {a : Nat} : qEx d 126 17 (.int x :: .ref a :: st) ls σ μ la Q ↔ (qOk σ a 7 = true ∧ qEx d 126 20 st ls σ (qset μ a 5 x) la Q) := (qEx_eq (i := .putfield 71) rfl).trans qExA_chk
theorem x126_20  : qEx d 126 20 st ls σ μ la Q ↔ qEx d 126 21 (.int 1 :: st) ls σ μ la Q := (qEx_eq (i := .iconst 1) rfl).trans Iff.rfl
theorem x126_21 {x : Int32} : qEx d 126 21 [.int x] ls σ μ la Q ↔ ((x = 0 ∨ x = 1) ∧ Q (some (.int x)) σ μ la) := (qEx_eq (i := .ireturn) rfl).trans qExA_chk
theorem x127_0 {x : Int32} : qEx d 127 0 st [.int x] σ μ la Q ↔ qEx d 127 1 (.int x :: st) [.int x] σ μ la Q := (qEx_eq (i := .iload_n 0) rfl).trans Iff.rfl
theorem x127_1  : qEx d 127 1 st ls σ μ la Q ↔ qEx d 127 3 (.int 46 :: st) ls σ μ la Q := (qEx_eq (i := .bipush 46) rfl).trans Iff.rfl
theorem x127_3 {x y : Int32} : qEx d 127 3 (.int y :: .int x :: st) ls σ μ la Q ↔ (if ¬ x = y then qEx d 127 10 st ls σ μ la Q else qEx d 127 6 st ls σ μ la Q) := (qEx_eq (i := .if_icmp .ne 7) rfl).trans qExA_ite
theorem x127_6  : qEx d 127 6 st ls σ μ la Q ↔ qEx d 127 7 (.int 0 :: st) ls σ μ la Q := (qEx_eq (i := .iconst 0) rfl).trans Iff.rfl
theorem x127_7  : qEx d 127 7 st ls σ μ la Q ↔ qEx d 127 51 st ls σ μ la Q := (qEx_eq (i := .goto 44) rfl).trans Iff.rfl
theorem x127_10 {x : Int32} : qEx d 127 10 st [.int x] σ μ la Q ↔ qEx d 127 11 (.int x :: st) [.int x] σ μ la Q := (qEx_eq (i := .iload_n 0) rfl).trans Iff.rfl
theorem x127_11  : qEx d 127 11 st ls σ μ la Q ↔ qEx d 127 13 (.int 35 :: st) ls σ μ la Q := (qEx_eq (i := .bipush 35) rfl).trans Iff.rfl
theorem x127_13 {x y : Int32} : qEx d 127 13 (.int y :: .int x :: st) ls σ μ la Q ↔ (if ¬ x = y then qEx d 127 20 st ls σ μ la Q else qEx d 127 16 st ls σ μ la Q) := (qEx_eq (i := .if_icmp .ne 7) rfl).trans qExA_ite
theorem x127_16  : qEx d 127 16 st ls σ μ la Q ↔ qEx d 127 17 (.int 1 :: st) ls σ μ la Q := (qEx_eq (i := .iconst 1) rfl).trans Iff.rfl
theorem x127_17  : qEx d 127 17 st ls σ μ la Q ↔ qEx d 127 51 st ls σ μ la Q := (qEx_eq (i := .goto 34) rfl).trans Iff.rfl
theorem x127_20 {x : Int32} : qEx d 127 20 st [.int x] σ μ la Q ↔ qEx d 127 21 (.int x :: st) [.int x] σ μ la Q := (qEx_eq (i := .iload_n 0) rfl).trans Iff.rfl
theorem x127_21  : qEx d 127 21 st ls σ μ la Q ↔ qEx d 127 23 (.int 126 :: st) ls σ μ la Q := (qEx_eq (i := .bipush 126) rfl).trans Iff.rfl
theorem x127_23 {x y : Int32} : qEx d 127 23 (.int y :: .int x :: st) ls σ μ la Q ↔ (if ¬ x = y then qEx d 127 30 st ls σ μ la Q else qEx d 127 26 st ls σ μ la Q) := (qEx_eq (i := .if_icmp .ne 7) rfl).trans qExA_ite
theorem x127_26  : qEx d 127 26 st ls σ μ la Q ↔ qEx d 127 27 (.int 2 :: st) ls σ μ la Q := (qEx_eq (i := .iconst 2) rfl).trans Iff.rfl
theorem x127_27  : qEx d 127 27 st ls σ μ la Q ↔ qEx d 127 51 st ls σ μ la Q := (qEx_eq (i := .goto 24) rfl).trans Iff.rfl
theorem x127_30 {x : Int32} : qEx d 127 30 st [.int x] σ μ la Q ↔ qEx d 127 31 (.int x :: st) [.int x] σ μ la Q := (qEx_eq (i := .iload_n 0) rfl).trans Iff.rfl
theorem x127_31  : qEx d 127 31 st ls σ μ la Q ↔ qEx d 127 33 (.int 94 :: st) ls σ μ la Q := (qEx_eq (i := .bipush 94) rfl).trans Iff.rfl
theorem x127_33 {x y : Int32} : qEx d 127 33 (.int y :: .int x :: st) ls σ μ la Q ↔ (if ¬ x = y then qEx d 127 40 st ls σ μ la Q else qEx d 127 36 st ls σ μ la Q) := (qEx_eq (i := .if_icmp .ne 7) rfl).trans qExA_ite
theorem x127_36  : qEx d 127 36 st ls σ μ la Q ↔ qEx d 127 37 (.int 3 :: st) ls σ μ la Q := (qEx_eq (i := .iconst 3) rfl).trans Iff.rfl
theorem x127_37  : qEx d 127 37 st ls σ μ la Q ↔ qEx d 127 51 st ls σ μ la Q := (qEx_eq (i := .goto 14) rfl).trans Iff.rfl
theorem x127_40 {x : Int32} : qEx d 127 40 st [.int x] σ μ la Q ↔ qEx d 127 41 (.int x :: st) [.int x] σ μ la Q := (qEx_eq (i := .iload_n 0) rfl).trans Iff.rfl
theorem x127_41  : qEx d 127 41 st ls σ μ la Q ↔ qEx d 127 43 (.int 43 :: st) ls σ μ la Q := (qEx_eq (i := .bipush 43) rfl).trans Iff.rfl
theorem x127_43 {x y : Int32} : qEx d 127 43 (.int y :: .int x :: st) ls σ μ la Q ↔ (if ¬ x = y then qEx d 127 50 st ls σ μ la Q else qEx d 127 46 st ls σ μ la Q) := (qEx_eq (i := .if_icmp .ne 7) rfl).trans qExA_ite
theorem x127_46  : qEx d 127 46 st ls σ μ la Q ↔ qEx d 127 47 (.int 4 :: st) ls σ μ la Q := (qEx_eq (i := .iconst 4) rfl).trans Iff.rfl
theorem x127_47  : qEx d 127 47 st ls σ μ la Q ↔ qEx d 127 51 st ls σ μ la Q := (qEx_eq (i := .goto 4) rfl).trans Iff.rfl
theorem x127_50  : qEx d 127 50 st ls σ μ la Q ↔ qEx d 127 51 (.int (-1) :: st) ls σ μ la Q := (qEx_eq (i := .iconst (-1)) rfl).trans Iff.rfl
theorem x127_51 {x : Int32} : qEx d 127 51 [.int x] ls σ μ la Q ↔ Q (some (.int x)) σ μ la := (qEx_eq (i := .ireturn) rfl).trans Iff.rfl
theorem x128_0 {x : Int32} : qEx d 128 0 st [.int x] σ μ la Q ↔ qEx d 128 1 (.int x :: st) [.int x] σ μ la Q := (qEx_eq (i := .iload_n 0) rfl).trans Iff.rfl
theorem x128_1  : qEx d 128 1 st ls σ μ la Q ↔ qEx d 128 3 (.int 112 :: st) ls σ μ la Q := (qEx_eq (i := .bipush 112) rfl).trans Iff.rfl
theorem x128_3 {x y : Int32} : qEx d 128 3 (.int y :: .int x :: st) ls σ μ la Q ↔ (if ¬ x = y then qEx d 128 10 st ls σ μ la Q else qEx d 128 6 st ls σ μ la Q) := (qEx_eq (i := .if_icmp .ne 7) rfl).trans qExA_ite
theorem x128_6  : qEx d 128 6 st ls σ μ la Q ↔ qEx d 128 7 (.int 1 :: st) ls σ μ la Q := (qEx_eq (i := .iconst 1) rfl).trans Iff.rfl
theorem x128_7  : qEx d 128 7 st ls σ μ la Q ↔ qEx d 128 51 st ls σ μ la Q := (qEx_eq (i := .goto 44) rfl).trans Iff.rfl
theorem x128_10 {x : Int32} : qEx d 128 10 st [.int x] σ μ la Q ↔ qEx d 128 11 (.int x :: st) [.int x] σ μ la Q := (qEx_eq (i := .iload_n 0) rfl).trans Iff.rfl
theorem x128_11  : qEx d 128 11 st ls σ μ la Q ↔ qEx d 128 13 (.int 99 :: st) ls σ μ la Q := (qEx_eq (i := .bipush 99) rfl).trans Iff.rfl
theorem x128_13 {x y : Int32} : qEx d 128 13 (.int y :: .int x :: st) ls σ μ la Q ↔ (if ¬ x = y then qEx d 128 20 st ls σ μ la Q else qEx d 128 16 st ls σ μ la Q) := (qEx_eq (i := .if_icmp .ne 7) rfl).trans qExA_ite
theorem x128_16  : qEx d 128 16 st ls σ μ la Q ↔ qEx d 128 17 (.int 2 :: st) ls σ μ la Q := (qEx_eq (i := .iconst 2) rfl).trans Iff.rfl
theorem x128_17  : qEx d 128 17 st ls σ μ la Q ↔ qEx d 128 51 st ls σ μ la Q := (qEx_eq (i := .goto 34) rfl).trans Iff.rfl
theorem x128_20 {x : Int32} : qEx d 128 20 st [.int x] σ μ la Q ↔ qEx d 128 21 (.int x :: st) [.int x] σ μ la Q := (qEx_eq (i := .iload_n 0) rfl).trans Iff.rfl
theorem x128_21  : qEx d 128 21 st ls σ μ la Q ↔ qEx d 128 23 (.int 100 :: st) ls σ μ la Q := (qEx_eq (i := .bipush 100) rfl).trans Iff.rfl
theorem x128_23 {x y : Int32} : qEx d 128 23 (.int y :: .int x :: st) ls σ μ la Q ↔ (if ¬ x = y then qEx d 128 30 st ls σ μ la Q else qEx d 128 26 st ls σ μ la Q) := (qEx_eq (i := .if_icmp .ne 7) rfl).trans qExA_ite
theorem x128_26  : qEx d 128 26 st ls σ μ la Q ↔ qEx d 128 27 (.int 3 :: st) ls σ μ la Q := (qEx_eq (i := .iconst 3) rfl).trans Iff.rfl
theorem x128_27  : qEx d 128 27 st ls σ μ la Q ↔ qEx d 128 51 st ls σ μ la Q := (qEx_eq (i := .goto 24) rfl).trans Iff.rfl
theorem x128_30 {x : Int32} : qEx d 128 30 st [.int x] σ μ la Q ↔ qEx d 128 31 (.int x :: st) [.int x] σ μ la Q := (qEx_eq (i := .iload_n 0) rfl).trans Iff.rfl
theorem x128_31  : qEx d 128 31 st ls σ μ la Q ↔ qEx d 128 33 (.int 101 :: st) ls σ μ la Q := (qEx_eq (i := .bipush 101) rfl).trans Iff.rfl
theorem x128_33 {x y : Int32} : qEx d 128 33 (.int y :: .int x :: st) ls σ μ la Q ↔ (if ¬ x = y then qEx d 128 40 st ls σ μ la Q else qEx d 128 36 st ls σ μ la Q) := (qEx_eq (i := .if_icmp .ne 7) rfl).trans qExA_ite
theorem x128_36  : qEx d 128 36 st ls σ μ la Q ↔ qEx d 128 37 (.int 4 :: st) ls σ μ la Q := (qEx_eq (i := .iconst 4) rfl).trans Iff.rfl
theorem x128_37  : qEx d 128 37 st ls σ μ la Q ↔ qEx d 128 51 st ls σ μ la Q := (qEx_eq (i := .goto 14) rfl).trans Iff.rfl
theorem x128_40 {x : Int32} : qEx d 128 40 st [.int x] σ μ la Q ↔ qEx d 128 41 (.int x :: st) [.int x] σ μ la Q := (qEx_eq (i := .iload_n 0) rfl).trans Iff.rfl
theorem x128_41  : qEx d 128 41 st ls σ μ la Q ↔ qEx d 128 43 (.int 98 :: st) ls σ μ la Q := (qEx_eq (i := .bipush 98) rfl).trans Iff.rfl
theorem x128_43 {x y : Int32} : qEx d 128 43 (.int y :: .int x :: st) ls σ μ la Q ↔ (if ¬ x = y then qEx d 128 50 st ls σ μ la Q else qEx d 128 46 st ls σ μ la Q) := (qEx_eq (i := .if_icmp .ne 7) rfl).trans qExA_ite
theorem x128_46  : qEx d 128 46 st ls σ μ la Q ↔ qEx d 128 47 (.int 5 :: st) ls σ μ la Q := (qEx_eq (i := .iconst 5) rfl).trans Iff.rfl
theorem x128_47  : qEx d 128 47 st ls σ μ la Q ↔ qEx d 128 51 st ls σ μ la Q := (qEx_eq (i := .goto 4) rfl).trans Iff.rfl
theorem x128_50  : qEx d 128 50 st ls σ μ la Q ↔ qEx d 128 51 (.int (-1) :: st) ls σ μ la Q := (qEx_eq (i := .iconst (-1)) rfl).trans Iff.rfl
theorem x128_51 {x : Int32} : qEx d 128 51 [.int x] ls σ μ la Q ↔ Q (some (.int x)) σ μ la := (qEx_eq (i := .ireturn) rfl).trans Iff.rfl
theorem x129_0 {x : Int32} : qEx d 129 0 st [.int x] σ μ la Q ↔ qEx d 129 1 (.int x :: st) [.int x] σ μ la Q := (qEx_eq (i := .iload_n 0) rfl).trans Iff.rfl
theorem x129_1  : qEx d 129 1 st ls σ μ la Q ↔ qEx d 129 3 (.int 110 :: st) ls σ μ la Q := (qEx_eq (i := .bipush 110) rfl).trans Iff.rfl
theorem x129_3 {x y : Int32} : qEx d 129 3 (.int y :: .int x :: st) ls σ μ la Q ↔ (if ¬ x = y then qEx d 129 10 st ls σ μ la Q else qEx d 129 6 st ls σ μ la Q) := (qEx_eq (i := .if_icmp .ne 7) rfl).trans qExA_ite
theorem x129_6  : qEx d 129 6 st ls σ μ la Q ↔ qEx d 129 7 (.int 0 :: st) ls σ μ la Q := (qEx_eq (i := .iconst 0) rfl).trans Iff.rfl
theorem x129_7  : qEx d 129 7 st ls σ μ la Q ↔ qEx d 129 41 st ls σ μ la Q := (qEx_eq (i := .goto 34) rfl).trans Iff.rfl
theorem x129_10 {x : Int32} : qEx d 129 10 st [.int x] σ μ la Q ↔ qEx d 129 11 (.int x :: st) [.int x] σ μ la Q := (qEx_eq (i := .iload_n 0) rfl).trans Iff.rfl
theorem x129_11  : qEx d 129 11 st ls σ μ la Q ↔ qEx d 129 13 (.int 101 :: st) ls σ μ la Q := (qEx_eq (i := .bipush 101) rfl).trans Iff.rfl
theorem x129_13 {x y : Int32} : qEx d 129 13 (.int y :: .int x :: st) ls σ μ la Q ↔ (if ¬ x = y then qEx d 129 20 st ls σ μ la Q else qEx d 129 16 st ls σ μ la Q) := (qEx_eq (i := .if_icmp .ne 7) rfl).trans qExA_ite
theorem x129_16  : qEx d 129 16 st ls σ μ la Q ↔ qEx d 129 17 (.int 1 :: st) ls σ μ la Q := (qEx_eq (i := .iconst 1) rfl).trans Iff.rfl
theorem x129_17  : qEx d 129 17 st ls σ μ la Q ↔ qEx d 129 41 st ls σ μ la Q := (qEx_eq (i := .goto 24) rfl).trans Iff.rfl
theorem x129_20 {x : Int32} : qEx d 129 20 st [.int x] σ μ la Q ↔ qEx d 129 21 (.int x :: st) [.int x] σ μ la Q := (qEx_eq (i := .iload_n 0) rfl).trans Iff.rfl
theorem x129_21  : qEx d 129 21 st ls σ μ la Q ↔ qEx d 129 23 (.int 115 :: st) ls σ μ la Q := (qEx_eq (i := .bipush 115) rfl).trans Iff.rfl
theorem x129_23 {x y : Int32} : qEx d 129 23 (.int y :: .int x :: st) ls σ μ la Q ↔ (if ¬ x = y then qEx d 129 30 st ls σ μ la Q else qEx d 129 26 st ls σ μ la Q) := (qEx_eq (i := .if_icmp .ne 7) rfl).trans qExA_ite
theorem x129_26  : qEx d 129 26 st ls σ μ la Q ↔ qEx d 129 27 (.int 2 :: st) ls σ μ la Q := (qEx_eq (i := .iconst 2) rfl).trans Iff.rfl
theorem x129_27  : qEx d 129 27 st ls σ μ la Q ↔ qEx d 129 41 st ls σ μ la Q := (qEx_eq (i := .goto 14) rfl).trans Iff.rfl
theorem x129_30 {x : Int32} : qEx d 129 30 st [.int x] σ μ la Q ↔ qEx d 129 31 (.int x :: st) [.int x] σ μ la Q := (qEx_eq (i := .iload_n 0) rfl).trans Iff.rfl
theorem x129_31  : qEx d 129 31 st ls σ μ la Q ↔ qEx d 129 33 (.int 119 :: st) ls σ μ la Q := (qEx_eq (i := .bipush 119) rfl).trans Iff.rfl
theorem x129_33 {x y : Int32} : qEx d 129 33 (.int y :: .int x :: st) ls σ μ la Q ↔ (if ¬ x = y then qEx d 129 40 st ls σ μ la Q else qEx d 129 36 st ls σ μ la Q) := (qEx_eq (i := .if_icmp .ne 7) rfl).trans qExA_ite
theorem x129_36  : qEx d 129 36 st ls σ μ la Q ↔ qEx d 129 37 (.int 3 :: st) ls σ μ la Q := (qEx_eq (i := .iconst 3) rfl).trans Iff.rfl
theorem x129_37  : qEx d 129 37 st ls σ μ la Q ↔ qEx d 129 41 st ls σ μ la Q := (qEx_eq (i := .goto 4) rfl).trans Iff.rfl
theorem x129_40  : qEx d 129 40 st ls σ μ la Q ↔ qEx d 129 41 (.int (-1) :: st) ls σ μ la Q := (qEx_eq (i := .iconst (-1)) rfl).trans Iff.rfl
theorem x129_41 {x : Int32} : qEx d 129 41 [.int x] ls σ μ la Q ↔ Q (some (.int x)) σ μ la := (qEx_eq (i := .ireturn) rfl).trans Iff.rfl
theorem x130_0 {x : Nat} {l1 l2 : Value} : qEx d 130 0 st [.ref x, l1, l2] σ μ la Q ↔ qEx d 130 1 (.ref x :: st) [.ref x, l1, l2] σ μ la Q := (qEx_eq (i := .aload_n 0) rfl).trans Iff.rfl
theorem x130_1  : qEx d 130 1 st ls σ μ la Q ↔ qEx d 130 3 (.int 108 :: st) ls σ μ la Q := (qEx_eq (i := .bipush 108) rfl).trans Iff.rfl
theorem x130_3 {y0 : Int32} {a : Nat} : qEx (d + 1) 130 3 [.int y0, .ref a] ls σ μ la Q ↔ (qOk σ a 7 = true ∧ qEx d 126 0 [] [.ref a, .int y0] σ μ la fun r σ' μ' la' => qEx (d + 1) 130 6 (r.toList ++ []) ls σ' μ' la' Q) := (qEx_eq (i := .invokevirtual 78) rfl).trans qExA_chk
theorem x130_6 {x : Int32} : qEx d 130 6 (.int x :: st) ls σ μ la Q ↔ (if ¬ x = 0 then qEx d 130 11 st ls σ μ la Q else qEx d 130 9 st ls σ μ la Q) := (qEx_eq (i := .ifCond .ne 5) rfl).trans qExA_ite
theorem x130_9  : qEx d 130 9 st ls σ μ la Q ↔ qEx d 130 10 (.int 0 :: st) ls σ μ la Q := (qEx_eq (i := .iconst 0) rfl).trans Iff.rfl
theorem x130_10 {x : Int32} : qEx d 130 10 [.int x] ls σ μ la Q ↔ ((x = 0 ∨ x = 1) ∧ Q (some (.int x)) σ μ la) := (qEx_eq (i := .ireturn) rfl).trans qExA_chk
theorem x130_11 {x : Nat} {l1 l2 : Value} : qEx d 130 11 st [.ref x, l1, l2] σ μ la Q ↔ qEx d 130 12 (.ref x :: st) [.ref x, l1, l2] σ μ la Q := (qEx_eq (i := .aload_n 0) rfl).trans Iff.rfl
theorem x130_12 {a : Nat} : qEx (d + 1) 130 12 [.ref a] ls σ μ la Q ↔ (qOk σ a 7 = true ∧ qEx d 125 0 [] [.ref a] σ μ la fun r σ' μ' la' => qEx (d + 1) 130 15 (r.toList ++ []) ls σ' μ' la' Q) := (qEx_eq (i := .invokevirtual 74) rfl).trans qExA_chk
theorem x130_15  : qEx d 130 15 st ls σ μ la Q ↔ qEx d 130 17 (.int 99 :: st) ls σ μ la Q := (qEx_eq (i := .bipush 99) rfl).trans Iff.rfl
theorem x130_17 {x y : Int32} : qEx d 130 17 (.int y :: .int x :: st) ls σ μ la Q ↔ (if ¬ x = y then qEx d 130 24 st ls σ μ la Q else qEx d 130 20 st ls σ μ la Q) := (qEx_eq (i := .if_icmp .ne 7) rfl).trans qExA_ite
theorem x130_20  : qEx d 130 20 st ls σ μ la Q ↔ qEx d 130 21 (.int 0 :: st) ls σ μ la Q := (qEx_eq (i := .iconst 0) rfl).trans Iff.rfl
theorem x130_21  : qEx d 130 21 st ls σ μ la Q ↔ qEx d 130 38 st ls σ μ la Q := (qEx_eq (i := .goto 17) rfl).trans Iff.rfl
theorem x130_24 {x : Nat} {l1 l2 : Value} : qEx d 130 24 st [.ref x, l1, l2] σ μ la Q ↔ qEx d 130 25 (.ref x :: st) [.ref x, l1, l2] σ μ la Q := (qEx_eq (i := .aload_n 0) rfl).trans Iff.rfl
theorem x130_25 {a : Nat} : qEx (d + 1) 130 25 [.ref a] ls σ μ la Q ↔ (qOk σ a 7 = true ∧ qEx d 125 0 [] [.ref a] σ μ la fun r σ' μ' la' => qEx (d + 1) 130 28 (r.toList ++ []) ls σ' μ' la' Q) := (qEx_eq (i := .invokevirtual 74) rfl).trans qExA_chk
theorem x130_28  : qEx d 130 28 st ls σ μ la Q ↔ qEx d 130 30 (.int 116 :: st) ls σ μ la Q := (qEx_eq (i := .bipush 116) rfl).trans Iff.rfl
theorem x130_30 {x y : Int32} : qEx d 130 30 (.int y :: .int x :: st) ls σ μ la Q ↔ (if ¬ x = y then qEx d 130 37 st ls σ μ la Q else qEx d 130 33 st ls σ μ la Q) := (qEx_eq (i := .if_icmp .ne 7) rfl).trans qExA_ite
theorem x130_33  : qEx d 130 33 st ls σ μ la Q ↔ qEx d 130 34 (.int 1 :: st) ls σ μ la Q := (qEx_eq (i := .iconst 1) rfl).trans Iff.rfl
theorem x130_34  : qEx d 130 34 st ls σ μ la Q ↔ qEx d 130 38 st ls σ μ la Q := (qEx_eq (i := .goto 4) rfl).trans Iff.rfl
theorem x130_37  : qEx d 130 37 st ls σ μ la Q ↔ qEx d 130 38 (.int (-1) :: st) ls σ μ la Q := (qEx_eq (i := .iconst (-1)) rfl).trans Iff.rfl
theorem x130_38 {x : Int32} {l0 l1 l2 : Value} : qEx d 130 38 (.int x :: st) [l0, l1, l2] σ μ la Q ↔ qEx d 130 39 st [l0, .int x, l2] σ μ la Q := (qEx_eq (i := .istore_n 1) rfl).trans Iff.rfl
theorem x130_39 {x : Int32} {l0 l2 : Value} : qEx d 130 39 st [l0, .int x, l2] σ μ la Q ↔ qEx d 130 40 (.int x :: st) [l0, .int x, l2] σ μ la Q := (qEx_eq (i := .iload_n 1) rfl).trans Iff.rfl
theorem x130_40 {x : Int32} : qEx d 130 40 (.int x :: st) ls σ μ la Q ↔ (if 0 ≤ x then qEx d 130 45 st ls σ μ la Q else qEx d 130 43 st ls σ μ la Q) := (qEx_eq (i := .ifCond .ge 5) rfl).trans qExA_ite
theorem x130_43  : qEx d 130 43 st ls σ μ la Q ↔ qEx d 130 44 (.int 0 :: st) ls σ μ la Q := (qEx_eq (i := .iconst 0) rfl).trans Iff.rfl
theorem x130_44 {x : Int32} : qEx d 130 44 [.int x] ls σ μ la Q ↔ ((x = 0 ∨ x = 1) ∧ Q (some (.int x)) σ μ la) := (qEx_eq (i := .ireturn) rfl).trans qExA_chk
theorem x130_45 {x : Nat} {l1 l2 : Value} : qEx d 130 45 st [.ref x, l1, l2] σ μ la Q ↔ qEx d 130 46 (.ref x :: st) [.ref x, l1, l2] σ μ la Q := (qEx_eq (i := .aload_n 0) rfl).trans Iff.rfl
theorem x130_46 {a : Nat} : qEx d 130 46 (.ref a :: st) ls σ μ la Q ↔ (qOk σ a 7 = true ∧ qEx d 130 49 (qrf (σ.2 a 8) :: st) ls σ μ la Q) := (qEx_eq (i := .getfield 29) rfl).trans qExA_chk
theorem x130_49  : qEx d 130 49 st ls σ μ la Q ↔ qEx d 130 51 (.int 116 :: st) ls σ μ la Q := (qEx_eq (i := .bipush 116) rfl).trans Iff.rfl
theorem x130_51 {x : Int32} {l0 l2 : Value} : qEx d 130 51 st [l0, .int x, l2] σ μ la Q ↔ qEx d 130 52 (.int x :: st) [l0, .int x, l2] σ μ la Q := (qEx_eq (i := .iload_n 1) rfl).trans Iff.rfl
theorem x130_52 {x y : Int32} {a : Nat} : qEx d 130 52 (.int y :: .int x :: .ref a :: st) ls σ μ la Q ↔ (qIn x (qLen σ 10 a) = true ∧ qEx d 130 53 st ls σ (qset μ a x.toNatClampNeg y) la Q) := (qEx_eq (i := .iastore) rfl).trans qExA_chk
theorem x130_53 {x : Nat} {l1 l2 : Value} : qEx d 130 53 st [.ref x, l1, l2] σ μ la Q ↔ qEx d 130 54 (.ref x :: st) [.ref x, l1, l2] σ μ la Q := (qEx_eq (i := .aload_n 0) rfl).trans Iff.rfl
theorem x130_54 {x : Nat} : qEx d 130 54 (.ref x :: st) ls σ μ la Q ↔ qEx d 130 55 (.ref x :: .ref x :: st) ls σ μ la Q := (qEx_eq (i := .dup) rfl).trans Iff.rfl
theorem x130_55 {a : Nat} : qEx d 130 55 (.ref a :: st) ls σ μ la Q ↔ (qOk σ a 7 = true ∧ qEx d 130 58 (.int (μ a 5) :: st) ls σ μ la Q) := (qEx_eq (i := .getfield 71) rfl).trans qExA_chk
theorem x130_58  : qEx d 130 58 st ls σ μ la Q ↔ qEx d 130 59 (.int 1 :: st) ls σ μ la Q := (qEx_eq (i := .iconst 1) rfl).trans Iff.rfl
theorem x130_59 {x y : Int32} : qEx d 130 59 (.int y :: .int x :: st) ls σ μ la Q ↔ qEx d 130 60 (.int (x + y) :: st) ls σ μ la Q := (qEx_eq (i := .iadd) rfl).trans Iff.rfl
theorem x130_60 {x : Int32} {a : Nat} : qEx d 130 60 (.int x :: .ref a :: st) ls σ μ la Q ↔ (qOk σ a 7 = true ∧ qEx d 130 63 st ls σ (qset μ a 5 x) la Q) := (qEx_eq (i := .putfield 71) rfl).trans qExA_chk
theorem x130_63 {x : Nat} {l1 l2 : Value} : qEx d 130 63 st [.ref x, l1, l2] σ μ la Q ↔ qEx d 130 64 (.ref x :: st) [.ref x, l1, l2] σ μ la Q := (qEx_eq (i := .aload_n 0) rfl).trans Iff.rfl
theorem x130_64 {a : Nat} : qEx (d + 1) 130 64 [.ref a] ls σ μ la Q ↔ (qOk σ a 7 = true ∧ qEx d 125 0 [] [.ref a] σ μ la fun r σ' μ' la' => qEx (d + 1) 130 67 (r.toList ++ []) ls σ' μ' la' Q) := (qEx_eq (i := .invokevirtual 74) rfl).trans qExA_chk
theorem x130_67  : qEx d 130 67 st ls σ μ la Q ↔ qEx d 130 69 (.int 102 :: st) ls σ μ la Q := (qEx_eq (i := .bipush 102) rfl).trans Iff.rfl
theorem x130_69 {x y : Int32} : qEx d 130 69 (.int y :: .int x :: st) ls σ μ la Q ↔ (if ¬ x = y then qEx d 130 76 st ls σ μ la Q else qEx d 130 72 st ls σ μ la Q) := (qEx_eq (i := .if_icmp .ne 7) rfl).trans qExA_ite
theorem x130_72  : qEx d 130 72 st ls σ μ la Q ↔ qEx d 130 73 (.int 0 :: st) ls σ μ la Q := (qEx_eq (i := .iconst 0) rfl).trans Iff.rfl
theorem x130_73  : qEx d 130 73 st ls σ μ la Q ↔ qEx d 130 90 st ls σ μ la Q := (qEx_eq (i := .goto 17) rfl).trans Iff.rfl
theorem x130_76 {x : Nat} {l1 l2 : Value} : qEx d 130 76 st [.ref x, l1, l2] σ μ la Q ↔ qEx d 130 77 (.ref x :: st) [.ref x, l1, l2] σ μ la Q := (qEx_eq (i := .aload_n 0) rfl).trans Iff.rfl
theorem x130_77 {a : Nat} : qEx (d + 1) 130 77 [.ref a] ls σ μ la Q ↔ (qOk σ a 7 = true ∧ qEx d 125 0 [] [.ref a] σ μ la fun r σ' μ' la' => qEx (d + 1) 130 80 (r.toList ++ []) ls σ' μ' la' Q) := (qEx_eq (i := .invokevirtual 74) rfl).trans qExA_chk
theorem x130_80  : qEx d 130 80 st ls σ μ la Q ↔ qEx d 130 82 (.int 111 :: st) ls σ μ la Q := (qEx_eq (i := .bipush 111) rfl).trans Iff.rfl
theorem x130_82 {x y : Int32} : qEx d 130 82 (.int y :: .int x :: st) ls σ μ la Q ↔ (if ¬ x = y then qEx d 130 89 st ls σ μ la Q else qEx d 130 85 st ls σ μ la Q) := (qEx_eq (i := .if_icmp .ne 7) rfl).trans qExA_ite
theorem x130_85  : qEx d 130 85 st ls σ μ la Q ↔ qEx d 130 86 (.int 1 :: st) ls σ μ la Q := (qEx_eq (i := .iconst 1) rfl).trans Iff.rfl
theorem x130_86  : qEx d 130 86 st ls σ μ la Q ↔ qEx d 130 90 st ls σ μ la Q := (qEx_eq (i := .goto 4) rfl).trans Iff.rfl
theorem x130_89  : qEx d 130 89 st ls σ μ la Q ↔ qEx d 130 90 (.int (-1) :: st) ls σ μ la Q := (qEx_eq (i := .iconst (-1)) rfl).trans Iff.rfl
theorem x130_90 {x : Int32} {l0 l1 l2 : Value} : qEx d 130 90 (.int x :: st) [l0, l1, l2] σ μ la Q ↔ qEx d 130 91 st [l0, l1, .int x] σ μ la Q := (qEx_eq (i := .istore_n 2) rfl).trans Iff.rfl
theorem x130_91 {x : Int32} {l0 l1 : Value} : qEx d 130 91 st [l0, l1, .int x] σ μ la Q ↔ qEx d 130 92 (.int x :: st) [l0, l1, .int x] σ μ la Q := (qEx_eq (i := .iload_n 2) rfl).trans Iff.rfl
theorem x130_92 {x : Int32} : qEx d 130 92 (.int x :: st) ls σ μ la Q ↔ (if 0 ≤ x then qEx d 130 97 st ls σ μ la Q else qEx d 130 95 st ls σ μ la Q) := (qEx_eq (i := .ifCond .ge 5) rfl).trans qExA_ite
theorem x130_95  : qEx d 130 95 st ls σ μ la Q ↔ qEx d 130 96 (.int 0 :: st) ls σ μ la Q := (qEx_eq (i := .iconst 0) rfl).trans Iff.rfl
theorem x130_96 {x : Int32} : qEx d 130 96 [.int x] ls σ μ la Q ↔ ((x = 0 ∨ x = 1) ∧ Q (some (.int x)) σ μ la) := (qEx_eq (i := .ireturn) rfl).trans qExA_chk
theorem x130_97 {x : Nat} {l1 l2 : Value} : qEx d 130 97 st [.ref x, l1, l2] σ μ la Q ↔ qEx d 130 98 (.ref x :: st) [.ref x, l1, l2] σ μ la Q := (qEx_eq (i := .aload_n 0) rfl).trans Iff.rfl
theorem x130_98 {a : Nat} : qEx d 130 98 (.ref a :: st) ls σ μ la Q ↔ (qOk σ a 7 = true ∧ qEx d 130 101 (qrf (σ.2 a 8) :: st) ls σ μ la Q) := (qEx_eq (i := .getfield 29) rfl).trans qExA_chk
theorem x130_101  : qEx d 130 101 st ls σ μ la Q ↔ qEx d 130 103 (.int 117 :: st) ls σ μ la Q := (qEx_eq (i := .bipush 117) rfl).trans Iff.rfl
theorem x130_103 {x : Int32} {l0 l1 : Value} : qEx d 130 103 st [l0, l1, .int x] σ μ la Q ↔ qEx d 130 104 (.int x :: st) [l0, l1, .int x] σ μ la Q := (qEx_eq (i := .iload_n 2) rfl).trans Iff.rfl
theorem x130_104 {x y : Int32} {a : Nat} : qEx d 130 104 (.int y :: .int x :: .ref a :: st) ls σ μ la Q ↔ (qIn x (qLen σ 10 a) = true ∧ qEx d 130 105 st ls σ (qset μ a x.toNatClampNeg y) la Q) := (qEx_eq (i := .iastore) rfl).trans qExA_chk
theorem x130_105 {x : Nat} {l1 l2 : Value} : qEx d 130 105 st [.ref x, l1, l2] σ μ la Q ↔ qEx d 130 106 (.ref x :: st) [.ref x, l1, l2] σ μ la Q := (qEx_eq (i := .aload_n 0) rfl).trans Iff.rfl
theorem x130_106 {x : Nat} : qEx d 130 106 (.ref x :: st) ls σ μ la Q ↔ qEx d 130 107 (.ref x :: .ref x :: st) ls σ μ la Q := (qEx_eq (i := .dup) rfl).trans Iff.rfl
theorem x130_107 {a : Nat} : qEx d 130 107 (.ref a :: st) ls σ μ la Q ↔ (qOk σ a 7 = true ∧ qEx d 130 110 (.int (μ a 5) :: st) ls σ μ la Q) := (qEx_eq (i := .getfield 71) rfl).trans qExA_chk
theorem x130_110  : qEx d 130 110 st ls σ μ la Q ↔ qEx d 130 111 (.int 1 :: st) ls σ μ la Q := (qEx_eq (i := .iconst 1) rfl).trans Iff.rfl
theorem x130_111 {x y : Int32} : qEx d 130 111 (.int y :: .int x :: st) ls σ μ la Q ↔ qEx d 130 112 (.int (x + y) :: st) ls σ μ la Q := (qEx_eq (i := .iadd) rfl).trans Iff.rfl
theorem x130_112 {x : Int32} {a : Nat} : qEx d 130 112 (.int x :: .ref a :: st) ls σ μ la Q ↔ (qOk σ a 7 = true ∧ qEx d 130 115 st ls σ (qset μ a 5 x) la Q) := (qEx_eq (i := .putfield 71) rfl).trans qExA_chk
theorem x130_115 {x : Nat} {l1 l2 : Value} : qEx d 130 115 st [.ref x, l1, l2] σ μ la Q ↔ qEx d 130 116 (.ref x :: st) [.ref x, l1, l2] σ μ la Q := (qEx_eq (i := .aload_n 0) rfl).trans Iff.rfl
theorem x130_116  : qEx d 130 116 st ls σ μ la Q ↔ qEx d 130 118 (.int 59 :: st) ls σ μ la Q := (qEx_eq (i := .bipush 59) rfl).trans Iff.rfl
theorem x130_118 {y0 : Int32} {a : Nat} : qEx (d + 1) 130 118 [.int y0, .ref a] ls σ μ la Q ↔ (qOk σ a 7 = true ∧ qEx d 126 0 [] [.ref a, .int y0] σ μ la fun r σ' μ' la' => qEx (d + 1) 130 121 (r.toList ++ []) ls σ' μ' la' Q) := (qEx_eq (i := .invokevirtual 78) rfl).trans qExA_chk
theorem x130_121 {x : Int32} : qEx d 130 121 [.int x] ls σ μ la Q ↔ ((x = 0 ∨ x = 1) ∧ Q (some (.int x)) σ μ la) := (qEx_eq (i := .ireturn) rfl).trans qExA_chk
theorem x131_0  : qEx d 131 0 st ls σ μ la Q ↔ qEx d 131 1 (.int 0 :: st) ls σ μ la Q := (qEx_eq (i := .iconst 0) rfl).trans Iff.rfl
theorem x131_1 {x : Int32} {l0 l1 l2 : Value} : qEx d 131 1 (.int x :: st) [l0, l1, l2] σ μ la Q ↔ qEx d 131 2 st [l0, l1, .int x] σ μ la Q := (qEx_eq (i := .istore_n 2) rfl).trans Iff.rfl
theorem x131_2 {x : Nat} {l1 l2 : Value} : qEx d 131 2 st [.ref x, l1, l2] σ μ la Q ↔ qEx d 131 3 (.ref x :: st) [.ref x, l1, l2] σ μ la Q := (qEx_eq (i := .aload_n 0) rfl).trans Iff.rfl
theorem x131_3 {a : Nat} : qEx (d + 1) 131 3 [.ref a] ls σ μ la Q ↔ (qOk σ a 7 = true ∧ qEx d 125 0 [] [.ref a] σ μ la fun r σ' μ' la' => qEx (d + 1) 131 6 (r.toList ++ []) ls σ' μ' la' Q) := (qEx_eq (i := .invokevirtual 74) rfl).trans qExA_chk
theorem x131_6 {y0 : Int32} : qEx (d + 1) 131 6 [.int y0] ls σ μ la Q ↔ qEx d 127 0 [] [.int y0] σ μ la fun r σ' μ' la' => qEx (d + 1) 131 9 (r.toList ++ []) ls σ' μ' la' Q := (qEx_eq (i := .invokestatic 82) rfl).trans Iff.rfl
theorem x131_9 {x : Int32} : qEx d 131 9 (.int x :: st) ls σ μ la Q ↔ (if x < 0 then qEx d 131 71 st ls σ μ la Q else qEx d 131 12 st ls σ μ la Q) := (qEx_eq (i := .ifCond .lt 62) rfl).trans qExA_ite
theorem x131_12 {x : Int32} {l0 l1 : Value} : qEx d 131 12 st [l0, l1, .int x] σ μ la Q ↔ qEx d 131 13 (.int x :: st) [l0, l1, .int x] σ μ la Q := (qEx_eq (i := .iload_n 2) rfl).trans Iff.rfl
theorem x131_13 {x : Int32} {l0 l2 : Value} : qEx d 131 13 st [l0, .int x, l2] σ μ la Q ↔ qEx d 131 14 (.int x :: st) [l0, .int x, l2] σ μ la Q := (qEx_eq (i := .iload_n 1) rfl).trans Iff.rfl
theorem x131_14 {x : Int32} : qEx d 131 14 (.int x :: st) ls σ μ la Q ↔ (if ¬ x = 0 then qEx d 131 22 st ls σ μ la Q else qEx d 131 17 st ls σ μ la Q) := (qEx_eq (i := .ifCond .ne 8) rfl).trans qExA_ite
theorem x131_17  : qEx d 131 17 st ls σ μ la Q ↔ qEx d 131 19 (.int 8 :: st) ls σ μ la Q := (qEx_eq (i := .bipush 8) rfl).trans Iff.rfl
theorem x131_19  : qEx d 131 19 st ls σ μ la Q ↔ qEx d 131 29 st ls σ μ la Q := (qEx_eq (i := .goto 10) rfl).trans Iff.rfl
theorem x131_22 {x : Nat} {l1 l2 : Value} : qEx d 131 22 st [.ref x, l1, l2] σ μ la Q ↔ qEx d 131 23 (.ref x :: st) [.ref x, l1, l2] σ μ la Q := (qEx_eq (i := .aload_n 0) rfl).trans Iff.rfl
theorem x131_23 {a : Nat} : qEx d 131 23 (.ref a :: st) ls σ μ la Q ↔ (qOk σ a 7 = true ∧ qEx d 131 26 (qrf (σ.2 a 8) :: st) ls σ μ la Q) := (qEx_eq (i := .getfield 29) rfl).trans qExA_chk
theorem x131_26  : qEx d 131 26 st ls σ μ la Q ↔ qEx d 131 28 (.int 113 :: st) ls σ μ la Q := (qEx_eq (i := .bipush 113) rfl).trans Iff.rfl
theorem x131_28 {x : Int32} {a : Nat} : qEx d 131 28 (.int x :: .ref a :: st) ls σ μ la Q ↔ (qIn x (qIld σ μ a) = true ∧ qEx d 131 29 (.int (μ a x.toNatClampNeg) :: st) ls σ μ la Q) := (qEx_eq (i := .iaload) rfl).trans qExA_chk
theorem x131_29 {x y : Int32} : qEx d 131 29 (.int y :: .int x :: st) ls σ μ la Q ↔ (if ¬ x = y then qEx d 131 34 st ls σ μ la Q else qEx d 131 32 st ls σ μ la Q) := (qEx_eq (i := .if_icmp .ne 5) rfl).trans qExA_ite
theorem x131_32  : qEx d 131 32 st ls σ μ la Q ↔ qEx d 131 33 (.int 0 :: st) ls σ μ la Q := (qEx_eq (i := .iconst 0) rfl).trans Iff.rfl
theorem x131_33 {x : Int32} : qEx d 131 33 [.int x] ls σ μ la Q ↔ ((x = 0 ∨ x = 1) ∧ Q (some (.int x)) σ μ la) := (qEx_eq (i := .ireturn) rfl).trans qExA_chk
theorem x131_34 {x : Nat} {l1 l2 : Value} : qEx d 131 34 st [.ref x, l1, l2] σ μ la Q ↔ qEx d 131 35 (.ref x :: st) [.ref x, l1, l2] σ μ la Q := (qEx_eq (i := .aload_n 0) rfl).trans Iff.rfl
theorem x131_35 {a : Nat} : qEx d 131 35 (.ref a :: st) ls σ μ la Q ↔ (qOk σ a 7 = true ∧ qEx d 131 38 (qrf (σ.2 a 8) :: st) ls σ μ la Q) := (qEx_eq (i := .getfield 29) rfl).trans qExA_chk
theorem x131_38  : qEx d 131 38 st ls σ μ la Q ↔ qEx d 131 40 (.int 49 :: st) ls σ μ la Q := (qEx_eq (i := .bipush 49) rfl).trans Iff.rfl
theorem x131_40  : qEx d 131 40 st ls σ μ la Q ↔ qEx d 131 42 (.int 8 :: st) ls σ μ la Q := (qEx_eq (i := .bipush 8) rfl).trans Iff.rfl
theorem x131_42 {x : Int32} {l0 l2 : Value} : qEx d 131 42 st [l0, .int x, l2] σ μ la Q ↔ qEx d 131 43 (.int x :: st) [l0, .int x, l2] σ μ la Q := (qEx_eq (i := .iload_n 1) rfl).trans Iff.rfl
theorem x131_43 {x y : Int32} : qEx d 131 43 (.int y :: .int x :: st) ls σ μ la Q ↔ qEx d 131 44 (.int (x * y) :: st) ls σ μ la Q := (qEx_eq (i := .imul) rfl).trans Iff.rfl
theorem x131_44 {x y : Int32} : qEx d 131 44 (.int y :: .int x :: st) ls σ μ la Q ↔ qEx d 131 45 (.int (x + y) :: st) ls σ μ la Q := (qEx_eq (i := .iadd) rfl).trans Iff.rfl
theorem x131_45 {x : Int32} {l0 l1 : Value} : qEx d 131 45 st [l0, l1, .int x] σ μ la Q ↔ qEx d 131 46 (.int x :: st) [l0, l1, .int x] σ μ la Q := (qEx_eq (i := .iload_n 2) rfl).trans Iff.rfl
theorem x131_46 {x y : Int32} : qEx d 131 46 (.int y :: .int x :: st) ls σ μ la Q ↔ qEx d 131 47 (.int (x + y) :: st) ls σ μ la Q := (qEx_eq (i := .iadd) rfl).trans Iff.rfl
theorem x131_47 {x : Nat} {l1 l2 : Value} : qEx d 131 47 st [.ref x, l1, l2] σ μ la Q ↔ qEx d 131 48 (.ref x :: st) [.ref x, l1, l2] σ μ la Q := (qEx_eq (i := .aload_n 0) rfl).trans Iff.rfl
theorem x131_48 {a : Nat} {z0 : Int32} {z1 : Nat} : qEx (d + 1) 131 48 [.ref a, .int z0, .ref z1] ls σ μ la Q ↔ (qOk σ a 7 = true ∧ qEx d 125 0 [] [.ref a] σ μ la fun r σ' μ' la' => qEx (d + 1) 131 51 (r.toList ++ [.int z0, .ref z1]) ls σ' μ' la' Q) := (qEx_eq (i := .invokevirtual 74) rfl).trans qExA_chk
theorem x131_51 {y0 : Int32} {z0 : Int32} {z1 : Nat} : qEx (d + 1) 131 51 [.int y0, .int z0, .ref z1] ls σ μ la Q ↔ qEx d 127 0 [] [.int y0] σ μ la fun r σ' μ' la' => qEx (d + 1) 131 54 (r.toList ++ [.int z0, .ref z1]) ls σ' μ' la' Q := (qEx_eq (i := .invokestatic 82) rfl).trans Iff.rfl
theorem x131_54 {x y : Int32} {a : Nat} : qEx d 131 54 (.int y :: .int x :: .ref a :: st) ls σ μ la Q ↔ (qIn x (qLen σ 10 a) = true ∧ qEx d 131 55 st ls σ (qset μ a x.toNatClampNeg y) la Q) := (qEx_eq (i := .iastore) rfl).trans qExA_chk
theorem x131_55 {x : Int32} {l0 l1 : Value} : qEx d 131 55 st [l0, l1, .int x] σ μ la Q ↔ qEx d 131 58 st [l0, l1, .int (x + 1)] σ μ la Q := (qEx_eq (i := .iinc 2 1) rfl).trans Iff.rfl
theorem x131_58 {x : Nat} {l1 l2 : Value} : qEx d 131 58 st [.ref x, l1, l2] σ μ la Q ↔ qEx d 131 59 (.ref x :: st) [.ref x, l1, l2] σ μ la Q := (qEx_eq (i := .aload_n 0) rfl).trans Iff.rfl
theorem x131_59 {x : Nat} : qEx d 131 59 (.ref x :: st) ls σ μ la Q ↔ qEx d 131 60 (.ref x :: .ref x :: st) ls σ μ la Q := (qEx_eq (i := .dup) rfl).trans Iff.rfl
theorem x131_60 {a : Nat} : qEx d 131 60 (.ref a :: st) ls σ μ la Q ↔ (qOk σ a 7 = true ∧ qEx d 131 63 (.int (μ a 5) :: st) ls σ μ la Q) := (qEx_eq (i := .getfield 71) rfl).trans qExA_chk
theorem x131_63  : qEx d 131 63 st ls σ μ la Q ↔ qEx d 131 64 (.int 1 :: st) ls σ μ la Q := (qEx_eq (i := .iconst 1) rfl).trans Iff.rfl
theorem x131_64 {x y : Int32} : qEx d 131 64 (.int y :: .int x :: st) ls σ μ la Q ↔ qEx d 131 65 (.int (x + y) :: st) ls σ μ la Q := (qEx_eq (i := .iadd) rfl).trans Iff.rfl
theorem x131_65 {x : Int32} {a : Nat} : qEx d 131 65 (.int x :: .ref a :: st) ls σ μ la Q ↔ (qOk σ a 7 = true ∧ qEx d 131 68 st ls σ (qset μ a 5 x) la Q) := (qEx_eq (i := .putfield 71) rfl).trans qExA_chk
theorem x131_68  : qEx d 131 68 st ls σ μ la Q ↔ qEx d 131 2 st ls σ μ la Q := (qEx_eq (i := .goto (-66)) rfl).trans Iff.rfl
theorem x131_71 {x : Int32} {l0 l1 : Value} : qEx d 131 71 st [l0, l1, .int x] σ μ la Q ↔ qEx d 131 72 (.int x :: st) [l0, l1, .int x] σ μ la Q := (qEx_eq (i := .iload_n 2) rfl).trans Iff.rfl
theorem x131_72 {x : Int32} : qEx d 131 72 (.int x :: st) ls σ μ la Q ↔ (if x = 0 then qEx d 131 90 st ls σ μ la Q else qEx d 131 75 st ls σ μ la Q) := (qEx_eq (i := .ifCond .eq 18) rfl).trans qExA_ite
theorem x131_75 {x : Int32} {l0 l2 : Value} : qEx d 131 75 st [l0, .int x, l2] σ μ la Q ↔ qEx d 131 76 (.int x :: st) [l0, .int x, l2] σ μ la Q := (qEx_eq (i := .iload_n 1) rfl).trans Iff.rfl
theorem x131_76 {x : Int32} : qEx d 131 76 (.int x :: st) ls σ μ la Q ↔ (if x ≤ 0 then qEx d 131 92 st ls σ μ la Q else qEx d 131 79 st ls σ μ la Q) := (qEx_eq (i := .ifCond .le 16) rfl).trans qExA_ite
theorem x131_79 {x : Int32} {l0 l1 : Value} : qEx d 131 79 st [l0, l1, .int x] σ μ la Q ↔ qEx d 131 80 (.int x :: st) [l0, l1, .int x] σ μ la Q := (qEx_eq (i := .iload_n 2) rfl).trans Iff.rfl
theorem x131_80 {x : Nat} {l1 l2 : Value} : qEx d 131 80 st [.ref x, l1, l2] σ μ la Q ↔ qEx d 131 81 (.ref x :: st) [.ref x, l1, l2] σ μ la Q := (qEx_eq (i := .aload_n 0) rfl).trans Iff.rfl
theorem x131_81 {a : Nat} : qEx d 131 81 (.ref a :: st) ls σ μ la Q ↔ (qOk σ a 7 = true ∧ qEx d 131 84 (qrf (σ.2 a 8) :: st) ls σ μ la Q) := (qEx_eq (i := .getfield 29) rfl).trans qExA_chk
theorem x131_84  : qEx d 131 84 st ls σ μ la Q ↔ qEx d 131 86 (.int 113 :: st) ls σ μ la Q := (qEx_eq (i := .bipush 113) rfl).trans Iff.rfl
theorem x131_86 {x : Int32} {a : Nat} : qEx d 131 86 (.int x :: .ref a :: st) ls σ μ la Q ↔ (qIn x (qIld σ μ a) = true ∧ qEx d 131 87 (.int (μ a x.toNatClampNeg) :: st) ls σ μ la Q) := (qEx_eq (i := .iaload) rfl).trans qExA_chk
theorem x131_87 {x y : Int32} : qEx d 131 87 (.int y :: .int x :: st) ls σ μ la Q ↔ (if y ≤ x then qEx d 131 92 st ls σ μ la Q else qEx d 131 90 st ls σ μ la Q) := (qEx_eq (i := .if_icmp .ge 5) rfl).trans qExA_ite
theorem x131_90  : qEx d 131 90 st ls σ μ la Q ↔ qEx d 131 91 (.int 0 :: st) ls σ μ la Q := (qEx_eq (i := .iconst 0) rfl).trans Iff.rfl
theorem x131_91 {x : Int32} : qEx d 131 91 [.int x] ls σ μ la Q ↔ ((x = 0 ∨ x = 1) ∧ Q (some (.int x)) σ μ la) := (qEx_eq (i := .ireturn) rfl).trans qExA_chk
theorem x131_92 {x : Nat} {l1 l2 : Value} : qEx d 131 92 st [.ref x, l1, l2] σ μ la Q ↔ qEx d 131 93 (.ref x :: st) [.ref x, l1, l2] σ μ la Q := (qEx_eq (i := .aload_n 0) rfl).trans Iff.rfl
theorem x131_93 {a : Nat} : qEx d 131 93 (.ref a :: st) ls σ μ la Q ↔ (qOk σ a 7 = true ∧ qEx d 131 96 (qrf (σ.2 a 8) :: st) ls σ μ la Q) := (qEx_eq (i := .getfield 29) rfl).trans qExA_chk
theorem x131_96  : qEx d 131 96 st ls σ μ la Q ↔ qEx d 131 98 (.int 113 :: st) ls σ μ la Q := (qEx_eq (i := .bipush 113) rfl).trans Iff.rfl
theorem x131_98 {x : Int32} {l0 l1 : Value} : qEx d 131 98 st [l0, l1, .int x] σ μ la Q ↔ qEx d 131 99 (.int x :: st) [l0, l1, .int x] σ μ la Q := (qEx_eq (i := .iload_n 2) rfl).trans Iff.rfl
theorem x131_99 {x y : Int32} {a : Nat} : qEx d 131 99 (.int y :: .int x :: .ref a :: st) ls σ μ la Q ↔ (qIn x (qLen σ 10 a) = true ∧ qEx d 131 100 st ls σ (qset μ a x.toNatClampNeg y) la Q) := (qEx_eq (i := .iastore) rfl).trans qExA_chk
theorem x131_100 {x : Nat} {l1 l2 : Value} : qEx d 131 100 st [.ref x, l1, l2] σ μ la Q ↔ qEx d 131 101 (.ref x :: st) [.ref x, l1, l2] σ μ la Q := (qEx_eq (i := .aload_n 0) rfl).trans Iff.rfl
theorem x131_101 {a : Nat} : qEx d 131 101 (.ref a :: st) ls σ μ la Q ↔ (qOk σ a 7 = true ∧ qEx d 131 104 (qrf (σ.2 a 8) :: st) ls σ μ la Q) := (qEx_eq (i := .getfield 29) rfl).trans qExA_chk
theorem x131_104  : qEx d 131 104 st ls σ μ la Q ↔ qEx d 131 106 (.int 114 :: st) ls σ μ la Q := (qEx_eq (i := .bipush 114) rfl).trans Iff.rfl
theorem x131_106 {x : Int32} {l0 l2 : Value} : qEx d 131 106 st [l0, .int x, l2] σ μ la Q ↔ qEx d 131 107 (.int x :: st) [l0, .int x, l2] σ μ la Q := (qEx_eq (i := .iload_n 1) rfl).trans Iff.rfl
theorem x131_107  : qEx d 131 107 st ls σ μ la Q ↔ qEx d 131 108 (.int 1 :: st) ls σ μ la Q := (qEx_eq (i := .iconst 1) rfl).trans Iff.rfl
theorem x131_108 {x y : Int32} : qEx d 131 108 (.int y :: .int x :: st) ls σ μ la Q ↔ qEx d 131 109 (.int (x + y) :: st) ls σ μ la Q := (qEx_eq (i := .iadd) rfl).trans Iff.rfl
theorem x131_109 {x y : Int32} {a : Nat} : qEx d 131 109 (.int y :: .int x :: .ref a :: st) ls σ μ la Q ↔ (qIn x (qLen σ 10 a) = true ∧ qEx d 131 110 st ls σ (qset μ a x.toNatClampNeg y) la Q) := (qEx_eq (i := .iastore) rfl).trans qExA_chk
theorem x131_110  : qEx d 131 110 st ls σ μ la Q ↔ qEx d 131 111 (.int 1 :: st) ls σ μ la Q := (qEx_eq (i := .iconst 1) rfl).trans Iff.rfl
theorem x131_111 {x : Int32} : qEx d 131 111 [.int x] ls σ μ la Q ↔ ((x = 0 ∨ x = 1) ∧ Q (some (.int x)) σ μ la) := (qEx_eq (i := .ireturn) rfl).trans qExA_chk
theorem x132_0  : qEx d 132 0 st ls σ μ la Q ↔ qEx d 132 1 (.int 1 :: st) ls σ μ la Q := (qEx_eq (i := .iconst 1) rfl).trans Iff.rfl
theorem x132_1 {x : Int32} {l0 l1 : Value} : qEx d 132 1 (.int x :: st) [l0, l1] σ μ la Q ↔ qEx d 132 2 st [l0, .int x] σ μ la Q := (qEx_eq (i := .istore_n 1) rfl).trans Iff.rfl
theorem x132_2 {x : Int32} {l0 : Value} : qEx d 132 2 st [l0, .int x] σ μ la Q ↔ qEx d 132 3 (.int x :: st) [l0, .int x] σ μ la Q := (qEx_eq (i := .iload_n 1) rfl).trans Iff.rfl
theorem x132_3 {x : Int32} : qEx d 132 3 (.int x :: st) ls σ μ la Q ↔ (if x = 0 then qEx d 132 52 st ls σ μ la Q else qEx d 132 6 st ls σ μ la Q) := (qEx_eq (i := .ifCond .eq 49) rfl).trans qExA_ite
theorem x132_6 {x : Nat} {l1 : Value} : qEx d 132 6 st [.ref x, l1] σ μ la Q ↔ qEx d 132 7 (.ref x :: st) [.ref x, l1] σ μ la Q := (qEx_eq (i := .aload_n 0) rfl).trans Iff.rfl
theorem x132_7 {x : Nat} {l1 : Value} : qEx d 132 7 st [.ref x, l1] σ μ la Q ↔ qEx d 132 8 (.ref x :: st) [.ref x, l1] σ μ la Q := (qEx_eq (i := .aload_n 0) rfl).trans Iff.rfl
theorem x132_8 {a : Nat} : qEx d 132 8 (.ref a :: st) ls σ μ la Q ↔ (qOk σ a 7 = true ∧ qEx d 132 11 (qrf (σ.2 a 8) :: st) ls σ μ la Q) := (qEx_eq (i := .getfield 29) rfl).trans qExA_chk
theorem x132_11  : qEx d 132 11 st ls σ μ la Q ↔ qEx d 132 13 (.int 114 :: st) ls σ μ la Q := (qEx_eq (i := .bipush 114) rfl).trans Iff.rfl
theorem x132_13 {x : Int32} {a : Nat} : qEx d 132 13 (.int x :: .ref a :: st) ls σ μ la Q ↔ (qIn x (qIld σ μ a) = true ∧ qEx d 132 14 (.int (μ a x.toNatClampNeg) :: st) ls σ μ la Q) := (qEx_eq (i := .iaload) rfl).trans qExA_chk
theorem x132_14 {y0 : Int32} {a : Nat} : qEx (d + 1) 132 14 [.int y0, .ref a] ls σ μ la Q ↔ (qOk σ a 7 = true ∧ qEx d 131 0 [] [.ref a, .int y0, .retAddr 0] σ μ la fun r σ' μ' la' => qEx (d + 1) 132 17 (r.toList ++ []) ls σ' μ' la' Q) := (qEx_eq (i := .invokevirtual 86) rfl).trans qExA_chk
theorem x132_17 {x : Int32} : qEx d 132 17 (.int x :: st) ls σ μ la Q ↔ (if ¬ x = 0 then qEx d 132 22 st ls σ μ la Q else qEx d 132 20 st ls σ μ la Q) := (qEx_eq (i := .ifCond .ne 5) rfl).trans qExA_ite
theorem x132_20  : qEx d 132 20 st ls σ μ la Q ↔ qEx d 132 21 (.int 0 :: st) ls σ μ la Q := (qEx_eq (i := .iconst 0) rfl).trans Iff.rfl
theorem x132_21 {x : Int32} : qEx d 132 21 [.int x] ls σ μ la Q ↔ ((x = 0 ∨ x = 1) ∧ Q (some (.int x)) σ μ la) := (qEx_eq (i := .ireturn) rfl).trans qExA_chk
theorem x132_22 {x : Nat} {l1 : Value} : qEx d 132 22 st [.ref x, l1] σ μ la Q ↔ qEx d 132 23 (.ref x :: st) [.ref x, l1] σ μ la Q := (qEx_eq (i := .aload_n 0) rfl).trans Iff.rfl
theorem x132_23 {a : Nat} : qEx d 132 23 (.ref a :: st) ls σ μ la Q ↔ (qOk σ a 7 = true ∧ qEx d 132 26 (qrf (σ.2 a 8) :: st) ls σ μ la Q) := (qEx_eq (i := .getfield 29) rfl).trans qExA_chk
theorem x132_26  : qEx d 132 26 st ls σ μ la Q ↔ qEx d 132 28 (.int 114 :: st) ls σ μ la Q := (qEx_eq (i := .bipush 114) rfl).trans Iff.rfl
theorem x132_28 {x : Int32} {a : Nat} : qEx d 132 28 (.int x :: .ref a :: st) ls σ μ la Q ↔ (qIn x (qIld σ μ a) = true ∧ qEx d 132 29 (.int (μ a x.toNatClampNeg) :: st) ls σ μ la Q) := (qEx_eq (i := .iaload) rfl).trans qExA_chk
theorem x132_29  : qEx d 132 29 st ls σ μ la Q ↔ qEx d 132 31 (.int 8 :: st) ls σ μ la Q := (qEx_eq (i := .bipush 8) rfl).trans Iff.rfl
theorem x132_31 {x y : Int32} : qEx d 132 31 (.int y :: .int x :: st) ls σ μ la Q ↔ (if y ≤ x then qEx d 132 47 st ls σ μ la Q else qEx d 132 34 st ls σ μ la Q) := (qEx_eq (i := .if_icmp .ge 16) rfl).trans qExA_ite
theorem x132_34 {x : Nat} {l1 : Value} : qEx d 132 34 st [.ref x, l1] σ μ la Q ↔ qEx d 132 35 (.ref x :: st) [.ref x, l1] σ μ la Q := (qEx_eq (i := .aload_n 0) rfl).trans Iff.rfl
theorem x132_35  : qEx d 132 35 st ls σ μ la Q ↔ qEx d 132 37 (.int 47 :: st) ls σ μ la Q := (qEx_eq (i := .bipush 47) rfl).trans Iff.rfl
theorem x132_37 {y0 : Int32} {a : Nat} : qEx (d + 1) 132 37 [.int y0, .ref a] ls σ μ la Q ↔ (qOk σ a 7 = true ∧ qEx d 126 0 [] [.ref a, .int y0] σ μ la fun r σ' μ' la' => qEx (d + 1) 132 40 (r.toList ++ []) ls σ' μ' la' Q) := (qEx_eq (i := .invokevirtual 78) rfl).trans qExA_chk
theorem x132_40 {x : Int32} : qEx d 132 40 (.int x :: st) ls σ μ la Q ↔ (if x = 0 then qEx d 132 47 st ls σ μ la Q else qEx d 132 43 st ls σ μ la Q) := (qEx_eq (i := .ifCond .eq 7) rfl).trans qExA_ite
theorem x132_43  : qEx d 132 43 st ls σ μ la Q ↔ qEx d 132 44 (.int 1 :: st) ls σ μ la Q := (qEx_eq (i := .iconst 1) rfl).trans Iff.rfl
theorem x132_44  : qEx d 132 44 st ls σ μ la Q ↔ qEx d 132 48 st ls σ μ la Q := (qEx_eq (i := .goto 4) rfl).trans Iff.rfl
theorem x132_47  : qEx d 132 47 st ls σ μ la Q ↔ qEx d 132 48 (.int 0 :: st) ls σ μ la Q := (qEx_eq (i := .iconst 0) rfl).trans Iff.rfl
theorem x132_48 {x : Int32} {l0 l1 : Value} : qEx d 132 48 (.int x :: st) [l0, l1] σ μ la Q ↔ qEx d 132 49 st [l0, .int x] σ μ la Q := (qEx_eq (i := .istore_n 1) rfl).trans Iff.rfl
theorem x132_49  : qEx d 132 49 st ls σ μ la Q ↔ qEx d 132 2 st ls σ μ la Q := (qEx_eq (i := .goto (-47)) rfl).trans Iff.rfl
theorem x132_52 {x : Nat} {l1 : Value} : qEx d 132 52 st [.ref x, l1] σ μ la Q ↔ qEx d 132 53 (.ref x :: st) [.ref x, l1] σ μ la Q := (qEx_eq (i := .aload_n 0) rfl).trans Iff.rfl
theorem x132_53  : qEx d 132 53 st ls σ μ la Q ↔ qEx d 132 55 (.int 59 :: st) ls σ μ la Q := (qEx_eq (i := .bipush 59) rfl).trans Iff.rfl
theorem x132_55 {y0 : Int32} {a : Nat} : qEx (d + 1) 132 55 [.int y0, .ref a] ls σ μ la Q ↔ (qOk σ a 7 = true ∧ qEx d 126 0 [] [.ref a, .int y0] σ μ la fun r σ' μ' la' => qEx (d + 1) 132 58 (r.toList ++ []) ls σ' μ' la' Q) := (qEx_eq (i := .invokevirtual 78) rfl).trans qExA_chk
theorem x132_58 {x : Int32} : qEx d 132 58 [.int x] ls σ μ la Q ↔ ((x = 0 ∨ x = 1) ∧ Q (some (.int x)) σ μ la) := (qEx_eq (i := .ireturn) rfl).trans qExA_chk
theorem x133_0 {x : Nat} {l1 l2 : Value} : qEx d 133 0 st [.ref x, l1, l2] σ μ la Q ↔ qEx d 133 1 (.ref x :: st) [.ref x, l1, l2] σ μ la Q := (qEx_eq (i := .aload_n 0) rfl).trans Iff.rfl
theorem x133_1 {a : Nat} : qEx (d + 1) 133 1 [.ref a] ls σ μ la Q ↔ (qOk σ a 7 = true ∧ qEx d 125 0 [] [.ref a] σ μ la fun r σ' μ' la' => qEx (d + 1) 133 4 (r.toList ++ []) ls σ' μ' la' Q) := (qEx_eq (i := .invokevirtual 74) rfl).trans qExA_chk
theorem x133_4  : qEx d 133 4 st ls σ μ la Q ↔ qEx d 133 6 (.int 48 :: st) ls σ μ la Q := (qEx_eq (i := .bipush 48) rfl).trans Iff.rfl
theorem x133_6 {x y : Int32} : qEx d 133 6 (.int y :: .int x :: st) ls σ μ la Q ↔ qEx d 133 7 (.int (x - y) :: st) ls σ μ la Q := (qEx_eq (i := .isub) rfl).trans Iff.rfl
theorem x133_7 {x : Int32} {l0 l1 l2 : Value} : qEx d 133 7 (.int x :: st) [l0, l1, l2] σ μ la Q ↔ qEx d 133 8 st [l0, l1, .int x] σ μ la Q := (qEx_eq (i := .istore_n 2) rfl).trans Iff.rfl
theorem x133_8 {x : Int32} {l0 l1 : Value} : qEx d 133 8 st [l0, l1, .int x] σ μ la Q ↔ qEx d 133 9 (.int x :: st) [l0, l1, .int x] σ μ la Q := (qEx_eq (i := .iload_n 2) rfl).trans Iff.rfl
theorem x133_9  : qEx d 133 9 st ls σ μ la Q ↔ qEx d 133 10 (.int 0 :: st) ls σ μ la Q := (qEx_eq (i := .iconst 0) rfl).trans Iff.rfl
theorem x133_10  : qEx d 133 10 st ls σ μ la Q ↔ qEx d 133 12 (.int 9 :: st) ls σ μ la Q := (qEx_eq (i := .bipush 9) rfl).trans Iff.rfl
theorem x133_12 {y0 : Int32} {y1 : Int32} {y2 : Int32} : qEx (d + 1) 133 12 [.int y2, .int y1, .int y0] ls σ μ la Q ↔ qEx d 118 0 [] [.int y0, .int y1, .int y2] σ μ la fun r σ' μ' la' => qEx (d + 1) 133 15 (r.toList ++ []) ls σ' μ' la' Q := (qEx_eq (i := .invokestatic 63) rfl).trans Iff.rfl
theorem x133_15 {x : Int32} : qEx d 133 15 (.int x :: st) ls σ μ la Q ↔ (if x = 0 then qEx d 133 23 st ls σ μ la Q else qEx d 133 18 st ls σ μ la Q) := (qEx_eq (i := .ifCond .eq 8) rfl).trans qExA_ite
theorem x133_18 {x : Int32} {l0 l1 : Value} : qEx d 133 18 st [l0, l1, .int x] σ μ la Q ↔ qEx d 133 19 (.int x :: st) [l0, l1, .int x] σ μ la Q := (qEx_eq (i := .iload_n 2) rfl).trans Iff.rfl
theorem x133_19 {x : Int32} {l0 l2 : Value} : qEx d 133 19 st [l0, .int x, l2] σ μ la Q ↔ qEx d 133 20 (.int x :: st) [l0, .int x, l2] σ μ la Q := (qEx_eq (i := .iload_n 1) rfl).trans Iff.rfl
theorem x133_20 {x y : Int32} : qEx d 133 20 (.int y :: .int x :: st) ls σ μ la Q ↔ (if x < y then qEx d 133 25 st ls σ μ la Q else qEx d 133 23 st ls σ μ la Q) := (qEx_eq (i := .if_icmp .lt 5) rfl).trans qExA_ite
theorem x133_23  : qEx d 133 23 st ls σ μ la Q ↔ qEx d 133 24 (.int (-1) :: st) ls σ μ la Q := (qEx_eq (i := .iconst (-1)) rfl).trans Iff.rfl
theorem x133_24 {x : Int32} : qEx d 133 24 [.int x] ls σ μ la Q ↔ Q (some (.int x)) σ μ la := (qEx_eq (i := .ireturn) rfl).trans Iff.rfl
theorem x133_25 {x : Nat} {l1 l2 : Value} : qEx d 133 25 st [.ref x, l1, l2] σ μ la Q ↔ qEx d 133 26 (.ref x :: st) [.ref x, l1, l2] σ μ la Q := (qEx_eq (i := .aload_n 0) rfl).trans Iff.rfl
theorem x133_26 {x : Nat} : qEx d 133 26 (.ref x :: st) ls σ μ la Q ↔ qEx d 133 27 (.ref x :: .ref x :: st) ls σ μ la Q := (qEx_eq (i := .dup) rfl).trans Iff.rfl
theorem x133_27 {a : Nat} : qEx d 133 27 (.ref a :: st) ls σ μ la Q ↔ (qOk σ a 7 = true ∧ qEx d 133 30 (.int (μ a 5) :: st) ls σ μ la Q) := (qEx_eq (i := .getfield 71) rfl).trans qExA_chk
theorem x133_30  : qEx d 133 30 st ls σ μ la Q ↔ qEx d 133 31 (.int 1 :: st) ls σ μ la Q := (qEx_eq (i := .iconst 1) rfl).trans Iff.rfl
theorem x133_31 {x y : Int32} : qEx d 133 31 (.int y :: .int x :: st) ls σ μ la Q ↔ qEx d 133 32 (.int (x + y) :: st) ls σ μ la Q := (qEx_eq (i := .iadd) rfl).trans Iff.rfl
theorem x133_32 {x : Int32} {a : Nat} : qEx d 133 32 (.int x :: .ref a :: st) ls σ μ la Q ↔ (qOk σ a 7 = true ∧ qEx d 133 35 st ls σ (qset μ a 5 x) la Q) := (qEx_eq (i := .putfield 71) rfl).trans qExA_chk
theorem x133_35 {x : Int32} {l0 l1 : Value} : qEx d 133 35 st [l0, l1, .int x] σ μ la Q ↔ qEx d 133 36 (.int x :: st) [l0, l1, .int x] σ μ la Q := (qEx_eq (i := .iload_n 2) rfl).trans Iff.rfl
theorem x133_36 {x : Int32} : qEx d 133 36 [.int x] ls σ μ la Q ↔ Q (some (.int x)) σ μ la := (qEx_eq (i := .ireturn) rfl).trans Iff.rfl
theorem x134_0 {x : Nat} {l1 l2 l3 : Value} : qEx d 134 0 st [.ref x, l1, l2, l3] σ μ la Q ↔ qEx d 134 1 (.ref x :: st) [.ref x, l1, l2, l3] σ μ la Q := (qEx_eq (i := .aload_n 0) rfl).trans Iff.rfl
theorem x134_1 {a : Nat} : qEx d 134 1 (.ref a :: st) ls σ μ la Q ↔ (qOk σ a 7 = true ∧ qEx d 134 4 (.int (μ a 5) :: st) ls σ μ la Q) := (qEx_eq (i := .getfield 71) rfl).trans qExA_chk
theorem x134_4 {x : Int32} {l0 l1 l2 l3 : Value} : qEx d 134 4 (.int x :: st) [l0, l1, l2, l3] σ μ la Q ↔ qEx d 134 5 st [l0, .int x, l2, l3] σ μ la Q := (qEx_eq (i := .istore_n 1) rfl).trans Iff.rfl
theorem x134_5  : qEx d 134 5 st ls σ μ la Q ↔ qEx d 134 6 (.int 0 :: st) ls σ μ la Q := (qEx_eq (i := .iconst 0) rfl).trans Iff.rfl
theorem x134_6 {x : Int32} {l0 l1 l2 l3 : Value} : qEx d 134 6 (.int x :: st) [l0, l1, l2, l3] σ μ la Q ↔ qEx d 134 7 st [l0, l1, .int x, l3] σ μ la Q := (qEx_eq (i := .istore_n 2) rfl).trans Iff.rfl
theorem x134_7 {x : Nat} {l1 l2 l3 : Value} : qEx d 134 7 st [.ref x, l1, l2, l3] σ μ la Q ↔ qEx d 134 8 (.ref x :: st) [.ref x, l1, l2, l3] σ μ la Q := (qEx_eq (i := .aload_n 0) rfl).trans Iff.rfl
theorem x134_8 {a : Nat} : qEx (d + 1) 134 8 [.ref a] ls σ μ la Q ↔ (qOk σ a 7 = true ∧ qEx d 125 0 [] [.ref a] σ μ la fun r σ' μ' la' => qEx (d + 1) 134 11 (r.toList ++ []) ls σ' μ' la' Q) := (qEx_eq (i := .invokevirtual 74) rfl).trans qExA_chk
theorem x134_11  : qEx d 134 11 st ls σ μ la Q ↔ qEx d 134 13 (.int 48 :: st) ls σ μ la Q := (qEx_eq (i := .bipush 48) rfl).trans Iff.rfl
theorem x134_13  : qEx d 134 13 st ls σ μ la Q ↔ qEx d 134 15 (.int 57 :: st) ls σ μ la Q := (qEx_eq (i := .bipush 57) rfl).trans Iff.rfl
theorem x134_15 {y0 : Int32} {y1 : Int32} {y2 : Int32} : qEx (d + 1) 134 15 [.int y2, .int y1, .int y0] ls σ μ la Q ↔ qEx d 118 0 [] [.int y0, .int y1, .int y2] σ μ la fun r σ' μ' la' => qEx (d + 1) 134 18 (r.toList ++ []) ls σ' μ' la' Q := (qEx_eq (i := .invokestatic 63) rfl).trans Iff.rfl
theorem x134_18 {x : Int32} : qEx d 134 18 (.int x :: st) ls σ μ la Q ↔ (if x = 0 then qEx d 134 61 st ls σ μ la Q else qEx d 134 21 st ls σ μ la Q) := (qEx_eq (i := .ifCond .eq 43) rfl).trans qExA_ite
theorem x134_21 {x : Nat} {l1 l2 l3 : Value} : qEx d 134 21 st [.ref x, l1, l2, l3] σ μ la Q ↔ qEx d 134 22 (.ref x :: st) [.ref x, l1, l2, l3] σ μ la Q := (qEx_eq (i := .aload_n 0) rfl).trans Iff.rfl
theorem x134_22 {a : Nat} : qEx d 134 22 (.ref a :: st) ls σ μ la Q ↔ (qOk σ a 7 = true ∧ qEx d 134 25 (.int (μ a 5) :: st) ls σ μ la Q) := (qEx_eq (i := .getfield 71) rfl).trans qExA_chk
theorem x134_25 {x : Int32} {l0 l2 l3 : Value} : qEx d 134 25 st [l0, .int x, l2, l3] σ μ la Q ↔ qEx d 134 26 (.int x :: st) [l0, .int x, l2, l3] σ μ la Q := (qEx_eq (i := .iload_n 1) rfl).trans Iff.rfl
theorem x134_26 {x y : Int32} : qEx d 134 26 (.int y :: .int x :: st) ls σ μ la Q ↔ qEx d 134 27 (.int (x - y) :: st) ls σ μ la Q := (qEx_eq (i := .isub) rfl).trans Iff.rfl
theorem x134_27  : qEx d 134 27 st ls σ μ la Q ↔ qEx d 134 28 (.int 2 :: st) ls σ μ la Q := (qEx_eq (i := .iconst 2) rfl).trans Iff.rfl
theorem x134_28 {x y : Int32} : qEx d 134 28 (.int y :: .int x :: st) ls σ μ la Q ↔ (if y ≤ x then qEx d 134 46 st ls σ μ la Q else qEx d 134 31 st ls σ μ la Q) := (qEx_eq (i := .if_icmp .ge 18) rfl).trans qExA_ite
theorem x134_31  : qEx d 134 31 st ls σ μ la Q ↔ qEx d 134 33 (.int 10 :: st) ls σ μ la Q := (qEx_eq (i := .bipush 10) rfl).trans Iff.rfl
theorem x134_33 {x : Int32} {l0 l1 l3 : Value} : qEx d 134 33 st [l0, l1, .int x, l3] σ μ la Q ↔ qEx d 134 34 (.int x :: st) [l0, l1, .int x, l3] σ μ la Q := (qEx_eq (i := .iload_n 2) rfl).trans Iff.rfl
theorem x134_34 {x y : Int32} : qEx d 134 34 (.int y :: .int x :: st) ls σ μ la Q ↔ qEx d 134 35 (.int (x * y) :: st) ls σ μ la Q := (qEx_eq (i := .imul) rfl).trans Iff.rfl
theorem x134_35 {x : Nat} {l1 l2 l3 : Value} : qEx d 134 35 st [.ref x, l1, l2, l3] σ μ la Q ↔ qEx d 134 36 (.ref x :: st) [.ref x, l1, l2, l3] σ μ la Q := (qEx_eq (i := .aload_n 0) rfl).trans Iff.rfl
theorem x134_36 {a : Nat} {z0 : Int32} : qEx (d + 1) 134 36 [.ref a, .int z0] ls σ μ la Q ↔ (qOk σ a 7 = true ∧ qEx d 125 0 [] [.ref a] σ μ la fun r σ' μ' la' => qEx (d + 1) 134 39 (r.toList ++ [.int z0]) ls σ' μ' la' Q) := (qEx_eq (i := .invokevirtual 74) rfl).trans qExA_chk
theorem x134_39 {x y : Int32} : qEx d 134 39 (.int y :: .int x :: st) ls σ μ la Q ↔ qEx d 134 40 (.int (x + y) :: st) ls σ μ la Q := (qEx_eq (i := .iadd) rfl).trans Iff.rfl
theorem x134_40  : qEx d 134 40 st ls σ μ la Q ↔ qEx d 134 42 (.int 48 :: st) ls σ μ la Q := (qEx_eq (i := .bipush 48) rfl).trans Iff.rfl
theorem x134_42 {x y : Int32} : qEx d 134 42 (.int y :: .int x :: st) ls σ μ la Q ↔ qEx d 134 43 (.int (x - y) :: st) ls σ μ la Q := (qEx_eq (i := .isub) rfl).trans Iff.rfl
theorem x134_43  : qEx d 134 43 st ls σ μ la Q ↔ qEx d 134 47 st ls σ μ la Q := (qEx_eq (i := .goto 4) rfl).trans Iff.rfl
theorem x134_46 {x : Int32} {l0 l1 l3 : Value} : qEx d 134 46 st [l0, l1, .int x, l3] σ μ la Q ↔ qEx d 134 47 (.int x :: st) [l0, l1, .int x, l3] σ μ la Q := (qEx_eq (i := .iload_n 2) rfl).trans Iff.rfl
theorem x134_47 {x : Int32} {l0 l1 l2 l3 : Value} : qEx d 134 47 (.int x :: st) [l0, l1, l2, l3] σ μ la Q ↔ qEx d 134 48 st [l0, l1, .int x, l3] σ μ la Q := (qEx_eq (i := .istore_n 2) rfl).trans Iff.rfl
theorem x134_48 {x : Nat} {l1 l2 l3 : Value} : qEx d 134 48 st [.ref x, l1, l2, l3] σ μ la Q ↔ qEx d 134 49 (.ref x :: st) [.ref x, l1, l2, l3] σ μ la Q := (qEx_eq (i := .aload_n 0) rfl).trans Iff.rfl
theorem x134_49 {x : Nat} : qEx d 134 49 (.ref x :: st) ls σ μ la Q ↔ qEx d 134 50 (.ref x :: .ref x :: st) ls σ μ la Q := (qEx_eq (i := .dup) rfl).trans Iff.rfl
theorem x134_50 {a : Nat} : qEx d 134 50 (.ref a :: st) ls σ μ la Q ↔ (qOk σ a 7 = true ∧ qEx d 134 53 (.int (μ a 5) :: st) ls σ μ la Q) := (qEx_eq (i := .getfield 71) rfl).trans qExA_chk
theorem x134_53  : qEx d 134 53 st ls σ μ la Q ↔ qEx d 134 54 (.int 1 :: st) ls σ μ la Q := (qEx_eq (i := .iconst 1) rfl).trans Iff.rfl
theorem x134_54 {x y : Int32} : qEx d 134 54 (.int y :: .int x :: st) ls σ μ la Q ↔ qEx d 134 55 (.int (x + y) :: st) ls σ μ la Q := (qEx_eq (i := .iadd) rfl).trans Iff.rfl
theorem x134_55 {x : Int32} {a : Nat} : qEx d 134 55 (.int x :: .ref a :: st) ls σ μ la Q ↔ (qOk σ a 7 = true ∧ qEx d 134 58 st ls σ (qset μ a 5 x) la Q) := (qEx_eq (i := .putfield 71) rfl).trans qExA_chk
theorem x134_58  : qEx d 134 58 st ls σ μ la Q ↔ qEx d 134 7 st ls σ μ la Q := (qEx_eq (i := .goto (-51)) rfl).trans Iff.rfl
theorem x134_61 {x : Nat} {l1 l2 l3 : Value} : qEx d 134 61 st [.ref x, l1, l2, l3] σ μ la Q ↔ qEx d 134 62 (.ref x :: st) [.ref x, l1, l2, l3] σ μ la Q := (qEx_eq (i := .aload_n 0) rfl).trans Iff.rfl
theorem x134_62 {a : Nat} : qEx d 134 62 (.ref a :: st) ls σ μ la Q ↔ (qOk σ a 7 = true ∧ qEx d 134 65 (.int (μ a 5) :: st) ls σ μ la Q) := (qEx_eq (i := .getfield 71) rfl).trans qExA_chk
theorem x134_65 {x : Int32} {l0 l2 l3 : Value} : qEx d 134 65 st [l0, .int x, l2, l3] σ μ la Q ↔ qEx d 134 66 (.int x :: st) [l0, .int x, l2, l3] σ μ la Q := (qEx_eq (i := .iload_n 1) rfl).trans Iff.rfl
theorem x134_66 {x y : Int32} : qEx d 134 66 (.int y :: .int x :: st) ls σ μ la Q ↔ qEx d 134 67 (.int (x - y) :: st) ls σ μ la Q := (qEx_eq (i := .isub) rfl).trans Iff.rfl
theorem x134_67 {x : Int32} {l0 l1 l2 l3 : Value} : qEx d 134 67 (.int x :: st) [l0, l1, l2, l3] σ μ la Q ↔ qEx d 134 68 st [l0, l1, l2, .int x] σ μ la Q := (qEx_eq (i := .istore_n 3) rfl).trans Iff.rfl
theorem x134_68 {x : Nat} {l1 l2 l3 : Value} : qEx d 134 68 st [.ref x, l1, l2, l3] σ μ la Q ↔ qEx d 134 69 (.ref x :: st) [.ref x, l1, l2, l3] σ μ la Q := (qEx_eq (i := .aload_n 0) rfl).trans Iff.rfl
theorem x134_69 {x : Int32} {l0 l1 l2 : Value} : qEx d 134 69 st [l0, l1, l2, .int x] σ μ la Q ↔ qEx d 134 70 (.int x :: st) [l0, l1, l2, .int x] σ μ la Q := (qEx_eq (i := .iload_n 3) rfl).trans Iff.rfl
theorem x134_70  : qEx d 134 70 st ls σ μ la Q ↔ qEx d 134 71 (.int 2 :: st) ls σ μ la Q := (qEx_eq (i := .iconst 2) rfl).trans Iff.rfl
theorem x134_71 {x y : Int32} : qEx d 134 71 (.int y :: .int x :: st) ls σ μ la Q ↔ (if x ≤ y then qEx d 134 78 st ls σ μ la Q else qEx d 134 74 st ls σ μ la Q) := (qEx_eq (i := .if_icmp .le 7) rfl).trans qExA_ite
theorem x134_74 {x : Int32} {l0 l2 l3 : Value} : qEx d 134 74 st [l0, .int x, l2, l3] σ μ la Q ↔ qEx d 134 75 (.int x :: st) [l0, .int x, l2, l3] σ μ la Q := (qEx_eq (i := .iload_n 1) rfl).trans Iff.rfl
theorem x134_75  : qEx d 134 75 st ls σ μ la Q ↔ qEx d 134 82 st ls σ μ la Q := (qEx_eq (i := .goto 7) rfl).trans Iff.rfl
theorem x134_78 {x : Nat} {l1 l2 l3 : Value} : qEx d 134 78 st [.ref x, l1, l2, l3] σ μ la Q ↔ qEx d 134 79 (.ref x :: st) [.ref x, l1, l2, l3] σ μ la Q := (qEx_eq (i := .aload_n 0) rfl).trans Iff.rfl
theorem x134_79 {a : Nat} : qEx d 134 79 (.ref a :: st) ls σ μ la Q ↔ (qOk σ a 7 = true ∧ qEx d 134 82 (.int (μ a 5) :: st) ls σ μ la Q) := (qEx_eq (i := .getfield 71) rfl).trans qExA_chk
theorem x134_82 {x : Int32} {a : Nat} : qEx d 134 82 (.int x :: .ref a :: st) ls σ μ la Q ↔ (qOk σ a 7 = true ∧ qEx d 134 85 st ls σ (qset μ a 5 x) la Q) := (qEx_eq (i := .putfield 71) rfl).trans qExA_chk
theorem x134_85 {x : Int32} {l0 l1 l2 : Value} : qEx d 134 85 st [l0, l1, l2, .int x] σ μ la Q ↔ qEx d 134 86 (.int x :: st) [l0, l1, l2, .int x] σ μ la Q := (qEx_eq (i := .iload_n 3) rfl).trans Iff.rfl
theorem x134_86 {x : Int32} : qEx d 134 86 (.int x :: st) ls σ μ la Q ↔ (if x = 0 then qEx d 134 94 st ls σ μ la Q else qEx d 134 89 st ls σ μ la Q) := (qEx_eq (i := .ifCond .eq 8) rfl).trans qExA_ite
theorem x134_89 {x : Int32} {l0 l1 l2 : Value} : qEx d 134 89 st [l0, l1, l2, .int x] σ μ la Q ↔ qEx d 134 90 (.int x :: st) [l0, l1, l2, .int x] σ μ la Q := (qEx_eq (i := .iload_n 3) rfl).trans Iff.rfl
theorem x134_90  : qEx d 134 90 st ls σ μ la Q ↔ qEx d 134 91 (.int 2 :: st) ls σ μ la Q := (qEx_eq (i := .iconst 2) rfl).trans Iff.rfl
theorem x134_91 {x y : Int32} : qEx d 134 91 (.int y :: .int x :: st) ls σ μ la Q ↔ (if x ≤ y then qEx d 134 98 st ls σ μ la Q else qEx d 134 94 st ls σ μ la Q) := (qEx_eq (i := .if_icmp .le 7) rfl).trans qExA_ite
theorem x134_94  : qEx d 134 94 st ls σ μ la Q ↔ qEx d 134 95 (.int (-1) :: st) ls σ μ la Q := (qEx_eq (i := .iconst (-1)) rfl).trans Iff.rfl
theorem x134_95  : qEx d 134 95 st ls σ μ la Q ↔ qEx d 134 99 st ls σ μ la Q := (qEx_eq (i := .goto 4) rfl).trans Iff.rfl
theorem x134_98 {x : Int32} {l0 l1 l3 : Value} : qEx d 134 98 st [l0, l1, .int x, l3] σ μ la Q ↔ qEx d 134 99 (.int x :: st) [l0, l1, .int x, l3] σ μ la Q := (qEx_eq (i := .iload_n 2) rfl).trans Iff.rfl
theorem x134_99 {x : Int32} : qEx d 134 99 [.int x] ls σ μ la Q ↔ Q (some (.int x)) σ μ la := (qEx_eq (i := .ireturn) rfl).trans Iff.rfl
theorem x135_0 {x : Nat} {l0 l2 l3 l4 : Value} : qEx d 135 0 st [l0, .ref x, l2, l3, l4] σ μ la Q ↔ qEx d 135 1 (.ref x :: st) [l0, .ref x, l2, l3, l4] σ μ la Q := (qEx_eq (i := .aload_n 1) rfl).trans Iff.rfl
theorem x135_1  : qEx d 135 1 st ls σ μ la Q ↔ qEx d 135 3 (.int 49 :: st) ls σ μ la Q := (qEx_eq (i := .bipush 49) rfl).trans Iff.rfl
theorem x135_3 {x : Int32} {l0 l1 l3 l4 : Value} : qEx d 135 3 st [l0, l1, .int x, l3, l4] σ μ la Q ↔ qEx d 135 4 (.int x :: st) [l0, l1, .int x, l3, l4] σ μ la Q := (qEx_eq (i := .iload_n 2) rfl).trans Iff.rfl
theorem x135_4 {x y : Int32} : qEx d 135 4 (.int y :: .int x :: st) ls σ μ la Q ↔ qEx d 135 5 (.int (x + y) :: st) ls σ μ la Q := (qEx_eq (i := .iadd) rfl).trans Iff.rfl
theorem x135_5 {x : Int32} {a : Nat} : qEx d 135 5 (.int x :: .ref a :: st) ls σ μ la Q ↔ (qIn x (qIld σ μ a) = true ∧ qEx d 135 6 (.int (μ a x.toNatClampNeg) :: st) ls σ μ la Q) := (qEx_eq (i := .iaload) rfl).trans qExA_chk
theorem x135_6  : qEx d 135 6 st ls σ μ la Q ↔ qEx d 135 7 (.int 1 :: st) ls σ μ la Q := (qEx_eq (i := .iconst 1) rfl).trans Iff.rfl
theorem x135_7 {x y : Int32} : qEx d 135 7 (.int y :: .int x :: st) ls σ μ la Q ↔ (if x = y then qEx d 135 14 st ls σ μ la Q else qEx d 135 10 st ls σ μ la Q) := (qEx_eq (i := .if_icmp .eq 7) rfl).trans qExA_ite
theorem x135_10  : qEx d 135 10 st ls σ μ la Q ↔ qEx d 135 11 (.int 1 :: st) ls σ μ la Q := (qEx_eq (i := .iconst 1) rfl).trans Iff.rfl
theorem x135_11  : qEx d 135 11 st ls σ μ la Q ↔ qEx d 135 15 st ls σ μ la Q := (qEx_eq (i := .goto 4) rfl).trans Iff.rfl
theorem x135_14  : qEx d 135 14 st ls σ μ la Q ↔ qEx d 135 15 (.int 0 :: st) ls σ μ la Q := (qEx_eq (i := .iconst 0) rfl).trans Iff.rfl
theorem x135_15 {x : Int32} {l0 l1 l2 l3 l4 : Value} : qEx d 135 15 (.int x :: st) [l0, l1, l2, l3, l4] σ μ la Q ↔ qEx d 135 16 st [l0, l1, l2, .int x, l4] σ μ la Q := (qEx_eq (i := .istore_n 3) rfl).trans Iff.rfl
theorem x135_16  : qEx d 135 16 st ls σ μ la Q ↔ qEx d 135 17 (.int 0 :: st) ls σ μ la Q := (qEx_eq (i := .iconst 0) rfl).trans Iff.rfl
theorem x135_17 {x : Int32} {l0 l1 l2 l3 l4 : Value} : qEx d 135 17 (.int x :: st) [l0, l1, l2, l3, l4] σ μ la Q ↔ qEx d 135 19 st [l0, l1, l2, l3, .int x] σ μ la Q := (qEx_eq (i := .istore 4) rfl).trans Iff.rfl
theorem x135_19 {x : Int32} {l0 l1 l2 l3 : Value} : qEx d 135 19 st [l0, l1, l2, l3, .int x] σ μ la Q ↔ qEx d 135 21 (.int x :: st) [l0, l1, l2, l3, .int x] σ μ la Q := (qEx_eq (i := .iload 4) rfl).trans Iff.rfl
theorem x135_21 {x : Nat} {l0 l2 l3 l4 : Value} : qEx d 135 21 st [l0, .ref x, l2, l3, l4] σ μ la Q ↔ qEx d 135 22 (.ref x :: st) [l0, .ref x, l2, l3, l4] σ μ la Q := (qEx_eq (i := .aload_n 1) rfl).trans Iff.rfl
theorem x135_22  : qEx d 135 22 st ls σ μ la Q ↔ qEx d 135 24 (.int 115 :: st) ls σ μ la Q := (qEx_eq (i := .bipush 115) rfl).trans Iff.rfl
theorem x135_24 {x : Int32} {a : Nat} : qEx d 135 24 (.int x :: .ref a :: st) ls σ μ la Q ↔ (qIn x (qIld σ μ a) = true ∧ qEx d 135 25 (.int (μ a x.toNatClampNeg) :: st) ls σ μ la Q) := (qEx_eq (i := .iaload) rfl).trans qExA_chk
theorem x135_25 {x y : Int32} : qEx d 135 25 (.int y :: .int x :: st) ls σ μ la Q ↔ (if y ≤ x then qEx d 135 54 st ls σ μ la Q else qEx d 135 28 st ls σ μ la Q) := (qEx_eq (i := .if_icmp .ge 29) rfl).trans qExA_ite
theorem x135_28 {x : Int32} {l0 l1 l2 l4 : Value} : qEx d 135 28 st [l0, l1, l2, .int x, l4] σ μ la Q ↔ qEx d 135 29 (.int x :: st) [l0, l1, l2, .int x, l4] σ μ la Q := (qEx_eq (i := .iload_n 3) rfl).trans Iff.rfl
theorem x135_29 {x : Int32} : qEx d 135 29 (.int x :: st) ls σ μ la Q ↔ (if x = 0 then qEx d 135 46 st ls σ μ la Q else qEx d 135 32 st ls σ μ la Q) := (qEx_eq (i := .ifCond .eq 17) rfl).trans qExA_ite
theorem x135_32 {x : Nat} {l0 l2 l3 l4 : Value} : qEx d 135 32 st [l0, .ref x, l2, l3, l4] σ μ la Q ↔ qEx d 135 33 (.ref x :: st) [l0, .ref x, l2, l3, l4] σ μ la Q := (qEx_eq (i := .aload_n 1) rfl).trans Iff.rfl
theorem x135_33  : qEx d 135 33 st ls σ μ la Q ↔ qEx d 135 34 (.int 1 :: st) ls σ μ la Q := (qEx_eq (i := .iconst 1) rfl).trans Iff.rfl
theorem x135_34 {x : Int32} {l0 l1 l2 l3 : Value} : qEx d 135 34 st [l0, l1, l2, l3, .int x] σ μ la Q ↔ qEx d 135 36 (.int x :: st) [l0, l1, l2, l3, .int x] σ μ la Q := (qEx_eq (i := .iload 4) rfl).trans Iff.rfl
theorem x135_36 {x y : Int32} : qEx d 135 36 (.int y :: .int x :: st) ls σ μ la Q ↔ qEx d 135 37 (.int (x + y) :: st) ls σ μ la Q := (qEx_eq (i := .iadd) rfl).trans Iff.rfl
theorem x135_37 {x : Int32} {a : Nat} : qEx d 135 37 (.int x :: .ref a :: st) ls σ μ la Q ↔ (qIn x (qIld σ μ a) = true ∧ qEx d 135 38 (.int (μ a x.toNatClampNeg) :: st) ls σ μ la Q) := (qEx_eq (i := .iaload) rfl).trans qExA_chk
theorem x135_38 {x : Int32} {l0 l1 l3 l4 : Value} : qEx d 135 38 st [l0, l1, .int x, l3, l4] σ μ la Q ↔ qEx d 135 39 (.int x :: st) [l0, l1, .int x, l3, l4] σ μ la Q := (qEx_eq (i := .iload_n 2) rfl).trans Iff.rfl
theorem x135_39 {x y : Int32} : qEx d 135 39 (.int y :: .int x :: st) ls σ μ la Q ↔ (if x = y then qEx d 135 46 st ls σ μ la Q else qEx d 135 42 st ls σ μ la Q) := (qEx_eq (i := .if_icmp .eq 7) rfl).trans qExA_ite
theorem x135_42  : qEx d 135 42 st ls σ μ la Q ↔ qEx d 135 43 (.int 1 :: st) ls σ μ la Q := (qEx_eq (i := .iconst 1) rfl).trans Iff.rfl
theorem x135_43  : qEx d 135 43 st ls σ μ la Q ↔ qEx d 135 47 st ls σ μ la Q := (qEx_eq (i := .goto 4) rfl).trans Iff.rfl
theorem x135_46  : qEx d 135 46 st ls σ μ la Q ↔ qEx d 135 47 (.int 0 :: st) ls σ μ la Q := (qEx_eq (i := .iconst 0) rfl).trans Iff.rfl
theorem x135_47 {x : Int32} {l0 l1 l2 l3 l4 : Value} : qEx d 135 47 (.int x :: st) [l0, l1, l2, l3, l4] σ μ la Q ↔ qEx d 135 48 st [l0, l1, l2, .int x, l4] σ μ la Q := (qEx_eq (i := .istore_n 3) rfl).trans Iff.rfl
theorem x135_48 {x : Int32} {l0 l1 l2 l3 : Value} : qEx d 135 48 st [l0, l1, l2, l3, .int x] σ μ la Q ↔ qEx d 135 51 st [l0, l1, l2, l3, .int (x + 1)] σ μ la Q := (qEx_eq (i := .iinc 4 1) rfl).trans Iff.rfl
theorem x135_51  : qEx d 135 51 st ls σ μ la Q ↔ qEx d 135 19 st ls σ μ la Q := (qEx_eq (i := .goto (-32)) rfl).trans Iff.rfl
theorem x135_54 {x : Int32} {l0 l1 l2 l4 : Value} : qEx d 135 54 st [l0, l1, l2, .int x, l4] σ μ la Q ↔ qEx d 135 55 (.int x :: st) [l0, l1, l2, .int x, l4] σ μ la Q := (qEx_eq (i := .iload_n 3) rfl).trans Iff.rfl
theorem x135_55 {x : Int32} : qEx d 135 55 [.int x] ls σ μ la Q ↔ ((x = 0 ∨ x = 1) ∧ Q (some (.int x)) σ μ la) := (qEx_eq (i := .ireturn) rfl).trans qExA_chk
theorem x136_0 {x : Nat} {l1 l2 l3 l4 l5 l6 l7 : Value} : qEx d 136 0 st [.ref x, l1, l2, l3, l4, l5, l6, l7] σ μ la Q ↔ qEx d 136 1 (.ref x :: st) [.ref x, l1, l2, l3, l4, l5, l6, l7] σ μ la Q := (qEx_eq (i := .aload_n 0) rfl).trans Iff.rfl
theorem x136_1 {a : Nat} : qEx d 136 1 (.ref a :: st) ls σ μ la Q ↔ (qOk σ a 7 = true ∧ qEx d 136 4 (qrf (σ.2 a 8) :: st) ls σ μ la Q) := (qEx_eq (i := .getfield 29) rfl).trans qExA_chk
theorem x136_4  : qEx d 136 4 st ls σ μ la Q ↔ qEx d 136 6 (.int 115 :: st) ls σ μ la Q := (qEx_eq (i := .bipush 115) rfl).trans Iff.rfl
theorem x136_6 {x : Int32} {a : Nat} : qEx d 136 6 (.int x :: .ref a :: st) ls σ μ la Q ↔ (qIn x (qIld σ μ a) = true ∧ qEx d 136 7 (.int (μ a x.toNatClampNeg) :: st) ls σ μ la Q) := (qEx_eq (i := .iaload) rfl).trans qExA_chk
theorem x136_7 {x : Int32} {l0 l1 l2 l3 l4 l5 l6 l7 : Value} : qEx d 136 7 (.int x :: st) [l0, l1, l2, l3, l4, l5, l6, l7] σ μ la Q ↔ qEx d 136 8 st [l0, .int x, l2, l3, l4, l5, l6, l7] σ μ la Q := (qEx_eq (i := .istore_n 1) rfl).trans Iff.rfl
theorem x136_8 {x : Nat} {l1 l2 l3 l4 l5 l6 l7 : Value} : qEx d 136 8 st [.ref x, l1, l2, l3, l4, l5, l6, l7] σ μ la Q ↔ qEx d 136 9 (.ref x :: st) [.ref x, l1, l2, l3, l4, l5, l6, l7] σ μ la Q := (qEx_eq (i := .aload_n 0) rfl).trans Iff.rfl
theorem x136_9 {a : Nat} : qEx (d + 1) 136 9 [.ref a] ls σ μ la Q ↔ (qOk σ a 7 = true ∧ qEx d 125 0 [] [.ref a] σ μ la fun r σ' μ' la' => qEx (d + 1) 136 12 (r.toList ++ []) ls σ' μ' la' Q) := (qEx_eq (i := .invokevirtual 74) rfl).trans qExA_chk
theorem x136_12 {y0 : Int32} : qEx (d + 1) 136 12 [.int y0] ls σ μ la Q ↔ qEx d 128 0 [] [.int y0] σ μ la fun r σ' μ' la' => qEx (d + 1) 136 15 (r.toList ++ []) ls σ' μ' la' Q := (qEx_eq (i := .invokestatic 89) rfl).trans Iff.rfl
theorem x136_15 {x : Int32} {l0 l1 l2 l3 l4 l5 l6 l7 : Value} : qEx d 136 15 (.int x :: st) [l0, l1, l2, l3, l4, l5, l6, l7] σ μ la Q ↔ qEx d 136 16 st [l0, l1, .int x, l3, l4, l5, l6, l7] σ μ la Q := (qEx_eq (i := .istore_n 2) rfl).trans Iff.rfl
theorem x136_16 {x : Int32} {l0 l1 l3 l4 l5 l6 l7 : Value} : qEx d 136 16 st [l0, l1, .int x, l3, l4, l5, l6, l7] σ μ la Q ↔ qEx d 136 17 (.int x :: st) [l0, l1, .int x, l3, l4, l5, l6, l7] σ μ la Q := (qEx_eq (i := .iload_n 2) rfl).trans Iff.rfl
theorem x136_17 {x : Int32} : qEx d 136 17 (.int x :: st) ls σ μ la Q ↔ (if x < 0 then qEx d 136 26 st ls σ μ la Q else qEx d 136 20 st ls σ μ la Q) := (qEx_eq (i := .ifCond .lt 9) rfl).trans qExA_ite
theorem x136_20 {x : Int32} {l0 l2 l3 l4 l5 l6 l7 : Value} : qEx d 136 20 st [l0, .int x, l2, l3, l4, l5, l6, l7] σ μ la Q ↔ qEx d 136 21 (.int x :: st) [l0, .int x, l2, l3, l4, l5, l6, l7] σ μ la Q := (qEx_eq (i := .iload_n 1) rfl).trans Iff.rfl
theorem x136_21  : qEx d 136 21 st ls σ μ la Q ↔ qEx d 136 23 (.int 6 :: st) ls σ μ la Q := (qEx_eq (i := .bipush 6) rfl).trans Iff.rfl
theorem x136_23 {x y : Int32} : qEx d 136 23 (.int y :: .int x :: st) ls σ μ la Q ↔ (if ¬ x = y then qEx d 136 28 st ls σ μ la Q else qEx d 136 26 st ls σ μ la Q) := (qEx_eq (i := .if_icmp .ne 5) rfl).trans qExA_ite
theorem x136_26  : qEx d 136 26 st ls σ μ la Q ↔ qEx d 136 27 (.int 0 :: st) ls σ μ la Q := (qEx_eq (i := .iconst 0) rfl).trans Iff.rfl
theorem x136_27 {x : Int32} : qEx d 136 27 [.int x] ls σ μ la Q ↔ ((x = 0 ∨ x = 1) ∧ Q (some (.int x)) σ μ la) := (qEx_eq (i := .ireturn) rfl).trans qExA_chk
theorem x136_28 {x : Nat} {l1 l2 l3 l4 l5 l6 l7 : Value} : qEx d 136 28 st [.ref x, l1, l2, l3, l4, l5, l6, l7] σ μ la Q ↔ qEx d 136 29 (.ref x :: st) [.ref x, l1, l2, l3, l4, l5, l6, l7] σ μ la Q := (qEx_eq (i := .aload_n 0) rfl).trans Iff.rfl
theorem x136_29 {x : Nat} : qEx d 136 29 (.ref x :: st) ls σ μ la Q ↔ qEx d 136 30 (.ref x :: .ref x :: st) ls σ μ la Q := (qEx_eq (i := .dup) rfl).trans Iff.rfl
theorem x136_30 {a : Nat} : qEx d 136 30 (.ref a :: st) ls σ μ la Q ↔ (qOk σ a 7 = true ∧ qEx d 136 33 (.int (μ a 5) :: st) ls σ μ la Q) := (qEx_eq (i := .getfield 71) rfl).trans qExA_chk
theorem x136_33  : qEx d 136 33 st ls σ μ la Q ↔ qEx d 136 34 (.int 1 :: st) ls σ μ la Q := (qEx_eq (i := .iconst 1) rfl).trans Iff.rfl
theorem x136_34 {x y : Int32} : qEx d 136 34 (.int y :: .int x :: st) ls σ μ la Q ↔ qEx d 136 35 (.int (x + y) :: st) ls σ μ la Q := (qEx_eq (i := .iadd) rfl).trans Iff.rfl
theorem x136_35 {x : Int32} {a : Nat} : qEx d 136 35 (.int x :: .ref a :: st) ls σ μ la Q ↔ (qOk σ a 7 = true ∧ qEx d 136 38 st ls σ (qset μ a 5 x) la Q) := (qEx_eq (i := .putfield 71) rfl).trans qExA_chk
theorem x136_38 {x : Nat} {l1 l2 l3 l4 l5 l6 l7 : Value} : qEx d 136 38 st [.ref x, l1, l2, l3, l4, l5, l6, l7] σ μ la Q ↔ qEx d 136 39 (.ref x :: st) [.ref x, l1, l2, l3, l4, l5, l6, l7] σ μ la Q := (qEx_eq (i := .aload_n 0) rfl).trans Iff.rfl
theorem x136_39 {a : Nat} : qEx d 136 39 (.ref a :: st) ls σ μ la Q ↔ (qOk σ a 7 = true ∧ qEx d 136 42 (.int (μ a 5) :: st) ls σ μ la Q) := (qEx_eq (i := .getfield 71) rfl).trans qExA_chk
theorem x136_42 {x : Int32} {l0 l1 l2 l3 l4 l5 l6 l7 : Value} : qEx d 136 42 (.int x :: st) [l0, l1, l2, l3, l4, l5, l6, l7] σ μ la Q ↔ qEx d 136 43 st [l0, l1, l2, .int x, l4, l5, l6, l7] σ μ la Q := (qEx_eq (i := .istore_n 3) rfl).trans Iff.rfl
theorem x136_43 {x : Nat} {l1 l2 l3 l4 l5 l6 l7 : Value} : qEx d 136 43 st [.ref x, l1, l2, l3, l4, l5, l6, l7] σ μ la Q ↔ qEx d 136 44 (.ref x :: st) [.ref x, l1, l2, l3, l4, l5, l6, l7] σ μ la Q := (qEx_eq (i := .aload_n 0) rfl).trans Iff.rfl
theorem x136_44 {x : Nat} {l1 l2 l3 l4 l5 l6 l7 : Value} : qEx d 136 44 st [.ref x, l1, l2, l3, l4, l5, l6, l7] σ μ la Q ↔ qEx d 136 45 (.ref x :: st) [.ref x, l1, l2, l3, l4, l5, l6, l7] σ μ la Q := (qEx_eq (i := .aload_n 0) rfl).trans Iff.rfl
theorem x136_45 {a : Nat} : qEx d 136 45 (.ref a :: st) ls σ μ la Q ↔ (qOk σ a 7 = true ∧ qEx d 136 48 (qrf (σ.2 a 8) :: st) ls σ μ la Q) := (qEx_eq (i := .getfield 29) rfl).trans qExA_chk
theorem x136_48  : qEx d 136 48 st ls σ μ la Q ↔ qEx d 136 50 (.int 113 :: st) ls σ μ la Q := (qEx_eq (i := .bipush 113) rfl).trans Iff.rfl
theorem x136_50 {x : Int32} {a : Nat} : qEx d 136 50 (.int x :: .ref a :: st) ls σ μ la Q ↔ (qIn x (qIld σ μ a) = true ∧ qEx d 136 51 (.int (μ a x.toNatClampNeg) :: st) ls σ μ la Q) := (qEx_eq (i := .iaload) rfl).trans qExA_chk
theorem x136_51 {y0 : Int32} {a : Nat} : qEx (d + 1) 136 51 [.int y0, .ref a] ls σ μ la Q ↔ (qOk σ a 7 = true ∧ qEx d 133 0 [] [.ref a, .int y0, .retAddr 0] σ μ la fun r σ' μ' la' => qEx (d + 1) 136 54 (r.toList ++ []) ls σ' μ' la' Q) := (qEx_eq (i := .invokevirtual 92) rfl).trans qExA_chk
theorem x136_54 {x : Int32} {l0 l1 l2 l3 l4 l5 l6 l7 : Value} : qEx d 136 54 (.int x :: st) [l0, l1, l2, l3, l4, l5, l6, l7] σ μ la Q ↔ qEx d 136 56 st [l0, l1, l2, l3, .int x, l5, l6, l7] σ μ la Q := (qEx_eq (i := .istore 4) rfl).trans Iff.rfl
theorem x136_56 {x : Int32} {l0 l1 l2 l3 l5 l6 l7 : Value} : qEx d 136 56 st [l0, l1, l2, l3, .int x, l5, l6, l7] σ μ la Q ↔ qEx d 136 58 (.int x :: st) [l0, l1, l2, l3, .int x, l5, l6, l7] σ μ la Q := (qEx_eq (i := .iload 4) rfl).trans Iff.rfl
theorem x136_58 {x : Int32} : qEx d 136 58 (.int x :: st) ls σ μ la Q ↔ (if 0 ≤ x then qEx d 136 63 st ls σ μ la Q else qEx d 136 61 st ls σ μ la Q) := (qEx_eq (i := .ifCond .ge 5) rfl).trans qExA_ite
theorem x136_61  : qEx d 136 61 st ls σ μ la Q ↔ qEx d 136 62 (.int 0 :: st) ls σ μ la Q := (qEx_eq (i := .iconst 0) rfl).trans Iff.rfl
theorem x136_62 {x : Int32} : qEx d 136 62 [.int x] ls σ μ la Q ↔ ((x = 0 ∨ x = 1) ∧ Q (some (.int x)) σ μ la) := (qEx_eq (i := .ireturn) rfl).trans qExA_chk
theorem x136_63 {x : Nat} {l1 l2 l3 l4 l5 l6 l7 : Value} : qEx d 136 63 st [.ref x, l1, l2, l3, l4, l5, l6, l7] σ μ la Q ↔ qEx d 136 64 (.ref x :: st) [.ref x, l1, l2, l3, l4, l5, l6, l7] σ μ la Q := (qEx_eq (i := .aload_n 0) rfl).trans Iff.rfl
theorem x136_64 {x : Nat} {l1 l2 l3 l4 l5 l6 l7 : Value} : qEx d 136 64 st [.ref x, l1, l2, l3, l4, l5, l6, l7] σ μ la Q ↔ qEx d 136 65 (.ref x :: st) [.ref x, l1, l2, l3, l4, l5, l6, l7] σ μ la Q := (qEx_eq (i := .aload_n 0) rfl).trans Iff.rfl
theorem x136_65 {a : Nat} : qEx d 136 65 (.ref a :: st) ls σ μ la Q ↔ (qOk σ a 7 = true ∧ qEx d 136 68 (qrf (σ.2 a 8) :: st) ls σ μ la Q) := (qEx_eq (i := .getfield 29) rfl).trans qExA_chk
theorem x136_68  : qEx d 136 68 st ls σ μ la Q ↔ qEx d 136 70 (.int 114 :: st) ls σ μ la Q := (qEx_eq (i := .bipush 114) rfl).trans Iff.rfl
theorem x136_70 {x : Int32} {a : Nat} : qEx d 136 70 (.int x :: .ref a :: st) ls σ μ la Q ↔ (qIn x (qIld σ μ a) = true ∧ qEx d 136 71 (.int (μ a x.toNatClampNeg) :: st) ls σ μ la Q) := (qEx_eq (i := .iaload) rfl).trans qExA_chk
theorem x136_71 {y0 : Int32} {a : Nat} : qEx (d + 1) 136 71 [.int y0, .ref a] ls σ μ la Q ↔ (qOk σ a 7 = true ∧ qEx d 133 0 [] [.ref a, .int y0, .retAddr 0] σ μ la fun r σ' μ' la' => qEx (d + 1) 136 74 (r.toList ++ []) ls σ' μ' la' Q) := (qEx_eq (i := .invokevirtual 92) rfl).trans qExA_chk
theorem x136_74 {x : Int32} {l0 l1 l2 l3 l4 l5 l6 l7 : Value} : qEx d 136 74 (.int x :: st) [l0, l1, l2, l3, l4, l5, l6, l7] σ μ la Q ↔ qEx d 136 76 st [l0, l1, l2, l3, l4, .int x, l6, l7] σ μ la Q := (qEx_eq (i := .istore 5) rfl).trans Iff.rfl
theorem x136_76 {x : Int32} {l0 l1 l2 l3 l4 l6 l7 : Value} : qEx d 136 76 st [l0, l1, l2, l3, l4, .int x, l6, l7] σ μ la Q ↔ qEx d 136 78 (.int x :: st) [l0, l1, l2, l3, l4, .int x, l6, l7] σ μ la Q := (qEx_eq (i := .iload 5) rfl).trans Iff.rfl
theorem x136_78 {x : Int32} : qEx d 136 78 (.int x :: st) ls σ μ la Q ↔ (if 0 ≤ x then qEx d 136 83 st ls σ μ la Q else qEx d 136 81 st ls σ μ la Q) := (qEx_eq (i := .ifCond .ge 5) rfl).trans qExA_ite
theorem x136_81  : qEx d 136 81 st ls σ μ la Q ↔ qEx d 136 82 (.int 0 :: st) ls σ μ la Q := (qEx_eq (i := .iconst 0) rfl).trans Iff.rfl
theorem x136_82 {x : Int32} : qEx d 136 82 [.int x] ls σ μ la Q ↔ ((x = 0 ∨ x = 1) ∧ Q (some (.int x)) σ μ la) := (qEx_eq (i := .ireturn) rfl).trans qExA_chk
theorem x136_83 {x : Nat} {l1 l2 l3 l4 l5 l6 l7 : Value} : qEx d 136 83 st [.ref x, l1, l2, l3, l4, l5, l6, l7] σ μ la Q ↔ qEx d 136 84 (.ref x :: st) [.ref x, l1, l2, l3, l4, l5, l6, l7] σ μ la Q := (qEx_eq (i := .aload_n 0) rfl).trans Iff.rfl
theorem x136_84 {x : Nat} {l1 l2 l3 l4 l5 l6 l7 : Value} : qEx d 136 84 st [.ref x, l1, l2, l3, l4, l5, l6, l7] σ μ la Q ↔ qEx d 136 85 (.ref x :: st) [.ref x, l1, l2, l3, l4, l5, l6, l7] σ μ la Q := (qEx_eq (i := .aload_n 0) rfl).trans Iff.rfl
theorem x136_85 {a : Nat} : qEx d 136 85 (.ref a :: st) ls σ μ la Q ↔ (qOk σ a 7 = true ∧ qEx d 136 88 (qrf (σ.2 a 8) :: st) ls σ μ la Q) := (qEx_eq (i := .getfield 29) rfl).trans qExA_chk
theorem x136_88  : qEx d 136 88 st ls σ μ la Q ↔ qEx d 136 90 (.int 8 :: st) ls σ μ la Q := (qEx_eq (i := .bipush 8) rfl).trans Iff.rfl
theorem x136_90 {x : Int32} {l0 l1 l2 l3 l4 l6 l7 : Value} : qEx d 136 90 st [l0, l1, l2, l3, l4, .int x, l6, l7] σ μ la Q ↔ qEx d 136 92 (.int x :: st) [l0, l1, l2, l3, l4, .int x, l6, l7] σ μ la Q := (qEx_eq (i := .iload 5) rfl).trans Iff.rfl
theorem x136_92 {x y : Int32} : qEx d 136 92 (.int y :: .int x :: st) ls σ μ la Q ↔ qEx d 136 93 (.int (x * y) :: st) ls σ μ la Q := (qEx_eq (i := .imul) rfl).trans Iff.rfl
theorem x136_93 {x : Int32} {l0 l1 l2 l3 l5 l6 l7 : Value} : qEx d 136 93 st [l0, l1, l2, l3, .int x, l5, l6, l7] σ μ la Q ↔ qEx d 136 95 (.int x :: st) [l0, l1, l2, l3, .int x, l5, l6, l7] σ μ la Q := (qEx_eq (i := .iload 4) rfl).trans Iff.rfl
theorem x136_95 {x y : Int32} : qEx d 136 95 (.int y :: .int x :: st) ls σ μ la Q ↔ qEx d 136 96 (.int (x + y) :: st) ls σ μ la Q := (qEx_eq (i := .iadd) rfl).trans Iff.rfl
theorem x136_96 {y0 : Nat} {y1 : Int32} {a : Nat} : qEx (d + 1) 136 96 [.int y1, .ref y0, .ref a] ls σ μ la Q ↔ (qOk σ a 7 = true ∧ qEx d 135 0 [] [.ref a, .ref y0, .int y1, .retAddr 0, .retAddr 0] σ μ la fun r σ' μ' la' => qEx (d + 1) 136 99 (r.toList ++ []) ls σ' μ' la' Q) := (qEx_eq (i := .invokevirtual 95) rfl).trans qExA_chk
theorem x136_99 {x : Int32} : qEx d 136 99 (.int x :: st) ls σ μ la Q ↔ (if ¬ x = 0 then qEx d 136 109 st ls σ μ la Q else qEx d 136 102 st ls σ μ la Q) := (qEx_eq (i := .ifCond .ne 10) rfl).trans qExA_ite
theorem x136_102 {x : Nat} {l1 l2 l3 l4 l5 l6 l7 : Value} : qEx d 136 102 st [.ref x, l1, l2, l3, l4, l5, l6, l7] σ μ la Q ↔ qEx d 136 103 (.ref x :: st) [.ref x, l1, l2, l3, l4, l5, l6, l7] σ μ la Q := (qEx_eq (i := .aload_n 0) rfl).trans Iff.rfl
theorem x136_103 {x : Int32} {l0 l1 l2 l4 l5 l6 l7 : Value} : qEx d 136 103 st [l0, l1, l2, .int x, l4, l5, l6, l7] σ μ la Q ↔ qEx d 136 104 (.int x :: st) [l0, l1, l2, .int x, l4, l5, l6, l7] σ μ la Q := (qEx_eq (i := .iload_n 3) rfl).trans Iff.rfl
theorem x136_104 {x : Int32} {a : Nat} : qEx d 136 104 (.int x :: .ref a :: st) ls σ μ la Q ↔ (qOk σ a 7 = true ∧ qEx d 136 107 st ls σ (qset μ a 5 x) la Q) := (qEx_eq (i := .putfield 71) rfl).trans qExA_chk
theorem x136_107  : qEx d 136 107 st ls σ μ la Q ↔ qEx d 136 108 (.int 0 :: st) ls σ μ la Q := (qEx_eq (i := .iconst 0) rfl).trans Iff.rfl
theorem x136_108 {x : Int32} : qEx d 136 108 [.int x] ls σ μ la Q ↔ ((x = 0 ∨ x = 1) ∧ Q (some (.int x)) σ μ la) := (qEx_eq (i := .ireturn) rfl).trans qExA_chk
theorem x136_109 {x : Nat} {l1 l2 l3 l4 l5 l6 l7 : Value} : qEx d 136 109 st [.ref x, l1, l2, l3, l4, l5, l6, l7] σ μ la Q ↔ qEx d 136 110 (.ref x :: st) [.ref x, l1, l2, l3, l4, l5, l6, l7] σ μ la Q := (qEx_eq (i := .aload_n 0) rfl).trans Iff.rfl
theorem x136_110 {a : Nat} : qEx (d + 1) 136 110 [.ref a] ls σ μ la Q ↔ (qOk σ a 7 = true ∧ qEx d 125 0 [] [.ref a] σ μ la fun r σ' μ' la' => qEx (d + 1) 136 113 (r.toList ++ []) ls σ' μ' la' Q) := (qEx_eq (i := .invokevirtual 74) rfl).trans qExA_chk
theorem x136_113 {y0 : Int32} : qEx (d + 1) 136 113 [.int y0] ls σ μ la Q ↔ qEx d 129 0 [] [.int y0] σ μ la fun r σ' μ' la' => qEx (d + 1) 136 116 (r.toList ++ []) ls σ' μ' la' Q := (qEx_eq (i := .invokestatic 99) rfl).trans Iff.rfl
theorem x136_116 {x : Int32} {l0 l1 l2 l3 l4 l5 l6 l7 : Value} : qEx d 136 116 (.int x :: st) [l0, l1, l2, l3, l4, l5, l6, l7] σ μ la Q ↔ qEx d 136 118 st [l0, l1, l2, l3, l4, l5, .int x, l7] σ μ la Q := (qEx_eq (i := .istore 6) rfl).trans Iff.rfl
theorem x136_118 {x : Int32} {l0 l1 l2 l3 l4 l5 l7 : Value} : qEx d 136 118 st [l0, l1, l2, l3, l4, l5, .int x, l7] σ μ la Q ↔ qEx d 136 120 (.int x :: st) [l0, l1, l2, l3, l4, l5, .int x, l7] σ μ la Q := (qEx_eq (i := .iload 6) rfl).trans Iff.rfl
theorem x136_120 {x : Int32} : qEx d 136 120 (.int x :: st) ls σ μ la Q ↔ (if 0 ≤ x then qEx d 136 125 st ls σ μ la Q else qEx d 136 123 st ls σ μ la Q) := (qEx_eq (i := .ifCond .ge 5) rfl).trans qExA_ite
theorem x136_123  : qEx d 136 123 st ls σ μ la Q ↔ qEx d 136 124 (.int 0 :: st) ls σ μ la Q := (qEx_eq (i := .iconst 0) rfl).trans Iff.rfl
theorem x136_124 {x : Int32} : qEx d 136 124 [.int x] ls σ μ la Q ↔ ((x = 0 ∨ x = 1) ∧ Q (some (.int x)) σ μ la) := (qEx_eq (i := .ireturn) rfl).trans qExA_chk
theorem x136_125 {x : Nat} {l1 l2 l3 l4 l5 l6 l7 : Value} : qEx d 136 125 st [.ref x, l1, l2, l3, l4, l5, l6, l7] σ μ la Q ↔ qEx d 136 126 (.ref x :: st) [.ref x, l1, l2, l3, l4, l5, l6, l7] σ μ la Q := (qEx_eq (i := .aload_n 0) rfl).trans Iff.rfl
theorem x136_126 {x : Nat} : qEx d 136 126 (.ref x :: st) ls σ μ la Q ↔ qEx d 136 127 (.ref x :: .ref x :: st) ls σ μ la Q := (qEx_eq (i := .dup) rfl).trans Iff.rfl
theorem x136_127 {a : Nat} : qEx d 136 127 (.ref a :: st) ls σ μ la Q ↔ (qOk σ a 7 = true ∧ qEx d 136 130 (.int (μ a 5) :: st) ls σ μ la Q) := (qEx_eq (i := .getfield 71) rfl).trans qExA_chk
theorem x136_130  : qEx d 136 130 st ls σ μ la Q ↔ qEx d 136 131 (.int 1 :: st) ls σ μ la Q := (qEx_eq (i := .iconst 1) rfl).trans Iff.rfl
theorem x136_131 {x y : Int32} : qEx d 136 131 (.int y :: .int x :: st) ls σ μ la Q ↔ qEx d 136 132 (.int (x + y) :: st) ls σ μ la Q := (qEx_eq (i := .iadd) rfl).trans Iff.rfl
theorem x136_132 {x : Int32} {a : Nat} : qEx d 136 132 (.int x :: .ref a :: st) ls σ μ la Q ↔ (qOk σ a 7 = true ∧ qEx d 136 135 st ls σ (qset μ a 5 x) la Q) := (qEx_eq (i := .putfield 71) rfl).trans qExA_chk
theorem x136_135 {x : Nat} {l1 l2 l3 l4 l5 l6 l7 : Value} : qEx d 136 135 st [.ref x, l1, l2, l3, l4, l5, l6, l7] σ μ la Q ↔ qEx d 136 136 (.ref x :: st) [.ref x, l1, l2, l3, l4, l5, l6, l7] σ μ la Q := (qEx_eq (i := .aload_n 0) rfl).trans Iff.rfl
theorem x136_136 {a : Nat} : qEx (d + 1) 136 136 [.ref a] ls σ μ la Q ↔ (qOk σ a 7 = true ∧ qEx d 134 0 [] [.ref a, .retAddr 0, .retAddr 0, .retAddr 0] σ μ la fun r σ' μ' la' => qEx (d + 1) 136 139 (r.toList ++ []) ls σ' μ' la' Q) := (qEx_eq (i := .invokevirtual 102) rfl).trans qExA_chk
theorem x136_139 {x : Int32} {l0 l1 l2 l3 l4 l5 l6 l7 : Value} : qEx d 136 139 (.int x :: st) [l0, l1, l2, l3, l4, l5, l6, l7] σ μ la Q ↔ qEx d 136 141 st [l0, l1, l2, l3, l4, l5, l6, .int x] σ μ la Q := (qEx_eq (i := .istore 7) rfl).trans Iff.rfl
theorem x136_141 {x : Int32} {l0 l1 l2 l3 l4 l5 l6 : Value} : qEx d 136 141 st [l0, l1, l2, l3, l4, l5, l6, .int x] σ μ la Q ↔ qEx d 136 143 (.int x :: st) [l0, l1, l2, l3, l4, l5, l6, .int x] σ μ la Q := (qEx_eq (i := .iload 7) rfl).trans Iff.rfl
theorem x136_143 {x : Int32} : qEx d 136 143 (.int x :: st) ls σ μ la Q ↔ (if 0 ≤ x then qEx d 136 148 st ls σ μ la Q else qEx d 136 146 st ls σ μ la Q) := (qEx_eq (i := .ifCond .ge 5) rfl).trans qExA_ite
theorem x136_146  : qEx d 136 146 st ls σ μ la Q ↔ qEx d 136 147 (.int 0 :: st) ls σ μ la Q := (qEx_eq (i := .iconst 0) rfl).trans Iff.rfl
theorem x136_147 {x : Int32} : qEx d 136 147 [.int x] ls σ μ la Q ↔ ((x = 0 ∨ x = 1) ∧ Q (some (.int x)) σ μ la) := (qEx_eq (i := .ireturn) rfl).trans qExA_chk
theorem x136_148 {x : Nat} {l1 l2 l3 l4 l5 l6 l7 : Value} : qEx d 136 148 st [.ref x, l1, l2, l3, l4, l5, l6, l7] σ μ la Q ↔ qEx d 136 149 (.ref x :: st) [.ref x, l1, l2, l3, l4, l5, l6, l7] σ μ la Q := (qEx_eq (i := .aload_n 0) rfl).trans Iff.rfl
theorem x136_149 {a : Nat} : qEx d 136 149 (.ref a :: st) ls σ μ la Q ↔ (qOk σ a 7 = true ∧ qEx d 136 152 (qrf (σ.2 a 8) :: st) ls σ μ la Q) := (qEx_eq (i := .getfield 29) rfl).trans qExA_chk
theorem x136_152  : qEx d 136 152 st ls σ μ la Q ↔ qEx d 136 154 (.int 118 :: st) ls σ μ la Q := (qEx_eq (i := .bipush 118) rfl).trans Iff.rfl
theorem x136_154 {x : Int32} {l0 l2 l3 l4 l5 l6 l7 : Value} : qEx d 136 154 st [l0, .int x, l2, l3, l4, l5, l6, l7] σ μ la Q ↔ qEx d 136 155 (.int x :: st) [l0, .int x, l2, l3, l4, l5, l6, l7] σ μ la Q := (qEx_eq (i := .iload_n 1) rfl).trans Iff.rfl
theorem x136_155 {x y : Int32} : qEx d 136 155 (.int y :: .int x :: st) ls σ μ la Q ↔ qEx d 136 156 (.int (x + y) :: st) ls σ μ la Q := (qEx_eq (i := .iadd) rfl).trans Iff.rfl
theorem x136_156 {x : Int32} {l0 l1 l3 l4 l5 l6 l7 : Value} : qEx d 136 156 st [l0, l1, .int x, l3, l4, l5, l6, l7] σ μ la Q ↔ qEx d 136 157 (.int x :: st) [l0, l1, .int x, l3, l4, l5, l6, l7] σ μ la Q := (qEx_eq (i := .iload_n 2) rfl).trans Iff.rfl
theorem x136_157 {x y : Int32} {a : Nat} : qEx d 136 157 (.int y :: .int x :: .ref a :: st) ls σ μ la Q ↔ (qIn x (qLen σ 10 a) = true ∧ qEx d 136 158 st ls σ (qset μ a x.toNatClampNeg y) la Q) := (qEx_eq (i := .iastore) rfl).trans qExA_chk
theorem x136_158 {x : Nat} {l1 l2 l3 l4 l5 l6 l7 : Value} : qEx d 136 158 st [.ref x, l1, l2, l3, l4, l5, l6, l7] σ μ la Q ↔ qEx d 136 159 (.ref x :: st) [.ref x, l1, l2, l3, l4, l5, l6, l7] σ μ la Q := (qEx_eq (i := .aload_n 0) rfl).trans Iff.rfl
theorem x136_159 {a : Nat} : qEx d 136 159 (.ref a :: st) ls σ μ la Q ↔ (qOk σ a 7 = true ∧ qEx d 136 162 (qrf (σ.2 a 8) :: st) ls σ μ la Q) := (qEx_eq (i := .getfield 29) rfl).trans qExA_chk
theorem x136_162  : qEx d 136 162 st ls σ μ la Q ↔ qEx d 136 163 (.int 1 :: st) ls σ μ la Q := (qEx_eq (i := .iconst 1) rfl).trans Iff.rfl
theorem x136_163 {x : Int32} {l0 l2 l3 l4 l5 l6 l7 : Value} : qEx d 136 163 st [l0, .int x, l2, l3, l4, l5, l6, l7] σ μ la Q ↔ qEx d 136 164 (.int x :: st) [l0, .int x, l2, l3, l4, l5, l6, l7] σ μ la Q := (qEx_eq (i := .iload_n 1) rfl).trans Iff.rfl
theorem x136_164 {x y : Int32} : qEx d 136 164 (.int y :: .int x :: st) ls σ μ la Q ↔ qEx d 136 165 (.int (x + y) :: st) ls σ μ la Q := (qEx_eq (i := .iadd) rfl).trans Iff.rfl
theorem x136_165  : qEx d 136 165 st ls σ μ la Q ↔ qEx d 136 167 (.int 8 :: st) ls σ μ la Q := (qEx_eq (i := .bipush 8) rfl).trans Iff.rfl
theorem x136_167 {x : Int32} {l0 l1 l2 l3 l4 l6 l7 : Value} : qEx d 136 167 st [l0, l1, l2, l3, l4, .int x, l6, l7] σ μ la Q ↔ qEx d 136 169 (.int x :: st) [l0, l1, l2, l3, l4, .int x, l6, l7] σ μ la Q := (qEx_eq (i := .iload 5) rfl).trans Iff.rfl
theorem x136_169 {x y : Int32} : qEx d 136 169 (.int y :: .int x :: st) ls σ μ la Q ↔ qEx d 136 170 (.int (x * y) :: st) ls σ μ la Q := (qEx_eq (i := .imul) rfl).trans Iff.rfl
theorem x136_170 {x : Int32} {l0 l1 l2 l3 l5 l6 l7 : Value} : qEx d 136 170 st [l0, l1, l2, l3, .int x, l5, l6, l7] σ μ la Q ↔ qEx d 136 172 (.int x :: st) [l0, l1, l2, l3, .int x, l5, l6, l7] σ μ la Q := (qEx_eq (i := .iload 4) rfl).trans Iff.rfl
theorem x136_172 {x y : Int32} : qEx d 136 172 (.int y :: .int x :: st) ls σ μ la Q ↔ qEx d 136 173 (.int (x + y) :: st) ls σ μ la Q := (qEx_eq (i := .iadd) rfl).trans Iff.rfl
theorem x136_173 {x y : Int32} {a : Nat} : qEx d 136 173 (.int y :: .int x :: .ref a :: st) ls σ μ la Q ↔ (qIn x (qLen σ 10 a) = true ∧ qEx d 136 174 st ls σ (qset μ a x.toNatClampNeg y) la Q) := (qEx_eq (i := .iastore) rfl).trans qExA_chk
theorem x136_174 {x : Nat} {l1 l2 l3 l4 l5 l6 l7 : Value} : qEx d 136 174 st [.ref x, l1, l2, l3, l4, l5, l6, l7] σ μ la Q ↔ qEx d 136 175 (.ref x :: st) [.ref x, l1, l2, l3, l4, l5, l6, l7] σ μ la Q := (qEx_eq (i := .aload_n 0) rfl).trans Iff.rfl
theorem x136_175 {a : Nat} : qEx d 136 175 (.ref a :: st) ls σ μ la Q ↔ (qOk σ a 7 = true ∧ qEx d 136 178 (qrf (σ.2 a 8) :: st) ls σ μ la Q) := (qEx_eq (i := .getfield 29) rfl).trans qExA_chk
theorem x136_178  : qEx d 136 178 st ls σ μ la Q ↔ qEx d 136 180 (.int 7 :: st) ls σ μ la Q := (qEx_eq (i := .bipush 7) rfl).trans Iff.rfl
theorem x136_180 {x : Int32} {l0 l2 l3 l4 l5 l6 l7 : Value} : qEx d 136 180 st [l0, .int x, l2, l3, l4, l5, l6, l7] σ μ la Q ↔ qEx d 136 181 (.int x :: st) [l0, .int x, l2, l3, l4, l5, l6, l7] σ μ la Q := (qEx_eq (i := .iload_n 1) rfl).trans Iff.rfl
theorem x136_181 {x y : Int32} : qEx d 136 181 (.int y :: .int x :: st) ls σ μ la Q ↔ qEx d 136 182 (.int (x + y) :: st) ls σ μ la Q := (qEx_eq (i := .iadd) rfl).trans Iff.rfl
theorem x136_182 {x : Int32} {l0 l1 l2 l3 l4 l5 l7 : Value} : qEx d 136 182 st [l0, l1, l2, l3, l4, l5, .int x, l7] σ μ la Q ↔ qEx d 136 184 (.int x :: st) [l0, l1, l2, l3, l4, l5, .int x, l7] σ μ la Q := (qEx_eq (i := .iload 6) rfl).trans Iff.rfl
theorem x136_184 {x y : Int32} {a : Nat} : qEx d 136 184 (.int y :: .int x :: .ref a :: st) ls σ μ la Q ↔ (qIn x (qLen σ 10 a) = true ∧ qEx d 136 185 st ls σ (qset μ a x.toNatClampNeg y) la Q) := (qEx_eq (i := .iastore) rfl).trans qExA_chk
theorem x136_185 {x : Nat} {l1 l2 l3 l4 l5 l6 l7 : Value} : qEx d 136 185 st [.ref x, l1, l2, l3, l4, l5, l6, l7] σ μ la Q ↔ qEx d 136 186 (.ref x :: st) [.ref x, l1, l2, l3, l4, l5, l6, l7] σ μ la Q := (qEx_eq (i := .aload_n 0) rfl).trans Iff.rfl
theorem x136_186 {a : Nat} : qEx d 136 186 (.ref a :: st) ls σ μ la Q ↔ (qOk σ a 7 = true ∧ qEx d 136 189 (qrf (σ.2 a 8) :: st) ls σ μ la Q) := (qEx_eq (i := .getfield 29) rfl).trans qExA_chk
theorem x136_189  : qEx d 136 189 st ls σ μ la Q ↔ qEx d 136 191 (.int 13 :: st) ls σ μ la Q := (qEx_eq (i := .bipush 13) rfl).trans Iff.rfl
theorem x136_191 {x : Int32} {l0 l2 l3 l4 l5 l6 l7 : Value} : qEx d 136 191 st [l0, .int x, l2, l3, l4, l5, l6, l7] σ μ la Q ↔ qEx d 136 192 (.int x :: st) [l0, .int x, l2, l3, l4, l5, l6, l7] σ μ la Q := (qEx_eq (i := .iload_n 1) rfl).trans Iff.rfl
theorem x136_192 {x y : Int32} : qEx d 136 192 (.int y :: .int x :: st) ls σ μ la Q ↔ qEx d 136 193 (.int (x + y) :: st) ls σ μ la Q := (qEx_eq (i := .iadd) rfl).trans Iff.rfl
theorem x136_193 {x : Int32} {l0 l1 l2 l3 l4 l5 l6 : Value} : qEx d 136 193 st [l0, l1, l2, l3, l4, l5, l6, .int x] σ μ la Q ↔ qEx d 136 195 (.int x :: st) [l0, l1, l2, l3, l4, l5, l6, .int x] σ μ la Q := (qEx_eq (i := .iload 7) rfl).trans Iff.rfl
theorem x136_195 {x y : Int32} {a : Nat} : qEx d 136 195 (.int y :: .int x :: .ref a :: st) ls σ μ la Q ↔ (qIn x (qLen σ 10 a) = true ∧ qEx d 136 196 st ls σ (qset μ a x.toNatClampNeg y) la Q) := (qEx_eq (i := .iastore) rfl).trans qExA_chk
theorem x136_196 {x : Nat} {l1 l2 l3 l4 l5 l6 l7 : Value} : qEx d 136 196 st [.ref x, l1, l2, l3, l4, l5, l6, l7] σ μ la Q ↔ qEx d 136 197 (.ref x :: st) [.ref x, l1, l2, l3, l4, l5, l6, l7] σ μ la Q := (qEx_eq (i := .aload_n 0) rfl).trans Iff.rfl
theorem x136_197 {a : Nat} : qEx d 136 197 (.ref a :: st) ls σ μ la Q ↔ (qOk σ a 7 = true ∧ qEx d 136 200 (qrf (σ.2 a 8) :: st) ls σ μ la Q) := (qEx_eq (i := .getfield 29) rfl).trans qExA_chk
theorem x136_200  : qEx d 136 200 st ls σ μ la Q ↔ qEx d 136 202 (.int 115 :: st) ls σ μ la Q := (qEx_eq (i := .bipush 115) rfl).trans Iff.rfl
theorem x136_202 {x : Int32} {y : Nat} : qEx d 136 202 (.int x :: .ref y :: st) ls σ μ la Q ↔ qEx d 136 203 (.int x :: .ref y :: .int x :: .ref y :: st) ls σ μ la Q := (qEx_eq (i := .dup2) rfl).trans Iff.rfl
theorem x136_203 {x : Int32} {a : Nat} : qEx d 136 203 (.int x :: .ref a :: st) ls σ μ la Q ↔ (qIn x (qIld σ μ a) = true ∧ qEx d 136 204 (.int (μ a x.toNatClampNeg) :: st) ls σ μ la Q) := (qEx_eq (i := .iaload) rfl).trans qExA_chk
theorem x136_204  : qEx d 136 204 st ls σ μ la Q ↔ qEx d 136 205 (.int 1 :: st) ls σ μ la Q := (qEx_eq (i := .iconst 1) rfl).trans Iff.rfl
theorem x136_205 {x y : Int32} : qEx d 136 205 (.int y :: .int x :: st) ls σ μ la Q ↔ qEx d 136 206 (.int (x + y) :: st) ls σ μ la Q := (qEx_eq (i := .iadd) rfl).trans Iff.rfl
theorem x136_206 {x y : Int32} {a : Nat} : qEx d 136 206 (.int y :: .int x :: .ref a :: st) ls σ μ la Q ↔ (qIn x (qLen σ 10 a) = true ∧ qEx d 136 207 st ls σ (qset μ a x.toNatClampNeg y) la Q) := (qEx_eq (i := .iastore) rfl).trans qExA_chk
theorem x136_207 {x : Nat} {l1 l2 l3 l4 l5 l6 l7 : Value} : qEx d 136 207 st [.ref x, l1, l2, l3, l4, l5, l6, l7] σ μ la Q ↔ qEx d 136 208 (.ref x :: st) [.ref x, l1, l2, l3, l4, l5, l6, l7] σ μ la Q := (qEx_eq (i := .aload_n 0) rfl).trans Iff.rfl
theorem x136_208  : qEx d 136 208 st ls σ μ la Q ↔ qEx d 136 210 (.int 59 :: st) ls σ μ la Q := (qEx_eq (i := .bipush 59) rfl).trans Iff.rfl
theorem x136_210 {y0 : Int32} {a : Nat} : qEx (d + 1) 136 210 [.int y0, .ref a] ls σ μ la Q ↔ (qOk σ a 7 = true ∧ qEx d 126 0 [] [.ref a, .int y0] σ μ la fun r σ' μ' la' => qEx (d + 1) 136 213 (r.toList ++ []) ls σ' μ' la' Q) := (qEx_eq (i := .invokevirtual 78) rfl).trans qExA_chk
theorem x136_213 {x : Int32} : qEx d 136 213 [.int x] ls σ μ la Q ↔ ((x = 0 ∨ x = 1) ∧ Q (some (.int x)) σ μ la) := (qEx_eq (i := .ireturn) rfl).trans qExA_chk
theorem x137_0  : qEx d 137 0 st ls σ μ la Q ↔ qEx d 137 1 (.int 0 :: st) ls σ μ la Q := (qEx_eq (i := .iconst 0) rfl).trans Iff.rfl
theorem x137_1 {x : Int32} {l0 l1 : Value} : qEx d 137 1 (.int x :: st) [l0, l1] σ μ la Q ↔ qEx d 137 2 st [l0, .int x] σ μ la Q := (qEx_eq (i := .istore_n 1) rfl).trans Iff.rfl
theorem x137_2 {x : Int32} {l0 : Value} : qEx d 137 2 st [l0, .int x] σ μ la Q ↔ qEx d 137 3 (.int x :: st) [l0, .int x] σ μ la Q := (qEx_eq (i := .iload_n 1) rfl).trans Iff.rfl
theorem x137_3  : qEx d 137 3 st ls σ μ la Q ↔ qEx d 137 5 (.int 124 :: st) ls σ μ la Q := (qEx_eq (i := .bipush 124) rfl).trans Iff.rfl
theorem x137_5 {x y : Int32} : qEx d 137 5 (.int y :: .int x :: st) ls σ μ la Q ↔ (if y ≤ x then qEx d 137 21 st ls σ μ la Q else qEx d 137 8 st ls σ μ la Q) := (qEx_eq (i := .if_icmp .ge 16) rfl).trans qExA_ite
theorem x137_8 {x : Nat} {l1 : Value} : qEx d 137 8 st [.ref x, l1] σ μ la Q ↔ qEx d 137 9 (.ref x :: st) [.ref x, l1] σ μ la Q := (qEx_eq (i := .aload_n 0) rfl).trans Iff.rfl
theorem x137_9 {a : Nat} : qEx d 137 9 (.ref a :: st) ls σ μ la Q ↔ (qOk σ a 7 = true ∧ qEx d 137 12 (qrf (σ.2 a 8) :: st) ls σ μ la Q) := (qEx_eq (i := .getfield 29) rfl).trans qExA_chk
theorem x137_12 {x : Int32} {l0 : Value} : qEx d 137 12 st [l0, .int x] σ μ la Q ↔ qEx d 137 13 (.int x :: st) [l0, .int x] σ μ la Q := (qEx_eq (i := .iload_n 1) rfl).trans Iff.rfl
theorem x137_13  : qEx d 137 13 st ls σ μ la Q ↔ qEx d 137 14 (.int 0 :: st) ls σ μ la Q := (qEx_eq (i := .iconst 0) rfl).trans Iff.rfl
theorem x137_14 {x y : Int32} {a : Nat} : qEx d 137 14 (.int y :: .int x :: .ref a :: st) ls σ μ la Q ↔ (qIn x (qLen σ 10 a) = true ∧ qEx d 137 15 st ls σ (qset μ a x.toNatClampNeg y) la Q) := (qEx_eq (i := .iastore) rfl).trans qExA_chk
theorem x137_15 {x : Int32} {l0 : Value} : qEx d 137 15 st [l0, .int x] σ μ la Q ↔ qEx d 137 18 st [l0, .int (x + 1)] σ μ la Q := (qEx_eq (i := .iinc 1 1) rfl).trans Iff.rfl
theorem x137_18  : qEx d 137 18 st ls σ μ la Q ↔ qEx d 137 2 st ls σ μ la Q := (qEx_eq (i := .goto (-16)) rfl).trans Iff.rfl
theorem x137_21 {x : Nat} {l1 : Value} : qEx d 137 21 st [.ref x, l1] σ μ la Q ↔ qEx d 137 22 (.ref x :: st) [.ref x, l1] σ μ la Q := (qEx_eq (i := .aload_n 0) rfl).trans Iff.rfl
theorem x137_22  : qEx d 137 22 st ls σ μ la Q ↔ qEx d 137 23 (.int 0 :: st) ls σ μ la Q := (qEx_eq (i := .iconst 0) rfl).trans Iff.rfl
theorem x137_23 {x : Int32} {a : Nat} : qEx d 137 23 (.int x :: .ref a :: st) ls σ μ la Q ↔ (qOk σ a 7 = true ∧ qEx d 137 26 st ls σ (qset μ a 5 x) la Q) := (qEx_eq (i := .putfield 71) rfl).trans qExA_chk
theorem x137_26 {x : Nat} {l1 : Value} : qEx d 137 26 st [.ref x, l1] σ μ la Q ↔ qEx d 137 27 (.ref x :: st) [.ref x, l1] σ μ la Q := (qEx_eq (i := .aload_n 0) rfl).trans Iff.rfl
theorem x137_27 {a : Nat} : qEx (d + 1) 137 27 [.ref a] ls σ μ la Q ↔ (qOk σ a 7 = true ∧ qEx d 130 0 [] [.ref a, .retAddr 0, .retAddr 0] σ μ la fun r σ' μ' la' => qEx (d + 1) 137 30 (r.toList ++ []) ls σ' μ' la' Q) := (qEx_eq (i := .invokevirtual 105) rfl).trans qExA_chk
theorem x137_30 {x : Int32} : qEx d 137 30 (.int x :: st) ls σ μ la Q ↔ (if x = 0 then qEx d 137 40 st ls σ μ la Q else qEx d 137 33 st ls σ μ la Q) := (qEx_eq (i := .ifCond .eq 10) rfl).trans qExA_ite
theorem x137_33 {x : Nat} {l1 : Value} : qEx d 137 33 st [.ref x, l1] σ μ la Q ↔ qEx d 137 34 (.ref x :: st) [.ref x, l1] σ μ la Q := (qEx_eq (i := .aload_n 0) rfl).trans Iff.rfl
theorem x137_34 {a : Nat} : qEx (d + 1) 137 34 [.ref a] ls σ μ la Q ↔ (qOk σ a 7 = true ∧ qEx d 132 0 [] [.ref a, .retAddr 0] σ μ la fun r σ' μ' la' => qEx (d + 1) 137 37 (r.toList ++ []) ls σ' μ' la' Q) := (qEx_eq (i := .invokevirtual 109) rfl).trans qExA_chk
theorem x137_37 {x : Int32} : qEx d 137 37 (.int x :: st) ls σ μ la Q ↔ (if ¬ x = 0 then qEx d 137 42 st ls σ μ la Q else qEx d 137 40 st ls σ μ la Q) := (qEx_eq (i := .ifCond .ne 5) rfl).trans qExA_ite
theorem x137_40  : qEx d 137 40 st ls σ μ la Q ↔ qEx d 137 41 (.int 0 :: st) ls σ μ la Q := (qEx_eq (i := .iconst 0) rfl).trans Iff.rfl
theorem x137_41 {x : Int32} : qEx d 137 41 [.int x] ls σ μ la Q ↔ ((x = 0 ∨ x = 1) ∧ Q (some (.int x)) σ μ la) := (qEx_eq (i := .ireturn) rfl).trans qExA_chk
theorem x137_42  : qEx d 137 42 st ls σ μ la Q ↔ qEx d 137 43 (.int 1 :: st) ls σ μ la Q := (qEx_eq (i := .iconst 1) rfl).trans Iff.rfl
theorem x137_43 {x : Int32} {l0 l1 : Value} : qEx d 137 43 (.int x :: st) [l0, l1] σ μ la Q ↔ qEx d 137 44 st [l0, .int x] σ μ la Q := (qEx_eq (i := .istore_n 1) rfl).trans Iff.rfl
theorem x137_44 {x : Int32} {l0 : Value} : qEx d 137 44 st [l0, .int x] σ μ la Q ↔ qEx d 137 45 (.int x :: st) [l0, .int x] σ μ la Q := (qEx_eq (i := .iload_n 1) rfl).trans Iff.rfl
theorem x137_45 {x : Int32} : qEx d 137 45 (.int x :: st) ls σ μ la Q ↔ (if x = 0 then qEx d 137 77 st ls σ μ la Q else qEx d 137 48 st ls σ μ la Q) := (qEx_eq (i := .ifCond .eq 32) rfl).trans qExA_ite
theorem x137_48 {x : Nat} {l1 : Value} : qEx d 137 48 st [.ref x, l1] σ μ la Q ↔ qEx d 137 49 (.ref x :: st) [.ref x, l1] σ μ la Q := (qEx_eq (i := .aload_n 0) rfl).trans Iff.rfl
theorem x137_49 {a : Nat} : qEx (d + 1) 137 49 [.ref a] ls σ μ la Q ↔ (qOk σ a 7 = true ∧ qEx d 136 0 [] [.ref a, .retAddr 0, .retAddr 0, .retAddr 0, .retAddr 0, .retAddr 0, .retAddr 0, .retAddr 0] σ μ la fun r σ' μ' la' => qEx (d + 1) 137 52 (r.toList ++ []) ls σ' μ' la' Q) := (qEx_eq (i := .invokevirtual 112) rfl).trans qExA_chk
theorem x137_52 {x : Int32} : qEx d 137 52 (.int x :: st) ls σ μ la Q ↔ (if ¬ x = 0 then qEx d 137 57 st ls σ μ la Q else qEx d 137 55 st ls σ μ la Q) := (qEx_eq (i := .ifCond .ne 5) rfl).trans qExA_ite
theorem x137_55  : qEx d 137 55 st ls σ μ la Q ↔ qEx d 137 56 (.int 0 :: st) ls σ μ la Q := (qEx_eq (i := .iconst 0) rfl).trans Iff.rfl
theorem x137_56 {x : Int32} : qEx d 137 56 [.int x] ls σ μ la Q ↔ ((x = 0 ∨ x = 1) ∧ Q (some (.int x)) σ μ la) := (qEx_eq (i := .ireturn) rfl).trans qExA_chk
theorem x137_57 {x : Nat} {l1 : Value} : qEx d 137 57 st [.ref x, l1] σ μ la Q ↔ qEx d 137 58 (.ref x :: st) [.ref x, l1] σ μ la Q := (qEx_eq (i := .aload_n 0) rfl).trans Iff.rfl
theorem x137_58 {a : Nat} : qEx d 137 58 (.ref a :: st) ls σ μ la Q ↔ (qOk σ a 7 = true ∧ qEx d 137 61 (.int (μ a 5) :: st) ls σ μ la Q) := (qEx_eq (i := .getfield 71) rfl).trans qExA_chk
theorem x137_61 {x : Nat} {l1 : Value} : qEx d 137 61 st [.ref x, l1] σ μ la Q ↔ qEx d 137 62 (.ref x :: st) [.ref x, l1] σ μ la Q := (qEx_eq (i := .aload_n 0) rfl).trans Iff.rfl
theorem x137_62 {a : Nat} : qEx d 137 62 (.ref a :: st) ls σ μ la Q ↔ (qOk σ a 7 = true ∧ qEx d 137 65 (.int (μ a 3) :: st) ls σ μ la Q) := (qEx_eq (i := .getfield 67) rfl).trans qExA_chk
theorem x137_65 {x y : Int32} : qEx d 137 65 (.int y :: .int x :: st) ls σ μ la Q ↔ (if y ≤ x then qEx d 137 72 st ls σ μ la Q else qEx d 137 68 st ls σ μ la Q) := (qEx_eq (i := .if_icmp .ge 7) rfl).trans qExA_ite
theorem x137_68  : qEx d 137 68 st ls σ μ la Q ↔ qEx d 137 69 (.int 1 :: st) ls σ μ la Q := (qEx_eq (i := .iconst 1) rfl).trans Iff.rfl
theorem x137_69  : qEx d 137 69 st ls σ μ la Q ↔ qEx d 137 73 st ls σ μ la Q := (qEx_eq (i := .goto 4) rfl).trans Iff.rfl
theorem x137_72  : qEx d 137 72 st ls σ μ la Q ↔ qEx d 137 73 (.int 0 :: st) ls σ μ la Q := (qEx_eq (i := .iconst 0) rfl).trans Iff.rfl
theorem x137_73 {x : Int32} {l0 l1 : Value} : qEx d 137 73 (.int x :: st) [l0, l1] σ μ la Q ↔ qEx d 137 74 st [l0, .int x] σ μ la Q := (qEx_eq (i := .istore_n 1) rfl).trans Iff.rfl
theorem x137_74  : qEx d 137 74 st ls σ μ la Q ↔ qEx d 137 44 st ls σ μ la Q := (qEx_eq (i := .goto (-30)) rfl).trans Iff.rfl
theorem x137_77  : qEx d 137 77 st ls σ μ la Q ↔ qEx d 137 78 (.int 1 :: st) ls σ μ la Q := (qEx_eq (i := .iconst 1) rfl).trans Iff.rfl
theorem x137_78 {x : Int32} : qEx d 137 78 [.int x] ls σ μ la Q ↔ ((x = 0 ∨ x = 1) ∧ Q (some (.int x)) σ μ la) := (qEx_eq (i := .ireturn) rfl).trans qExA_chk
theorem x138_0 {x : Nat} {l1 : Value} : qEx d 138 0 st [.ref x, l1] σ μ la Q ↔ qEx d 138 1 (.ref x :: st) [.ref x, l1] σ μ la Q := (qEx_eq (i := .aload_n 0) rfl).trans Iff.rfl
theorem x138_1 {a : Nat} : qEx (d + 1) 138 1 [.ref a] ls σ μ la Q ↔ (qOk σ a 7 = true ∧ qEx d 137 0 [] [.ref a, .retAddr 0] σ μ la fun r σ' μ' la' => qEx (d + 1) 138 4 (r.toList ++ []) ls σ' μ' la' Q) := (qEx_eq (i := .invokevirtual 115) rfl).trans qExA_chk
theorem x138_4 {x : Int32} {l0 l1 : Value} : qEx d 138 4 (.int x :: st) [l0, l1] σ μ la Q ↔ qEx d 138 5 st [l0, .int x] σ μ la Q := (qEx_eq (i := .istore_n 1) rfl).trans Iff.rfl
theorem x138_5 {x : Nat} {l1 : Value} : qEx d 138 5 st [.ref x, l1] σ μ la Q ↔ qEx d 138 6 (.ref x :: st) [.ref x, l1] σ μ la Q := (qEx_eq (i := .aload_n 0) rfl).trans Iff.rfl
theorem x138_6  : qEx d 138 6 st ls σ μ la Q ↔ qEx d 138 7 (.int 0 :: st) ls σ μ la Q := (qEx_eq (i := .iconst 0) rfl).trans Iff.rfl
theorem x138_7 {x : Int32} {a : Nat} : qEx d 138 7 (.int x :: .ref a :: st) ls σ μ la Q ↔ (qOk σ a 7 = true ∧ qEx d 138 10 st ls σ (qset μ a 3 x) la Q) := (qEx_eq (i := .putfield 67) rfl).trans qExA_chk
theorem x138_10 {x : Int32} {l0 : Value} : qEx d 138 10 st [l0, .int x] σ μ la Q ↔ qEx d 138 11 (.int x :: st) [l0, .int x] σ μ la Q := (qEx_eq (i := .iload_n 1) rfl).trans Iff.rfl
theorem x138_11 {x : Int32} : qEx d 138 11 (.int x :: st) ls σ μ la Q ↔ (if ¬ x = 0 then qEx d 138 22 st ls σ μ la Q else qEx d 138 14 st ls σ μ la Q) := (qEx_eq (i := .ifCond .ne 11) rfl).trans qExA_ite
theorem x138_14  : qEx d 138 14 st ls σ μ la Q ↔ qEx d 138 16 (.int (-100) :: st) ls σ μ la Q := (qEx_eq (i := .bipush (-100)) rfl).trans Iff.rfl
theorem x138_16 {x : Nat} {l1 : Value} : qEx d 138 16 st [.ref x, l1] σ μ la Q ↔ qEx d 138 17 (.ref x :: st) [.ref x, l1] σ μ la Q := (qEx_eq (i := .aload_n 0) rfl).trans Iff.rfl
theorem x138_17 {a : Nat} : qEx d 138 17 (.ref a :: st) ls σ μ la Q ↔ (qOk σ a 7 = true ∧ qEx d 138 20 (.int (μ a 5) :: st) ls σ μ la Q) := (qEx_eq (i := .getfield 71) rfl).trans qExA_chk
theorem x138_20 {x y : Int32} : qEx d 138 20 (.int y :: .int x :: st) ls σ μ la Q ↔ qEx d 138 21 (.int (x - y) :: st) ls σ μ la Q := (qEx_eq (i := .isub) rfl).trans Iff.rfl
theorem x138_21 {x : Int32} : qEx d 138 21 [.int x] ls σ μ la Q ↔ Q (some (.int x)) σ μ la := (qEx_eq (i := .ireturn) rfl).trans Iff.rfl
theorem x138_22 {x : Nat} {l1 : Value} : qEx d 138 22 st [.ref x, l1] σ μ la Q ↔ qEx d 138 23 (.ref x :: st) [.ref x, l1] σ μ la Q := (qEx_eq (i := .aload_n 0) rfl).trans Iff.rfl
theorem x138_23 {a : Nat} : qEx d 138 23 (.ref a :: st) ls σ μ la Q ↔ (qOk σ a 7 = true ∧ qEx d 138 26 (qrf (σ.2 a 8) :: st) ls σ μ la Q) := (qEx_eq (i := .getfield 29) rfl).trans qExA_chk
theorem x138_26  : qEx d 138 26 st ls σ μ la Q ↔ qEx d 138 27 (.int 0 :: st) ls σ μ la Q := (qEx_eq (i := .iconst 0) rfl).trans Iff.rfl
theorem x138_27 {x : Nat} {l1 : Value} : qEx d 138 27 st [.ref x, l1] σ μ la Q ↔ qEx d 138 28 (.ref x :: st) [.ref x, l1] σ μ la Q := (qEx_eq (i := .aload_n 0) rfl).trans Iff.rfl
theorem x138_28 {a : Nat} : qEx d 138 28 (.ref a :: st) ls σ μ la Q ↔ (qOk σ a 7 = true ∧ qEx d 138 31 (qrf (σ.2 a 6) :: st) ls σ μ la Q) := (qEx_eq (i := .getfield 23) rfl).trans qExA_chk
theorem x138_31  : qEx d 138 31 st ls σ μ la Q ↔ qEx d 138 32 (.int 0 :: st) ls σ μ la Q := (qEx_eq (i := .iconst 0) rfl).trans Iff.rfl
theorem x138_32  : qEx d 138 32 st ls σ μ la Q ↔ qEx d 138 34 (.int 124 :: st) ls σ μ la Q := (qEx_eq (i := .bipush 124) rfl).trans Iff.rfl
theorem x138_34 {y0 : Nat} {y1 : Int32} {y2 : Nat} {y3 : Int32} {y4 : Int32} : qEx (d + 1) 138 34 [.int y4, .int y3, .ref y2, .int y1, .ref y0] ls σ μ la Q ↔ qEx d 120 0 [] [.ref y0, .int y1, .ref y2, .int y3, .int y4, .retAddr 0] σ μ la fun r σ' μ' la' => qEx (d + 1) 138 37 (r.toList ++ []) ls σ' μ' la' Q := (qEx_eq (i := .invokestatic 118) rfl).trans Iff.rfl
theorem x138_37 {x : Nat} {l1 : Value} : qEx d 138 37 st [.ref x, l1] σ μ la Q ↔ qEx d 138 38 (.ref x :: st) [.ref x, l1] σ μ la Q := (qEx_eq (i := .aload_n 0) rfl).trans Iff.rfl
theorem x138_38  : qEx d 138 38 st ls σ μ la Q ↔ qEx d 138 39 (.int 0 :: st) ls σ μ la Q := (qEx_eq (i := .iconst 0) rfl).trans Iff.rfl
theorem x138_39 {x : Int32} {a : Nat} : qEx d 138 39 (.int x :: .ref a :: st) ls σ μ la Q ↔ (qOk σ a 7 = true ∧ qEx d 138 42 st ls σ (qset μ a 13 x) la Q) := (qEx_eq (i := .putfield 122) rfl).trans qExA_chk
theorem x138_42 {x : Nat} {l1 : Value} : qEx d 138 42 st [.ref x, l1] σ μ la Q ↔ qEx d 138 43 (.ref x :: st) [.ref x, l1] σ μ la Q := (qEx_eq (i := .aload_n 0) rfl).trans Iff.rfl
theorem x138_43 {a : Nat} : qEx d 138 43 (.ref a :: st) ls σ μ la Q ↔ (qOk σ a 7 = true ∧ qEx d 138 46 (qrf (σ.2 a 6) :: st) ls σ μ la Q) := (qEx_eq (i := .getfield 23) rfl).trans qExA_chk
theorem x138_46  : qEx d 138 46 st ls σ μ la Q ↔ qEx d 138 48 (.int 115 :: st) ls σ μ la Q := (qEx_eq (i := .bipush 115) rfl).trans Iff.rfl
theorem x138_48 {x : Int32} {a : Nat} : qEx d 138 48 (.int x :: .ref a :: st) ls σ μ la Q ↔ (qIn x (qIld σ μ a) = true ∧ qEx d 138 49 (.int (μ a x.toNatClampNeg) :: st) ls σ μ la Q) := (qEx_eq (i := .iaload) rfl).trans qExA_chk
theorem x138_49 {x : Int32} : qEx d 138 49 [.int x] ls σ μ la Q ↔ Q (some (.int x)) σ μ la := (qEx_eq (i := .ireturn) rfl).trans Iff.rfl
theorem x139_0 {x : Nat} {l1 l2 : Value} : qEx d 139 0 st [.ref x, l1, l2] σ μ la Q ↔ qEx d 139 1 (.ref x :: st) [.ref x, l1, l2] σ μ la Q := (qEx_eq (i := .aload_n 0) rfl).trans Iff.rfl
theorem x139_1 {x : Int32} {l0 l2 : Value} : qEx d 139 1 st [l0, .int x, l2] σ μ la Q ↔ qEx d 139 2 (.int x :: st) [l0, .int x, l2] σ μ la Q := (qEx_eq (i := .iload_n 1) rfl).trans Iff.rfl
theorem x139_2 {y0 : Int32} {a : Nat} : qEx (d + 1) 139 2 [.int y0, .ref a] ls σ μ la Q ↔ (qOk σ a 7 = true ∧ qEx d 122 0 [] [.ref a, .int y0] σ μ la fun r σ' μ' la' => qEx (d + 1) 139 5 (r.toList ++ []) ls σ' μ' la' Q) := (qEx_eq (i := .invokevirtual 125) rfl).trans qExA_chk
theorem x139_5 {x : Int32} : qEx d 139 5 (.int x :: st) ls σ μ la Q ↔ (if ¬ x = 0 then qEx d 139 10 st ls σ μ la Q else qEx d 139 8 st ls σ μ la Q) := (qEx_eq (i := .ifCond .ne 5) rfl).trans qExA_ite
theorem x139_8  : qEx d 139 8 st ls σ μ la Q ↔ qEx d 139 9 (.int (-1) :: st) ls σ μ la Q := (qEx_eq (i := .iconst (-1)) rfl).trans Iff.rfl
theorem x139_9 {x : Int32} : qEx d 139 9 [.int x] ls σ μ la Q ↔ Q (some (.int x)) σ μ la := (qEx_eq (i := .ireturn) rfl).trans Iff.rfl
theorem x139_10 {x : Int32} {l0 l1 : Value} : qEx d 139 10 st [l0, l1, .int x] σ μ la Q ↔ qEx d 139 11 (.int x :: st) [l0, l1, .int x] σ μ la Q := (qEx_eq (i := .iload_n 2) rfl).trans Iff.rfl
theorem x139_11 {x : Int32} : qEx d 139 11 (.int x :: st) ls σ μ la Q ↔ (if x.toInt = 0 then qEx d 139 44 st ls σ μ la Q else (if x.toInt = 1 then qEx d 139 54 st ls σ μ la Q else (if x.toInt = 2 then qEx d 139 63 st ls σ μ la Q else (if x.toInt = 3 then qEx d 139 73 st ls σ μ la Q else (if x.toInt = 4 then qEx d 139 83 st ls σ μ la Q else qEx d 139 93 st ls σ μ la Q))))) := (qEx_eq (i := .tableswitch 82 0 4 #[33, 43, 52, 62, 72]) rfl).trans (qExA_ite2 Iff.rfl (qExA_ite2 Iff.rfl (qExA_ite2 Iff.rfl (qExA_ite2 Iff.rfl (qExA_ite2 Iff.rfl Iff.rfl)))))
theorem x139_44 {x : Nat} {l1 l2 : Value} : qEx d 139 44 st [.ref x, l1, l2] σ μ la Q ↔ qEx d 139 45 (.ref x :: st) [.ref x, l1, l2] σ μ la Q := (qEx_eq (i := .aload_n 0) rfl).trans Iff.rfl
theorem x139_45 {a : Nat} : qEx d 139 45 (.ref a :: st) ls σ μ la Q ↔ (qOk σ a 7 = true ∧ qEx d 139 48 (qrf (σ.2 a 6) :: st) ls σ μ la Q) := (qEx_eq (i := .getfield 23) rfl).trans qExA_chk
theorem x139_48  : qEx d 139 48 st ls σ μ la Q ↔ qEx d 139 50 (.int 118 :: st) ls σ μ la Q := (qEx_eq (i := .bipush 118) rfl).trans Iff.rfl
theorem x139_50 {x : Int32} {l0 l2 : Value} : qEx d 139 50 st [l0, .int x, l2] σ μ la Q ↔ qEx d 139 51 (.int x :: st) [l0, .int x, l2] σ μ la Q := (qEx_eq (i := .iload_n 1) rfl).trans Iff.rfl
theorem x139_51 {x y : Int32} : qEx d 139 51 (.int y :: .int x :: st) ls σ μ la Q ↔ qEx d 139 52 (.int (x + y) :: st) ls σ μ la Q := (qEx_eq (i := .iadd) rfl).trans Iff.rfl
theorem x139_52 {x : Int32} {a : Nat} : qEx d 139 52 (.int x :: .ref a :: st) ls σ μ la Q ↔ (qIn x (qIld σ μ a) = true ∧ qEx d 139 53 (.int (μ a x.toNatClampNeg) :: st) ls σ μ la Q) := (qEx_eq (i := .iaload) rfl).trans qExA_chk
theorem x139_53 {x : Int32} : qEx d 139 53 [.int x] ls σ μ la Q ↔ Q (some (.int x)) σ μ la := (qEx_eq (i := .ireturn) rfl).trans Iff.rfl
theorem x139_54 {x : Nat} {l1 l2 : Value} : qEx d 139 54 st [.ref x, l1, l2] σ μ la Q ↔ qEx d 139 55 (.ref x :: st) [.ref x, l1, l2] σ μ la Q := (qEx_eq (i := .aload_n 0) rfl).trans Iff.rfl
theorem x139_55 {a : Nat} : qEx d 139 55 (.ref a :: st) ls σ μ la Q ↔ (qOk σ a 7 = true ∧ qEx d 139 58 (qrf (σ.2 a 6) :: st) ls σ μ la Q) := (qEx_eq (i := .getfield 23) rfl).trans qExA_chk
theorem x139_58  : qEx d 139 58 st ls σ μ la Q ↔ qEx d 139 59 (.int 1 :: st) ls σ μ la Q := (qEx_eq (i := .iconst 1) rfl).trans Iff.rfl
theorem x139_59 {x : Int32} {l0 l2 : Value} : qEx d 139 59 st [l0, .int x, l2] σ μ la Q ↔ qEx d 139 60 (.int x :: st) [l0, .int x, l2] σ μ la Q := (qEx_eq (i := .iload_n 1) rfl).trans Iff.rfl
theorem x139_60 {x y : Int32} : qEx d 139 60 (.int y :: .int x :: st) ls σ μ la Q ↔ qEx d 139 61 (.int (x + y) :: st) ls σ μ la Q := (qEx_eq (i := .iadd) rfl).trans Iff.rfl
theorem x139_61 {x : Int32} {a : Nat} : qEx d 139 61 (.int x :: .ref a :: st) ls σ μ la Q ↔ (qIn x (qIld σ μ a) = true ∧ qEx d 139 62 (.int (μ a x.toNatClampNeg) :: st) ls σ μ la Q) := (qEx_eq (i := .iaload) rfl).trans qExA_chk
theorem x139_62 {x : Int32} : qEx d 139 62 [.int x] ls σ μ la Q ↔ Q (some (.int x)) σ μ la := (qEx_eq (i := .ireturn) rfl).trans Iff.rfl
theorem x139_63 {x : Nat} {l1 l2 : Value} : qEx d 139 63 st [.ref x, l1, l2] σ μ la Q ↔ qEx d 139 64 (.ref x :: st) [.ref x, l1, l2] σ μ la Q := (qEx_eq (i := .aload_n 0) rfl).trans Iff.rfl
theorem x139_64 {a : Nat} : qEx d 139 64 (.ref a :: st) ls σ μ la Q ↔ (qOk σ a 7 = true ∧ qEx d 139 67 (qrf (σ.2 a 6) :: st) ls σ μ la Q) := (qEx_eq (i := .getfield 23) rfl).trans qExA_chk
theorem x139_67  : qEx d 139 67 st ls σ μ la Q ↔ qEx d 139 69 (.int 7 :: st) ls σ μ la Q := (qEx_eq (i := .bipush 7) rfl).trans Iff.rfl
theorem x139_69 {x : Int32} {l0 l2 : Value} : qEx d 139 69 st [l0, .int x, l2] σ μ la Q ↔ qEx d 139 70 (.int x :: st) [l0, .int x, l2] σ μ la Q := (qEx_eq (i := .iload_n 1) rfl).trans Iff.rfl
theorem x139_70 {x y : Int32} : qEx d 139 70 (.int y :: .int x :: st) ls σ μ la Q ↔ qEx d 139 71 (.int (x + y) :: st) ls σ μ la Q := (qEx_eq (i := .iadd) rfl).trans Iff.rfl
theorem x139_71 {x : Int32} {a : Nat} : qEx d 139 71 (.int x :: .ref a :: st) ls σ μ la Q ↔ (qIn x (qIld σ μ a) = true ∧ qEx d 139 72 (.int (μ a x.toNatClampNeg) :: st) ls σ μ la Q) := (qEx_eq (i := .iaload) rfl).trans qExA_chk
theorem x139_72 {x : Int32} : qEx d 139 72 [.int x] ls σ μ la Q ↔ Q (some (.int x)) σ μ la := (qEx_eq (i := .ireturn) rfl).trans Iff.rfl
theorem x139_73 {x : Nat} {l1 l2 : Value} : qEx d 139 73 st [.ref x, l1, l2] σ μ la Q ↔ qEx d 139 74 (.ref x :: st) [.ref x, l1, l2] σ μ la Q := (qEx_eq (i := .aload_n 0) rfl).trans Iff.rfl
theorem x139_74 {a : Nat} : qEx d 139 74 (.ref a :: st) ls σ μ la Q ↔ (qOk σ a 7 = true ∧ qEx d 139 77 (qrf (σ.2 a 6) :: st) ls σ μ la Q) := (qEx_eq (i := .getfield 23) rfl).trans qExA_chk
theorem x139_77  : qEx d 139 77 st ls σ μ la Q ↔ qEx d 139 79 (.int 13 :: st) ls σ μ la Q := (qEx_eq (i := .bipush 13) rfl).trans Iff.rfl
theorem x139_79 {x : Int32} {l0 l2 : Value} : qEx d 139 79 st [l0, .int x, l2] σ μ la Q ↔ qEx d 139 80 (.int x :: st) [l0, .int x, l2] σ μ la Q := (qEx_eq (i := .iload_n 1) rfl).trans Iff.rfl
theorem x139_80 {x y : Int32} : qEx d 139 80 (.int y :: .int x :: st) ls σ μ la Q ↔ qEx d 139 81 (.int (x + y) :: st) ls σ μ la Q := (qEx_eq (i := .iadd) rfl).trans Iff.rfl
theorem x139_81 {x : Int32} {a : Nat} : qEx d 139 81 (.int x :: .ref a :: st) ls σ μ la Q ↔ (qIn x (qIld σ μ a) = true ∧ qEx d 139 82 (.int (μ a x.toNatClampNeg) :: st) ls σ μ la Q) := (qEx_eq (i := .iaload) rfl).trans qExA_chk
theorem x139_82 {x : Int32} : qEx d 139 82 [.int x] ls σ μ la Q ↔ Q (some (.int x)) σ μ la := (qEx_eq (i := .ireturn) rfl).trans Iff.rfl
theorem x139_83 {x : Nat} {l1 l2 : Value} : qEx d 139 83 st [.ref x, l1, l2] σ μ la Q ↔ qEx d 139 84 (.ref x :: st) [.ref x, l1, l2] σ μ la Q := (qEx_eq (i := .aload_n 0) rfl).trans Iff.rfl
theorem x139_84 {a : Nat} : qEx d 139 84 (.ref a :: st) ls σ μ la Q ↔ (qOk σ a 7 = true ∧ qEx d 139 87 (qrf (σ.2 a 6) :: st) ls σ μ la Q) := (qEx_eq (i := .getfield 23) rfl).trans qExA_chk
theorem x139_87  : qEx d 139 87 st ls σ μ la Q ↔ qEx d 139 89 (.int 19 :: st) ls σ μ la Q := (qEx_eq (i := .bipush 19) rfl).trans Iff.rfl
theorem x139_89 {x : Int32} {l0 l2 : Value} : qEx d 139 89 st [l0, .int x, l2] σ μ la Q ↔ qEx d 139 90 (.int x :: st) [l0, .int x, l2] σ μ la Q := (qEx_eq (i := .iload_n 1) rfl).trans Iff.rfl
theorem x139_90 {x y : Int32} : qEx d 139 90 (.int y :: .int x :: st) ls σ μ la Q ↔ qEx d 139 91 (.int (x + y) :: st) ls σ μ la Q := (qEx_eq (i := .iadd) rfl).trans Iff.rfl
theorem x139_91 {x : Int32} {a : Nat} : qEx d 139 91 (.int x :: .ref a :: st) ls σ μ la Q ↔ (qIn x (qIld σ μ a) = true ∧ qEx d 139 92 (.int (μ a x.toNatClampNeg) :: st) ls σ μ la Q) := (qEx_eq (i := .iaload) rfl).trans qExA_chk
theorem x139_92 {x : Int32} : qEx d 139 92 [.int x] ls σ μ la Q ↔ Q (some (.int x)) σ μ la := (qEx_eq (i := .ireturn) rfl).trans Iff.rfl
theorem x139_93 {x : Int32} {l0 l1 : Value} : qEx d 139 93 st [l0, l1, .int x] σ μ la Q ↔ qEx d 139 94 (.int x :: st) [l0, l1, .int x] σ μ la Q := (qEx_eq (i := .iload_n 2) rfl).trans Iff.rfl
theorem x139_94  : qEx d 139 94 st ls σ μ la Q ↔ qEx d 139 95 (.int 5 :: st) ls σ μ la Q := (qEx_eq (i := .iconst 5) rfl).trans Iff.rfl
theorem x139_95  : qEx d 139 95 st ls σ μ la Q ↔ qEx d 139 97 (.int 8 :: st) ls σ μ la Q := (qEx_eq (i := .bipush 8) rfl).trans Iff.rfl
theorem x139_97 {y0 : Int32} {y1 : Int32} {y2 : Int32} : qEx (d + 1) 139 97 [.int y2, .int y1, .int y0] ls σ μ la Q ↔ qEx d 118 0 [] [.int y0, .int y1, .int y2] σ μ la fun r σ' μ' la' => qEx (d + 1) 139 100 (r.toList ++ []) ls σ' μ' la' Q := (qEx_eq (i := .invokestatic 63) rfl).trans Iff.rfl
theorem x139_100 {x : Int32} : qEx d 139 100 (.int x :: st) ls σ μ la Q ↔ (if x = 0 then qEx d 139 121 st ls σ μ la Q else qEx d 139 103 st ls σ μ la Q) := (qEx_eq (i := .ifCond .eq 21) rfl).trans qExA_ite
theorem x139_103 {x : Nat} {l1 l2 : Value} : qEx d 139 103 st [.ref x, l1, l2] σ μ la Q ↔ qEx d 139 104 (.ref x :: st) [.ref x, l1, l2] σ μ la Q := (qEx_eq (i := .aload_n 0) rfl).trans Iff.rfl
theorem x139_104 {a : Nat} : qEx d 139 104 (.ref a :: st) ls σ μ la Q ↔ (qOk σ a 7 = true ∧ qEx d 139 107 (qrf (σ.2 a 6) :: st) ls σ μ la Q) := (qEx_eq (i := .getfield 23) rfl).trans qExA_chk
theorem x139_107  : qEx d 139 107 st ls σ μ la Q ↔ qEx d 139 109 (.int 25 :: st) ls σ μ la Q := (qEx_eq (i := .bipush 25) rfl).trans Iff.rfl
theorem x139_109  : qEx d 139 109 st ls σ μ la Q ↔ qEx d 139 110 (.int 4 :: st) ls σ μ la Q := (qEx_eq (i := .iconst 4) rfl).trans Iff.rfl
theorem x139_110 {x : Int32} {l0 l2 : Value} : qEx d 139 110 st [l0, .int x, l2] σ μ la Q ↔ qEx d 139 111 (.int x :: st) [l0, .int x, l2] σ μ la Q := (qEx_eq (i := .iload_n 1) rfl).trans Iff.rfl
theorem x139_111 {x y : Int32} : qEx d 139 111 (.int y :: .int x :: st) ls σ μ la Q ↔ qEx d 139 112 (.int (x * y) :: st) ls σ μ la Q := (qEx_eq (i := .imul) rfl).trans Iff.rfl
theorem x139_112 {x y : Int32} : qEx d 139 112 (.int y :: .int x :: st) ls σ μ la Q ↔ qEx d 139 113 (.int (x + y) :: st) ls σ μ la Q := (qEx_eq (i := .iadd) rfl).trans Iff.rfl
theorem x139_113 {x : Int32} {l0 l1 : Value} : qEx d 139 113 st [l0, l1, .int x] σ μ la Q ↔ qEx d 139 114 (.int x :: st) [l0, l1, .int x] σ μ la Q := (qEx_eq (i := .iload_n 2) rfl).trans Iff.rfl
theorem x139_114 {x y : Int32} : qEx d 139 114 (.int y :: .int x :: st) ls σ μ la Q ↔ qEx d 139 115 (.int (x + y) :: st) ls σ μ la Q := (qEx_eq (i := .iadd) rfl).trans Iff.rfl
theorem x139_115  : qEx d 139 115 st ls σ μ la Q ↔ qEx d 139 116 (.int 5 :: st) ls σ μ la Q := (qEx_eq (i := .iconst 5) rfl).trans Iff.rfl
theorem x139_116 {x y : Int32} : qEx d 139 116 (.int y :: .int x :: st) ls σ μ la Q ↔ qEx d 139 117 (.int (x - y) :: st) ls σ μ la Q := (qEx_eq (i := .isub) rfl).trans Iff.rfl
theorem x139_117 {x : Int32} {a : Nat} : qEx d 139 117 (.int x :: .ref a :: st) ls σ μ la Q ↔ (qIn x (qIld σ μ a) = true ∧ qEx d 139 118 (.int (μ a x.toNatClampNeg) :: st) ls σ μ la Q) := (qEx_eq (i := .iaload) rfl).trans qExA_chk
theorem x139_118  : qEx d 139 118 st ls σ μ la Q ↔ qEx d 139 122 st ls σ μ la Q := (qEx_eq (i := .goto 4) rfl).trans Iff.rfl
theorem x139_121  : qEx d 139 121 st ls σ μ la Q ↔ qEx d 139 122 (.int (-1) :: st) ls σ μ la Q := (qEx_eq (i := .iconst (-1)) rfl).trans Iff.rfl
theorem x139_122 {x : Int32} : qEx d 139 122 [.int x] ls σ μ la Q ↔ Q (some (.int x)) σ μ la := (qEx_eq (i := .ireturn) rfl).trans Iff.rfl
theorem x140_0 {x : Nat} {l1 : Value} : qEx d 140 0 st [.ref x, l1] σ μ la Q ↔ qEx d 140 1 (.ref x :: st) [.ref x, l1] σ μ la Q := (qEx_eq (i := .aload_n 0) rfl).trans Iff.rfl
theorem x140_1 {x : Int32} {l0 : Value} : qEx d 140 1 st [l0, .int x] σ μ la Q ↔ qEx d 140 2 (.int x :: st) [l0, .int x] σ μ la Q := (qEx_eq (i := .iload_n 1) rfl).trans Iff.rfl
theorem x140_2 {y0 : Int32} {a : Nat} : qEx (d + 1) 140 2 [.int y0, .ref a] ls σ μ la Q ↔ (qOk σ a 7 = true ∧ qEx d 123 0 [] [.ref a, .int y0] σ μ la fun r σ' μ' la' => qEx (d + 1) 140 5 (r.toList ++ []) ls σ' μ' la' Q) := (qEx_eq (i := .invokevirtual 128) rfl).trans qExA_chk
theorem x140_5 {x : Int32} : qEx d 140 5 (.int x :: st) ls σ μ la Q ↔ (if x = 0 then qEx d 140 20 st ls σ μ la Q else qEx d 140 8 st ls σ μ la Q) := (qEx_eq (i := .ifCond .eq 15) rfl).trans qExA_ite
theorem x140_8 {x : Nat} {l1 : Value} : qEx d 140 8 st [.ref x, l1] σ μ la Q ↔ qEx d 140 9 (.ref x :: st) [.ref x, l1] σ μ la Q := (qEx_eq (i := .aload_n 0) rfl).trans Iff.rfl
theorem x140_9 {a : Nat} : qEx d 140 9 (.ref a :: st) ls σ μ la Q ↔ (qOk σ a 7 = true ∧ qEx d 140 12 (qrf (σ.2 a 6) :: st) ls σ μ la Q) := (qEx_eq (i := .getfield 23) rfl).trans qExA_chk
theorem x140_12  : qEx d 140 12 st ls σ μ la Q ↔ qEx d 140 14 (.int 49 :: st) ls σ μ la Q := (qEx_eq (i := .bipush 49) rfl).trans Iff.rfl
theorem x140_14 {x : Int32} {l0 : Value} : qEx d 140 14 st [l0, .int x] σ μ la Q ↔ qEx d 140 15 (.int x :: st) [l0, .int x] σ μ la Q := (qEx_eq (i := .iload_n 1) rfl).trans Iff.rfl
theorem x140_15 {x y : Int32} : qEx d 140 15 (.int y :: .int x :: st) ls σ μ la Q ↔ qEx d 140 16 (.int (x + y) :: st) ls σ μ la Q := (qEx_eq (i := .iadd) rfl).trans Iff.rfl
theorem x140_16 {x : Int32} {a : Nat} : qEx d 140 16 (.int x :: .ref a :: st) ls σ μ la Q ↔ (qIn x (qIld σ μ a) = true ∧ qEx d 140 17 (.int (μ a x.toNatClampNeg) :: st) ls σ μ la Q) := (qEx_eq (i := .iaload) rfl).trans qExA_chk
theorem x140_17  : qEx d 140 17 st ls σ μ la Q ↔ qEx d 140 21 st ls σ μ la Q := (qEx_eq (i := .goto 4) rfl).trans Iff.rfl
theorem x140_20  : qEx d 140 20 st ls σ μ la Q ↔ qEx d 140 21 (.int (-1) :: st) ls σ μ la Q := (qEx_eq (i := .iconst (-1)) rfl).trans Iff.rfl
theorem x140_21 {x : Int32} : qEx d 140 21 [.int x] ls σ μ la Q ↔ Q (some (.int x)) σ μ la := (qEx_eq (i := .ireturn) rfl).trans Iff.rfl
theorem x141_0  : qEx d 141 0 st ls σ μ la Q ↔ qEx d 141 2 (.int (-4) :: st) ls σ μ la Q := (qEx_eq (i := .bipush (-4)) rfl).trans Iff.rfl
theorem x141_2 {x : Int32} {l0 l1 l2 l3 : Value} : qEx d 141 2 (.int x :: st) [l0, l1, l2, l3] σ μ la Q ↔ qEx d 141 3 st [l0, l1, .int x, l3] σ μ la Q := (qEx_eq (i := .istore_n 2) rfl).trans Iff.rfl
theorem x141_3  : qEx d 141 3 st ls σ μ la Q ↔ qEx d 141 4 (.int 0 :: st) ls σ μ la Q := (qEx_eq (i := .iconst 0) rfl).trans Iff.rfl
theorem x141_4 {x : Int32} {l0 l1 l2 l3 : Value} : qEx d 141 4 (.int x :: st) [l0, l1, l2, l3] σ μ la Q ↔ qEx d 141 5 st [l0, l1, l2, .int x] σ μ la Q := (qEx_eq (i := .istore_n 3) rfl).trans Iff.rfl
theorem x141_5 {x : Int32} {l0 l1 l2 : Value} : qEx d 141 5 st [l0, l1, l2, .int x] σ μ la Q ↔ qEx d 141 6 (.int x :: st) [l0, l1, l2, .int x] σ μ la Q := (qEx_eq (i := .iload_n 3) rfl).trans Iff.rfl
theorem x141_6 {x : Nat} {l1 l2 l3 : Value} : qEx d 141 6 st [.ref x, l1, l2, l3] σ μ la Q ↔ qEx d 141 7 (.ref x :: st) [.ref x, l1, l2, l3] σ μ la Q := (qEx_eq (i := .aload_n 0) rfl).trans Iff.rfl
theorem x141_7  : qEx d 141 7 st ls σ μ la Q ↔ qEx d 141 9 (.int 115 :: st) ls σ μ la Q := (qEx_eq (i := .bipush 115) rfl).trans Iff.rfl
theorem x141_9 {x : Int32} {a : Nat} : qEx d 141 9 (.int x :: .ref a :: st) ls σ μ la Q ↔ (qIn x (qIld σ μ a) = true ∧ qEx d 141 10 (.int (μ a x.toNatClampNeg) :: st) ls σ μ la Q) := (qEx_eq (i := .iaload) rfl).trans qExA_chk
theorem x141_10 {x y : Int32} : qEx d 141 10 (.int y :: .int x :: st) ls σ μ la Q ↔ (if y ≤ x then qEx d 141 34 st ls σ μ la Q else qEx d 141 13 st ls σ μ la Q) := (qEx_eq (i := .if_icmp .ge 24) rfl).trans qExA_ite
theorem x141_13 {x : Nat} {l1 l2 l3 : Value} : qEx d 141 13 st [.ref x, l1, l2, l3] σ μ la Q ↔ qEx d 141 14 (.ref x :: st) [.ref x, l1, l2, l3] σ μ la Q := (qEx_eq (i := .aload_n 0) rfl).trans Iff.rfl
theorem x141_14  : qEx d 141 14 st ls σ μ la Q ↔ qEx d 141 15 (.int 1 :: st) ls σ μ la Q := (qEx_eq (i := .iconst 1) rfl).trans Iff.rfl
theorem x141_15 {x : Int32} {l0 l1 l2 : Value} : qEx d 141 15 st [l0, l1, l2, .int x] σ μ la Q ↔ qEx d 141 16 (.int x :: st) [l0, l1, l2, .int x] σ μ la Q := (qEx_eq (i := .iload_n 3) rfl).trans Iff.rfl
theorem x141_16 {x y : Int32} : qEx d 141 16 (.int y :: .int x :: st) ls σ μ la Q ↔ qEx d 141 17 (.int (x + y) :: st) ls σ μ la Q := (qEx_eq (i := .iadd) rfl).trans Iff.rfl
theorem x141_17 {x : Int32} {a : Nat} : qEx d 141 17 (.int x :: .ref a :: st) ls σ μ la Q ↔ (qIn x (qIld σ μ a) = true ∧ qEx d 141 18 (.int (μ a x.toNatClampNeg) :: st) ls σ μ la Q) := (qEx_eq (i := .iaload) rfl).trans qExA_chk
theorem x141_18 {x : Int32} {l0 l2 l3 : Value} : qEx d 141 18 st [l0, .int x, l2, l3] σ μ la Q ↔ qEx d 141 19 (.int x :: st) [l0, .int x, l2, l3] σ μ la Q := (qEx_eq (i := .iload_n 1) rfl).trans Iff.rfl
theorem x141_19 {x y : Int32} : qEx d 141 19 (.int y :: .int x :: st) ls σ μ la Q ↔ (if ¬ x = y then qEx d 141 26 st ls σ μ la Q else qEx d 141 22 st ls σ μ la Q) := (qEx_eq (i := .if_icmp .ne 7) rfl).trans qExA_ite
theorem x141_22 {x : Int32} {l0 l1 l2 : Value} : qEx d 141 22 st [l0, l1, l2, .int x] σ μ la Q ↔ qEx d 141 23 (.int x :: st) [l0, l1, l2, .int x] σ μ la Q := (qEx_eq (i := .iload_n 3) rfl).trans Iff.rfl
theorem x141_23  : qEx d 141 23 st ls σ μ la Q ↔ qEx d 141 27 st ls σ μ la Q := (qEx_eq (i := .goto 4) rfl).trans Iff.rfl
theorem x141_26 {x : Int32} {l0 l1 l3 : Value} : qEx d 141 26 st [l0, l1, .int x, l3] σ μ la Q ↔ qEx d 141 27 (.int x :: st) [l0, l1, .int x, l3] σ μ la Q := (qEx_eq (i := .iload_n 2) rfl).trans Iff.rfl
theorem x141_27 {x : Int32} {l0 l1 l2 l3 : Value} : qEx d 141 27 (.int x :: st) [l0, l1, l2, l3] σ μ la Q ↔ qEx d 141 28 st [l0, l1, .int x, l3] σ μ la Q := (qEx_eq (i := .istore_n 2) rfl).trans Iff.rfl
theorem x141_28 {x : Int32} {l0 l1 l2 : Value} : qEx d 141 28 st [l0, l1, l2, .int x] σ μ la Q ↔ qEx d 141 31 st [l0, l1, l2, .int (x + 1)] σ μ la Q := (qEx_eq (i := .iinc 3 1) rfl).trans Iff.rfl
theorem x141_31  : qEx d 141 31 st ls σ μ la Q ↔ qEx d 141 5 st ls σ μ la Q := (qEx_eq (i := .goto (-26)) rfl).trans Iff.rfl
theorem x141_34 {x : Int32} {l0 l1 l3 : Value} : qEx d 141 34 st [l0, l1, .int x, l3] σ μ la Q ↔ qEx d 141 35 (.int x :: st) [l0, l1, .int x, l3] σ μ la Q := (qEx_eq (i := .iload_n 2) rfl).trans Iff.rfl
theorem x141_35 {x : Int32} : qEx d 141 35 [.int x] ls σ μ la Q ↔ Q (some (.int x)) σ μ la := (qEx_eq (i := .ireturn) rfl).trans Iff.rfl
theorem x142_0 {x : Nat} {l1 : Value} : qEx d 142 0 st [.ref x, l1] σ μ la Q ↔ qEx d 142 1 (.ref x :: st) [.ref x, l1] σ μ la Q := (qEx_eq (i := .aload_n 0) rfl).trans Iff.rfl
theorem x142_1 {x : Int32} {l0 : Value} : qEx d 142 1 st [l0, .int x] σ μ la Q ↔ qEx d 142 2 (.int x :: st) [l0, .int x] σ μ la Q := (qEx_eq (i := .iload_n 1) rfl).trans Iff.rfl
theorem x142_2 {y0 : Int32} {a : Nat} : qEx (d + 1) 142 2 [.int y0, .ref a] ls σ μ la Q ↔ (qOk σ a 7 = true ∧ qEx d 123 0 [] [.ref a, .int y0] σ μ la fun r σ' μ' la' => qEx (d + 1) 142 5 (r.toList ++ []) ls σ' μ' la' Q) := (qEx_eq (i := .invokevirtual 128) rfl).trans qExA_chk
theorem x142_5 {x : Int32} : qEx d 142 5 (.int x :: st) ls σ μ la Q ↔ (if x = 0 then qEx d 142 19 st ls σ μ la Q else qEx d 142 8 st ls σ μ la Q) := (qEx_eq (i := .ifCond .eq 14) rfl).trans qExA_ite
theorem x142_8 {x : Nat} {l1 : Value} : qEx d 142 8 st [.ref x, l1] σ μ la Q ↔ qEx d 142 9 (.ref x :: st) [.ref x, l1] σ μ la Q := (qEx_eq (i := .aload_n 0) rfl).trans Iff.rfl
theorem x142_9 {a : Nat} : qEx d 142 9 (.ref a :: st) ls σ μ la Q ↔ (qOk σ a 7 = true ∧ qEx d 142 12 (qrf (σ.2 a 6) :: st) ls σ μ la Q) := (qEx_eq (i := .getfield 23) rfl).trans qExA_chk
theorem x142_12 {x : Int32} {l0 : Value} : qEx d 142 12 st [l0, .int x] σ μ la Q ↔ qEx d 142 13 (.int x :: st) [l0, .int x] σ μ la Q := (qEx_eq (i := .iload_n 1) rfl).trans Iff.rfl
theorem x142_13 {y0 : Nat} {y1 : Int32} : qEx (d + 1) 142 13 [.int y1, .ref y0] ls σ μ la Q ↔ qEx d 141 0 [] [.ref y0, .int y1, .retAddr 0, .retAddr 0] σ μ la fun r σ' μ' la' => qEx (d + 1) 142 16 (r.toList ++ []) ls σ' μ' la' Q := (qEx_eq (i := .invokestatic 131) rfl).trans Iff.rfl
theorem x142_16  : qEx d 142 16 st ls σ μ la Q ↔ qEx d 142 20 st ls σ μ la Q := (qEx_eq (i := .goto 4) rfl).trans Iff.rfl
theorem x142_19  : qEx d 142 19 st ls σ μ la Q ↔ qEx d 142 20 (.int (-1) :: st) ls σ μ la Q := (qEx_eq (i := .iconst (-1)) rfl).trans Iff.rfl
theorem x142_20 {x : Int32} : qEx d 142 20 [.int x] ls σ μ la Q ↔ Q (some (.int x)) σ μ la := (qEx_eq (i := .ireturn) rfl).trans Iff.rfl
theorem x143_0 {x : Nat} {l1 l2 l3 l4 : Value} : qEx d 143 0 st [.ref x, l1, l2, l3, l4] σ μ la Q ↔ qEx d 143 1 (.ref x :: st) [.ref x, l1, l2, l3, l4] σ μ la Q := (qEx_eq (i := .aload_n 0) rfl).trans Iff.rfl
theorem x143_1 {x : Int32} {l0 l2 l3 l4 : Value} : qEx d 143 1 st [l0, .int x, l2, l3, l4] σ μ la Q ↔ qEx d 143 2 (.int x :: st) [l0, .int x, l2, l3, l4] σ μ la Q := (qEx_eq (i := .iload_n 1) rfl).trans Iff.rfl
theorem x143_2 {y0 : Int32} {a : Nat} : qEx (d + 1) 143 2 [.int y0, .ref a] ls σ μ la Q ↔ (qOk σ a 7 = true ∧ qEx d 122 0 [] [.ref a, .int y0] σ μ la fun r σ' μ' la' => qEx (d + 1) 143 5 (r.toList ++ []) ls σ' μ' la' Q) := (qEx_eq (i := .invokevirtual 125) rfl).trans qExA_chk
theorem x143_5 {x : Int32} : qEx d 143 5 (.int x :: st) ls σ μ la Q ↔ (if x = 0 then qEx d 143 17 st ls σ μ la Q else qEx d 143 8 st ls σ μ la Q) := (qEx_eq (i := .ifCond .eq 12) rfl).trans qExA_ite
theorem x143_8 {x : Int32} {l0 l1 l3 l4 : Value} : qEx d 143 8 st [l0, l1, .int x, l3, l4] σ μ la Q ↔ qEx d 143 9 (.int x :: st) [l0, l1, .int x, l3, l4] σ μ la Q := (qEx_eq (i := .iload_n 2) rfl).trans Iff.rfl
theorem x143_9  : qEx d 143 9 st ls σ μ la Q ↔ qEx d 143 10 (.int 0 :: st) ls σ μ la Q := (qEx_eq (i := .iconst 0) rfl).trans Iff.rfl
theorem x143_10  : qEx d 143 10 st ls σ μ la Q ↔ qEx d 143 11 (.int 5 :: st) ls σ μ la Q := (qEx_eq (i := .iconst 5) rfl).trans Iff.rfl
theorem x143_11 {y0 : Int32} {y1 : Int32} {y2 : Int32} : qEx (d + 1) 143 11 [.int y2, .int y1, .int y0] ls σ μ la Q ↔ qEx d 118 0 [] [.int y0, .int y1, .int y2] σ μ la fun r σ' μ' la' => qEx (d + 1) 143 14 (r.toList ++ []) ls σ' μ' la' Q := (qEx_eq (i := .invokestatic 63) rfl).trans Iff.rfl
theorem x143_14 {x : Int32} : qEx d 143 14 (.int x :: st) ls σ μ la Q ↔ (if ¬ x = 0 then qEx d 143 19 st ls σ μ la Q else qEx d 143 17 st ls σ μ la Q) := (qEx_eq (i := .ifCond .ne 5) rfl).trans qExA_ite
theorem x143_17  : qEx d 143 17 st ls σ μ la Q ↔ qEx d 143 18 (.int (-1) :: st) ls σ μ la Q := (qEx_eq (i := .iconst (-1)) rfl).trans Iff.rfl
theorem x143_18 {x : Int32} : qEx d 143 18 [.int x] ls σ μ la Q ↔ Q (some (.int x)) σ μ la := (qEx_eq (i := .ireturn) rfl).trans Iff.rfl
theorem x143_19 {x : Nat} {l1 l2 l3 l4 : Value} : qEx d 143 19 st [.ref x, l1, l2, l3, l4] σ μ la Q ↔ qEx d 143 20 (.ref x :: st) [.ref x, l1, l2, l3, l4] σ μ la Q := (qEx_eq (i := .aload_n 0) rfl).trans Iff.rfl
theorem x143_20 {a : Nat} : qEx d 143 20 (.ref a :: st) ls σ μ la Q ↔ (qOk σ a 7 = true ∧ qEx d 143 23 (qrf (σ.2 a 6) :: st) ls σ μ la Q) := (qEx_eq (i := .getfield 23) rfl).trans qExA_chk
theorem x143_23  : qEx d 143 23 st ls σ μ la Q ↔ qEx d 143 25 (.int 118 :: st) ls σ μ la Q := (qEx_eq (i := .bipush 118) rfl).trans Iff.rfl
theorem x143_25 {x : Int32} {l0 l2 l3 l4 : Value} : qEx d 143 25 st [l0, .int x, l2, l3, l4] σ μ la Q ↔ qEx d 143 26 (.int x :: st) [l0, .int x, l2, l3, l4] σ μ la Q := (qEx_eq (i := .iload_n 1) rfl).trans Iff.rfl
theorem x143_26 {x y : Int32} : qEx d 143 26 (.int y :: .int x :: st) ls σ μ la Q ↔ qEx d 143 27 (.int (x + y) :: st) ls σ μ la Q := (qEx_eq (i := .iadd) rfl).trans Iff.rfl
theorem x143_27 {x : Int32} {a : Nat} : qEx d 143 27 (.int x :: .ref a :: st) ls σ μ la Q ↔ (qIn x (qIld σ μ a) = true ∧ qEx d 143 28 (.int (μ a x.toNatClampNeg) :: st) ls σ μ la Q) := (qEx_eq (i := .iaload) rfl).trans qExA_chk
theorem x143_28 {x : Int32} {l0 l1 l2 l3 l4 : Value} : qEx d 143 28 (.int x :: st) [l0, l1, l2, l3, l4] σ μ la Q ↔ qEx d 143 29 st [l0, l1, l2, .int x, l4] σ μ la Q := (qEx_eq (i := .istore_n 3) rfl).trans Iff.rfl
theorem x143_29 {x : Int32} {l0 l1 l3 l4 : Value} : qEx d 143 29 st [l0, l1, .int x, l3, l4] σ μ la Q ↔ qEx d 143 30 (.int x :: st) [l0, l1, .int x, l3, l4] σ μ la Q := (qEx_eq (i := .iload_n 2) rfl).trans Iff.rfl
theorem x143_30 {x : Int32} : qEx d 143 30 (.int x :: st) ls σ μ la Q ↔ (if x = 0 then qEx d 143 58 st ls σ μ la Q else qEx d 143 33 st ls σ μ la Q) := (qEx_eq (i := .ifCond .eq 28) rfl).trans qExA_ite
theorem x143_33 {x : Int32} {l0 l1 l2 l4 : Value} : qEx d 143 33 st [l0, l1, l2, .int x, l4] σ μ la Q ↔ qEx d 143 34 (.int x :: st) [l0, l1, l2, .int x, l4] σ μ la Q := (qEx_eq (i := .iload_n 3) rfl).trans Iff.rfl
theorem x143_34 {x : Int32} {l0 l1 l3 l4 : Value} : qEx d 143 34 st [l0, l1, .int x, l3, l4] σ μ la Q ↔ qEx d 143 35 (.int x :: st) [l0, l1, .int x, l3, l4] σ μ la Q := (qEx_eq (i := .iload_n 2) rfl).trans Iff.rfl
theorem x143_35 {x y : Int32} : qEx d 143 35 (.int y :: .int x :: st) ls σ μ la Q ↔ (if x = y then qEx d 143 58 st ls σ μ la Q else qEx d 143 38 st ls σ μ la Q) := (qEx_eq (i := .if_icmp .eq 23) rfl).trans qExA_ite
theorem x143_38 {x : Int32} {l0 l1 l3 l4 : Value} : qEx d 143 38 st [l0, l1, .int x, l3, l4] σ μ la Q ↔ qEx d 143 39 (.int x :: st) [l0, l1, .int x, l3, l4] σ μ la Q := (qEx_eq (i := .iload_n 2) rfl).trans Iff.rfl
theorem x143_39  : qEx d 143 39 st ls σ μ la Q ↔ qEx d 143 40 (.int 1 :: st) ls σ μ la Q := (qEx_eq (i := .iconst 1) rfl).trans Iff.rfl
theorem x143_40 {x y : Int32} : qEx d 143 40 (.int y :: .int x :: st) ls σ μ la Q ↔ (if ¬ x = y then qEx d 143 48 st ls σ μ la Q else qEx d 143 43 st ls σ μ la Q) := (qEx_eq (i := .if_icmp .ne 8) rfl).trans qExA_ite
theorem x143_43 {x : Int32} {l0 l1 l2 l4 : Value} : qEx d 143 43 st [l0, l1, l2, .int x, l4] σ μ la Q ↔ qEx d 143 44 (.int x :: st) [l0, l1, l2, .int x, l4] σ μ la Q := (qEx_eq (i := .iload_n 3) rfl).trans Iff.rfl
theorem x143_44  : qEx d 143 44 st ls σ μ la Q ↔ qEx d 143 45 (.int 4 :: st) ls σ μ la Q := (qEx_eq (i := .iconst 4) rfl).trans Iff.rfl
theorem x143_45 {x y : Int32} : qEx d 143 45 (.int y :: .int x :: st) ls σ μ la Q ↔ (if x < y then qEx d 143 58 st ls σ μ la Q else qEx d 143 48 st ls σ μ la Q) := (qEx_eq (i := .if_icmp .lt 13) rfl).trans qExA_ite
theorem x143_48 {x : Int32} {l0 l1 l3 l4 : Value} : qEx d 143 48 st [l0, l1, .int x, l3, l4] σ μ la Q ↔ qEx d 143 49 (.int x :: st) [l0, l1, .int x, l3, l4] σ μ la Q := (qEx_eq (i := .iload_n 2) rfl).trans Iff.rfl
theorem x143_49  : qEx d 143 49 st ls σ μ la Q ↔ qEx d 143 50 (.int 4 :: st) ls σ μ la Q := (qEx_eq (i := .iconst 4) rfl).trans Iff.rfl
theorem x143_50 {x y : Int32} : qEx d 143 50 (.int y :: .int x :: st) ls σ μ la Q ↔ (if ¬ x = y then qEx d 143 62 st ls σ μ la Q else qEx d 143 53 st ls σ μ la Q) := (qEx_eq (i := .if_icmp .ne 12) rfl).trans qExA_ite
theorem x143_53 {x : Int32} {l0 l1 l2 l4 : Value} : qEx d 143 53 st [l0, l1, l2, .int x, l4] σ μ la Q ↔ qEx d 143 54 (.int x :: st) [l0, l1, l2, .int x, l4] σ μ la Q := (qEx_eq (i := .iload_n 3) rfl).trans Iff.rfl
theorem x143_54  : qEx d 143 54 st ls σ μ la Q ↔ qEx d 143 55 (.int 5 :: st) ls σ μ la Q := (qEx_eq (i := .iconst 5) rfl).trans Iff.rfl
theorem x143_55 {x y : Int32} : qEx d 143 55 (.int y :: .int x :: st) ls σ μ la Q ↔ (if ¬ x = y then qEx d 143 62 st ls σ μ la Q else qEx d 143 58 st ls σ μ la Q) := (qEx_eq (i := .if_icmp .ne 7) rfl).trans qExA_ite
theorem x143_58  : qEx d 143 58 st ls σ μ la Q ↔ qEx d 143 59 (.int 1 :: st) ls σ μ la Q := (qEx_eq (i := .iconst 1) rfl).trans Iff.rfl
theorem x143_59  : qEx d 143 59 st ls σ μ la Q ↔ qEx d 143 63 st ls σ μ la Q := (qEx_eq (i := .goto 4) rfl).trans Iff.rfl
theorem x143_62  : qEx d 143 62 st ls σ μ la Q ↔ qEx d 143 63 (.int 0 :: st) ls σ μ la Q := (qEx_eq (i := .iconst 0) rfl).trans Iff.rfl
theorem x143_63 {x : Int32} {l0 l1 l2 l3 l4 : Value} : qEx d 143 63 (.int x :: st) [l0, l1, l2, l3, l4] σ μ la Q ↔ qEx d 143 65 st [l0, l1, l2, l3, .int x] σ μ la Q := (qEx_eq (i := .istore 4) rfl).trans Iff.rfl
theorem x143_65 {x : Int32} {l0 l1 l2 l3 : Value} : qEx d 143 65 st [l0, l1, l2, l3, .int x] σ μ la Q ↔ qEx d 143 67 (.int x :: st) [l0, l1, l2, l3, .int x] σ μ la Q := (qEx_eq (i := .iload 4) rfl).trans Iff.rfl
theorem x143_67 {x : Int32} : qEx d 143 67 (.int x :: st) ls σ μ la Q ↔ (if x = 0 then qEx d 143 74 st ls σ μ la Q else qEx d 143 70 st ls σ μ la Q) := (qEx_eq (i := .ifCond .eq 7) rfl).trans qExA_ite
theorem x143_70 {x : Int32} {l0 l2 l3 l4 : Value} : qEx d 143 70 st [l0, .int x, l2, l3, l4] σ μ la Q ↔ qEx d 143 71 (.int x :: st) [l0, .int x, l2, l3, l4] σ μ la Q := (qEx_eq (i := .iload_n 1) rfl).trans Iff.rfl
theorem x143_71  : qEx d 143 71 st ls σ μ la Q ↔ qEx d 143 76 st ls σ μ la Q := (qEx_eq (i := .goto 5) rfl).trans Iff.rfl
theorem x143_74  : qEx d 143 74 st ls σ μ la Q ↔ qEx d 143 76 (.int (-12) :: st) ls σ μ la Q := (qEx_eq (i := .bipush (-12)) rfl).trans Iff.rfl
theorem x143_76 {x : Int32} : qEx d 143 76 [.int x] ls σ μ la Q ↔ Q (some (.int x)) σ μ la := (qEx_eq (i := .ireturn) rfl).trans Iff.rfl
theorem x144_0 {x : Int32} : qEx d 144 0 st [.int x] σ μ la Q ↔ qEx d 144 1 (.int x :: st) [.int x] σ μ la Q := (qEx_eq (i := .iload_n 0) rfl).trans Iff.rfl
theorem x144_1 {x : Int32} : qEx d 144 1 (.int x :: st) ls σ μ la Q ↔ (if ¬ x = 0 then qEx d 144 8 st ls σ μ la Q else qEx d 144 4 st ls σ μ la Q) := (qEx_eq (i := .ifCond .ne 7) rfl).trans qExA_ite
theorem x144_4  : qEx d 144 4 st ls σ μ la Q ↔ qEx d 144 5 (.int 1 :: st) ls σ μ la Q := (qEx_eq (i := .iconst 1) rfl).trans Iff.rfl
theorem x144_5  : qEx d 144 5 st ls σ μ la Q ↔ qEx d 144 18 st ls σ μ la Q := (qEx_eq (i := .goto 13) rfl).trans Iff.rfl
theorem x144_8 {x : Int32} : qEx d 144 8 st [.int x] σ μ la Q ↔ qEx d 144 9 (.int x :: st) [.int x] σ μ la Q := (qEx_eq (i := .iload_n 0) rfl).trans Iff.rfl
theorem x144_9  : qEx d 144 9 st ls σ μ la Q ↔ qEx d 144 10 (.int 4 :: st) ls σ μ la Q := (qEx_eq (i := .iconst 4) rfl).trans Iff.rfl
theorem x144_10 {x y : Int32} : qEx d 144 10 (.int y :: .int x :: st) ls σ μ la Q ↔ (if ¬ x = y then qEx d 144 17 st ls σ μ la Q else qEx d 144 13 st ls σ μ la Q) := (qEx_eq (i := .if_icmp .ne 7) rfl).trans qExA_ite
theorem x144_13  : qEx d 144 13 st ls σ μ la Q ↔ qEx d 144 14 (.int 3 :: st) ls σ μ la Q := (qEx_eq (i := .iconst 3) rfl).trans Iff.rfl
theorem x144_14  : qEx d 144 14 st ls σ μ la Q ↔ qEx d 144 18 st ls σ μ la Q := (qEx_eq (i := .goto 4) rfl).trans Iff.rfl
theorem x144_17  : qEx d 144 17 st ls σ μ la Q ↔ qEx d 144 18 (.int 2 :: st) ls σ μ la Q := (qEx_eq (i := .iconst 2) rfl).trans Iff.rfl
theorem x144_18 {x : Int32} : qEx d 144 18 [.int x] ls σ μ la Q ↔ Q (some (.int x)) σ μ la := (qEx_eq (i := .ireturn) rfl).trans Iff.rfl
theorem x145_0 {x : Int32} {l0 l2 l3 l4 : Value} : qEx d 145 0 st [l0, .int x, l2, l3, l4] σ μ la Q ↔ qEx d 145 1 (.int x :: st) [l0, .int x, l2, l3, l4] σ μ la Q := (qEx_eq (i := .iload_n 1) rfl).trans Iff.rfl
theorem x145_1  : qEx d 145 1 st ls σ μ la Q ↔ qEx d 145 3 (.int 8 :: st) ls σ μ la Q := (qEx_eq (i := .bipush 8) rfl).trans Iff.rfl
theorem x145_3 {x y : Int32} : qEx d 145 3 (.int y :: .int x :: st) ls σ μ la Q ↔ (¬ y = 0 ∧ qEx d 145 4 (.int (x / y) :: st) ls σ μ la Q) := (qEx_eq (i := .idiv) rfl).trans qExA_chk
theorem x145_4 {x : Int32} {l0 l1 l3 l4 : Value} : qEx d 145 4 st [l0, l1, .int x, l3, l4] σ μ la Q ↔ qEx d 145 5 (.int x :: st) [l0, l1, .int x, l3, l4] σ μ la Q := (qEx_eq (i := .iload_n 2) rfl).trans Iff.rfl
theorem x145_5 {x : Int32} : qEx d 145 5 (.int x :: st) ls σ μ la Q ↔ (if ¬ x = 0 then qEx d 145 12 st ls σ μ la Q else qEx d 145 8 st ls σ μ la Q) := (qEx_eq (i := .ifCond .ne 7) rfl).trans qExA_ite
theorem x145_8  : qEx d 145 8 st ls σ μ la Q ↔ qEx d 145 9 (.int (-1) :: st) ls σ μ la Q := (qEx_eq (i := .iconst (-1)) rfl).trans Iff.rfl
theorem x145_9  : qEx d 145 9 st ls σ μ la Q ↔ qEx d 145 22 st ls σ μ la Q := (qEx_eq (i := .goto 13) rfl).trans Iff.rfl
theorem x145_12 {x : Int32} {l0 l1 l3 l4 : Value} : qEx d 145 12 st [l0, l1, .int x, l3, l4] σ μ la Q ↔ qEx d 145 13 (.int x :: st) [l0, l1, .int x, l3, l4] σ μ la Q := (qEx_eq (i := .iload_n 2) rfl).trans Iff.rfl
theorem x145_13  : qEx d 145 13 st ls σ μ la Q ↔ qEx d 145 14 (.int 2 :: st) ls σ μ la Q := (qEx_eq (i := .iconst 2) rfl).trans Iff.rfl
theorem x145_14 {x y : Int32} : qEx d 145 14 (.int y :: .int x :: st) ls σ μ la Q ↔ (if ¬ x = y then qEx d 145 21 st ls σ μ la Q else qEx d 145 17 st ls σ μ la Q) := (qEx_eq (i := .if_icmp .ne 7) rfl).trans qExA_ite
theorem x145_17  : qEx d 145 17 st ls σ μ la Q ↔ qEx d 145 18 (.int 1 :: st) ls σ μ la Q := (qEx_eq (i := .iconst 1) rfl).trans Iff.rfl
theorem x145_18  : qEx d 145 18 st ls σ μ la Q ↔ qEx d 145 22 st ls σ μ la Q := (qEx_eq (i := .goto 4) rfl).trans Iff.rfl
theorem x145_21  : qEx d 145 21 st ls σ μ la Q ↔ qEx d 145 22 (.int 0 :: st) ls σ μ la Q := (qEx_eq (i := .iconst 0) rfl).trans Iff.rfl
theorem x145_22 {x y : Int32} : qEx d 145 22 (.int y :: .int x :: st) ls σ μ la Q ↔ qEx d 145 23 (.int (x + y) :: st) ls σ μ la Q := (qEx_eq (i := .iadd) rfl).trans Iff.rfl
theorem x145_23 {x : Int32} {l0 l1 l2 l3 l4 : Value} : qEx d 145 23 (.int x :: st) [l0, l1, l2, l3, l4] σ μ la Q ↔ qEx d 145 24 st [l0, l1, l2, .int x, l4] σ μ la Q := (qEx_eq (i := .istore_n 3) rfl).trans Iff.rfl
theorem x145_24 {x : Int32} {l0 l2 l3 l4 : Value} : qEx d 145 24 st [l0, .int x, l2, l3, l4] σ μ la Q ↔ qEx d 145 25 (.int x :: st) [l0, .int x, l2, l3, l4] σ μ la Q := (qEx_eq (i := .iload_n 1) rfl).trans Iff.rfl
theorem x145_25  : qEx d 145 25 st ls σ μ la Q ↔ qEx d 145 27 (.int 8 :: st) ls σ μ la Q := (qEx_eq (i := .bipush 8) rfl).trans Iff.rfl
theorem x145_27 {x y : Int32} : qEx d 145 27 (.int y :: .int x :: st) ls σ μ la Q ↔ (¬ y = 0 ∧ qEx d 145 28 (.int (x - x / y * y) :: st) ls σ μ la Q) := (qEx_eq (i := .irem) rfl).trans qExA_chk
theorem x145_28 {x : Int32} {l0 l1 l3 l4 : Value} : qEx d 145 28 st [l0, l1, .int x, l3, l4] σ μ la Q ↔ qEx d 145 29 (.int x :: st) [l0, l1, .int x, l3, l4] σ μ la Q := (qEx_eq (i := .iload_n 2) rfl).trans Iff.rfl
theorem x145_29  : qEx d 145 29 st ls σ μ la Q ↔ qEx d 145 30 (.int 1 :: st) ls σ μ la Q := (qEx_eq (i := .iconst 1) rfl).trans Iff.rfl
theorem x145_30 {x y : Int32} : qEx d 145 30 (.int y :: .int x :: st) ls σ μ la Q ↔ (if ¬ x = y then qEx d 145 37 st ls σ μ la Q else qEx d 145 33 st ls σ μ la Q) := (qEx_eq (i := .if_icmp .ne 7) rfl).trans qExA_ite
theorem x145_33  : qEx d 145 33 st ls σ μ la Q ↔ qEx d 145 34 (.int 1 :: st) ls σ μ la Q := (qEx_eq (i := .iconst 1) rfl).trans Iff.rfl
theorem x145_34  : qEx d 145 34 st ls σ μ la Q ↔ qEx d 145 47 st ls σ μ la Q := (qEx_eq (i := .goto 13) rfl).trans Iff.rfl
theorem x145_37 {x : Int32} {l0 l1 l3 l4 : Value} : qEx d 145 37 st [l0, l1, .int x, l3, l4] σ μ la Q ↔ qEx d 145 38 (.int x :: st) [l0, l1, .int x, l3, l4] σ μ la Q := (qEx_eq (i := .iload_n 2) rfl).trans Iff.rfl
theorem x145_38  : qEx d 145 38 st ls σ μ la Q ↔ qEx d 145 39 (.int 3 :: st) ls σ μ la Q := (qEx_eq (i := .iconst 3) rfl).trans Iff.rfl
theorem x145_39 {x y : Int32} : qEx d 145 39 (.int y :: .int x :: st) ls σ μ la Q ↔ (if ¬ x = y then qEx d 145 46 st ls σ μ la Q else qEx d 145 42 st ls σ μ la Q) := (qEx_eq (i := .if_icmp .ne 7) rfl).trans qExA_ite
theorem x145_42  : qEx d 145 42 st ls σ μ la Q ↔ qEx d 145 43 (.int (-1) :: st) ls σ μ la Q := (qEx_eq (i := .iconst (-1)) rfl).trans Iff.rfl
theorem x145_43  : qEx d 145 43 st ls σ μ la Q ↔ qEx d 145 47 st ls σ μ la Q := (qEx_eq (i := .goto 4) rfl).trans Iff.rfl
theorem x145_46  : qEx d 145 46 st ls σ μ la Q ↔ qEx d 145 47 (.int 0 :: st) ls σ μ la Q := (qEx_eq (i := .iconst 0) rfl).trans Iff.rfl
theorem x145_47 {x y : Int32} : qEx d 145 47 (.int y :: .int x :: st) ls σ μ la Q ↔ qEx d 145 48 (.int (x + y) :: st) ls σ μ la Q := (qEx_eq (i := .iadd) rfl).trans Iff.rfl
theorem x145_48 {x : Int32} {l0 l1 l2 l3 l4 : Value} : qEx d 145 48 (.int x :: st) [l0, l1, l2, l3, l4] σ μ la Q ↔ qEx d 145 50 st [l0, l1, l2, l3, .int x] σ μ la Q := (qEx_eq (i := .istore 4) rfl).trans Iff.rfl
theorem x145_50 {x : Int32} {l0 l1 l2 l4 : Value} : qEx d 145 50 st [l0, l1, l2, .int x, l4] σ μ la Q ↔ qEx d 145 51 (.int x :: st) [l0, l1, l2, .int x, l4] σ μ la Q := (qEx_eq (i := .iload_n 3) rfl).trans Iff.rfl
theorem x145_51  : qEx d 145 51 st ls σ μ la Q ↔ qEx d 145 52 (.int 0 :: st) ls σ μ la Q := (qEx_eq (i := .iconst 0) rfl).trans Iff.rfl
theorem x145_52 {x : Nat} {l1 l2 l3 l4 : Value} : qEx d 145 52 st [.ref x, l1, l2, l3, l4] σ μ la Q ↔ qEx d 145 53 (.ref x :: st) [.ref x, l1, l2, l3, l4] σ μ la Q := (qEx_eq (i := .aload_n 0) rfl).trans Iff.rfl
theorem x145_53  : qEx d 145 53 st ls σ μ la Q ↔ qEx d 145 55 (.int 114 :: st) ls σ μ la Q := (qEx_eq (i := .bipush 114) rfl).trans Iff.rfl
theorem x145_55 {x : Int32} {a : Nat} : qEx d 145 55 (.int x :: .ref a :: st) ls σ μ la Q ↔ (qIn x (qIld σ μ a) = true ∧ qEx d 145 56 (.int (μ a x.toNatClampNeg) :: st) ls σ μ la Q) := (qEx_eq (i := .iaload) rfl).trans qExA_chk
theorem x145_56  : qEx d 145 56 st ls σ μ la Q ↔ qEx d 145 57 (.int 1 :: st) ls σ μ la Q := (qEx_eq (i := .iconst 1) rfl).trans Iff.rfl
theorem x145_57 {x y : Int32} : qEx d 145 57 (.int y :: .int x :: st) ls σ μ la Q ↔ qEx d 145 58 (.int (x - y) :: st) ls σ μ la Q := (qEx_eq (i := .isub) rfl).trans Iff.rfl
theorem x145_58 {y0 : Int32} {y1 : Int32} {y2 : Int32} : qEx (d + 1) 145 58 [.int y2, .int y1, .int y0] ls σ μ la Q ↔ qEx d 118 0 [] [.int y0, .int y1, .int y2] σ μ la fun r σ' μ' la' => qEx (d + 1) 145 61 (r.toList ++ []) ls σ' μ' la' Q := (qEx_eq (i := .invokestatic 63) rfl).trans Iff.rfl
theorem x145_61 {x : Int32} : qEx d 145 61 (.int x :: st) ls σ μ la Q ↔ (if x = 0 then qEx d 145 89 st ls σ μ la Q else qEx d 145 64 st ls σ μ la Q) := (qEx_eq (i := .ifCond .eq 28) rfl).trans qExA_ite
theorem x145_64 {x : Int32} {l0 l1 l2 l3 : Value} : qEx d 145 64 st [l0, l1, l2, l3, .int x] σ μ la Q ↔ qEx d 145 66 (.int x :: st) [l0, l1, l2, l3, .int x] σ μ la Q := (qEx_eq (i := .iload 4) rfl).trans Iff.rfl
theorem x145_66  : qEx d 145 66 st ls σ μ la Q ↔ qEx d 145 67 (.int 0 :: st) ls σ μ la Q := (qEx_eq (i := .iconst 0) rfl).trans Iff.rfl
theorem x145_67 {x : Nat} {l1 l2 l3 l4 : Value} : qEx d 145 67 st [.ref x, l1, l2, l3, l4] σ μ la Q ↔ qEx d 145 68 (.ref x :: st) [.ref x, l1, l2, l3, l4] σ μ la Q := (qEx_eq (i := .aload_n 0) rfl).trans Iff.rfl
theorem x145_68  : qEx d 145 68 st ls σ μ la Q ↔ qEx d 145 70 (.int 113 :: st) ls σ μ la Q := (qEx_eq (i := .bipush 113) rfl).trans Iff.rfl
theorem x145_70 {x : Int32} {a : Nat} : qEx d 145 70 (.int x :: .ref a :: st) ls σ μ la Q ↔ (qIn x (qIld σ μ a) = true ∧ qEx d 145 71 (.int (μ a x.toNatClampNeg) :: st) ls σ μ la Q) := (qEx_eq (i := .iaload) rfl).trans qExA_chk
theorem x145_71  : qEx d 145 71 st ls σ μ la Q ↔ qEx d 145 72 (.int 1 :: st) ls σ μ la Q := (qEx_eq (i := .iconst 1) rfl).trans Iff.rfl
theorem x145_72 {x y : Int32} : qEx d 145 72 (.int y :: .int x :: st) ls σ μ la Q ↔ qEx d 145 73 (.int (x - y) :: st) ls σ μ la Q := (qEx_eq (i := .isub) rfl).trans Iff.rfl
theorem x145_73 {y0 : Int32} {y1 : Int32} {y2 : Int32} : qEx (d + 1) 145 73 [.int y2, .int y1, .int y0] ls σ μ la Q ↔ qEx d 118 0 [] [.int y0, .int y1, .int y2] σ μ la fun r σ' μ' la' => qEx (d + 1) 145 76 (r.toList ++ []) ls σ' μ' la' Q := (qEx_eq (i := .invokestatic 63) rfl).trans Iff.rfl
theorem x145_76 {x : Int32} : qEx d 145 76 (.int x :: st) ls σ μ la Q ↔ (if x = 0 then qEx d 145 89 st ls σ μ la Q else qEx d 145 79 st ls σ μ la Q) := (qEx_eq (i := .ifCond .eq 13) rfl).trans qExA_ite
theorem x145_79  : qEx d 145 79 st ls σ μ la Q ↔ qEx d 145 81 (.int 8 :: st) ls σ μ la Q := (qEx_eq (i := .bipush 8) rfl).trans Iff.rfl
theorem x145_81 {x : Int32} {l0 l1 l2 l4 : Value} : qEx d 145 81 st [l0, l1, l2, .int x, l4] σ μ la Q ↔ qEx d 145 82 (.int x :: st) [l0, l1, l2, .int x, l4] σ μ la Q := (qEx_eq (i := .iload_n 3) rfl).trans Iff.rfl
theorem x145_82 {x y : Int32} : qEx d 145 82 (.int y :: .int x :: st) ls σ μ la Q ↔ qEx d 145 83 (.int (x * y) :: st) ls σ μ la Q := (qEx_eq (i := .imul) rfl).trans Iff.rfl
theorem x145_83 {x : Int32} {l0 l1 l2 l3 : Value} : qEx d 145 83 st [l0, l1, l2, l3, .int x] σ μ la Q ↔ qEx d 145 85 (.int x :: st) [l0, l1, l2, l3, .int x] σ μ la Q := (qEx_eq (i := .iload 4) rfl).trans Iff.rfl
theorem x145_85 {x y : Int32} : qEx d 145 85 (.int y :: .int x :: st) ls σ μ la Q ↔ qEx d 145 86 (.int (x + y) :: st) ls σ μ la Q := (qEx_eq (i := .iadd) rfl).trans Iff.rfl
theorem x145_86  : qEx d 145 86 st ls σ μ la Q ↔ qEx d 145 90 st ls σ μ la Q := (qEx_eq (i := .goto 4) rfl).trans Iff.rfl
theorem x145_89  : qEx d 145 89 st ls σ μ la Q ↔ qEx d 145 90 (.int (-1) :: st) ls σ μ la Q := (qEx_eq (i := .iconst (-1)) rfl).trans Iff.rfl
theorem x145_90 {x : Int32} : qEx d 145 90 [.int x] ls σ μ la Q ↔ Q (some (.int x)) σ μ la := (qEx_eq (i := .ireturn) rfl).trans Iff.rfl
theorem x146_0 {x : Nat} {l1 l2 l3 : Value} : qEx d 146 0 st [.ref x, l1, l2, l3] σ μ la Q ↔ qEx d 146 1 (.ref x :: st) [.ref x, l1, l2, l3] σ μ la Q := (qEx_eq (i := .aload_n 0) rfl).trans Iff.rfl
theorem x146_1  : qEx d 146 1 st ls σ μ la Q ↔ qEx d 146 3 (.int 116 :: st) ls σ μ la Q := (qEx_eq (i := .bipush 116) rfl).trans Iff.rfl
theorem x146_3 {x : Int32} {a : Nat} : qEx d 146 3 (.int x :: .ref a :: st) ls σ μ la Q ↔ (qIn x (qIld σ μ a) = true ∧ qEx d 146 4 (.int (μ a x.toNatClampNeg) :: st) ls σ μ la Q) := (qEx_eq (i := .iaload) rfl).trans qExA_chk
theorem x146_4  : qEx d 146 4 st ls σ μ la Q ↔ qEx d 146 5 (.int 1 :: st) ls σ μ la Q := (qEx_eq (i := .iconst 1) rfl).trans Iff.rfl
theorem x146_5 {x y : Int32} : qEx d 146 5 (.int y :: .int x :: st) ls σ μ la Q ↔ (if ¬ x = y then qEx d 146 12 st ls σ μ la Q else qEx d 146 8 st ls σ μ la Q) := (qEx_eq (i := .if_icmp .ne 7) rfl).trans qExA_ite
theorem x146_8  : qEx d 146 8 st ls σ μ la Q ↔ qEx d 146 9 (.int 0 :: st) ls σ μ la Q := (qEx_eq (i := .iconst 0) rfl).trans Iff.rfl
theorem x146_9  : qEx d 146 9 st ls σ μ la Q ↔ qEx d 146 13 st ls σ μ la Q := (qEx_eq (i := .goto 4) rfl).trans Iff.rfl
theorem x146_12 {x : Int32} {l0 l1 l3 : Value} : qEx d 146 12 st [l0, l1, .int x, l3] σ μ la Q ↔ qEx d 146 13 (.int x :: st) [l0, l1, .int x, l3] σ μ la Q := (qEx_eq (i := .iload_n 2) rfl).trans Iff.rfl
theorem x146_13 {x : Int32} {l0 l1 l2 l3 : Value} : qEx d 146 13 (.int x :: st) [l0, l1, l2, l3] σ μ la Q ↔ qEx d 146 14 st [l0, l1, l2, .int x] σ μ la Q := (qEx_eq (i := .istore_n 3) rfl).trans Iff.rfl
theorem x146_14 {x : Int32} {l0 l2 l3 : Value} : qEx d 146 14 st [l0, .int x, l2, l3] σ μ la Q ↔ qEx d 146 15 (.int x :: st) [l0, .int x, l2, l3] σ μ la Q := (qEx_eq (i := .iload_n 1) rfl).trans Iff.rfl
theorem x146_15  : qEx d 146 15 st ls σ μ la Q ↔ qEx d 146 16 (.int 3 :: st) ls σ μ la Q := (qEx_eq (i := .iconst 3) rfl).trans Iff.rfl
theorem x146_16 {x y : Int32} : qEx d 146 16 (.int y :: .int x :: st) ls σ μ la Q ↔ (if ¬ x = y then qEx d 146 27 st ls σ μ la Q else qEx d 146 19 st ls σ μ la Q) := (qEx_eq (i := .if_icmp .ne 11) rfl).trans qExA_ite
theorem x146_19 {x : Int32} {l0 l1 l2 : Value} : qEx d 146 19 st [l0, l1, l2, .int x] σ μ la Q ↔ qEx d 146 20 (.int x :: st) [l0, l1, l2, .int x] σ μ la Q := (qEx_eq (i := .iload_n 3) rfl).trans Iff.rfl
theorem x146_20  : qEx d 146 20 st ls σ μ la Q ↔ qEx d 146 21 (.int 3 :: st) ls σ μ la Q := (qEx_eq (i := .iconst 3) rfl).trans Iff.rfl
theorem x146_21 {x y : Int32} : qEx d 146 21 (.int y :: .int x :: st) ls σ μ la Q ↔ qEx d 146 22 (.int (x + y) :: st) ls σ μ la Q := (qEx_eq (i := .iadd) rfl).trans Iff.rfl
theorem x146_22  : qEx d 146 22 st ls σ μ la Q ↔ qEx d 146 23 (.int 4 :: st) ls σ μ la Q := (qEx_eq (i := .iconst 4) rfl).trans Iff.rfl
theorem x146_23 {x y : Int32} : qEx d 146 23 (.int y :: .int x :: st) ls σ μ la Q ↔ (¬ y = 0 ∧ qEx d 146 24 (.int (x - x / y * y) :: st) ls σ μ la Q) := (qEx_eq (i := .irem) rfl).trans qExA_chk
theorem x146_24  : qEx d 146 24 st ls σ μ la Q ↔ qEx d 146 32 st ls σ μ la Q := (qEx_eq (i := .goto 8) rfl).trans Iff.rfl
theorem x146_27 {x : Int32} {l0 l1 l2 : Value} : qEx d 146 27 st [l0, l1, l2, .int x] σ μ la Q ↔ qEx d 146 28 (.int x :: st) [l0, l1, l2, .int x] σ μ la Q := (qEx_eq (i := .iload_n 3) rfl).trans Iff.rfl
theorem x146_28  : qEx d 146 28 st ls σ μ la Q ↔ qEx d 146 29 (.int 2 :: st) ls σ μ la Q := (qEx_eq (i := .iconst 2) rfl).trans Iff.rfl
theorem x146_29 {x y : Int32} : qEx d 146 29 (.int y :: .int x :: st) ls σ μ la Q ↔ qEx d 146 30 (.int (x + y) :: st) ls σ μ la Q := (qEx_eq (i := .iadd) rfl).trans Iff.rfl
theorem x146_30  : qEx d 146 30 st ls σ μ la Q ↔ qEx d 146 31 (.int 4 :: st) ls σ μ la Q := (qEx_eq (i := .iconst 4) rfl).trans Iff.rfl
theorem x146_31 {x y : Int32} : qEx d 146 31 (.int y :: .int x :: st) ls σ μ la Q ↔ (¬ y = 0 ∧ qEx d 146 32 (.int (x - x / y * y) :: st) ls σ μ la Q) := (qEx_eq (i := .irem) rfl).trans qExA_chk
theorem x146_32 {x : Int32} : qEx d 146 32 [.int x] ls σ μ la Q ↔ Q (some (.int x)) σ μ la := (qEx_eq (i := .ireturn) rfl).trans Iff.rfl
theorem x147_0 {x : Nat} {l0 l2 l3 l4 l5 l6 l7 l8 l9 l10 : Value} : qEx d 147 0 st [l0, .ref x, l2, l3, l4, l5, l6, l7, l8, l9, l10] σ μ la Q ↔ qEx d 147 1 (.ref x :: st) [l0, .ref x, l2, l3, l4, l5, l6, l7, l8, l9, l10] σ μ la Q := (qEx_eq (i := .aload_n 1) rfl).trans Iff.rfl
theorem x147_1 {x : Int32} {l0 l1 l2 l4 l5 l6 l7 l8 l9 l10 : Value} : qEx d 147 1 st [l0, l1, l2, .int x, l4, l5, l6, l7, l8, l9, l10] σ μ la Q ↔ qEx d 147 2 (.int x :: st) [l0, l1, l2, .int x, l4, l5, l6, l7, l8, l9, l10] σ μ la Q := (qEx_eq (i := .iload_n 3) rfl).trans Iff.rfl
theorem x147_2 {x : Int32} {l0 l1 l2 l3 l5 l6 l7 l8 l9 l10 : Value} : qEx d 147 2 st [l0, l1, l2, l3, .int x, l5, l6, l7, l8, l9, l10] σ μ la Q ↔ qEx d 147 4 (.int x :: st) [l0, l1, l2, l3, .int x, l5, l6, l7, l8, l9, l10] σ μ la Q := (qEx_eq (i := .iload 4) rfl).trans Iff.rfl
theorem x147_4 {y0 : Nat} {y1 : Int32} {y2 : Int32} : qEx (d + 1) 147 4 [.int y2, .int y1, .ref y0] ls σ μ la Q ↔ qEx d 146 0 [] [.ref y0, .int y1, .int y2, .retAddr 0] σ μ la fun r σ' μ' la' => qEx (d + 1) 147 7 (r.toList ++ []) ls σ' μ' la' Q := (qEx_eq (i := .invokestatic 135) rfl).trans Iff.rfl
theorem x147_7 {x : Int32} {l0 l1 l2 l3 l4 l5 l6 l7 l8 l9 l10 : Value} : qEx d 147 7 (.int x :: st) [l0, l1, l2, l3, l4, l5, l6, l7, l8, l9, l10] σ μ la Q ↔ qEx d 147 9 st [l0, l1, l2, l3, l4, l5, .int x, l7, l8, l9, l10] σ μ la Q := (qEx_eq (i := .istore 6) rfl).trans Iff.rfl
theorem x147_9 {x : Nat} {l1 l2 l3 l4 l5 l6 l7 l8 l9 l10 : Value} : qEx d 147 9 st [.ref x, l1, l2, l3, l4, l5, l6, l7, l8, l9, l10] σ μ la Q ↔ qEx d 147 10 (.ref x :: st) [.ref x, l1, l2, l3, l4, l5, l6, l7, l8, l9, l10] σ μ la Q := (qEx_eq (i := .aload_n 0) rfl).trans Iff.rfl
theorem x147_10 {x : Int32} {l0 l1 l2 l4 l5 l6 l7 l8 l9 l10 : Value} : qEx d 147 10 st [l0, l1, l2, .int x, l4, l5, l6, l7, l8, l9, l10] σ μ la Q ↔ qEx d 147 11 (.int x :: st) [l0, l1, l2, .int x, l4, l5, l6, l7, l8, l9, l10] σ μ la Q := (qEx_eq (i := .iload_n 3) rfl).trans Iff.rfl
theorem x147_11  : qEx d 147 11 st ls σ μ la Q ↔ qEx d 147 12 (.int 2 :: st) ls σ μ la Q := (qEx_eq (i := .iconst 2) rfl).trans Iff.rfl
theorem x147_12 {x y : Int32} : qEx d 147 12 (.int y :: .int x :: st) ls σ μ la Q ↔ (if ¬ x = y then qEx d 147 22 st ls σ μ la Q else qEx d 147 15 st ls σ μ la Q) := (qEx_eq (i := .if_icmp .ne 10) rfl).trans qExA_ite
theorem x147_15 {x : Int32} {l0 l1 l2 l3 l4 l6 l7 l8 l9 l10 : Value} : qEx d 147 15 st [l0, l1, l2, l3, l4, .int x, l6, l7, l8, l9, l10] σ μ la Q ↔ qEx d 147 17 (.int x :: st) [l0, l1, l2, l3, l4, .int x, l6, l7, l8, l9, l10] σ μ la Q := (qEx_eq (i := .iload 5) rfl).trans Iff.rfl
theorem x147_17  : qEx d 147 17 st ls σ μ la Q ↔ qEx d 147 18 (.int 2 :: st) ls σ μ la Q := (qEx_eq (i := .iconst 2) rfl).trans Iff.rfl
theorem x147_18 {x y : Int32} : qEx d 147 18 (.int y :: .int x :: st) ls σ μ la Q ↔ (¬ y = 0 ∧ qEx d 147 19 (.int (x / y) :: st) ls σ μ la Q) := (qEx_eq (i := .idiv) rfl).trans qExA_chk
theorem x147_19  : qEx d 147 19 st ls σ μ la Q ↔ qEx d 147 24 st ls σ μ la Q := (qEx_eq (i := .goto 5) rfl).trans Iff.rfl
theorem x147_22 {x : Int32} {l0 l1 l2 l3 l4 l6 l7 l8 l9 l10 : Value} : qEx d 147 22 st [l0, l1, l2, l3, l4, .int x, l6, l7, l8, l9, l10] σ μ la Q ↔ qEx d 147 24 (.int x :: st) [l0, l1, l2, l3, l4, .int x, l6, l7, l8, l9, l10] σ μ la Q := (qEx_eq (i := .iload 5) rfl).trans Iff.rfl
theorem x147_24 {x : Int32} {a : Nat} : qEx d 147 24 (.int x :: .ref a :: st) ls σ μ la Q ↔ (qOk σ a 7 = true ∧ qEx d 147 27 st ls σ (qset μ a 16 x) la Q) := (qEx_eq (i := .putfield 139) rfl).trans qExA_chk
theorem x147_27 {x : Nat} {l1 l2 l3 l4 l5 l6 l7 l8 l9 l10 : Value} : qEx d 147 27 st [.ref x, l1, l2, l3, l4, l5, l6, l7, l8, l9, l10] σ μ la Q ↔ qEx d 147 28 (.ref x :: st) [.ref x, l1, l2, l3, l4, l5, l6, l7, l8, l9, l10] σ μ la Q := (qEx_eq (i := .aload_n 0) rfl).trans Iff.rfl
theorem x147_28  : qEx d 147 28 st ls σ μ la Q ↔ qEx d 147 29 (.int 0 :: st) ls σ μ la Q := (qEx_eq (i := .iconst 0) rfl).trans Iff.rfl
theorem x147_29 {x : Int32} {a : Nat} : qEx d 147 29 (.int x :: .ref a :: st) ls σ μ la Q ↔ (qOk σ a 7 = true ∧ qEx d 147 32 st ls σ (qset μ a 15 x) la Q) := (qEx_eq (i := .putfield 142) rfl).trans qExA_chk
theorem x147_32  : qEx d 147 32 st ls σ μ la Q ↔ qEx d 147 33 (.int 1 :: st) ls σ μ la Q := (qEx_eq (i := .iconst 1) rfl).trans Iff.rfl
theorem x147_33 {x : Int32} {l0 l1 l2 l3 l4 l5 l6 l7 l8 l9 l10 : Value} : qEx d 147 33 (.int x :: st) [l0, l1, l2, l3, l4, l5, l6, l7, l8, l9, l10] σ μ la Q ↔ qEx d 147 35 st [l0, l1, l2, l3, l4, l5, l6, .int x, l8, l9, l10] σ μ la Q := (qEx_eq (i := .istore 7) rfl).trans Iff.rfl
theorem x147_35 {x : Nat} {l0 l2 l3 l4 l5 l6 l7 l8 l9 l10 : Value} : qEx d 147 35 st [l0, .ref x, l2, l3, l4, l5, l6, l7, l8, l9, l10] σ μ la Q ↔ qEx d 147 36 (.ref x :: st) [l0, .ref x, l2, l3, l4, l5, l6, l7, l8, l9, l10] σ μ la Q := (qEx_eq (i := .aload_n 1) rfl).trans Iff.rfl
theorem x147_36 {x : Nat} {l0 l2 l3 l4 l5 l6 l7 l8 l9 l10 : Value} : qEx d 147 36 st [l0, .ref x, l2, l3, l4, l5, l6, l7, l8, l9, l10] σ μ la Q ↔ qEx d 147 37 (.ref x :: st) [l0, .ref x, l2, l3, l4, l5, l6, l7, l8, l9, l10] σ μ la Q := (qEx_eq (i := .aload_n 1) rfl).trans Iff.rfl
theorem x147_37  : qEx d 147 37 st ls σ μ la Q ↔ qEx d 147 38 (.int 1 :: st) ls σ μ la Q := (qEx_eq (i := .iconst 1) rfl).trans Iff.rfl
theorem x147_38 {x : Int32} {l0 l1 l3 l4 l5 l6 l7 l8 l9 l10 : Value} : qEx d 147 38 st [l0, l1, .int x, l3, l4, l5, l6, l7, l8, l9, l10] σ μ la Q ↔ qEx d 147 39 (.int x :: st) [l0, l1, .int x, l3, l4, l5, l6, l7, l8, l9, l10] σ μ la Q := (qEx_eq (i := .iload_n 2) rfl).trans Iff.rfl
theorem x147_39 {x y : Int32} : qEx d 147 39 (.int y :: .int x :: st) ls σ μ la Q ↔ qEx d 147 40 (.int (x + y) :: st) ls σ μ la Q := (qEx_eq (i := .iadd) rfl).trans Iff.rfl
theorem x147_40 {x : Int32} {a : Nat} : qEx d 147 40 (.int x :: .ref a :: st) ls σ μ la Q ↔ (qIn x (qIld σ μ a) = true ∧ qEx d 147 41 (.int (μ a x.toNatClampNeg) :: st) ls σ μ la Q) := (qEx_eq (i := .iaload) rfl).trans qExA_chk
theorem x147_41 {x : Int32} {l0 l1 l2 l3 l4 l5 l7 l8 l9 l10 : Value} : qEx d 147 41 st [l0, l1, l2, l3, l4, l5, .int x, l7, l8, l9, l10] σ μ la Q ↔ qEx d 147 43 (.int x :: st) [l0, l1, l2, l3, l4, l5, .int x, l7, l8, l9, l10] σ μ la Q := (qEx_eq (i := .iload 6) rfl).trans Iff.rfl
theorem x147_43 {y0 : Nat} {y1 : Int32} {y2 : Int32} : qEx (d + 1) 147 43 [.int y2, .int y1, .ref y0] ls σ μ la Q ↔ qEx d 145 0 [] [.ref y0, .int y1, .int y2, .retAddr 0, .retAddr 0] σ μ la fun r σ' μ' la' => qEx (d + 1) 147 46 (r.toList ++ []) ls σ' μ' la' Q := (qEx_eq (i := .invokestatic 145) rfl).trans Iff.rfl
theorem x147_46 {x : Int32} {l0 l1 l2 l3 l4 l5 l6 l7 l8 l9 l10 : Value} : qEx d 147 46 (.int x :: st) [l0, l1, l2, l3, l4, l5, l6, l7, l8, l9, l10] σ μ la Q ↔ qEx d 147 48 st [l0, l1, l2, l3, l4, l5, l6, l7, .int x, l9, l10] σ μ la Q := (qEx_eq (i := .istore 8) rfl).trans Iff.rfl
theorem x147_48 {x : Int32} {l0 l1 l2 l3 l4 l5 l6 l8 l9 l10 : Value} : qEx d 147 48 st [l0, l1, l2, l3, l4, l5, l6, .int x, l8, l9, l10] σ μ la Q ↔ qEx d 147 50 (.int x :: st) [l0, l1, l2, l3, l4, l5, l6, .int x, l8, l9, l10] σ μ la Q := (qEx_eq (i := .iload 7) rfl).trans Iff.rfl
theorem x147_50 {x : Int32} : qEx d 147 50 (.int x :: st) ls σ μ la Q ↔ (if x = 0 then qEx d 147 235 st ls σ μ la Q else qEx d 147 53 st ls σ μ la Q) := (qEx_eq (i := .ifCond .eq 185) rfl).trans qExA_ite
theorem x147_53 {x : Nat} {l0 l2 l3 l4 l5 l6 l7 l8 l9 l10 : Value} : qEx d 147 53 st [l0, .ref x, l2, l3, l4, l5, l6, l7, l8, l9, l10] σ μ la Q ↔ qEx d 147 54 (.ref x :: st) [l0, .ref x, l2, l3, l4, l5, l6, l7, l8, l9, l10] σ μ la Q := (qEx_eq (i := .aload_n 1) rfl).trans Iff.rfl
theorem x147_54 {x : Nat} {l0 l2 l3 l4 l5 l6 l7 l8 l9 l10 : Value} : qEx d 147 54 st [l0, .ref x, l2, l3, l4, l5, l6, l7, l8, l9, l10] σ μ la Q ↔ qEx d 147 55 (.ref x :: st) [l0, .ref x, l2, l3, l4, l5, l6, l7, l8, l9, l10] σ μ la Q := (qEx_eq (i := .aload_n 1) rfl).trans Iff.rfl
theorem x147_55  : qEx d 147 55 st ls σ μ la Q ↔ qEx d 147 56 (.int 1 :: st) ls σ μ la Q := (qEx_eq (i := .iconst 1) rfl).trans Iff.rfl
theorem x147_56 {x : Int32} {l0 l1 l3 l4 l5 l6 l7 l8 l9 l10 : Value} : qEx d 147 56 st [l0, l1, .int x, l3, l4, l5, l6, l7, l8, l9, l10] σ μ la Q ↔ qEx d 147 57 (.int x :: st) [l0, l1, .int x, l3, l4, l5, l6, l7, l8, l9, l10] σ μ la Q := (qEx_eq (i := .iload_n 2) rfl).trans Iff.rfl
theorem x147_57 {x y : Int32} : qEx d 147 57 (.int y :: .int x :: st) ls σ μ la Q ↔ qEx d 147 58 (.int (x + y) :: st) ls σ μ la Q := (qEx_eq (i := .iadd) rfl).trans Iff.rfl
theorem x147_58 {x : Int32} {a : Nat} : qEx d 147 58 (.int x :: .ref a :: st) ls σ μ la Q ↔ (qIn x (qIld σ μ a) = true ∧ qEx d 147 59 (.int (μ a x.toNatClampNeg) :: st) ls σ μ la Q) := (qEx_eq (i := .iaload) rfl).trans qExA_chk
theorem x147_59 {x : Int32} {l0 l1 l2 l3 l4 l5 l7 l8 l9 l10 : Value} : qEx d 147 59 st [l0, l1, l2, l3, l4, l5, .int x, l7, l8, l9, l10] σ μ la Q ↔ qEx d 147 61 (.int x :: st) [l0, l1, l2, l3, l4, l5, .int x, l7, l8, l9, l10] σ μ la Q := (qEx_eq (i := .iload 6) rfl).trans Iff.rfl
theorem x147_61 {y0 : Nat} {y1 : Int32} {y2 : Int32} : qEx (d + 1) 147 61 [.int y2, .int y1, .ref y0] ls σ μ la Q ↔ qEx d 145 0 [] [.ref y0, .int y1, .int y2, .retAddr 0, .retAddr 0] σ μ la fun r σ' μ' la' => qEx (d + 1) 147 64 (r.toList ++ []) ls σ' μ' la' Q := (qEx_eq (i := .invokestatic 145) rfl).trans Iff.rfl
theorem x147_64 {x : Int32} {l0 l1 l2 l3 l4 l5 l6 l7 l8 l9 l10 : Value} : qEx d 147 64 (.int x :: st) [l0, l1, l2, l3, l4, l5, l6, l7, l8, l9, l10] σ μ la Q ↔ qEx d 147 66 st [l0, l1, l2, l3, l4, l5, l6, l7, .int x, l9, l10] σ μ la Q := (qEx_eq (i := .istore 8) rfl).trans Iff.rfl
theorem x147_66 {x : Int32} {l0 l1 l2 l3 l4 l5 l6 l7 l9 l10 : Value} : qEx d 147 66 st [l0, l1, l2, l3, l4, l5, l6, l7, .int x, l9, l10] σ μ la Q ↔ qEx d 147 68 (.int x :: st) [l0, l1, l2, l3, l4, l5, l6, l7, .int x, l9, l10] σ μ la Q := (qEx_eq (i := .iload 8) rfl).trans Iff.rfl
theorem x147_68 {x : Int32} : qEx d 147 68 (.int x :: st) ls σ μ la Q ↔ (if x < 0 then qEx d 147 86 st ls σ μ la Q else qEx d 147 71 st ls σ μ la Q) := (qEx_eq (i := .ifCond .lt 18) rfl).trans qExA_ite
theorem x147_71 {x : Nat} {l0 l2 l3 l4 l5 l6 l7 l8 l9 l10 : Value} : qEx d 147 71 st [l0, .ref x, l2, l3, l4, l5, l6, l7, l8, l9, l10] σ μ la Q ↔ qEx d 147 72 (.ref x :: st) [l0, .ref x, l2, l3, l4, l5, l6, l7, l8, l9, l10] σ μ la Q := (qEx_eq (i := .aload_n 1) rfl).trans Iff.rfl
theorem x147_72 {x : Int32} {l0 l1 l2 l3 l4 l5 l6 l7 l9 l10 : Value} : qEx d 147 72 st [l0, l1, l2, l3, l4, l5, l6, l7, .int x, l9, l10] σ μ la Q ↔ qEx d 147 74 (.int x :: st) [l0, l1, l2, l3, l4, l5, l6, l7, .int x, l9, l10] σ μ la Q := (qEx_eq (i := .iload 8) rfl).trans Iff.rfl
theorem x147_74 {y0 : Nat} {y1 : Int32} : qEx (d + 1) 147 74 [.int y1, .ref y0] ls σ μ la Q ↔ qEx d 141 0 [] [.ref y0, .int y1, .retAddr 0, .retAddr 0] σ μ la fun r σ' μ' la' => qEx (d + 1) 147 77 (r.toList ++ []) ls σ' μ' la' Q := (qEx_eq (i := .invokestatic 131) rfl).trans Iff.rfl
theorem x147_77  : qEx d 147 77 st ls σ μ la Q ↔ qEx d 147 79 (.int (-4) :: st) ls σ μ la Q := (qEx_eq (i := .bipush (-4)) rfl).trans Iff.rfl
theorem x147_79 {x y : Int32} : qEx d 147 79 (.int y :: .int x :: st) ls σ μ la Q ↔ (if ¬ x = y then qEx d 147 86 st ls σ μ la Q else qEx d 147 82 st ls σ μ la Q) := (qEx_eq (i := .if_icmp .ne 7) rfl).trans qExA_ite
theorem x147_82  : qEx d 147 82 st ls σ μ la Q ↔ qEx d 147 83 (.int 1 :: st) ls σ μ la Q := (qEx_eq (i := .iconst 1) rfl).trans Iff.rfl
theorem x147_83  : qEx d 147 83 st ls σ μ la Q ↔ qEx d 147 87 st ls σ μ la Q := (qEx_eq (i := .goto 4) rfl).trans Iff.rfl
theorem x147_86  : qEx d 147 86 st ls σ μ la Q ↔ qEx d 147 87 (.int 0 :: st) ls σ μ la Q := (qEx_eq (i := .iconst 0) rfl).trans Iff.rfl
theorem x147_87 {x : Int32} {l0 l1 l2 l3 l4 l5 l6 l7 l8 l9 l10 : Value} : qEx d 147 87 (.int x :: st) [l0, l1, l2, l3, l4, l5, l6, l7, l8, l9, l10] σ μ la Q ↔ qEx d 147 89 st [l0, l1, l2, l3, l4, l5, l6, .int x, l8, l9, l10] σ μ la Q := (qEx_eq (i := .istore 7) rfl).trans Iff.rfl
theorem x147_89 {x : Int32} {l0 l1 l2 l3 l4 l5 l6 l8 l9 l10 : Value} : qEx d 147 89 st [l0, l1, l2, l3, l4, l5, l6, .int x, l8, l9, l10] σ μ la Q ↔ qEx d 147 91 (.int x :: st) [l0, l1, l2, l3, l4, l5, l6, .int x, l8, l9, l10] σ μ la Q := (qEx_eq (i := .iload 7) rfl).trans Iff.rfl
theorem x147_91 {x : Int32} : qEx d 147 91 (.int x :: st) ls σ μ la Q ↔ (if x = 0 then qEx d 147 104 st ls σ μ la Q else qEx d 147 94 st ls σ μ la Q) := (qEx_eq (i := .ifCond .eq 13) rfl).trans qExA_ite
theorem x147_94 {x : Nat} {l0 l2 l3 l4 l5 l6 l7 l8 l9 l10 : Value} : qEx d 147 94 st [l0, .ref x, l2, l3, l4, l5, l6, l7, l8, l9, l10] σ μ la Q ↔ qEx d 147 95 (.ref x :: st) [l0, .ref x, l2, l3, l4, l5, l6, l7, l8, l9, l10] σ μ la Q := (qEx_eq (i := .aload_n 1) rfl).trans Iff.rfl
theorem x147_95  : qEx d 147 95 st ls σ μ la Q ↔ qEx d 147 97 (.int 49 :: st) ls σ μ la Q := (qEx_eq (i := .bipush 49) rfl).trans Iff.rfl
theorem x147_97 {x : Int32} {l0 l1 l2 l3 l4 l5 l6 l7 l9 l10 : Value} : qEx d 147 97 st [l0, l1, l2, l3, l4, l5, l6, l7, .int x, l9, l10] σ μ la Q ↔ qEx d 147 99 (.int x :: st) [l0, l1, l2, l3, l4, l5, l6, l7, .int x, l9, l10] σ μ la Q := (qEx_eq (i := .iload 8) rfl).trans Iff.rfl
theorem x147_99 {x y : Int32} : qEx d 147 99 (.int y :: .int x :: st) ls σ μ la Q ↔ qEx d 147 100 (.int (x + y) :: st) ls σ μ la Q := (qEx_eq (i := .iadd) rfl).trans Iff.rfl
theorem x147_100 {x : Int32} {a : Nat} : qEx d 147 100 (.int x :: .ref a :: st) ls σ μ la Q ↔ (qIn x (qIld σ μ a) = true ∧ qEx d 147 101 (.int (μ a x.toNatClampNeg) :: st) ls σ μ la Q) := (qEx_eq (i := .iaload) rfl).trans qExA_chk
theorem x147_101  : qEx d 147 101 st ls σ μ la Q ↔ qEx d 147 105 st ls σ μ la Q := (qEx_eq (i := .goto 4) rfl).trans Iff.rfl
theorem x147_104  : qEx d 147 104 st ls σ μ la Q ↔ qEx d 147 105 (.int 1 :: st) ls σ μ la Q := (qEx_eq (i := .iconst 1) rfl).trans Iff.rfl
theorem x147_105 {x : Int32} {l0 l1 l2 l3 l4 l5 l6 l7 l8 l9 l10 : Value} : qEx d 147 105 (.int x :: st) [l0, l1, l2, l3, l4, l5, l6, l7, l8, l9, l10] σ μ la Q ↔ qEx d 147 107 st [l0, l1, l2, l3, l4, l5, l6, l7, l8, .int x, l10] σ μ la Q := (qEx_eq (i := .istore 9) rfl).trans Iff.rfl
theorem x147_107 {x : Int32} {l0 l1 l2 l3 l4 l5 l6 l7 l8 l10 : Value} : qEx d 147 107 st [l0, l1, l2, l3, l4, l5, l6, l7, l8, .int x, l10] σ μ la Q ↔ qEx d 147 109 (.int x :: st) [l0, l1, l2, l3, l4, l5, l6, l7, l8, .int x, l10] σ μ la Q := (qEx_eq (i := .iload 9) rfl).trans Iff.rfl
theorem x147_109  : qEx d 147 109 st ls σ μ la Q ↔ qEx d 147 110 (.int 1 :: st) ls σ μ la Q := (qEx_eq (i := .iconst 1) rfl).trans Iff.rfl
theorem x147_110 {x y : Int32} : qEx d 147 110 (.int y :: .int x :: st) ls σ μ la Q ↔ (if x = y then qEx d 147 130 st ls σ μ la Q else qEx d 147 113 st ls σ μ la Q) := (qEx_eq (i := .if_icmp .eq 20) rfl).trans qExA_ite
theorem x147_113 {x : Int32} {l0 l1 l2 l4 l5 l6 l7 l8 l9 l10 : Value} : qEx d 147 113 st [l0, l1, l2, .int x, l4, l5, l6, l7, l8, l9, l10] σ μ la Q ↔ qEx d 147 114 (.int x :: st) [l0, l1, l2, .int x, l4, l5, l6, l7, l8, l9, l10] σ μ la Q := (qEx_eq (i := .iload_n 3) rfl).trans Iff.rfl
theorem x147_114  : qEx d 147 114 st ls σ μ la Q ↔ qEx d 147 115 (.int 4 :: st) ls σ μ la Q := (qEx_eq (i := .iconst 4) rfl).trans Iff.rfl
theorem x147_115 {x y : Int32} : qEx d 147 115 (.int y :: .int x :: st) ls σ μ la Q ↔ (if x < y then qEx d 147 134 st ls σ μ la Q else qEx d 147 118 st ls σ μ la Q) := (qEx_eq (i := .if_icmp .lt 19) rfl).trans qExA_ite
theorem x147_118 {x : Int32} {l0 l1 l2 l3 l4 l5 l6 l7 l8 l10 : Value} : qEx d 147 118 st [l0, l1, l2, l3, l4, l5, l6, l7, l8, .int x, l10] σ μ la Q ↔ qEx d 147 120 (.int x :: st) [l0, l1, l2, l3, l4, l5, l6, l7, l8, .int x, l10] σ μ la Q := (qEx_eq (i := .iload 9) rfl).trans Iff.rfl
theorem x147_120  : qEx d 147 120 st ls σ μ la Q ↔ qEx d 147 121 (.int 2 :: st) ls σ μ la Q := (qEx_eq (i := .iconst 2) rfl).trans Iff.rfl
theorem x147_121 {x y : Int32} : qEx d 147 121 (.int y :: .int x :: st) ls σ μ la Q ↔ (if x = y then qEx d 147 130 st ls σ μ la Q else qEx d 147 124 st ls σ μ la Q) := (qEx_eq (i := .if_icmp .eq 9) rfl).trans qExA_ite
theorem x147_124 {x : Int32} {l0 l1 l2 l3 l4 l5 l6 l7 l8 l10 : Value} : qEx d 147 124 st [l0, l1, l2, l3, l4, l5, l6, l7, l8, .int x, l10] σ μ la Q ↔ qEx d 147 126 (.int x :: st) [l0, l1, l2, l3, l4, l5, l6, l7, l8, .int x, l10] σ μ la Q := (qEx_eq (i := .iload 9) rfl).trans Iff.rfl
theorem x147_126  : qEx d 147 126 st ls σ μ la Q ↔ qEx d 147 127 (.int 3 :: st) ls σ μ la Q := (qEx_eq (i := .iconst 3) rfl).trans Iff.rfl
theorem x147_127 {x y : Int32} : qEx d 147 127 (.int y :: .int x :: st) ls σ μ la Q ↔ (if ¬ x = y then qEx d 147 134 st ls σ μ la Q else qEx d 147 130 st ls σ μ la Q) := (qEx_eq (i := .if_icmp .ne 7) rfl).trans qExA_ite
theorem x147_130  : qEx d 147 130 st ls σ μ la Q ↔ qEx d 147 131 (.int 1 :: st) ls σ μ la Q := (qEx_eq (i := .iconst 1) rfl).trans Iff.rfl
theorem x147_131  : qEx d 147 131 st ls σ μ la Q ↔ qEx d 147 135 st ls σ μ la Q := (qEx_eq (i := .goto 4) rfl).trans Iff.rfl
theorem x147_134  : qEx d 147 134 st ls σ μ la Q ↔ qEx d 147 135 (.int 0 :: st) ls σ μ la Q := (qEx_eq (i := .iconst 0) rfl).trans Iff.rfl
theorem x147_135 {x : Int32} {l0 l1 l2 l3 l4 l5 l6 l7 l8 l9 l10 : Value} : qEx d 147 135 (.int x :: st) [l0, l1, l2, l3, l4, l5, l6, l7, l8, l9, l10] σ μ la Q ↔ qEx d 147 137 st [l0, l1, l2, l3, l4, l5, l6, l7, l8, l9, .int x] σ μ la Q := (qEx_eq (i := .istore 10) rfl).trans Iff.rfl
theorem x147_137 {x : Int32} {l0 l1 l2 l3 l4 l5 l6 l8 l9 l10 : Value} : qEx d 147 137 st [l0, l1, l2, l3, l4, l5, l6, .int x, l8, l9, l10] σ μ la Q ↔ qEx d 147 139 (.int x :: st) [l0, l1, l2, l3, l4, l5, l6, .int x, l8, l9, l10] σ μ la Q := (qEx_eq (i := .iload 7) rfl).trans Iff.rfl
theorem x147_139 {x : Int32} : qEx d 147 139 (.int x :: st) ls σ μ la Q ↔ (if x = 0 then qEx d 147 163 st ls σ μ la Q else qEx d 147 142 st ls σ μ la Q) := (qEx_eq (i := .ifCond .eq 24) rfl).trans qExA_ite
theorem x147_142 {x : Int32} {l0 l1 l2 l3 l4 l5 l6 l7 l8 l9 : Value} : qEx d 147 142 st [l0, l1, l2, l3, l4, l5, l6, l7, l8, l9, .int x] σ μ la Q ↔ qEx d 147 144 (.int x :: st) [l0, l1, l2, l3, l4, l5, l6, l7, l8, l9, .int x] σ μ la Q := (qEx_eq (i := .iload 10) rfl).trans Iff.rfl
theorem x147_144 {x : Int32} : qEx d 147 144 (.int x :: st) ls σ μ la Q ↔ (if ¬ x = 0 then qEx d 147 163 st ls σ μ la Q else qEx d 147 147 st ls σ μ la Q) := (qEx_eq (i := .ifCond .ne 19) rfl).trans qExA_ite
theorem x147_147 {x : Nat} {l1 l2 l3 l4 l5 l6 l7 l8 l9 l10 : Value} : qEx d 147 147 st [.ref x, l1, l2, l3, l4, l5, l6, l7, l8, l9, l10] σ μ la Q ↔ qEx d 147 148 (.ref x :: st) [.ref x, l1, l2, l3, l4, l5, l6, l7, l8, l9, l10] σ μ la Q := (qEx_eq (i := .aload_n 0) rfl).trans Iff.rfl
theorem x147_148 {a : Nat} : qEx d 147 148 (.ref a :: st) ls σ μ la Q ↔ (qOk σ a 7 = true ∧ qEx d 147 151 (.int (μ a 16) :: st) ls σ μ la Q) := (qEx_eq (i := .getfield 139) rfl).trans qExA_chk
theorem x147_151 {x : Int32} {l0 l1 l2 l3 l4 l5 l6 l7 l8 l10 : Value} : qEx d 147 151 st [l0, l1, l2, l3, l4, l5, l6, l7, l8, .int x, l10] σ μ la Q ↔ qEx d 147 153 (.int x :: st) [l0, l1, l2, l3, l4, l5, l6, l7, l8, .int x, l10] σ μ la Q := (qEx_eq (i := .iload 9) rfl).trans Iff.rfl
theorem x147_153 {y0 : Int32} {z0 : Int32} : qEx (d + 1) 147 153 [.int y0, .int z0] ls σ μ la Q ↔ qEx d 144 0 [] [.int y0] σ μ la fun r σ' μ' la' => qEx (d + 1) 147 156 (r.toList ++ [.int z0]) ls σ' μ' la' Q := (qEx_eq (i := .invokestatic 148) rfl).trans Iff.rfl
theorem x147_156 {x y : Int32} : qEx d 147 156 (.int y :: .int x :: st) ls σ μ la Q ↔ (if x < y then qEx d 147 163 st ls σ μ la Q else qEx d 147 159 st ls σ μ la Q) := (qEx_eq (i := .if_icmp .lt 7) rfl).trans qExA_ite
theorem x147_159  : qEx d 147 159 st ls σ μ la Q ↔ qEx d 147 160 (.int 1 :: st) ls σ μ la Q := (qEx_eq (i := .iconst 1) rfl).trans Iff.rfl
theorem x147_160  : qEx d 147 160 st ls σ μ la Q ↔ qEx d 147 164 st ls σ μ la Q := (qEx_eq (i := .goto 4) rfl).trans Iff.rfl
theorem x147_163  : qEx d 147 163 st ls σ μ la Q ↔ qEx d 147 164 (.int 0 :: st) ls σ μ la Q := (qEx_eq (i := .iconst 0) rfl).trans Iff.rfl
theorem x147_164 {x : Int32} {l0 l1 l2 l3 l4 l5 l6 l7 l8 l9 l10 : Value} : qEx d 147 164 (.int x :: st) [l0, l1, l2, l3, l4, l5, l6, l7, l8, l9, l10] σ μ la Q ↔ qEx d 147 166 st [l0, l1, l2, l3, l4, l5, l6, .int x, l8, l9, l10] σ μ la Q := (qEx_eq (i := .istore 7) rfl).trans Iff.rfl
theorem x147_166 {x : Int32} {l0 l1 l2 l3 l4 l5 l6 l8 l9 l10 : Value} : qEx d 147 166 st [l0, l1, l2, l3, l4, l5, l6, .int x, l8, l9, l10] σ μ la Q ↔ qEx d 147 168 (.int x :: st) [l0, l1, l2, l3, l4, l5, l6, .int x, l8, l9, l10] σ μ la Q := (qEx_eq (i := .iload 7) rfl).trans Iff.rfl
theorem x147_168 {x : Int32} : qEx d 147 168 (.int x :: st) ls σ μ la Q ↔ (if x = 0 then qEx d 147 232 st ls σ μ la Q else qEx d 147 171 st ls σ μ la Q) := (qEx_eq (i := .ifCond .eq 64) rfl).trans qExA_ite
theorem x147_171 {x : Nat} {l1 l2 l3 l4 l5 l6 l7 l8 l9 l10 : Value} : qEx d 147 171 st [.ref x, l1, l2, l3, l4, l5, l6, l7, l8, l9, l10] σ μ la Q ↔ qEx d 147 172 (.ref x :: st) [.ref x, l1, l2, l3, l4, l5, l6, l7, l8, l9, l10] σ μ la Q := (qEx_eq (i := .aload_n 0) rfl).trans Iff.rfl
theorem x147_172 {x : Nat} : qEx d 147 172 (.ref x :: st) ls σ μ la Q ↔ qEx d 147 173 (.ref x :: .ref x :: st) ls σ μ la Q := (qEx_eq (i := .dup) rfl).trans Iff.rfl
theorem x147_173 {a : Nat} : qEx d 147 173 (.ref a :: st) ls σ μ la Q ↔ (qOk σ a 7 = true ∧ qEx d 147 176 (.int (μ a 16) :: st) ls σ μ la Q) := (qEx_eq (i := .getfield 139) rfl).trans qExA_chk
theorem x147_176 {x : Int32} {l0 l1 l2 l3 l4 l5 l6 l7 l8 l10 : Value} : qEx d 147 176 st [l0, l1, l2, l3, l4, l5, l6, l7, l8, .int x, l10] σ μ la Q ↔ qEx d 147 178 (.int x :: st) [l0, l1, l2, l3, l4, l5, l6, l7, l8, .int x, l10] σ μ la Q := (qEx_eq (i := .iload 9) rfl).trans Iff.rfl
theorem x147_178 {y0 : Int32} {z0 : Int32} {z1 : Nat} : qEx (d + 1) 147 178 [.int y0, .int z0, .ref z1] ls σ μ la Q ↔ qEx d 144 0 [] [.int y0] σ μ la fun r σ' μ' la' => qEx (d + 1) 147 181 (r.toList ++ [.int z0, .ref z1]) ls σ' μ' la' Q := (qEx_eq (i := .invokestatic 148) rfl).trans Iff.rfl
theorem x147_181 {x y : Int32} : qEx d 147 181 (.int y :: .int x :: st) ls σ μ la Q ↔ qEx d 147 182 (.int (x - y) :: st) ls σ μ la Q := (qEx_eq (i := .isub) rfl).trans Iff.rfl
theorem x147_182 {x : Int32} {a : Nat} : qEx d 147 182 (.int x :: .ref a :: st) ls σ μ la Q ↔ (qOk σ a 7 = true ∧ qEx d 147 185 st ls σ (qset μ a 16 x) la Q) := (qEx_eq (i := .putfield 139) rfl).trans qExA_chk
theorem x147_185 {x : Nat} {l0 l2 l3 l4 l5 l6 l7 l8 l9 l10 : Value} : qEx d 147 185 st [l0, .ref x, l2, l3, l4, l5, l6, l7, l8, l9, l10] σ μ la Q ↔ qEx d 147 186 (.ref x :: st) [l0, .ref x, l2, l3, l4, l5, l6, l7, l8, l9, l10] σ μ la Q := (qEx_eq (i := .aload_n 1) rfl).trans Iff.rfl
theorem x147_186  : qEx d 147 186 st ls σ μ la Q ↔ qEx d 147 188 (.int 49 :: st) ls σ μ la Q := (qEx_eq (i := .bipush 49) rfl).trans Iff.rfl
theorem x147_188 {x : Int32} {l0 l1 l2 l3 l4 l5 l6 l7 l9 l10 : Value} : qEx d 147 188 st [l0, l1, l2, l3, l4, l5, l6, l7, .int x, l9, l10] σ μ la Q ↔ qEx d 147 190 (.int x :: st) [l0, l1, l2, l3, l4, l5, l6, l7, .int x, l9, l10] σ μ la Q := (qEx_eq (i := .iload 8) rfl).trans Iff.rfl
theorem x147_190 {x y : Int32} : qEx d 147 190 (.int y :: .int x :: st) ls σ μ la Q ↔ qEx d 147 191 (.int (x + y) :: st) ls σ μ la Q := (qEx_eq (i := .iadd) rfl).trans Iff.rfl
theorem x147_191 {x : Int32} {l0 l1 l2 l3 l4 l5 l6 l7 l8 l10 : Value} : qEx d 147 191 st [l0, l1, l2, l3, l4, l5, l6, l7, l8, .int x, l10] σ μ la Q ↔ qEx d 147 193 (.int x :: st) [l0, l1, l2, l3, l4, l5, l6, l7, l8, .int x, l10] σ μ la Q := (qEx_eq (i := .iload 9) rfl).trans Iff.rfl
theorem x147_193  : qEx d 147 193 st ls σ μ la Q ↔ qEx d 147 194 (.int 4 :: st) ls σ μ la Q := (qEx_eq (i := .iconst 4) rfl).trans Iff.rfl
theorem x147_194 {x y : Int32} : qEx d 147 194 (.int y :: .int x :: st) ls σ μ la Q ↔ (if ¬ x = y then qEx d 147 201 st ls σ μ la Q else qEx d 147 197 st ls σ μ la Q) := (qEx_eq (i := .if_icmp .ne 7) rfl).trans qExA_ite
theorem x147_197  : qEx d 147 197 st ls σ μ la Q ↔ qEx d 147 198 (.int 0 :: st) ls σ μ la Q := (qEx_eq (i := .iconst 0) rfl).trans Iff.rfl
theorem x147_198  : qEx d 147 198 st ls σ μ la Q ↔ qEx d 147 203 st ls σ μ la Q := (qEx_eq (i := .goto 5) rfl).trans Iff.rfl
theorem x147_201 {x : Int32} {l0 l1 l2 l3 l4 l5 l6 l7 l8 l10 : Value} : qEx d 147 201 st [l0, l1, l2, l3, l4, l5, l6, l7, l8, .int x, l10] σ μ la Q ↔ qEx d 147 203 (.int x :: st) [l0, l1, l2, l3, l4, l5, l6, l7, l8, .int x, l10] σ μ la Q := (qEx_eq (i := .iload 9) rfl).trans Iff.rfl
theorem x147_203 {x y : Int32} {a : Nat} : qEx d 147 203 (.int y :: .int x :: .ref a :: st) ls σ μ la Q ↔ (qIn x (qLen σ 10 a) = true ∧ qEx d 147 204 st ls σ (qset μ a x.toNatClampNeg y) la Q) := (qEx_eq (i := .iastore) rfl).trans qExA_chk
theorem x147_204 {x : Nat} {l0 l2 l3 l4 l5 l6 l7 l8 l9 l10 : Value} : qEx d 147 204 st [l0, .ref x, l2, l3, l4, l5, l6, l7, l8, l9, l10] σ μ la Q ↔ qEx d 147 205 (.ref x :: st) [l0, .ref x, l2, l3, l4, l5, l6, l7, l8, l9, l10] σ μ la Q := (qEx_eq (i := .aload_n 1) rfl).trans Iff.rfl
theorem x147_205  : qEx d 147 205 st ls σ μ la Q ↔ qEx d 147 206 (.int 1 :: st) ls σ μ la Q := (qEx_eq (i := .iconst 1) rfl).trans Iff.rfl
theorem x147_206 {x : Int32} {l0 l1 l3 l4 l5 l6 l7 l8 l9 l10 : Value} : qEx d 147 206 st [l0, l1, .int x, l3, l4, l5, l6, l7, l8, l9, l10] σ μ la Q ↔ qEx d 147 207 (.int x :: st) [l0, l1, .int x, l3, l4, l5, l6, l7, l8, l9, l10] σ μ la Q := (qEx_eq (i := .iload_n 2) rfl).trans Iff.rfl
theorem x147_207 {x y : Int32} : qEx d 147 207 (.int y :: .int x :: st) ls σ μ la Q ↔ qEx d 147 208 (.int (x + y) :: st) ls σ μ la Q := (qEx_eq (i := .iadd) rfl).trans Iff.rfl
theorem x147_208 {x : Int32} {l0 l1 l2 l3 l4 l5 l6 l7 l9 l10 : Value} : qEx d 147 208 st [l0, l1, l2, l3, l4, l5, l6, l7, .int x, l9, l10] σ μ la Q ↔ qEx d 147 210 (.int x :: st) [l0, l1, l2, l3, l4, l5, l6, l7, .int x, l9, l10] σ μ la Q := (qEx_eq (i := .iload 8) rfl).trans Iff.rfl
theorem x147_210 {x y : Int32} {a : Nat} : qEx d 147 210 (.int y :: .int x :: .ref a :: st) ls σ μ la Q ↔ (qIn x (qLen σ 10 a) = true ∧ qEx d 147 211 st ls σ (qset μ a x.toNatClampNeg y) la Q) := (qEx_eq (i := .iastore) rfl).trans qExA_chk
theorem x147_211 {x : Nat} {l1 l2 l3 l4 l5 l6 l7 l8 l9 l10 : Value} : qEx d 147 211 st [.ref x, l1, l2, l3, l4, l5, l6, l7, l8, l9, l10] σ μ la Q ↔ qEx d 147 212 (.ref x :: st) [.ref x, l1, l2, l3, l4, l5, l6, l7, l8, l9, l10] σ μ la Q := (qEx_eq (i := .aload_n 0) rfl).trans Iff.rfl
theorem x147_212 {a : Nat} : qEx d 147 212 (.ref a :: st) ls σ μ la Q ↔ (qOk σ a 7 = true ∧ qEx d 147 215 (qrf (σ.2 a 14) :: st) ls σ μ la Q) := (qEx_eq (i := .getfield 45) rfl).trans qExA_chk
theorem x147_215 {x : Nat} {l1 l2 l3 l4 l5 l6 l7 l8 l9 l10 : Value} : qEx d 147 215 st [.ref x, l1, l2, l3, l4, l5, l6, l7, l8, l9, l10] σ μ la Q ↔ qEx d 147 216 (.ref x :: st) [.ref x, l1, l2, l3, l4, l5, l6, l7, l8, l9, l10] σ μ la Q := (qEx_eq (i := .aload_n 0) rfl).trans Iff.rfl
theorem x147_216 {a : Nat} : qEx d 147 216 (.ref a :: st) ls σ μ la Q ↔ (qOk σ a 7 = true ∧ qEx d 147 219 (.int (μ a 15) :: st) ls σ μ la Q) := (qEx_eq (i := .getfield 142) rfl).trans qExA_chk
theorem x147_219 {x : Int32} {l0 l1 l2 l3 l4 l5 l6 l7 l9 l10 : Value} : qEx d 147 219 st [l0, l1, l2, l3, l4, l5, l6, l7, .int x, l9, l10] σ μ la Q ↔ qEx d 147 221 (.int x :: st) [l0, l1, l2, l3, l4, l5, l6, l7, .int x, l9, l10] σ μ la Q := (qEx_eq (i := .iload 8) rfl).trans Iff.rfl
theorem x147_221 {x y : Int32} {a : Nat} : qEx d 147 221 (.int y :: .int x :: .ref a :: st) ls σ μ la Q ↔ (qIn x (qLen σ 10 a) = true ∧ qEx d 147 222 st ls σ (qset μ a x.toNatClampNeg y) la Q) := (qEx_eq (i := .iastore) rfl).trans qExA_chk
theorem x147_222 {x : Nat} {l1 l2 l3 l4 l5 l6 l7 l8 l9 l10 : Value} : qEx d 147 222 st [.ref x, l1, l2, l3, l4, l5, l6, l7, l8, l9, l10] σ μ la Q ↔ qEx d 147 223 (.ref x :: st) [.ref x, l1, l2, l3, l4, l5, l6, l7, l8, l9, l10] σ μ la Q := (qEx_eq (i := .aload_n 0) rfl).trans Iff.rfl
theorem x147_223 {x : Nat} : qEx d 147 223 (.ref x :: st) ls σ μ la Q ↔ qEx d 147 224 (.ref x :: .ref x :: st) ls σ μ la Q := (qEx_eq (i := .dup) rfl).trans Iff.rfl
theorem x147_224 {a : Nat} : qEx d 147 224 (.ref a :: st) ls σ μ la Q ↔ (qOk σ a 7 = true ∧ qEx d 147 227 (.int (μ a 15) :: st) ls σ μ la Q) := (qEx_eq (i := .getfield 142) rfl).trans qExA_chk
theorem x147_227  : qEx d 147 227 st ls σ μ la Q ↔ qEx d 147 228 (.int 1 :: st) ls σ μ la Q := (qEx_eq (i := .iconst 1) rfl).trans Iff.rfl
theorem x147_228 {x y : Int32} : qEx d 147 228 (.int y :: .int x :: st) ls σ μ la Q ↔ qEx d 147 229 (.int (x + y) :: st) ls σ μ la Q := (qEx_eq (i := .iadd) rfl).trans Iff.rfl
theorem x147_229 {x : Int32} {a : Nat} : qEx d 147 229 (.int x :: .ref a :: st) ls σ μ la Q ↔ (qOk σ a 7 = true ∧ qEx d 147 232 st ls σ (qset μ a 15 x) la Q) := (qEx_eq (i := .putfield 142) rfl).trans qExA_chk
theorem x147_232  : qEx d 147 232 st ls σ μ la Q ↔ qEx d 147 48 st ls σ μ la Q := (qEx_eq (i := .goto (-184)) rfl).trans Iff.rfl
theorem x147_235 {x : Nat} {l1 l2 l3 l4 l5 l6 l7 l8 l9 l10 : Value} : qEx d 147 235 st [.ref x, l1, l2, l3, l4, l5, l6, l7, l8, l9, l10] σ μ la Q ↔ qEx d 147 236 (.ref x :: st) [.ref x, l1, l2, l3, l4, l5, l6, l7, l8, l9, l10] σ μ la Q := (qEx_eq (i := .aload_n 0) rfl).trans Iff.rfl
theorem x147_236 {x : Nat} {l1 l2 l3 l4 l5 l6 l7 l8 l9 l10 : Value} : qEx d 147 236 st [.ref x, l1, l2, l3, l4, l5, l6, l7, l8, l9, l10] σ μ la Q ↔ qEx d 147 237 (.ref x :: st) [.ref x, l1, l2, l3, l4, l5, l6, l7, l8, l9, l10] σ μ la Q := (qEx_eq (i := .aload_n 0) rfl).trans Iff.rfl
theorem x147_237 {a : Nat} : qEx d 147 237 (.ref a :: st) ls σ μ la Q ↔ (qOk σ a 7 = true ∧ qEx d 147 240 (.int (μ a 16) :: st) ls σ μ la Q) := (qEx_eq (i := .getfield 139) rfl).trans qExA_chk
theorem x147_240 {x : Int32} : qEx d 147 240 (.int x :: st) ls σ μ la Q ↔ (if x ≤ 0 then qEx d 147 263 st ls σ μ la Q else qEx d 147 243 st ls σ μ la Q) := (qEx_eq (i := .ifCond .le 23) rfl).trans qExA_ite
theorem x147_243 {x : Int32} {l0 l1 l2 l3 l4 l5 l6 l7 l9 l10 : Value} : qEx d 147 243 st [l0, l1, l2, l3, l4, l5, l6, l7, .int x, l9, l10] σ μ la Q ↔ qEx d 147 245 (.int x :: st) [l0, l1, l2, l3, l4, l5, l6, l7, .int x, l9, l10] σ μ la Q := (qEx_eq (i := .iload 8) rfl).trans Iff.rfl
theorem x147_245 {x : Int32} : qEx d 147 245 (.int x :: st) ls σ μ la Q ↔ (if x < 0 then qEx d 147 263 st ls σ μ la Q else qEx d 147 248 st ls σ μ la Q) := (qEx_eq (i := .ifCond .lt 18) rfl).trans qExA_ite
theorem x147_248 {x : Nat} {l0 l2 l3 l4 l5 l6 l7 l8 l9 l10 : Value} : qEx d 147 248 st [l0, .ref x, l2, l3, l4, l5, l6, l7, l8, l9, l10] σ μ la Q ↔ qEx d 147 249 (.ref x :: st) [l0, .ref x, l2, l3, l4, l5, l6, l7, l8, l9, l10] σ μ la Q := (qEx_eq (i := .aload_n 1) rfl).trans Iff.rfl
theorem x147_249 {x : Int32} {l0 l1 l2 l3 l4 l5 l6 l7 l9 l10 : Value} : qEx d 147 249 st [l0, l1, l2, l3, l4, l5, l6, l7, .int x, l9, l10] σ μ la Q ↔ qEx d 147 251 (.int x :: st) [l0, l1, l2, l3, l4, l5, l6, l7, .int x, l9, l10] σ μ la Q := (qEx_eq (i := .iload 8) rfl).trans Iff.rfl
theorem x147_251 {y0 : Nat} {y1 : Int32} {z0 : Nat} : qEx (d + 1) 147 251 [.int y1, .ref y0, .ref z0] ls σ μ la Q ↔ qEx d 141 0 [] [.ref y0, .int y1, .retAddr 0, .retAddr 0] σ μ la fun r σ' μ' la' => qEx (d + 1) 147 254 (r.toList ++ [.ref z0]) ls σ' μ' la' Q := (qEx_eq (i := .invokestatic 131) rfl).trans Iff.rfl
theorem x147_254  : qEx d 147 254 st ls σ μ la Q ↔ qEx d 147 256 (.int (-4) :: st) ls σ μ la Q := (qEx_eq (i := .bipush (-4)) rfl).trans Iff.rfl
theorem x147_256 {x y : Int32} : qEx d 147 256 (.int y :: .int x :: st) ls σ μ la Q ↔ (if x = y then qEx d 147 263 st ls σ μ la Q else qEx d 147 259 st ls σ μ la Q) := (qEx_eq (i := .if_icmp .eq 7) rfl).trans qExA_ite
theorem x147_259  : qEx d 147 259 st ls σ μ la Q ↔ qEx d 147 260 (.int 1 :: st) ls σ μ la Q := (qEx_eq (i := .iconst 1) rfl).trans Iff.rfl
theorem x147_260  : qEx d 147 260 st ls σ μ la Q ↔ qEx d 147 264 st ls σ μ la Q := (qEx_eq (i := .goto 4) rfl).trans Iff.rfl
theorem x147_263  : qEx d 147 263 st ls σ μ la Q ↔ qEx d 147 264 (.int 0 :: st) ls σ μ la Q := (qEx_eq (i := .iconst 0) rfl).trans Iff.rfl
theorem x147_264 {x : Int32} {a : Nat} : qEx d 147 264 (.int x :: .ref a :: st) ls σ μ la Q ↔ ((qOk σ a 7 = true ∧ (x = 0 ∨ x = 1)) ∧ qEx d 147 267 st ls σ (qset μ a 17 x) la Q) := (qEx_eq (i := .putfield 151) rfl).trans qExA_chk
theorem x147_267  : qEx d 147 267 [] ls σ μ la Q ↔ Q none σ μ la := (qEx_eq (i := .return_) rfl).trans Iff.rfl
theorem x148_0 {x : Nat} {l0 l2 l3 l4 : Value} : qEx d 148 0 st [l0, .ref x, l2, l3, l4] σ μ la Q ↔ qEx d 148 1 (.ref x :: st) [l0, .ref x, l2, l3, l4] σ μ la Q := (qEx_eq (i := .aload_n 1) rfl).trans Iff.rfl
theorem x148_1  : qEx d 148 1 st ls σ μ la Q ↔ qEx d 148 3 (.int 118 :: st) ls σ μ la Q := (qEx_eq (i := .bipush 118) rfl).trans Iff.rfl
theorem x148_3 {x : Int32} {l0 l1 l3 l4 : Value} : qEx d 148 3 st [l0, l1, .int x, l3, l4] σ μ la Q ↔ qEx d 148 4 (.int x :: st) [l0, l1, .int x, l3, l4] σ μ la Q := (qEx_eq (i := .iload_n 2) rfl).trans Iff.rfl
theorem x148_4 {x y : Int32} : qEx d 148 4 (.int y :: .int x :: st) ls σ μ la Q ↔ qEx d 148 5 (.int (x + y) :: st) ls σ μ la Q := (qEx_eq (i := .iadd) rfl).trans Iff.rfl
theorem x148_5 {x : Int32} {a : Nat} : qEx d 148 5 (.int x :: .ref a :: st) ls σ μ la Q ↔ (qIn x (qIld σ μ a) = true ∧ qEx d 148 6 (.int (μ a x.toNatClampNeg) :: st) ls σ μ la Q) := (qEx_eq (i := .iaload) rfl).trans qExA_chk
theorem x148_6 {x : Int32} {l0 l1 l2 l3 l4 : Value} : qEx d 148 6 (.int x :: st) [l0, l1, l2, l3, l4] σ μ la Q ↔ qEx d 148 7 st [l0, l1, l2, .int x, l4] σ μ la Q := (qEx_eq (i := .istore_n 3) rfl).trans Iff.rfl
theorem x148_7 {x : Nat} {l1 l2 l3 l4 : Value} : qEx d 148 7 st [.ref x, l1, l2, l3, l4] σ μ la Q ↔ qEx d 148 8 (.ref x :: st) [.ref x, l1, l2, l3, l4] σ μ la Q := (qEx_eq (i := .aload_n 0) rfl).trans Iff.rfl
theorem x148_8 {x : Nat} {l0 l2 l3 l4 : Value} : qEx d 148 8 st [l0, .ref x, l2, l3, l4] σ μ la Q ↔ qEx d 148 9 (.ref x :: st) [l0, .ref x, l2, l3, l4] σ μ la Q := (qEx_eq (i := .aload_n 1) rfl).trans Iff.rfl
theorem x148_9 {x : Int32} {l0 l1 l3 l4 : Value} : qEx d 148 9 st [l0, l1, .int x, l3, l4] σ μ la Q ↔ qEx d 148 10 (.int x :: st) [l0, l1, .int x, l3, l4] σ μ la Q := (qEx_eq (i := .iload_n 2) rfl).trans Iff.rfl
theorem x148_10 {x : Int32} {l0 l1 l2 l4 : Value} : qEx d 148 10 st [l0, l1, l2, .int x, l4] σ μ la Q ↔ qEx d 148 11 (.int x :: st) [l0, l1, l2, .int x, l4] σ μ la Q := (qEx_eq (i := .iload_n 3) rfl).trans Iff.rfl
theorem x148_11 {x : Nat} {l0 l2 l3 l4 : Value} : qEx d 148 11 st [l0, .ref x, l2, l3, l4] σ μ la Q ↔ qEx d 148 12 (.ref x :: st) [l0, .ref x, l2, l3, l4] σ μ la Q := (qEx_eq (i := .aload_n 1) rfl).trans Iff.rfl
theorem x148_12  : qEx d 148 12 st ls σ μ la Q ↔ qEx d 148 14 (.int 7 :: st) ls σ μ la Q := (qEx_eq (i := .bipush 7) rfl).trans Iff.rfl
theorem x148_14 {x : Int32} {l0 l1 l3 l4 : Value} : qEx d 148 14 st [l0, l1, .int x, l3, l4] σ μ la Q ↔ qEx d 148 15 (.int x :: st) [l0, l1, .int x, l3, l4] σ μ la Q := (qEx_eq (i := .iload_n 2) rfl).trans Iff.rfl
theorem x148_15 {x y : Int32} : qEx d 148 15 (.int y :: .int x :: st) ls σ μ la Q ↔ qEx d 148 16 (.int (x + y) :: st) ls σ μ la Q := (qEx_eq (i := .iadd) rfl).trans Iff.rfl
theorem x148_16 {x : Int32} {a : Nat} : qEx d 148 16 (.int x :: .ref a :: st) ls σ μ la Q ↔ (qIn x (qIld σ μ a) = true ∧ qEx d 148 17 (.int (μ a x.toNatClampNeg) :: st) ls σ μ la Q) := (qEx_eq (i := .iaload) rfl).trans qExA_chk
theorem x148_17 {x : Nat} {l0 l2 l3 l4 : Value} : qEx d 148 17 st [l0, .ref x, l2, l3, l4] σ μ la Q ↔ qEx d 148 18 (.ref x :: st) [l0, .ref x, l2, l3, l4] σ μ la Q := (qEx_eq (i := .aload_n 1) rfl).trans Iff.rfl
theorem x148_18  : qEx d 148 18 st ls σ μ la Q ↔ qEx d 148 20 (.int 13 :: st) ls σ μ la Q := (qEx_eq (i := .bipush 13) rfl).trans Iff.rfl
theorem x148_20 {x : Int32} {l0 l1 l3 l4 : Value} : qEx d 148 20 st [l0, l1, .int x, l3, l4] σ μ la Q ↔ qEx d 148 21 (.int x :: st) [l0, l1, .int x, l3, l4] σ μ la Q := (qEx_eq (i := .iload_n 2) rfl).trans Iff.rfl
theorem x148_21 {x y : Int32} : qEx d 148 21 (.int y :: .int x :: st) ls σ μ la Q ↔ qEx d 148 22 (.int (x + y) :: st) ls σ μ la Q := (qEx_eq (i := .iadd) rfl).trans Iff.rfl
theorem x148_22 {x : Int32} {a : Nat} : qEx d 148 22 (.int x :: .ref a :: st) ls σ μ la Q ↔ (qIn x (qIld σ μ a) = true ∧ qEx d 148 23 (.int (μ a x.toNatClampNeg) :: st) ls σ μ la Q) := (qEx_eq (i := .iaload) rfl).trans qExA_chk
theorem x148_23 {y0 : Nat} {y1 : Int32} {y2 : Int32} {y3 : Int32} {y4 : Int32} {a : Nat} : qEx (d + 1) 148 23 [.int y4, .int y3, .int y2, .int y1, .ref y0, .ref a] ls σ μ la Q ↔ (qOk σ a 7 = true ∧ qEx d 147 0 [] [.ref a, .ref y0, .int y1, .int y2, .int y3, .int y4, .retAddr 0, .retAddr 0, .retAddr 0, .retAddr 0, .retAddr 0] σ μ la fun r σ' μ' la' => qEx (d + 1) 148 26 (r.toList ++ []) ls σ' μ' la' Q) := (qEx_eq (i := .invokevirtual 155) rfl).trans qExA_chk
theorem x148_26 {x : Nat} {l0 l2 l3 l4 : Value} : qEx d 148 26 st [l0, .ref x, l2, l3, l4] σ μ la Q ↔ qEx d 148 27 (.ref x :: st) [l0, .ref x, l2, l3, l4] σ μ la Q := (qEx_eq (i := .aload_n 1) rfl).trans Iff.rfl
theorem x148_27  : qEx d 148 27 st ls σ μ la Q ↔ qEx d 148 29 (.int 13 :: st) ls σ μ la Q := (qEx_eq (i := .bipush 13) rfl).trans Iff.rfl
theorem x148_29 {x : Int32} {l0 l1 l3 l4 : Value} : qEx d 148 29 st [l0, l1, .int x, l3, l4] σ μ la Q ↔ qEx d 148 30 (.int x :: st) [l0, l1, .int x, l3, l4] σ μ la Q := (qEx_eq (i := .iload_n 2) rfl).trans Iff.rfl
theorem x148_30 {x y : Int32} : qEx d 148 30 (.int y :: .int x :: st) ls σ μ la Q ↔ qEx d 148 31 (.int (x + y) :: st) ls σ μ la Q := (qEx_eq (i := .iadd) rfl).trans Iff.rfl
theorem x148_31 {x : Nat} {l0 l2 l3 l4 : Value} : qEx d 148 31 st [l0, .ref x, l2, l3, l4] σ μ la Q ↔ qEx d 148 32 (.ref x :: st) [l0, .ref x, l2, l3, l4] σ μ la Q := (qEx_eq (i := .aload_n 1) rfl).trans Iff.rfl
theorem x148_32  : qEx d 148 32 st ls σ μ la Q ↔ qEx d 148 34 (.int 117 :: st) ls σ μ la Q := (qEx_eq (i := .bipush 117) rfl).trans Iff.rfl
theorem x148_34 {x : Int32} {a : Nat} : qEx d 148 34 (.int x :: .ref a :: st) ls σ μ la Q ↔ (qIn x (qIld σ μ a) = true ∧ qEx d 148 35 (.int (μ a x.toNatClampNeg) :: st) ls σ μ la Q) := (qEx_eq (i := .iaload) rfl).trans qExA_chk
theorem x148_35  : qEx d 148 35 st ls σ μ la Q ↔ qEx d 148 36 (.int 1 :: st) ls σ μ la Q := (qEx_eq (i := .iconst 1) rfl).trans Iff.rfl
theorem x148_36 {x y : Int32} : qEx d 148 36 (.int y :: .int x :: st) ls σ μ la Q ↔ (if ¬ x = y then qEx d 148 46 st ls σ μ la Q else qEx d 148 39 st ls σ μ la Q) := (qEx_eq (i := .if_icmp .ne 10) rfl).trans qExA_ite
theorem x148_39 {x : Nat} {l1 l2 l3 l4 : Value} : qEx d 148 39 st [.ref x, l1, l2, l3, l4] σ μ la Q ↔ qEx d 148 40 (.ref x :: st) [.ref x, l1, l2, l3, l4] σ μ la Q := (qEx_eq (i := .aload_n 0) rfl).trans Iff.rfl
theorem x148_40 {a : Nat} : qEx d 148 40 (.ref a :: st) ls σ μ la Q ↔ (qOk σ a 7 = true ∧ qEx d 148 43 (.int (μ a 16) :: st) ls σ μ la Q) := (qEx_eq (i := .getfield 139) rfl).trans qExA_chk
theorem x148_43  : qEx d 148 43 st ls σ μ la Q ↔ qEx d 148 47 st ls σ μ la Q := (qEx_eq (i := .goto 4) rfl).trans Iff.rfl
theorem x148_46  : qEx d 148 46 st ls σ μ la Q ↔ qEx d 148 47 (.int 0 :: st) ls σ μ la Q := (qEx_eq (i := .iconst 0) rfl).trans Iff.rfl
theorem x148_47 {x y : Int32} {a : Nat} : qEx d 148 47 (.int y :: .int x :: .ref a :: st) ls σ μ la Q ↔ (qIn x (qLen σ 10 a) = true ∧ qEx d 148 48 st ls σ (qset μ a x.toNatClampNeg y) la Q) := (qEx_eq (i := .iastore) rfl).trans qExA_chk
theorem x148_48 {x : Nat} {l0 l2 l3 l4 : Value} : qEx d 148 48 st [l0, .ref x, l2, l3, l4] σ μ la Q ↔ qEx d 148 49 (.ref x :: st) [l0, .ref x, l2, l3, l4] σ μ la Q := (qEx_eq (i := .aload_n 1) rfl).trans Iff.rfl
theorem x148_49  : qEx d 148 49 st ls σ μ la Q ↔ qEx d 148 51 (.int 19 :: st) ls σ μ la Q := (qEx_eq (i := .bipush 19) rfl).trans Iff.rfl
theorem x148_51 {x : Int32} {l0 l1 l3 l4 : Value} : qEx d 148 51 st [l0, l1, .int x, l3, l4] σ μ la Q ↔ qEx d 148 52 (.int x :: st) [l0, l1, .int x, l3, l4] σ μ la Q := (qEx_eq (i := .iload_n 2) rfl).trans Iff.rfl
theorem x148_52 {x y : Int32} : qEx d 148 52 (.int y :: .int x :: st) ls σ μ la Q ↔ qEx d 148 53 (.int (x + y) :: st) ls σ μ la Q := (qEx_eq (i := .iadd) rfl).trans Iff.rfl
theorem x148_53 {x : Int32} {y : Nat} : qEx d 148 53 (.int x :: .ref y :: st) ls σ μ la Q ↔ qEx d 148 54 (.int x :: .ref y :: .int x :: .ref y :: st) ls σ μ la Q := (qEx_eq (i := .dup2) rfl).trans Iff.rfl
theorem x148_54 {x : Int32} {a : Nat} : qEx d 148 54 (.int x :: .ref a :: st) ls σ μ la Q ↔ (qIn x (qIld σ μ a) = true ∧ qEx d 148 55 (.int (μ a x.toNatClampNeg) :: st) ls σ μ la Q) := (qEx_eq (i := .iaload) rfl).trans qExA_chk
theorem x148_55 {x : Nat} {l1 l2 l3 l4 : Value} : qEx d 148 55 st [.ref x, l1, l2, l3, l4] σ μ la Q ↔ qEx d 148 56 (.ref x :: st) [.ref x, l1, l2, l3, l4] σ μ la Q := (qEx_eq (i := .aload_n 0) rfl).trans Iff.rfl
theorem x148_56 {a : Nat} : qEx d 148 56 (.ref a :: st) ls σ μ la Q ↔ (qOk σ a 7 = true ∧ qEx d 148 59 (.int (μ a 15) :: st) ls σ μ la Q) := (qEx_eq (i := .getfield 142) rfl).trans qExA_chk
theorem x148_59 {x y : Int32} : qEx d 148 59 (.int y :: .int x :: st) ls σ μ la Q ↔ qEx d 148 60 (.int (x + y) :: st) ls σ μ la Q := (qEx_eq (i := .iadd) rfl).trans Iff.rfl
theorem x148_60 {x y : Int32} {a : Nat} : qEx d 148 60 (.int y :: .int x :: .ref a :: st) ls σ μ la Q ↔ (qIn x (qLen σ 10 a) = true ∧ qEx d 148 61 st ls σ (qset μ a x.toNatClampNeg y) la Q) := (qEx_eq (i := .iastore) rfl).trans qExA_chk
theorem x148_61 {x : Nat} {l0 l2 l3 l4 : Value} : qEx d 148 61 st [l0, .ref x, l2, l3, l4] σ μ la Q ↔ qEx d 148 62 (.ref x :: st) [l0, .ref x, l2, l3, l4] σ μ la Q := (qEx_eq (i := .aload_n 1) rfl).trans Iff.rfl
theorem x148_62  : qEx d 148 62 st ls σ μ la Q ↔ qEx d 148 64 (.int 7 :: st) ls σ μ la Q := (qEx_eq (i := .bipush 7) rfl).trans Iff.rfl
theorem x148_64 {x : Int32} {l0 l1 l3 l4 : Value} : qEx d 148 64 st [l0, l1, .int x, l3, l4] σ μ la Q ↔ qEx d 148 65 (.int x :: st) [l0, l1, .int x, l3, l4] σ μ la Q := (qEx_eq (i := .iload_n 2) rfl).trans Iff.rfl
theorem x148_65 {x y : Int32} : qEx d 148 65 (.int y :: .int x :: st) ls σ μ la Q ↔ qEx d 148 66 (.int (x + y) :: st) ls σ μ la Q := (qEx_eq (i := .iadd) rfl).trans Iff.rfl
theorem x148_66 {x : Int32} {l0 l1 l2 l4 : Value} : qEx d 148 66 st [l0, l1, l2, .int x, l4] σ μ la Q ↔ qEx d 148 67 (.int x :: st) [l0, l1, l2, .int x, l4] σ μ la Q := (qEx_eq (i := .iload_n 3) rfl).trans Iff.rfl
theorem x148_67  : qEx d 148 67 st ls σ μ la Q ↔ qEx d 148 68 (.int 5 :: st) ls σ μ la Q := (qEx_eq (i := .iconst 5) rfl).trans Iff.rfl
theorem x148_68 {x y : Int32} : qEx d 148 68 (.int y :: .int x :: st) ls σ μ la Q ↔ (if ¬ x = y then qEx d 148 84 st ls σ μ la Q else qEx d 148 71 st ls σ μ la Q) := (qEx_eq (i := .if_icmp .ne 16) rfl).trans qExA_ite
theorem x148_71 {x : Nat} {l0 l2 l3 l4 : Value} : qEx d 148 71 st [l0, .ref x, l2, l3, l4] σ μ la Q ↔ qEx d 148 72 (.ref x :: st) [l0, .ref x, l2, l3, l4] σ μ la Q := (qEx_eq (i := .aload_n 1) rfl).trans Iff.rfl
theorem x148_72  : qEx d 148 72 st ls σ μ la Q ↔ qEx d 148 74 (.int 7 :: st) ls σ μ la Q := (qEx_eq (i := .bipush 7) rfl).trans Iff.rfl
theorem x148_74 {x : Int32} {l0 l1 l3 l4 : Value} : qEx d 148 74 st [l0, l1, .int x, l3, l4] σ μ la Q ↔ qEx d 148 75 (.int x :: st) [l0, l1, .int x, l3, l4] σ μ la Q := (qEx_eq (i := .iload_n 2) rfl).trans Iff.rfl
theorem x148_75 {x y : Int32} : qEx d 148 75 (.int y :: .int x :: st) ls σ μ la Q ↔ qEx d 148 76 (.int (x + y) :: st) ls σ μ la Q := (qEx_eq (i := .iadd) rfl).trans Iff.rfl
theorem x148_76 {x : Int32} {a : Nat} : qEx d 148 76 (.int x :: .ref a :: st) ls σ μ la Q ↔ (qIn x (qIld σ μ a) = true ∧ qEx d 148 77 (.int (μ a x.toNatClampNeg) :: st) ls σ μ la Q) := (qEx_eq (i := .iaload) rfl).trans qExA_chk
theorem x148_77  : qEx d 148 77 st ls σ μ la Q ↔ qEx d 148 78 (.int 1 :: st) ls σ μ la Q := (qEx_eq (i := .iconst 1) rfl).trans Iff.rfl
theorem x148_78 {x y : Int32} : qEx d 148 78 (.int y :: .int x :: st) ls σ μ la Q ↔ qEx d 148 79 (.int (x + y) :: st) ls σ μ la Q := (qEx_eq (i := .iadd) rfl).trans Iff.rfl
theorem x148_79  : qEx d 148 79 st ls σ μ la Q ↔ qEx d 148 80 (.int 4 :: st) ls σ μ la Q := (qEx_eq (i := .iconst 4) rfl).trans Iff.rfl
theorem x148_80 {x y : Int32} : qEx d 148 80 (.int y :: .int x :: st) ls σ μ la Q ↔ (¬ y = 0 ∧ qEx d 148 81 (.int (x - x / y * y) :: st) ls σ μ la Q) := (qEx_eq (i := .irem) rfl).trans qExA_chk
theorem x148_81  : qEx d 148 81 st ls σ μ la Q ↔ qEx d 148 90 st ls σ μ la Q := (qEx_eq (i := .goto 9) rfl).trans Iff.rfl
theorem x148_84 {x : Nat} {l0 l2 l3 l4 : Value} : qEx d 148 84 st [l0, .ref x, l2, l3, l4] σ μ la Q ↔ qEx d 148 85 (.ref x :: st) [l0, .ref x, l2, l3, l4] σ μ la Q := (qEx_eq (i := .aload_n 1) rfl).trans Iff.rfl
theorem x148_85  : qEx d 148 85 st ls σ μ la Q ↔ qEx d 148 87 (.int 7 :: st) ls σ μ la Q := (qEx_eq (i := .bipush 7) rfl).trans Iff.rfl
theorem x148_87 {x : Int32} {l0 l1 l3 l4 : Value} : qEx d 148 87 st [l0, l1, .int x, l3, l4] σ μ la Q ↔ qEx d 148 88 (.int x :: st) [l0, l1, .int x, l3, l4] σ μ la Q := (qEx_eq (i := .iload_n 2) rfl).trans Iff.rfl
theorem x148_88 {x y : Int32} : qEx d 148 88 (.int y :: .int x :: st) ls σ μ la Q ↔ qEx d 148 89 (.int (x + y) :: st) ls σ μ la Q := (qEx_eq (i := .iadd) rfl).trans Iff.rfl
theorem x148_89 {x : Int32} {a : Nat} : qEx d 148 89 (.int x :: .ref a :: st) ls σ μ la Q ↔ (qIn x (qIld σ μ a) = true ∧ qEx d 148 90 (.int (μ a x.toNatClampNeg) :: st) ls σ μ la Q) := (qEx_eq (i := .iaload) rfl).trans qExA_chk
theorem x148_90 {x y : Int32} {a : Nat} : qEx d 148 90 (.int y :: .int x :: .ref a :: st) ls σ μ la Q ↔ (qIn x (qLen σ 10 a) = true ∧ qEx d 148 91 st ls σ (qset μ a x.toNatClampNeg y) la Q) := (qEx_eq (i := .iastore) rfl).trans qExA_chk
theorem x148_91  : qEx d 148 91 st ls σ μ la Q ↔ qEx d 148 92 (.int 0 :: st) ls σ μ la Q := (qEx_eq (i := .iconst 0) rfl).trans Iff.rfl
theorem x148_92 {x : Int32} {l0 l1 l2 l3 l4 : Value} : qEx d 148 92 (.int x :: st) [l0, l1, l2, l3, l4] σ μ la Q ↔ qEx d 148 94 st [l0, l1, l2, l3, .int x] σ μ la Q := (qEx_eq (i := .istore 4) rfl).trans Iff.rfl
theorem x148_94 {x : Int32} {l0 l1 l2 l3 : Value} : qEx d 148 94 st [l0, l1, l2, l3, .int x] σ μ la Q ↔ qEx d 148 96 (.int x :: st) [l0, l1, l2, l3, .int x] σ μ la Q := (qEx_eq (i := .iload 4) rfl).trans Iff.rfl
theorem x148_96 {x : Nat} {l1 l2 l3 l4 : Value} : qEx d 148 96 st [.ref x, l1, l2, l3, l4] σ μ la Q ↔ qEx d 148 97 (.ref x :: st) [.ref x, l1, l2, l3, l4] σ μ la Q := (qEx_eq (i := .aload_n 0) rfl).trans Iff.rfl
theorem x148_97 {a : Nat} : qEx d 148 97 (.ref a :: st) ls σ μ la Q ↔ (qOk σ a 7 = true ∧ qEx d 148 100 (.int (μ a 15) :: st) ls σ μ la Q) := (qEx_eq (i := .getfield 142) rfl).trans qExA_chk
theorem x148_100 {x y : Int32} : qEx d 148 100 (.int y :: .int x :: st) ls σ μ la Q ↔ (if y ≤ x then qEx d 148 122 st ls σ μ la Q else qEx d 148 103 st ls σ μ la Q) := (qEx_eq (i := .if_icmp .ge 22) rfl).trans qExA_ite
theorem x148_103 {x : Nat} {l1 l2 l3 l4 : Value} : qEx d 148 103 st [.ref x, l1, l2, l3, l4] σ μ la Q ↔ qEx d 148 104 (.ref x :: st) [.ref x, l1, l2, l3, l4] σ μ la Q := (qEx_eq (i := .aload_n 0) rfl).trans Iff.rfl
theorem x148_104 {a : Nat} : qEx d 148 104 (.ref a :: st) ls σ μ la Q ↔ (qOk σ a 7 = true ∧ qEx d 148 107 (qrf (σ.2 a 19) :: st) ls σ μ la Q) := (qEx_eq (i := .getfield 48) rfl).trans qExA_chk
theorem x148_107 {x : Nat} {l1 l2 l3 l4 : Value} : qEx d 148 107 st [.ref x, l1, l2, l3, l4] σ μ la Q ↔ qEx d 148 108 (.ref x :: st) [.ref x, l1, l2, l3, l4] σ μ la Q := (qEx_eq (i := .aload_n 0) rfl).trans Iff.rfl
theorem x148_108 {a : Nat} : qEx d 148 108 (.ref a :: st) ls σ μ la Q ↔ (qOk σ a 7 = true ∧ qEx d 148 111 (qrf (σ.2 a 14) :: st) ls σ μ la Q) := (qEx_eq (i := .getfield 45) rfl).trans qExA_chk
theorem x148_111 {x : Int32} {l0 l1 l2 l3 : Value} : qEx d 148 111 st [l0, l1, l2, l3, .int x] σ μ la Q ↔ qEx d 148 113 (.int x :: st) [l0, l1, l2, l3, .int x] σ μ la Q := (qEx_eq (i := .iload 4) rfl).trans Iff.rfl
theorem x148_113 {x : Int32} {a : Nat} : qEx d 148 113 (.int x :: .ref a :: st) ls σ μ la Q ↔ (qIn x (qIld σ μ a) = true ∧ qEx d 148 114 (.int (μ a x.toNatClampNeg) :: st) ls σ μ la Q) := (qEx_eq (i := .iaload) rfl).trans qExA_chk
theorem x148_114  : qEx d 148 114 st ls σ μ la Q ↔ qEx d 148 115 (.int 1 :: st) ls σ μ la Q := (qEx_eq (i := .iconst 1) rfl).trans Iff.rfl
theorem x148_115 {x y : Int32} {a : Nat} : qEx d 148 115 (.int y :: .int x :: .ref a :: st) ls σ μ la Q ↔ ((qIn x (qLen σ 12 a) = true ∧ (y = 0 ∨ y = 1)) ∧ qEx d 148 116 st ls σ (qset μ a x.toNatClampNeg y) la Q) := (qEx_eq (i := .bastore) rfl).trans qExA_chk
theorem x148_116 {x : Int32} {l0 l1 l2 l3 : Value} : qEx d 148 116 st [l0, l1, l2, l3, .int x] σ μ la Q ↔ qEx d 148 119 st [l0, l1, l2, l3, .int (x + 1)] σ μ la Q := (qEx_eq (i := .iinc 4 1) rfl).trans Iff.rfl
theorem x148_119  : qEx d 148 119 st ls σ μ la Q ↔ qEx d 148 94 st ls σ μ la Q := (qEx_eq (i := .goto (-25)) rfl).trans Iff.rfl
theorem x148_122  : qEx d 148 122 [] ls σ μ la Q ↔ Q none σ μ la := (qEx_eq (i := .return_) rfl).trans Iff.rfl
theorem x149_0  : qEx d 149 0 st ls σ μ la Q ↔ qEx d 149 1 (.int 0 :: st) ls σ μ la Q := (qEx_eq (i := .iconst 0) rfl).trans Iff.rfl
theorem x149_1 {x : Int32} {l0 l1 l2 l3 : Value} : qEx d 149 1 (.int x :: st) [l0, l1, l2, l3] σ μ la Q ↔ qEx d 149 2 st [l0, l1, .int x, l3] σ μ la Q := (qEx_eq (i := .istore_n 2) rfl).trans Iff.rfl
theorem x149_2 {x : Nat} {l1 l2 l3 : Value} : qEx d 149 2 st [.ref x, l1, l2, l3] σ μ la Q ↔ qEx d 149 3 (.ref x :: st) [.ref x, l1, l2, l3] σ μ la Q := (qEx_eq (i := .aload_n 0) rfl).trans Iff.rfl
theorem x149_3  : qEx d 149 3 st ls σ μ la Q ↔ qEx d 149 4 (.int 0 :: st) ls σ μ la Q := (qEx_eq (i := .iconst 0) rfl).trans Iff.rfl
theorem x149_4 {x : Int32} {a : Nat} : qEx d 149 4 (.int x :: .ref a :: st) ls σ μ la Q ↔ (qOk σ a 7 = true ∧ qEx d 149 7 st ls σ (qset μ a 18 x) la Q) := (qEx_eq (i := .putfield 159) rfl).trans qExA_chk
theorem x149_7  : qEx d 149 7 st ls σ μ la Q ↔ qEx d 149 8 (.int 0 :: st) ls σ μ la Q := (qEx_eq (i := .iconst 0) rfl).trans Iff.rfl
theorem x149_8 {x : Int32} {l0 l1 l2 l3 : Value} : qEx d 149 8 (.int x :: st) [l0, l1, l2, l3] σ μ la Q ↔ qEx d 149 9 st [l0, l1, l2, .int x] σ μ la Q := (qEx_eq (i := .istore_n 3) rfl).trans Iff.rfl
theorem x149_9 {x : Int32} {l0 l1 l2 : Value} : qEx d 149 9 st [l0, l1, l2, .int x] σ μ la Q ↔ qEx d 149 10 (.int x :: st) [l0, l1, l2, .int x] σ μ la Q := (qEx_eq (i := .iload_n 3) rfl).trans Iff.rfl
theorem x149_10  : qEx d 149 10 st ls σ μ la Q ↔ qEx d 149 12 (.int 64 :: st) ls σ μ la Q := (qEx_eq (i := .bipush 64) rfl).trans Iff.rfl
theorem x149_12 {x y : Int32} : qEx d 149 12 (.int y :: .int x :: st) ls σ μ la Q ↔ (if y ≤ x then qEx d 149 28 st ls σ μ la Q else qEx d 149 15 st ls σ μ la Q) := (qEx_eq (i := .if_icmp .ge 16) rfl).trans qExA_ite
theorem x149_15 {x : Nat} {l1 l2 l3 : Value} : qEx d 149 15 st [.ref x, l1, l2, l3] σ μ la Q ↔ qEx d 149 16 (.ref x :: st) [.ref x, l1, l2, l3] σ μ la Q := (qEx_eq (i := .aload_n 0) rfl).trans Iff.rfl
theorem x149_16 {a : Nat} : qEx d 149 16 (.ref a :: st) ls σ μ la Q ↔ (qOk σ a 7 = true ∧ qEx d 149 19 (qrf (σ.2 a 19) :: st) ls σ μ la Q) := (qEx_eq (i := .getfield 48) rfl).trans qExA_chk
theorem x149_19 {x : Int32} {l0 l1 l2 : Value} : qEx d 149 19 st [l0, l1, l2, .int x] σ μ la Q ↔ qEx d 149 20 (.int x :: st) [l0, l1, l2, .int x] σ μ la Q := (qEx_eq (i := .iload_n 3) rfl).trans Iff.rfl
theorem x149_20  : qEx d 149 20 st ls σ μ la Q ↔ qEx d 149 21 (.int 0 :: st) ls σ μ la Q := (qEx_eq (i := .iconst 0) rfl).trans Iff.rfl
theorem x149_21 {x y : Int32} {a : Nat} : qEx d 149 21 (.int y :: .int x :: .ref a :: st) ls σ μ la Q ↔ ((qIn x (qLen σ 12 a) = true ∧ (y = 0 ∨ y = 1)) ∧ qEx d 149 22 st ls σ (qset μ a x.toNatClampNeg y) la Q) := (qEx_eq (i := .bastore) rfl).trans qExA_chk
theorem x149_22 {x : Int32} {l0 l1 l2 : Value} : qEx d 149 22 st [l0, l1, l2, .int x] σ μ la Q ↔ qEx d 149 25 st [l0, l1, l2, .int (x + 1)] σ μ la Q := (qEx_eq (i := .iinc 3 1) rfl).trans Iff.rfl
theorem x149_25  : qEx d 149 25 st ls σ μ la Q ↔ qEx d 149 9 st ls σ μ la Q := (qEx_eq (i := .goto (-16)) rfl).trans Iff.rfl
theorem x149_28  : qEx d 149 28 st ls σ μ la Q ↔ qEx d 149 29 (.int 0 :: st) ls σ μ la Q := (qEx_eq (i := .iconst 0) rfl).trans Iff.rfl
theorem x149_29 {x : Int32} {l0 l1 l2 l3 : Value} : qEx d 149 29 (.int x :: st) [l0, l1, l2, l3] σ μ la Q ↔ qEx d 149 30 st [l0, l1, l2, .int x] σ μ la Q := (qEx_eq (i := .istore_n 3) rfl).trans Iff.rfl
theorem x149_30 {x : Int32} {l0 l1 l2 : Value} : qEx d 149 30 st [l0, l1, l2, .int x] σ μ la Q ↔ qEx d 149 31 (.int x :: st) [l0, l1, l2, .int x] σ μ la Q := (qEx_eq (i := .iload_n 3) rfl).trans Iff.rfl
theorem x149_31 {x : Nat} {l0 l2 l3 : Value} : qEx d 149 31 st [l0, .ref x, l2, l3] σ μ la Q ↔ qEx d 149 32 (.ref x :: st) [l0, .ref x, l2, l3] σ μ la Q := (qEx_eq (i := .aload_n 1) rfl).trans Iff.rfl
theorem x149_32  : qEx d 149 32 st ls σ μ la Q ↔ qEx d 149 34 (.int 115 :: st) ls σ μ la Q := (qEx_eq (i := .bipush 115) rfl).trans Iff.rfl
theorem x149_34 {x : Int32} {a : Nat} : qEx d 149 34 (.int x :: .ref a :: st) ls σ μ la Q ↔ (qIn x (qIld σ μ a) = true ∧ qEx d 149 35 (.int (μ a x.toNatClampNeg) :: st) ls σ μ la Q) := (qEx_eq (i := .iaload) rfl).trans qExA_chk
theorem x149_35 {x y : Int32} : qEx d 149 35 (.int y :: .int x :: st) ls σ μ la Q ↔ (if y ≤ x then qEx d 149 89 st ls σ μ la Q else qEx d 149 38 st ls σ μ la Q) := (qEx_eq (i := .if_icmp .ge 54) rfl).trans qExA_ite
theorem x149_38 {x : Nat} {l0 l2 l3 : Value} : qEx d 149 38 st [l0, .ref x, l2, l3] σ μ la Q ↔ qEx d 149 39 (.ref x :: st) [l0, .ref x, l2, l3] σ μ la Q := (qEx_eq (i := .aload_n 1) rfl).trans Iff.rfl
theorem x149_39  : qEx d 149 39 st ls σ μ la Q ↔ qEx d 149 41 (.int 13 :: st) ls σ μ la Q := (qEx_eq (i := .bipush 13) rfl).trans Iff.rfl
theorem x149_41 {x : Int32} {l0 l1 l2 : Value} : qEx d 149 41 st [l0, l1, l2, .int x] σ μ la Q ↔ qEx d 149 42 (.int x :: st) [l0, l1, l2, .int x] σ μ la Q := (qEx_eq (i := .iload_n 3) rfl).trans Iff.rfl
theorem x149_42 {x y : Int32} : qEx d 149 42 (.int y :: .int x :: st) ls σ μ la Q ↔ qEx d 149 43 (.int (x + y) :: st) ls σ μ la Q := (qEx_eq (i := .iadd) rfl).trans Iff.rfl
theorem x149_43 {x : Int32} {a : Nat} : qEx d 149 43 (.int x :: .ref a :: st) ls σ μ la Q ↔ (qIn x (qIld σ μ a) = true ∧ qEx d 149 44 (.int (μ a x.toNatClampNeg) :: st) ls σ μ la Q) := (qEx_eq (i := .iaload) rfl).trans qExA_chk
theorem x149_44 {x : Int32} : qEx d 149 44 (.int x :: st) ls σ μ la Q ↔ (if x ≤ 0 then qEx d 149 83 st ls σ μ la Q else qEx d 149 47 st ls σ μ la Q) := (qEx_eq (i := .ifCond .le 39) rfl).trans qExA_ite
theorem x149_47 {x : Nat} {l1 l2 l3 : Value} : qEx d 149 47 st [.ref x, l1, l2, l3] σ μ la Q ↔ qEx d 149 48 (.ref x :: st) [.ref x, l1, l2, l3] σ μ la Q := (qEx_eq (i := .aload_n 0) rfl).trans Iff.rfl
theorem x149_48 {x : Nat} {l0 l2 l3 : Value} : qEx d 149 48 st [l0, .ref x, l2, l3] σ μ la Q ↔ qEx d 149 49 (.ref x :: st) [l0, .ref x, l2, l3] σ μ la Q := (qEx_eq (i := .aload_n 1) rfl).trans Iff.rfl
theorem x149_49 {x : Int32} {l0 l1 l2 : Value} : qEx d 149 49 st [l0, l1, l2, .int x] σ μ la Q ↔ qEx d 149 50 (.int x :: st) [l0, l1, l2, .int x] σ μ la Q := (qEx_eq (i := .iload_n 3) rfl).trans Iff.rfl
theorem x149_50 {y0 : Nat} {y1 : Int32} {a : Nat} : qEx (d + 1) 149 50 [.int y1, .ref y0, .ref a] ls σ μ la Q ↔ (qOk σ a 7 = true ∧ qEx d 148 0 [] [.ref a, .ref y0, .int y1, .retAddr 0, .retAddr 0] σ μ la fun r σ' μ' la' => qEx (d + 1) 149 53 (r.toList ++ []) ls σ' μ' la' Q) := (qEx_eq (i := .invokevirtual 162) rfl).trans qExA_chk
theorem x149_53 {x : Int32} {l0 l1 l3 : Value} : qEx d 149 53 st [l0, l1, .int x, l3] σ μ la Q ↔ qEx d 149 54 (.int x :: st) [l0, l1, .int x, l3] σ μ la Q := (qEx_eq (i := .iload_n 2) rfl).trans Iff.rfl
theorem x149_54 {x : Nat} {l1 l2 l3 : Value} : qEx d 149 54 st [.ref x, l1, l2, l3] σ μ la Q ↔ qEx d 149 55 (.ref x :: st) [.ref x, l1, l2, l3] σ μ la Q := (qEx_eq (i := .aload_n 0) rfl).trans Iff.rfl
theorem x149_55 {a : Nat} : qEx d 149 55 (.ref a :: st) ls σ μ la Q ↔ (qOk σ a 7 = true ∧ qEx d 149 58 (.int (μ a 15) :: st) ls σ μ la Q) := (qEx_eq (i := .getfield 142) rfl).trans qExA_chk
theorem x149_58 {x y : Int32} : qEx d 149 58 (.int y :: .int x :: st) ls σ μ la Q ↔ qEx d 149 59 (.int (x + y) :: st) ls σ μ la Q := (qEx_eq (i := .iadd) rfl).trans Iff.rfl
theorem x149_59 {x : Int32} {l0 l1 l2 l3 : Value} : qEx d 149 59 (.int x :: st) [l0, l1, l2, l3] σ μ la Q ↔ qEx d 149 60 st [l0, l1, .int x, l3] σ μ la Q := (qEx_eq (i := .istore_n 2) rfl).trans Iff.rfl
theorem x149_60 {x : Nat} {l1 l2 l3 : Value} : qEx d 149 60 st [.ref x, l1, l2, l3] σ μ la Q ↔ qEx d 149 61 (.ref x :: st) [.ref x, l1, l2, l3] σ μ la Q := (qEx_eq (i := .aload_n 0) rfl).trans Iff.rfl
theorem x149_61 {x : Nat} {l1 l2 l3 : Value} : qEx d 149 61 st [.ref x, l1, l2, l3] σ μ la Q ↔ qEx d 149 62 (.ref x :: st) [.ref x, l1, l2, l3] σ μ la Q := (qEx_eq (i := .aload_n 0) rfl).trans Iff.rfl
theorem x149_62 {a : Nat} : qEx d 149 62 (.ref a :: st) ls σ μ la Q ↔ (qOk σ a 7 = true ∧ qEx d 149 65 (.int (μ a 18) :: st) ls σ μ la Q) := (qEx_eq (i := .getfield 159) rfl).trans qExA_chk
theorem x149_65 {x : Nat} {l1 l2 l3 : Value} : qEx d 149 65 st [.ref x, l1, l2, l3] σ μ la Q ↔ qEx d 149 66 (.ref x :: st) [.ref x, l1, l2, l3] σ μ la Q := (qEx_eq (i := .aload_n 0) rfl).trans Iff.rfl
theorem x149_66 {a : Nat} : qEx d 149 66 (.ref a :: st) ls σ μ la Q ↔ (qOk σ a 7 = true ∧ qEx d 149 69 (.int (μ a 17) :: st) ls σ μ la Q) := (qEx_eq (i := .getfield 151) rfl).trans qExA_chk
theorem x149_69 {x : Int32} : qEx d 149 69 (.int x :: st) ls σ μ la Q ↔ (if x = 0 then qEx d 149 78 st ls σ μ la Q else qEx d 149 72 st ls σ μ la Q) := (qEx_eq (i := .ifCond .eq 9) rfl).trans qExA_ite
theorem x149_72  : qEx d 149 72 st ls σ μ la Q ↔ qEx d 149 73 (.int 1 :: st) ls σ μ la Q := (qEx_eq (i := .iconst 1) rfl).trans Iff.rfl
theorem x149_73 {x : Int32} {l0 l1 l2 : Value} : qEx d 149 73 st [l0, l1, l2, .int x] σ μ la Q ↔ qEx d 149 74 (.int x :: st) [l0, l1, l2, .int x] σ μ la Q := (qEx_eq (i := .iload_n 3) rfl).trans Iff.rfl
theorem x149_74 {x y : Int32} : qEx d 149 74 (.int y :: .int x :: st) ls σ μ la Q ↔ qEx d 149 75 (.int (x <<< (y &&& 31)) :: st) ls σ μ la Q := (qEx_eq (i := .ishl) rfl).trans Iff.rfl
theorem x149_75  : qEx d 149 75 st ls σ μ la Q ↔ qEx d 149 79 st ls σ μ la Q := (qEx_eq (i := .goto 4) rfl).trans Iff.rfl
theorem x149_78  : qEx d 149 78 st ls σ μ la Q ↔ qEx d 149 79 (.int 0 :: st) ls σ μ la Q := (qEx_eq (i := .iconst 0) rfl).trans Iff.rfl
theorem x149_79 {x y : Int32} : qEx d 149 79 (.int y :: .int x :: st) ls σ μ la Q ↔ qEx d 149 80 (.int (x ||| y) :: st) ls σ μ la Q := (qEx_eq (i := .ior) rfl).trans Iff.rfl
theorem x149_80 {x : Int32} {a : Nat} : qEx d 149 80 (.int x :: .ref a :: st) ls σ μ la Q ↔ (qOk σ a 7 = true ∧ qEx d 149 83 st ls σ (qset μ a 18 x) la Q) := (qEx_eq (i := .putfield 159) rfl).trans qExA_chk
theorem x149_83 {x : Int32} {l0 l1 l2 : Value} : qEx d 149 83 st [l0, l1, l2, .int x] σ μ la Q ↔ qEx d 149 86 st [l0, l1, l2, .int (x + 1)] σ μ la Q := (qEx_eq (i := .iinc 3 1) rfl).trans Iff.rfl
theorem x149_86  : qEx d 149 86 st ls σ μ la Q ↔ qEx d 149 30 st ls σ μ la Q := (qEx_eq (i := .goto (-56)) rfl).trans Iff.rfl
theorem x149_89 {x : Nat} {l0 l2 l3 : Value} : qEx d 149 89 st [l0, .ref x, l2, l3] σ μ la Q ↔ qEx d 149 90 (.ref x :: st) [l0, .ref x, l2, l3] σ μ la Q := (qEx_eq (i := .aload_n 1) rfl).trans Iff.rfl
theorem x149_90  : qEx d 149 90 st ls σ μ la Q ↔ qEx d 149 91 (.int 0 :: st) ls σ μ la Q := (qEx_eq (i := .iconst 0) rfl).trans Iff.rfl
theorem x149_91 {x : Int32} {y : Nat} : qEx d 149 91 (.int x :: .ref y :: st) ls σ μ la Q ↔ qEx d 149 92 (.int x :: .ref y :: .int x :: .ref y :: st) ls σ μ la Q := (qEx_eq (i := .dup2) rfl).trans Iff.rfl
theorem x149_92 {x : Int32} {a : Nat} : qEx d 149 92 (.int x :: .ref a :: st) ls σ μ la Q ↔ (qIn x (qIld σ μ a) = true ∧ qEx d 149 93 (.int (μ a x.toNatClampNeg) :: st) ls σ μ la Q) := (qEx_eq (i := .iaload) rfl).trans qExA_chk
theorem x149_93  : qEx d 149 93 st ls σ μ la Q ↔ qEx d 149 94 (.int 1 :: st) ls σ μ la Q := (qEx_eq (i := .iconst 1) rfl).trans Iff.rfl
theorem x149_94 {x y : Int32} : qEx d 149 94 (.int y :: .int x :: st) ls σ μ la Q ↔ qEx d 149 95 (.int (x + y) :: st) ls σ μ la Q := (qEx_eq (i := .iadd) rfl).trans Iff.rfl
theorem x149_95 {x y : Int32} {a : Nat} : qEx d 149 95 (.int y :: .int x :: .ref a :: st) ls σ μ la Q ↔ (qIn x (qLen σ 10 a) = true ∧ qEx d 149 96 st ls σ (qset μ a x.toNatClampNeg y) la Q) := (qEx_eq (i := .iastore) rfl).trans qExA_chk
theorem x149_96 {x : Int32} {l0 l1 l3 : Value} : qEx d 149 96 st [l0, l1, .int x, l3] σ μ la Q ↔ qEx d 149 97 (.int x :: st) [l0, l1, .int x, l3] σ μ la Q := (qEx_eq (i := .iload_n 2) rfl).trans Iff.rfl
theorem x149_97 {x : Int32} : qEx d 149 97 [.int x] ls σ μ la Q ↔ Q (some (.int x)) σ μ la := (qEx_eq (i := .ireturn) rfl).trans Iff.rfl
theorem x150_0 {x : Nat} : qEx d 150 0 st [.ref x] σ μ la Q ↔ qEx d 150 1 (.ref x :: st) [.ref x] σ μ la Q := (qEx_eq (i := .aload_n 0) rfl).trans Iff.rfl
theorem x150_1 {a : Nat} : qEx d 150 1 (.ref a :: st) ls σ μ la Q ↔ (qOk σ a 7 = true ∧ qEx d 150 4 (.int (μ a 13) :: st) ls σ μ la Q) := (qEx_eq (i := .getfield 122) rfl).trans qExA_chk
theorem x150_4  : qEx d 150 4 st ls σ μ la Q ↔ qEx d 150 6 (.int 24 :: st) ls σ μ la Q := (qEx_eq (i := .bipush 24) rfl).trans Iff.rfl
theorem x150_6 {x y : Int32} : qEx d 150 6 (.int y :: .int x :: st) ls σ μ la Q ↔ (if ¬ x = y then qEx d 150 36 st ls σ μ la Q else qEx d 150 9 st ls σ μ la Q) := (qEx_eq (i := .if_icmp .ne 30) rfl).trans qExA_ite
theorem x150_9 {x : Nat} : qEx d 150 9 st [.ref x] σ μ la Q ↔ qEx d 150 10 (.ref x :: st) [.ref x] σ μ la Q := (qEx_eq (i := .aload_n 0) rfl).trans Iff.rfl
theorem x150_10 {a : Nat} : qEx d 150 10 (.ref a :: st) ls σ μ la Q ↔ (qOk σ a 7 = true ∧ qEx d 150 13 (qrf (σ.2 a 12) :: st) ls σ μ la Q) := (qEx_eq (i := .getfield 42) rfl).trans qExA_chk
theorem x150_13  : qEx d 150 13 st ls σ μ la Q ↔ qEx d 150 15 (.int 113 :: st) ls σ μ la Q := (qEx_eq (i := .bipush 113) rfl).trans Iff.rfl
theorem x150_15 {x : Nat} : qEx d 150 15 st [.ref x] σ μ la Q ↔ qEx d 150 16 (.ref x :: st) [.ref x] σ μ la Q := (qEx_eq (i := .aload_n 0) rfl).trans Iff.rfl
theorem x150_16 {a : Nat} : qEx d 150 16 (.ref a :: st) ls σ μ la Q ↔ (qOk σ a 7 = true ∧ qEx d 150 19 (qrf (σ.2 a 12) :: st) ls σ μ la Q) := (qEx_eq (i := .getfield 42) rfl).trans qExA_chk
theorem x150_19  : qEx d 150 19 st ls σ μ la Q ↔ qEx d 150 20 (.int 0 :: st) ls σ μ la Q := (qEx_eq (i := .iconst 0) rfl).trans Iff.rfl
theorem x150_20  : qEx d 150 20 st ls σ μ la Q ↔ qEx d 150 23 (.int 2599 :: st) ls σ μ la Q := (qEx_eq (i := .sipush 2599) rfl).trans Iff.rfl
theorem x150_23 {y0 : Nat} {y1 : Int32} {y2 : Nat} {y3 : Int32} {y4 : Int32} : qEx (d + 1) 150 23 [.int y4, .int y3, .ref y2, .int y1, .ref y0] ls σ μ la Q ↔ qEx d 120 0 [] [.ref y0, .int y1, .ref y2, .int y3, .int y4, .retAddr 0] σ μ la fun r σ' μ' la' => qEx (d + 1) 150 26 (r.toList ++ []) ls σ' μ' la' Q := (qEx_eq (i := .invokestatic 118) rfl).trans Iff.rfl
theorem x150_26 {x : Nat} : qEx d 150 26 st [.ref x] σ μ la Q ↔ qEx d 150 27 (.ref x :: st) [.ref x] σ μ la Q := (qEx_eq (i := .aload_n 0) rfl).trans Iff.rfl
theorem x150_27 {x : Nat} : qEx d 150 27 (.ref x :: st) ls σ μ la Q ↔ qEx d 150 28 (.ref x :: .ref x :: st) ls σ μ la Q := (qEx_eq (i := .dup) rfl).trans Iff.rfl
theorem x150_28 {a : Nat} : qEx d 150 28 (.ref a :: st) ls σ μ la Q ↔ (qOk σ a 7 = true ∧ qEx d 150 31 (.int (μ a 13) :: st) ls σ μ la Q) := (qEx_eq (i := .getfield 122) rfl).trans qExA_chk
theorem x150_31  : qEx d 150 31 st ls σ μ la Q ↔ qEx d 150 32 (.int 1 :: st) ls σ μ la Q := (qEx_eq (i := .iconst 1) rfl).trans Iff.rfl
theorem x150_32 {x y : Int32} : qEx d 150 32 (.int y :: .int x :: st) ls σ μ la Q ↔ qEx d 150 33 (.int (x - y) :: st) ls σ μ la Q := (qEx_eq (i := .isub) rfl).trans Iff.rfl
theorem x150_33 {x : Int32} {a : Nat} : qEx d 150 33 (.int x :: .ref a :: st) ls σ μ la Q ↔ (qOk σ a 7 = true ∧ qEx d 150 36 st ls σ (qset μ a 13 x) la Q) := (qEx_eq (i := .putfield 122) rfl).trans qExA_chk
theorem x150_36 {x : Nat} : qEx d 150 36 st [.ref x] σ μ la Q ↔ qEx d 150 37 (.ref x :: st) [.ref x] σ μ la Q := (qEx_eq (i := .aload_n 0) rfl).trans Iff.rfl
theorem x150_37 {a : Nat} : qEx d 150 37 (.ref a :: st) ls σ μ la Q ↔ (qOk σ a 7 = true ∧ qEx d 150 40 (qrf (σ.2 a 6) :: st) ls σ μ la Q) := (qEx_eq (i := .getfield 23) rfl).trans qExA_chk
theorem x150_40  : qEx d 150 40 st ls σ μ la Q ↔ qEx d 150 41 (.int 0 :: st) ls σ μ la Q := (qEx_eq (i := .iconst 0) rfl).trans Iff.rfl
theorem x150_41 {x : Nat} : qEx d 150 41 st [.ref x] σ μ la Q ↔ qEx d 150 42 (.ref x :: st) [.ref x] σ μ la Q := (qEx_eq (i := .aload_n 0) rfl).trans Iff.rfl
theorem x150_42 {a : Nat} : qEx d 150 42 (.ref a :: st) ls σ μ la Q ↔ (qOk σ a 7 = true ∧ qEx d 150 45 (qrf (σ.2 a 12) :: st) ls σ μ la Q) := (qEx_eq (i := .getfield 42) rfl).trans qExA_chk
theorem x150_45  : qEx d 150 45 st ls σ μ la Q ↔ qEx d 150 47 (.int 113 :: st) ls σ μ la Q := (qEx_eq (i := .bipush 113) rfl).trans Iff.rfl
theorem x150_47 {x : Nat} : qEx d 150 47 st [.ref x] σ μ la Q ↔ qEx d 150 48 (.ref x :: st) [.ref x] σ μ la Q := (qEx_eq (i := .aload_n 0) rfl).trans Iff.rfl
theorem x150_48 {a : Nat} : qEx d 150 48 (.ref a :: st) ls σ μ la Q ↔ (qOk σ a 7 = true ∧ qEx d 150 51 (.int (μ a 13) :: st) ls σ μ la Q) := (qEx_eq (i := .getfield 122) rfl).trans qExA_chk
theorem x150_51 {x y : Int32} : qEx d 150 51 (.int y :: .int x :: st) ls σ μ la Q ↔ qEx d 150 52 (.int (x * y) :: st) ls σ μ la Q := (qEx_eq (i := .imul) rfl).trans Iff.rfl
theorem x150_52  : qEx d 150 52 st ls σ μ la Q ↔ qEx d 150 54 (.int 113 :: st) ls σ μ la Q := (qEx_eq (i := .bipush 113) rfl).trans Iff.rfl
theorem x150_54 {y0 : Nat} {y1 : Int32} {y2 : Nat} {y3 : Int32} {y4 : Int32} : qEx (d + 1) 150 54 [.int y4, .int y3, .ref y2, .int y1, .ref y0] ls σ μ la Q ↔ qEx d 120 0 [] [.ref y0, .int y1, .ref y2, .int y3, .int y4, .retAddr 0] σ μ la fun r σ' μ' la' => qEx (d + 1) 150 57 (r.toList ++ []) ls σ' μ' la' Q := (qEx_eq (i := .invokestatic 118) rfl).trans Iff.rfl
theorem x150_57 {x : Nat} : qEx d 150 57 st [.ref x] σ μ la Q ↔ qEx d 150 58 (.ref x :: st) [.ref x] σ μ la Q := (qEx_eq (i := .aload_n 0) rfl).trans Iff.rfl
theorem x150_58 {x : Nat} : qEx d 150 58 (.ref x :: st) ls σ μ la Q ↔ qEx d 150 59 (.ref x :: .ref x :: st) ls σ μ la Q := (qEx_eq (i := .dup) rfl).trans Iff.rfl
theorem x150_59 {a : Nat} : qEx d 150 59 (.ref a :: st) ls σ μ la Q ↔ (qOk σ a 7 = true ∧ qEx d 150 62 (.int (μ a 13) :: st) ls σ μ la Q) := (qEx_eq (i := .getfield 122) rfl).trans qExA_chk
theorem x150_62  : qEx d 150 62 st ls σ μ la Q ↔ qEx d 150 63 (.int 1 :: st) ls σ μ la Q := (qEx_eq (i := .iconst 1) rfl).trans Iff.rfl
theorem x150_63 {x y : Int32} : qEx d 150 63 (.int y :: .int x :: st) ls σ μ la Q ↔ qEx d 150 64 (.int (x + y) :: st) ls σ μ la Q := (qEx_eq (i := .iadd) rfl).trans Iff.rfl
theorem x150_64 {x : Int32} {a : Nat} : qEx d 150 64 (.int x :: .ref a :: st) ls σ μ la Q ↔ (qOk σ a 7 = true ∧ qEx d 150 67 st ls σ (qset μ a 13 x) la Q) := (qEx_eq (i := .putfield 122) rfl).trans qExA_chk
theorem x150_67  : qEx d 150 67 [] ls σ μ la Q ↔ Q none σ μ la := (qEx_eq (i := .return_) rfl).trans Iff.rfl
theorem x151_0 {x : Nat} : qEx d 151 0 st [.ref x] σ μ la Q ↔ qEx d 151 1 (.ref x :: st) [.ref x] σ μ la Q := (qEx_eq (i := .aload_n 0) rfl).trans Iff.rfl
theorem x151_1 {a : Nat} : qEx (d + 1) 151 1 [.ref a] ls σ μ la Q ↔ (qOk σ a 7 = true ∧ qEx d 121 0 [] [.ref a] σ μ la fun r σ' μ' la' => qEx (d + 1) 151 4 (r.toList ++ []) ls σ' μ' la' Q) := (qEx_eq (i := .invokevirtual 166) rfl).trans qExA_chk
theorem x151_4 {x : Int32} : qEx d 151 4 (.int x :: st) ls σ μ la Q ↔ (if ¬ x = 0 then qEx d 151 10 st ls σ μ la Q else qEx d 151 7 st ls σ μ la Q) := (qEx_eq (i := .ifCond .ne 6) rfl).trans qExA_ite
theorem x151_7  : qEx d 151 7 st ls σ μ la Q ↔ qEx d 151 9 (.int (-2) :: st) ls σ μ la Q := (qEx_eq (i := .bipush (-2)) rfl).trans Iff.rfl
theorem x151_9 {x : Int32} : qEx d 151 9 [.int x] ls σ μ la Q ↔ Q (some (.int x)) σ μ la := (qEx_eq (i := .ireturn) rfl).trans Iff.rfl
theorem x151_10 {x : Nat} : qEx d 151 10 st [.ref x] σ μ la Q ↔ qEx d 151 11 (.ref x :: st) [.ref x] σ μ la Q := (qEx_eq (i := .aload_n 0) rfl).trans Iff.rfl
theorem x151_11 {a : Nat} : qEx d 151 11 (.ref a :: st) ls σ μ la Q ↔ (qOk σ a 7 = true ∧ qEx d 151 14 (qrf (σ.2 a 6) :: st) ls σ μ la Q) := (qEx_eq (i := .getfield 23) rfl).trans qExA_chk
theorem x151_14  : qEx d 151 14 st ls σ μ la Q ↔ qEx d 151 15 (.int 0 :: st) ls σ μ la Q := (qEx_eq (i := .iconst 0) rfl).trans Iff.rfl
theorem x151_15 {x : Int32} {a : Nat} : qEx d 151 15 (.int x :: .ref a :: st) ls σ μ la Q ↔ (qIn x (qIld σ μ a) = true ∧ qEx d 151 16 (.int (μ a x.toNatClampNeg) :: st) ls σ μ la Q) := (qEx_eq (i := .iaload) rfl).trans qExA_chk
theorem x151_16  : qEx d 151 16 st ls σ μ la Q ↔ qEx d 151 19 (.int 9999 :: st) ls σ μ la Q := (qEx_eq (i := .sipush 9999) rfl).trans Iff.rfl
theorem x151_19 {x y : Int32} : qEx d 151 19 (.int y :: .int x :: st) ls σ μ la Q ↔ (if ¬ x = y then qEx d 151 25 st ls σ μ la Q else qEx d 151 22 st ls σ μ la Q) := (qEx_eq (i := .if_icmp .ne 6) rfl).trans qExA_ite
theorem x151_22  : qEx d 151 22 st ls σ μ la Q ↔ qEx d 151 24 (.int (-3) :: st) ls σ μ la Q := (qEx_eq (i := .bipush (-3)) rfl).trans Iff.rfl
theorem x151_24 {x : Int32} : qEx d 151 24 [.int x] ls σ μ la Q ↔ Q (some (.int x)) σ μ la := (qEx_eq (i := .ireturn) rfl).trans Iff.rfl
theorem x151_25 {x : Nat} : qEx d 151 25 st [.ref x] σ μ la Q ↔ qEx d 151 26 (.ref x :: st) [.ref x] σ μ la Q := (qEx_eq (i := .aload_n 0) rfl).trans Iff.rfl
theorem x151_26 {a : Nat} : qEx (d + 1) 151 26 [.ref a] ls σ μ la Q ↔ (qOk σ a 7 = true ∧ qEx d 150 0 [] [.ref a] σ μ la fun r σ' μ' la' => qEx (d + 1) 151 29 (r.toList ++ []) ls σ' μ' la' Q) := (qEx_eq (i := .invokevirtual 169) rfl).trans qExA_chk
theorem x151_29 {x : Nat} : qEx d 151 29 st [.ref x] σ μ la Q ↔ qEx d 151 30 (.ref x :: st) [.ref x] σ μ la Q := (qEx_eq (i := .aload_n 0) rfl).trans Iff.rfl
theorem x151_30 {x : Nat} : qEx d 151 30 st [.ref x] σ μ la Q ↔ qEx d 151 31 (.ref x :: st) [.ref x] σ μ la Q := (qEx_eq (i := .aload_n 0) rfl).trans Iff.rfl
theorem x151_31 {a : Nat} : qEx d 151 31 (.ref a :: st) ls σ μ la Q ↔ (qOk σ a 7 = true ∧ qEx d 151 34 (qrf (σ.2 a 6) :: st) ls σ μ la Q) := (qEx_eq (i := .getfield 23) rfl).trans qExA_chk
theorem x151_34 {y0 : Nat} {a : Nat} : qEx (d + 1) 151 34 [.ref y0, .ref a] ls σ μ la Q ↔ (qOk σ a 7 = true ∧ qEx d 149 0 [] [.ref a, .ref y0, .retAddr 0, .retAddr 0] σ μ la fun r σ' μ' la' => qEx (d + 1) 151 37 (r.toList ++ []) ls σ' μ' la' Q) := (qEx_eq (i := .invokevirtual 172) rfl).trans qExA_chk
theorem x151_37 {x : Int32} : qEx d 151 37 [.int x] ls σ μ la Q ↔ Q (some (.int x)) σ μ la := (qEx_eq (i := .ireturn) rfl).trans Iff.rfl
theorem x152_0 {x : Int32} : qEx d 152 0 st [.int x] σ μ la Q ↔ qEx d 152 1 (.int x :: st) [.int x] σ μ la Q := (qEx_eq (i := .iload_n 0) rfl).trans Iff.rfl
theorem x152_1 {x : Int32} : qEx d 152 1 (.int x :: st) ls σ μ la Q ↔ (if ¬ x = 0 then qEx d 152 8 st ls σ μ la Q else qEx d 152 4 st ls σ μ la Q) := (qEx_eq (i := .ifCond .ne 7) rfl).trans qExA_ite
theorem x152_4  : qEx d 152 4 st ls σ μ la Q ↔ qEx d 152 5 (.int 3 :: st) ls σ μ la Q := (qEx_eq (i := .iconst 3) rfl).trans Iff.rfl
theorem x152_5  : qEx d 152 5 st ls σ μ la Q ↔ qEx d 152 29 st ls σ μ la Q := (qEx_eq (i := .goto 24) rfl).trans Iff.rfl
theorem x152_8 {x : Int32} : qEx d 152 8 st [.int x] σ μ la Q ↔ qEx d 152 9 (.int x :: st) [.int x] σ μ la Q := (qEx_eq (i := .iload_n 0) rfl).trans Iff.rfl
theorem x152_9  : qEx d 152 9 st ls σ μ la Q ↔ qEx d 152 10 (.int 1 :: st) ls σ μ la Q := (qEx_eq (i := .iconst 1) rfl).trans Iff.rfl
theorem x152_10 {x y : Int32} : qEx d 152 10 (.int y :: .int x :: st) ls σ μ la Q ↔ (if ¬ x = y then qEx d 152 17 st ls σ μ la Q else qEx d 152 13 st ls σ μ la Q) := (qEx_eq (i := .if_icmp .ne 7) rfl).trans qExA_ite
theorem x152_13  : qEx d 152 13 st ls σ μ la Q ↔ qEx d 152 14 (.int 5 :: st) ls σ μ la Q := (qEx_eq (i := .iconst 5) rfl).trans Iff.rfl
theorem x152_14  : qEx d 152 14 st ls σ μ la Q ↔ qEx d 152 29 st ls σ μ la Q := (qEx_eq (i := .goto 15) rfl).trans Iff.rfl
theorem x152_17 {x : Int32} : qEx d 152 17 st [.int x] σ μ la Q ↔ qEx d 152 18 (.int x :: st) [.int x] σ μ la Q := (qEx_eq (i := .iload_n 0) rfl).trans Iff.rfl
theorem x152_18  : qEx d 152 18 st ls σ μ la Q ↔ qEx d 152 19 (.int 2 :: st) ls σ μ la Q := (qEx_eq (i := .iconst 2) rfl).trans Iff.rfl
theorem x152_19 {x y : Int32} : qEx d 152 19 (.int y :: .int x :: st) ls σ μ la Q ↔ (if ¬ x = y then qEx d 152 27 st ls σ μ la Q else qEx d 152 22 st ls σ μ la Q) := (qEx_eq (i := .if_icmp .ne 8) rfl).trans qExA_ite
theorem x152_22  : qEx d 152 22 st ls σ μ la Q ↔ qEx d 152 24 (.int 9 :: st) ls σ μ la Q := (qEx_eq (i := .bipush 9) rfl).trans Iff.rfl
theorem x152_24  : qEx d 152 24 st ls σ μ la Q ↔ qEx d 152 29 st ls σ μ la Q := (qEx_eq (i := .goto 5) rfl).trans Iff.rfl
theorem x152_27  : qEx d 152 27 st ls σ μ la Q ↔ qEx d 152 29 (.int 30 :: st) ls σ μ la Q := (qEx_eq (i := .bipush 30) rfl).trans Iff.rfl
theorem x152_29 {x : Int32} : qEx d 152 29 [.int x] ls σ μ la Q ↔ Q (some (.int x)) σ μ la := (qEx_eq (i := .ireturn) rfl).trans Iff.rfl
theorem x153_0 {x : Nat} {l1 l2 l3 : Value} : qEx d 153 0 st [.ref x, l1, l2, l3] σ μ la Q ↔ qEx d 153 1 (.ref x :: st) [.ref x, l1, l2, l3] σ μ la Q := (qEx_eq (i := .aload_n 0) rfl).trans Iff.rfl
theorem x153_1  : qEx d 153 1 st ls σ μ la Q ↔ qEx d 153 3 (.int 13 :: st) ls σ μ la Q := (qEx_eq (i := .bipush 13) rfl).trans Iff.rfl
theorem x153_3 {x : Int32} {l0 l2 l3 : Value} : qEx d 153 3 st [l0, .int x, l2, l3] σ μ la Q ↔ qEx d 153 4 (.int x :: st) [l0, .int x, l2, l3] σ μ la Q := (qEx_eq (i := .iload_n 1) rfl).trans Iff.rfl
theorem x153_4 {x y : Int32} : qEx d 153 4 (.int y :: .int x :: st) ls σ μ la Q ↔ qEx d 153 5 (.int (x + y) :: st) ls σ μ la Q := (qEx_eq (i := .iadd) rfl).trans Iff.rfl
theorem x153_5 {x : Int32} {a : Nat} : qEx d 153 5 (.int x :: .ref a :: st) ls σ μ la Q ↔ (qIn x (qIld σ μ a) = true ∧ qEx d 153 6 (.int (μ a x.toNatClampNeg) :: st) ls σ μ la Q) := (qEx_eq (i := .iaload) rfl).trans qExA_chk
theorem x153_6 {x : Int32} {l0 l1 l3 : Value} : qEx d 153 6 st [l0, l1, .int x, l3] σ μ la Q ↔ qEx d 153 7 (.int x :: st) [l0, l1, .int x, l3] σ μ la Q := (qEx_eq (i := .iload_n 2) rfl).trans Iff.rfl
theorem x153_7 {y0 : Int32} {z0 : Int32} : qEx (d + 1) 153 7 [.int y0, .int z0] ls σ μ la Q ↔ qEx d 152 0 [] [.int y0] σ μ la fun r σ' μ' la' => qEx (d + 1) 153 10 (r.toList ++ [.int z0]) ls σ' μ' la' Q := (qEx_eq (i := .invokestatic 176) rfl).trans Iff.rfl
theorem x153_10 {x y : Int32} : qEx d 153 10 (.int y :: .int x :: st) ls σ μ la Q ↔ qEx d 153 11 (.int (x + y) :: st) ls σ μ la Q := (qEx_eq (i := .iadd) rfl).trans Iff.rfl
theorem x153_11 {x : Nat} {l1 l2 l3 : Value} : qEx d 153 11 st [.ref x, l1, l2, l3] σ μ la Q ↔ qEx d 153 12 (.ref x :: st) [.ref x, l1, l2, l3] σ μ la Q := (qEx_eq (i := .aload_n 0) rfl).trans Iff.rfl
theorem x153_12  : qEx d 153 12 st ls σ μ la Q ↔ qEx d 153 14 (.int 25 :: st) ls σ μ la Q := (qEx_eq (i := .bipush 25) rfl).trans Iff.rfl
theorem x153_14  : qEx d 153 14 st ls σ μ la Q ↔ qEx d 153 15 (.int 4 :: st) ls σ μ la Q := (qEx_eq (i := .iconst 4) rfl).trans Iff.rfl
theorem x153_15 {x : Int32} {l0 l2 l3 : Value} : qEx d 153 15 st [l0, .int x, l2, l3] σ μ la Q ↔ qEx d 153 16 (.int x :: st) [l0, .int x, l2, l3] σ μ la Q := (qEx_eq (i := .iload_n 1) rfl).trans Iff.rfl
theorem x153_16 {x y : Int32} : qEx d 153 16 (.int y :: .int x :: st) ls σ μ la Q ↔ qEx d 153 17 (.int (x * y) :: st) ls σ μ la Q := (qEx_eq (i := .imul) rfl).trans Iff.rfl
theorem x153_17 {x y : Int32} : qEx d 153 17 (.int y :: .int x :: st) ls σ μ la Q ↔ qEx d 153 18 (.int (x + y) :: st) ls σ μ la Q := (qEx_eq (i := .iadd) rfl).trans Iff.rfl
theorem x153_18 {x : Int32} {l0 l1 l3 : Value} : qEx d 153 18 st [l0, l1, .int x, l3] σ μ la Q ↔ qEx d 153 19 (.int x :: st) [l0, l1, .int x, l3] σ μ la Q := (qEx_eq (i := .iload_n 2) rfl).trans Iff.rfl
theorem x153_19 {x y : Int32} : qEx d 153 19 (.int y :: .int x :: st) ls σ μ la Q ↔ qEx d 153 20 (.int (x + y) :: st) ls σ μ la Q := (qEx_eq (i := .iadd) rfl).trans Iff.rfl
theorem x153_20 {x : Int32} {a : Nat} : qEx d 153 20 (.int x :: .ref a :: st) ls σ μ la Q ↔ (qIn x (qIld σ μ a) = true ∧ qEx d 153 21 (.int (μ a x.toNatClampNeg) :: st) ls σ μ la Q) := (qEx_eq (i := .iaload) rfl).trans qExA_chk
theorem x153_21 {x y : Int32} : qEx d 153 21 (.int y :: .int x :: st) ls σ μ la Q ↔ qEx d 153 22 (.int (x + y) :: st) ls σ μ la Q := (qEx_eq (i := .iadd) rfl).trans Iff.rfl
theorem x153_22 {x : Int32} {l0 l1 l2 l3 : Value} : qEx d 153 22 (.int x :: st) [l0, l1, l2, l3] σ μ la Q ↔ qEx d 153 23 st [l0, l1, l2, .int x] σ μ la Q := (qEx_eq (i := .istore_n 3) rfl).trans Iff.rfl
theorem x153_23 {x : Nat} {l1 l2 l3 : Value} : qEx d 153 23 st [.ref x, l1, l2, l3] σ μ la Q ↔ qEx d 153 24 (.ref x :: st) [.ref x, l1, l2, l3] σ μ la Q := (qEx_eq (i := .aload_n 0) rfl).trans Iff.rfl
theorem x153_24  : qEx d 153 24 st ls σ μ la Q ↔ qEx d 153 26 (.int 13 :: st) ls σ μ la Q := (qEx_eq (i := .bipush 13) rfl).trans Iff.rfl
theorem x153_26 {x : Int32} {l0 l2 l3 : Value} : qEx d 153 26 st [l0, .int x, l2, l3] σ μ la Q ↔ qEx d 153 27 (.int x :: st) [l0, .int x, l2, l3] σ μ la Q := (qEx_eq (i := .iload_n 1) rfl).trans Iff.rfl
theorem x153_27 {x y : Int32} : qEx d 153 27 (.int y :: .int x :: st) ls σ μ la Q ↔ qEx d 153 28 (.int (x + y) :: st) ls σ μ la Q := (qEx_eq (i := .iadd) rfl).trans Iff.rfl
theorem x153_28 {x : Int32} {l0 l1 l2 : Value} : qEx d 153 28 st [l0, l1, l2, .int x] σ μ la Q ↔ qEx d 153 29 (.int x :: st) [l0, l1, l2, .int x] σ μ la Q := (qEx_eq (i := .iload_n 3) rfl).trans Iff.rfl
theorem x153_29  : qEx d 153 29 st ls σ μ la Q ↔ qEx d 153 31 (.int 99 :: st) ls σ μ la Q := (qEx_eq (i := .bipush 99) rfl).trans Iff.rfl
theorem x153_31 {x y : Int32} : qEx d 153 31 (.int y :: .int x :: st) ls σ μ la Q ↔ (if x ≤ y then qEx d 153 39 st ls σ μ la Q else qEx d 153 34 st ls σ μ la Q) := (qEx_eq (i := .if_icmp .le 8) rfl).trans qExA_ite
theorem x153_34  : qEx d 153 34 st ls σ μ la Q ↔ qEx d 153 36 (.int 99 :: st) ls σ μ la Q := (qEx_eq (i := .bipush 99) rfl).trans Iff.rfl
theorem x153_36  : qEx d 153 36 st ls σ μ la Q ↔ qEx d 153 40 st ls σ μ la Q := (qEx_eq (i := .goto 4) rfl).trans Iff.rfl
theorem x153_39 {x : Int32} {l0 l1 l2 : Value} : qEx d 153 39 st [l0, l1, l2, .int x] σ μ la Q ↔ qEx d 153 40 (.int x :: st) [l0, l1, l2, .int x] σ μ la Q := (qEx_eq (i := .iload_n 3) rfl).trans Iff.rfl
theorem x153_40 {x y : Int32} {a : Nat} : qEx d 153 40 (.int y :: .int x :: .ref a :: st) ls σ μ la Q ↔ (qIn x (qLen σ 10 a) = true ∧ qEx d 153 41 st ls σ (qset μ a x.toNatClampNeg y) la Q) := (qEx_eq (i := .iastore) rfl).trans qExA_chk
theorem x153_41 {x : Nat} {l1 l2 l3 : Value} : qEx d 153 41 st [.ref x, l1, l2, l3] σ μ la Q ↔ qEx d 153 42 (.ref x :: st) [.ref x, l1, l2, l3] σ μ la Q := (qEx_eq (i := .aload_n 0) rfl).trans Iff.rfl
theorem x153_42  : qEx d 153 42 st ls σ μ la Q ↔ qEx d 153 44 (.int 25 :: st) ls σ μ la Q := (qEx_eq (i := .bipush 25) rfl).trans Iff.rfl
theorem x153_44  : qEx d 153 44 st ls σ μ la Q ↔ qEx d 153 45 (.int 4 :: st) ls σ μ la Q := (qEx_eq (i := .iconst 4) rfl).trans Iff.rfl
theorem x153_45 {x : Int32} {l0 l2 l3 : Value} : qEx d 153 45 st [l0, .int x, l2, l3] σ μ la Q ↔ qEx d 153 46 (.int x :: st) [l0, .int x, l2, l3] σ μ la Q := (qEx_eq (i := .iload_n 1) rfl).trans Iff.rfl
theorem x153_46 {x y : Int32} : qEx d 153 46 (.int y :: .int x :: st) ls σ μ la Q ↔ qEx d 153 47 (.int (x * y) :: st) ls σ μ la Q := (qEx_eq (i := .imul) rfl).trans Iff.rfl
theorem x153_47 {x y : Int32} : qEx d 153 47 (.int y :: .int x :: st) ls σ μ la Q ↔ qEx d 153 48 (.int (x + y) :: st) ls σ μ la Q := (qEx_eq (i := .iadd) rfl).trans Iff.rfl
theorem x153_48 {x : Int32} {l0 l1 l3 : Value} : qEx d 153 48 st [l0, l1, .int x, l3] σ μ la Q ↔ qEx d 153 49 (.int x :: st) [l0, l1, .int x, l3] σ μ la Q := (qEx_eq (i := .iload_n 2) rfl).trans Iff.rfl
theorem x153_49 {x y : Int32} : qEx d 153 49 (.int y :: .int x :: st) ls σ μ la Q ↔ qEx d 153 50 (.int (x + y) :: st) ls σ μ la Q := (qEx_eq (i := .iadd) rfl).trans Iff.rfl
theorem x153_50 {x : Int32} {y : Nat} : qEx d 153 50 (.int x :: .ref y :: st) ls σ μ la Q ↔ qEx d 153 51 (.int x :: .ref y :: .int x :: .ref y :: st) ls σ μ la Q := (qEx_eq (i := .dup2) rfl).trans Iff.rfl
theorem x153_51 {x : Int32} {a : Nat} : qEx d 153 51 (.int x :: .ref a :: st) ls σ μ la Q ↔ (qIn x (qIld σ μ a) = true ∧ qEx d 153 52 (.int (μ a x.toNatClampNeg) :: st) ls σ μ la Q) := (qEx_eq (i := .iaload) rfl).trans qExA_chk
theorem x153_52  : qEx d 153 52 st ls σ μ la Q ↔ qEx d 153 53 (.int 1 :: st) ls σ μ la Q := (qEx_eq (i := .iconst 1) rfl).trans Iff.rfl
theorem x153_53 {x y : Int32} : qEx d 153 53 (.int y :: .int x :: st) ls σ μ la Q ↔ qEx d 153 54 (.int (x + y) :: st) ls σ μ la Q := (qEx_eq (i := .iadd) rfl).trans Iff.rfl
theorem x153_54 {x y : Int32} {a : Nat} : qEx d 153 54 (.int y :: .int x :: .ref a :: st) ls σ μ la Q ↔ (qIn x (qLen σ 10 a) = true ∧ qEx d 153 55 st ls σ (qset μ a x.toNatClampNeg y) la Q) := (qEx_eq (i := .iastore) rfl).trans qExA_chk
theorem x153_55  : qEx d 153 55 [] ls σ μ la Q ↔ Q none σ μ la := (qEx_eq (i := .return_) rfl).trans Iff.rfl
theorem x154_0 {x : Nat} {l1 l2 : Value} : qEx d 154 0 st [.ref x, l1, l2] σ μ la Q ↔ qEx d 154 1 (.ref x :: st) [.ref x, l1, l2] σ μ la Q := (qEx_eq (i := .aload_n 0) rfl).trans Iff.rfl
theorem x154_1 {x : Int32} {l0 l2 : Value} : qEx d 154 1 st [l0, .int x, l2] σ μ la Q ↔ qEx d 154 2 (.int x :: st) [l0, .int x, l2] σ μ la Q := (qEx_eq (i := .iload_n 1) rfl).trans Iff.rfl
theorem x154_2 {y0 : Int32} {a : Nat} : qEx (d + 1) 154 2 [.int y0, .ref a] ls σ μ la Q ↔ (qOk σ a 7 = true ∧ qEx d 122 0 [] [.ref a, .int y0] σ μ la fun r σ' μ' la' => qEx (d + 1) 154 5 (r.toList ++ []) ls σ' μ' la' Q) := (qEx_eq (i := .invokevirtual 125) rfl).trans qExA_chk
theorem x154_5 {x : Int32} : qEx d 154 5 (.int x :: st) ls σ μ la Q ↔ (if x = 0 then qEx d 154 17 st ls σ μ la Q else qEx d 154 8 st ls σ μ la Q) := (qEx_eq (i := .ifCond .eq 12) rfl).trans qExA_ite
theorem x154_8 {x : Int32} {l0 l1 : Value} : qEx d 154 8 st [l0, l1, .int x] σ μ la Q ↔ qEx d 154 9 (.int x :: st) [l0, l1, .int x] σ μ la Q := (qEx_eq (i := .iload_n 2) rfl).trans Iff.rfl
theorem x154_9  : qEx d 154 9 st ls σ μ la Q ↔ qEx d 154 10 (.int 0 :: st) ls σ μ la Q := (qEx_eq (i := .iconst 0) rfl).trans Iff.rfl
theorem x154_10  : qEx d 154 10 st ls σ μ la Q ↔ qEx d 154 11 (.int 3 :: st) ls σ μ la Q := (qEx_eq (i := .iconst 3) rfl).trans Iff.rfl
theorem x154_11 {y0 : Int32} {y1 : Int32} {y2 : Int32} : qEx (d + 1) 154 11 [.int y2, .int y1, .int y0] ls σ μ la Q ↔ qEx d 118 0 [] [.int y0, .int y1, .int y2] σ μ la fun r σ' μ' la' => qEx (d + 1) 154 14 (r.toList ++ []) ls σ' μ' la' Q := (qEx_eq (i := .invokestatic 63) rfl).trans Iff.rfl
theorem x154_14 {x : Int32} : qEx d 154 14 (.int x :: st) ls σ μ la Q ↔ (if ¬ x = 0 then qEx d 154 19 st ls σ μ la Q else qEx d 154 17 st ls σ μ la Q) := (qEx_eq (i := .ifCond .ne 5) rfl).trans qExA_ite
theorem x154_17  : qEx d 154 17 st ls σ μ la Q ↔ qEx d 154 18 (.int (-1) :: st) ls σ μ la Q := (qEx_eq (i := .iconst (-1)) rfl).trans Iff.rfl
theorem x154_18 {x : Int32} : qEx d 154 18 [.int x] ls σ μ la Q ↔ Q (some (.int x)) σ μ la := (qEx_eq (i := .ireturn) rfl).trans Iff.rfl
theorem x154_19 {x : Nat} {l1 l2 : Value} : qEx d 154 19 st [.ref x, l1, l2] σ μ la Q ↔ qEx d 154 20 (.ref x :: st) [.ref x, l1, l2] σ μ la Q := (qEx_eq (i := .aload_n 0) rfl).trans Iff.rfl
theorem x154_20 {a : Nat} : qEx (d + 1) 154 20 [.ref a] ls σ μ la Q ↔ (qOk σ a 7 = true ∧ qEx d 150 0 [] [.ref a] σ μ la fun r σ' μ' la' => qEx (d + 1) 154 23 (r.toList ++ []) ls σ' μ' la' Q) := (qEx_eq (i := .invokevirtual 169) rfl).trans qExA_chk
theorem x154_23 {x : Nat} {l1 l2 : Value} : qEx d 154 23 st [.ref x, l1, l2] σ μ la Q ↔ qEx d 154 24 (.ref x :: st) [.ref x, l1, l2] σ μ la Q := (qEx_eq (i := .aload_n 0) rfl).trans Iff.rfl
theorem x154_24 {a : Nat} : qEx d 154 24 (.ref a :: st) ls σ μ la Q ↔ (qOk σ a 7 = true ∧ qEx d 154 27 (qrf (σ.2 a 6) :: st) ls σ μ la Q) := (qEx_eq (i := .getfield 23) rfl).trans qExA_chk
theorem x154_27 {x : Int32} {l0 l2 : Value} : qEx d 154 27 st [l0, .int x, l2] σ μ la Q ↔ qEx d 154 28 (.int x :: st) [l0, .int x, l2] σ μ la Q := (qEx_eq (i := .iload_n 1) rfl).trans Iff.rfl
theorem x154_28 {x : Int32} {l0 l1 : Value} : qEx d 154 28 st [l0, l1, .int x] σ μ la Q ↔ qEx d 154 29 (.int x :: st) [l0, l1, .int x] σ μ la Q := (qEx_eq (i := .iload_n 2) rfl).trans Iff.rfl
theorem x154_29 {y0 : Nat} {y1 : Int32} {y2 : Int32} : qEx (d + 1) 154 29 [.int y2, .int y1, .ref y0] ls σ μ la Q ↔ qEx d 153 0 [] [.ref y0, .int y1, .int y2, .retAddr 0] σ μ la fun r σ' μ' la' => qEx (d + 1) 154 32 (r.toList ++ []) ls σ' μ' la' Q := (qEx_eq (i := .invokestatic 179) rfl).trans Iff.rfl
theorem x154_32 {x : Nat} {l1 l2 : Value} : qEx d 154 32 st [.ref x, l1, l2] σ μ la Q ↔ qEx d 154 33 (.ref x :: st) [.ref x, l1, l2] σ μ la Q := (qEx_eq (i := .aload_n 0) rfl).trans Iff.rfl
theorem x154_33 {a : Nat} : qEx d 154 33 (.ref a :: st) ls σ μ la Q ↔ (qOk σ a 7 = true ∧ qEx d 154 36 (qrf (σ.2 a 6) :: st) ls σ μ la Q) := (qEx_eq (i := .getfield 23) rfl).trans qExA_chk
theorem x154_36  : qEx d 154 36 st ls σ μ la Q ↔ qEx d 154 38 (.int 13 :: st) ls σ μ la Q := (qEx_eq (i := .bipush 13) rfl).trans Iff.rfl
theorem x154_38 {x : Int32} {l0 l2 : Value} : qEx d 154 38 st [l0, .int x, l2] σ μ la Q ↔ qEx d 154 39 (.int x :: st) [l0, .int x, l2] σ μ la Q := (qEx_eq (i := .iload_n 1) rfl).trans Iff.rfl
theorem x154_39 {x y : Int32} : qEx d 154 39 (.int y :: .int x :: st) ls σ μ la Q ↔ qEx d 154 40 (.int (x + y) :: st) ls σ μ la Q := (qEx_eq (i := .iadd) rfl).trans Iff.rfl
theorem x154_40 {x : Int32} {a : Nat} : qEx d 154 40 (.int x :: .ref a :: st) ls σ μ la Q ↔ (qIn x (qIld σ μ a) = true ∧ qEx d 154 41 (.int (μ a x.toNatClampNeg) :: st) ls σ μ la Q) := (qEx_eq (i := .iaload) rfl).trans qExA_chk
theorem x154_41 {x : Int32} : qEx d 154 41 [.int x] ls σ μ la Q ↔ Q (some (.int x)) σ μ la := (qEx_eq (i := .ireturn) rfl).trans Iff.rfl
theorem x155_0 {x : Nat} {l1 l2 l3 : Value} : qEx d 155 0 st [.ref x, l1, l2, l3] σ μ la Q ↔ qEx d 155 1 (.ref x :: st) [.ref x, l1, l2, l3] σ μ la Q := (qEx_eq (i := .aload_n 0) rfl).trans Iff.rfl
theorem x155_1 {x : Int32} {l0 l2 l3 : Value} : qEx d 155 1 st [l0, .int x, l2, l3] σ μ la Q ↔ qEx d 155 2 (.int x :: st) [l0, .int x, l2, l3] σ μ la Q := (qEx_eq (i := .iload_n 1) rfl).trans Iff.rfl
theorem x155_2 {y0 : Int32} {a : Nat} : qEx (d + 1) 155 2 [.int y0, .ref a] ls σ μ la Q ↔ (qOk σ a 7 = true ∧ qEx d 122 0 [] [.ref a, .int y0] σ μ la fun r σ' μ' la' => qEx (d + 1) 155 5 (r.toList ++ []) ls σ' μ' la' Q) := (qEx_eq (i := .invokevirtual 125) rfl).trans qExA_chk
theorem x155_5 {x : Int32} : qEx d 155 5 (.int x :: st) ls σ μ la Q ↔ (if x = 0 then qEx d 155 17 st ls σ μ la Q else qEx d 155 8 st ls σ μ la Q) := (qEx_eq (i := .ifCond .eq 12) rfl).trans qExA_ite
theorem x155_8 {x : Int32} {l0 l1 l3 : Value} : qEx d 155 8 st [l0, l1, .int x, l3] σ μ la Q ↔ qEx d 155 9 (.int x :: st) [l0, l1, .int x, l3] σ μ la Q := (qEx_eq (i := .iload_n 2) rfl).trans Iff.rfl
theorem x155_9  : qEx d 155 9 st ls σ μ la Q ↔ qEx d 155 10 (.int 0 :: st) ls σ μ la Q := (qEx_eq (i := .iconst 0) rfl).trans Iff.rfl
theorem x155_10  : qEx d 155 10 st ls σ μ la Q ↔ qEx d 155 11 (.int 3 :: st) ls σ μ la Q := (qEx_eq (i := .iconst 3) rfl).trans Iff.rfl
theorem x155_11 {y0 : Int32} {y1 : Int32} {y2 : Int32} : qEx (d + 1) 155 11 [.int y2, .int y1, .int y0] ls σ μ la Q ↔ qEx d 118 0 [] [.int y0, .int y1, .int y2] σ μ la fun r σ' μ' la' => qEx (d + 1) 155 14 (r.toList ++ []) ls σ' μ' la' Q := (qEx_eq (i := .invokestatic 63) rfl).trans Iff.rfl
theorem x155_14 {x : Int32} : qEx d 155 14 (.int x :: st) ls σ μ la Q ↔ (if ¬ x = 0 then qEx d 155 19 st ls σ μ la Q else qEx d 155 17 st ls σ μ la Q) := (qEx_eq (i := .ifCond .ne 5) rfl).trans qExA_ite
theorem x155_17  : qEx d 155 17 st ls σ μ la Q ↔ qEx d 155 18 (.int (-1) :: st) ls σ μ la Q := (qEx_eq (i := .iconst (-1)) rfl).trans Iff.rfl
theorem x155_18 {x : Int32} : qEx d 155 18 [.int x] ls σ μ la Q ↔ Q (some (.int x)) σ μ la := (qEx_eq (i := .ireturn) rfl).trans Iff.rfl
theorem x155_19 {x : Nat} {l1 l2 l3 : Value} : qEx d 155 19 st [.ref x, l1, l2, l3] σ μ la Q ↔ qEx d 155 20 (.ref x :: st) [.ref x, l1, l2, l3] σ μ la Q := (qEx_eq (i := .aload_n 0) rfl).trans Iff.rfl
theorem x155_20 {a : Nat} : qEx d 155 20 (.ref a :: st) ls σ μ la Q ↔ (qOk σ a 7 = true ∧ qEx d 155 23 (qrf (σ.2 a 6) :: st) ls σ μ la Q) := (qEx_eq (i := .getfield 23) rfl).trans qExA_chk
theorem x155_23  : qEx d 155 23 st ls σ μ la Q ↔ qEx d 155 25 (.int 7 :: st) ls σ μ la Q := (qEx_eq (i := .bipush 7) rfl).trans Iff.rfl
theorem x155_25 {x : Int32} {l0 l2 l3 : Value} : qEx d 155 25 st [l0, .int x, l2, l3] σ μ la Q ↔ qEx d 155 26 (.int x :: st) [l0, .int x, l2, l3] σ μ la Q := (qEx_eq (i := .iload_n 1) rfl).trans Iff.rfl
theorem x155_26 {x y : Int32} : qEx d 155 26 (.int y :: .int x :: st) ls σ μ la Q ↔ qEx d 155 27 (.int (x + y) :: st) ls σ μ la Q := (qEx_eq (i := .iadd) rfl).trans Iff.rfl
theorem x155_27 {x : Int32} {a : Nat} : qEx d 155 27 (.int x :: .ref a :: st) ls σ μ la Q ↔ (qIn x (qIld σ μ a) = true ∧ qEx d 155 28 (.int (μ a x.toNatClampNeg) :: st) ls σ μ la Q) := (qEx_eq (i := .iaload) rfl).trans qExA_chk
theorem x155_28 {x : Int32} {l0 l1 l3 : Value} : qEx d 155 28 st [l0, l1, .int x, l3] σ μ la Q ↔ qEx d 155 29 (.int x :: st) [l0, l1, .int x, l3] σ μ la Q := (qEx_eq (i := .iload_n 2) rfl).trans Iff.rfl
theorem x155_29 {x y : Int32} : qEx d 155 29 (.int y :: .int x :: st) ls σ μ la Q ↔ (if ¬ x = y then qEx d 155 35 st ls σ μ la Q else qEx d 155 32 st ls σ μ la Q) := (qEx_eq (i := .if_icmp .ne 6) rfl).trans qExA_ite
theorem x155_32  : qEx d 155 32 st ls σ μ la Q ↔ qEx d 155 34 (.int (-2) :: st) ls σ μ la Q := (qEx_eq (i := .bipush (-2)) rfl).trans Iff.rfl
theorem x155_34 {x : Int32} : qEx d 155 34 [.int x] ls σ μ la Q ↔ Q (some (.int x)) σ μ la := (qEx_eq (i := .ireturn) rfl).trans Iff.rfl
theorem x155_35 {x : Nat} {l1 l2 l3 : Value} : qEx d 155 35 st [.ref x, l1, l2, l3] σ μ la Q ↔ qEx d 155 36 (.ref x :: st) [.ref x, l1, l2, l3] σ μ la Q := (qEx_eq (i := .aload_n 0) rfl).trans Iff.rfl
theorem x155_36 {a : Nat} : qEx (d + 1) 155 36 [.ref a] ls σ μ la Q ↔ (qOk σ a 7 = true ∧ qEx d 150 0 [] [.ref a] σ μ la fun r σ' μ' la' => qEx (d + 1) 155 39 (r.toList ++ []) ls σ' μ' la' Q) := (qEx_eq (i := .invokevirtual 169) rfl).trans qExA_chk
theorem x155_39 {x : Nat} {l1 l2 l3 : Value} : qEx d 155 39 st [.ref x, l1, l2, l3] σ μ la Q ↔ qEx d 155 40 (.ref x :: st) [.ref x, l1, l2, l3] σ μ la Q := (qEx_eq (i := .aload_n 0) rfl).trans Iff.rfl
theorem x155_40 {a : Nat} : qEx d 155 40 (.ref a :: st) ls σ μ la Q ↔ (qOk σ a 7 = true ∧ qEx d 155 43 (qrf (σ.2 a 6) :: st) ls σ μ la Q) := (qEx_eq (i := .getfield 23) rfl).trans qExA_chk
theorem x155_43  : qEx d 155 43 st ls σ μ la Q ↔ qEx d 155 45 (.int 7 :: st) ls σ μ la Q := (qEx_eq (i := .bipush 7) rfl).trans Iff.rfl
theorem x155_45 {x : Int32} {l0 l2 l3 : Value} : qEx d 155 45 st [l0, .int x, l2, l3] σ μ la Q ↔ qEx d 155 46 (.int x :: st) [l0, .int x, l2, l3] σ μ la Q := (qEx_eq (i := .iload_n 1) rfl).trans Iff.rfl
theorem x155_46 {x y : Int32} : qEx d 155 46 (.int y :: .int x :: st) ls σ μ la Q ↔ qEx d 155 47 (.int (x + y) :: st) ls σ μ la Q := (qEx_eq (i := .iadd) rfl).trans Iff.rfl
theorem x155_47 {x : Int32} {a : Nat} : qEx d 155 47 (.int x :: .ref a :: st) ls σ μ la Q ↔ (qIn x (qIld σ μ a) = true ∧ qEx d 155 48 (.int (μ a x.toNatClampNeg) :: st) ls σ μ la Q) := (qEx_eq (i := .iaload) rfl).trans qExA_chk
theorem x155_48 {x : Int32} {l0 l1 l2 l3 : Value} : qEx d 155 48 (.int x :: st) [l0, l1, l2, l3] σ μ la Q ↔ qEx d 155 49 st [l0, l1, l2, .int x] σ μ la Q := (qEx_eq (i := .istore_n 3) rfl).trans Iff.rfl
theorem x155_49 {x : Nat} {l1 l2 l3 : Value} : qEx d 155 49 st [.ref x, l1, l2, l3] σ μ la Q ↔ qEx d 155 50 (.ref x :: st) [.ref x, l1, l2, l3] σ μ la Q := (qEx_eq (i := .aload_n 0) rfl).trans Iff.rfl
theorem x155_50 {a : Nat} : qEx d 155 50 (.ref a :: st) ls σ μ la Q ↔ (qOk σ a 7 = true ∧ qEx d 155 53 (qrf (σ.2 a 6) :: st) ls σ μ la Q) := (qEx_eq (i := .getfield 23) rfl).trans qExA_chk
theorem x155_53  : qEx d 155 53 st ls σ μ la Q ↔ qEx d 155 55 (.int 7 :: st) ls σ μ la Q := (qEx_eq (i := .bipush 7) rfl).trans Iff.rfl
theorem x155_55 {x : Int32} {l0 l2 l3 : Value} : qEx d 155 55 st [l0, .int x, l2, l3] σ μ la Q ↔ qEx d 155 56 (.int x :: st) [l0, .int x, l2, l3] σ μ la Q := (qEx_eq (i := .iload_n 1) rfl).trans Iff.rfl
theorem x155_56 {x y : Int32} : qEx d 155 56 (.int y :: .int x :: st) ls σ μ la Q ↔ qEx d 155 57 (.int (x + y) :: st) ls σ μ la Q := (qEx_eq (i := .iadd) rfl).trans Iff.rfl
theorem x155_57 {x : Int32} {l0 l1 l3 : Value} : qEx d 155 57 st [l0, l1, .int x, l3] σ μ la Q ↔ qEx d 155 58 (.int x :: st) [l0, l1, .int x, l3] σ μ la Q := (qEx_eq (i := .iload_n 2) rfl).trans Iff.rfl
theorem x155_58 {x y : Int32} {a : Nat} : qEx d 155 58 (.int y :: .int x :: .ref a :: st) ls σ μ la Q ↔ (qIn x (qLen σ 10 a) = true ∧ qEx d 155 59 st ls σ (qset μ a x.toNatClampNeg y) la Q) := (qEx_eq (i := .iastore) rfl).trans qExA_chk
theorem x155_59 {x : Int32} {l0 l1 l2 : Value} : qEx d 155 59 st [l0, l1, l2, .int x] σ μ la Q ↔ qEx d 155 60 (.int x :: st) [l0, l1, l2, .int x] σ μ la Q := (qEx_eq (i := .iload_n 3) rfl).trans Iff.rfl
theorem x155_60 {x : Int32} : qEx d 155 60 [.int x] ls σ μ la Q ↔ Q (some (.int x)) σ μ la := (qEx_eq (i := .ireturn) rfl).trans Iff.rfl
theorem x156_0 {x : Nat} {l1 l2 l3 : Value} : qEx d 156 0 st [.ref x, l1, l2, l3] σ μ la Q ↔ qEx d 156 1 (.ref x :: st) [.ref x, l1, l2, l3] σ μ la Q := (qEx_eq (i := .aload_n 0) rfl).trans Iff.rfl
theorem x156_1 {x : Int32} {l0 l2 l3 : Value} : qEx d 156 1 st [l0, .int x, l2, l3] σ μ la Q ↔ qEx d 156 2 (.int x :: st) [l0, .int x, l2, l3] σ μ la Q := (qEx_eq (i := .iload_n 1) rfl).trans Iff.rfl
theorem x156_2 {y0 : Int32} {a : Nat} : qEx (d + 1) 156 2 [.int y0, .ref a] ls σ μ la Q ↔ (qOk σ a 7 = true ∧ qEx d 123 0 [] [.ref a, .int y0] σ μ la fun r σ' μ' la' => qEx (d + 1) 156 5 (r.toList ++ []) ls σ' μ' la' Q) := (qEx_eq (i := .invokevirtual 128) rfl).trans qExA_chk
theorem x156_5 {x : Int32} : qEx d 156 5 (.int x :: st) ls σ μ la Q ↔ (if x = 0 then qEx d 156 17 st ls σ μ la Q else qEx d 156 8 st ls σ μ la Q) := (qEx_eq (i := .ifCond .eq 12) rfl).trans qExA_ite
theorem x156_8 {x : Int32} {l0 l1 l3 : Value} : qEx d 156 8 st [l0, l1, .int x, l3] σ μ la Q ↔ qEx d 156 9 (.int x :: st) [l0, l1, .int x, l3] σ μ la Q := (qEx_eq (i := .iload_n 2) rfl).trans Iff.rfl
theorem x156_9  : qEx d 156 9 st ls σ μ la Q ↔ qEx d 156 10 (.int 0 :: st) ls σ μ la Q := (qEx_eq (i := .iconst 0) rfl).trans Iff.rfl
theorem x156_10  : qEx d 156 10 st ls σ μ la Q ↔ qEx d 156 11 (.int 1 :: st) ls σ μ la Q := (qEx_eq (i := .iconst 1) rfl).trans Iff.rfl
theorem x156_11 {y0 : Int32} {y1 : Int32} {y2 : Int32} : qEx (d + 1) 156 11 [.int y2, .int y1, .int y0] ls σ μ la Q ↔ qEx d 118 0 [] [.int y0, .int y1, .int y2] σ μ la fun r σ' μ' la' => qEx (d + 1) 156 14 (r.toList ++ []) ls σ' μ' la' Q := (qEx_eq (i := .invokestatic 63) rfl).trans Iff.rfl
theorem x156_14 {x : Int32} : qEx d 156 14 (.int x :: st) ls σ μ la Q ↔ (if ¬ x = 0 then qEx d 156 19 st ls σ μ la Q else qEx d 156 17 st ls σ μ la Q) := (qEx_eq (i := .ifCond .ne 5) rfl).trans qExA_ite
theorem x156_17  : qEx d 156 17 st ls σ μ la Q ↔ qEx d 156 18 (.int (-1) :: st) ls σ μ la Q := (qEx_eq (i := .iconst (-1)) rfl).trans Iff.rfl
theorem x156_18 {x : Int32} : qEx d 156 18 [.int x] ls σ μ la Q ↔ Q (some (.int x)) σ μ la := (qEx_eq (i := .ireturn) rfl).trans Iff.rfl
theorem x156_19 {x : Nat} {l1 l2 l3 : Value} : qEx d 156 19 st [.ref x, l1, l2, l3] σ μ la Q ↔ qEx d 156 20 (.ref x :: st) [.ref x, l1, l2, l3] σ μ la Q := (qEx_eq (i := .aload_n 0) rfl).trans Iff.rfl
theorem x156_20 {a : Nat} : qEx d 156 20 (.ref a :: st) ls σ μ la Q ↔ (qOk σ a 7 = true ∧ qEx d 156 23 (qrf (σ.2 a 6) :: st) ls σ μ la Q) := (qEx_eq (i := .getfield 23) rfl).trans qExA_chk
theorem x156_23  : qEx d 156 23 st ls σ μ la Q ↔ qEx d 156 25 (.int 49 :: st) ls σ μ la Q := (qEx_eq (i := .bipush 49) rfl).trans Iff.rfl
theorem x156_25 {x : Int32} {l0 l2 l3 : Value} : qEx d 156 25 st [l0, .int x, l2, l3] σ μ la Q ↔ qEx d 156 26 (.int x :: st) [l0, .int x, l2, l3] σ μ la Q := (qEx_eq (i := .iload_n 1) rfl).trans Iff.rfl
theorem x156_26 {x y : Int32} : qEx d 156 26 (.int y :: .int x :: st) ls σ μ la Q ↔ qEx d 156 27 (.int (x + y) :: st) ls σ μ la Q := (qEx_eq (i := .iadd) rfl).trans Iff.rfl
theorem x156_27 {x : Int32} {a : Nat} : qEx d 156 27 (.int x :: .ref a :: st) ls σ μ la Q ↔ (qIn x (qIld σ μ a) = true ∧ qEx d 156 28 (.int (μ a x.toNatClampNeg) :: st) ls σ μ la Q) := (qEx_eq (i := .iaload) rfl).trans qExA_chk
theorem x156_28 {x : Int32} {l0 l1 l2 l3 : Value} : qEx d 156 28 (.int x :: st) [l0, l1, l2, l3] σ μ la Q ↔ qEx d 156 29 st [l0, l1, l2, .int x] σ μ la Q := (qEx_eq (i := .istore_n 3) rfl).trans Iff.rfl
theorem x156_29 {x : Int32} {l0 l1 l2 : Value} : qEx d 156 29 st [l0, l1, l2, .int x] σ μ la Q ↔ qEx d 156 30 (.int x :: st) [l0, l1, l2, .int x] σ μ la Q := (qEx_eq (i := .iload_n 3) rfl).trans Iff.rfl
theorem x156_30 {x : Int32} {l0 l1 l3 : Value} : qEx d 156 30 st [l0, l1, .int x, l3] σ μ la Q ↔ qEx d 156 31 (.int x :: st) [l0, l1, .int x, l3] σ μ la Q := (qEx_eq (i := .iload_n 2) rfl).trans Iff.rfl
theorem x156_31 {x y : Int32} : qEx d 156 31 (.int y :: .int x :: st) ls σ μ la Q ↔ (if x = y then qEx d 156 52 st ls σ μ la Q else qEx d 156 34 st ls σ μ la Q) := (qEx_eq (i := .if_icmp .eq 21) rfl).trans qExA_ite
theorem x156_34 {x : Int32} {l0 l1 l3 : Value} : qEx d 156 34 st [l0, l1, .int x, l3] σ μ la Q ↔ qEx d 156 35 (.int x :: st) [l0, l1, .int x, l3] σ μ la Q := (qEx_eq (i := .iload_n 2) rfl).trans Iff.rfl
theorem x156_35  : qEx d 156 35 st ls σ μ la Q ↔ qEx d 156 36 (.int 1 :: st) ls σ μ la Q := (qEx_eq (i := .iconst 1) rfl).trans Iff.rfl
theorem x156_36 {x y : Int32} : qEx d 156 36 (.int y :: .int x :: st) ls σ μ la Q ↔ (if ¬ x = y then qEx d 156 55 st ls σ μ la Q else qEx d 156 39 st ls σ μ la Q) := (qEx_eq (i := .if_icmp .ne 19) rfl).trans qExA_ite
theorem x156_39 {x : Nat} {l1 l2 l3 : Value} : qEx d 156 39 st [.ref x, l1, l2, l3] σ μ la Q ↔ qEx d 156 40 (.ref x :: st) [.ref x, l1, l2, l3] σ μ la Q := (qEx_eq (i := .aload_n 0) rfl).trans Iff.rfl
theorem x156_40 {a : Nat} : qEx d 156 40 (.ref a :: st) ls σ μ la Q ↔ (qOk σ a 7 = true ∧ qEx d 156 43 (qrf (σ.2 a 6) :: st) ls σ μ la Q) := (qEx_eq (i := .getfield 23) rfl).trans qExA_chk
theorem x156_43 {x : Int32} {l0 l2 l3 : Value} : qEx d 156 43 st [l0, .int x, l2, l3] σ μ la Q ↔ qEx d 156 44 (.int x :: st) [l0, .int x, l2, l3] σ μ la Q := (qEx_eq (i := .iload_n 1) rfl).trans Iff.rfl
theorem x156_44 {y0 : Nat} {y1 : Int32} : qEx (d + 1) 156 44 [.int y1, .ref y0] ls σ μ la Q ↔ qEx d 141 0 [] [.ref y0, .int y1, .retAddr 0, .retAddr 0] σ μ la fun r σ' μ' la' => qEx (d + 1) 156 47 (r.toList ++ []) ls σ' μ' la' Q := (qEx_eq (i := .invokestatic 131) rfl).trans Iff.rfl
theorem x156_47  : qEx d 156 47 st ls σ μ la Q ↔ qEx d 156 49 (.int (-4) :: st) ls σ μ la Q := (qEx_eq (i := .bipush (-4)) rfl).trans Iff.rfl
theorem x156_49 {x y : Int32} : qEx d 156 49 (.int y :: .int x :: st) ls σ μ la Q ↔ (if x = y then qEx d 156 55 st ls σ μ la Q else qEx d 156 52 st ls σ μ la Q) := (qEx_eq (i := .if_icmp .eq 6) rfl).trans qExA_ite
theorem x156_52  : qEx d 156 52 st ls σ μ la Q ↔ qEx d 156 54 (.int (-2) :: st) ls σ μ la Q := (qEx_eq (i := .bipush (-2)) rfl).trans Iff.rfl
theorem x156_54 {x : Int32} : qEx d 156 54 [.int x] ls σ μ la Q ↔ Q (some (.int x)) σ μ la := (qEx_eq (i := .ireturn) rfl).trans Iff.rfl
theorem x156_55 {x : Nat} {l1 l2 l3 : Value} : qEx d 156 55 st [.ref x, l1, l2, l3] σ μ la Q ↔ qEx d 156 56 (.ref x :: st) [.ref x, l1, l2, l3] σ μ la Q := (qEx_eq (i := .aload_n 0) rfl).trans Iff.rfl
theorem x156_56 {a : Nat} : qEx (d + 1) 156 56 [.ref a] ls σ μ la Q ↔ (qOk σ a 7 = true ∧ qEx d 150 0 [] [.ref a] σ μ la fun r σ' μ' la' => qEx (d + 1) 156 59 (r.toList ++ []) ls σ' μ' la' Q) := (qEx_eq (i := .invokevirtual 169) rfl).trans qExA_chk
theorem x156_59 {x : Nat} {l1 l2 l3 : Value} : qEx d 156 59 st [.ref x, l1, l2, l3] σ μ la Q ↔ qEx d 156 60 (.ref x :: st) [.ref x, l1, l2, l3] σ μ la Q := (qEx_eq (i := .aload_n 0) rfl).trans Iff.rfl
theorem x156_60 {a : Nat} : qEx d 156 60 (.ref a :: st) ls σ μ la Q ↔ (qOk σ a 7 = true ∧ qEx d 156 63 (qrf (σ.2 a 6) :: st) ls σ μ la Q) := (qEx_eq (i := .getfield 23) rfl).trans qExA_chk
theorem x156_63  : qEx d 156 63 st ls σ μ la Q ↔ qEx d 156 65 (.int 49 :: st) ls σ μ la Q := (qEx_eq (i := .bipush 49) rfl).trans Iff.rfl
theorem x156_65 {x : Int32} {l0 l2 l3 : Value} : qEx d 156 65 st [l0, .int x, l2, l3] σ μ la Q ↔ qEx d 156 66 (.int x :: st) [l0, .int x, l2, l3] σ μ la Q := (qEx_eq (i := .iload_n 1) rfl).trans Iff.rfl
theorem x156_66 {x y : Int32} : qEx d 156 66 (.int y :: .int x :: st) ls σ μ la Q ↔ qEx d 156 67 (.int (x + y) :: st) ls σ μ la Q := (qEx_eq (i := .iadd) rfl).trans Iff.rfl
theorem x156_67 {x : Int32} {l0 l1 l3 : Value} : qEx d 156 67 st [l0, l1, .int x, l3] σ μ la Q ↔ qEx d 156 68 (.int x :: st) [l0, l1, .int x, l3] σ μ la Q := (qEx_eq (i := .iload_n 2) rfl).trans Iff.rfl
theorem x156_68 {x y : Int32} {a : Nat} : qEx d 156 68 (.int y :: .int x :: .ref a :: st) ls σ μ la Q ↔ (qIn x (qLen σ 10 a) = true ∧ qEx d 156 69 st ls σ (qset μ a x.toNatClampNeg y) la Q) := (qEx_eq (i := .iastore) rfl).trans qExA_chk
theorem x156_69 {x : Int32} {l0 l1 l2 : Value} : qEx d 156 69 st [l0, l1, l2, .int x] σ μ la Q ↔ qEx d 156 70 (.int x :: st) [l0, l1, l2, .int x] σ μ la Q := (qEx_eq (i := .iload_n 3) rfl).trans Iff.rfl
theorem x156_70 {x : Int32} : qEx d 156 70 [.int x] ls σ μ la Q ↔ Q (some (.int x)) σ μ la := (qEx_eq (i := .ireturn) rfl).trans Iff.rfl
theorem x157_0 {x : Nat} : qEx d 157 0 st [.ref x] σ μ la Q ↔ qEx d 157 1 (.ref x :: st) [.ref x] σ μ la Q := (qEx_eq (i := .aload_n 0) rfl).trans Iff.rfl
theorem x157_1 {a : Nat} : qEx d 157 1 (.ref a :: st) ls σ μ la Q ↔ (qOk σ a 7 = true ∧ qEx d 157 4 (.int (μ a 13) :: st) ls σ μ la Q) := (qEx_eq (i := .getfield 122) rfl).trans qExA_chk
theorem x157_4 {x : Int32} : qEx d 157 4 (.int x :: st) ls σ μ la Q ↔ (if ¬ x = 0 then qEx d 157 10 st ls σ μ la Q else qEx d 157 7 st ls σ μ la Q) := (qEx_eq (i := .ifCond .ne 6) rfl).trans qExA_ite
theorem x157_7  : qEx d 157 7 st ls σ μ la Q ↔ qEx d 157 9 (.int (-4) :: st) ls σ μ la Q := (qEx_eq (i := .bipush (-4)) rfl).trans Iff.rfl
theorem x157_9 {x : Int32} : qEx d 157 9 [.int x] ls σ μ la Q ↔ Q (some (.int x)) σ μ la := (qEx_eq (i := .ireturn) rfl).trans Iff.rfl
theorem x157_10 {x : Nat} : qEx d 157 10 st [.ref x] σ μ la Q ↔ qEx d 157 11 (.ref x :: st) [.ref x] σ μ la Q := (qEx_eq (i := .aload_n 0) rfl).trans Iff.rfl
theorem x157_11 {x : Nat} : qEx d 157 11 (.ref x :: st) ls σ μ la Q ↔ qEx d 157 12 (.ref x :: .ref x :: st) ls σ μ la Q := (qEx_eq (i := .dup) rfl).trans Iff.rfl
theorem x157_12 {a : Nat} : qEx d 157 12 (.ref a :: st) ls σ μ la Q ↔ (qOk σ a 7 = true ∧ qEx d 157 15 (.int (μ a 13) :: st) ls σ μ la Q) := (qEx_eq (i := .getfield 122) rfl).trans qExA_chk
theorem x157_15  : qEx d 157 15 st ls σ μ la Q ↔ qEx d 157 16 (.int 1 :: st) ls σ μ la Q := (qEx_eq (i := .iconst 1) rfl).trans Iff.rfl
theorem x157_16 {x y : Int32} : qEx d 157 16 (.int y :: .int x :: st) ls σ μ la Q ↔ qEx d 157 17 (.int (x - y) :: st) ls σ μ la Q := (qEx_eq (i := .isub) rfl).trans Iff.rfl
theorem x157_17 {x : Int32} {a : Nat} : qEx d 157 17 (.int x :: .ref a :: st) ls σ μ la Q ↔ (qOk σ a 7 = true ∧ qEx d 157 20 st ls σ (qset μ a 13 x) la Q) := (qEx_eq (i := .putfield 122) rfl).trans qExA_chk
theorem x157_20 {x : Nat} : qEx d 157 20 st [.ref x] σ μ la Q ↔ qEx d 157 21 (.ref x :: st) [.ref x] σ μ la Q := (qEx_eq (i := .aload_n 0) rfl).trans Iff.rfl
theorem x157_21 {a : Nat} : qEx d 157 21 (.ref a :: st) ls σ μ la Q ↔ (qOk σ a 7 = true ∧ qEx d 157 24 (qrf (σ.2 a 12) :: st) ls σ μ la Q) := (qEx_eq (i := .getfield 42) rfl).trans qExA_chk
theorem x157_24  : qEx d 157 24 st ls σ μ la Q ↔ qEx d 157 26 (.int 113 :: st) ls σ μ la Q := (qEx_eq (i := .bipush 113) rfl).trans Iff.rfl
theorem x157_26 {x : Nat} : qEx d 157 26 st [.ref x] σ μ la Q ↔ qEx d 157 27 (.ref x :: st) [.ref x] σ μ la Q := (qEx_eq (i := .aload_n 0) rfl).trans Iff.rfl
theorem x157_27 {a : Nat} : qEx d 157 27 (.ref a :: st) ls σ μ la Q ↔ (qOk σ a 7 = true ∧ qEx d 157 30 (.int (μ a 13) :: st) ls σ μ la Q) := (qEx_eq (i := .getfield 122) rfl).trans qExA_chk
theorem x157_30 {x y : Int32} : qEx d 157 30 (.int y :: .int x :: st) ls σ μ la Q ↔ qEx d 157 31 (.int (x * y) :: st) ls σ μ la Q := (qEx_eq (i := .imul) rfl).trans Iff.rfl
theorem x157_31 {x : Nat} : qEx d 157 31 st [.ref x] σ μ la Q ↔ qEx d 157 32 (.ref x :: st) [.ref x] σ μ la Q := (qEx_eq (i := .aload_n 0) rfl).trans Iff.rfl
theorem x157_32 {a : Nat} : qEx d 157 32 (.ref a :: st) ls σ μ la Q ↔ (qOk σ a 7 = true ∧ qEx d 157 35 (qrf (σ.2 a 6) :: st) ls σ μ la Q) := (qEx_eq (i := .getfield 23) rfl).trans qExA_chk
theorem x157_35  : qEx d 157 35 st ls σ μ la Q ↔ qEx d 157 36 (.int 0 :: st) ls σ μ la Q := (qEx_eq (i := .iconst 0) rfl).trans Iff.rfl
theorem x157_36  : qEx d 157 36 st ls σ μ la Q ↔ qEx d 157 38 (.int 113 :: st) ls σ μ la Q := (qEx_eq (i := .bipush 113) rfl).trans Iff.rfl
theorem x157_38 {y0 : Nat} {y1 : Int32} {y2 : Nat} {y3 : Int32} {y4 : Int32} : qEx (d + 1) 157 38 [.int y4, .int y3, .ref y2, .int y1, .ref y0] ls σ μ la Q ↔ qEx d 120 0 [] [.ref y0, .int y1, .ref y2, .int y3, .int y4, .retAddr 0] σ μ la fun r σ' μ' la' => qEx (d + 1) 157 41 (r.toList ++ []) ls σ' μ' la' Q := (qEx_eq (i := .invokestatic 118) rfl).trans Iff.rfl
theorem x157_41 {x : Nat} : qEx d 157 41 st [.ref x] σ μ la Q ↔ qEx d 157 42 (.ref x :: st) [.ref x] σ μ la Q := (qEx_eq (i := .aload_n 0) rfl).trans Iff.rfl
theorem x157_42 {a : Nat} : qEx d 157 42 (.ref a :: st) ls σ μ la Q ↔ (qOk σ a 7 = true ∧ qEx d 157 45 (.int (μ a 13) :: st) ls σ μ la Q) := (qEx_eq (i := .getfield 122) rfl).trans qExA_chk
theorem x157_45 {x : Int32} : qEx d 157 45 [.int x] ls σ μ la Q ↔ Q (some (.int x)) σ μ la := (qEx_eq (i := .ireturn) rfl).trans Iff.rfl
theorem x158_0 {x : Int32} {l0 : Value} : qEx d 158 0 st [l0, .int x] σ μ la Q ↔ qEx d 158 1 (.int x :: st) [l0, .int x] σ μ la Q := (qEx_eq (i := .iload_n 1) rfl).trans Iff.rfl
theorem x158_1  : qEx d 158 1 st ls σ μ la Q ↔ qEx d 158 2 (.int 0 :: st) ls σ μ la Q := (qEx_eq (i := .iconst 0) rfl).trans Iff.rfl
theorem x158_2  : qEx d 158 2 st ls σ μ la Q ↔ qEx d 158 3 (.int 1 :: st) ls σ μ la Q := (qEx_eq (i := .iconst 1) rfl).trans Iff.rfl
theorem x158_3 {y0 : Int32} {y1 : Int32} {y2 : Int32} : qEx (d + 1) 158 3 [.int y2, .int y1, .int y0] ls σ μ la Q ↔ qEx d 118 0 [] [.int y0, .int y1, .int y2] σ μ la fun r σ' μ' la' => qEx (d + 1) 158 6 (r.toList ++ []) ls σ' μ' la' Q := (qEx_eq (i := .invokestatic 63) rfl).trans Iff.rfl
theorem x158_6 {x : Int32} : qEx d 158 6 (.int x :: st) ls σ μ la Q ↔ (if ¬ x = 0 then qEx d 158 11 st ls σ μ la Q else qEx d 158 9 st ls σ μ la Q) := (qEx_eq (i := .ifCond .ne 5) rfl).trans qExA_ite
theorem x158_9  : qEx d 158 9 st ls σ μ la Q ↔ qEx d 158 10 (.int (-1) :: st) ls σ μ la Q := (qEx_eq (i := .iconst (-1)) rfl).trans Iff.rfl
theorem x158_10 {x : Int32} : qEx d 158 10 [.int x] ls σ μ la Q ↔ Q (some (.int x)) σ μ la := (qEx_eq (i := .ireturn) rfl).trans Iff.rfl
theorem x158_11 {x : Nat} {l1 : Value} : qEx d 158 11 st [.ref x, l1] σ μ la Q ↔ qEx d 158 12 (.ref x :: st) [.ref x, l1] σ μ la Q := (qEx_eq (i := .aload_n 0) rfl).trans Iff.rfl
theorem x158_12 {a : Nat} : qEx (d + 1) 158 12 [.ref a] ls σ μ la Q ↔ (qOk σ a 7 = true ∧ qEx d 121 0 [] [.ref a] σ μ la fun r σ' μ' la' => qEx (d + 1) 158 15 (r.toList ++ []) ls σ' μ' la' Q) := (qEx_eq (i := .invokevirtual 166) rfl).trans qExA_chk
theorem x158_15 {x : Int32} : qEx d 158 15 (.int x :: st) ls σ μ la Q ↔ (if ¬ x = 0 then qEx d 158 21 st ls σ μ la Q else qEx d 158 18 st ls σ μ la Q) := (qEx_eq (i := .ifCond .ne 6) rfl).trans qExA_ite
theorem x158_18  : qEx d 158 18 st ls σ μ la Q ↔ qEx d 158 20 (.int (-2) :: st) ls σ μ la Q := (qEx_eq (i := .bipush (-2)) rfl).trans Iff.rfl
theorem x158_20 {x : Int32} : qEx d 158 20 [.int x] ls σ μ la Q ↔ Q (some (.int x)) σ μ la := (qEx_eq (i := .ireturn) rfl).trans Iff.rfl
theorem x158_21 {x : Nat} {l1 : Value} : qEx d 158 21 st [.ref x, l1] σ μ la Q ↔ qEx d 158 22 (.ref x :: st) [.ref x, l1] σ μ la Q := (qEx_eq (i := .aload_n 0) rfl).trans Iff.rfl
theorem x158_22 {a : Nat} : qEx d 158 22 (.ref a :: st) ls σ μ la Q ↔ (qOk σ a 7 = true ∧ qEx d 158 25 (qrf (σ.2 a 6) :: st) ls σ μ la Q) := (qEx_eq (i := .getfield 23) rfl).trans qExA_chk
theorem x158_25  : qEx d 158 25 st ls σ μ la Q ↔ qEx d 158 26 (.int 0 :: st) ls σ μ la Q := (qEx_eq (i := .iconst 0) rfl).trans Iff.rfl
theorem x158_26 {x : Nat} {l1 : Value} : qEx d 158 26 st [.ref x, l1] σ μ la Q ↔ qEx d 158 27 (.ref x :: st) [.ref x, l1] σ μ la Q := (qEx_eq (i := .aload_n 0) rfl).trans Iff.rfl
theorem x158_27 {a : Nat} : qEx d 158 27 (.ref a :: st) ls σ μ la Q ↔ (qOk σ a 7 = true ∧ qEx d 158 30 (qrf (σ.2 a 10) :: st) ls σ μ la Q) := (qEx_eq (i := .getfield 35) rfl).trans qExA_chk
theorem x158_30  : qEx d 158 30 st ls σ μ la Q ↔ qEx d 158 32 (.int 124 :: st) ls σ μ la Q := (qEx_eq (i := .bipush 124) rfl).trans Iff.rfl
theorem x158_32 {x : Int32} {l0 : Value} : qEx d 158 32 st [l0, .int x] σ μ la Q ↔ qEx d 158 33 (.int x :: st) [l0, .int x] σ μ la Q := (qEx_eq (i := .iload_n 1) rfl).trans Iff.rfl
theorem x158_33 {x y : Int32} : qEx d 158 33 (.int y :: .int x :: st) ls σ μ la Q ↔ qEx d 158 34 (.int (x * y) :: st) ls σ μ la Q := (qEx_eq (i := .imul) rfl).trans Iff.rfl
theorem x158_34  : qEx d 158 34 st ls σ μ la Q ↔ qEx d 158 36 (.int 124 :: st) ls σ μ la Q := (qEx_eq (i := .bipush 124) rfl).trans Iff.rfl
theorem x158_36 {y0 : Nat} {y1 : Int32} {y2 : Nat} {y3 : Int32} {y4 : Int32} : qEx (d + 1) 158 36 [.int y4, .int y3, .ref y2, .int y1, .ref y0] ls σ μ la Q ↔ qEx d 120 0 [] [.ref y0, .int y1, .ref y2, .int y3, .int y4, .retAddr 0] σ μ la fun r σ' μ' la' => qEx (d + 1) 158 39 (r.toList ++ []) ls σ' μ' la' Q := (qEx_eq (i := .invokestatic 118) rfl).trans Iff.rfl
theorem x158_39 {x : Nat} {l1 : Value} : qEx d 158 39 st [.ref x, l1] σ μ la Q ↔ qEx d 158 40 (.ref x :: st) [.ref x, l1] σ μ la Q := (qEx_eq (i := .aload_n 0) rfl).trans Iff.rfl
theorem x158_40 {a : Nat} : qEx d 158 40 (.ref a :: st) ls σ μ la Q ↔ (qOk σ a 7 = true ∧ qEx d 158 43 (qrf (σ.2 a 11) :: st) ls σ μ la Q) := (qEx_eq (i := .getfield 38) rfl).trans qExA_chk
theorem x158_43 {x : Int32} {l0 : Value} : qEx d 158 43 st [l0, .int x] σ μ la Q ↔ qEx d 158 44 (.int x :: st) [l0, .int x] σ μ la Q := (qEx_eq (i := .iload_n 1) rfl).trans Iff.rfl
theorem x158_44  : qEx d 158 44 st ls σ μ la Q ↔ qEx d 158 45 (.int 1 :: st) ls σ μ la Q := (qEx_eq (i := .iconst 1) rfl).trans Iff.rfl
theorem x158_45 {x y : Int32} {a : Nat} : qEx d 158 45 (.int y :: .int x :: .ref a :: st) ls σ μ la Q ↔ ((qIn x (qLen σ 12 a) = true ∧ (y = 0 ∨ y = 1)) ∧ qEx d 158 46 st ls σ (qset μ a x.toNatClampNeg y) la Q) := (qEx_eq (i := .bastore) rfl).trans qExA_chk
theorem x158_46 {x : Nat} {l1 : Value} : qEx d 158 46 st [.ref x, l1] σ μ la Q ↔ qEx d 158 47 (.ref x :: st) [.ref x, l1] σ μ la Q := (qEx_eq (i := .aload_n 0) rfl).trans Iff.rfl
theorem x158_47 {a : Nat} : qEx d 158 47 (.ref a :: st) ls σ μ la Q ↔ (qOk σ a 7 = true ∧ qEx d 158 50 (qrf (σ.2 a 6) :: st) ls σ μ la Q) := (qEx_eq (i := .getfield 23) rfl).trans qExA_chk
theorem x158_50  : qEx d 158 50 st ls σ μ la Q ↔ qEx d 158 51 (.int 0 :: st) ls σ μ la Q := (qEx_eq (i := .iconst 0) rfl).trans Iff.rfl
theorem x158_51 {x : Int32} {a : Nat} : qEx d 158 51 (.int x :: .ref a :: st) ls σ μ la Q ↔ (qIn x (qIld σ μ a) = true ∧ qEx d 158 52 (.int (μ a x.toNatClampNeg) :: st) ls σ μ la Q) := (qEx_eq (i := .iaload) rfl).trans qExA_chk
theorem x158_52 {x : Int32} : qEx d 158 52 [.int x] ls σ μ la Q ↔ Q (some (.int x)) σ μ la := (qEx_eq (i := .ireturn) rfl).trans Iff.rfl
theorem x159_0 {x : Int32} {l0 : Value} : qEx d 159 0 st [l0, .int x] σ μ la Q ↔ qEx d 159 1 (.int x :: st) [l0, .int x] σ μ la Q := (qEx_eq (i := .iload_n 1) rfl).trans Iff.rfl
theorem x159_1  : qEx d 159 1 st ls σ μ la Q ↔ qEx d 159 2 (.int 0 :: st) ls σ μ la Q := (qEx_eq (i := .iconst 0) rfl).trans Iff.rfl
theorem x159_2  : qEx d 159 2 st ls σ μ la Q ↔ qEx d 159 3 (.int 1 :: st) ls σ μ la Q := (qEx_eq (i := .iconst 1) rfl).trans Iff.rfl
theorem x159_3 {y0 : Int32} {y1 : Int32} {y2 : Int32} : qEx (d + 1) 159 3 [.int y2, .int y1, .int y0] ls σ μ la Q ↔ qEx d 118 0 [] [.int y0, .int y1, .int y2] σ μ la fun r σ' μ' la' => qEx (d + 1) 159 6 (r.toList ++ []) ls σ' μ' la' Q := (qEx_eq (i := .invokestatic 63) rfl).trans Iff.rfl
theorem x159_6 {x : Int32} : qEx d 159 6 (.int x :: st) ls σ μ la Q ↔ (if ¬ x = 0 then qEx d 159 11 st ls σ μ la Q else qEx d 159 9 st ls σ μ la Q) := (qEx_eq (i := .ifCond .ne 5) rfl).trans qExA_ite
theorem x159_9  : qEx d 159 9 st ls σ μ la Q ↔ qEx d 159 10 (.int (-1) :: st) ls σ μ la Q := (qEx_eq (i := .iconst (-1)) rfl).trans Iff.rfl
theorem x159_10 {x : Int32} : qEx d 159 10 [.int x] ls σ μ la Q ↔ Q (some (.int x)) σ μ la := (qEx_eq (i := .ireturn) rfl).trans Iff.rfl
theorem x159_11 {x : Nat} {l1 : Value} : qEx d 159 11 st [.ref x, l1] σ μ la Q ↔ qEx d 159 12 (.ref x :: st) [.ref x, l1] σ μ la Q := (qEx_eq (i := .aload_n 0) rfl).trans Iff.rfl
theorem x159_12 {a : Nat} : qEx d 159 12 (.ref a :: st) ls σ μ la Q ↔ (qOk σ a 7 = true ∧ qEx d 159 15 (qrf (σ.2 a 11) :: st) ls σ μ la Q) := (qEx_eq (i := .getfield 38) rfl).trans qExA_chk
theorem x159_15 {x : Int32} {l0 : Value} : qEx d 159 15 st [l0, .int x] σ μ la Q ↔ qEx d 159 16 (.int x :: st) [l0, .int x] σ μ la Q := (qEx_eq (i := .iload_n 1) rfl).trans Iff.rfl
theorem x159_16 {x : Int32} {a : Nat} : qEx d 159 16 (.int x :: .ref a :: st) ls σ μ la Q ↔ (qIn x (qBld σ a) = true ∧ qEx d 159 17 (.int (μ a x.toNatClampNeg) :: st) ls σ μ la Q) := (qEx_eq (i := .baload) rfl).trans qExA_chk
theorem x159_17 {x : Int32} : qEx d 159 17 (.int x :: st) ls σ μ la Q ↔ (if ¬ x = 0 then qEx d 159 23 st ls σ μ la Q else qEx d 159 20 st ls σ μ la Q) := (qEx_eq (i := .ifCond .ne 6) rfl).trans qExA_ite
theorem x159_20  : qEx d 159 20 st ls σ μ la Q ↔ qEx d 159 22 (.int (-2) :: st) ls σ μ la Q := (qEx_eq (i := .bipush (-2)) rfl).trans Iff.rfl
theorem x159_22 {x : Int32} : qEx d 159 22 [.int x] ls σ μ la Q ↔ Q (some (.int x)) σ μ la := (qEx_eq (i := .ireturn) rfl).trans Iff.rfl
theorem x159_23 {x : Nat} {l1 : Value} : qEx d 159 23 st [.ref x, l1] σ μ la Q ↔ qEx d 159 24 (.ref x :: st) [.ref x, l1] σ μ la Q := (qEx_eq (i := .aload_n 0) rfl).trans Iff.rfl
theorem x159_24 {a : Nat} : qEx d 159 24 (.ref a :: st) ls σ μ la Q ↔ (qOk σ a 7 = true ∧ qEx d 159 27 (qrf (σ.2 a 10) :: st) ls σ μ la Q) := (qEx_eq (i := .getfield 35) rfl).trans qExA_chk
theorem x159_27  : qEx d 159 27 st ls σ μ la Q ↔ qEx d 159 29 (.int 124 :: st) ls σ μ la Q := (qEx_eq (i := .bipush 124) rfl).trans Iff.rfl
theorem x159_29 {x : Int32} {l0 : Value} : qEx d 159 29 st [l0, .int x] σ μ la Q ↔ qEx d 159 30 (.int x :: st) [l0, .int x] σ μ la Q := (qEx_eq (i := .iload_n 1) rfl).trans Iff.rfl
theorem x159_30 {x y : Int32} : qEx d 159 30 (.int y :: .int x :: st) ls σ μ la Q ↔ qEx d 159 31 (.int (x * y) :: st) ls σ μ la Q := (qEx_eq (i := .imul) rfl).trans Iff.rfl
theorem x159_31 {x : Nat} {l1 : Value} : qEx d 159 31 st [.ref x, l1] σ μ la Q ↔ qEx d 159 32 (.ref x :: st) [.ref x, l1] σ μ la Q := (qEx_eq (i := .aload_n 0) rfl).trans Iff.rfl
theorem x159_32 {a : Nat} : qEx d 159 32 (.ref a :: st) ls σ μ la Q ↔ (qOk σ a 7 = true ∧ qEx d 159 35 (qrf (σ.2 a 6) :: st) ls σ μ la Q) := (qEx_eq (i := .getfield 23) rfl).trans qExA_chk
theorem x159_35  : qEx d 159 35 st ls σ μ la Q ↔ qEx d 159 36 (.int 0 :: st) ls σ μ la Q := (qEx_eq (i := .iconst 0) rfl).trans Iff.rfl
theorem x159_36  : qEx d 159 36 st ls σ μ la Q ↔ qEx d 159 38 (.int 124 :: st) ls σ μ la Q := (qEx_eq (i := .bipush 124) rfl).trans Iff.rfl
theorem x159_38 {y0 : Nat} {y1 : Int32} {y2 : Nat} {y3 : Int32} {y4 : Int32} : qEx (d + 1) 159 38 [.int y4, .int y3, .ref y2, .int y1, .ref y0] ls σ μ la Q ↔ qEx d 120 0 [] [.ref y0, .int y1, .ref y2, .int y3, .int y4, .retAddr 0] σ μ la fun r σ' μ' la' => qEx (d + 1) 159 41 (r.toList ++ []) ls σ' μ' la' Q := (qEx_eq (i := .invokestatic 118) rfl).trans Iff.rfl
theorem x159_41 {x : Nat} {l1 : Value} : qEx d 159 41 st [.ref x, l1] σ μ la Q ↔ qEx d 159 42 (.ref x :: st) [.ref x, l1] σ μ la Q := (qEx_eq (i := .aload_n 0) rfl).trans Iff.rfl
theorem x159_42  : qEx d 159 42 st ls σ μ la Q ↔ qEx d 159 43 (.int 0 :: st) ls σ μ la Q := (qEx_eq (i := .iconst 0) rfl).trans Iff.rfl
theorem x159_43 {x : Int32} {a : Nat} : qEx d 159 43 (.int x :: .ref a :: st) ls σ μ la Q ↔ (qOk σ a 7 = true ∧ qEx d 159 46 st ls σ (qset μ a 13 x) la Q) := (qEx_eq (i := .putfield 122) rfl).trans qExA_chk
theorem x159_46 {x : Nat} {l1 : Value} : qEx d 159 46 st [.ref x, l1] σ μ la Q ↔ qEx d 159 47 (.ref x :: st) [.ref x, l1] σ μ la Q := (qEx_eq (i := .aload_n 0) rfl).trans Iff.rfl
theorem x159_47 {a : Nat} : qEx d 159 47 (.ref a :: st) ls σ μ la Q ↔ (qOk σ a 7 = true ∧ qEx d 159 50 (qrf (σ.2 a 6) :: st) ls σ μ la Q) := (qEx_eq (i := .getfield 23) rfl).trans qExA_chk
theorem x159_50  : qEx d 159 50 st ls σ μ la Q ↔ qEx d 159 51 (.int 0 :: st) ls σ μ la Q := (qEx_eq (i := .iconst 0) rfl).trans Iff.rfl
theorem x159_51 {x : Int32} {a : Nat} : qEx d 159 51 (.int x :: .ref a :: st) ls σ μ la Q ↔ (qIn x (qIld σ μ a) = true ∧ qEx d 159 52 (.int (μ a x.toNatClampNeg) :: st) ls σ μ la Q) := (qEx_eq (i := .iaload) rfl).trans qExA_chk
theorem x159_52 {x : Int32} : qEx d 159 52 [.int x] ls σ μ la Q ↔ Q (some (.int x)) σ μ la := (qEx_eq (i := .ireturn) rfl).trans Iff.rfl
theorem x160_0 {x : Nat} : qEx d 160 0 st [.ref x] σ μ la Q ↔ qEx d 160 1 (.ref x :: st) [.ref x] σ μ la Q := (qEx_eq (i := .aload_n 0) rfl).trans Iff.rfl
theorem x160_1 {a : Nat} : qEx d 160 1 (.ref a :: st) ls σ μ la Q ↔ (qOk σ a 7 = true ∧ qEx d 160 4 (qrf (σ.2 a 6) :: st) ls σ μ la Q) := (qEx_eq (i := .getfield 23) rfl).trans qExA_chk
theorem x160_4  : qEx d 160 4 st ls σ μ la Q ↔ qEx d 160 5 (.int 0 :: st) ls σ μ la Q := (qEx_eq (i := .iconst 0) rfl).trans Iff.rfl
theorem x160_5 {x : Nat} : qEx d 160 5 st [.ref x] σ μ la Q ↔ qEx d 160 6 (.ref x :: st) [.ref x] σ μ la Q := (qEx_eq (i := .aload_n 0) rfl).trans Iff.rfl
theorem x160_6 {a : Nat} : qEx d 160 6 (.ref a :: st) ls σ μ la Q ↔ (qOk σ a 7 = true ∧ qEx d 160 9 (qrf (σ.2 a 7) :: st) ls σ μ la Q) := (qEx_eq (i := .getfield 26) rfl).trans qExA_chk
theorem x160_9  : qEx d 160 9 st ls σ μ la Q ↔ qEx d 160 10 (.int 0 :: st) ls σ μ la Q := (qEx_eq (i := .iconst 0) rfl).trans Iff.rfl
theorem x160_10  : qEx d 160 10 st ls σ μ la Q ↔ qEx d 160 12 (.int 124 :: st) ls σ μ la Q := (qEx_eq (i := .bipush 124) rfl).trans Iff.rfl
theorem x160_12 {y0 : Nat} {y1 : Int32} {y2 : Nat} {y3 : Int32} {y4 : Int32} : qEx (d + 1) 160 12 [.int y4, .int y3, .ref y2, .int y1, .ref y0] ls σ μ la Q ↔ qEx d 120 0 [] [.ref y0, .int y1, .ref y2, .int y3, .int y4, .retAddr 0] σ μ la fun r σ' μ' la' => qEx (d + 1) 160 15 (r.toList ++ []) ls σ' μ' la' Q := (qEx_eq (i := .invokestatic 118) rfl).trans Iff.rfl
theorem x160_15  : qEx d 160 15 [] ls σ μ la Q ↔ Q none σ μ la := (qEx_eq (i := .return_) rfl).trans Iff.rfl
theorem x161_0 {x : Nat} {l1 l2 l3 l4 : Value} : qEx d 161 0 st [.ref x, l1, l2, l3, l4] σ μ la Q ↔ qEx d 161 1 (.ref x :: st) [.ref x, l1, l2, l3, l4] σ μ la Q := (qEx_eq (i := .aload_n 0) rfl).trans Iff.rfl
theorem x161_1 {a : Nat} : qEx (d + 1) 161 1 [.ref a] ls σ μ la Q ↔ (qOk σ a 7 = true ∧ qEx d 160 0 [] [.ref a] σ μ la fun r σ' μ' la' => qEx (d + 1) 161 4 (r.toList ++ []) ls σ' μ' la' Q) := (qEx_eq (i := .invokevirtual 183) rfl).trans qExA_chk
theorem x161_4 {x : Nat} {l1 l2 l3 l4 : Value} : qEx d 161 4 st [.ref x, l1, l2, l3, l4] σ μ la Q ↔ qEx d 161 5 (.ref x :: st) [.ref x, l1, l2, l3, l4] σ μ la Q := (qEx_eq (i := .aload_n 0) rfl).trans Iff.rfl
theorem x161_5  : qEx d 161 5 st ls σ μ la Q ↔ qEx d 161 6 (.int 0 :: st) ls σ μ la Q := (qEx_eq (i := .iconst 0) rfl).trans Iff.rfl
theorem x161_6 {x : Int32} {a : Nat} : qEx d 161 6 (.int x :: .ref a :: st) ls σ μ la Q ↔ (qOk σ a 7 = true ∧ qEx d 161 9 st ls σ (qset μ a 15 x) la Q) := (qEx_eq (i := .putfield 142) rfl).trans qExA_chk
theorem x161_9 {x : Int32} {l0 l1 l2 l3 : Value} : qEx d 161 9 st [l0, l1, l2, l3, .int x] σ μ la Q ↔ qEx d 161 11 (.int x :: st) [l0, l1, l2, l3, .int x] σ μ la Q := (qEx_eq (i := .iload 4) rfl).trans Iff.rfl
theorem x161_11 {x : Int32} : qEx d 161 11 (.int x :: st) ls σ μ la Q ↔ (if x ≤ 0 then qEx d 161 27 st ls σ μ la Q else qEx d 161 14 st ls σ μ la Q) := (qEx_eq (i := .ifCond .le 16) rfl).trans qExA_ite
theorem x161_14 {x : Nat} {l1 l2 l3 l4 : Value} : qEx d 161 14 st [.ref x, l1, l2, l3, l4] σ μ la Q ↔ qEx d 161 15 (.ref x :: st) [.ref x, l1, l2, l3, l4] σ μ la Q := (qEx_eq (i := .aload_n 0) rfl).trans Iff.rfl
theorem x161_15 {x : Nat} {l1 l2 l3 l4 : Value} : qEx d 161 15 st [.ref x, l1, l2, l3, l4] σ μ la Q ↔ qEx d 161 16 (.ref x :: st) [.ref x, l1, l2, l3, l4] σ μ la Q := (qEx_eq (i := .aload_n 0) rfl).trans Iff.rfl
theorem x161_16 {a : Nat} : qEx d 161 16 (.ref a :: st) ls σ μ la Q ↔ (qOk σ a 7 = true ∧ qEx d 161 19 (qrf (σ.2 a 7) :: st) ls σ μ la Q) := (qEx_eq (i := .getfield 26) rfl).trans qExA_chk
theorem x161_19 {x : Int32} {l0 l2 l3 l4 : Value} : qEx d 161 19 st [l0, .int x, l2, l3, l4] σ μ la Q ↔ qEx d 161 20 (.int x :: st) [l0, .int x, l2, l3, l4] σ μ la Q := (qEx_eq (i := .iload_n 1) rfl).trans Iff.rfl
theorem x161_20 {x : Int32} {l0 l1 l3 l4 : Value} : qEx d 161 20 st [l0, l1, .int x, l3, l4] σ μ la Q ↔ qEx d 161 21 (.int x :: st) [l0, l1, .int x, l3, l4] σ μ la Q := (qEx_eq (i := .iload_n 2) rfl).trans Iff.rfl
theorem x161_21 {x : Int32} {l0 l1 l2 l4 : Value} : qEx d 161 21 st [l0, l1, l2, .int x, l4] σ μ la Q ↔ qEx d 161 22 (.int x :: st) [l0, l1, l2, .int x, l4] σ μ la Q := (qEx_eq (i := .iload_n 3) rfl).trans Iff.rfl
theorem x161_22 {x : Int32} {l0 l1 l2 l3 : Value} : qEx d 161 22 st [l0, l1, l2, l3, .int x] σ μ la Q ↔ qEx d 161 24 (.int x :: st) [l0, l1, l2, l3, .int x] σ μ la Q := (qEx_eq (i := .iload 4) rfl).trans Iff.rfl
theorem x161_24 {y0 : Nat} {y1 : Int32} {y2 : Int32} {y3 : Int32} {y4 : Int32} {a : Nat} : qEx (d + 1) 161 24 [.int y4, .int y3, .int y2, .int y1, .ref y0, .ref a] ls σ μ la Q ↔ (qOk σ a 7 = true ∧ qEx d 147 0 [] [.ref a, .ref y0, .int y1, .int y2, .int y3, .int y4, .retAddr 0, .retAddr 0, .retAddr 0, .retAddr 0, .retAddr 0] σ μ la fun r σ' μ' la' => qEx (d + 1) 161 27 (r.toList ++ []) ls σ' μ' la' Q) := (qEx_eq (i := .invokevirtual 155) rfl).trans qExA_chk
theorem x161_27  : qEx d 161 27 [] ls σ μ la Q ↔ Q none σ μ la := (qEx_eq (i := .return_) rfl).trans Iff.rfl
