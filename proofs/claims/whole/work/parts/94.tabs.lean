/-! what an entry of a pool gives -/
theorem qLookup_mem {α : Type} : ∀ {l : List (Nat × α)} {i : Nat} {x : α}, l.lookup i = some x → (i, x) ∈ l
  | [], i, x, h => by simp at h
  | (j, y) :: l, i, x, h => by
    rw [List.lookup_cons] at h
    by_cases hij : (i == j) = true
    · rw [hij] at h
      have : i = j := by simpa using hij
      subst this
      simp at h
      subst h
      exact List.mem_cons_self
    · rw [Bool.not_eq_true] at hij
      rw [hij] at h
      exact List.mem_cons_of_mem _ (qLookup_mem h)
theorem qZip_all {α β : Type} {f : α × β → Bool} : ∀ {l : List α} {k : List β}, (l.zip k).all f = true → l.length = k.length → ∀ x ∈ l, ∃ y, f (x, y) = true
  | [], _, _, _, x, hx => by simp at hx
  | a :: l, [], _, h, _, _ => by simp at h
  | a :: l, b :: k, h, hl, x, hx => by
    simp only [List.zip_cons_cons, List.all_cons, Bool.and_eq_true] at h
    rcases List.mem_cons.mp hx with rfl | hx
    · exact ⟨b, h.1⟩
    · exact qZip_all h.2 (by simpa using hl) x hx
theorem qPl_ok {c i : Nat} {e : Nat × Nat × Nat × Nat} (h : qPl c i = some e) : (∀ w ∈ qWords c i e, w ∈ qG) ∧ qMore c i e = true := by
  have key : ∀ {l : List (Nat × Nat × Nat × Nat × Nat)} {k : List (List Nat)}, (l.zip k).all (qPlOk c) = true ∧ l.length = k.length → l.lookup i = some e → (∀ w ∈ qWords c i e, w ∈ qG) ∧ qMore c i e = true := by
    intro l k hk hl
    obtain ⟨ps, hp⟩ := qZip_all hk.1 hk.2 _ (qLookup_mem hl)
    simp only [qPlOk, Bool.and_eq_true] at hp
    exact ⟨qHasL_in hp.1, hp.2⟩
  match c, h, @key with
  | 0, h, key => exact key qPlOk_0 h
  | 1, h, key => exact key qPlOk_1 h
  | 2, h, key => exact key qPlOk_2 h
  | 3, h, key => exact key qPlOk_3 h
  | 4, h, key => exact key qPlOk_4 h
  | 5, h, key => exact key qPlOk_5 h
  | 6, h, key => exact key qPlOk_6 h
  | 7, h, key => exact key qPlOk_7 h
  | 8, h, key => exact key qPlOk_8 h
  | 9, h, key => exact key qPlOk_9 h
  | 10, h, key => exact key qPlOk_10 h
  | 11, h, key => exact key qPlOk_11 h
  | 12, h, key => exact key qPlOk_12 h
  | n + 13, h, key => exact absurd h (by simp [qPl, qPlL])
def qAllC : List (List (Nat × Instr)) → List qMt → Prop
  | [], _ => True
  | _ :: _, [] => False
  | l :: ls, m :: ms => l.all (qInsOk m.2.1) = true ∧ qAllC ls ms
theorem qAllC_get : ∀ {ls : List (List (Nat × Instr))} {ms : List qMt}, qAllC ls ms → ∀ (k : Nat) (l : List (Nat × Instr)), ls[k]? = some l → l.all (qInsOk (ms.getD k qm_0).2.1) = true
  | [], _, _, k, l, h => by simp at h
  | _ :: _, [], h, _, _, _ => h.elim
  | l0 :: ls, m :: ms, h, 0, l, hl => by
    simp only [List.getElem?_cons_zero, Option.some.injEq] at hl
    subst hl
    exact h.1
  | l0 :: ls, m :: ms, h, k + 1, l, hl => by
    rw [List.getElem?_cons_succ] at hl
    rw [List.getD_cons_succ]
    exact qAllC_get h.2 k l hl
set_option maxRecDepth 100000 in
set_option maxHeartbeats 40000000 in
theorem qAllC_ok : qAllC qCodeL qMtL := ⟨qLi_0, qLi_1, qLi_2, qLi_3, qLi_4, qLi_5, qLi_6, qLi_7, qLi_8, qLi_9, qLi_10, qLi_11, qLi_12, qLi_13, qLi_14, qLi_15, qLi_16, qLi_17, qLi_18, qLi_19, qLi_20, qLi_21, qLi_22, qLi_23, qLi_24, qLi_25, qLi_26, qLi_27, qLi_28, qLi_29, qLi_30, qLi_31, qLi_32, qLi_33, qLi_34, qLi_35, qLi_36, qLi_37, qLi_38, qLi_39, qLi_40, qLi_41, qLi_42, qLi_43, qLi_44, qLi_45, qLi_46, qLi_47, qLi_48, qLi_49, qLi_50, qLi_51, qLi_52, qLi_53, qLi_54, qLi_55, qLi_56, qLi_57, qLi_58, qLi_59, qLi_60, qLi_61, qLi_62, qLi_63, qLi_64, qLi_65, qLi_66, qLi_67, qLi_68, qLi_69, qLi_70, qLi_71, qLi_72, qLi_73, qLi_74, qLi_75, qLi_76, qLi_77, qLi_78, qLi_79, qLi_80, qLi_81, qLi_82, qLi_83, qLi_84, qLi_85, qLi_86, qLi_87, qLi_88, qLi_89, qLi_90, qLi_91, qLi_92, qLi_93, qLi_94, qLi_95, qLi_96, qLi_97, qLi_98, qLi_99, qLi_100, qLi_101, qLi_102, qLi_103, qLi_104, qLi_105, qLi_106, qLi_107, qLi_108, qLi_109, qLi_110, qLi_111, qLi_112, qLi_113, qLi_114, qLi_115, qLi_116, qLi_117, qLi_118, qLi_119, qLi_120, qLi_121, qLi_122, qLi_123, qLi_124, qLi_125, qLi_126, qLi_127, qLi_128, qLi_129, qLi_130, qLi_131, qLi_132, qLi_133, qLi_134, qLi_135, qLi_136, qLi_137, qLi_138, qLi_139, qLi_140, qLi_141, qLi_142, qLi_143, qLi_144, qLi_145, qLi_146, qLi_147, qLi_148, qLi_149, qLi_150, qLi_151, qLi_152, qLi_153, qLi_154, qLi_155, qLi_156, qLi_157, qLi_158, qLi_159, qLi_160, qLi_161, qLi_162, qLi_163, qLi_164, qLi_165, qLi_166, qLi_167, qLi_168, qLi_169, qLi_170, qLi_171, qLi_172, qLi_173, qLi_174, qLi_175, qLi_176, qLi_177, qLi_178, qLi_179, qLi_180, qLi_181, qLi_182, qLi_183, qLi_184, qLi_185, qLi_186, qLi_187, qLi_188, qLi_189, qLi_190, qLi_191, qLi_192, qLi_193, qLi_194, qLi_195, qLi_196, qLi_197, qLi_198, qLi_199, qLi_200, qLi_201, qLi_202, qLi_203, qLi_204, qLi_205, qLi_206, qLi_207, qLi_208, qLi_209, qLi_210, trivial⟩
theorem qIns_ok {m pc : Nat} {i : Instr} (h : qIns m pc = some i) : ∃ len, decode (qMeth m).2.1 pc = .ok (i, len) ∧ (len = qLenI i ∨ qTab i = true) := by
  unfold qIns at h
  rw [List.getD_eq_getElem?_getD] at h
  cases hm : qCodeL[m]? with
  | none => rw [hm] at h; simp at h
  | some l =>
    rw [hm] at h
    have hall := qAllC_get qAllC_ok m l hm
    have hmem := qLookup_mem (show l.lookup pc = some i from h)
    have hq := List.all_eq_true.mp hall _ hmem
    have hq : qInsOk (qMeth m).2.1 (pc, i) = true := hq
    unfold qInsOk at hq
    simp only at hq
    split at hq
    · rename_i j len hd
      simp only [Bool.and_eq_true, decide_eq_true_eq, Bool.or_eq_true, beq_iff_eq] at hq
      obtain ⟨rfl, h2⟩ := hq
      exact ⟨len, hd, h2⟩
    · cases hq
theorem qZip_get {α β : Type} {d : α} : ∀ {n : Nat} {l : List α} {k : List β} {m : Nat}, m < n → m < l.length → m < k.length → ∃ y, (l.getD m d, y) ∈ (l.zip k).take n
  | 0, _, _, m, h, _, _ => absurd h (Nat.not_lt_zero m)
  | _ + 1, [], _, m, _, h, _ => absurd h (Nat.not_lt_zero m)
  | _ + 1, _ :: _, [], m, _, _, h => absurd h (Nat.not_lt_zero m)
  | n + 1, a :: l, b :: k, 0, _, _, _ => ⟨b, by rw [List.zip_cons_cons, List.take_succ_cons]; exact List.mem_cons_self⟩
  | n + 1, a :: l, b :: k, m + 1, h0, h1, h2 => by
    obtain ⟨y, hy⟩ := qZip_get (d := d) (n := n) (l := l) (k := k) (m := m) (by omega) (by simpa using h1) (by simpa using h2)
    exact ⟨y, by rw [List.zip_cons_cons, List.take_succ_cons, List.getD_cons_succ]; exact List.mem_cons_of_mem _ hy⟩
theorem qSplitT {α : Type} {l : List α} {n k : Nat} {f : α → Bool} (h1 : (l.take n).all f = true) (h2 : ((l.drop n).take k).all f = true) : (l.take (n + k)).all f = true := by
  rw [List.take_add, List.all_append, h1, h2]; rfl
theorem qMtOk_all : ((qMtL.zip qPlaces).take 210).all qMtOk = true := (qSplitT (n := 200) (k := 10) (qSplitT (n := 190) (k := 10) (qSplitT (n := 180) (k := 10) (qSplitT (n := 170) (k := 10) (qSplitT (n := 160) (k := 10) (qSplitT (n := 150) (k := 10) (qSplitT (n := 140) (k := 10) (qSplitT (n := 130) (k := 10) (qSplitT (n := 120) (k := 10) (qSplitT (n := 110) (k := 10) (qSplitT (n := 100) (k := 10) (qSplitT (n := 90) (k := 10) (qSplitT (n := 80) (k := 10) (qSplitT (n := 70) (k := 10) (qSplitT (n := 60) (k := 10) (qSplitT (n := 50) (k := 10) (qSplitT (n := 40) (k := 10) (qSplitT (n := 30) (k := 10) (qSplitT (n := 20) (k := 10) (qSplitT (n := 10) (k := 10) qMtOk_0 qMtOk_1) qMtOk_2) qMtOk_3) qMtOk_4) qMtOk_5) qMtOk_6) qMtOk_7) qMtOk_8) qMtOk_9) qMtOk_10) qMtOk_11) qMtOk_12) qMtOk_13) qMtOk_14) qMtOk_15) qMtOk_16) qMtOk_17) qMtOk_18) qMtOk_19) qMtOk_20)
theorem qMt_len : qMtL.length = 211 ∧ qPlaces.length = 211 := by decide +kernel
theorem qMt_ok {m : Nat} (h : m < qLaw) : Cond.code (qMeth m).1 (qMeth m).2.1 (qMx m) (qRt m) ∈ qG ∧ Cond.initialized (qMeth m).1.cls ∈ qG ∧ (qMeth m).1.cls = qRn (qOwn m) ∧ plainName (qMeth m).1.cls = true ∧ (qMeth m).1.cls ≠ "java/lang/invoke/MethodHandle" ∧ (qMeth m).1.cls ≠ "java/lang/invoke/VarHandle" ∧ qMx m ≤ 40 := by
  have h210 : m < 210 := h
  obtain ⟨y, hy⟩ := qZip_get (d := qm_0) (n := 210) (l := qMtL) (k := qPlaces) (m := m) h210 (by rw [qMt_len.1]; omega) (by rw [qMt_len.2]; omega)
  have hq := List.all_eq_true.mp qMtOk_all _ hy
  have hq : qMtOk (qMeth m, y) = true := hq
  unfold qMtOk at hq
  simp only [Bool.and_eq_true, decide_eq_true_eq] at hq
  obtain ⟨⟨⟨⟨⟨⟨h1, h2⟩, h3⟩, h4⟩, h5⟩, h6⟩, h7⟩ := hq
  exact ⟨qHas_in h1, qHas_in h2, h3, h4, h5, h6, h7⟩
theorem qTabs_ok : qTabs := ⟨fun _ _ _ h => qPl_ok h, fun _ _ _ h => qIns_ok h, fun _ h => qMt_ok h⟩
/-! the claim's start -/
theorem whole_start {p : Program} {e : Env} {s : State} {m : MethodId} {below : List Frame} {meth : Method} {c : Code} (l : Launch) (_ : l.flags = flags0) {b L : Nat} {xs : Nat → Int32} (hL : L ≤ 384) (C0 : lw_At p s m meth c b L xs) : W p l e room_1 s m #[Value.ref b] below meth c s.heap [] 0 0 (lw_Z below #[Value.ref b] s) (entryFrame m ([Value.ref b] : List Value).toArray 4) := whole_of qTabs_ok law_ok l hL C0
