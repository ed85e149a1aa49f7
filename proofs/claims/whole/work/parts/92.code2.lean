theorem qLi_210_0 : ((li_210.drop 0).take 50).all (qInsOk cL_law) = true := by decide +kernel
theorem qLi_210_1 : ((li_210.drop 50).take 50).all (qInsOk cL_law) = true := by decide +kernel
theorem qLi_210_2 : ((li_210.drop 100).take 50).all (qInsOk cL_law) = true := by decide +kernel
theorem qLi_210_3 : ((li_210.drop 150).take 50).all (qInsOk cL_law) = true := by decide +kernel
theorem qLi_210_4 : ((li_210.drop 200).take 50).all (qInsOk cL_law) = true := by decide +kernel
theorem qLi_210_5 : ((li_210.drop 250).take 50).all (qInsOk cL_law) = true := by decide +kernel
theorem qLi_210_6 : ((li_210.drop 300).take 50).all (qInsOk cL_law) = true := by decide +kernel
theorem qLi_210_7 : ((li_210.drop 350).take 50).all (qInsOk cL_law) = true := by decide +kernel
theorem qLi_210_8 : ((li_210.drop 400).take 50).all (qInsOk cL_law) = true := by decide +kernel
theorem qLi_210_9 : ((li_210.drop 450).take 50).all (qInsOk cL_law) = true := by decide +kernel
theorem qLi_210_10 : ((li_210.drop 500).take 50).all (qInsOk cL_law) = true := by decide +kernel
theorem qLi_210_11 : ((li_210.drop 550).take 50).all (qInsOk cL_law) = true := by decide +kernel
theorem qLi_210_12 : ((li_210.drop 600).take 50).all (qInsOk cL_law) = true := by decide +kernel
theorem qLi_210_13 : ((li_210.drop 650).take 50).all (qInsOk cL_law) = true := by decide +kernel
theorem qLi_210_14 : ((li_210.drop 700).take 50).all (qInsOk cL_law) = true := by decide +kernel
theorem qLi_210_15 : ((li_210.drop 750).take 50).all (qInsOk cL_law) = true := by decide +kernel
theorem qLi_210_16 : ((li_210.drop 800).take 50).all (qInsOk cL_law) = true := by decide +kernel
theorem qLi_210_17 : ((li_210.drop 850).take 50).all (qInsOk cL_law) = true := by decide +kernel
theorem qLi_210_18 : ((li_210.drop 900).take 50).all (qInsOk cL_law) = true := by decide +kernel
theorem qLi_210_19 : ((li_210.drop 950).take 50).all (qInsOk cL_law) = true := by decide +kernel
theorem qSplit {α : Type} (l : List α) (n : Nat) (f : α → Bool) (h1 : (l.take n).all f = true) (h2 : (l.drop n).all f = true) : l.all f = true := by
  rw [← List.take_append_drop n l, List.all_append, h1, h2]; rfl
theorem qSplit2 {α : Type} (l : List α) (n k : Nat) (f : α → Bool) (h1 : ((l.drop n).take k).all f = true) (h2 : (l.drop (n + k)).all f = true) : (l.drop n).all f = true := by
  refine qSplit _ k f h1 ?_
  rw [List.drop_drop]; exact h2
theorem qLi_210 : li_210.all (qInsOk cL_law) = true := (qSplit2 li_210 0 50 _ qLi_210_0 (qSplit2 li_210 50 50 _ qLi_210_1 (qSplit2 li_210 100 50 _ qLi_210_2 (qSplit2 li_210 150 50 _ qLi_210_3 (qSplit2 li_210 200 50 _ qLi_210_4 (qSplit2 li_210 250 50 _ qLi_210_5 (qSplit2 li_210 300 50 _ qLi_210_6 (qSplit2 li_210 350 50 _ qLi_210_7 (qSplit2 li_210 400 50 _ qLi_210_8 (qSplit2 li_210 450 50 _ qLi_210_9 (qSplit2 li_210 500 50 _ qLi_210_10 (qSplit2 li_210 550 50 _ qLi_210_11 (qSplit2 li_210 600 50 _ qLi_210_12 (qSplit2 li_210 650 50 _ qLi_210_13 (qSplit2 li_210 700 50 _ qLi_210_14 (qSplit2 li_210 750 50 _ qLi_210_15 (qSplit2 li_210 800 50 _ qLi_210_16 (qSplit2 li_210 850 50 _ qLi_210_17 (qSplit2 li_210 900 50 _ qLi_210_18 (qSplit2 li_210 950 50 _ qLi_210_19 (show (li_210.drop 1000).all (qInsOk cL_law) = true by decide +kernel)))))))))))))))))))))
