theorem qExA_ite2 {d m : Nat} {ls : List Value} {σ : qSg} {μ : qMu} {la : qLa} {Q : qPost} {c : Prop} {hc : Decidable c} {a b : Option qAct} {A B : Prop} (ha : qExA d m ls σ μ la Q a ↔ A) (hb : qExA d m ls σ μ la Q b ↔ B) : qExA d m ls σ μ la Q (if c then a else b) ↔ (if c then A else B) := by
  by_cases h : c
  · rw [if_pos h, if_pos h]; exact ha
  · rw [if_neg h, if_neg h]; exact hb
theorem qAndL {a b c : Prop} (hb : b) : ((a ∧ b) ∧ c) ↔ (a ∧ c) := ⟨fun h => ⟨h.1.1, h.2⟩, fun h => ⟨⟨h.1, hb⟩, h.2⟩⟩
theorem qAndM {a b c e : Prop} (hb : b) : ((a ∧ b ∧ c) ∧ e) ↔ ((a ∧ c) ∧ e) := ⟨fun h => ⟨⟨h.1.1, h.1.2.2⟩, h.2⟩, fun h => ⟨⟨h.1.1, hb, h.1.2⟩, h.2⟩⟩
theorem qAndN {a b c e f g : Prop} (hc : c) : ((a ∧ b ∧ c ∧ e ∧ f) ∧ g) ↔ ((a ∧ b ∧ e ∧ f) ∧ g) := ⟨fun h => ⟨⟨h.1.1, h.1.2.1, h.1.2.2.2⟩, h.2⟩, fun h => ⟨⟨h.1.1, h.1.2.1, hc, h.1.2.2⟩, h.2⟩⟩
theorem qAndD {a b : Prop} {ha : Decidable a} : (decide a = true ∧ b) ↔ (a ∧ b) := by rw [decide_eq_true_eq]
