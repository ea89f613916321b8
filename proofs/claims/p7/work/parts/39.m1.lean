theorem kk_ite0 {C : Prop} [Decidable C] (h : (if C then (1 : Int32) else 0) = 0) : ¬ C := fun hc => by rw [if_pos hc] at h; exact absurd h (by decide)
theorem kk_ite1 {C : Prop} [Decidable C] (h : ¬ (if C then (1 : Int32) else 0) = 0) : C := by
  by_cases hc : C
  · exact hc
  · rw [if_neg hc] at h; exact absurd rfl h
theorem kb_no {n d : Int32} (h : ¬ (0 ≤ n ∧ n ≤ 99999999 ∧ 1 ≤ d ∧ d ≤ 9999)) : kb n d = -1 := if_neg h
