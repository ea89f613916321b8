/-! ===== trials ===== -/
theorem kF_cp {f g : Nat → Int32} {a b : Nat} (h : kcpn 320 f g a b) : kF [(0, 319)] b f g := by
  intro i
  by_cases q : i < b ∨ b + 320 ≤ i
  · exact Or.inl (h.2 i q)
  · exact Or.inr ⟨i - b, by omega, (0, 319), List.mem_singleton.mpr rfl, Nat.zero_le _, by show i - b ≤ 319; omega⟩
