/-! ===== the text ===== -/
theorem kwd_ne {f : Nat → Int32} {i v : Int32} (hwd : f 49 = 32) (hi : kr 0 49 i) (h : v = f i.toNatClampNeg) (ne : ¬ v = 32) : i.toInt ≤ 48 := by
  have e1 : i.toNatClampNeg = i.toInt.toNat := rfl
  have h1 := hi.1
  have h2 := hi.2
  by_cases q : i.toInt = 49
  · have e2 : i.toNatClampNeg = 49 := by omega
    rw [e2, hwd] at h
    exact absurd h ne
  · omega
theorem kv_of {a b : Int32} (ha : kr 0 99999999 a) (hb : kr 1 9999 b) : 0 ≤ a ∧ a ≤ 99999999 ∧ 1 ≤ b ∧ b ≤ 9999 := by
  have e1 : (99999999 : Int32).toInt = 99999999 := by decide
  have e2 : (9999 : Int32).toInt = 9999 := by decide
  have e3 : (1 : Int32).toInt = 1 := by decide
  have e4 : (0 : Int32).toInt = 0 := by decide
  simp only [kk_le, e1, e2, e3, e4]
  exact ⟨ha.1, ha.2, hb.1, hb.2⟩
theorem kq_kr2 (n : Int32) : kr (-1) 2139095040 (kq n) := by
  by_cases h : kq n < 0
  · have h1 := kq_ge n
    rw [kk_le] at h1
    have h2 := ki_lt h
    have e1 : (-1 : Int32).toInt = -1 := by decide
    have e4 : (0 : Int32).toInt = 0 := by decide
    exact ⟨by omega, by omega⟩
  · have h2 := kq_kr h
    exact ⟨by have := h2.1; omega, h2.2⟩
