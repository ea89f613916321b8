/-- a bank of the reference is as at the start: 0 but for outcomes and answers -/
def kz (B : Nat) (f : Nat → Int32) : Prop := ∀ j, j < 320 → ¬ (220 ≤ j ∧ j < 225) → ¬ (230 ≤ j ∧ j < 254) → f (B + j) = 0
theorem kz_lit {B : Nat} {f : Nat → Int32} {n : Nat} {x : Int32} (h : kz B f) (j : Nat) (e : n = B + j) (hx : (220 ≤ j ∧ j < 225) ∨ (230 ≤ j ∧ j < 254)) : kz B (upd f n x) := by
  intro i h1 h2 h3
  have hne : ¬ B + i = n := by omega
  show (if B + i = n then x else f (B + i)) = 0
  rw [if_neg hne]
  exact h i h1 h2 h3
theorem kk_vb (B k : Nat) (h : B + k < 5760) : vp_in (nI B + nI k) 5760 := by
  rw [nI_add]
  exact vp_in_nI h (by omega)
theorem kk_fill1 (B k : Nat) (hB : B + k < 5760) {f : Nat → Int32} (hf : ∀ j, j < k → f (B + j) = 0) : ∀ j, j < k + 1 → (upd f (nI B + nI k).toNatClampNeg 0) (B + j) = 0 := by
  intro j hj
  have e : (nI B + nI k).toNatClampNeg = B + k := by rw [nI_add]; exact nI_clamp (by omega)
  show (if B + j = (nI B + nI k).toNatClampNeg then (0 : Int32) else f (B + j)) = 0
  rw [e]
  split
  · rfl
  · exact hf j (by omega)
