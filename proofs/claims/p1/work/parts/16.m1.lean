theorem kk_ite0 {C : Prop} [Decidable C] (h : (if C then (1 : Int32) else 0) = 0) : ¬ C := fun hc => by rw [if_pos hc] at h; exact absurd h (by decide)
theorem kk_ite1 {C : Prop} [Decidable C] (h : ¬ (if C then (1 : Int32) else 0) = 0) : C := by
  by_cases hc : C
  · exact hc
  · rw [if_neg hc] at h; exact absurd rfl h
theorem kb_no {n d : Int32} (h : ¬ (0 ≤ n ∧ n ≤ 99999999 ∧ 1 ≤ d ∧ d ≤ 9999)) : kb n d = -1 := if_neg h
theorem kb_yes {n d : Int32} (h : 0 ≤ n ∧ n ≤ 99999999 ∧ 1 ≤ d ∧ d ≤ 9999) : ¬ kb n d = -1 := by
  sorry
theorem kq_ge (t : Int32) : -1 ≤ kq t := by
  sorry
theorem c_X11_keyOf (l : Launch) (D : va_G) (cB cI cJ cD : ClassId) (p0 p1 : Int32) (sz : Nat) (hv : 0 ≤ p0 ∧ p0 ≤ 99999999 ∧ 1 ≤ p1 ∧ p1 ≤ 9999) : Met l yX11_keyOf (kk_W yX11_keyOf cX11_keyOf 2 (some .int)) ({ frames := 3, cells := 0, slots := 0, locals := 70 }) (va_Pc [.int p0, .int p1] (kk_pre D cB cI cJ cD [] sz)) (vp_Si (fun r => r = kb p0 p1)) 0 0 (fun _ => False) := by
  sorry
theorem c_X11_keyByOne (l : Launch) (D : va_G) (cB cI cJ cD : ClassId) (p0 : Int32) (sz : Nat) : Met l yX11_keyByOne (kk_W yX11_keyByOne cX11_keyByOne 1 (some .int)) ({ frames := 4, cells := 0, slots := 0, locals := 91 }) (va_Pc [.int p0] (kk_pre D cB cI cJ cD [] sz)) (vp_Si (fun r => r = kq p0)) 0 0 (fun _ => False) := by
  sorry
