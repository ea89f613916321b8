/-- rounding by a quotient's bits and a sticky one -/
theorem sticky {c1 c2 b n1 more : Nat} (h0 : 0 < c2) (hb : 2 ≤ b) (hn : n1 = c1 * 2 ^ 38 / c2) (hm : more = if n1 * c2 = c1 * 2 ^ 38 then 0 else 1) : FP.Core.nearest (c1 * 2 ^ 39) (c2 * 2 ^ b) = FP.Core.nearest (2 * n1 + more) (2 ^ b) := by
  obtain ⟨r1, hr⟩ : ∃ r1, r1 = c1 * 2 ^ 38 % c2 := ⟨_, rfl⟩
  have hr1 : r1 < c2 := by rw [hr]; exact Nat.mod_lt _ h0
  have hX0 : c1 * 2 ^ 38 = n1 * c2 + r1 := by
    have := Nat.div_add_mod (c1 * 2 ^ 38) c2
    rw [← hn, ← hr, Nat.mul_comm] at this
    omega
  have hX : c1 * 2 ^ 39 = 2 * (n1 * c2) + 2 * r1 := by
    have h9 : c1 * 2 ^ 39 = 2 * (c1 * 2 ^ 38) := by
      rw [Nat.pow_succ]
      generalize 2 ^ 38 = z
      ac_rfl
    rw [h9, hX0, Nat.mul_add]
  obtain ⟨g, hg⟩ : ∃ g, g = b - 2 := ⟨_, rfl⟩
  have e2 : 2 ^ b = 4 * 2 ^ g := by
    rw [show b = g + 2 by omega, Nat.pow_add]
    omega
  generalize 2 ^ g = h at e2
  have hh : 0 < h := by
    rcases Nat.eq_zero_or_pos h with q | q
    · rw [q] at e2
      have := Nat.two_pow_pos b
      omega
    · exact q
  obtain ⟨u, ρ, hu, hρ⟩ : ∃ u ρ, n1 = u * (2 * h) + ρ ∧ ρ < 2 * h := ⟨n1 / (2 * h), n1 % (2 * h), by have := Nat.div_add_mod n1 (2 * h); rw [Nat.mul_comm] at this; omega, Nat.mod_lt _ (by omega)⟩
  have hmore : more = if r1 = 0 then 0 else 1 := by
    rw [hm]
    by_cases hz : r1 = 0
    · rw [if_pos (by omega), if_pos hz]
    · rw [if_neg (by omega), if_neg hz]
  -- both sides as quotient and rest
  have eX : c1 * 2 ^ 39 = (c2 * 2 ^ b) * u + (2 * (c2 * ρ) + 2 * r1) := by
    rw [hX, hu, e2]
    have : (u * (2 * h) + ρ) * c2 = 2 * (c2 * h * u) + c2 * ρ := by
      rw [Nat.add_mul, Nat.mul_comm ρ c2]
      congr 1
      ac_rfl
    rw [this]
    have : c2 * (4 * h) * u = 4 * (c2 * h * u) := by ac_rfl
    rw [this]
    omega
  have eY : 2 * n1 + more = (2 ^ b) * u + (2 * ρ + more) := by
    rw [hu, e2]
    have : u * (2 * h) = 2 * (h * u) := by ac_rfl
    rw [this]
    have : 4 * h * u = 4 * (h * u) := by ac_rfl
    rw [this]
    omega
  have hmo : more ≤ 1 := by rw [hmore]; split <;> omega
  have hcρ : c2 * ρ + c2 ≤ c2 * (2 * h) := by
    have := Nat.mul_le_mul_left c2 (show ρ + 1 ≤ 2 * h by omega)
    rw [Nat.mul_add] at this
    omega
  have hc4 : c2 * (4 * h) = 2 * (c2 * (2 * h)) := by ac_rfl
  have mX : c1 * 2 ^ 39 % (c2 * 2 ^ b) = 2 * (c2 * ρ) + 2 * r1 := by
    rw [eX, Nat.mul_add_mod]
    exact Nat.mod_eq_of_lt (by rw [e2, hc4]; omega)
  have dX : c1 * 2 ^ 39 / (c2 * 2 ^ b) = u := by
    rw [eX, Nat.mul_add_div (Nat.mul_pos h0 (Nat.two_pow_pos b)), Nat.div_eq_of_lt (by rw [e2, hc4]; omega)]
    rfl
  have mY : (2 * n1 + more) % 2 ^ b = 2 * ρ + more := by
    rw [eY, Nat.mul_add_mod]
    exact Nat.mod_eq_of_lt (by rw [e2]; omega)
  have dY : (2 * n1 + more) / 2 ^ b = u := by
    rw [eY, Nat.mul_add_div (Nat.two_pow_pos b), Nat.div_eq_of_lt (by rw [e2]; omega)]
    rfl
  unfold FP.Core.nearest
  rw [mX, dX, mY, dY, e2]
  by_cases hz : r1 = 0
  · rw [if_pos hz] at hmore
    subst hmore
    subst hz
    have c3 : c2 * (4 * h) = 4 * (c2 * h) := by ac_rfl
    rw [c3]
    rcases Nat.lt_trichotomy ρ h with q | q | q
    · have := Nat.mul_lt_mul_of_pos_left q h0
      rw [if_pos (by omega), if_pos (by omega)]
    · subst q
      rw [if_neg (by omega), if_neg (by omega), if_neg (by omega), if_neg (by omega)]
    · have := Nat.mul_lt_mul_of_pos_left q h0
      rw [if_neg (by omega), if_pos (by omega), if_neg (by omega), if_pos (by omega)]
  · rw [if_neg hz] at hmore
    subst hmore
    have c3 : c2 * (4 * h) = 4 * (c2 * h) := by ac_rfl
    rw [c3]
    rcases Nat.lt_or_ge ρ h with q | q
    · have := Nat.mul_le_mul_left c2 (show ρ + 1 ≤ h by omega)
      rw [Nat.mul_add] at this
      rw [if_pos (by omega), if_pos (by omega)]
    · have := Nat.mul_le_mul_left c2 q
      rw [if_neg (by omega), if_pos (by omega), if_neg (by omega), if_pos (by omega)]
theorem lead1 {N : Nat} (h : 0 < N) : FP.Core.leading N 1 = N.log2 := by
  have a1 : 2 ^ N.log2 ≤ N := Nat.log2_self_le (by omega)
  have a2 : N < 2 ^ (N.log2 + 1) := Nat.lt_log2_self
  have hb := lead_bounds (A := N) (B := 1) (a := N.log2) (b := N.log2 + 1) h (by decide) (by
    unfold FP.Core.Below
    rw [show (-(N.log2 : Int)).toNat = 0 by omega, show ((N.log2 : Int)).toNat = N.log2 by omega]
    omega) (by
    unfold FP.Core.Below
    rw [show (-((N.log2 : Int) + 1)).toNat = 0 by omega, show ((N.log2 : Int) + 1).toNat = N.log2 + 1 by omega]
    omega)
  omega
/-- a rounding written out: the last digit's exponent and the significand -/
theorem rr_at {A B : Nat} {e : Int} (hA : 0 < A) (lo : -125 ≤ FP.Core.leading A B + e) : FP.Core.roundRatio FP.Core.b32 false A B e = FP.Core.settle FP.Core.b32 false (FP.Core.nearest (A * 2 ^ (23 - FP.Core.leading A B).toNat) (B * 2 ^ (FP.Core.leading A B - 23).toNat)) (FP.Core.leading A B + e - 23) := by
  have hq : FP.Core.quantum FP.Core.b32 A B e = FP.Core.leading A B + e - 23 := by
    unfold FP.Core.quantum
    rw [q_b32.1, q_b32.2.2.2]
    omega
  unfold FP.Core.roundRatio
  rw [if_neg (by omega)]
  unfold FP.Core.roundAt FP.Core.unitsNum FP.Core.unitsDen
  rw [hq, show (e - (FP.Core.leading A B + e - 23)).toNat = (23 - FP.Core.leading A B).toNat by omega, show (FP.Core.leading A B + e - 23 - e).toNat = (FP.Core.leading A B - 23).toNat by omega]
theorem sticky_rr {c1 c2 n1 more : Nat} {e : Int} (h1 : 2 ^ 23 ≤ c1) (h2 : c1 < 2 ^ 24) (h3 : 2 ^ 23 ≤ c2) (h4 : c2 < 2 ^ 24) (lo : -124 ≤ e) (hn : n1 = c1 * 2 ^ 38 / c2) (hm : more = if n1 * c2 = c1 * 2 ^ 38 then 0 else 1) : 2 ^ 37 ≤ n1 ∧ n1 < 2 ^ 39 ∧ FP.Core.roundRatio FP.Core.b32 false c1 c2 e = FP.Core.roundRatio FP.Core.b32 false (2 * n1 + more) 1 (e - 39) := by
  have hb := lead_bounds (A := c1) (B := c2) (a := -1) (b := 1) (by omega) (by omega) (by unfold FP.Core.Below; simp; omega) (by unfold FP.Core.Below; simp; omega)
  have hl := FP.Core.leading_spec (A := c1) (B := c2) (by omega) (by omega)
  have hmo : more ≤ 1 := by rw [hm]; split <;> omega
  have d1 : n1 * c2 ≤ c1 * 2 ^ 38 := by rw [hn]; exact Nat.div_mul_le_self _ _
  have d2 : c1 * 2 ^ 38 < (n1 + 1) * c2 := by rw [hn]; exact (Nat.div_lt_iff_lt_mul (by omega)).mp (Nat.lt_succ_self _)
  obtain ⟨z, hz⟩ : ∃ z, z = c1 * 2 ^ 38 := ⟨_, rfl⟩
  have hz1 : 2 ^ 61 ≤ z := by rw [hz]; exact Nat.mul_le_mul_right (2 ^ 38) h1
  rcases (show FP.Core.leading c1 c2 = 0 ∨ FP.Core.leading c1 c2 = -1 by omega) with hL | hL
  · rw [hL] at hl
    have hc : c2 ≤ c1 := by
      have := hl.1
      unfold FP.Core.Below at this
      simp at this
      exact this
    have n2 : 2 ^ 38 ≤ n1 := by
      rw [hn]
      exact (Nat.le_div_iff_mul_le (by omega)).mpr (by rw [Nat.mul_comm]; exact Nat.mul_le_mul_right _ hc)
    have n3 : n1 < 2 ^ 39 := by
      rw [hn]
      exact (Nat.div_lt_iff_lt_mul (by omega)).mpr (by omega)
    refine ⟨by omega, n3, ?_⟩
    have hK : (2 * n1 + more).log2 = 39 := (Nat.log2_eq_iff (by omega)).mpr ⟨by omega, by omega⟩
    have hlK : FP.Core.leading (2 * n1 + more) 1 = 39 := by rw [lead1 (by omega), hK]; rfl
    rw [rr_at (A := c1) (B := c2) (by omega) (by omega), rr_at (A := 2 * n1 + more) (B := 1) (by omega) (by rw [hlK]; omega), hlK, hL]
    rw [show (23 - (0) : Int).toNat = 23 by decide, show ((0) - 23 : Int).toNat = 0 by decide, show (23 - 39 : Int).toNat = 0 by decide, show (39 - 23 : Int).toNat = 16 by decide, Nat.pow_zero, Nat.mul_one, Nat.mul_one, Nat.one_mul]
    have hs := sticky (c1 := c1) (b := 16) (by omega) (by decide) hn hm
    rw [show c1 * 2 ^ 39 = c1 * 2 ^ 23 * 2 ^ 16 by rw [Nat.mul_assoc, ← Nat.pow_add], FP.Core.nearest_scale _ _ _ (by decide)] at hs
    rw [hs]
    congr 1
    omega
  · rw [hL] at hl
    have hc : c1 < c2 := by
      have := hl.2
      unfold FP.Core.Below at this
      simp at this
      exact this
    have n2 : 2 ^ 37 ≤ n1 := by
      rw [hn]
      exact (Nat.le_div_iff_mul_le (by omega)).mpr (by omega)
    have n3 : n1 < 2 ^ 38 := by
      rw [hn]
      exact (Nat.div_lt_iff_lt_mul (by omega)).mpr (by rw [Nat.mul_comm]; exact Nat.mul_lt_mul_of_pos_left hc (by decide))
    refine ⟨n2, by omega, ?_⟩
    have hK : (2 * n1 + more).log2 = 38 := (Nat.log2_eq_iff (by omega)).mpr ⟨by omega, by omega⟩
    have hlK : FP.Core.leading (2 * n1 + more) 1 = 38 := by rw [lead1 (by omega), hK]; rfl
    rw [rr_at (A := c1) (B := c2) (by omega) (by omega), rr_at (A := 2 * n1 + more) (B := 1) (by omega) (by rw [hlK]; omega), hlK, hL]
    rw [show (23 - (-1) : Int).toNat = 24 by decide, show ((-1) - 23 : Int).toNat = 0 by decide, show (23 - 38 : Int).toNat = 0 by decide, show (38 - 23 : Int).toNat = 15 by decide, Nat.pow_zero, Nat.mul_one, Nat.mul_one, Nat.one_mul]
    have hs := sticky (c1 := c1) (b := 15) (by omega) (by decide) hn hm
    rw [show c1 * 2 ^ 39 = c1 * 2 ^ 24 * 2 ^ 15 by rw [Nat.mul_assoc, ← Nat.pow_add], FP.Core.nearest_scale _ _ _ (by decide)] at hs
    rw [hs]
    congr 1
    omega
