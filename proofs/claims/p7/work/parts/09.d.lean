theorem rr_norm {A B : Nat} {e : Int} (hA : 0 < A) (hB : 0 < B) (lo : -125 ≤ FP.Core.leading A B + e) (hi : FP.Core.leading A B + e ≤ 125) : ∃ (c : Nat) (q : Int), FP.Core.roundRatio FP.Core.b32 false A B e = .fin false c q ∧ 2 ^ 23 ≤ c ∧ c < 2 ^ 24 ∧ FP.Core.leading A B + e - 23 ≤ q ∧ q ≤ FP.Core.leading A B + e - 22 := by
  have hq : FP.Core.quantum FP.Core.b32 A B e = FP.Core.leading A B + e - 23 := by
    unfold FP.Core.quantum
    rw [q_b32.1, q_b32.2.2.2]
    omega
  have h1 : 2 ^ 23 ≤ FP.Core.nearest (FP.Core.unitsNum A e (FP.Core.quantum FP.Core.b32 A B e)) (FP.Core.unitsDen B e (FP.Core.quantum FP.Core.b32 A B e)) := by
    rcases FP.Core.quantum_not_below (f := FP.Core.b32) hA hB e with h2 | h2
    · rw [q_b32.1, hq] at h2
      omega
    · refine FP.Core.nearest_ge (FP.Core.unitsDen_pos hB ..) ?_
      rw [show ((FP.Core.b32.p : Int) - 1) = ((23 : Nat) : Int) by decide, ← FP.Core.units_below] at h2
      exact Nat.le_of_not_lt h2
  have h2 := FP.Core.nearest_units_le (f := FP.Core.b32) hA hB e
  rw [q_b32.2.2.2] at h2
  unfold FP.Core.roundRatio
  rw [if_neg (by omega)]
  unfold FP.Core.roundAt
  generalize FP.Core.nearest (FP.Core.unitsNum A e (FP.Core.quantum FP.Core.b32 A B e)) (FP.Core.unitsDen B e (FP.Core.quantum FP.Core.b32 A B e)) = z at h1 h2
  rw [hq]
  unfold FP.Core.settle FP.Core.bound
  rw [q_b32.2.2.2, q_b32.2.1, q_b32.2.2.1]
  by_cases hz : z < 2 ^ 24
  · rw [if_pos hz, if_pos (by omega)]
    exact ⟨z, _, rfl, h1, hz, by omega, by omega⟩
  · rw [if_neg hz, if_pos (by omega)]
    exact ⟨2 ^ 23, _, rfl, Nat.le_refl _, by decide, by omega, by omega⟩
theorem lead_bounds {A B : Nat} {a b : Int} (hA : 0 < A) (hB : 0 < B) (h1 : ¬ FP.Core.Below A B a) (h2 : FP.Core.Below A B b) : a ≤ FP.Core.leading A B ∧ FP.Core.leading A B < b := by
  have l := FP.Core.leading_spec hA hB
  have l1 := FP.Core.lt_of_below l.1 h2
  have l2 := FP.Core.lt_of_below h1 l.2
  omega
/-- a whole number from 1 on as a float -/
theorem i2f_norm {n : Int32} {N k : Nat} (hn : n.toInt = N) (h0 : 0 < N) (hN : N < 2 ^ k) (hk : k ≤ 40) : ∃ (c : Nat) (q : Int), FP.Core.val32 (FP.i2f n) = .fin false c q ∧ FP.Core.val32 (FP.i2f n) = FP.Core.roundRatio FP.Core.b32 false N 1 0 ∧ 2 ^ 23 ≤ c ∧ c < 2 ^ 24 ∧ -23 ≤ q ∧ q ≤ k - 23 := by
  have e : FP.Core.val32 (FP.i2f n) = FP.Core.roundRatio FP.Core.b32 false N 1 0 := by
    rw [FP.Core.val32_i2f, hn]
    show FP.Core.roundRatio FP.Core.b32 (decide ((N : Int) < 0)) (N : Int).natAbs 1 0 = _
    rw [decide_eq_false (by omega), Int.natAbs_natCast]
  have hb := lead_bounds (A := N) (B := 1) (a := 0) (b := k) h0 (by decide) (by unfold FP.Core.Below; simp; omega) (by unfold FP.Core.Below; simp; exact hN)
  obtain ⟨c, q, h1, h2, h3, h4, h5⟩ := rr_norm (A := N) (B := 1) (e := 0) h0 (by decide) (by omega) (by omega)
  exact ⟨c, q, by rw [e, h1], e, h2, h3, by omega, by omega⟩
theorem nn32 {r : UInt32} (h : ¬ FP.Core.val32 r = .nan) : vf_n32 r := by
  show r &&& 0x7fffffff ≤ 0x7f800000
  rw [UInt32.le_iff_toNat_le, UInt32.toNat_and]
  rw [show (0x7fffffff : UInt32).toNat = 2 ^ 31 - 1 by decide, Nat.and_two_pow_sub_one_eq_mod, show (0x7f800000 : UInt32).toNat = 2139095040 by decide]
  refine Nat.le_of_not_lt fun h2 => h ?_
  have hE : FP.Core.fieldE FP.Core.b32 r.toNat = FP.Core.b32.exps - 1 := by
    show r.toNat / 2 ^ 23 % 2 ^ 8 = 2 ^ 8 - 1
    omega
  have hT : ¬ FP.Core.fieldT FP.Core.b32 r.toNat = 0 := by
    show ¬ r.toNat % 2 ^ 23 = 0
    omega
  unfold FP.Core.val32 FP.Core.decode
  rw [if_pos hE, if_neg hT]
/-- the quotient of two whole numbers as floats: a number, zero or normal -/
theorem key_fp {n d : Int32} {N M : Nat} (hn : n.toInt = N) (hd : d.toInt = M) (hN : N < 2 ^ 27) (h0 : 0 < M) (hM : M < 2 ^ 14) : (N = 0 ∧ FP.fdiv (FP.i2f n) (FP.i2f d) = 0) ∨ (0 < N ∧ ∃ (c1 c2 c : Nat) (q1 q2 q : Int), FP.Core.val32 (FP.i2f n) = .fin false c1 q1 ∧ FP.Core.val32 (FP.i2f d) = .fin false c2 q2 ∧ 2 ^ 23 ≤ c1 ∧ c1 < 2 ^ 24 ∧ 2 ^ 23 ≤ c2 ∧ c2 < 2 ^ 24 ∧ -23 ≤ q1 ∧ q1 ≤ 4 ∧ -23 ≤ q2 ∧ q2 ≤ -9 ∧ FP.Core.val32 (FP.fdiv (FP.i2f n) (FP.i2f d)) = .fin false c q ∧ FP.Core.roundRatio FP.Core.b32 false c1 c2 (q1 - q2) = .fin false c q ∧ 2 ^ 23 ≤ c ∧ c < 2 ^ 24 ∧ -149 ≤ q ∧ q ≤ 104) := by
  obtain ⟨c2, q2, e2, -, a1, a2, a3, a4⟩ := i2f_norm (k := 14) hd h0 hM (by decide)
  rcases Nat.eq_zero_or_pos N with hz | hp
  · left
    subst hz
    refine ⟨rfl, ?_⟩
    have e0 : n = 0 := Int32.toInt_inj.mp (by rw [hn]; rfl)
    subst e0
    have e1 : FP.Core.val32 (FP.i2f 0) = .fin false 0 (-149) := by decide +kernel
    have e3 : FP.Core.val32 (FP.Core.fdiv (FP.i2f 0) (FP.i2f d)) = .fin false 0 (-149) := by
      rw [FP.Core.val32_fdiv, e1, e2]
      show (if c2 = 0 then (if (0 : Nat) = 0 then FP.Core.Datum.nan else .inf (false != false)) else FP.Core.roundRatio FP.Core.b32 (false != false) 0 c2 (-149 - q2)) = _
      rw [if_neg (by omega)]
      rfl
    refine FP.Core.val32_inj (by rw [e3]; intro h; cases h) ?_
    rw [e3]
    decide +kernel
  · right
    obtain ⟨c1, q1, e1, -, b1, b2, b3, b4⟩ := i2f_norm (k := 27) hn hp hN (by decide)
    have hb := lead_bounds (A := c1) (B := c2) (a := -1) (b := 1) (by omega) (by omega) (by unfold FP.Core.Below; simp; omega) (by unfold FP.Core.Below; simp; omega)
    obtain ⟨c, q, h1, h2, h3, h4, h5⟩ := rr_norm (A := c1) (B := c2) (e := q1 - q2) (by omega) (by omega) (by omega) (by omega)
    refine ⟨hp, c1, c2, c, q1, q2, q, e1, e2, b1, b2, a1, a2, b3, by omega, a3, by omega, ?_, h1, h2, h3, by omega, by omega⟩
    show FP.Core.val32 (FP.Core.fdiv (FP.i2f n) (FP.i2f d)) = _
    rw [FP.Core.val32_fdiv, e1, e2]
    show (if c2 = 0 then (if c1 = 0 then FP.Core.Datum.nan else .inf (false != false)) else FP.Core.roundRatio FP.Core.b32 (false != false) c1 c2 (q1 - q2)) = _
    rw [if_neg (by omega)]
    exact h1
/-- the numbers of a key told rightly -/
theorem val_nat {n d : Int32} (h : 0 ≤ n ∧ n ≤ 99999999 ∧ 1 ≤ d ∧ d ≤ 9999) : ∃ N M : Nat, n.toInt = N ∧ d.toInt = M ∧ N ≤ 99999999 ∧ 0 < M ∧ M ≤ 9999 := by
  simp only [kk_le, Int32.reduceToInt] at h
  exact ⟨n.toInt.toNat, d.toInt.toNat, by omega, by omega, by omega, by omega, by omega⟩
theorem key_kn {n d : Int32} (h : 0 ≤ n ∧ n ≤ 99999999 ∧ 1 ≤ d ∧ d ≤ 9999) : kn (FP.fdiv (FP.i2f n) (FP.i2f d)) ∧ vf_n32 (FP.fdiv (FP.i2f n) (FP.i2f d)) := by
  obtain ⟨N, M, e1, e2, h1, h2, h3⟩ := val_nat h
  rcases key_fp e1 e2 (by omega) h2 (by omega) with ⟨-, h4⟩ | ⟨-, c1, c2, c, q1, q2, q, -, -, -, -, -, -, -, -, -, -, h5, -, h6, -⟩
  · exact ⟨Or.inl h4, by rw [h4]; exact nn32 (by decide +kernel)⟩
  · exact ⟨Or.inr ⟨c, q, h5, h6⟩, nn32 (by rw [h5]; intro h; cases h)⟩
theorem kn_nn {x : UInt32} (h : kn x) : ∃ m : Nat, m < 2 ^ 31 ∧ x.toInt32 = nI m := by
  rcases h with rfl | ⟨c, q, hv, hc⟩
  · exact ⟨0, by decide, rfl⟩
  · have hv : FP.Core.val32 x = .fin false c q := hv
    have hc : 2 ^ 23 ≤ c := hc
    obtain ⟨hc1, hq1, hq2, -⟩ : FP.Core.fits FP.Core.b32 (.fin false c q) := by rw [← hv]; exact FP.Core.val32_fits x
    rw [q_b32.2.2.2] at hc1
    rw [q_b32.1] at hq1
    rw [q_b32.2.1] at hq2
    refine ⟨(q + 150).toNat * 2 ^ 23 + (c - 2 ^ 23), by omega, ?_⟩
    rw [x_bits hv hc hq1]
    exact Int32.toBitVec.inj (by rw [UInt32.toBitVec_toInt32, UInt32.toBitVec_ofNat']; unfold nI; rw [Int32.toBitVec_ofNat'])
theorem kb_nn {n d : Int32} (h : 0 ≤ n ∧ n ≤ 99999999 ∧ 1 ≤ d ∧ d ≤ 9999) : ∃ m : Nat, m < 2 ^ 31 ∧ kb n d = nI m := by
  obtain ⟨m, h1, h2⟩ := kn_nn (key_kn h).1
  exact ⟨m, h1, by unfold kb; rw [if_pos h]; exact h2⟩
theorem kb_yes {n d : Int32} (h : 0 ≤ n ∧ n ≤ 99999999 ∧ 1 ≤ d ∧ d ≤ 9999) : ¬ kb n d = -1 := by
  obtain ⟨m, h1, h2⟩ := kb_nn h
  rw [h2]
  intro h3
  have h4 := nI_pos h1
  rw [h3] at h4
  exact h4 (by decide)
theorem kb_ge (n d : Int32) : -1 ≤ kb n d := by
  by_cases h : 0 ≤ n ∧ n ≤ 99999999 ∧ 1 ≤ d ∧ d ≤ 9999
  · obtain ⟨m, h1, h2⟩ := kb_nn h
    rw [h2, kk_le, nI_toInt h1]
    simp only [Int32.reduceToInt]
    omega
  · unfold kb
    rw [if_neg h]
    decide
theorem kq_ge (t : Int32) : -1 ≤ kq t := by
  unfold kq
  split
  · decide
  · exact kb_ge _ _
