/-! ===== bounds of longs ===== -/
def kl (a b : Int) (x : Int64) : Prop := a ≤ x.toInt ∧ x.toInt ≤ b
theorem kl_all (x : Int64) : kl (-9223372036854775808) 9223372036854775807 x := by
  have h1 := Int64.le_toInt x
  have h2 := Int64.toInt_lt x
  exact ⟨by omega, by omega⟩
theorem kl_c (x : Int64) (a : Int) (h : (x.toInt == a) = true) : kl a a x := by
  have h2 : x.toInt = a := eq_of_beq h
  exact ⟨by omega, by omega⟩
theorem kl_w {a b c d : Int} {x : Int64} (h : kl a b x) (hs : (decide (c ≤ a) && decide (b ≤ d)) = true) : kl c d x := by
  simp only [Bool.and_eq_true, decide_eq_true_eq] at hs
  have h1 := h.1
  have h2 := h.2
  exact ⟨by omega, by omega⟩
theorem kl_n0 {a b : Int} {x : Int64} (h : kl a b x) (hs : (decide (0 < a) || decide (b < 0)) = true) : ¬ x = 0 := by
  simp only [Bool.or_eq_true, decide_eq_true_eq] at hs
  intro e
  subst e
  have h1 := h.1
  have h2 := h.2
  have h0 : (0 : Int64).toInt = 0 := by decide
  omega
theorem kl_ti {v : Int64} {x : Int32} (h : v = x.toInt64) : v.toInt = x.toInt := by rw [h, Int32.toInt_toInt64]
theorem kl_i2l {a b : Int} {v : Int64} {x : Int32} (h : v = x.toInt64) (hx : kr a b x) : kl a b v := by
  have e := kl_ti h
  exact ⟨by rw [e]; exact hx.1, by rw [e]; exact hx.2⟩
theorem kt_l2i {a b : Int} {v : Int32} {x : Int64} (h : v = x.toInt32) (hx : kl a b x) (hs : (decide (-2147483648 ≤ a) && decide (b ≤ 2147483647)) = true) : v.toInt = x.toInt := by
  simp only [Bool.and_eq_true, decide_eq_true_eq] at hs
  have h1 := hx.1
  have h2 := hx.2
  have e := lg_i2l_l2i (x := x) (by omega) (by omega)
  rw [← h] at e
  rw [← e, Int32.toInt_toInt64]
theorem kr_l2i {a b : Int} {v : Int32} {x : Int64} (h : v = x.toInt32) (hx : kl a b x) (hs : (decide (-2147483648 ≤ a) && decide (b ≤ 2147483647)) = true) : kr a b v := by
  have e := kt_l2i h hx hs
  exact ⟨by rw [e]; exact hx.1, by rw [e]; exact hx.2⟩
theorem kl_lN {x : Int64} (h : 0 ≤ x.toInt) : x = lN x.toInt.toNat := by
  have h2 := Int64.toInt_lt x
  refine Int64.toInt_inj.mp ?_
  rw [pf_lI (by omega)]
  omega
theorem kr_nIs {a b : Int} {y : Int32} (hy : kr a b y) (ha : 0 ≤ a) : y = nI y.toNatClampNeg := by
  have e : y.toNatClampNeg = y.toInt.toNat := rfl
  have h1 := hy.1
  have h2 := (kr_all y).2
  refine Int32.toInt_inj.mp ?_
  rw [nI_toInt (by omega)]
  omega
theorem kp_le {c d : Nat} (h : c ≤ d) : (2 : Int) ^ c ≤ 2 ^ d := by
  have h1 : (2 : Nat) ^ c ≤ 2 ^ d := Nat.pow_le_pow_right (by decide) h
  have e1 : (((2 : Nat) ^ c : Nat) : Int) = (2 : Int) ^ c := by rw [Int.natCast_pow]; rfl
  have e2 : (((2 : Nat) ^ d : Nat) : Int) = (2 : Int) ^ d := by rw [Int.natCast_pow]; rfl
  omega
theorem kp_pos (c : Nat) : (0 : Int) < 2 ^ c := Int.pow_pos (by omega)
theorem kt_lshl {a b c d : Int} {x v : Int64} {y : Int32} (h : v = x <<< (y.toInt64 &&& 63)) (hx : kl a b x) (hy : kr c d y) (hs : (decide (0 ≤ a) && decide (0 ≤ c) && decide (d < 64) && decide (b * 2 ^ d.toNat < 9223372036854775808)) = true) : v.toInt = x.toInt * 2 ^ y.toNatClampNeg := by
  simp only [Bool.and_eq_true, decide_eq_true_eq] at hs
  obtain ⟨⟨⟨h1, h2⟩, h3⟩, h4⟩ := hs
  have hx1 := hx.1
  have hx2 := hx.2
  have hk := kr_nat hy h2
  have e1 := kl_lN (x := x) (by omega)
  have e2 := kr_nIs hy h2
  have hp : x.toInt * 2 ^ y.toNatClampNeg ≤ b * 2 ^ d.toNat := Int.le_trans (Int.mul_le_mul_of_nonneg_right hx2 (Int.le_of_lt (kp_pos _))) (Int.mul_le_mul_of_nonneg_left (kp_le (by omega)) (by omega))
  have hc : ((x.toInt.toNat * 2 ^ y.toNatClampNeg : Nat) : Int) = x.toInt * 2 ^ y.toNatClampNeg := by
    rw [Int.natCast_mul, Int.natCast_pow]
    rw [show ((x.toInt.toNat : Nat) : Int) = x.toInt by omega]
    rfl
  have e3 : v = lN (x.toInt.toNat * 2 ^ y.toNatClampNeg) := by
    rw [h]
    conv => lhs; rw [e1, e2]
    exact wb_shl _ (by omega)
  rw [e3, pf_lI (by omega)]
  exact hc
theorem kl_shl {a b c d a' b' : Int} {x v : Int64} {y : Int32} (t : v.toInt = x.toInt * 2 ^ y.toNatClampNeg) (hx : kl a b x) (hy : kr c d y) (hs : (decide (0 ≤ a) && decide (0 ≤ c) && decide (a' ≤ a * 2 ^ c.toNat) && decide (b * 2 ^ d.toNat ≤ b')) = true) : kl a' b' v := by
  simp only [Bool.and_eq_true, decide_eq_true_eq] at hs
  obtain ⟨⟨⟨h1, h2⟩, h3⟩, h4⟩ := hs
  have hx1 := hx.1
  have hx2 := hx.2
  have hk := kr_nat hy h2
  have hp : x.toInt * 2 ^ y.toNatClampNeg ≤ b * 2 ^ d.toNat := Int.le_trans (Int.mul_le_mul_of_nonneg_right hx2 (Int.le_of_lt (kp_pos _))) (Int.mul_le_mul_of_nonneg_left (kp_le (by omega)) (by omega))
  have hq : a * 2 ^ c.toNat ≤ x.toInt * 2 ^ y.toNatClampNeg := Int.le_trans (Int.mul_le_mul_of_nonneg_left (kp_le (by omega)) h1) (Int.mul_le_mul_of_nonneg_right hx1 (Int.le_of_lt (kp_pos _)))
  exact ⟨by omega, by omega⟩
theorem kt_lshr {a b c d : Int} {x v : Int64} {y : Int32} (h : v = x >>> (y.toInt64 &&& 63)) (hx : kl a b x) (hy : kr c d y) (hs : (decide (0 ≤ a) && decide (0 ≤ c) && decide (d < 64) && decide (b < 4611686018427387904)) = true) : v.toInt = x.toInt / 2 ^ y.toNatClampNeg := by
  simp only [Bool.and_eq_true, decide_eq_true_eq] at hs
  obtain ⟨⟨⟨h1, h2⟩, h3⟩, h4⟩ := hs
  have hx1 := hx.1
  have hx2 := hx.2
  have hk := kr_nat hy h2
  have e1 := kl_lN (x := x) (by omega)
  have e2 := kr_nIs hy h2
  have e3 : v = lN (x.toInt.toNat / 2 ^ y.toNatClampNeg) := by
    rw [h]
    conv => lhs; rw [e1, e2]
    exact l_shr (by omega) (by omega)
  have h5 : x.toInt.toNat / 2 ^ y.toNatClampNeg ≤ x.toInt.toNat := Nat.div_le_self _ _
  rw [e3, pf_lI (by omega), Int.natCast_ediv, Int.natCast_pow]
  rw [show ((x.toInt.toNat : Nat) : Int) = x.toInt by omega]
  rfl
theorem kl_shr {a b c d b' : Int} {x v : Int64} {y : Int32} (t : v.toInt = x.toInt / 2 ^ y.toNatClampNeg) (hx : kl a b x) (hy : kr c d y) (hs : (decide (0 ≤ a) && decide (0 ≤ c) && decide (b / 2 ^ c.toNat ≤ b')) = true) : kl 0 b' v := by
  simp only [Bool.and_eq_true, decide_eq_true_eq] at hs
  obtain ⟨⟨h1, h2⟩, h3⟩ := hs
  have hx1 := hx.1
  have hx2 := hx.2
  have hk := kr_nat hy h2
  have p1 := kp_pos y.toNatClampNeg
  have p2 := kp_pos c.toNat
  have h4 : 0 ≤ x.toInt / 2 ^ y.toNatClampNeg := Int.ediv_nonneg (by omega) (by omega)
  have h5 : x.toInt / 2 ^ y.toNatClampNeg ≤ b / 2 ^ c.toNat := by
    refine (Int.le_ediv_iff_mul_le p2).mpr ?_
    have h6 : x.toInt / 2 ^ y.toNatClampNeg * 2 ^ c.toNat ≤ x.toInt / 2 ^ y.toNatClampNeg * 2 ^ y.toNatClampNeg := Int.mul_le_mul_of_nonneg_left (kp_le (by omega)) h4
    have h7 := Int.ediv_mul_le x.toInt (show (2 : Int) ^ y.toNatClampNeg ≠ 0 by omega)
    omega
  exact ⟨by omega, by omega⟩
theorem kz_bmod {z : Int} (h1 : -9223372036854775808 ≤ z) (h2 : z < 9223372036854775808) : z.bmod (2 ^ 64) = z := by
  rw [Int.bmod_eq_of_le (by omega) (by omega)]
theorem kt_ladd {a b c d : Int} {v x y : Int64} (h : v = x + y) (hx : kl a b x) (hy : kl c d y) (hs : (decide (-9223372036854775808 ≤ a + c) && decide (b + d ≤ 9223372036854775807)) = true) : v.toInt = x.toInt + y.toInt := by
  subst h
  simp only [Bool.and_eq_true, decide_eq_true_eq] at hs
  have h1 := hx.1
  have h2 := hx.2
  have h3 := hy.1
  have h4 := hy.2
  rw [Int64.toInt_add, kz_bmod (by omega) (by omega)]
theorem kt_lsub {a b c d : Int} {v x y : Int64} (h : v = x - y) (hx : kl a b x) (hy : kl c d y) (hs : (decide (-9223372036854775808 ≤ a - d) && decide (b - c ≤ 9223372036854775807)) = true) : v.toInt = x.toInt - y.toInt := by
  subst h
  simp only [Bool.and_eq_true, decide_eq_true_eq] at hs
  have h1 := hx.1
  have h2 := hx.2
  have h3 := hy.1
  have h4 := hy.2
  rw [Int64.toInt_sub, kz_bmod (by omega) (by omega)]
theorem kl_add {a b c d a' b' : Int} {v x y : Int64} (t : v.toInt = x.toInt + y.toInt) (hx : kl a b x) (hy : kl c d y) (hs : (decide (a' ≤ a + c) && decide (b + d ≤ b')) = true) : kl a' b' v := by
  simp only [Bool.and_eq_true, decide_eq_true_eq] at hs
  have h1 := hx.1
  have h2 := hx.2
  have h3 := hy.1
  have h4 := hy.2
  exact ⟨by omega, by omega⟩
theorem kl_sub {a b c d a' b' : Int} {v x y : Int64} (t : v.toInt = x.toInt - y.toInt) (hx : kl a b x) (hy : kl c d y) (hs : (decide (a' ≤ a - d) && decide (b - c ≤ b')) = true) : kl a' b' v := by
  simp only [Bool.and_eq_true, decide_eq_true_eq] at hs
  have h1 := hx.1
  have h2 := hx.2
  have h3 := hy.1
  have h4 := hy.2
  exact ⟨by omega, by omega⟩
theorem kt_lcmul {a b k : Int} {v x y : Int64} (h : v = y * x) (hx : kl a b x) (hs : ((y.toInt == k) && decide (0 ≤ a) && decide (0 ≤ k) && decide (k * b ≤ 9223372036854775807)) = true) : v.toInt = k * x.toInt := by
  subst h
  simp only [Bool.and_eq_true, decide_eq_true_eq, beq_iff_eq] at hs
  obtain ⟨⟨⟨e, h0⟩, hk⟩, hb⟩ := hs
  have h1 := hx.1
  have h2 := hx.2
  have h3 : k * x.toInt ≤ k * b := Int.mul_le_mul_of_nonneg_left h2 hk
  have h4 : 0 ≤ k * x.toInt := Int.mul_nonneg hk (by omega)
  rw [Int64.toInt_mul, e, kz_bmod (by omega) (by omega)]
theorem kl_cmul {a b k a' b' : Int} {v x : Int64} (t : v.toInt = k * x.toInt) (hx : kl a b x) (hs : (decide (0 ≤ k) && decide (a' ≤ k * a) && decide (k * b ≤ b')) = true) : kl a' b' v := by
  simp only [Bool.and_eq_true, decide_eq_true_eq] at hs
  obtain ⟨⟨hk, h3⟩, h4⟩ := hs
  have h1 := Int.mul_le_mul_of_nonneg_left hx.1 hk
  have h2 := Int.mul_le_mul_of_nonneg_left hx.2 hk
  exact ⟨by omega, by omega⟩
theorem kl_div {a b c d b' : Int} {v x y : Int64} (h : v = x / y) (hx : kl a b x) (hy : kl c d y) (hs : (decide (0 ≤ a) && decide (0 < c) && decide (b ≤ b')) = true) : kl 0 b' v := by
  simp only [Bool.and_eq_true, decide_eq_true_eq] at hs
  obtain ⟨⟨h1, h2⟩, h3⟩ := hs
  have hx1 := hx.1
  have hx2 := hx.2
  have hy1 := hy.1
  have e := lg_ldiv_nonneg (x := x) (y := y) (by omega) (by omega)
  rw [← h] at e
  have h4 : 0 ≤ x.toInt / y.toInt := Int.ediv_nonneg (by omega) (by omega)
  have h5 : x.toInt / y.toInt ≤ x.toInt := Int.ediv_le_self _ (by omega)
  exact ⟨by omega, by omega⟩
theorem kl_rem {a b c d b' : Int} {v x y : Int64} (h : v = x - x / y * y) (hx : kl a b x) (hy : kl c d y) (hs : (decide (0 ≤ a) && decide (0 < c) && decide (d ≤ b' + 1)) = true) : kl 0 b' v := by
  simp only [Bool.and_eq_true, decide_eq_true_eq] at hs
  obtain ⟨⟨h1, h2⟩, h3⟩ := hs
  have hx1 := hx.1
  have hy1 := hy.1
  have hy2 := hy.2
  have hx2 := (kl_all x).2
  have e := lg_ldiv_nonneg (x := x) (y := y) (by omega) (by omega)
  have h4 : 0 ≤ x.toInt / y.toInt := Int.ediv_nonneg (by omega) (by omega)
  have h5 : x.toInt / y.toInt * y.toInt ≤ x.toInt := Int.ediv_mul_le _ (by omega)
  have h6 : x.toInt < (x.toInt / y.toInt + 1) * y.toInt := Int.lt_ediv_add_one_mul_self _ (by omega)
  have h7 : 0 ≤ x.toInt / y.toInt * y.toInt := Int.mul_nonneg h4 (by omega)
  have h8 : (x.toInt / y.toInt + 1) * y.toInt = x.toInt / y.toInt * y.toInt + y.toInt := by rw [Int.add_mul, Int.one_mul]
  have e2 : (x / y * y).toInt = x.toInt / y.toInt * y.toInt := by
    rw [Int64.toInt_mul, e, kz_bmod (by omega) (by omega)]
  have e3 : v.toInt = x.toInt - x.toInt / y.toInt * y.toInt := by
    rw [h, Int64.toInt_sub, e2, kz_bmod (by omega) (by omega)]
  exact ⟨by omega, by omega⟩
theorem klc_lt {v : Int32} {x y : Int64} (e : v = lg_cmp x y) (h : v.toInt < 0) : x.toInt < y.toInt := by
  rw [e] at h
  exact Int64.lt_iff_toInt_lt.mp ((lg_cmp_lt x y).mp (Int32.lt_iff_toInt_lt.mpr h))
theorem klc_ge {v : Int32} {x y : Int64} (e : v = lg_cmp x y) (h : 0 ≤ v.toInt) : y.toInt ≤ x.toInt := by
  rw [e] at h
  exact Int64.le_iff_toInt_le.mp ((lg_cmp_ge x y).mp (Int32.le_iff_toInt_le.mpr h))
theorem klc_gt {v : Int32} {x y : Int64} (e : v = lg_cmp x y) (h : 0 < v.toInt) : y.toInt < x.toInt := by
  rw [e] at h
  exact Int64.lt_iff_toInt_lt.mp ((lg_cmp_gt x y).mp (Int32.lt_iff_toInt_lt.mpr h))
theorem klc_le {v : Int32} {x y : Int64} (e : v = lg_cmp x y) (h : v.toInt ≤ 0) : x.toInt ≤ y.toInt := by
  rw [e] at h
  exact Int64.le_iff_toInt_le.mp ((lg_cmp_le x y).mp (Int32.le_iff_toInt_le.mpr h))
theorem klc_eq {v : Int32} {x y : Int64} (e : v = lg_cmp x y) (h : v = 0) : x.toInt = y.toInt := by
  rw [e] at h
  rw [(lg_cmp_eq x y).mp h]
theorem klc_ne {v : Int32} {x y : Int64} (e : v = lg_cmp x y) (h : ¬ v = 0) : ¬ x.toInt = y.toInt := by
  rw [e] at h
  exact fun q => h ((lg_cmp_eq x y).mpr (Int64.toInt_inj.mp q))
/-! ints: or, shifts, the other sign -/
theorem kr_or {a b c d a' b' : Int} {v x y : Int32} (h : v = x ||| y) (k : Nat) (hx : kr a b x) (hy : kr c d y) (hs : (decide (k ≤ 31) && decide (0 ≤ a) && decide (0 ≤ c) && decide (b < 2 ^ k) && decide (d < 2 ^ k) && (decide (a' ≤ a) || decide (a' ≤ c)) && decide ((2 : Int) ^ k ≤ b' + 1)) = true) : kr a' b' v := by
  simp only [Bool.and_eq_true, Bool.or_eq_true, decide_eq_true_eq] at hs
  obtain ⟨⟨⟨⟨⟨⟨h0, h1⟩, h2⟩, h3⟩, h4⟩, h5⟩, h6⟩ := hs
  have hx1 := hx.1
  have hx2 := hx.2
  have hy1 := hy.1
  have hy2 := hy.2
  have ex := kr_nIs hx h1
  have ey := kr_nIs hy h2
  have e1 : x.toNatClampNeg = x.toInt.toNat := rfl
  have e2 : y.toNatClampNeg = y.toInt.toNat := rfl
  have hc : (((2 : Nat) ^ k : Nat) : Int) = (2 : Int) ^ k := by rw [Int.natCast_pow]; rfl
  have hk31 : (2 : Nat) ^ k ≤ 2 ^ 31 := Nat.pow_le_pow_right (by decide) h0
  have g1 : x.toNatClampNeg < 2 ^ k := by omega
  have g2 : y.toNatClampNeg < 2 ^ k := by omega
  have g3 : x.toNatClampNeg ||| y.toNatClampNeg < 2 ^ k := Nat.or_lt_two_pow g1 g2
  have g4 : x.toNatClampNeg ≤ x.toNatClampNeg ||| y.toNatClampNeg := Nat.left_le_or
  have g5 : y.toNatClampNeg ≤ x.toNatClampNeg ||| y.toNatClampNeg := Nat.right_le_or
  have ev : v = nI (x.toNatClampNeg ||| y.toNatClampNeg) := by
    rw [h]
    conv => lhs; rw [ex, ey]
    exact i_or (by omega) (by omega)
  have et : v.toInt = ((x.toNatClampNeg ||| y.toNatClampNeg : Nat) : Int) := by rw [ev, nI_toInt (by omega)]
  exact ⟨by omega, by omega⟩
theorem kt_ishl {a b : Int} {v x y : Int32} {j : Nat} (h : v = x <<< (y &&& 31)) (hx : kr a b x) (hj : (y &&& 31) = nI j) (hs : (decide (j < 31) && decide (0 ≤ a) && decide (b * 2 ^ j ≤ 2147483647)) = true) : v.toInt = x.toInt * 2 ^ j := by
  simp only [Bool.and_eq_true, decide_eq_true_eq] at hs
  obtain ⟨⟨h0, h1⟩, h2⟩ := hs
  have hx1 := hx.1
  have hx2 := hx.2
  have ex := kr_nIs hx h1
  have e1 : x.toNatClampNeg = x.toInt.toNat := rfl
  have hp : x.toInt * 2 ^ j ≤ b * 2 ^ j := Int.mul_le_mul_of_nonneg_right hx2 (Int.le_of_lt (kp_pos _))
  have hc : ((x.toNatClampNeg * 2 ^ j : Nat) : Int) = x.toInt * 2 ^ j := by
    rw [Int.natCast_mul, Int.natCast_pow]
    rw [show ((x.toNatClampNeg : Nat) : Int) = x.toInt by omega]
    rfl
  have ev : v = nI (x.toNatClampNeg * 2 ^ j) := by
    rw [h, hj]
    conv => lhs; rw [ex]
    refine Int32.toBitVec_inj.mp ?_
    rw [Int32.toBitVec_shiftLeft]
    unfold nI
    rw [Int32.toBitVec_ofNat', Int32.toBitVec_ofNat', Int32.toBitVec_ofNat']
    refine BitVec.eq_of_toNat_eq ?_
    have hj2 : (BitVec.smod (BitVec.ofNat 32 j) 32).toNat = j := by
      have : ∀ j, j < 31 → (BitVec.smod (BitVec.ofNat 32 j) 32).toNat = j := by decide +kernel
      exact this j h0
    simp only [BitVec.shiftLeft_eq', BitVec.toNat_shiftLeft, BitVec.toNat_ofNat, hj2, Nat.shiftLeft_eq]
    rw [Nat.mod_mul_mod]
  rw [ev, nI_toInt (by omega)]
  exact hc
theorem kr_shl {a b a' b' : Int} {v x y : Int32} (j : Nat) (h : v = x <<< (y &&& 31)) (hx : kr a b x) (hj : (y &&& 31) = nI j) (hs : ((decide (j < 31) && decide (0 ≤ a) && decide (b * 2 ^ j ≤ 2147483647)) && (decide (a' ≤ a * 2 ^ j) && decide (b * 2 ^ j ≤ b'))) = true) : kr a' b' v := by
  rw [Bool.and_eq_true] at hs
  have t := kt_ishl h hx hj hs.1
  have hs2 := hs.2
  simp only [Bool.and_eq_true, decide_eq_true_eq] at hs2
  have h1 := Int.mul_le_mul_of_nonneg_right hx.1 (Int.le_of_lt (kp_pos j))
  have h2 := Int.mul_le_mul_of_nonneg_right hx.2 (Int.le_of_lt (kp_pos j))
  exact ⟨by omega, by omega⟩
theorem kt_shr {a b k : Int} {v x y : Int32} (j : Nat) (h : v = x >>> (y &&& 31)) (hx : kr a b x) (hj : (y &&& 31) = nI j) (hs : (decide (j < 31) && decide (0 ≤ a) && decide ((2 : Int) ^ j = k)) = true) : v.toInt = x.toInt / k := by
  simp only [Bool.and_eq_true, decide_eq_true_eq] at hs
  obtain ⟨hs, hk⟩ := hs
  have hj2 : ((nI j).toBitVec.smod 32).toNat = j := by
    have : ∀ j, j < 31 → ((nI j).toBitVec.smod 32).toNat = j := by decide +kernel
    exact this j hs.1
  rw [h, hj, pk_shr _ _ j hj2, Int.shiftRight_eq_div_pow, ← hk]
  rfl
theorem kr_div {a b k a' b' : Int} {v x : Int32} (t : v.toInt = x.toInt / k) (hx : kr a b x) (hs : (decide (0 < k) && decide (0 ≤ a) && decide (a' ≤ a / k) && decide (b / k ≤ b')) = true) : kr a' b' v := by
  simp only [Bool.and_eq_true, decide_eq_true_eq] at hs
  obtain ⟨⟨⟨hk, h0⟩, h1⟩, h2⟩ := hs
  have g1 := Int.ediv_le_ediv hk hx.1
  have g2 := Int.ediv_le_ediv hk hx.2
  exact ⟨by omega, by omega⟩
theorem kt_neg {a b : Int} {v x : Int32} (h : v = -x) (hx : kr a b x) (hs : decide (-2147483648 < a) = true) : v.toInt = -x.toInt := by
  simp only [decide_eq_true_eq] at hs
  have h1 := hx.1
  have h2 := (kr_all x).2
  rw [h, Int32.toInt_neg, kx_bmod (by omega) (by omega)]
theorem kr_neg {a b a' b' : Int} {v x : Int32} (t : v.toInt = -x.toInt) (hx : kr a b x) (hs : (decide (a' ≤ -b) && decide (-a ≤ b')) = true) : kr a' b' v := by
  simp only [Bool.and_eq_true, decide_eq_true_eq] at hs
  have h1 := hx.1
  have h2 := hx.2
  exact ⟨by omega, by omega⟩
theorem kl_and {v x y : Int64} {b' : Int} (h : v = x &&& y) (k : Nat) (hm : y.toBitVec.toNat = 2 ^ k - 1) (hs : (decide (k ≤ 62) && decide ((2 : Int) ^ k ≤ b' + 1)) = true) : kl 0 b' v := by
  simp only [Bool.and_eq_true, decide_eq_true_eq] at hs
  have hc : (((2 : Nat) ^ k : Nat) : Int) = (2 : Int) ^ k := by rw [Int.natCast_pow]; rfl
  have h62 : (2 : Nat) ^ k ≤ 2 ^ 62 := Nat.pow_le_pow_right (by decide) hs.1
  have hp : 0 < (2 : Nat) ^ k := Nat.two_pow_pos k
  have e1 : v.toBitVec.toNat < 2 ^ k := by
    rw [h, Int64.toBitVec_and, BitVec.toNat_and, hm]
    exact Nat.lt_of_le_of_lt Nat.and_le_right (by omega)
  have e2 : v.toInt = (v.toBitVec.toNat : Int) := by
    show v.toBitVec.toInt = _
    rw [BitVec.toInt_eq_toNat_of_lt (by omega)]
  exact ⟨by omega, by omega⟩
/-! the reference's floats -/
theorem kpf_62 {b : Int} {n : Int64} {s : Int32} (hs : kr 62 62 s) (hn : kl 0 b n) (hb : decide (b < 4611686018427387904) = true) : n.toInt < 2 ^ s.toNatClampNeg := by
  simp only [decide_eq_true_eq] at hb
  have e1 : s.toNatClampNeg = s.toInt.toNat := rfl
  have h1 := hs.1
  have h2 := hs.2
  have e2 : s.toNatClampNeg = 62 := by omega
  rw [e2]
  have h3 := hn.2
  have e3 : (2 : Int) ^ 62 = 4611686018427387904 := by decide
  omega
theorem kpf_lt {n v : Int64} {k : Nat} (t : v.toInt = n.toInt / 2 ^ k) (h : v.toInt ≤ 0) : n.toInt < 2 ^ k := by
  have hp := kp_pos k
  have h1 := Int.lt_ediv_add_one_mul_self n.toInt hp
  rw [← t] at h1
  have h2 : (v.toInt + 1) * 2 ^ k ≤ 1 * 2 ^ k := Int.mul_le_mul_of_nonneg_right (by omega) (by omega)
  omega
theorem kpf_by {n : Int64} {s : Int32} {b : Int} (h : n.toInt < 2 ^ s.toNatClampNeg) (hs : kr 0 62 s) (hb : s.toInt - 24 ≤ b) : n.toInt < 2 ^ (b + 24).toNat := by
  have e1 : s.toNatClampNeg = s.toInt.toNat := rfl
  have h1 := hs.1
  have h2 : (2 : Int) ^ s.toNatClampNeg ≤ 2 ^ (b + 24).toNat := kp_le (by omega)
  omega
theorem kpf_shr {n v : Int64} {y : Int32} {c : Int} (t : v.toInt = n.toInt / 2 ^ y.toNatClampNeg) (hn : n.toInt < 2 ^ (y.toInt + 24).toNat) (hy : kr 1 c y) (h0 : 0 ≤ n.toInt) : kl 0 16777215 v := by
  have e1 : y.toNatClampNeg = y.toInt.toNat := rfl
  have h1 := hy.1
  have hp := kp_pos y.toNatClampNeg
  have e2 : (y.toInt + 24).toNat = 24 + y.toNatClampNeg := by omega
  rw [e2, Int.pow_add] at hn
  have e3 : (2 : Int) ^ 24 = 16777216 := by decide
  rw [e3] at hn
  have h2 : n.toInt / 2 ^ y.toNatClampNeg < 16777216 := Int.ediv_lt_of_lt_mul hp hn
  have h3 : 0 ≤ n.toInt / 2 ^ y.toNatClampNeg := Int.ediv_nonneg h0 (by omega)
  exact ⟨by omega, by omega⟩
theorem kpf_shl {n v : Int64} {y s : Int32} (h : v = n <<< (s.toInt64 &&& 63)) (ts : s.toInt = -y.toInt) (hn : n.toInt < 2 ^ (y.toInt + 24).toNat) (hy : kr (-24) 0 y) (h0 : 0 ≤ n.toInt) : kl 0 16777215 v := by
  have h1 := hy.1
  have h2 := hy.2
  have hs : kr 0 24 s := ⟨by omega, by omega⟩
  have e1 : s.toNatClampNeg = s.toInt.toNat := rfl
  have e2 : (y.toInt + 24).toNat + s.toNatClampNeg = 24 := by omega
  have hp := kp_pos s.toNatClampNeg
  have h3 : n.toInt * 2 ^ s.toNatClampNeg < 2 ^ (y.toInt + 24).toNat * 2 ^ s.toNatClampNeg := Int.mul_lt_mul_of_pos_right hn hp
  rw [← Int.pow_add, e2] at h3
  have e3 : (2 : Int) ^ 24 = 16777216 := by decide
  have e4 := kl_lN (x := n) h0
  have e5 := kr_nIs hs (by omega)
  have hc : ((n.toInt.toNat * 2 ^ s.toNatClampNeg : Nat) : Int) = n.toInt * 2 ^ s.toNatClampNeg := by
    rw [Int.natCast_mul, Int.natCast_pow]
    rw [show ((n.toInt.toNat : Nat) : Int) = n.toInt by omega]
    rfl
  have e6 : v = lN (n.toInt.toNat * 2 ^ s.toNatClampNeg) := by
    rw [h]
    conv => lhs; rw [e4, e5]
    exact wb_shl _ (by omega)
  have e7 : v.toInt = n.toInt * 2 ^ s.toNatClampNeg := by rw [e6, pf_lI (by omega)]; exact hc
  have h4 : 0 ≤ n.toInt * 2 ^ s.toNatClampNeg := Int.mul_nonneg h0 (by omega)
  exact ⟨by omega, by omega⟩
theorem kwh_a {p v1 v2 : Int32} {v3 : Int64} (hp : kr 0 8388607 p) (h1 : v1 = p &&& 8388607) (h2 : v2 = v1 ||| 0) (h3 : v3.toInt = v2.toInt) : v3.toInt = p.toInt := by
  have g2 := hp.2
  have ep := kr_nIs hp (by omega)
  have g1 := hp.1
  have e1 : p.toNatClampNeg = p.toInt.toNat := rfl
  have e2 : v1 = p := by
    rw [h1]
    conv => lhs; rw [ep, show (8388607 : Int32) = nI 8388607 from by decide]
    rw [i_and (by omega) (by omega), show (8388607 : Nat) = 2 ^ 23 - 1 from rfl, Nat.and_two_pow_sub_one_of_lt_two_pow (by omega)]
    exact ep.symm
  have e3 : v2 = v1 := by
    rw [h2]
    exact Int32.or_zero
  rw [h3, e3, e2]
theorem kpw_le {a b : Int} (h0 : 0 ≤ b) (h : b ≤ a) : (if b < 8388608 then (-149 : Int) else b / 8388608 - 150) ≤ (if a < 8388608 then -149 else a / 8388608 - 150) := by
  have h1 : b / 8388608 ≤ a / 8388608 := Int.ediv_le_ediv (by omega) h
  split
  · split
    · omega
    · omega
  · split
    · omega
    · omega
theorem ksb_22 {x v : Int64} {y : Int32} {c : Int} (t : v.toInt = x.toInt * 2 ^ y.toNatClampNeg) (hx : kl 1 c x) (h : v.toInt < 8388608) (hy : kr 0 23 y) : kr 0 22 y := by
  have h1 := hx.1
  have e1 : y.toNatClampNeg = y.toInt.toNat := rfl
  have h2 := hy.1
  have h3 := hy.2
  refine ⟨h2, ?_⟩
  by_cases q : y.toInt = 23
  · have e2 : y.toNatClampNeg = 23 := by omega
    rw [e2] at t
    have e3 : (2 : Int) ^ 23 = 8388608 := by decide
    rw [e3] at t
    omega
  · omega
theorem kof_eq {f : Nat → Int32} {i a b r s : Int32} {B : Nat} {c : Int} (ta : a.toInt = c + i.toInt) (tb : b.toInt = c + i.toInt) (er : r = f (B + a.toNatClampNeg)) (es : s = f (B + b.toNatClampNeg)) : s = r := by
  have e1 : a.toNatClampNeg = a.toInt.toNat := rfl
  have e2 : b.toNatClampNeg = b.toInt.toNat := rfl
  rw [er, es, show a.toNatClampNeg = b.toNatClampNeg by omega]
theorem pF_24 : ∀ N, N < 25 → 0 < N → decide (0 < (pF N 0).toInt) = true := by decide +kernel
theorem pF_kr {p0 : Int32} (h : kr 1 24 p0) : kr 1 2147483647 (pF p0.toNatClampNeg 0) := by
  have h1 := kr_nat h (by omega)
  have h2 := pF_24 p0.toNatClampNeg (by omega) (by omega)
  simp only [decide_eq_true_eq] at h2
  exact ⟨by omega, (kr_all _).2⟩
theorem c_X11_floatOf_s (l : Launch) (D : va_G) (cB cI cJ cD : ClassId) (p0 : Int32) (sz : Nat) (h : kr 1 24 p0) : Met l yX11_floatOf (kk_W yX11_floatOf cX11_floatOf 1 (some .int)) ({ frames := 1, cells := 0, slots := 0, locals := 30 }) (va_Pc [.int p0] (kk_pre D cB cI cJ cD [] sz)) (vp_Si (fun r => r = pF p0.toNatClampNeg 0)) 0 0 (fun _ => False) := by
  have h1 := kr_nat h (by omega)
  have e := kr_nIs h (by omega)
  have hm := z_mfloatOf l D cB cI cJ cD p0.toNatClampNeg sz (by omega) (by omega)
  rw [← e] at hm
  exact hm
