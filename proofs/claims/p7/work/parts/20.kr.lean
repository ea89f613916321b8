/-! ===== bounds of ints, of the elements of rows; what branches, sums and loops say of them ===== -/
def kr (a b : Int) (x : Int32) : Prop := a ≤ x.toInt ∧ x.toInt ≤ b
def ka (a b : Int) (f : Nat → Int32) : Prop := ∀ i, kr a b (f i)
def kPD (D : va_G) (A : Nat → Prop) (ws : va_W) (H : Heap) : Prop := va_P D vwCl ws H ∧ va_D A ws
theorem kr_all (x : Int32) : kr (-2147483648) 2147483647 x := by
  have h1 := Int32.le_toInt x
  have h2 := Int32.toInt_lt x
  exact ⟨by omega, by omega⟩
theorem kr_c (x : Int32) (a : Int) (h : (x.toInt == a) = true) : kr a a x := by
  have h2 : x.toInt = a := eq_of_beq h
  exact ⟨by omega, by omega⟩
theorem kr_w {a b c d : Int} {x : Int32} (h : kr a b x) (hs : (decide (c ≤ a) && decide (b ≤ d)) = true) : kr c d x := by
  simp only [Bool.and_eq_true, decide_eq_true_eq] at hs
  have h1 := h.1
  have h2 := h.2
  exact ⟨by omega, by omega⟩
theorem ki_lt {x y : Int32} (h : x < y) : x.toInt < y.toInt := Int32.lt_iff_toInt_lt.mp h
theorem ki_le {x y : Int32} (h : x ≤ y) : x.toInt ≤ y.toInt := Int32.le_iff_toInt_le.mp h
theorem ki_nlt {x y : Int32} (h : ¬ x < y) : y.toInt ≤ x.toInt := by
  rw [Int32.lt_iff_toInt_lt] at h
  omega
theorem ki_nle {x y : Int32} (h : ¬ x ≤ y) : y.toInt < x.toInt := by
  rw [Int32.le_iff_toInt_le] at h
  omega
theorem kr_lt_l {a b c d a' b' : Int} {x y : Int32} (hx : kr a b x) (hy : kr c d y) (i : x.toInt < y.toInt) (hs : (decide (a' ≤ a) && decide (d ≤ b' + 1)) = true) : kr a' b' x := by
  simp only [Bool.and_eq_true, decide_eq_true_eq] at hs
  have h1 := hx.1
  have h2 := hy.2
  exact ⟨by omega, by omega⟩
theorem kr_lt_r {a b c d c' d' : Int} {x y : Int32} (hx : kr a b x) (hy : kr c d y) (i : x.toInt < y.toInt) (hs : (decide (c' ≤ a + 1) && decide (d ≤ d')) = true) : kr c' d' y := by
  simp only [Bool.and_eq_true, decide_eq_true_eq] at hs
  have h1 := hx.1
  have h2 := hy.2
  exact ⟨by omega, by omega⟩
theorem kr_le_l {a b c d a' b' : Int} {x y : Int32} (hx : kr a b x) (hy : kr c d y) (i : x.toInt ≤ y.toInt) (hs : (decide (a' ≤ a) && decide (d ≤ b')) = true) : kr a' b' x := by
  simp only [Bool.and_eq_true, decide_eq_true_eq] at hs
  have h1 := hx.1
  have h2 := hy.2
  exact ⟨by omega, by omega⟩
theorem kr_le_r {a b c d c' d' : Int} {x y : Int32} (hx : kr a b x) (hy : kr c d y) (i : x.toInt ≤ y.toInt) (hs : (decide (c' ≤ a) && decide (d ≤ d')) = true) : kr c' d' y := by
  simp only [Bool.and_eq_true, decide_eq_true_eq] at hs
  have h1 := hx.1
  have h2 := hy.2
  exact ⟨by omega, by omega⟩
theorem kr_eq_l {a b c d a' b' : Int} {x y : Int32} (hx : kr a b x) (hy : kr c d y) (h : x = y) (hs : ((decide (a' ≤ a) || decide (a' ≤ c)) && (decide (b ≤ b') || decide (d ≤ b'))) = true) : kr a' b' x := by
  subst h
  simp only [Bool.and_eq_true, Bool.or_eq_true, decide_eq_true_eq] at hs
  have h1 := hx.1
  have h2 := hx.2
  have h3 := hy.1
  have h4 := hy.2
  exact ⟨by omega, by omega⟩
theorem kr_eq_r {a b c d a' b' : Int} {x y : Int32} (hx : kr a b x) (hy : kr c d y) (h : x = y) (hs : ((decide (a' ≤ a) || decide (a' ≤ c)) && (decide (b ≤ b') || decide (d ≤ b'))) = true) : kr a' b' y := by
  subst h
  exact kr_eq_l hx hy rfl hs
theorem kr_ne_lo {a b a' b' : Int} {v z : Int32} (hv : kr a b v) (h : ¬ v = z) (hs : ((z.toInt == a) && decide (a' ≤ a + 1) && decide (b ≤ b')) = true) : kr a' b' v := by
  simp only [Bool.and_eq_true, decide_eq_true_eq, beq_iff_eq] at hs
  have h1 := hv.1
  have h2 := hv.2
  have h3 : ¬ v.toInt = z.toInt := fun e => h (Int32.toInt_inj.mp e)
  exact ⟨by omega, by omega⟩
theorem kr_ne_hi {a b a' b' : Int} {v z : Int32} (hv : kr a b v) (h : ¬ v = z) (hs : ((z.toInt == b) && decide (a' ≤ a) && decide (b ≤ b' + 1)) = true) : kr a' b' v := by
  simp only [Bool.and_eq_true, decide_eq_true_eq, beq_iff_eq] at hs
  have h1 := hv.1
  have h2 := hv.2
  have h3 : ¬ v.toInt = z.toInt := fun e => h (Int32.toInt_inj.mp e)
  exact ⟨by omega, by omega⟩
theorem kr_one {a b : Int} {x z : Int32} (h : kr a b x) (hs : (decide (a = b) && (z.toInt == a)) = true) : x = z := by
  simp only [Bool.and_eq_true, decide_eq_true_eq, beq_iff_eq] at hs
  have h1 := h.1
  have h2 := h.2
  exact Int32.toInt_inj.mp (by omega)
theorem kr_same {a b c d : Int} {x y : Int32} (hx : kr a b x) (hy : kr c d y) (hs : (decide (a = b) && decide (b = c) && decide (c = d)) = true) : x = y := by
  simp only [Bool.and_eq_true, decide_eq_true_eq] at hs
  have h1 := hx.1
  have h2 := hx.2
  have h3 := hy.1
  have h4 := hy.2
  exact Int32.toInt_inj.mp (by omega)
theorem kr_no_lt {a b c d : Int} {x y : Int32} (i : x.toInt < y.toInt) (hx : kr a b x) (hy : kr c d y) (hs : decide (d ≤ a) = true) : False := by
  simp only [decide_eq_true_eq] at hs
  have h1 := hx.1
  have h4 := hy.2
  omega
theorem kr_no_le {a b c d : Int} {x y : Int32} (i : x.toInt ≤ y.toInt) (hx : kr a b x) (hy : kr c d y) (hs : decide (d < a) = true) : False := by
  simp only [decide_eq_true_eq] at hs
  have h1 := hx.1
  have h4 := hy.2
  omega
theorem kr_no_gt {a b c d : Int} {x y : Int32} (i : y.toInt < x.toInt) (hx : kr a b x) (hy : kr c d y) (hs : decide (b ≤ c) = true) : False := kr_no_lt i hy hx hs
theorem kr_no_ge {a b c d : Int} {x y : Int32} (i : y.toInt ≤ x.toInt) (hx : kr a b x) (hy : kr c d y) (hs : decide (b < c) = true) : False := kr_no_le i hy hx hs
theorem kr_no_eq {a b c d : Int} {x y : Int32} (h : x = y) (hx : kr a b x) (hy : kr c d y) (hs : (decide (b < c) || decide (d < a)) = true) : False := by
  subst h
  simp only [Bool.or_eq_true, decide_eq_true_eq] at hs
  have h1 := hx.1
  have h2 := hx.2
  have h3 := hy.1
  have h4 := hy.2
  omega
theorem kr_in {a b : Int} {x : Int32} {n : Nat} (h : kr a b x) (hs : (decide (0 ≤ a) && decide (b < (n : Int))) = true) : vp_in x n := by
  simp only [Bool.and_eq_true, decide_eq_true_eq] at hs
  have h1 := h.1
  have h2 := h.2
  exact vp_in_iff.mpr ⟨by omega, by omega⟩
theorem kr_n0 {a b : Int} {x : Int32} (h : kr a b x) (hs : (decide (0 < a) || decide (b < 0)) = true) : ¬ x = 0 := by
  simp only [Bool.or_eq_true, decide_eq_true_eq] at hs
  intro e
  subst e
  have h1 := h.1
  have h2 := h.2
  have h0 : (0 : Int32).toInt = 0 := by decide
  omega
theorem kr_nn {a b : Int} {x : Int32} (h : kr a b x) (hs : decide (0 ≤ a) = true) : ¬ x < 0 := by
  simp only [decide_eq_true_eq] at hs
  intro e
  have e2 := ki_lt e
  have h1 := h.1
  have h0 : (0 : Int32).toInt = 0 := by decide
  omega
theorem kr_cl {a b : Int} {x : Int32} {n : Nat} (h : kr a b x) (hs : decide (b ≤ (n : Int)) = true) : (0 : Int32).toNatClampNeg + x.toNatClampNeg ≤ n := by
  simp only [decide_eq_true_eq] at hs
  have h0 : (0 : Int32).toNatClampNeg = 0 := by decide
  have hc : x.toNatClampNeg = x.toInt.toNat := rfl
  have h2 := h.2
  omega
theorem kr_ct {a b : Int} {x : Int32} (h : kr a b x) (hs : decide (0 ≤ a) = true) : (x.toNatClampNeg : Int) = x.toInt := by
  simp only [decide_eq_true_eq] at hs
  have hc : x.toNatClampNeg = x.toInt.toNat := rfl
  have h1 := h.1
  omega
theorem kx_bmod {z : Int} (h1 : -2147483648 ≤ z) (h2 : z < 2147483648) : z.bmod (2 ^ 32) = z := by
  rw [Int.bmod_eq_of_le (by omega) (by omega)]
theorem kt_add {a b c d : Int} {v x y : Int32} (h : v = x + y) (hx : kr a b x) (hy : kr c d y) (hs : (decide (-2147483648 ≤ a + c) && decide (b + d ≤ 2147483647)) = true) : v.toInt = x.toInt + y.toInt := by
  subst h
  simp only [Bool.and_eq_true, decide_eq_true_eq] at hs
  have h1 := hx.1
  have h2 := hx.2
  have h3 := hy.1
  have h4 := hy.2
  rw [Int32.toInt_add, kx_bmod (by omega) (by omega)]
theorem kt_sub {a b c d : Int} {v x y : Int32} (h : v = x - y) (hx : kr a b x) (hy : kr c d y) (hs : (decide (-2147483648 ≤ a - d) && decide (b - c ≤ 2147483647)) = true) : v.toInt = x.toInt - y.toInt := by
  subst h
  simp only [Bool.and_eq_true, decide_eq_true_eq] at hs
  have h1 := hx.1
  have h2 := hx.2
  have h3 := hy.1
  have h4 := hy.2
  rw [Int32.toInt_sub, kx_bmod (by omega) (by omega)]
theorem kr_add {a b c d a' b' : Int} {v x y : Int32} (t : v.toInt = x.toInt + y.toInt) (hx : kr a b x) (hy : kr c d y) (hs : (decide (a' ≤ a + c) && decide (b + d ≤ b')) = true) : kr a' b' v := by
  simp only [Bool.and_eq_true, decide_eq_true_eq] at hs
  have h1 := hx.1
  have h2 := hx.2
  have h3 := hy.1
  have h4 := hy.2
  exact ⟨by omega, by omega⟩
theorem kr_sub {a b c d a' b' : Int} {v x y : Int32} (t : v.toInt = x.toInt - y.toInt) (hx : kr a b x) (hy : kr c d y) (hs : (decide (a' ≤ a - d) && decide (b - c ≤ b')) = true) : kr a' b' v := by
  simp only [Bool.and_eq_true, decide_eq_true_eq] at hs
  have h1 := hx.1
  have h2 := hx.2
  have h3 := hy.1
  have h4 := hy.2
  exact ⟨by omega, by omega⟩
theorem kt_mulc {a b k : Int} {v x y : Int32} (h : v = x * y) (hx : kr a b x) (hs : ((y.toInt == k) && decide (0 ≤ a) && decide (0 ≤ k) && decide (k * b ≤ 2147483647)) = true) : v.toInt = k * x.toInt := by
  subst h
  simp only [Bool.and_eq_true, decide_eq_true_eq, beq_iff_eq] at hs
  obtain ⟨⟨⟨e, h0⟩, hk⟩, hb⟩ := hs
  have h1 := hx.1
  have h2 := hx.2
  have h3 : k * x.toInt ≤ k * b := Int.mul_le_mul_of_nonneg_left h2 hk
  have h4 : 0 ≤ k * x.toInt := Int.mul_nonneg hk (by omega)
  rw [Int32.toInt_mul, e, Int.mul_comm, kx_bmod (by omega) (by omega)]
theorem kt_cmul {a b k : Int} {v x y : Int32} (h : v = y * x) (hx : kr a b x) (hs : ((y.toInt == k) && decide (0 ≤ a) && decide (0 ≤ k) && decide (k * b ≤ 2147483647)) = true) : v.toInt = k * x.toInt := by
  refine kt_mulc (y := y) (a := a) (b := b) ?_ hx hs
  rw [h, Int32.mul_comm]
theorem kr_mul {a b k a' b' : Int} {v x : Int32} (t : v.toInt = k * x.toInt) (hx : kr a b x) (hs : (decide (0 ≤ k) && decide (a' ≤ k * a) && decide (k * b ≤ b')) = true) : kr a' b' v := by
  simp only [Bool.and_eq_true, decide_eq_true_eq] at hs
  obtain ⟨⟨hk, h3⟩, h4⟩ := hs
  have h1 := Int.mul_le_mul_of_nonneg_left hx.1 hk
  have h2 := Int.mul_le_mul_of_nonneg_left hx.2 hk
  exact ⟨by omega, by omega⟩
theorem kr_and {v x y : Int32} {b' : Int} (h : v = x &&& y) (k : Nat) (hm : y.toBitVec.toNat = 2 ^ k - 1) (hs : (decide (k ≤ 30) && decide ((2 : Int) ^ k ≤ b' + 1)) = true) : kr 0 b' v := by
  subst h
  simp only [Bool.and_eq_true, decide_eq_true_eq] at hs
  obtain ⟨j, hj, e⟩ := pk_andE x k hm
  rw [e]
  have h31 : (2 : Nat) ^ k ≤ 2 ^ 30 := Nat.pow_le_pow_right (by decide) hs.1
  have ht : (nI j).toInt = (j : Int) := nI_toInt (by omega)
  have hc : (((2 : Nat) ^ k : Nat) : Int) = (2 : Int) ^ k := by rw [Int.natCast_pow]; rfl
  refine ⟨?_, ?_⟩ <;> rw [ht] <;> omega
theorem kr_nz {v : Int32} (h : kr 0 1 v) : narrow .boolean (.int v) = .int v := by
  have h1 := h.1
  have h2 := h.2
  have h3 : v = 0 ∨ v = 1 := by
    simp only [kk_eq, Int32.reduceToInt]
    omega
  rcases h3 with rfl | rfl <;> rfl
theorem kr_fz {v : Int32} (h : kr 0 1 v) : fits .boolean (.int v) = true := by
  have h1 := h.1
  have h2 := h.2
  have h3 : v = 0 ∨ v = 1 := by
    simp only [kk_eq, Int32.reduceToInt]
    omega
  rcases h3 with rfl | rfl <;> rfl
theorem kr_byte (x : Int32) : kr (-128) 127 (vp_nar .byte x) := by
  rw [vp_nar_byte]
  have h1 := Int8.le_toInt x.toInt8
  have h2 := Int8.toInt_lt x.toInt8
  have e : x.toInt8.toInt32.toInt = x.toInt8.toInt := Int8.toInt_toInt32 _
  exact ⟨by rw [e]; omega, by rw [e]; omega⟩
theorem kb_fit {x : Int32} (h : kr (-128) 127 x) : fits .byte (.int x) = true := by
  have h1 := h.1
  have h2 := h.2
  show (decide (-128 ≤ x) && decide (x ≤ 127)) = true
  have e1 : (-128 : Int32).toInt = -128 := by decide
  have e2 : (127 : Int32).toInt = 127 := by decide
  rw [Bool.and_eq_true, decide_eq_true_eq, decide_eq_true_eq, kk_le, kk_le, e1, e2]
  exact ⟨h1, h2⟩
theorem kr_min {a b c d a' b' : Int} {v x y : Int32} (h : v = if y < x then y else x) (hx : kr a b x) (hy : kr c d y) (hs : (decide (a' ≤ a) && decide (a' ≤ c) && decide (b ≤ b' ∨ d ≤ b')) = true) : kr a' b' v := by
  subst h
  simp only [Bool.and_eq_true, decide_eq_true_eq] at hs
  have h1 := hx.1
  have h2 := hx.2
  have h3 := hy.1
  have h4 := hy.2
  split
  · rename_i q
    have q2 := ki_lt q
    exact ⟨by omega, by omega⟩
  · rename_i q
    have q2 := ki_nlt q
    exact ⟨by omega, by omega⟩
theorem ka_w {a b c d : Int} {f : Nat → Int32} (h : ka a b f) (hs : (decide (c ≤ a) && decide (b ≤ d)) = true) : ka c d f := fun i => kr_w (h i) hs
theorem ka_upd {a b : Int} {f : Nat → Int32} {k : Nat} {x : Int32} (h : ka a b f) (hx : kr a b x) : ka a b (upd f k x) := by
  intro i
  show kr a b (if i = k then x else f i)
  split
  · exact hx
  · exact h i
theorem ka_cpy {a b : Int} {f g : Nat → Int32} {sp dp n : Nat} (hf : ka a b f) (hg : ka a b g) : ka a b (va_cpy f g sp dp n) := by
  intro i
  show kr a b (if dp ≤ i ∧ i < dp + n then f (sp + (i - dp)) else g i)
  split
  · exact hf _
  · exact hg i
theorem ka_zero {a b : Int} (hs : (decide (a ≤ 0) && decide (0 ≤ b)) = true) : ka a b (fun _ => 0) := fun _ => kr_w (kr_c 0 0 rfl) hs
theorem km_up {x x' : Int32} {hi k c up : Int} {n : Nat} (h : (hi - x.toInt).toNat < n + 1) (t : x'.toInt = x.toInt + k) (b : kr c up x') (hs : (decide (0 < k) && decide (up ≤ hi)) = true) : (hi - x'.toInt).toNat < n := by
  simp only [Bool.and_eq_true, decide_eq_true_eq] at hs
  have h2 := b.2
  omega
theorem km_down {x x' : Int32} {lo k c dn : Int} {n : Nat} (h : (x.toInt - lo).toNat < n + 1) (t : x'.toInt = x.toInt + k) (b : kr dn c x') (hs : (decide (k < 0) && decide (lo ≤ dn)) = true) : (x'.toInt - lo).toNat < n := by
  simp only [Bool.and_eq_true, decide_eq_true_eq] at hs
  have h2 := b.1
  omega
theorem kr_nei {x k : Int32} {a : Int} (q : ¬ x = k) (hk : (k.toInt == a) = true) : ¬ a = x.toInt := by
  intro e
  exact q (Int32.toInt_inj.mp (e.symm.trans (eq_of_beq hk).symm))
theorem kl_d2 {a1 o1 a2 o2 d x : Int} (h1 : ¬ a1 = x) (h2 : ¬ a2 = x) : Op.lookupswitch.offset [(a1, o1), (a2, o2)] d x = d := by
  rw [Op.lookupswitch.offset_cons, if_neg h1, Op.lookupswitch.offset_cons, if_neg h2, Op.lookupswitch.offset_nil]
theorem kl_d3 {a1 o1 a2 o2 a3 o3 d x : Int} (h1 : ¬ a1 = x) (h2 : ¬ a2 = x) (h3 : ¬ a3 = x) : Op.lookupswitch.offset [(a1, o1), (a2, o2), (a3, o3)] d x = d := by
  rw [Op.lookupswitch.offset_cons, if_neg h1, kl_d2 h2 h3]
