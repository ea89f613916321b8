theorem cmp_lt {a b : Int} : compare a b = .lt ↔ a < b := by
  show compareOfLessAndEq a b = .lt ↔ a < b
  unfold compareOfLessAndEq
  by_cases h : a < b
  · simp [h]
  · by_cases h2 : a = b
    · simp [h2]
    · simp [h, h2]
theorem q_b64 : FP.Core.b64.qmin = -1074 ∧ FP.Core.b64.qmax = 971 ∧ FP.Core.b64.tails = 2 ^ 52 ∧ FP.Core.b64.p = 53 := by decide
theorem q_b32 : FP.Core.b32.qmin = -149 ∧ FP.Core.b32.qmax = 104 ∧ FP.Core.b32.tails = 2 ^ 23 ∧ FP.Core.b32.p = 24 := by decide
theorem ok64 {C : Nat} {Q : Int} (h1 : 2 ^ 52 ≤ C) (h2 : C < 2 ^ 53) (h3 : -1074 ≤ Q) (h4 : Q ≤ 971) : FP.Core.fits FP.Core.b64 (.fin false C Q) := by
  refine ⟨?_, ?_, ?_, Or.inr ?_⟩
  · rw [q_b64.2.2.2]; exact h2
  · rw [q_b64.1]; exact h3
  · rw [q_b64.2.1]; exact h4
  · rw [q_b64.2.2.1]; exact h1
def dd (C : Nat) (Q : Int) : UInt64 := FP.Core.of64 (.fin false C Q)
theorem vdd {C : Nat} {Q : Int} (h1 : 2 ^ 52 ≤ C) (h2 : C < 2 ^ 53) (h3 : -1074 ≤ Q) (h4 : Q ≤ 971) : FP.Core.val64 (dd C Q) = .fin false C Q := FP.Core.val64_of64 (ok64 h1 h2 h3 h4)
theorem v_two : FP.Core.val64 4611686018427387904 = .fin false (2 ^ 52) (-51) := by decide +kernel
theorem v_one : FP.Core.val64 FP.dconst1 = .fin false (2 ^ 52) (-52) := by decide +kernel
theorem v_23 : FP.Core.val64 4710765210229538816 = .fin false (2 ^ 52) (-29) := by decide +kernel
theorem dd_div {C : Nat} {Q : Int} (h1 : 2 ^ 52 ≤ C) (h2 : C < 2 ^ 53) (h3 : -1073 ≤ Q) (h4 : Q ≤ 971) : FP.ddiv (dd C Q) 4611686018427387904 = dd C (Q - 1) := by
  have e : FP.Core.val64 (FP.Core.ddiv (dd C Q) 4611686018427387904) = .fin false C (Q - 1) := by
    rw [FP.Core.val64_ddiv, vdd h1 h2 (by omega) h4, v_two]
    show (if (2 ^ 52 : Nat) = 0 then (if C = 0 then FP.Core.Datum.nan else .inf (false != false)) else FP.Core.roundRatio FP.Core.b64 (false != false) C (2 ^ 52) (Q - -51)) = _
    rw [if_neg (by decide)]
    refine FP.Core.roundRatio_exact FP.Core.good_b64 (by decide) (ok64 h1 h2 (by omega) (by omega)) ?_
    rw [show (Q - -51 - (Q - 1)).toNat = 52 by omega, show (Q - 1 - (Q - -51)).toNat = 0 by omega, Nat.pow_zero, Nat.mul_one]
  refine FP.Core.val64_inj (by rw [e]; intro h; cases h) ?_
  rw [e, vdd h1 h2 (by omega) (by omega)]
theorem dd_mul {C : Nat} {Q : Int} (h1 : 2 ^ 52 ≤ C) (h2 : C < 2 ^ 53) (h3 : -1074 ≤ Q) (h4 : Q ≤ 970) : FP.dmul (dd C Q) 4611686018427387904 = dd C (Q + 1) := by
  have e : FP.Core.val64 (FP.Core.dmul (dd C Q) 4611686018427387904) = .fin false C (Q + 1) := by
    rw [FP.Core.val64_dmul, vdd h1 h2 h3 (by omega), v_two]
    show FP.Core.roundRatio FP.Core.b64 (false != false) (C * 2 ^ 52) 1 (Q + -51) = _
    refine FP.Core.roundRatio_exact FP.Core.good_b64 (by decide) (ok64 h1 h2 (by omega) (by omega)) ?_
    rw [show (Q + -51 - (Q + 1)).toNat = 0 by omega, show (Q + 1 - (Q + -51)).toNat = 52 by omega, Nat.pow_zero, Nat.mul_one, Nat.mul_one]
  refine FP.Core.val64_inj (by rw [e]; intro h; cases h) ?_
  rw [e, vdd h1 h2 (by omega) (by omega)]
/-- the order of a double and a power of two -/
theorem dd_cmp {C : Nat} {Q : Int} {z : UInt64} {r : Int} (h1 : 2 ^ 52 ≤ C) (h2 : C < 2 ^ 53) (h3 : -1074 ≤ Q) (h4 : Q ≤ 971) (hz : FP.Core.val64 z = .fin false (2 ^ 52) r) : (r ≤ Q → ¬ FP.dcmp (dd C Q) z = some .lt ∧ ¬ FP.dcmp (dd C Q) z = none) ∧ (Q < r → FP.dcmp (dd C Q) z = some .lt) := by
  have e : FP.dcmp (dd C Q) z = some (compare (FP.Core.signed false (FP.Core.inUnits C Q (min Q r))) (FP.Core.signed false (FP.Core.inUnits (2 ^ 52) r (min Q r)))) := by
    show FP.Core.order (FP.Core.val64 (dd C Q)) (FP.Core.val64 z) = _
    rw [vdd h1 h2 h3 h4, hz]
    rfl
  rw [e]
  simp only [FP.Core.signed, FP.Core.inUnits, Bool.false_eq_true, if_false]
  constructor
  · intro h
    refine ⟨?_, fun h => by cases h⟩
    rw [show min Q r = r by omega, show (r - r).toNat = 0 by omega, Nat.pow_zero, Nat.mul_one]
    have h5 : 1 ≤ 2 ^ (Q - r).toNat := Nat.one_le_two_pow
    have h6 : 2 ^ 52 ≤ C * 2 ^ (Q - r).toNat := Nat.le_trans h1 (Nat.le_mul_of_pos_right _ h5)
    intro h7
    have h8 := Option.some.inj h7
    rw [cmp_lt] at h8
    omega
  · intro h
    rw [show min Q r = Q by omega, show (Q - Q).toNat = 0 by omega, Nat.pow_zero, Nat.mul_one]
    have h5 : 2 ^ (r - Q).toNat = 2 * 2 ^ ((r - Q).toNat - 1) := by
      rw [← Nat.pow_succ']
      congr 1
      omega
    have h6 : 1 ≤ 2 ^ ((r - Q).toNat - 1) := Nat.one_le_two_pow
    have h7 : C < 2 ^ 52 * 2 ^ (r - Q).toNat := by
      rw [h5]
      have : 2 ^ 52 * (2 * 1) ≤ 2 ^ 52 * (2 * 2 ^ ((r - Q).toNat - 1)) := Nat.mul_le_mul_left _ (Nat.mul_le_mul_left _ h6)
      omega
    congr 1
    rw [cmp_lt]
    exact_mod_cast h7
theorem nn64 {r : UInt64} (h : ¬ FP.Core.val64 r = .nan) : vf_n64 r := by
  show r &&& 0x7fffffffffffffff ≤ 0x7ff0000000000000
  rw [UInt64.le_iff_toNat_le, UInt64.toNat_and]
  rw [show (0x7fffffffffffffff : UInt64).toNat = 2 ^ 63 - 1 by decide, Nat.and_two_pow_sub_one_eq_mod, show (0x7ff0000000000000 : UInt64).toNat = 9218868437227405312 by decide]
  refine Nat.le_of_not_lt fun h2 => h ?_
  have hE : FP.Core.fieldE FP.Core.b64 r.toNat = FP.Core.b64.exps - 1 := by
    show r.toNat / 2 ^ 52 % 2 ^ 11 = 2 ^ 11 - 1
    omega
  have hT : ¬ FP.Core.fieldT FP.Core.b64 r.toNat = 0 := by
    show ¬ r.toNat % 2 ^ 52 = 0
    omega
  unfold FP.Core.val64 FP.Core.decode
  rw [if_pos hE, if_neg hT]
theorem dd_nn {C : Nat} {Q : Int} (h1 : 2 ^ 52 ≤ C) (h2 : C < 2 ^ 53) (h3 : -1074 ≤ Q) (h4 : Q ≤ 971) : vf_n64 (dd C Q) := nn64 (by rw [vdd h1 h2 h3 h4]; intro h; cases h)
theorem f2d_dd {x : UInt32} {c : Nat} {q : Int} (hx : FP.Core.val32 x = .fin false c q) (h1 : 2 ^ 23 ≤ c) (h2 : c < 2 ^ 24) (h3 : -149 ≤ q) (h4 : q ≤ 104) : FP.f2d x = dd (c * 2 ^ 29) (q - 29) := by
  have hn : FP.Core.fIsNaN x = false := by
    show decide (FP.Core.val32 x = .nan) = false
    rw [hx]
    rfl
  have e0 : FP.f2d x = FP.Core.f2d x := by
    show (if FP.Core.fIsNaN x = true then FP.nanF2D x else FP.Core.f2d x) = _
    rw [hn]
    rfl
  have e : FP.Core.val64 (FP.Core.f2d x) = .fin false (c * 2 ^ 29) (q - 29) := by
    rw [FP.Core.val64_f2d, hx]
    show FP.Core.roundRatio FP.Core.b64 false c 1 q = _
    refine FP.Core.roundRatio_exact FP.Core.good_b64 (by decide) (ok64 (by omega) (by omega) (by omega) (by omega)) ?_
    rw [show (q - (q - 29)).toNat = 29 by omega, show (q - 29 - q).toNat = 0 by omega, Nat.pow_zero, Nat.mul_one, Nat.mul_one]
  rw [e0]
  refine FP.Core.val64_inj (by rw [e]; intro h; cases h) ?_
  rw [e, vdd (by omega) (by omega) (by omega) (by omega)]
theorem cv_ge2 {C : Nat} {Q : Int} (h1 : 2 ^ 52 ≤ C) (h2 : C < 2 ^ 53) (h3 : -1074 ≤ Q) (h4 : Q ≤ 971) (h : -51 ≤ Q) : ¬ Op.cmpValue (FP.dcmp (dd C Q) 4611686018427387904) CmpOp.l < 0 := by
  obtain ⟨a, b⟩ := (dd_cmp h1 h2 h3 h4 v_two).1 h
  cases hc : FP.dcmp (dd C Q) 4611686018427387904 with
  | none => exact absurd hc b
  | some o => cases o with
    | lt => exact absurd hc a
    | eq => decide
    | gt => decide
theorem cv_lt2 {C : Nat} {Q : Int} (h1 : 2 ^ 52 ≤ C) (h2 : C < 2 ^ 53) (h3 : -1074 ≤ Q) (h4 : Q ≤ 971) (h : Q < -51) : Op.cmpValue (FP.dcmp (dd C Q) 4611686018427387904) CmpOp.l < 0 := by
  rw [(dd_cmp h1 h2 h3 h4 v_two).2 h]
  decide
theorem cv_ge1 {C : Nat} {Q : Int} (h1 : 2 ^ 52 ≤ C) (h2 : C < 2 ^ 53) (h3 : -1074 ≤ Q) (h4 : Q ≤ 971) (h : -52 ≤ Q) : Op.cmpValue (FP.dcmp (dd C Q) FP.dconst1) CmpOp.g ≥ 0 := by
  obtain ⟨a, b⟩ := (dd_cmp h1 h2 h3 h4 v_one).1 h
  cases hc : FP.dcmp (dd C Q) FP.dconst1 with
  | none => exact absurd hc b
  | some o => cases o with
    | lt => exact absurd hc a
    | eq => decide
    | gt => decide
theorem cv_lt1 {C : Nat} {Q : Int} (h1 : 2 ^ 52 ≤ C) (h2 : C < 2 ^ 53) (h3 : -1074 ≤ Q) (h4 : Q ≤ 971) (h : Q < -52) : ¬ Op.cmpValue (FP.dcmp (dd C Q) FP.dconst1) CmpOp.g ≥ 0 := by
  rw [(dd_cmp h1 h2 h3 h4 v_one).2 h]
  decide
theorem cv_pos {x : UInt32} {c : Nat} {q : Int} (hx : FP.Core.val32 x = .fin false c q) (h1 : 1 ≤ c) (h3 : -149 ≤ q) : Op.cmpValue (FP.fcmp x FP.fconst0) CmpOp.l > 0 := by
  have e : FP.fcmp x FP.fconst0 = some .gt := by
    show FP.Core.order (FP.Core.val32 x) (FP.Core.val32 FP.fconst0) = _
    rw [hx, show FP.Core.val32 FP.fconst0 = .fin false 0 (-149) by decide +kernel]
    show some (compare (FP.Core.signed false (FP.Core.inUnits c q (min q (-149)))) (FP.Core.signed false (FP.Core.inUnits 0 (-149) (min q (-149))))) = _
    simp only [FP.Core.signed, FP.Core.inUnits, Bool.false_eq_true, if_false, Nat.zero_mul]
    have h5 : 1 ≤ c * 2 ^ (q - min q (-149)).toNat := Nat.mul_pos h1 (Nat.two_pow_pos _)
    generalize c * 2 ^ (q - min q (-149)).toNat = z at h5
    congr 1
    show compareOfLessAndEq (z : Int) (0 : Nat) = .gt
    unfold compareOfLessAndEq
    rw [if_neg (by omega), if_neg (by omega)]
  rw [e]
  decide
/-- the last step: the fraction's bits as a whole number -/
theorem ok64n {t : Nat} (h0 : 0 < t) (h : t < 2 ^ 53) {Q : Int} (h3 : -1000 ≤ Q) (h4 : Q ≤ 971) : FP.Core.fits FP.Core.b64 (.fin false (t * 2 ^ (52 - t.log2)) Q) := by
  have a1 : 2 ^ t.log2 ≤ t := Nat.log2_self_le (by omega)
  have a2 : t < 2 ^ (t.log2 + 1) := Nat.lt_log2_self
  have a3 : t.log2 ≤ 52 := by
    refine Nat.le_of_not_lt fun h5 => ?_
    have : 2 ^ 53 ≤ 2 ^ t.log2 := Nat.pow_le_pow_right (by decide) h5
    omega
  refine ok64 ?_ ?_ (by omega) h4
  · calc 2 ^ 52 = 2 ^ t.log2 * 2 ^ (52 - t.log2) := by rw [← Nat.pow_add]; congr 1; omega
      _ ≤ t * 2 ^ (52 - t.log2) := Nat.mul_le_mul_right _ a1
  · calc t * 2 ^ (52 - t.log2) < 2 ^ (t.log2 + 1) * 2 ^ (52 - t.log2) := Nat.mul_lt_mul_of_pos_right a2 (Nat.two_pow_pos _)
      _ = 2 ^ 53 := by rw [← Nat.pow_add]; congr 1; omega
theorem lg52 {t : Nat} (h0 : 0 < t) (h : t < 2 ^ 53) : t.log2 ≤ 52 := by
  have a1 : 2 ^ t.log2 ≤ t := Nat.log2_self_le (by omega)
  refine Nat.le_of_not_lt fun h5 => ?_
  have : 2 ^ 53 ≤ 2 ^ t.log2 := Nat.pow_le_pow_right (by decide) h5
  omega
theorem dd_sub1 {t : Nat} (ht : t < 2 ^ 23) : FP.Core.val64 (FP.dsub (dd ((2 ^ 23 + t) * 2 ^ 29) (-52)) FP.dconst1) = (if t = 0 then .fin false 0 (-1074) else .fin false (t * 2 ^ (52 - t.log2)) (-23 - (52 - t.log2 : Nat))) := by
  rw [FP.Core.val64_dsub, vdd (by omega) (by omega) (by decide) (by decide), v_one]
  have e : FP.Core.exactSum (.fin false ((2 ^ 23 + t) * 2 ^ 29) (-52)) (FP.Core.negate (.fin false (2 ^ 52) (-52))) = .fin false (t * 2 ^ 29) (-52) := by
    have e1 : FP.Core.sumUnits false ((2 ^ 23 + t) * 2 ^ 29) (-52) true (2 ^ 52) (-52) (-52) = ((t * 2 ^ 29 : Nat) : Int) := by
      show (((2 ^ 23 + t) * 2 ^ 29 * 2 ^ 0 : Nat) : Int) + -((2 ^ 52 * 2 ^ 0 : Nat) : Int) = _
      omega
    show FP.Core.Datum.fin (FP.Core.sumSign false true (FP.Core.sumUnits false ((2 ^ 23 + t) * 2 ^ 29) (-52) true (2 ^ 52) (-52) (-52))) (FP.Core.sumUnits false ((2 ^ 23 + t) * 2 ^ 29) (-52) true (2 ^ 52) (-52) (-52)).natAbs (-52) = _
    rw [e1]
    have e2 : FP.Core.sumSign false true ((t * 2 ^ 29 : Nat) : Int) = false := by
      unfold FP.Core.sumSign
      split
      · rfl
      · exact decide_eq_false (by omega)
    rw [e2]
    rfl
  rw [e]
  show FP.Core.roundRatio FP.Core.b64 false (t * 2 ^ 29) 1 (-52) = _
  by_cases h0 : t = 0
  · subst h0
    rfl
  · rw [if_neg h0]
    have hl := lg52 (t := t) (by omega) (by omega)
    refine FP.Core.roundRatio_exact FP.Core.good_b64 (by decide) (ok64n (by omega) (by omega) (by omega) (by omega)) ?_
    have h29 : t.log2 < 23 := (Nat.log2_lt (by omega)).mpr ht
    rw [show (-52 - (-23 - ((52 - t.log2 : Nat) : Int))).toNat = 23 - t.log2 by omega, show (-23 - ((52 - t.log2 : Nat) : Int) - -52).toNat = 0 by omega, Nat.pow_zero, Nat.mul_one, Nat.mul_one, Nat.mul_assoc, ← Nat.pow_add]
    congr 2
    omega
theorem dd_sub1_nn {t : Nat} (ht : t < 2 ^ 23) : vf_n64 (FP.dsub (dd ((2 ^ 23 + t) * 2 ^ 29) (-52)) FP.dconst1) := nn64 (by
  rw [dd_sub1 ht]
  split <;> intro h <;> cases h)
theorem dd_frac {t : Nat} (ht : t < 2 ^ 23) {z : UInt64} (hz : FP.Core.val64 z = (if t = 0 then .fin false 0 (-1074) else .fin false (t * 2 ^ (52 - t.log2)) (-23 - (52 - t.log2 : Nat)))) : FP.Core.val64 (FP.dmul z 4710765210229538816) = (if t = 0 then .fin false 0 (-1074) else .fin false (t * 2 ^ (52 - t.log2)) (-(52 - t.log2 : Nat))) := by
  rw [FP.Core.val64_dmul, hz, v_23]
  by_cases h0 : t = 0
  · subst h0
    rfl
  · rw [if_neg h0, if_neg h0]
    have hl := lg52 (t := t) (by omega) (by omega)
    show FP.Core.roundRatio FP.Core.b64 (false != false) (t * 2 ^ (52 - t.log2) * 2 ^ 52) 1 (-23 - ((52 - t.log2 : Nat) : Int) + -29) = _
    refine FP.Core.roundRatio_exact FP.Core.good_b64 (by decide) (ok64n (by omega) (by omega) (by omega) (by omega)) ?_
    rw [show (-23 - ((52 - t.log2 : Nat) : Int) + -29 - -((52 - t.log2 : Nat) : Int)).toNat = 0 by omega, show (-((52 - t.log2 : Nat) : Int) - (-23 - ((52 - t.log2 : Nat) : Int) + -29)).toNat = 52 by omega, Nat.pow_zero, Nat.mul_one, Nat.mul_one]
theorem dd_frac_nn {t : Nat} {z : UInt64} (hz : FP.Core.val64 z = (if t = 0 then .fin false 0 (-1074) else .fin false (t * 2 ^ (52 - t.log2)) (-(52 - t.log2 : Nat)))) : vf_n64 z := nn64 (by
  rw [hz]
  split <;> intro h <;> cases h)
theorem dd_int {t : Nat} (ht : t < 2 ^ 23) {z : UInt64} (hz : FP.Core.val64 z = (if t = 0 then .fin false 0 (-1074) else .fin false (t * 2 ^ (52 - t.log2)) (-(52 - t.log2 : Nat)))) : FP.d2i z = nI t := by
  show FP.Core.toI (FP.Core.val64 z) = nI t
  rw [hz]
  by_cases h0 : t = 0
  · subst h0
    decide +kernel
  · rw [if_neg h0]
    have e : FP.Core.truncate false (t * 2 ^ (52 - t.log2)) (-((52 - t.log2 : Nat) : Int)) = (t : Int) := by
      show ((t * 2 ^ (52 - t.log2) * 2 ^ (-((52 - t.log2 : Nat) : Int)).toNat / 2 ^ (- -((52 - t.log2 : Nat) : Int)).toNat : Nat) : Int) = _
      rw [show (-((52 - t.log2 : Nat) : Int)).toNat = 0 by omega, show (- -((52 - t.log2 : Nat) : Int)).toNat = 52 - t.log2 by omega, Nat.pow_zero, Nat.mul_one, Nat.mul_div_cancel _ (Nat.two_pow_pos _)]
    show Int32.ofInt (max (-2 ^ 31) (min (2 ^ 31 - 1) (FP.Core.truncate false (t * 2 ^ (52 - t.log2)) (-((52 - t.log2 : Nat) : Int))))) = nI t
    rw [e, show max (-2 ^ 31 : Int) (min (2 ^ 31 - 1) (t : Int)) = (t : Int) by omega]
    rfl
theorem bits_join (n t : Nat) (hn : n < 256) (ht : t < 2 ^ 23) : (nI n <<< ((23 : Int32) &&& 31)) ||| nI t = (UInt32.ofNat (n * 2 ^ 23 + t)).toInt32 := by
  have e : nI n <<< ((23 : Int32) &&& 31) = nI (n * 2 ^ 23) := pk_shlN _ 23 (by decide) (by omega)
  rw [e]
  have hor : n * 2 ^ 23 ||| t = n * 2 ^ 23 + t := by
    rw [← Nat.shiftLeft_eq]
    exact (Nat.shiftLeft_add_eq_or_of_lt ht n).symm
  generalize hm : n * 2 ^ 23 = a at hor
  have h1 : a < 2 ^ 32 := by omega
  have h2 : t < 2 ^ 32 := by omega
  have h3 : a + t < 2 ^ 32 := by omega
  clear hm e
  apply Int32.toBitVec.inj
  apply BitVec.eq_of_toNat_eq
  unfold nI
  rw [UInt32.toBitVec_toInt32, Int32.toBitVec_or, Int32.toBitVec_ofNat', Int32.toBitVec_ofNat', UInt32.toBitVec_ofNat', BitVec.toNat_or, BitVec.toNat_ofNat, BitVec.toNat_ofNat, BitVec.toNat_ofNat, Nat.mod_eq_of_lt h1, Nat.mod_eq_of_lt h2, Nat.mod_eq_of_lt h3]
  exact hor
theorem x_bits {x : UInt32} {c : Nat} {q : Int} (hx : FP.Core.val32 x = .fin false c q) (h1 : 2 ^ 23 ≤ c) (h3 : -149 ≤ q) : x = UInt32.ofNat ((q + 150).toNat * 2 ^ 23 + (c - 2 ^ 23)) := by
  have h := FP.Core.of32_val32 (a := x) (by rw [hx]; intro h; cases h)
  rw [hx] at h
  rw [← h]
  show UInt32.ofNat (if c < 2 ^ 23 then FP.Core.assemble FP.Core.b32 false 0 c else FP.Core.assemble FP.Core.b32 false ((q - FP.Core.b32.qmin).toNat + 1) (c - 2 ^ 23)) = _
  rw [if_neg (by omega), q_b32.1]
  show UInt32.ofNat ((0 * 2 ^ 8 + ((q - -149).toNat + 1)) * 2 ^ 23 + (c - 2 ^ 23)) = _
  have : (q - -149).toNat + 1 = (q + 150).toNat := by omega
  rw [Nat.zero_mul, Nat.zero_add, this]
theorem oi_toInt {z : Int} (h1 : -2147483648 ≤ z) (h2 : z ≤ 2147483647) : (Int32.ofInt z).toInt = z := Int32.toInt_ofInt_of_le (by simpa using h1) (by omega)
theorem oi_nI {z : Int} {n : Nat} (h : z = n) : Int32.ofInt z = nI n := by
  subst h
  rfl
theorem oi_add (a b : Int) : Int32.ofInt a + Int32.ofInt b = Int32.ofInt (a + b) := (Int32.ofInt_add a b).symm
