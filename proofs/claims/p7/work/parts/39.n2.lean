-- wb_.., pf_..: out of kit/laws/BITS.to-paste
theorem wb_tb (n : Nat) : (lN n).toBitVec = BitVec.ofNat 64 n := rfl
theorem wb_inj {a b : Int64} (h : a.toBitVec = b.toBitVec) : a = b := Int64.toBitVec_inj.mp h
theorem wb_c : ∀ k, k < 64 → ((nI k).toInt64 &&& 63) = lN k := by decide +kernel
theorem wb_sm : ∀ k, k < 64 → (BitVec.ofNat 64 k).smod 64 = BitVec.ofNat 64 k := by decide +kernel
theorem wb_shl (n : Nat) {k : Nat} (hk : k < 64) : lN n <<< ((nI k).toInt64 &&& 63) = lN (n * 2 ^ k) := by
  rw [wb_c k hk]
  apply wb_inj
  rw [Int64.toBitVec_shiftLeft, wb_tb, wb_tb, wb_tb, wb_sm k hk]
  apply BitVec.eq_of_toNat_eq
  rw [BitVec.shiftLeft_eq', BitVec.toNat_shiftLeft, BitVec.toNat_ofNat, BitVec.toNat_ofNat, BitVec.toNat_ofNat, Nat.mod_eq_of_lt (show k < 2 ^ 64 by omega), Nat.shiftLeft_eq, Nat.mul_mod, Nat.mod_mod, ← Nat.mul_mod]
theorem wb_and {a b : Nat} (ha : a < 2 ^ 64) (hb : b < 2 ^ 64) : lN a &&& lN b = lN (a &&& b) := by
  apply wb_inj
  rw [Int64.toBitVec_and, wb_tb, wb_tb, wb_tb]
  apply BitVec.eq_of_toNat_eq
  rw [BitVec.toNat_and, BitVec.toNat_ofNat, BitVec.toNat_ofNat, BitVec.toNat_ofNat, Nat.mod_eq_of_lt ha, Nat.mod_eq_of_lt hb, Nat.mod_eq_of_lt (Nat.and_lt_two_pow _ hb)]
theorem pf_lI {a : Nat} (h : a < 2 ^ 63) : (lN a).toInt = (a : Int) := lg_ofNat_toInt h
theorem pf_shr {a d : Nat} {D : Int64} (hD : (D.toBitVec.smod 64).toNat = d) (h : a < 2 ^ 62) : lN a >>> D = lN (a / 2 ^ d) := by
  have hd : a / 2 ^ d ≤ a := Nat.div_le_self _ _
  apply Int64.toInt_inj.mp
  have e : (lN a >>> D).toInt = (lN a).toInt >>> d := by
    rw [← hD]
    exact BitVec.toInt_sshiftRight ..
  rw [e, Int.shiftRight_eq_div_pow, pf_lI (by omega), pf_lI (by omega)]
  rfl
theorem l_shr {N k : Nat} (hN : N < 2 ^ 62) (hk : k < 64) : lN N >>> ((nI k).toInt64 &&& 63) = lN (N / 2 ^ k) := by
  rw [wb_c k hk]
  exact pf_shr (by rw [wb_tb, wb_sm k hk, BitVec.toNat_ofNat, Nat.mod_eq_of_lt (by omega)]) hN
theorem lc_cases (a b : Nat) (ha : a < 2 ^ 63) (hb : b < 2 ^ 63) : (a < b ∧ lg_cmp (lN a) (lN b) = -1) ∨ (a = b ∧ lg_cmp (lN a) (lN b) = 0) ∨ (b < a ∧ lg_cmp (lN a) (lN b) = 1) := by
  rcases Nat.lt_trichotomy a b with h | h | h
  · left
    refine ⟨h, ?_⟩
    have h1 : ¬ lN b < lN a := fun q => absurd ((pk_lLT hb ha).mp q) (by omega)
    have h2 : ¬ lN a = lN b := fun q => absurd ((pk_lEQ ha hb).mp q) (by omega)
    simp [lg_cmp, h1, h2]
  · right; left
    refine ⟨h, ?_⟩
    subst h
    have h1 : ¬ lN a < lN a := fun q => absurd ((pk_lLT ha ha).mp q) (by omega)
    simp [lg_cmp, h1]
  · right; right
    refine ⟨h, ?_⟩
    have h1 : lN b < lN a := (pk_lLT hb ha).mpr h
    simp [lg_cmp, h1]
def pF (N : Nat) (e : Int) : Int32 := (FP.Core.of32 (FP.Core.roundRatio FP.Core.b32 false N 1 e)).toInt32
theorem fin_join {c : Nat} {q : Int} (h1 : 2 ^ 23 ≤ c) (h2 : c < 2 ^ 24) (h3 : -149 ≤ q) (h4 : q ≤ 104) : (FP.Core.of32 (.fin false c q)).toInt32 = (nI (q + 150).toNat <<< ((23 : Int32) &&& 31)) ||| nI (c - 2 ^ 23) := by
  have hf : FP.Core.fits FP.Core.b32 (.fin false c q) := by
    refine ⟨?_, ?_, ?_, Or.inr ?_⟩
    · rw [q_b32.2.2.2]; exact h2
    · rw [q_b32.1]; exact h3
    · rw [q_b32.2.1]; exact h4
    · rw [q_b32.2.2.1]; exact h1
  rw [bits_join _ _ (by omega) (by omega), ← x_bits (FP.Core.val32_of32 hf) h1 h3]
