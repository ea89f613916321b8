/-! ===== the reference's banks: what holds of the ints of one (base B), and which of them may have changed ===== -/
def kB (b : Int32) : Nat := 320 * b.toNatClampNeg
def kw1 (x : Int32) : Int := if x = 2 then 1 else 0
/-- how many hands wait -/
def kW (f : Nat → Int32) (B : Nat) : Int := kw1 (f (B + 170)) + kw1 (f (B + 171)) + kw1 (f (B + 172)) + kw1 (f (B + 173)) + kw1 (f (B + 174))
def kM (f : Nat → Int32) (B : Nat) : Int := if (f B).toInt < -2 then 1 else 0
def kG (K N M : Int) (f : Nat → Int32) (B : Nat) : Prop :=
  (f B).toInt ≤ 24 ∧ 600 * kW f B - (f B).toInt ≤ M ∧ (f (B + 227)).toInt + kW f B + kM f B ≤ N ∧ 0 ≤ (f (B + 227)).toInt ∧ kr 0 24 (f (B + 226)) ∧ (∀ i, 1 ≤ i → i ≤ 24 → kr 0 K (f (B + i))) ∧ (∀ i, 195 ≤ i → i ≤ 199 → kr 0 K (f (B + i))) ∧ (∀ i, 180 ≤ i → i ≤ 184 → 0 ≤ (f (B + i)).toInt) ∧ (∀ i, 25 ≤ i → i ≤ 48 → kr 0 9999 (f (B + i))) ∧ ∀ i, 205 ≤ i → i ≤ 209 → kr 0 9999 (f (B + i))
theorem kw1_nn (x : Int32) : 0 ≤ kw1 x ∧ kw1 x ≤ 1 := by
  unfold kw1
  split <;> omega
theorem kW_nn (f : Nat → Int32) (B : Nat) : 0 ≤ kW f B ∧ kW f B ≤ 5 := by
  have h0 := kw1_nn (f (B + 170))
  have h1 := kw1_nn (f (B + 171))
  have h2 := kw1_nn (f (B + 172))
  have h3 := kw1_nn (f (B + 173))
  have h4 := kw1_nn (f (B + 174))
  unfold kW
  omega
theorem kM_nn (f : Nat → Int32) (B : Nat) : 0 ≤ kM f B ∧ kM f B ≤ 1 := by
  unfold kM
  split <;> omega
theorem kM_eq {f g : Nat → Int32} {B : Nat} (h : g B = f B) : kM g B = kM f B := by
  unfold kM
  rw [h]
theorem kG_w {K N M K' N' M' : Int} {f : Nat → Int32} {B : Nat} (h : kG K N M f B) (h1 : K ≤ K') (h2 : N ≤ N') (h3 : M ≤ M') : kG K' N' M' f B := by
  obtain ⟨g0, g1, g2, g3, g4, g5, g6, g7, g8, g9⟩ := h
  exact ⟨g0, by omega, by omega, g3, g4, fun i a b => ⟨(g5 i a b).1, Int.le_trans (g5 i a b).2 h1⟩, fun i a b => ⟨(g6 i a b).1, Int.le_trans (g6 i a b).2 h1⟩, g7, g8, g9⟩
theorem kB_ix {b k i v : Int32} (t1 : v.toInt = 320 * b.toInt) (t2 : i.toInt = v.toInt + k.toInt) (hb : kr 0 1 b) (hk : kr 0 319 k) : i.toNatClampNeg = kB b + k.toNatClampNeg := by
  have e1 : i.toNatClampNeg = i.toInt.toNat := rfl
  have e2 : k.toNatClampNeg = k.toInt.toNat := rfl
  have e3 : b.toNatClampNeg = b.toInt.toNat := rfl
  have a1 := hb.1
  have a2 := hk.1
  unfold kB
  omega
theorem ku_o {f : Nat → Int32} {B k j : Nat} {v : Int32} (h : ¬ j = k) : upd f (B + k) v (B + j) = f (B + j) := pk_un (by omega)
theorem ku_0 {f : Nat → Int32} {B k : Nat} {v : Int32} (h : ¬ 0 = k) : upd f (B + k) v B = f B := pk_un (by omega)
theorem ku_s {f : Nat → Int32} {B k : Nat} {v : Int32} : upd f (B + k) v (B + k) = v := pk_us
theorem kW_o {f : Nat → Int32} {B k : Nat} {v : Int32} (h : ¬ (170 ≤ k ∧ k ≤ 174)) : kW (upd f (B + k) v) B = kW f B := by
  unfold kW
  rw [ku_o (by omega), ku_o (by omega), ku_o (by omega), ku_o (by omega), ku_o (by omega)]
theorem kM_o {f : Nat → Int32} {B k : Nat} {v : Int32} (h : ¬ 0 = k) : kM (upd f (B + k) v) B = kM f B := kM_eq (ku_0 h)
theorem kW_u {f : Nat → Int32} {B k : Nat} {v : Int32} (h1 : 170 ≤ k) (h2 : k ≤ 174) : kW (upd f (B + k) v) B = kW f B - kw1 (f (B + k)) + kw1 v := by
  unfold kW
  rcases (show k = 170 ∨ k = 171 ∨ k = 172 ∨ k = 173 ∨ k = 174 by omega) with rfl | rfl | rfl | rfl | rfl
  · rw [ku_s, ku_o (by omega), ku_o (by omega), ku_o (by omega), ku_o (by omega)]; omega
  · rw [ku_o (by omega), ku_s, ku_o (by omega), ku_o (by omega), ku_o (by omega)]; omega
  · rw [ku_o (by omega), ku_o (by omega), ku_s, ku_o (by omega), ku_o (by omega)]; omega
  · rw [ku_o (by omega), ku_o (by omega), ku_o (by omega), ku_s, ku_o (by omega)]; omega
  · rw [ku_o (by omega), ku_o (by omega), ku_o (by omega), ku_o (by omega), ku_s]; omega
theorem kr_nat {lo hi : Int} {k : Int32} (hk : kr lo hi k) (h : 0 ≤ lo) : lo ≤ (k.toNatClampNeg : Int) ∧ (k.toNatClampNeg : Int) ≤ hi := by
  have e : k.toNatClampNeg = k.toInt.toNat := rfl
  have h1 := hk.1
  have h2 := hk.2
  omega
def kfree (lo hi : Int) : Bool := (decide (49 ≤ lo) && decide (hi ≤ 169)) || (decide (175 ≤ lo) && decide (hi ≤ 179)) || (decide (185 ≤ lo) && decide (hi ≤ 194)) || (decide (200 ≤ lo) && decide (hi ≤ 204)) || (decide (210 ≤ lo) && decide (hi ≤ 225)) || decide (228 ≤ lo)
theorem kG_n {K N M : Int} {f : Nat → Int32} {B k : Nat} {v : Int32} (h : kG K N M f B) (hk : (49 ≤ k ∧ k ≤ 169) ∨ (175 ≤ k ∧ k ≤ 179) ∨ (185 ≤ k ∧ k ≤ 194) ∨ (200 ≤ k ∧ k ≤ 204) ∨ (210 ≤ k ∧ k ≤ 225) ∨ 228 ≤ k) : kG K N M (upd f (B + k) v) B := by
  obtain ⟨g0, g1, g2, g3, g4, g5, g6, g7, g8, g9⟩ := h
  refine ⟨?_, ?_, ?_, ?_, ?_, fun i a b => ?_, fun i a b => ?_, fun i a b => ?_, fun i a b => ?_, fun i a b => ?_⟩
  · rw [ku_0 (by omega)]; exact g0
  · rw [ku_0 (by omega), kW_o (by omega)]; exact g1
  · rw [ku_o (by omega), kW_o (by omega), kM_o (by omega)]; exact g2
  · rw [ku_o (by omega)]; exact g3
  · rw [ku_o (by omega)]; exact g4
  · rw [ku_o (by omega)]; exact g5 i a b
  · rw [ku_o (by omega)]; exact g6 i a b
  · rw [ku_o (by omega)]; exact g7 i a b
  · rw [ku_o (by omega)]; exact g8 i a b
  · rw [ku_o (by omega)]; exact g9 i a b
theorem kG_lay {K N M lo hi : Int} {f : Nat → Int32} {B : Nat} {k v : Int32} (h : kG K N M f B) (hk : kr lo hi k) (hs : kfree lo hi = true) : kG K N M (upd f (B + k.toNatClampNeg) v) B := by
  simp only [kfree, Bool.or_eq_true, Bool.and_eq_true, decide_eq_true_eq] at hs
  have h2 := kr_nat hk (by omega)
  exact kG_n h (by omega)
theorem kG_bits {K N M lo hi : Int} {f : Nat → Int32} {B : Nat} {k v : Int32} (h : kG K N M f B) (hk : kr lo hi k) (hv : kr 0 K v) (hs : ((decide (1 ≤ lo) && decide (hi ≤ 24)) || (decide (195 ≤ lo) && decide (hi ≤ 199))) = true) : kG K N M (upd f (B + k.toNatClampNeg) v) B := by
  simp only [Bool.or_eq_true, Bool.and_eq_true, decide_eq_true_eq] at hs
  have h2 := kr_nat hk (by omega)
  obtain ⟨g0, g1, g2, g3, g4, g5, g6, g7, g8, g9⟩ := h
  refine ⟨?_, ?_, ?_, ?_, ?_, fun i a b => ?_, fun i a b => ?_, fun i a b => ?_, fun i a b => ?_, fun i a b => ?_⟩
  · rw [ku_0 (by omega)]; exact g0
  · rw [ku_0 (by omega), kW_o (by omega)]; exact g1
  · rw [ku_o (by omega), kW_o (by omega), kM_o (by omega)]; exact g2
  · rw [ku_o (by omega)]; exact g3
  · rw [ku_o (by omega)]; exact g4
  · by_cases e : i = k.toNatClampNeg
    · subst e; rw [ku_s]; exact hv
    · rw [ku_o e]; exact g5 i a b
  · by_cases e : i = k.toNatClampNeg
    · subst e; rw [ku_s]; exact hv
    · rw [ku_o e]; exact g6 i a b
  · rw [ku_o (by omega)]; exact g7 i a b
  · rw [ku_o (by omega)]; exact g8 i a b
  · rw [ku_o (by omega)]; exact g9 i a b
theorem kG_val {K N M lo hi : Int} {f : Nat → Int32} {B : Nat} {k v : Int32} (h : kG K N M f B) (hk : kr lo hi k) (hv : kr 0 9999 v) (hs : ((decide (25 ≤ lo) && decide (hi ≤ 169)) || (decide (205 ≤ lo) && decide (hi ≤ 209))) = true) : kG K N M (upd f (B + k.toNatClampNeg) v) B := by
  simp only [Bool.or_eq_true, Bool.and_eq_true, decide_eq_true_eq] at hs
  have h2 := kr_nat hk (by omega)
  obtain ⟨g0, g1, g2, g3, g4, g5, g6, g7, g8, g9⟩ := h
  refine ⟨?_, ?_, ?_, ?_, ?_, fun i a b => ?_, fun i a b => ?_, fun i a b => ?_, fun i a b => ?_, fun i a b => ?_⟩
  · rw [ku_0 (by omega)]; exact g0
  · rw [ku_0 (by omega), kW_o (by omega)]; exact g1
  · rw [ku_o (by omega), kW_o (by omega), kM_o (by omega)]; exact g2
  · rw [ku_o (by omega)]; exact g3
  · rw [ku_o (by omega)]; exact g4
  · rw [ku_o (by omega)]; exact g5 i a b
  · rw [ku_o (by omega)]; exact g6 i a b
  · rw [ku_o (by omega)]; exact g7 i a b
  · by_cases e : i = k.toNatClampNeg
    · subst e; rw [ku_s]; exact hv
    · rw [ku_o e]; exact g8 i a b
  · by_cases e : i = k.toNatClampNeg
    · subst e; rw [ku_s]; exact hv
    · rw [ku_o e]; exact g9 i a b
theorem kG_rval {K N M lo hi : Int} {f : Nat → Int32} {B : Nat} {k r : Int32} (h : kG K N M f B) (hk : kr lo hi k) (e : r = f (B + k.toNatClampNeg)) (hs : ((decide (25 ≤ lo) && decide (hi ≤ 48)) || (decide (205 ≤ lo) && decide (hi ≤ 209))) = true) : kr 0 9999 r := by
  simp only [Bool.or_eq_true, Bool.and_eq_true, decide_eq_true_eq] at hs
  have h2 := kr_nat hk (by omega)
  rw [e]
  rcases hs with hs | hs
  · exact h.2.2.2.2.2.2.2.2.1 _ (by omega) (by omega)
  · exact h.2.2.2.2.2.2.2.2.2 _ (by omega) (by omega)
theorem kG_since {K N M lo hi : Int} {f : Nat → Int32} {B : Nat} {k v : Int32} (h : kG K N M f B) (hk : kr lo hi k) (hv : 0 ≤ v.toInt) (hs : (decide (180 ≤ lo) && decide (hi ≤ 184)) = true) : kG K N M (upd f (B + k.toNatClampNeg) v) B := by
  simp only [Bool.and_eq_true, decide_eq_true_eq] at hs
  have h2 := kr_nat hk (by omega)
  obtain ⟨g0, g1, g2, g3, g4, g5, g6, g7, g8, g9⟩ := h
  refine ⟨?_, ?_, ?_, ?_, ?_, fun i a b => ?_, fun i a b => ?_, fun i a b => ?_, fun i a b => ?_, fun i a b => ?_⟩
  · rw [ku_0 (by omega)]; exact g0
  · rw [ku_0 (by omega), kW_o (by omega)]; exact g1
  · rw [ku_o (by omega), kW_o (by omega), kM_o (by omega)]; exact g2
  · rw [ku_o (by omega)]; exact g3
  · rw [ku_o (by omega)]; exact g4
  · rw [ku_o (by omega)]; exact g5 i a b
  · rw [ku_o (by omega)]; exact g6 i a b
  · by_cases e : i = k.toNatClampNeg
    · subst e; rw [ku_s]; exact hv
    · rw [ku_o e]; exact g7 i a b
  · rw [ku_o (by omega)]; exact g8 i a b
  · rw [ku_o (by omega)]; exact g9 i a b
theorem kG_next {K N M : Int} {f : Nat → Int32} {B : Nat} {v : Int32} (h : kG K N M f B) (hv : kr 0 24 v) : kG K N M (upd f (B + Int32.toNatClampNeg 226) v) B := by
  have e : Int32.toNatClampNeg 226 = 226 := by decide
  rw [e]
  obtain ⟨g0, g1, g2, g3, g4, g5, g6, g7, g8, g9⟩ := h
  refine ⟨?_, ?_, ?_, ?_, ?_, fun i a b => ?_, fun i a b => ?_, fun i a b => ?_, fun i a b => ?_, fun i a b => ?_⟩
  · rw [ku_0 (by omega)]; exact g0
  · rw [ku_0 (by omega), kW_o (by omega)]; exact g1
  · rw [ku_o (by omega), kW_o (by omega), kM_o (by omega)]; exact g2
  · rw [ku_o (by omega)]; exact g3
  · rw [ku_s]; exact hv
  · rw [ku_o (by omega)]; exact g5 i a b
  · rw [ku_o (by omega)]; exact g6 i a b
  · rw [ku_o (by omega)]; exact g7 i a b
  · rw [ku_o (by omega)]; exact g8 i a b
  · rw [ku_o (by omega)]; exact g9 i a b
theorem kG_log {K N M : Int} {f : Nat → Int32} {B : Nat} {v : Int32} (h : kG K N M f B) (hv : v.toInt = (f (B + 227)).toInt + 1) : kG K (N + 1) M (upd f (B + Int32.toNatClampNeg 227) v) B := by
  have e : Int32.toNatClampNeg 227 = 227 := by decide
  rw [e]
  obtain ⟨g0, g1, g2, g3, g4, g5, g6, g7, g8, g9⟩ := h
  refine ⟨?_, ?_, ?_, ?_, ?_, fun i a b => ?_, fun i a b => ?_, fun i a b => ?_, fun i a b => ?_, fun i a b => ?_⟩
  · rw [ku_0 (by omega)]; exact g0
  · rw [ku_0 (by omega), kW_o (by omega)]; exact g1
  · rw [ku_s, kW_o (by omega), kM_o (by omega)]; omega
  · rw [ku_s]; omega
  · rw [ku_o (by omega)]; exact g4
  · rw [ku_o (by omega)]; exact g5 i a b
  · rw [ku_o (by omega)]; exact g6 i a b
  · rw [ku_o (by omega)]; exact g7 i a b
  · rw [ku_o (by omega)]; exact g8 i a b
  · rw [ku_o (by omega)]; exact g9 i a b
theorem kG_many {K N M d : Int} {f f' : Nat → Int32} {B : Nat} {v : Int32} (h : kG K N M f B) (e' : f' = upd f (B + Int32.toNatClampNeg 0) v) (hv : v.toInt ≤ 24) (hd : (f B).toInt - d ≤ v.toInt) : kG K (N - kM f B + kM f' B) (M + d) f' B := by
  have e : Int32.toNatClampNeg 0 = 0 := by decide
  rw [e] at e'
  have es : f' B = v := by rw [e']; exact pk_us
  obtain ⟨g0, g1, g2, g3, g4, g5, g6, g7, g8, g9⟩ := h
  have ew : kW f' B = kW f B := by rw [e']; exact kW_o (by omega)
  have eo : ∀ j, ¬ j = 0 → f' (B + j) = f (B + j) := fun j hj => by rw [e']; exact ku_o hj
  refine ⟨?_, ?_, ?_, ?_, ?_, fun i a b => ?_, fun i a b => ?_, fun i a b => ?_, fun i a b => ?_, fun i a b => ?_⟩
  · rw [es]; exact hv
  · rw [es, ew]; omega
  · rw [eo _ (by omega), ew]; omega
  · rw [eo _ (by omega)]; exact g3
  · rw [eo _ (by omega)]; exact g4
  · rw [eo _ (by omega)]; exact g5 i a b
  · rw [eo _ (by omega)]; exact g6 i a b
  · rw [eo _ (by omega)]; exact g7 i a b
  · rw [eo _ (by omega)]; exact g8 i a b
  · rw [eo _ (by omega)]; exact g9 i a b
theorem kG_st {K N M N' M' : Int} {f : Nat → Int32} {B k : Nat} {v : Int32} (h : kG K N M f B) (h1 : 170 ≤ k) (h2 : k ≤ 174) (hn : N + kw1 v - kw1 (f (B + k)) ≤ N') (hm : M + 600 * kw1 v - 600 * kw1 (f (B + k)) ≤ M') : kG K N' M' (upd f (B + k) v) B := by
  obtain ⟨g0, g1, g2, g3, g4, g5, g6, g7, g8, g9⟩ := h
  refine ⟨?_, ?_, ?_, ?_, ?_, fun i a b => ?_, fun i a b => ?_, fun i a b => ?_, fun i a b => ?_, fun i a b => ?_⟩
  · rw [ku_0 (by omega)]; exact g0
  · rw [ku_0 (by omega), kW_u h1 h2]; omega
  · rw [ku_o (by omega), kW_u h1 h2, kM_o (by omega)]; omega
  · rw [ku_o (by omega)]; exact g3
  · rw [ku_o (by omega)]; exact g4
  · rw [ku_o (by omega)]; exact g5 i a b
  · rw [ku_o (by omega)]; exact g6 i a b
  · rw [ku_o (by omega)]; exact g7 i a b
  · rw [ku_o (by omega)]; exact g8 i a b
  · rw [ku_o (by omega)]; exact g9 i a b
theorem kw1_no {x : Int32} (h : ¬ x = 2) : kw1 x = 0 := if_neg h
theorem kw1_2 : kw1 2 = 1 := rfl
/-- a hand's state becomes one that doesn't wait -/
theorem kG_no {K N M lo hi : Int} {f : Nat → Int32} {B : Nat} {k v : Int32} (h : kG K N M f B) (hk : kr lo hi k) (hv : ¬ v = 2) (hs : (decide (170 ≤ lo) && decide (hi ≤ 174)) = true) : kG K N M (upd f (B + k.toNatClampNeg) v) B := by
  simp only [Bool.and_eq_true, decide_eq_true_eq] at hs
  have h2 := kr_nat hk (by omega)
  have h3 := kw1_nn (f (B + k.toNatClampNeg))
  exact kG_st h (by omega) (by omega) (by rw [kw1_no hv]; omega) (by rw [kw1_no hv]; omega)
/-- .. and it did wait -/
theorem kG_dec {K N M lo hi : Int} {f : Nat → Int32} {B : Nat} {k v : Int32} (h : kG K N M f B) (hk : kr lo hi k) (he : f (B + k.toNatClampNeg) = 2) (hv : ¬ v = 2) (hs : (decide (170 ≤ lo) && decide (hi ≤ 174)) = true) : kG K (N - 1) (M - 600) (upd f (B + k.toNatClampNeg) v) B := by
  simp only [Bool.and_eq_true, decide_eq_true_eq] at hs
  have h2 := kr_nat hk (by omega)
  exact kG_st h (by omega) (by omega) (by rw [he, kw1_no hv, kw1_2]; omega) (by rw [he, kw1_no hv, kw1_2]; omega)
/-- it comes to wait -/
theorem kG_inc {K N M lo hi : Int} {f : Nat → Int32} {B : Nat} {k v : Int32} (h : kG K N M f B) (hk : kr lo hi k) (hs : (decide (170 ≤ lo) && decide (hi ≤ 174)) = true) : kG K (N + 1) (M + 600) (upd f (B + k.toNatClampNeg) v) B := by
  simp only [Bool.and_eq_true, decide_eq_true_eq] at hs
  have h2 := kr_nat hk (by omega)
  have h3 := kw1_nn (f (B + k.toNatClampNeg))
  have h4 := kw1_nn v
  exact kG_st h (by omega) (by omega) (by omega) (by omega)
/-- what is read -/
theorem kG_rmany {K N M : Int} {f : Nat → Int32} {B : Nat} {r : Int32} (h : kG K N M f B) (hM : M ≤ 100000000) (e : r = f (B + Int32.toNatClampNeg 0)) : kr (-100000000) 24 r := by
  have e0 : Int32.toNatClampNeg 0 = 0 := by decide
  rw [e0] at e
  have e1 : r = f B := e
  rw [e1]
  have h1 := h.1
  have h2 := h.2.1
  have h3 := kW_nn f B
  exact ⟨by omega, h1⟩
theorem kG_rlog {K N M : Int} {f : Nat → Int32} {B : Nat} {r : Int32} (h : kG K N M f B) (hN : N ≤ 599) (e : r = f (B + Int32.toNatClampNeg 227)) : kr 0 599 r := by
  have e0 : Int32.toNatClampNeg 227 = 227 := by decide
  rw [e0] at e
  rw [e]
  have h1 := h.2.2.1
  have h2 := h.2.2.2.1
  have h3 := kW_nn f B
  have h4 := kM_nn f B
  exact ⟨h2, by omega⟩
theorem kG_rnext {K N M : Int} {f : Nat → Int32} {B : Nat} {r : Int32} (h : kG K N M f B) (e : r = f (B + Int32.toNatClampNeg 226)) : kr 0 24 r := by
  have e0 : Int32.toNatClampNeg 226 = 226 := by decide
  rw [e0] at e
  rw [e]
  exact h.2.2.2.2.1
theorem kG_rbits {K N M lo hi : Int} {f : Nat → Int32} {B : Nat} {k r : Int32} (h : kG K N M f B) (hk : kr lo hi k) (e : r = f (B + k.toNatClampNeg)) (hs : ((decide (1 ≤ lo) && decide (hi ≤ 24)) || (decide (195 ≤ lo) && decide (hi ≤ 199))) = true) : kr 0 K r := by
  simp only [Bool.or_eq_true, Bool.and_eq_true, decide_eq_true_eq] at hs
  have h2 := kr_nat hk (by omega)
  rw [e]
  rcases hs with hs | hs
  · exact h.2.2.2.2.2.1 _ (by omega) (by omega)
  · exact h.2.2.2.2.2.2.1 _ (by omega) (by omega)
theorem kG_rsince {K N M lo hi : Int} {f : Nat → Int32} {B : Nat} {k r : Int32} (h : kG K N M f B) (hk : kr lo hi k) (e : r = f (B + k.toNatClampNeg)) (hs : (decide (180 ≤ lo) && decide (hi ≤ 184)) = true) : kr 0 2147483647 r := by
  simp only [Bool.and_eq_true, decide_eq_true_eq] at hs
  have h2 := kr_nat hk (by omega)
  rw [e]
  exact ⟨h.2.2.2.2.2.2.2.1 _ (by omega) (by omega), (kr_all _).2⟩
theorem kr_K {K : Int} {r : Int32} (h : kr 0 K r) (hK : K ≤ 2147000000) : kr 0 2147000000 r := ⟨h.1, Int.le_trans h.2 hK⟩
theorem kr_KK {K K' : Int} {r : Int32} (h : kr 0 K r) (hK : K ≤ K') : kr 0 K' r := ⟨h.1, Int.le_trans h.2 hK⟩
/-- which offsets may have changed -/
def kin (m : List (Nat × Nat)) (k : Nat) : Prop := ∃ q, q ∈ m ∧ q.1 ≤ k ∧ k ≤ q.2
def kF (m : List (Nat × Nat)) (B : Nat) (f g : Nat → Int32) : Prop := ∀ i, g i = f i ∨ ∃ k, i = B + k ∧ kin m k
theorem kF.rf {m : List (Nat × Nat)} {B : Nat} {f : Nat → Int32} : kF m B f f := fun _ => Or.inl rfl
theorem kF.tr {m : List (Nat × Nat)} {B : Nat} {f g h : Nat → Int32} (h1 : kF m B f g) (h2 : kF m B g h) : kF m B f h := by
  intro i
  rcases h2 i with e | e
  · rcases h1 i with e1 | e1
    · exact Or.inl (e.trans e1)
    · exact Or.inr e1
  · exact Or.inr e
theorem kF.mono {m m' : List (Nat × Nat)} {B : Nat} {f g : Nat → Int32} (h : kF m B f g) (hs : (m.all fun q => m'.any fun r => Nat.ble r.1 q.1 && Nat.ble q.2 r.2) = true) : kF m' B f g := by
  intro i
  rcases h i with e | ⟨k, e, q, hq, h1, h2⟩
  · exact Or.inl e
  · have h3 := List.all_eq_true.mp hs q hq
    obtain ⟨r, hr, h4⟩ := List.any_eq_true.mp h3
    simp only [Bool.and_eq_true, Nat.ble_eq] at h4
    exact Or.inr ⟨k, e, r, hr, by omega, by omega⟩
theorem kF.lay {m : List (Nat × Nat)} {B : Nat} {f g : Nat → Int32} {lo hi : Int} {k v : Int32} (h : kF m B f g) (hk : kr lo hi k) (hs : (decide (0 ≤ lo) && m.any fun r => decide ((r.1 : Int) ≤ lo) && decide (hi ≤ (r.2 : Int))) = true) : kF m B f (upd g (B + k.toNatClampNeg) v) := by
  intro i
  simp only [Bool.and_eq_true, decide_eq_true_eq] at hs
  obtain ⟨r, hr, h4⟩ := List.any_eq_true.mp hs.2
  simp only [Bool.and_eq_true, decide_eq_true_eq] at h4
  have h2 := kr_nat hk hs.1
  by_cases e : i = B + k.toNatClampNeg
  · exact Or.inr ⟨k.toNatClampNeg, e, r, hr, by omega, by omega⟩
  · have e2 : upd g (B + k.toNatClampNeg) v i = g i := pk_un e
    rw [e2]
    exact h i
theorem kF.at {m : List (Nat × Nat)} {B : Nat} {f g : Nat → Int32} (h : kF m B f g) (k : Nat) (hs : (m.all fun q => Nat.blt k q.1 || Nat.blt q.2 k) = true) : g (B + k) = f (B + k) := by
  rcases h (B + k) with e | ⟨k2, e, q, hq, h1, h2⟩
  · exact e
  · have h3 := List.all_eq_true.mp hs q hq
    simp only [Bool.or_eq_true, Nat.blt_eq] at h3
    omega
/-- the reference, by its fields -/
abbrev kX (a : Nat) (v0 v1 v2 v3 v4 v5 v6 v7 v8 v9 v10 v11 v12 v13 v14 v15 v16 v17 v18 v19 v20 v21 v22 v23 v24 v25 v26 v27 v28 v29 v30 v31 v32 v33 v34 v35 v36 v37 v38 v39 v40 v41 v42 v43 v44 v45 : Value) : Nat × va_E := (a, .inr (10, v0 :: v1 :: v2 :: v3 :: v4 :: v5 :: v6 :: v7 :: v8 :: v9 :: v10 :: v11 :: v12 :: v13 :: v14 :: v15 :: v16 :: v17 :: v18 :: v19 :: v20 :: v21 :: v22 :: v23 :: v24 :: v25 :: v26 :: v27 :: v28 :: v29 :: v30 :: v31 :: v32 :: v33 :: v34 :: v35 :: v36 :: v37 :: v38 :: v39 :: v40 :: v41 :: v42 :: v43 :: v44 :: v45 :: []))
