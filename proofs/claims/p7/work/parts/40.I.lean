/-! ===== rows for the hooks of the walker ===== -/
theorem kr_lK {K : Int} {r : Int32} (h : kr 0 2139095040 r) (hK : 2139095040 ≤ K) : kr 0 K r := ⟨h.1, Int.le_trans h.2 hK⟩
theorem kmn_lay {lo hi d : Int} {B : Nat} {f g g' : Nat → Int32} {k v : Int32} (h : (g B).toInt = (f B).toInt + d) (hk : kr lo hi k) (e : g' = upd g (B + k.toNatClampNeg) v) (hs : decide (0 < lo) = true) : (g' B).toInt = (f B).toInt + d := by
  simp only [decide_eq_true_eq] at hs
  have h2 := kr_nat hk (by omega)
  rw [e, ku_0 (by omega)]
  exact h
theorem kml_lay {lo hi d : Int} {B o : Nat} {f g g' : Nat → Int32} {k v : Int32} (h : (g (B + o)).toInt = (f (B + o)).toInt + d) (hk : kr lo hi k) (e : g' = upd g (B + k.toNatClampNeg) v) (hs : (decide (0 ≤ lo) && (decide (hi < (o : Int)) || decide ((o : Int) < lo))) = true) : (g' (B + o)).toInt = (f (B + o)).toInt + d := by
  simp only [Bool.and_eq_true, Bool.or_eq_true, decide_eq_true_eq] at hs
  have h2 := kr_nat hk (by omega)
  rw [e, ku_o (by omega)]
  exact h
theorem km_add {a b c d d1 d2 : Int} (h1 : b = a + d1) (h2 : c = b + d2) (hd : d1 + d2 = d) : c = a + d := by omega
theorem kr_pn {lo hi : Int} {k : Int32} (h : kr lo hi k) (hs : decide (0 < lo) = true) : 0 < k.toNatClampNeg := by
  simp only [decide_eq_true_eq] at hs
  have h2 := kr_nat h (by omega)
  omega
theorem kn_23 {i i' : Int32} (hi : kr 0 23 i) (t : i'.toInt = i.toInt + 1) : 23 - i.toNatClampNeg = 24 - i'.toNatClampNeg := by
  have e1 : i.toNatClampNeg = i.toInt.toNat := rfl
  have e2 : i'.toNatClampNeg = i'.toInt.toNat := rfl
  have h1 := hi.1
  omega
theorem kM_or {B : Nat} {f g : Nat → Int32} (h : (g B).toInt = (f B).toInt ∨ 0 ≤ (g B).toInt) : kM g B ≤ kM f B := by
  unfold kM
  split <;> split <;> omega
theorem kZ_1 {B : Nat} {f g : Nat → Int32} {h : Int32} (s : kSt B 170 h 0 f g) (hh : kr 0 4 h) (hst : f (B + (170 + h.toNatClampNeg)) = 1) : kZ g B = kZ f B - 1 := by
  have q := kSt_Z s hh
  rw [hst] at q
  have e1 : kz1 1 = 1 := rfl
  have e2 : kz1 0 = 0 := rfl
  omega
theorem km_e0 {a b : Int} (h : a = b + 0) : a = b := by omega
theorem kM_up {B : Nat} {f g : Nat → Int32} (h : (g B).toInt = (f B).toInt + 1) : kM g B ≤ kM f B := by
  unfold kM
  split <;> split <;> omega
theorem kr_i23 {B : Nat} {f g : Nat → Int32} {lo hi a : Int} {k v r1 r2 i : Int32} (hi24 : kr 0 24 i) (h1 : kr a 24 r1) (e1 : r1 = f (B + Int32.toNatClampNeg 0)) (e2 : r2 = g (B + Int32.toNatClampNeg 0)) (e : g = upd f (B + k.toNatClampNeg) v) (hk : kr lo hi k) (hs : decide (0 < lo) = true) (l1 : i.toInt ≤ r1.toInt) (ne : ¬ i = r2) : kr 0 23 i := by
  simp only [decide_eq_true_eq] at hs
  have h2 := kr_nat hk (by omega)
  have e0 : Int32.toNatClampNeg 0 = 0 := by decide
  rw [e0] at e1 e2
  have e3 : g (B + 0) = f (B + 0) := by rw [e, ku_o (by omega)]
  rw [e3, ← e1] at e2
  have h3 : ¬ i.toInt = r1.toInt := fun q => ne (by rw [e2]; exact Int32.toInt_inj.mp q)
  have h4 := h1.2
  exact ⟨hi24.1, by omega⟩
theorem kT_get {B : Nat} {f g : Nat → Int32} {h k w : Int32} (hT : kT B 170 f g) (hh : kr 0 4 h) (t : k.toInt = 170 + h.toInt) (hst : f (B + (170 + h.toNatClampNeg)) = w) : g (B + k.toNatClampNeg) = w := by
  rw [kh_at (o := 170) hh t rfl, hT _ (by have := kr_nat hh (by omega); omega)]
  exact hst
theorem kT_put {B : Nat} {g : Nat → Int32} {h k w r : Int32} (hh : kr 0 4 h) (t : k.toInt = 170 + h.toInt) (er : r = g (B + k.toNatClampNeg)) (hr : r = w) : g (B + (170 + h.toNatClampNeg)) = w := by
  rw [← kh_at (o := 170) hh t rfl, ← er]
  exact hr
theorem kGo_no' {B : Nat} {f g : Nat → Int32} {r n1 n2 a1 a2 : Int32} (e : r = 0) (h : kStop B f g n1 n2 a1 a2) : ((r = 0 ∧ kMu g B = kMu f B) ∨ kMu g B + 10 ≤ kMu f B) ∧ kZ g B ≤ kZ f B := by
  obtain ⟨h1 | h1, h2⟩ := kGo_no h
  · exact ⟨Or.inl ⟨e, h1⟩, h2⟩
  · exact ⟨Or.inr h1, h2⟩
theorem kGo_or {B : Nat} {f g : Nat → Int32} {r : Int32} (h : kMu g B + 10 ≤ kMu f B ∧ kZ g B ≤ kZ f B) : ((r = 0 ∧ kMu g B = kMu f B) ∨ kMu g B + 10 ≤ kMu f B) ∧ kZ g B ≤ kZ f B := ⟨Or.inr h.1, h.2⟩
theorem kput_sp {B : Nat} {f g : Nat → Int32} {r n1 n2 a1 a2 : Int32} (t : (g B).toInt = (f B).toInt + 1) (er : r = g (B + Int32.toNatClampNeg 0)) (hF : kF [(0, 169), (227, 227)] B f g) (h9 : r = -2) : kStop B f g n1 n2 a1 a2 := by
  have e0 : Int32.toNatClampNeg 0 = 0 := by decide
  rw [e0] at er
  have er : r = g B := er
  have e2 : (g B).toInt = -2 := by rw [← er, h9]; decide
  exact Or.inr ⟨by omega, e2, hF⟩
theorem kput_G {B : Nat} {f g : Nat → Int32} {K N M : Int} {r : Int32} (h : kG K N M f B) (h2 : kG K (N + 1) M g B) (t : (g B).toInt = (f B).toInt + 1) (tl : (g (B + 227)).toInt = (f (B + 227)).toInt + 1) (er : r = g (B + Int32.toNatClampNeg 0)) (hF : kF [(0, 169), (227, 227)] B f g) (h9 : r = -2) : kG K N M g B := by
  have e0 : Int32.toNatClampNeg 0 = 0 := by decide
  rw [e0] at er
  have er : r = g B := er
  have e2 : (g B).toInt = -2 := by rw [← er, h9]; decide
  exact kG_spur h h2 (hF.five 170 rfl) tl (by omega) e2
theorem km_0 {a : Int} : a = a + 0 := by omega
theorem kF.m0 {m : List (Nat × Nat)} {B : Nat} {f g : Nat → Int32} (h : kF m B f g) (hs : (m.all fun q => Nat.blt 0 q.1) = true) : (g B).toInt = (f B).toInt + 0 := by
  have e : g (B + 0) = f (B + 0) := by
    rcases h (B + 0) with e | ⟨k2, e, q, hq, h1, h2⟩
    · exact e
    · have h3 := List.all_eq_true.mp hs q hq
      simp only [Nat.blt_eq] at h3
      omega
  have e : g B = f B := e
  rw [e]
  omega
theorem kF.mo {m : List (Nat × Nat)} {B : Nat} {f g : Nat → Int32} (h : kF m B f g) (o : Nat) (hs : (m.all fun q => Nat.blt o q.1 || Nat.blt q.2 o) = true) : (g (B + o)).toInt = (f (B + o)).toInt + 0 := by
  rw [h.at o hs]
  omega
theorem kst_0 {r a b1 b2 c1 c2 p1 p2 : Int32} (h : (r = 0 ∧ a = 0 ∧ b1 = c1 ∧ b2 = c2) ∨ (r = 1 ∧ ¬ a = 0 ∧ b1 = p1 ∧ b2 = p2)) (e : r = 0) : a = 0 := by
  rcases h with h | h
  · exact h.2.1
  · rw [e] at h
    exact absurd h.1 (by decide)
theorem kst_1 {r a b1 b2 c1 c2 p1 p2 : Int32} (h : (r = 0 ∧ a = 0 ∧ b1 = c1 ∧ b2 = c2) ∨ (r = 1 ∧ ¬ a = 0 ∧ b1 = p1 ∧ b2 = p2)) (e : ¬ r = 0) : ¬ a = 0 ∧ b1 = p1 ∧ b2 = p2 := by
  rcases h with h | h
  · exact absurd h.1 e
  · exact h.2
theorem kFs_s {B : Nat} {f g : Nat → Int32} {h i v r o x : Int32} (hQ : kF [(97, 145)] B f g) (hi : kr 0 23 i) (tv : v.toInt = 146 + i.toInt) (er : r = g (B + v.toNatClampNeg)) (eo : o = kOth h) (ex : x = r &&& o) (hx : x = 0) : kFs f B h (24 - i.toNatClampNeg) = kFs f B h (23 - i.toNatClampNeg) := by
  have h1 := kr_nat hi (by omega)
  have h9 := hi.1
  have e1 : i.toNatClampNeg = i.toInt.toNat := rfl
  have e3 : v.toNatClampNeg = v.toInt.toNat := rfl
  have e4 : 24 - i.toNatClampNeg = (23 - i.toNatClampNeg) + 1 := by omega
  have e5 : 24 - ((23 - i.toNatClampNeg) + 1) = i.toNatClampNeg := by omega
  have e6 : g (B + v.toNatClampNeg) = f (B + v.toNatClampNeg) := (hQ.ag rfl) _ (Or.inr (Or.inl ⟨by omega, by omega⟩))
  rw [e4]
  show (if f (B + (146 + (24 - ((23 - i.toNatClampNeg) + 1)))) &&& kOth h = 0 then _ else _) = _
  rw [e5, if_pos]
  rw [show 146 + i.toNatClampNeg = v.toNatClampNeg by omega, ← e6, ← er, ← eo, ← ex]
  exact hx
theorem kFs_e {B : Nat} {f g : Nat → Int32} {h i v r o x v2 r2 : Int32} (hQ : kF [(97, 145)] B f g) (hi : kr 0 23 i) (tv : v.toInt = 146 + i.toInt) (er : r = g (B + v.toNatClampNeg)) (eo : o = kOth h) (ex : x = r &&& o) (hx : ¬ x = 0) (t2 : v2.toInt = 1 + i.toInt) (er2 : r2 = g (B + v2.toNatClampNeg)) : kFs f B h (24 - i.toNatClampNeg) = r2 := by
  have h1 := kr_nat hi (by omega)
  have h9 := hi.1
  have e1 : i.toNatClampNeg = i.toInt.toNat := rfl
  have e3 : v.toNatClampNeg = v.toInt.toNat := rfl
  have e8 : v2.toNatClampNeg = v2.toInt.toNat := rfl
  have e4 : 24 - i.toNatClampNeg = (23 - i.toNatClampNeg) + 1 := by omega
  have e5 : 24 - ((23 - i.toNatClampNeg) + 1) = i.toNatClampNeg := by omega
  have e6 : g (B + v.toNatClampNeg) = f (B + v.toNatClampNeg) := (hQ.ag rfl) _ (Or.inr (Or.inl ⟨by omega, by omega⟩))
  have e7 : g (B + v2.toNatClampNeg) = f (B + v2.toNatClampNeg) := (hQ.ag rfl) _ (Or.inl (by omega))
  rw [e4]
  show (if f (B + (146 + (24 - ((23 - i.toNatClampNeg) + 1)))) &&& kOth h = 0 then _ else f (B + (1 + (24 - ((23 - i.toNatClampNeg) + 1))))) = _
  rw [e5, if_neg, show 1 + i.toNatClampNeg = v2.toNatClampNeg by omega, ← e7, ← er2]
  rw [show 146 + i.toNatClampNeg = v.toNatClampNeg by omega, ← e6, ← er, ← eo, ← ex]
  exact hx
theorem kPl_23 {f : Nat → Int32} {B : Nat} {b i m : Int32} {lo : Int} (hi : kr 0 24 i) (er : i.toNatClampNeg = kPl f B b 24) (em : m = f (B + Int32.toNatClampNeg 0)) (hm : kr lo 23 m) : kr 0 23 i := by
  have e0 : Int32.toNatClampNeg 0 = 0 := by decide
  rw [e0] at em
  have em : m = f B := em
  have e1 : i.toNatClampNeg = i.toInt.toNat := rfl
  have h1 := hi.1
  have h2 := hm.2
  rw [em] at h2
  refine ⟨h1, ?_⟩
  rcases kPl_le f B b 24 (by omega) with e | e
  · omega
  · omega
theorem kth_0 {r : Int32} {b : Bool} (h : (r = 0 ∧ b = false) ∨ (r = 1 ∧ b = true)) (e : r = 0) : b = false := by
  rcases h with h | h
  · exact h.2
  · rw [e] at h
    exact absurd h.1 (by decide)
theorem kth_1 {r : Int32} {b : Bool} (h : (r = 0 ∧ b = false) ∨ (r = 1 ∧ b = true)) (e : ¬ r = 0) : b = true := by
  rcases h with h | h
  · exact absurd h.1 e
  · exact h.2
theorem kTh_lt {f : Nat → Int32} {B i : Nat} {b : Int32} (h : kTh f B i b = true) : (i : Int) < (f B).toInt := by
  unfold kTh at h
  simp only [Bool.and_eq_true, decide_eq_true_eq] at h
  exact h.1
theorem kh_nI {h : Int32} (hh : kr 0 4 h) : nI h.toNatClampNeg = h := by
  have e2 : h.toNatClampNeg = h.toInt.toNat := rfl
  have h1 := hh.1
  have h2 := hh.2
  refine Int32.toInt_inj.mp ?_
  rw [nI_toInt (by omega)]
  omega
theorem kdo_s {f : Nat → Int32} {B : Nat} {h v w vl low : Int32} (hh : kr 0 4 h) (tv : v.toInt = 190 + h.toInt) (ew : w = f (B + v.toNatClampNeg)) (hw : w = 3) (tl : vl.toInt = 195 + h.toInt) (el : low = f (B + vl.toNatClampNeg)) : 1 = kN1 f B h.toNatClampNeg ∧ kFs f B h (24 - kPl f B low 24) = kN2 f B h.toNatClampNeg := by
  rw [kh_at (o := 190) hh tv rfl] at ew
  rw [kh_at (o := 195) hh tl rfl] at el
  unfold kN1 kN2
  rw [← ew, ← el, if_pos hw, if_pos hw, kh_nI hh]
  exact ⟨rfl, rfl⟩
theorem kdo_p {f : Nat → Int32} {B : Nat} {h v w vl low : Int32} (hh : kr 0 4 h) (tv : v.toInt = 190 + h.toInt) (ew : w = f (B + v.toNatClampNeg)) (hw : w = 7) (tl : vl.toInt = 195 + h.toInt) (el : low = f (B + vl.toNatClampNeg)) : (if kTh f B (kPl f B low 24) low = true then 1 else 3) = kN1 f B h.toNatClampNeg ∧ low = kN2 f B h.toNatClampNeg := by
  rw [kh_at (o := 190) hh tv rfl] at ew
  rw [kh_at (o := 195) hh tl rfl] at el
  unfold kN1 kN2
  have h3 : ¬ w = 3 := by rw [hw]; decide
  rw [← ew, ← el]
  refine ⟨?_, ?_⟩
  · rw [if_neg h3, if_pos hw]
  · rw [if_neg h3]
theorem kdo_l {f : Nat → Int32} {B : Nat} {h v w vl low : Int32} (hh : kr 0 4 h) (tv : v.toInt = 190 + h.toInt) (ew : w = f (B + v.toNatClampNeg)) (h3 : ¬ w = 3) (h7 : ¬ w = 7) (tl : vl.toInt = 195 + h.toInt) (el : low = f (B + vl.toNatClampNeg)) : (if w = 4 then 1 else 2) = kN1 f B h.toNatClampNeg ∧ low = kN2 f B h.toNatClampNeg := by
  rw [kh_at (o := 190) hh tv rfl] at ew
  rw [kh_at (o := 195) hh tl rfl] at el
  unfold kN1 kN2
  rw [← ew, ← el, if_neg h3, if_neg h7, if_neg h3]
  exact ⟨rfl, rfl⟩
theorem kStop.to {B : Nat} {f g : Nat → Int32} {n1 n2 a1 a2 b1 b2 : Int32} (h : kStop B f g n1 n2 a1 a2) (e : a1 = b1 ∧ a2 = b2) : kStop B f g n1 n2 b1 b2 := by
  rw [← e.1, ← e.2]
  exact h
/-- what is asked anew differs from what was asked -/
theorem kStop.no1 {B : Nat} {f g : Nat → Int32} {h n1 n2 v r : Int32} (hs : kStop B f g n1 n2 (kN1 f B h.toNatClampNeg) (kN2 f B h.toNatClampNeg)) (hh : kr 0 4 h) (tv : v.toInt = 210 + h.toInt) (er : r = g (B + v.toNatClampNeg)) (hn : ¬ n1 = r) : kStop2 B h f g n1 n2 := by
  rcases hs with ⟨hQ, e1, e2⟩ | hs
  · refine Or.inl ⟨hQ, e1, e2, fun c => hn ?_⟩
    rw [er, kh_at (o := 210) hh tv rfl, (hQ.five 210 rfl) _ (by have := kr_nat hh (by omega); omega)]
    exact c.1.symm
  · exact Or.inr hs
theorem kStop.no2 {B : Nat} {f g : Nat → Int32} {h n1 n2 v r : Int32} (hs : kStop B f g n1 n2 (kN1 f B h.toNatClampNeg) (kN2 f B h.toNatClampNeg)) (hh : kr 0 4 h) (tv : v.toInt = 215 + h.toInt) (er : r = g (B + v.toNatClampNeg)) (hn : ¬ n2 = r) : kStop2 B h f g n1 n2 := by
  rcases hs with ⟨hQ, e1, e2⟩ | hs
  · refine Or.inl ⟨hQ, e1, e2, fun c => hn ?_⟩
    rw [er, kh_at (o := 215) hh tv rfl, (hQ.five 215 rfl) _ (by have := kr_nat hh (by omega); omega)]
    exact c.2.symm
  · exact Or.inr hs
/-- keys told rightly -/
theorem kb_kr {n d : Int32} (h : 0 ≤ n ∧ n ≤ 99999999 ∧ 1 ≤ d ∧ d ≤ 9999) : kr 0 2139095040 (kb n d) := by
  have e : kb n d = (FP.fdiv (FP.i2f n) (FP.i2f d)).toInt32 := if_pos h
  rw [e]
  rcases (key_kn h).1 with e0 | ⟨c, q, hv, hc⟩
  · rw [e0]; exact ⟨by decide, by decide⟩
  · have hv : FP.Core.val32 (FP.fdiv (FP.i2f n) (FP.i2f d)) = .fin false c q := hv
    have hc : 2 ^ 23 ≤ c := hc
    obtain ⟨hc1, hq1, hq2, -⟩ : FP.Core.fits FP.Core.b32 (.fin false c q) := by rw [← hv]; exact FP.Core.val32_fits _
    rw [q_b32.2.2.2] at hc1
    rw [q_b32.1] at hq1
    rw [q_b32.2.1] at hq2
    have e3 : (FP.fdiv (FP.i2f n) (FP.i2f d)).toInt32 = nI ((q + 150).toNat * 2 ^ 23 + (c - 2 ^ 23)) := by
      rw [x_bits hv hc hq1]
      exact Int32.toBitVec.inj (by rw [UInt32.toBitVec_toInt32, UInt32.toBitVec_ofNat']; unfold nI; rw [Int32.toBitVec_ofNat'])
    rw [e3]
    unfold kr
    rw [nI_toInt (by omega)]
    omega
theorem kq_kr {n : Int32} (h : ¬ kq n < 0) : kr 0 2139095040 (kq n) := by
  unfold kq at h ⊢
  split at h
  · exact absurd (by decide) h
  · rename_i q
    rw [if_neg q]
    by_cases v : 0 ≤ n / 10000 ∧ n / 10000 ≤ 99999999 ∧ 1 ≤ n - n / 10000 * 10000 ∧ n - n / 10000 * 10000 ≤ 9999
    · exact kb_kr v
    · rw [kb_no v] at h
      exact absurd (by decide) h
