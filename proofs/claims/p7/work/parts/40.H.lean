/-! ===== rows of five hands, keys' places, needs, kept steps ===== -/
def kT (B o : Nat) (f g : Nat → Int32) : Prop := ∀ i, i < 5 → g (B + (o + i)) = f (B + (o + i))
def kSt (B o : Nat) (h v : Int32) (f g : Nat → Int32) : Prop := ∀ i, i < 5 → g (B + (o + i)) = if i = h.toNatClampNeg then v else f (B + (o + i))
theorem kT.rf {B o : Nat} {f : Nat → Int32} : kT B o f f := fun _ _ => rfl
theorem kT.tr {B o : Nat} {f g k : Nat → Int32} (h1 : kT B o f g) (h2 : kT B o g k) : kT B o f k := fun i hi => (h2 i hi).trans (h1 i hi)
theorem kT.s {B o : Nat} {f g k : Nat → Int32} {h v : Int32} (h1 : kT B o f g) (h2 : kSt B o h v g k) : kSt B o h v f k := fun i hi => by rw [h2 i hi, h1 i hi]
theorem kSt.t {B o : Nat} {f g k : Nat → Int32} {h v : Int32} (h1 : kSt B o h v f g) (h2 : kT B o g k) : kSt B o h v f k := fun i hi => by rw [h2 i hi, h1 i hi]
theorem kSt.s {B o : Nat} {f g k : Nat → Int32} {h v v' : Int32} (h1 : kSt B o h v f g) (h2 : kSt B o h v' g k) : kSt B o h v' f k := fun i hi => by
  rw [h2 i hi]
  by_cases e : i = h.toNatClampNeg
  · rw [if_pos e, if_pos e]
  · rw [if_neg e, if_neg e, h1 i hi, if_neg e]
theorem kF.five {m : List (Nat × Nat)} {B : Nat} {f g : Nat → Int32} (h : kF m B f g) (o : Nat) (hs : (m.all fun q => Nat.blt q.2 o || Nat.blt (o + 4) q.1) = true) : kT B o f g := by
  intro i hi
  rcases h (B + (o + i)) with e | ⟨k2, e, q, hq, h1, h2⟩
  · exact e
  · have h3 := List.all_eq_true.mp hs q hq
    simp only [Bool.or_eq_true, Nat.blt_eq] at h3
    omega
theorem kT_lay {lo hi : Int} {B o : Nat} {f g g' : Nat → Int32} {k v : Int32} (h : kT B o f g) (hk : kr lo hi k) (e : g' = upd g (B + k.toNatClampNeg) v) (hs : (decide (0 ≤ lo) && (decide (hi < (o : Int)) || decide ((o : Int) + 4 < lo))) = true) : kT B o f g' := by
  intro i hi2
  simp only [Bool.and_eq_true, Bool.or_eq_true, decide_eq_true_eq] at hs
  have h2 := kr_nat hk hs.1
  rw [e, ku_o (by omega)]
  exact h i hi2
theorem kSt_lay {lo hi : Int} {B o : Nat} {f g g' : Nat → Int32} {hd w k v : Int32} (h : kSt B o hd w f g) (hk : kr lo hi k) (e : g' = upd g (B + k.toNatClampNeg) v) (hs : (decide (0 ≤ lo) && (decide (hi < (o : Int)) || decide ((o : Int) + 4 < lo))) = true) : kSt B o hd w f g' := by
  intro i hi2
  simp only [Bool.and_eq_true, Bool.or_eq_true, decide_eq_true_eq] at hs
  have h2 := kr_nat hk hs.1
  rw [e, ku_o (by omega)]
  exact h i hi2
theorem kh_at {o : Nat} {a : Int} {hd k : Int32} (hh : kr 0 4 hd) (t : k.toInt = a + hd.toInt) (ha : a = (o : Int)) : k.toNatClampNeg = o + hd.toNatClampNeg := by
  have e1 : k.toNatClampNeg = k.toInt.toNat := rfl
  have e2 : hd.toNatClampNeg = hd.toInt.toNat := rfl
  have h1 := hh.1
  omega
theorem kT_at {a : Int} {B o : Nat} {f g g' : Nat → Int32} {hd k v : Int32} (h : kT B o f g) (hh : kr 0 4 hd) (t : k.toInt = a + hd.toInt) (ha : a = (o : Int)) (e : g' = upd g (B + k.toNatClampNeg) v) : kSt B o hd v f g' := by
  intro i hi2
  rw [e, kh_at hh t ha]
  by_cases q : i = hd.toNatClampNeg
  · rw [if_pos q, q, ku_s]
  · rw [if_neg q, ku_o (by omega)]
    exact h i hi2
theorem kSt_at {a : Int} {B o : Nat} {f g g' : Nat → Int32} {hd w k v : Int32} (h : kSt B o hd w f g) (hh : kr 0 4 hd) (t : k.toInt = a + hd.toInt) (ha : a = (o : Int)) (e : g' = upd g (B + k.toNatClampNeg) v) : kSt B o hd v f g' := by
  intro i hi2
  rw [e, kh_at hh t ha]
  by_cases q : i = hd.toNatClampNeg
  · rw [if_pos q, q, ku_s]
  · rw [if_neg q, ku_o (by omega), h i hi2, if_neg q]
def kz1 (x : Int32) : Int := if x = 0 then 0 else 1
/-- how many hands are not shut -/
def kZ (f : Nat → Int32) (B : Nat) : Int := kz1 (f (B + 170)) + kz1 (f (B + 171)) + kz1 (f (B + 172)) + kz1 (f (B + 173)) + kz1 (f (B + 174))
theorem kz1_nn (x : Int32) : 0 ≤ kz1 x ∧ kz1 x ≤ 1 := by
  unfold kz1
  split <;> omega
theorem kZ_nn (f : Nat → Int32) (B : Nat) : 0 ≤ kZ f B ∧ kZ f B ≤ 5 := by
  have h0 := kz1_nn (f (B + 170))
  have h1 := kz1_nn (f (B + 171))
  have h2 := kz1_nn (f (B + 172))
  have h3 := kz1_nn (f (B + 173))
  have h4 := kz1_nn (f (B + 174))
  unfold kZ
  omega
theorem kh_five {hd : Int32} (hh : kr 0 4 hd) : hd.toNatClampNeg = 0 ∨ hd.toNatClampNeg = 1 ∨ hd.toNatClampNeg = 2 ∨ hd.toNatClampNeg = 3 ∨ hd.toNatClampNeg = 4 := by
  have h := kr_nat hh (by omega)
  omega
theorem kSt_W {B : Nat} {f g : Nat → Int32} {hd v : Int32} (h : kSt B 170 hd v f g) (hh : kr 0 4 hd) : kW g B = kW f B - kw1 (f (B + (170 + hd.toNatClampNeg))) + kw1 v := by
  have e0 : g (B + 170) = if 0 = hd.toNatClampNeg then v else f (B + 170) := h 0 (by omega)
  have e1 : g (B + 171) = if 1 = hd.toNatClampNeg then v else f (B + 171) := h 1 (by omega)
  have e2 : g (B + 172) = if 2 = hd.toNatClampNeg then v else f (B + 172) := h 2 (by omega)
  have e3 : g (B + 173) = if 3 = hd.toNatClampNeg then v else f (B + 173) := h 3 (by omega)
  have e4 : g (B + 174) = if 4 = hd.toNatClampNeg then v else f (B + 174) := h 4 (by omega)
  unfold kW
  rcases kh_five hh with e | e | e | e | e <;> rw [e] at e0 e1 e2 e3 e4
  · rw [if_pos rfl] at e0; rw [if_neg (by decide)] at e1; rw [if_neg (by decide)] at e2; rw [if_neg (by decide)] at e3; rw [if_neg (by decide)] at e4
    rw [e, e0, e1, e2, e3, e4, show f (B + (170 + 0)) = f (B + 170) from rfl]
    omega
  · rw [if_neg (by decide)] at e0; rw [if_pos rfl] at e1; rw [if_neg (by decide)] at e2; rw [if_neg (by decide)] at e3; rw [if_neg (by decide)] at e4
    rw [e, e0, e1, e2, e3, e4, show f (B + (170 + 1)) = f (B + 171) from rfl]
    omega
  · rw [if_neg (by decide)] at e0; rw [if_neg (by decide)] at e1; rw [if_pos rfl] at e2; rw [if_neg (by decide)] at e3; rw [if_neg (by decide)] at e4
    rw [e, e0, e1, e2, e3, e4, show f (B + (170 + 2)) = f (B + 172) from rfl]
    omega
  · rw [if_neg (by decide)] at e0; rw [if_neg (by decide)] at e1; rw [if_neg (by decide)] at e2; rw [if_pos rfl] at e3; rw [if_neg (by decide)] at e4
    rw [e, e0, e1, e2, e3, e4, show f (B + (170 + 3)) = f (B + 173) from rfl]
    omega
  · rw [if_neg (by decide)] at e0; rw [if_neg (by decide)] at e1; rw [if_neg (by decide)] at e2; rw [if_neg (by decide)] at e3; rw [if_pos rfl] at e4
    rw [e, e0, e1, e2, e3, e4, show f (B + (170 + 4)) = f (B + 174) from rfl]
    omega
theorem kSt_Z {B : Nat} {f g : Nat → Int32} {hd v : Int32} (h : kSt B 170 hd v f g) (hh : kr 0 4 hd) : kZ g B = kZ f B - kz1 (f (B + (170 + hd.toNatClampNeg))) + kz1 v := by
  have e0 : g (B + 170) = if 0 = hd.toNatClampNeg then v else f (B + 170) := h 0 (by omega)
  have e1 : g (B + 171) = if 1 = hd.toNatClampNeg then v else f (B + 171) := h 1 (by omega)
  have e2 : g (B + 172) = if 2 = hd.toNatClampNeg then v else f (B + 172) := h 2 (by omega)
  have e3 : g (B + 173) = if 3 = hd.toNatClampNeg then v else f (B + 173) := h 3 (by omega)
  have e4 : g (B + 174) = if 4 = hd.toNatClampNeg then v else f (B + 174) := h 4 (by omega)
  unfold kZ
  rcases kh_five hh with e | e | e | e | e <;> rw [e] at e0 e1 e2 e3 e4
  · rw [if_pos rfl] at e0; rw [if_neg (by decide)] at e1; rw [if_neg (by decide)] at e2; rw [if_neg (by decide)] at e3; rw [if_neg (by decide)] at e4
    rw [e, e0, e1, e2, e3, e4, show f (B + (170 + 0)) = f (B + 170) from rfl]
    omega
  · rw [if_neg (by decide)] at e0; rw [if_pos rfl] at e1; rw [if_neg (by decide)] at e2; rw [if_neg (by decide)] at e3; rw [if_neg (by decide)] at e4
    rw [e, e0, e1, e2, e3, e4, show f (B + (170 + 1)) = f (B + 171) from rfl]
    omega
  · rw [if_neg (by decide)] at e0; rw [if_neg (by decide)] at e1; rw [if_pos rfl] at e2; rw [if_neg (by decide)] at e3; rw [if_neg (by decide)] at e4
    rw [e, e0, e1, e2, e3, e4, show f (B + (170 + 2)) = f (B + 172) from rfl]
    omega
  · rw [if_neg (by decide)] at e0; rw [if_neg (by decide)] at e1; rw [if_neg (by decide)] at e2; rw [if_pos rfl] at e3; rw [if_neg (by decide)] at e4
    rw [e, e0, e1, e2, e3, e4, show f (B + (170 + 3)) = f (B + 173) from rfl]
    omega
  · rw [if_neg (by decide)] at e0; rw [if_neg (by decide)] at e1; rw [if_neg (by decide)] at e2; rw [if_neg (by decide)] at e3; rw [if_pos rfl] at e4
    rw [e, e0, e1, e2, e3, e4, show f (B + (170 + 4)) = f (B + 174) from rfl]
    omega
theorem kT_W {B : Nat} {f g : Nat → Int32} (h : kT B 170 f g) : kW g B = kW f B ∧ kZ g B = kZ f B := by
  have e0 : g (B + 170) = f (B + 170) := h 0 (by omega)
  have e1 : g (B + 171) = f (B + 171) := h 1 (by omega)
  have e2 : g (B + 172) = f (B + 172) := h 2 (by omega)
  have e3 : g (B + 173) = f (B + 173) := h 3 (by omega)
  have e4 : g (B + 174) = f (B + 174) := h 4 (by omega)
  unfold kW kZ
  rw [e0, e1, e2, e3, e4]
  exact ⟨rfl, rfl⟩
/-- the first place whose key isn't less, n places being left -/
def kPl (f : Nat → Int32) (B : Nat) (b : Int32) : Nat → Nat
  | 0 => 24
  | n + 1 => if ((24 - (n + 1) : Nat) : Int) < (f B).toInt ∧ (f (B + (1 + (24 - (n + 1))))).toInt < b.toInt then kPl f B b n else 24 - (n + 1)
theorem kPl_s {f : Nat → Int32} {B : Nat} {b m i v r i' : Int32} (hi : kr 0 23 i) (em : m = f (B + Int32.toNatClampNeg 0)) (l1 : i.toInt < m.toInt) (tv : v.toInt = 1 + i.toInt) (er : r = f (B + v.toNatClampNeg)) (l2 : r.toInt < b.toInt) (ti : i'.toInt = i.toInt + 1) : kPl f B b (24 - i.toNatClampNeg) = kPl f B b (24 - i'.toNatClampNeg) := by
  have e0 : Int32.toNatClampNeg 0 = 0 := by decide
  rw [e0] at em
  have em : m = f B := em
  have h1 := kr_nat hi (by omega)
  have h9 := hi.1
  have e1 : i.toNatClampNeg = i.toInt.toNat := rfl
  have e2 : i'.toNatClampNeg = i'.toInt.toNat := rfl
  have e3 : v.toNatClampNeg = v.toInt.toNat := rfl
  have e4 : 24 - i.toNatClampNeg = (24 - i'.toNatClampNeg) + 1 := by omega
  have e5 : 24 - ((24 - i'.toNatClampNeg) + 1) = i.toNatClampNeg := by omega
  rw [e4]
  show (if ((24 - ((24 - i'.toNatClampNeg) + 1) : Nat) : Int) < (f B).toInt ∧ (f (B + (1 + (24 - ((24 - i'.toNatClampNeg) + 1))))).toInt < b.toInt then _ else _) = _
  rw [e5, if_pos]
  refine ⟨?_, ?_⟩
  · rw [← em]; omega
  · rw [show 1 + i.toNatClampNeg = v.toNatClampNeg by omega, ← er]; exact l2
theorem kPl_e {f : Nat → Int32} {B : Nat} {b i : Int32} (hi : kr 0 24 i) (h : i.toInt < 24 → ¬ (i.toInt < (f B).toInt ∧ (f (B + (1 + i.toNatClampNeg))).toInt < b.toInt)) : kPl f B b (24 - i.toNatClampNeg) = i.toNatClampNeg := by
  have h1 := kr_nat hi (by omega)
  have h9 := hi.1
  have e1 : i.toNatClampNeg = i.toInt.toNat := rfl
  by_cases q : i.toInt < 24
  · have e4 : 24 - i.toNatClampNeg = (23 - i.toNatClampNeg) + 1 := by omega
    have e5 : 24 - ((23 - i.toNatClampNeg) + 1) = i.toNatClampNeg := by omega
    rw [e4]
    show (if ((24 - ((23 - i.toNatClampNeg) + 1) : Nat) : Int) < (f B).toInt ∧ (f (B + (1 + (24 - ((23 - i.toNatClampNeg) + 1))))).toInt < b.toInt then _ else _) = _
    rw [e5, if_neg]
    intro ⟨a1, a2⟩
    exact h q ⟨by omega, a2⟩
  · have e : i.toNatClampNeg = 24 := by omega
    rw [e]
    rfl
theorem kPl_e1 {f : Nat → Int32} {B : Nat} {b i m : Int32} (hi : kr 0 24 i) (em : m = f (B + Int32.toNatClampNeg 0)) (l1 : m.toInt ≤ i.toInt) : kPl f B b (24 - i.toNatClampNeg) = i.toNatClampNeg := by
  have e0 : Int32.toNatClampNeg 0 = 0 := by decide
  rw [e0] at em
  have em : m = f B := em
  exact kPl_e hi (fun _ q => by have := q.1; rw [← em] at this; omega)
theorem kPl_e2 {f : Nat → Int32} {B : Nat} {b i v r : Int32} (hi : kr 0 24 i) (tv : v.toInt = 1 + i.toInt) (er : r = f (B + v.toNatClampNeg)) (l2 : b.toInt ≤ r.toInt) : kPl f B b (24 - i.toNatClampNeg) = i.toNatClampNeg := by
  have h1 := kr_nat hi (by omega)
  have h9 := hi.1
  have e1 : i.toNatClampNeg = i.toInt.toNat := rfl
  have e3 : v.toNatClampNeg = v.toInt.toNat := rfl
  refine kPl_e hi (fun _ q => ?_)
  have h2 := q.2
  rw [show 1 + i.toNatClampNeg = v.toNatClampNeg by omega, ← er] at h2
  omega
theorem kPl_le (f : Nat → Int32) (B : Nat) (b : Int32) : ∀ n, n ≤ 24 → kPl f B b n = 24 - n ∨ ((kPl f B b n : Nat) : Int) ≤ (f B).toInt ∧ kPl f B b n ≤ 24
  | 0, _ => Or.inl rfl
  | n + 1, h => by
    show (if ((24 - (n + 1) : Nat) : Int) < (f B).toInt ∧ (f (B + (1 + (24 - (n + 1))))).toInt < b.toInt then kPl f B b n else 24 - (n + 1)) = _ ∨ (((if ((24 - (n + 1) : Nat) : Int) < (f B).toInt ∧ (f (B + (1 + (24 - (n + 1))))).toInt < b.toInt then kPl f B b n else 24 - (n + 1)) : Nat) : Int) ≤ _ ∧ (if ((24 - (n + 1) : Nat) : Int) < (f B).toInt ∧ (f (B + (1 + (24 - (n + 1))))).toInt < b.toInt then kPl f B b n else 24 - (n + 1)) ≤ 24
    split
    · rename_i q
      rcases kPl_le f B b n (by omega) with e | e
      · exact Or.inr ⟨by omega, by omega⟩
      · exact Or.inr e
    · exact Or.inl rfl
/-- a key is there -/
def kTh (f : Nat → Int32) (B : Nat) (i : Nat) (b : Int32) : Bool := decide ((i : Int) < (f B).toInt) && decide (f (B + (1 + i)) = b)
theorem kTh_0 {f : Nat → Int32} {B : Nat} {b i m : Int32} (hi : kr 0 24 i) (em : m = f (B + Int32.toNatClampNeg 0)) (l1 : m.toInt ≤ i.toInt) : kTh f B i.toNatClampNeg b = false := by
  have e0 : Int32.toNatClampNeg 0 = 0 := by decide
  rw [e0] at em
  have em : m = f B := em
  have h1 := kr_nat hi (by omega)
  have h9 := hi.1
  have e1 : i.toNatClampNeg = i.toInt.toNat := rfl
  unfold kTh
  rw [← em, decide_eq_false (by omega), Bool.false_and]
theorem kTh_1 {f : Nat → Int32} {B : Nat} {b i v r : Int32} (hi : kr 0 24 i) (tv : v.toInt = 1 + i.toInt) (er : r = f (B + v.toNatClampNeg)) (h : ¬ r = b) : kTh f B i.toNatClampNeg b = false := by
  have h1 := kr_nat hi (by omega)
  have h9 := hi.1
  have e1 : i.toNatClampNeg = i.toInt.toNat := rfl
  have e3 : v.toNatClampNeg = v.toInt.toNat := rfl
  unfold kTh
  rw [show 1 + i.toNatClampNeg = v.toNatClampNeg by omega, ← er, decide_eq_false h, Bool.and_false]
theorem kTh_2 {f : Nat → Int32} {B : Nat} {b i m v r : Int32} (hi : kr 0 24 i) (em : m = f (B + Int32.toNatClampNeg 0)) (l1 : i.toInt < m.toInt) (tv : v.toInt = 1 + i.toInt) (er : r = f (B + v.toNatClampNeg)) (h : r = b) : kTh f B i.toNatClampNeg b = true := by
  have e0 : Int32.toNatClampNeg 0 = 0 := by decide
  rw [e0] at em
  have em : m = f B := em
  have h1 := kr_nat hi (by omega)
  have h9 := hi.1
  have e1 : i.toNatClampNeg = i.toInt.toNat := rfl
  have e3 : v.toNatClampNeg = v.toInt.toNat := rfl
  unfold kTh
  rw [show 1 + i.toNatClampNeg = v.toNatClampNeg by omega, ← er, decide_eq_true h, ← em, decide_eq_true (by omega)]
  rfl
def kOth (h : Int32) : Int32 := ((1 : Int32) <<< (h &&& 31)) ^^^ (-1)
/-- the key of the first place that others have whole, n places being left -/
def kFs (f : Nat → Int32) (B : Nat) (h : Int32) : Nat → Int32
  | 0 => 0
  | n + 1 => if f (B + (146 + (24 - (n + 1)))) &&& kOth h = 0 then kFs f B h n else f (B + (1 + (24 - (n + 1))))
def kN1 (f : Nat → Int32) (B : Nat) (i : Nat) : Int32 := if f (B + (190 + i)) = 3 then 1 else if f (B + (190 + i)) = 7 then (if kTh f B (kPl f B (f (B + (195 + i))) 24) (f (B + (195 + i))) = true then 1 else 3) else if f (B + (190 + i)) = 4 then 1 else 2
def kN2 (f : Nat → Int32) (B : Nat) (i : Nat) : Int32 := if f (B + (190 + i)) = 3 then kFs f B (nI i) (24 - kPl f B (f (B + (195 + i))) 24) else f (B + (195 + i))
def kAg (B : Nat) (f g : Nat → Int32) : Prop := ∀ k, (k ≤ 96 ∨ (146 ≤ k ∧ k ≤ 169) ∨ (190 ≤ k ∧ k ≤ 199)) → g (B + k) = f (B + k)
theorem kAg.rf {B : Nat} {f : Nat → Int32} : kAg B f f := fun _ _ => rfl
theorem kAg.tr {B : Nat} {f g k : Nat → Int32} (h1 : kAg B f g) (h2 : kAg B g k) : kAg B f k := fun i hi => (h2 i hi).trans (h1 i hi)
theorem kF.ag {m : List (Nat × Nat)} {B : Nat} {f g : Nat → Int32} (h : kF m B f g) (hs : (m.all fun q => (Nat.ble 97 q.1 && Nat.ble q.2 145) || (Nat.ble 170 q.1 && Nat.ble q.2 189) || Nat.ble 200 q.1) = true) : kAg B f g := by
  intro i hi
  rcases h (B + i) with e | ⟨k2, e, q, hq, h1, h2⟩
  · exact e
  · have h3 := List.all_eq_true.mp hs q hq
    simp only [Bool.or_eq_true, Bool.and_eq_true, Nat.ble_eq] at h3
    omega
theorem kPl_ag {B : Nat} {f g : Nat → Int32} (h : kAg B f g) (b : Int32) : ∀ n, n ≤ 24 → kPl g B b n = kPl f B b n
  | 0, _ => rfl
  | n + 1, hn => by
    have h0 : g B = f B := h 0 (Or.inl (by omega))
    show (if ((24 - (n + 1) : Nat) : Int) < (g B).toInt ∧ (g (B + (1 + (24 - (n + 1))))).toInt < b.toInt then kPl g B b n else 24 - (n + 1)) = (if ((24 - (n + 1) : Nat) : Int) < (f B).toInt ∧ (f (B + (1 + (24 - (n + 1))))).toInt < b.toInt then kPl f B b n else 24 - (n + 1))
    rw [h0, h (1 + (24 - (n + 1))) (Or.inl (by omega)), kPl_ag h b n (by omega)]
theorem kFs_ag {B : Nat} {f g : Nat → Int32} (h : kAg B f g) (hd : Int32) : ∀ n, n ≤ 24 → kFs g B hd n = kFs f B hd n
  | 0, _ => rfl
  | n + 1, hn => by
    show (if g (B + (146 + (24 - (n + 1)))) &&& kOth hd = 0 then kFs g B hd n else g (B + (1 + (24 - (n + 1))))) = (if f (B + (146 + (24 - (n + 1)))) &&& kOth hd = 0 then kFs f B hd n else f (B + (1 + (24 - (n + 1)))))
    rw [h (146 + (24 - (n + 1))) (Or.inr (Or.inl ⟨by omega, by omega⟩)), h (1 + (24 - (n + 1))) (Or.inl (by omega)), kFs_ag h hd n (by omega)]
theorem kPl_24 (f : Nat → Int32) (B : Nat) (b : Int32) : kPl f B b 24 ≤ 24 := by
  rcases kPl_le f B b 24 (by omega) with e | e
  · omega
  · exact e.2
theorem kTh_ag {B : Nat} {f g : Nat → Int32} (h : kAg B f g) (b : Int32) : kTh g B (kPl f B b 24) b = kTh f B (kPl f B b 24) b := by
  have h0 : g B = f B := h 0 (Or.inl (by omega))
  have h1 := kPl_24 f B b
  unfold kTh
  rw [h0, h (1 + kPl f B b 24) (Or.inl (by omega))]
theorem kN_ag {B : Nat} {f g : Nat → Int32} (h : kAg B f g) {i : Nat} (hi : i < 5) : kN1 g B i = kN1 f B i ∧ kN2 g B i = kN2 f B i := by
  have e1 : g (B + (190 + i)) = f (B + (190 + i)) := h _ (Or.inr (Or.inr ⟨by omega, by omega⟩))
  have e2 : g (B + (195 + i)) = f (B + (195 + i)) := h _ (Or.inr (Or.inr ⟨by omega, by omega⟩))
  unfold kN1 kN2
  rw [e1, e2, kPl_ag h _ 24 (by omega), kTh_ag h, kFs_ag h _ _ (by omega)]
  exact ⟨rfl, rfl⟩
def kd1 (f : Nat → Int32) (B i : Nat) : Int := if f (B + (210 + i)) = kN1 f B i ∧ f (B + (215 + i)) = kN2 f B i then 0 else 1
theorem kd1_nn (f : Nat → Int32) (B i : Nat) : 0 ≤ kd1 f B i ∧ kd1 f B i ≤ 1 := by
  unfold kd1
  split <;> omega
/-- how many hands' needs are not what they would be now -/
def kDf (f : Nat → Int32) (B : Nat) : Int := kd1 f B 0 + kd1 f B 1 + kd1 f B 2 + kd1 f B 3 + kd1 f B 4
theorem kDf_nn (f : Nat → Int32) (B : Nat) : 0 ≤ kDf f B ∧ kDf f B ≤ 5 := by
  have h0 := kd1_nn f B 0
  have h1 := kd1_nn f B 1
  have h2 := kd1_nn f B 2
  have h3 := kd1_nn f B 3
  have h4 := kd1_nn f B 4
  unfold kDf
  omega
theorem kd1_eq {B i : Nat} {f g : Nat → Int32} (h : kAg B f g) (hi : i < 5) (h1 : g (B + (210 + i)) = f (B + (210 + i))) (h2 : g (B + (215 + i)) = f (B + (215 + i))) : kd1 g B i = kd1 f B i := by
  unfold kd1
  rw [(kN_ag h hi).1, (kN_ag h hi).2, h1, h2]
def kMu (f : Nat → Int32) (B : Nat) : Int := 1000 * kW f B + 100 * kM f B + 10 * kDf f B
theorem kMu_nn (f : Nat → Int32) (B : Nat) : 0 ≤ kMu f B := by
  have h1 := kW_nn f B
  have h2 := kM_nn f B
  have h3 := kDf_nn f B
  unfold kMu
  omega
theorem kMu_W {B : Nat} {f g : Nat → Int32} (h : kW g B ≤ kW f B - 1) : kMu g B + 10 ≤ kMu f B := by
  have h2 := kM_nn f B
  have h3 := kDf_nn f B
  have h4 := kM_nn g B
  have h5 := kDf_nn g B
  unfold kMu
  omega
theorem kMu_M {B : Nat} {f g : Nat → Int32} (h : kW g B = kW f B) (h1 : (f B).toInt = -3) (h2 : (g B).toInt = -2) : kMu g B + 10 ≤ kMu f B := by
  have h3 := kDf_nn f B
  have h5 := kDf_nn g B
  have e1 : kM f B = 1 := if_pos (by omega)
  have e2 : kM g B = 0 := if_neg (by omega)
  unfold kMu
  omega
theorem kMu_Q {B : Nat} {f g : Nat → Int32} (h : kF [(97, 145)] B f g) : kMu g B = kMu f B := by
  have ha : kAg B f g := h.ag rfl
  have h1 := h.five 210 rfl
  have h2 := h.five 215 rfl
  have h0 : g B = f B := ha 0 (Or.inl (by omega))
  unfold kMu kDf
  rw [(kT_W (h.five 170 rfl)).1, kM_eq h0, kd1_eq ha (by omega) (h1 0 (by omega)) (h2 0 (by omega)), kd1_eq ha (by omega) (h1 1 (by omega)) (h2 1 (by omega)), kd1_eq ha (by omega) (h1 2 (by omega)) (h2 2 (by omega)), kd1_eq ha (by omega) (h1 3 (by omega)) (h2 3 (by omega)), kd1_eq ha (by omega) (h1 4 (by omega)) (h2 4 (by omega))]
/-- a hand that is stopped: what it needs; or a count that looks like it -/
def kStop (B : Nat) (f g : Nat → Int32) (n1 n2 a1 a2 : Int32) : Prop := (kF [(97, 145)] B f g ∧ n1 = a1 ∧ n2 = a2) ∨ ((f B).toInt = -3 ∧ (g B).toInt = -2 ∧ kF [(0, 169), (227, 227)] B f g)
/-- .. and it isn't what it needed before -/
def kStop2 (B : Nat) (h : Int32) (f g : Nat → Int32) (n1 n2 : Int32) : Prop := (kF [(97, 145)] B f g ∧ n1 = kN1 f B h.toNatClampNeg ∧ n2 = kN2 f B h.toNatClampNeg ∧ ¬ (f (B + (210 + h.toNatClampNeg)) = n1 ∧ f (B + (215 + h.toNatClampNeg)) = n2)) ∨ ((f B).toInt = -3 ∧ (g B).toInt = -2 ∧ kF [(0, 169), (227, 227)] B f g)
theorem kGo_v {B : Nat} {f g : Nat → Int32} {h v : Int32} (hv : ¬ v = 2) (s : kSt B 170 h v f g) (hh : kr 0 4 h) (hst : f (B + (170 + h.toNatClampNeg)) = 2) : kMu g B + 10 ≤ kMu f B ∧ kZ g B ≤ kZ f B := by
  have e1 := kSt_W s hh
  have e2 := kSt_Z s hh
  rw [hst, kw1_2, kw1_no hv] at e1
  rw [hst, show kz1 2 = 1 from rfl] at e2
  have h3 := kz1_nn v
  exact ⟨kMu_W (by omega), by omega⟩
theorem kGo_no {B : Nat} {f g : Nat → Int32} {n1 n2 a1 a2 : Int32} (h : kStop B f g n1 n2 a1 a2) : (kMu g B = kMu f B ∨ kMu g B + 10 ≤ kMu f B) ∧ kZ g B ≤ kZ f B := by
  rcases h with h | h
  · exact ⟨Or.inl (kMu_Q h.1), by rw [(kT_W (h.1.five 170 rfl)).2]; omega⟩
  · have h3 := kT_W (h.2.2.five 170 rfl)
    exact ⟨Or.inr (kMu_M h3.1 h.1 h.2.1), by omega⟩
theorem kGo_wait {B : Nat} {f g g2 g3 : Nat → Int32} {h k n1 n2 : Int32} (hk : kStop2 B h f g n1 n2) (hh : kr 0 4 h) (t : k.toInt = 170 + h.toInt) (e2 : g2 = upd g (B + k.toNatClampNeg) 1) (hF : kF [(170, 174), (185, 189), (210, 225)] B g2 g3) (s1 : kSt B 170 h 2 g2 g3) (s2 : kSt B 210 h n1 g2 g3) (s3 : kSt B 215 h n2 g2 g3) (hst : f (B + (170 + h.toNatClampNeg)) = 2) : kMu g3 B + 10 ≤ kMu f B ∧ kZ g3 B ≤ kZ f B := by
  have hu : kF [(170, 174)] B g g2 := by rw [e2]; exact kF.lay kF.rf (lo := 170) (hi := 174) ⟨by have := hh.1; omega, by have := hh.2; omega⟩ rfl
  have hT2 : kSt B 170 h 1 g g2 := kT_at kT.rf hh t rfl e2
  have hS : kSt B 170 h 2 g g3 := hT2.s s1
  have h0 : g3 B = g B := by
    have a : g2 B = g B := (hu.ag rfl) 0 (Or.inl (by omega))
    have b : g3 B = g2 B := (hF.ag rfl) 0 (Or.inl (by omega))
    exact b.trans a
  have key : ∀ {q : Nat → Int32}, kT B 170 q g → q (B + (170 + h.toNatClampNeg)) = 2 → kW g3 B = kW q B ∧ kZ g3 B = kZ q B := by
    intro q hq hst2
    have e1 := kSt_W (hq.s hS) hh
    have e3 := kSt_Z (hq.s hS) hh
    rw [hst2] at e1 e3
    exact ⟨by omega, by omega⟩
  rcases hk with ⟨hQ, b1, b2, b3⟩ | ⟨b1, b2, b3⟩
  · obtain ⟨w1, w2⟩ := key (hQ.five 170 rfl) hst
    have ha : kAg B f g3 := ((hQ.ag rfl).tr (hu.ag rfl)).tr (hF.ag rfl)
    have h00 : g3 B = f B := ha 0 (Or.inl (by omega))
    have q1 : kSt B 210 h n1 f g3 := ((hQ.five 210 rfl).tr (hu.five 210 rfl)).s s2
    have q2 : kSt B 215 h n2 f g3 := ((hQ.five 215 rfl).tr (hu.five 215 rfl)).s s3
    have hd : ∀ i, i < 5 → kd1 g3 B i = if i = h.toNatClampNeg then kd1 f B i - 1 else kd1 f B i := by
      intro i hi
      by_cases e : i = h.toNatClampNeg
      · rw [if_pos e]
        have a1 : g3 (B + (210 + i)) = n1 := by rw [q1 i hi, if_pos e]
        have a2 : g3 (B + (215 + i)) = n2 := by rw [q2 i hi, if_pos e]
        have a3 : kd1 g3 B i = 0 := by
          unfold kd1
          rw [(kN_ag ha hi).1, (kN_ag ha hi).2, a1, a2, if_pos ⟨by rw [b1, e], by rw [b2, e]⟩]
        have a4 : kd1 f B i = 1 := by
          unfold kd1
          rw [if_neg]
          intro c
          rw [e, ← b1, ← b2] at c
          exact b3 c
        omega
      · rw [if_neg e]
        exact kd1_eq ha hi (by rw [q1 i hi, if_neg e]) (by rw [q2 i hi, if_neg e])
    have hD : kDf g3 B = kDf f B - 1 := by
      unfold kDf
      rw [hd 0 (by omega), hd 1 (by omega), hd 2 (by omega), hd 3 (by omega), hd 4 (by omega)]
      rcases kh_five hh with e | e | e | e | e <;> rw [e] <;> simp <;> omega
    refine ⟨?_, by omega⟩
    unfold kMu
    rw [w1, kM_eq h00, hD]
    omega
  · obtain ⟨w1, w2⟩ := key (b3.five 170 rfl) hst
    exact ⟨kMu_M w1 b1 (by rw [h0]; exact b2), by omega⟩
/-- G over a frame that leaves all that it speaks of -/
theorem kG_Q {K N M : Int} {B : Nat} {f g : Nat → Int32} (h : kG K N M f B) (hq : kF [(97, 145)] B f g) : kG K N M g B := by
  have e : ∀ k, (k ≤ 96 ∨ 146 ≤ k) → g (B + k) = f (B + k) := by
    intro k hk
    rcases hq (B + k) with e | ⟨k2, e, q, hq2, h1, h2⟩
    · exact e
    · rcases List.mem_singleton.mp hq2 with rfl
      have h1 : 97 ≤ k2 := h1
      have h2 : k2 ≤ 145 := h2
      omega
  have e0 : g B = f B := e 0 (by omega)
  have hw := (kT_W (hq.five 170 rfl)).1
  obtain ⟨g0, g1, g2, g3, g4, g5, g6, g7, g8, g9⟩ := h
  refine ⟨?_, ?_, ?_, ?_, ?_, fun i a b => ?_, fun i a b => ?_, fun i a b => ?_, fun i a b => ?_, fun i a b => ?_⟩
  · rw [e0]; exact g0
  · rw [e0, hw]; exact g1
  · rw [e _ (by omega), hw, kM_eq e0]; exact g2
  · rw [e _ (by omega)]; exact g3
  · rw [e _ (by omega)]; exact g4
  · rw [e _ (by omega)]; exact g5 i a b
  · rw [e _ (by omega)]; exact g6 i a b
  · rw [e _ (by omega)]; exact g7 i a b
  · rw [e _ (by omega)]; exact g8 i a b
  · rw [e _ (by omega)]; exact g9 i a b
/-- a key came where the count was -3 -/
theorem kG_spur {K N M : Int} {B : Nat} {f g : Nat → Int32} (h : kG K N M f B) (h2 : kG K (N + 1) M g B) (ht : kT B 170 f g) (hl : (g (B + 227)).toInt = (f (B + 227)).toInt + 1) (a1 : (f B).toInt = -3) (a2 : (g B).toInt = -2) : kG K N M g B := by
  have e1 : kM f B = 1 := if_pos (by omega)
  have e2 : kM g B = 0 := if_neg (by omega)
  have hw := (kT_W ht).1
  have q := h.2.2.1
  obtain ⟨g0, g1, g2, g3, g4, g5, g6, g7, g8, g9⟩ := h2
  exact ⟨g0, g1, by omega, g3, g4, g5, g6, g7, g8, g9⟩
/-- steps that are kept -/
def kk1 (x : Int32) : Int := if x = 1 then 1 else 0
def kK (f : Nat → Int32) (B : Nat) : Nat → Int
  | 0 => 0
  | n + 1 => kK f B n + kk1 (f (B + (254 + n)))
theorem kk1_nn (x : Int32) : 0 ≤ kk1 x ∧ kk1 x ≤ 1 := by
  unfold kk1
  split <;> omega
theorem kK_nn (f : Nat → Int32) (B : Nat) : ∀ n, 0 ≤ kK f B n ∧ kK f B n ≤ n
  | 0 => ⟨Int.le_refl _, Int.le_refl _⟩
  | n + 1 => by
    have h1 := kK_nn f B n
    have h2 := kk1_nn (f (B + (254 + n)))
    have e : kK f B (n + 1) = kK f B n + kk1 (f (B + (254 + n))) := rfl
    omega
theorem kK_eq {B : Nat} {f g : Nat → Int32} : ∀ n, (∀ i, i < n → g (B + (254 + i)) = f (B + (254 + i))) → kK g B n = kK f B n
  | 0, _ => rfl
  | n + 1, h => by
    show kK g B n + kk1 (g (B + (254 + n))) = kK f B n + kk1 (f (B + (254 + n)))
    rw [kK_eq n (fun i hi => h i (by omega)), h n (by omega)]
theorem kF.kk {m : List (Nat × Nat)} {B : Nat} {f g : Nat → Int32} (h : kF m B f g) (hs : (m.all fun q => Nat.blt q.2 254 || Nat.blt 277 q.1) = true) : kK g B 24 = kK f B 24 := by
  refine kK_eq 24 (fun i hi => ?_)
  rcases h (B + (254 + i)) with e | ⟨k2, e, q, hq, h1, h2⟩
  · exact e
  · have h3 := List.all_eq_true.mp hs q hq
    simp only [Bool.or_eq_true, Nat.blt_eq] at h3
    omega
theorem kK_u {B s : Nat} {f : Nat → Int32} {v : Int32} : ∀ n, kK (upd f (B + (254 + s)) v) B n = kK f B n + (if s < n then kk1 v - kk1 (f (B + (254 + s))) else 0)
  | 0 => by rw [if_neg (by omega)]; rfl
  | n + 1 => by
    show kK (upd f (B + (254 + s)) v) B n + kk1 (upd f (B + (254 + s)) v (B + (254 + n))) = kK f B n + kk1 (f (B + (254 + n))) + _
    rw [kK_u n]
    by_cases e : n = s
    · subst e
      rw [ku_s, if_neg (by omega), if_pos (by omega)]
      omega
    · rw [ku_o (by omega)]
      by_cases q : s < n
      · rw [if_pos q, if_pos (by omega)]
        omega
      · rw [if_neg q, if_neg (by omega)]
        omega
/-- a step's mark is laid -/
theorem kK_lay {B : Nat} {f g : Nat → Int32} {s k v : Int32} {a : Int} (hs : kr 0 23 s) (t : k.toInt = a + s.toInt) (ha : a = 254) (e : g = upd f (B + k.toNatClampNeg) v) : kK g B 24 = kK f B 24 + kk1 v - kk1 (f (B + k.toNatClampNeg)) := by
  have h1 := kr_nat hs (by omega)
  have h9 := hs.1
  have e1 : k.toNatClampNeg = k.toInt.toNat := rfl
  have e2 : s.toNatClampNeg = s.toInt.toNat := rfl
  have e3 : k.toNatClampNeg = 254 + s.toNatClampNeg := by omega
  rw [e, e3, kK_u, if_pos (by omega)]
  omega
