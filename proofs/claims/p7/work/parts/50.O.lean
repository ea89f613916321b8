/-! ===== orders of hands; hands by chance ===== -/
def kdis (f : Nat → Int32) : Prop := ∀ a b, a < 5 → b < 5 → f a = f b → a = b
def kV (f : Nat → Int32) : Int := 625 * (f 0).toInt + 125 * (f 1).toInt + 25 * (f 2).toInt + 5 * (f 3).toInt + (f 4).toInt
theorem kV_nn {f : Nat → Int32} (h : ka 0 4 f) : 0 ≤ kV f ∧ kV f ≤ 3124 := by
  have h0 := h 0
  have h1 := h 1
  have h2 := h 2
  have h3 := h 3
  have h4 := h 4
  unfold kr at h0 h1 h2 h3 h4
  unfold kV
  omega
theorem kV_lt {f g : Nat → Int32} {i : Nat} (hf : ka 0 4 f) (hg : ka 0 4 g) (hi : i < 5) (he : ∀ p, p < i → g p = f p) (hl : (f i).toInt < (g i).toInt) : kV f + 1 ≤ kV g := by
  have f0 := hf 0
  have f1 := hf 1
  have f2 := hf 2
  have f3 := hf 3
  have f4 := hf 4
  have g0 := hg 0
  have g1 := hg 1
  have g2 := hg 2
  have g3 := hg 3
  have g4 := hg 4
  unfold kr at f0 f1 f2 f3 f4 g0 g1 g2 g3 g4
  unfold kV
  rcases (show i = 0 ∨ i = 1 ∨ i = 2 ∨ i = 3 ∨ i = 4 by omega) with rfl | rfl | rfl | rfl | rfl
  · omega
  · rw [he 0 (by omega)]; omega
  · rw [he 0 (by omega), he 1 (by omega)]; omega
  · rw [he 0 (by omega), he 1 (by omega), he 2 (by omega)]; omega
  · rw [he 0 (by omega), he 1 (by omega), he 2 (by omega), he 3 (by omega)]; omega
theorem ksw_at {f : Nat → Int32} {i j : Nat} (a : Nat) : upd (upd f i (f j)) j (f i) a = if a = j then f i else if a = i then f j else f a := rfl
theorem kdis_swap {f : Nat → Int32} {i j : Nat} (h : kdis f) (hi : i < 5) (hj : j < 5) : kdis (upd (upd f i (f j)) j (f i)) := by
  intro a b ha hb
  rw [ksw_at, ksw_at]
  by_cases a1 : a = j
  · by_cases b1 : b = j
    · intro _; omega
    · rw [if_pos a1, if_neg b1]
      by_cases b2 : b = i
      · rw [if_pos b2]
        intro e
        have := h i j hi hj e
        omega
      · rw [if_neg b2]
        intro e
        have := h i b hi hb e
        omega
  · rw [if_neg a1]
    by_cases a2 : a = i
    · rw [if_pos a2]
      by_cases b1 : b = j
      · rw [if_pos b1]
        intro e
        have := h j i hj hi e
        omega
      · rw [if_neg b1]
        by_cases b2 : b = i
        · intro _; omega
        · rw [if_neg b2]
          intro e
          have := h j b hj hb e
          omega
    · rw [if_neg a2]
      by_cases b1 : b = j
      · rw [if_pos b1]
        intro e
        have := h a i ha hi e
        omega
      · rw [if_neg b1]
        by_cases b2 : b = i
        · rw [if_pos b2]
          intro e
          have := h a j ha hj e
          omega
        · rw [if_neg b2]
          exact h a b ha hb
/-- an order that comes behind another, what lies from a on being open -/
def kNx (f g : Nat → Int32) (a : Nat) : Prop := ∃ i, i < a ∧ i < 5 ∧ (∀ p, p < i → g p = f p) ∧ (f i).toInt < (g i).toInt ∧ kdis g
theorem kno_j {f : Nat → Int32} {i j vi vj : Int32} (hle : (f i.toNatClampNeg).toInt ≤ (f (i.toNatClampNeg + 1)).toInt) (ej : vj = f j.toNatClampNeg) (ei : vi = f i.toNatClampNeg) (lt : vj.toInt < vi.toInt) (hj : i.toInt + 1 ≤ j.toInt) (h0 : 0 ≤ i.toInt) : i.toInt + 2 ≤ j.toInt := by
  have e1 : i.toNatClampNeg = i.toInt.toNat := rfl
  have e2 : j.toNatClampNeg = j.toInt.toNat := rfl
  by_cases q : j.toInt = i.toInt + 1
  · have e3 : j.toNatClampNeg = i.toNatClampNeg + 1 := by omega
    rw [e3] at ej
    rw [← ei, ← ej] at hle
    omega
  · omega
theorem kno_r {f : Nat → Int32} {i k vi vk : Int32} (ei : vi = f i.toNatClampNeg) (ek : vk = f k.toNatClampNeg) (tk : k.toInt = i.toInt + 1) (h0 : 0 ≤ i.toInt) (le : vi.toInt ≤ vk.toInt) : (f i.toNatClampNeg).toInt ≤ (f (i.toNatClampNeg + 1)).toInt := by
  have e1 : i.toNatClampNeg = i.toInt.toNat := rfl
  have e2 : k.toNatClampNeg = k.toInt.toNat := rfl
  rw [show i.toNatClampNeg + 1 = k.toNatClampNeg by omega, ← ei, ← ek]
  exact le
theorem kNx_0 {f g : Nat → Int32} {i j a vi vj : Int32} (hd : kdis f) (e : g = upd (upd f i.toNatClampNeg (f j.toNatClampNeg)) j.toNatClampNeg (f i.toNatClampNeg)) (hi : kr 0 3 i) (hj : kr 1 4 j) (hij : i.toInt + 1 ≤ j.toInt) (ej : vj = f j.toNatClampNeg) (ei : vi = f i.toNatClampNeg) (ge : vi.toInt ≤ vj.toInt) (ta : a.toInt = i.toInt + 1) : kNx f g a.toNatClampNeg := by
  have e1 : i.toNatClampNeg = i.toInt.toNat := rfl
  have e2 : j.toNatClampNeg = j.toInt.toNat := rfl
  have e3 : a.toNatClampNeg = a.toInt.toNat := rfl
  have h1 := hi.1
  have h2 := hi.2
  have h3 := hj.2
  refine ⟨i.toNatClampNeg, by omega, by omega, fun p hp => ?_, ?_, ?_⟩
  · rw [e, ksw_at, if_neg (by omega), if_neg (by omega)]
  · rw [e, ksw_at, if_neg (by omega), if_pos rfl, ← ei, ← ej]
    by_cases q : vi.toInt = vj.toInt
    · exfalso
      have q2 : vi = vj := Int32.toInt_inj.mp q
      rw [ei, ej] at q2
      have := hd _ _ (by omega) (by omega) q2
      omega
    · omega
  · rw [e]
    exact kdis_swap hd (by omega) (by omega)
theorem kNx_s {f g g' : Nat → Int32} {a b a' : Int32} (h : kNx f g a.toNatClampNeg) (ha : kr 0 4 a) (hb : kr 0 4 b) (hab : a.toInt < b.toInt) (e : g' = upd (upd g a.toNatClampNeg (g b.toNatClampNeg)) b.toNatClampNeg (g a.toNatClampNeg)) (ta : a'.toInt = a.toInt + 1) : kNx f g' a'.toNatClampNeg := by
  have e1 : a.toNatClampNeg = a.toInt.toNat := rfl
  have e2 : b.toNatClampNeg = b.toInt.toNat := rfl
  have e3 : a'.toNatClampNeg = a'.toInt.toNat := rfl
  have h1 := ha.1
  have h2 := ha.2
  have h3 := hb.2
  obtain ⟨i, q1, q2, q3, q4, q5⟩ := h
  refine ⟨i, by omega, q2, fun p hp => ?_, ?_, ?_⟩
  · rw [e, ksw_at, if_neg (by omega), if_neg (by omega)]
    exact q3 p hp
  · rw [e, ksw_at, if_neg (by omega), if_neg (by omega)]
    exact q4
  · rw [e]
    exact kdis_swap q5 (by omega) (by omega)
theorem kNx_e {f g : Nat → Int32} {a : Nat} (h : kNx f g a) (hf : ka 0 4 f) (hg : ka 0 4 g) : kdis g ∧ kV f + 1 ≤ kV g := by
  obtain ⟨i, q1, q2, q3, q4, q5⟩ := h
  exact ⟨q5, kV_lt hf hg q2 q3 q4⟩
theorem kid_s {f g : Nat → Int32} {k k' : Int32} (h : ∀ j, j < k.toNatClampNeg → f j = nI j) (hk : kr 0 4 k) (e : g = upd f k.toNatClampNeg k) (t : k'.toInt = k.toInt + 1) : ∀ j, j < k'.toNatClampNeg → g j = nI j := by
  intro j hj
  have e1 : k.toNatClampNeg = k.toInt.toNat := rfl
  have e2 : k'.toNatClampNeg = k'.toInt.toNat := rfl
  have h1 := hk.1
  rw [e]
  by_cases q : j = k.toNatClampNeg
  · have e3 : upd f k.toNatClampNeg k j = k := by rw [q]; exact pk_us
    rw [e3, q]
    exact kr_nIs hk (by omega)
  · have e3 : upd f k.toNatClampNeg k j = f j := pk_un q
    rw [e3]
    exact h j (by omega)
theorem kid_dis {f : Nat → Int32} {k : Int32} (h : ∀ j, j < k.toNatClampNeg → f j = nI j) (hk : kr 5 5 k) : kdis f := by
  have e1 : k.toNatClampNeg = k.toInt.toNat := rfl
  have h1 := hk.1
  intro a b ha hb e
  rw [h a (by omega), h b (by omega)] at e
  exact (nI_eq (by omega) (by omega)).mp e
/-- the first step of a hand, k steps being left of n -/
def ksf (g : Nat → Int32) (h : Int32) (n : Nat) : Nat → Int32
  | 0 => -1
  | k + 1 => if g (n - (k + 1)) = h then nI (n - (k + 1)) else ksf g h n k
theorem ksf_s {g : Nat → Int32} {h n s s' v : Int32} (hs : kr 0 23 s) (hn : s.toInt < n.toInt) (ev : v = g s.toNatClampNeg) (hv : ¬ v = h) (t : s'.toInt = s.toInt + 1) : ksf g h n.toNatClampNeg (n.toNatClampNeg - s.toNatClampNeg) = ksf g h n.toNatClampNeg (n.toNatClampNeg - s'.toNatClampNeg) := by
  have e1 : s.toNatClampNeg = s.toInt.toNat := rfl
  have e2 : s'.toNatClampNeg = s'.toInt.toNat := rfl
  have e3 : n.toNatClampNeg = n.toInt.toNat := rfl
  have h1 := hs.1
  have e4 : n.toNatClampNeg - s.toNatClampNeg = (n.toNatClampNeg - s'.toNatClampNeg) + 1 := by omega
  have e5 : n.toNatClampNeg - ((n.toNatClampNeg - s'.toNatClampNeg) + 1) = s.toNatClampNeg := by omega
  rw [e4]
  show (if g (n.toNatClampNeg - ((n.toNatClampNeg - s'.toNatClampNeg) + 1)) = h then _ else _) = _
  rw [e5, if_neg (by rw [← ev]; exact hv)]
theorem ksf_f {g : Nat → Int32} {h n s v : Int32} (hs : kr 0 23 s) (hn : s.toInt < n.toInt) (ev : v = g s.toNatClampNeg) (hv : v = h) : ksf g h n.toNatClampNeg (n.toNatClampNeg - s.toNatClampNeg) = s := by
  have e1 : s.toNatClampNeg = s.toInt.toNat := rfl
  have e3 : n.toNatClampNeg = n.toInt.toNat := rfl
  have h1 := hs.1
  have e4 : n.toNatClampNeg - s.toNatClampNeg = (n.toNatClampNeg - s.toNatClampNeg - 1) + 1 := by omega
  have e5 : n.toNatClampNeg - ((n.toNatClampNeg - s.toNatClampNeg - 1) + 1) = s.toNatClampNeg := by omega
  rw [e4]
  show (if g (n.toNatClampNeg - ((n.toNatClampNeg - s.toNatClampNeg - 1) + 1)) = h then _ else _) = _
  rw [e5, if_pos (by rw [← ev]; exact hv)]
  exact (kr_nIs hs (by omega)).symm
theorem ksf_e {g : Nat → Int32} {h n s : Int32} (h0 : 0 ≤ s.toInt) (hn : n.toInt ≤ s.toInt) : ksf g h n.toNatClampNeg (n.toNatClampNeg - s.toNatClampNeg) = -1 := by
  have e1 : s.toNatClampNeg = s.toInt.toNat := rfl
  have e3 : n.toNatClampNeg = n.toInt.toNat := rfl
  rw [show n.toNatClampNeg - s.toNatClampNeg = 0 by omega]
  rfl
def kR (f : Nat → Int32) (B : Nat) (g hn : Nat → Int32) (n : Nat) (i : Nat) : Int := if f (B + (170 + i)) = 2 then 0 else if (ksf g (nI i) n (n - (hn i).toNatClampNeg)).toInt < 0 then 0 else 1
theorem kR_nn (f : Nat → Int32) (B : Nat) (g hn : Nat → Int32) (n : Nat) (i : Nat) : 0 ≤ kR f B g hn n i ∧ kR f B g hn n i ≤ 1 := by
  unfold kR
  split
  · omega
  · split <;> omega
def krm (f : Nat → Int32) (B : Nat) (g hn : Nat → Int32) (n : Nat) : Nat → Int
  | 0 => 0
  | m + 1 => krm f B g hn n m + kR f B g hn n m
theorem krm_nn (f : Nat → Int32) (B : Nat) (g hn : Nat → Int32) (n : Nat) : ∀ m, 0 ≤ krm f B g hn n m ∧ krm f B g hn n m ≤ m
  | 0 => ⟨Int.le_refl _, Int.le_refl _⟩
  | m + 1 => by
    have h1 := krm_nn f B g hn n m
    have h2 := kR_nn f B g hn n m
    have e : krm f B g hn n (m + 1) = krm f B g hn n m + kR f B g hn n m := rfl
    omega
theorem krm_mono (f : Nat → Int32) (B : Nat) (g hn : Nat → Int32) (n : Nat) {a : Nat} : ∀ b, a ≤ b → krm f B g hn n a ≤ krm f B g hn n b
  | 0, h => by rw [show a = 0 by omega]; omega
  | b + 1, h => by
    by_cases q : a = b + 1
    · rw [q]; omega
    · have h1 := krm_mono f B g hn n b (a := a) (by omega)
      have h2 := kR_nn f B g hn n b
      have e : krm f B g hn n (b + 1) = krm f B g hn n b + kR f B g hn n b := rfl
      omega
theorem krm_s {f : Nat → Int32} {B : Nat} {g hn : Nat → Int32} {n : Nat} {h h' : Int32} (hh : kr 0 4 h) (t : h'.toInt = h.toInt + 1) : krm f B g hn n h'.toNatClampNeg = krm f B g hn n h.toNatClampNeg + kR f B g hn n h.toNatClampNeg := by
  have e1 : h.toNatClampNeg = h.toInt.toNat := rfl
  have e2 : h'.toNatClampNeg = h'.toInt.toNat := rfl
  have h1 := hh.1
  rw [show h'.toNatClampNeg = h.toNatClampNeg + 1 by omega]
  rfl
theorem krm_lt {f : Nat → Int32} {B : Nat} {g hn : Nat → Int32} {n : Nat} {h m k : Int32} (hk : 0 ≤ k.toInt) (hl : k.toInt < krm f B g hn n m.toNatClampNeg - krm f B g hn n h.toNatClampNeg) (h0 : 0 ≤ h.toInt) : h.toInt < m.toInt := by
  have e1 : h.toNatClampNeg = h.toInt.toNat := rfl
  have e2 : m.toNatClampNeg = m.toInt.toNat := rfl
  by_cases q : h.toInt < m.toInt
  · exact q
  · have := krm_mono f B g hn n (a := m.toNatClampNeg) h.toNatClampNeg (by omega)
    omega
theorem kR_1 {f : Nat → Int32} {B : Nat} {g hn : Nat → Int32} {n : Nat} {h : Int32} (hh : kr 0 4 h) (q : ¬ kR f B g hn n h.toNatClampNeg = 0) : 0 ≤ (ksf g h n (n - (hn h.toNatClampNeg).toNatClampNeg)).toInt := by
  unfold kR at q
  rw [kh_nI hh] at q
  split at q
  · exact absurd rfl q
  · split at q
    · exact absurd rfl q
    · omega
theorem kR_2 {f : Nat → Int32} {B : Nat} {g hn : Nat → Int32} {n : Nat} {h k r : Int32} (hh : kr 0 4 h) (t : k.toInt = 170 + h.toInt) (er : r = f (B + k.toNatClampNeg)) (q : r = 2) : (0 : Int) = kR f B g hn n h.toNatClampNeg := by
  unfold kR
  rw [← kh_at (o := 170) hh t rfl, ← er, if_pos q]
theorem kR_3 {f : Nat → Int32} {B : Nat} {g hn : Nat → Int32} {n : Nat} {h k r s : Int32} (hh : kr 0 4 h) (t : k.toInt = 170 + h.toInt) (er : r = f (B + k.toNatClampNeg)) (q : ¬ r = 2) (es : s = ksf g h n (n - (hn h.toNatClampNeg).toNatClampNeg)) (hs : s.toInt < 0) : (0 : Int) = kR f B g hn n h.toNatClampNeg := by
  unfold kR
  rw [← kh_at (o := 170) hh t rfl, ← er, if_neg q, kh_nI hh, ← es, if_pos hs]
theorem kR_4 {f : Nat → Int32} {B : Nat} {g hn : Nat → Int32} {n : Nat} {h k r s : Int32} (hh : kr 0 4 h) (t : k.toInt = 170 + h.toInt) (er : r = f (B + k.toNatClampNeg)) (q : ¬ r = 2) (es : s = ksf g h n (n - (hn h.toNatClampNeg).toNatClampNeg)) (hs : 0 ≤ s.toInt) : (1 : Int) = kR f B g hn n h.toNatClampNeg := by
  unfold kR
  rw [← kh_at (o := 170) hh t rfl, ← er, if_neg q, kh_nI hh, ← es, if_neg (by omega)]
def kS (hn : Nat → Int32) : Int := (hn 0).toInt + (hn 1).toInt + (hn 2).toInt + (hn 3).toInt + (hn 4).toInt
theorem kS_nn {hn : Nat → Int32} (h : ka 0 24 hn) : 0 ≤ kS hn ∧ kS hn ≤ 120 := by
  have h0 := h 0
  have h1 := h 1
  have h2 := h 2
  have h3 := h 3
  have h4 := h 4
  unfold kr at h0 h1 h2 h3 h4
  unfold kS
  omega
theorem kS_u {f g : Nat → Int32} {h v : Int32} (hh : kr 0 4 h) (e : g = upd f h.toNatClampNeg v) : kS g = kS f - (f h.toNatClampNeg).toInt + v.toInt := by
  unfold kS
  rcases kh_five hh with q | q | q | q | q <;> rw [e, q]
  · rw [show upd f 0 v 0 = v from pk_us, show upd f 0 v 1 = f 1 from pk_un (by omega), show upd f 0 v 2 = f 2 from pk_un (by omega), show upd f 0 v 3 = f 3 from pk_un (by omega), show upd f 0 v 4 = f 4 from pk_un (by omega)]; omega
  · rw [show upd f 1 v 1 = v from pk_us, show upd f 1 v 0 = f 0 from pk_un (by omega), show upd f 1 v 2 = f 2 from pk_un (by omega), show upd f 1 v 3 = f 3 from pk_un (by omega), show upd f 1 v 4 = f 4 from pk_un (by omega)]; omega
  · rw [show upd f 2 v 2 = v from pk_us, show upd f 2 v 1 = f 1 from pk_un (by omega), show upd f 2 v 0 = f 0 from pk_un (by omega), show upd f 2 v 3 = f 3 from pk_un (by omega), show upd f 2 v 4 = f 4 from pk_un (by omega)]; omega
  · rw [show upd f 3 v 3 = v from pk_us, show upd f 3 v 1 = f 1 from pk_un (by omega), show upd f 3 v 2 = f 2 from pk_un (by omega), show upd f 3 v 0 = f 0 from pk_un (by omega), show upd f 3 v 4 = f 4 from pk_un (by omega)]; omega
  · rw [show upd f 4 v 4 = v from pk_us, show upd f 4 v 1 = f 1 from pk_un (by omega), show upd f 4 v 2 = f 2 from pk_un (by omega), show upd f 4 v 3 = f 3 from pk_un (by omega), show upd f 4 v 0 = f 0 from pk_un (by omega)]; omega
theorem kS_0 {f : Nat → Int32} {k : Int32} (h : ∀ j, j < k.toNatClampNeg → f j = 0) (hk : kr 5 5 k) : kS f = 0 := by
  have e1 : k.toNatClampNeg = k.toInt.toNat := rfl
  have h1 := hk.1
  unfold kS
  rw [h 0 (by omega), h 1 (by omega), h 2 (by omega), h 3 (by omega), h 4 (by omega)]
  rfl
theorem kz0_s {f g : Nat → Int32} {k k' : Int32} (h : ∀ j, j < k.toNatClampNeg → f j = 0) (hk : kr 0 4 k) (e : g = upd f k.toNatClampNeg 0) (t : k'.toInt = k.toInt + 1) : ∀ j, j < k'.toNatClampNeg → g j = 0 := by
  intro j hj
  have e1 : k.toNatClampNeg = k.toInt.toNat := rfl
  have e2 : k'.toNatClampNeg = k'.toInt.toNat := rfl
  have h1 := hk.1
  rw [e]
  by_cases q : j = k.toNatClampNeg
  · rw [q]; exact pk_us
  · have e3 : upd f k.toNatClampNeg 0 j = f j := pk_un q
    rw [e3]
    exact h j (by omega)
theorem kt_rem {a b c d : Int} {v x y : Int64} (h : v = x - x / y * y) (hx : kl a b x) (hy : kl c d y) (hs : (decide (0 ≤ a) && decide (0 < c)) = true) : v.toInt < y.toInt := by
  simp only [Bool.and_eq_true, decide_eq_true_eq] at hs
  have q := kl_rem (a := a) (b := b) (c := y.toInt) (d := y.toInt) (b' := y.toInt - 1) h hx ⟨Int.le_refl _, Int.le_refl _⟩ (by have := hy.1; simp only [Bool.and_eq_true, decide_eq_true_eq]; omega)
  have := q.2
  omega
theorem kso_mu {f g : Nat → Int32} {r x : Int32} (hx : x.toInt = 1) (o : (r = 0 ∧ g = f) ∨ (¬ r = 0 ∧ kdis g ∧ kV f + 1 ≤ kV g)) (hr : kr 0 1 r) : 2 * (3125 - kV g) + r.toInt + 1 ≤ 2 * (3125 - kV f) + x.toInt := by
  have h2 := hr.2
  rcases o with o | o
  · have e1 : r.toInt = 0 := by rw [o.1]; rfl
    rw [o.2]
    omega
  · have := o.2.2
    omega
theorem kR_b {r : Int32} (h : kr 0 1 r) (q : ¬ r = 0) : r.toInt = 1 := by
  have h1 := h.1
  have h2 := h.2
  have h3 : ¬ r.toInt = 0 := fun e => q (Int32.toInt_inj.mp (by rw [e]; rfl))
  omega
theorem kn_same {l n : Int32} (h1 : n.toInt ≤ l.toInt) (h2 : l.toInt ≤ n.toInt) : l.toNatClampNeg = n.toNatClampNeg := by
  have e1 : l.toNatClampNeg = l.toInt.toNat := rfl
  have e2 : n.toNatClampNeg = n.toInt.toNat := rfl
  omega
