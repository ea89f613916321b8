/-! ===== a bank laid anew, banks copied, kept steps ===== -/
def kzf (B : Nat) (f : Nat → Int32) : Nat → Int32 := fun i => if B ≤ i ∧ i < B + 320 then 0 else f i
theorem kzf_in {B : Nat} {f : Nat → Int32} (j : Nat) (hj : j < 320) : kzf B f (B + j) = 0 := if_pos ⟨by omega, by omega⟩
theorem kzf_0 {B : Nat} {f : Nat → Int32} : kzf B f B = 0 := if_pos ⟨by omega, by omega⟩
theorem kzf_eq {B : Nat} {f g : Nat → Int32} {k : Int32} (h : ∀ j, j < k.toNatClampNeg → g (B + j) = 0) (hk : 320 ≤ k.toInt) (hF : kF [(0, 319)] B f g) : g = kzf B f := by
  funext i
  have e1 : k.toNatClampNeg = k.toInt.toNat := rfl
  unfold kzf
  split
  · rename_i q
    have := h (i - B) (by omega)
    rw [show B + (i - B) = i by omega] at this
    exact this
  · rename_i q
    rcases hF i with e | ⟨k2, e, q2, hq2, h1, h2⟩
    · exact e
    · rcases List.mem_singleton.mp hq2 with rfl
      have h2 : k2 ≤ 319 := h2
      omega
theorem kF_of {m : List (Nat × Nat)} {B : Nat} {f g : Nat → Int32} (e : g = f) : kF m B f g := by rw [e]; exact kF.rf
theorem kz_step {B : Nat} {f g : Nat → Int32} {k k' : Int32} (h : ∀ j, j < k.toNatClampNeg → f (B + j) = 0) (hk : kr 0 319 k) (e : g = upd f (B + k.toNatClampNeg) 0) (t : k'.toInt = k.toInt + 1) : ∀ j, j < k'.toNatClampNeg → g (B + j) = 0 := by
  intro j hj
  have e1 : k.toNatClampNeg = k.toInt.toNat := rfl
  have e2 : k'.toNatClampNeg = k'.toInt.toNat := rfl
  have h1 := hk.1
  rw [e]
  by_cases q : j = k.toNatClampNeg
  · rw [q, ku_s]
  · rw [ku_o q]
    exact h j (by omega)
theorem kz_no {P : Nat → Prop} : ∀ j, j < Int32.toNatClampNeg 0 → P j := fun j h => absurd h (by rw [show Int32.toNatClampNeg 0 = 0 from by decide]; exact Nat.not_lt_zero _)
theorem kG_zero (B : Nat) (f : Nat → Int32) : kG 2139095040 0 0 (kzf B f) B := by
  have e0 : kzf B f B = 0 := kzf_0
  have hz : ∀ j, j < 320 → kzf B f (B + j) = 0 := fun j hj => kzf_in j hj
  have z0 : (0 : Int32).toInt = 0 := by decide
  have hw : kW (kzf B f) B = 0 := by
    unfold kW
    rw [hz 170 (by omega), hz 171 (by omega), hz 172 (by omega), hz 173 (by omega), hz 174 (by omega)]
    rfl
  have hm : kM (kzf B f) B = 0 := by
    unfold kM
    rw [e0, if_neg (by decide)]
  refine ⟨?_, ?_, ?_, ?_, ?_, fun i a b => ?_, fun i a b => ?_, fun i a b => ?_, fun i a b => ?_, fun i a b => ?_⟩
  · rw [e0]; decide
  · rw [e0, hw]; decide
  · rw [hz 227 (by omega), hw, hm]; decide
  · rw [hz 227 (by omega)]; decide
  · rw [hz 226 (by omega)]; exact ⟨by decide, by decide⟩
  · rw [hz i (by omega)]; exact ⟨by decide, by decide⟩
  · rw [hz i (by omega)]; exact ⟨by decide, by decide⟩
  · rw [hz i (by omega)]; decide
  · rw [hz i (by omega)]; exact ⟨by decide, by decide⟩
  · rw [hz i (by omega)]; exact ⟨by decide, by decide⟩
theorem kPl_23b {f : Nat → Int32} {B : Nat} {b i : Int32} (hi : kr 0 24 i) (er : i.toNatClampNeg = kPl f B b 24) (hm : (f B).toInt ≤ 23) : kr 0 23 i := by
  have e1 : i.toNatClampNeg = i.toInt.toNat := rfl
  have h1 := hi.1
  refine ⟨h1, ?_⟩
  rcases kPl_le f B b 24 (by omega) with e | e
  · omega
  · omega
/-- a bank copied, its first n ints -/
def kcpn (n : Nat) (f g : Nat → Int32) (a b : Nat) : Prop := (∀ j, j < n → g (b + j) = f (a + j)) ∧ ∀ i, (i < b ∨ b + n ≤ i) → g i = f i
theorem kcpn_0 {f : Nat → Int32} {a b : Nat} : kcpn (Int32.toNatClampNeg 0) f f a b := by
  rw [show Int32.toNatClampNeg 0 = 0 from by decide]
  exact ⟨fun j h => absurd h (Nat.not_lt_zero _), fun _ _ => rfl⟩
theorem kB_ix2 {b k i v : Int32} (t1 : v.toInt = 320 * b.toInt) (t2 : i.toInt = v.toInt + k.toInt) (hb : kr 0 17 b) (hk : kr 0 319 k) : i.toNatClampNeg = kB b + k.toNatClampNeg := by
  have e1 : i.toNatClampNeg = i.toInt.toNat := rfl
  have e2 : k.toNatClampNeg = k.toInt.toNat := rfl
  have e3 : b.toNatClampNeg = b.toInt.toNat := rfl
  have a1 := hb.1
  have a2 := hk.1
  unfold kB
  omega
theorem kB_ne {p q : Int32} (hp : kr 0 17 p) (hq : kr 0 17 q) (h : ¬ p.toInt = q.toInt) : kB p + 320 ≤ kB q ∨ kB q + 320 ≤ kB p := by
  have e1 : p.toNatClampNeg = p.toInt.toNat := rfl
  have e2 : q.toNatClampNeg = q.toInt.toNat := rfl
  have a1 := hp.1
  have a2 := hq.1
  unfold kB
  omega
theorem kcpn_s {f g g' : Nat → Int32} {p q k k' x y z w v : Int32} (h : kcpn k.toNatClampNeg f g (kB p) (kB q)) (hp : kr 0 17 p) (hq : kr 0 17 q) (hpq : ¬ p.toInt = q.toInt) (hk : kr 0 319 k) (t1 : x.toInt = 320 * q.toInt) (t2 : y.toInt = x.toInt + k.toInt) (t3 : z.toInt = 320 * p.toInt) (t4 : w.toInt = z.toInt + k.toInt) (ev : v = g w.toNatClampNeg) (e : g' = upd g y.toNatClampNeg v) (t : k'.toInt = k.toInt + 1) : kcpn k'.toNatClampNeg f g' (kB p) (kB q) := by
  have e1 : k.toNatClampNeg = k.toInt.toNat := rfl
  have e2 : k'.toNatClampNeg = k'.toInt.toNat := rfl
  have a1 := hk.1
  have a2 := hk.2
  have h1 := kB_ne hp hq hpq
  rw [kB_ix2 t1 t2 hq hk] at e
  rw [kB_ix2 t3 t4 hp hk, h.2 (kB p + k.toNatClampNeg) (by omega)] at ev
  refine ⟨fun j hj => ?_, fun i hi => ?_⟩
  · rw [e]
    by_cases c : j = k.toNatClampNeg
    · rw [c, ku_s, ev]
    · rw [ku_o c]
      exact h.1 j (by omega)
  · rw [e]
    have e3 : upd g (kB q + k.toNatClampNeg) v i = g i := pk_un (by omega)
    rw [e3]
    exact h.2 i (by omega)
theorem kcpn_e {f g : Nat → Int32} {a b : Nat} {k : Int32} (h : kcpn k.toNatClampNeg f g a b) (hk : kr 320 320 k) : kcpn 320 f g a b := by
  have e1 : k.toNatClampNeg = 320 := by
    have e1 : k.toNatClampNeg = k.toInt.toNat := rfl
    have h1 := hk.1
    have h2 := hk.2
    omega
  rw [← e1]
  exact h
/-- what holds of a bank holds of its copy -/
theorem kG_cp {K N M : Int} {f g : Nat → Int32} {a b : Nat} (h : kG K N M f a) (hc : kcpn 320 f g a b) : kG K N M g b := by
  have hz : ∀ j, j < 320 → g (b + j) = f (a + j) := hc.1
  have e0 : g b = f a := hz 0 (by omega)
  have hw : kW g b = kW f a := by
    unfold kW
    rw [hz 170 (by omega), hz 171 (by omega), hz 172 (by omega), hz 173 (by omega), hz 174 (by omega)]
  have hm : kM g b = kM f a := by
    unfold kM
    rw [e0]
  obtain ⟨g0, g1, g2, g3, g4, g5, g6, g7, g8, g9⟩ := h
  refine ⟨?_, ?_, ?_, ?_, ?_, fun i a b => ?_, fun i a b => ?_, fun i a b => ?_, fun i a b => ?_, fun i a b => ?_⟩
  · rw [e0]; exact g0
  · rw [e0, hw]; exact g1
  · rw [hz _ (by omega), hw, hm]; exact g2
  · rw [hz _ (by omega)]; exact g3
  · rw [hz _ (by omega)]; exact g4
  · rw [hz _ (by omega)]; exact g5 i a b
  · rw [hz _ (by omega)]; exact g6 i a b
  · rw [hz _ (by omega)]; exact g7 i a b
  · rw [hz _ (by omega)]; exact g8 i a b
  · rw [hz _ (by omega)]; exact g9 i a b
/-- kept steps and the next one over a lay -/
theorem kK_o {lo hi : Int} {B : Nat} {f g : Nat → Int32} {k v : Int32} (hk : kr lo hi k) (e : g = upd f (B + k.toNatClampNeg) v) (hs : (decide (0 ≤ lo) && (decide (hi < 254) || decide (277 < lo))) = true) : kK g B 24 = kK f B 24 := by
  simp only [Bool.and_eq_true, Bool.or_eq_true, decide_eq_true_eq] at hs
  have h2 := kr_nat hk hs.1
  refine kK_eq 24 (fun i hi => ?_)
  rw [e, ku_o (by omega)]
theorem kx_o {lo hi : Int} {B : Nat} {f g : Nat → Int32} {k v : Int32} (hk : kr lo hi k) (e : g = upd f (B + k.toNatClampNeg) v) (hs : (decide (0 ≤ lo) && (decide (hi < 226) || decide (226 < lo))) = true) : (g (B + 226)).toInt = (f (B + 226)).toInt := by
  simp only [Bool.and_eq_true, Bool.or_eq_true, decide_eq_true_eq] at hs
  have h2 := kr_nat hk hs.1
  rw [e, ku_o (by omega)]
theorem kx_s {B : Nat} {f g : Nat → Int32} {v : Int32} (e : g = upd f (B + Int32.toNatClampNeg 226) v) : (g (B + 226)).toInt = v.toInt := by
  rw [show Int32.toNatClampNeg 226 = 226 from by decide] at e
  rw [e, ku_s]
theorem kF.kx {m : List (Nat × Nat)} {B : Nat} {f g : Nat → Int32} (h : kF m B f g) (hs : (m.all fun q => Nat.blt 226 q.1 || Nat.blt q.2 226) = true) : (g (B + 226)).toInt = (f (B + 226)).toInt := by rw [h.at 226 hs]
theorem kr_226 {K N M : Int} {B : Nat} {f : Nat → Int32} (h : kG K N M f B) : 0 ≤ (f (B + 226)).toInt ∧ (f (B + 226)).toInt ≤ 24 := h.2.2.2.2.1
theorem kk1_1 {B : Nat} {f : Nat → Int32} {s k k2 r : Int32} {a : Int} (t : k.toInt = a + s.toInt) (t2 : k2.toInt = a + s.toInt) (er : r = f (B + k.toNatClampNeg)) (hr : r = 1) : kk1 (f (B + k2.toNatClampNeg)) = 1 := by
  have e1 : k.toNatClampNeg = k.toInt.toNat := rfl
  have e2 : k2.toNatClampNeg = k2.toInt.toNat := rfl
  rw [show k2.toNatClampNeg = k.toNatClampNeg by omega, ← er, hr]
  rfl
