theorem kk_P0 {D : va_G} {H : Heap} : va_P D vwCl [] H := fun k q h => by simp at h
theorem kk_D0 {A : Nat → Prop} : va_D A [] := ⟨fun i j p q h => by simp at h, fun k q h => by simp at h⟩
theorem kk_lt {x y : Int32} : x < y ↔ x.toInt < y.toInt := Int32.lt_iff_toInt_lt
theorem kk_le {x y : Int32} : x ≤ y ↔ x.toInt ≤ y.toInt := Int32.le_iff_toInt_le
theorem kk_eq {x y : Int32} : x = y ↔ x.toInt = y.toInt := Int32.toInt_inj.symm
theorem kk_z {x : Int32} (h1 : ¬ x < 0) (h2 : ¬ 0 < x) : x = 0 := by
  simp only [kk_lt, kk_le, kk_eq, Int32.reduceToInt] at h1 h2 ⊢
  omega
theorem kk_sw (x : Int32) (lo hi : Int) : x.toInt < lo ∨ hi < x.toInt ∨ (¬ x.toInt < lo ∧ ¬ hi < x.toInt) := by omega
theorem kk_in12 {x : Int32} (h : ¬ x.toInt < 0 ∧ ¬ 11 < x.toInt) : x = 0 ∨ x = 1 ∨ x = 2 ∨ x = 3 ∨ x = 4 ∨ x = 5 ∨ x = 6 ∨ x = 7 ∨ x = 8 ∨ x = 9 ∨ x = 10 ∨ x = 11 := by
  simp only [kk_eq, Int32.reduceToInt]
  omega
theorem kk_in5 {x : Int32} (h : ¬ x.toInt < 0 ∧ ¬ 4 < x.toInt) : x = 0 ∨ x = 1 ∨ x = 2 ∨ x = 3 ∨ x = 4 := by
  simp only [kk_eq, Int32.reduceToInt]
  omega
theorem kk_in4 {x : Int32} (h : ¬ x.toInt < 0 ∧ ¬ 3 < x.toInt) : x = 0 ∨ x = 1 ∨ x = 2 ∨ x = 3 := by
  simp only [kk_eq, Int32.reduceToInt]
  omega
section KKV
variable {p : Program} {l : Launch} {e : Env} {R : Room} {s : State} {m : MethodId} {args : Array Value} {below : List Frame} {meth : Method} {c : Code} {H : Heap} {locs : List Loc} {cells slots : Nat} {Q : State → Prop}
variable {pc : Nat} {rest st0 : List Value} {a : Array Value} {ls : Array Slot}
theorem kk_pv {post : Unit → Prop} (hr : va_Run p l e R s m args below meth c H locs cells slots 0 0 (F0 m pc ls st0) rest (va_Sv post a) (fun _ => False))
    (kk : post () → W p l e R s m args below meth c H locs cells slots Q (F0 m (pc + 3) ls rest)) : W p l e R s m args below meth c H locs cells slots Q (F0 m pc ls st0) := by
  intro T hT X
  obtain ⟨v, st₀, t, T', L, h0, X', hL, e1, -, ⟨hv, hp, hh⟩, st⟩ := hr T hT X
  cases hv
  obtain ⟨t2, a1, b1⟩ := kk hp T' (by rw [e1, hh, h0]) (Stand.forget X' (fun q h => (hL q h).elim))
  exact ⟨t2, st t2 a1, b1⟩
end KKV
