/-- a kept Desk -/
def dW (cB cI cJ : ClassId) (d : kUT) : va_W := [kO (d.1 0) 2 [.ref (d.1 1), .ref (d.1 2), .int (d.2.2.2 0)], kO (d.1 1) 0 [.ref (d.1 3), .ref (d.1 4), .ref (d.1 5), .int (d.2.2.2 1), .int (d.2.2.2 2)], kO (d.1 3) 8 [.ref (d.1 6), .ref (d.1 7), .ref (d.1 8), .int (d.2.2.2 3), .int (d.2.2.2 4), .int (d.2.2.2 5), .int (d.2.2.2 6), .int (d.2.2.2 7)], kO (d.1 6) 6 [.int (d.2.2.2 8), .ref (d.1 9), .ref (d.1 10), .ref (d.1 11), .ref (d.1 12), .ref (d.1 13), .ref (d.1 14), .ref (d.1 15)], kI cI (d.1 9) 24 (d.2.1 0), kI cI (d.1 10) 24 (d.2.1 1), kI cI (d.1 11) 24 (d.2.1 2), kI cI (d.1 12) 24 (d.2.1 3), kI cI (d.1 13) 25 (d.2.1 4), kI cI (d.1 14) 24 (d.2.1 5), kI cI (d.1 15) 24 (d.2.1 6), kO (d.1 7) 1 [.int (d.2.2.2 9), .ref (d.1 16), .ref (d.1 17), .ref (d.1 18), .ref (d.1 19), .ref (d.1 20), .ref (d.1 21), .ref (d.1 22), .ref (d.1 23), .ref (d.1 24), .ref (d.1 25), .int (d.2.2.2 10)], kI cI (d.1 16) 5 (d.2.1 7), kI cI (d.1 17) 5 (d.2.1 8), kI cI (d.1 18) 5 (d.2.1 9), kI cI (d.1 19) 5 (d.2.1 10), kI cI (d.1 20) 5 (d.2.1 11), kI cI (d.1 21) 5 (d.2.1 12), kI cI (d.1 22) 5 (d.2.1 13), kI cI (d.1 23) 5 (d.2.1 14), kI cI (d.1 24) 5 (d.2.1 15), kI cI (d.1 25) 5 (d.2.1 16), kO (d.1 8) 3 [.int (d.2.2.2 11), .ref (d.1 26)], kJ cJ (d.1 26) 600 (d.2.2.1 0), kI cI (d.1 4) 24 (d.2.1 17), kI cI (d.1 5) 24 (d.2.1 18), kI cB (d.1 2) 700 (d.2.1 19)]
def dI (d : kUT) : Prop := kr 0 700 (d.2.2.2 0) ∧ kr 0 24 (d.2.2.2 1) ∧ kr (-1) 22 (d.2.2.2 2) ∧ kr 0 1 (d.2.2.2 3) ∧ kr 0 1 (d.2.2.2 4) ∧ kr 0 1 (d.2.2.2 5) ∧ kr 0 24 (d.2.2.2 8) ∧ kr 0 5 (d.2.2.2 9) ∧ kr 0 5 (d.2.2.2 10) ∧ kr 0 600 (d.2.2.2 11) ∧ ka (-128) 127 (d.2.1 19) ∧ ka 0 4 (d.2.1 16)
def kPool (cB cI cJ : ClassId) (ds : List kUT) : va_W := (ds.map (dW cB cI cJ)).flatten
theorem kPool_app (cB cI cJ : ClassId) (a b : List kUT) : kPool cB cI cJ (a ++ b) = kPool cB cI cJ a ++ kPool cB cI cJ b := by
  unfold kPool
  rw [List.map_append, List.flatten_append]
theorem kPool_1 (cB cI cJ : ClassId) (d : kUT) : kPool cB cI cJ [d] = dW cB cI cJ d := by
  unfold kPool
  rw [List.map_cons, List.map_nil, List.flatten_cons, List.flatten_nil, List.append_nil]
theorem kPool_c (cB cI cJ : ClassId) (d : kUT) (b : List kUT) : kPool cB cI cJ (d :: b) = dW cB cI cJ d ++ kPool cB cI cJ b := by
  unfold kPool
  rw [List.map_cons, List.flatten_cons]
theorem klen_1 (ds : List kUT) (d : kUT) : (ds ++ [d]).length = ds.length + 1 := List.length_append
theorem kKp_none {ds : List kUT} {k : Int32} (h : k.toInt = ds.length) : kKp ds k.toNatClampNeg = none := by
  have e1 : k.toNatClampNeg = k.toInt.toNat := rfl
  unfold kKp
  exact List.getElem?_eq_none (by rw [List.length_map]; omega)
theorem kKp_mid {a b : List kUT} {d : kUT} {n : Nat} (h : n = a.length) : kKp (a ++ d :: b) n = some (d.1 0) := by
  unfold kKp
  rw [List.map_append, List.getElem?_append_right (by rw [List.length_map]; omega), List.length_map, h, Nat.sub_self]
  rfl
theorem kKp_snoc {ds : List kUT} {d : kUT} {k : Int32} {a : Nat} (h : k.toInt = ds.length) (e : d.1 0 = a) : va_up (kKp ds) k.toNatClampNeg (some a) = kKp (ds ++ [d]) := by
  have e1 : k.toNatClampNeg = k.toInt.toNat := rfl
  have e2 : k.toNatClampNeg = ds.length := by omega
  funext j
  unfold va_up kKp
  rw [List.map_append, e2]
  by_cases q : j = ds.length
  · rw [if_pos q, q, List.getElem?_append_right (by rw [List.length_map]; omega), List.length_map, Nat.sub_self, ← e]
    rfl
  · rw [if_neg q]
    by_cases q2 : j < ds.length
    · rw [List.getElem?_append_left (by rw [List.length_map]; exact q2)]
    · rw [List.getElem?_eq_none (by rw [List.length_map]; omega), List.getElem?_eq_none (by rw [List.length_append, List.length_map]; show ds.length + 1 ≤ j; omega)]
theorem kKp_same {a b : List kUT} {d d' : kUT} (e : d'.1 0 = d.1 0) : kKp (a ++ d :: b) = kKp (a ++ d' :: b) := by
  unfold kKp
  rw [List.map_append, List.map_append, List.map_cons, List.map_cons, e]
theorem kds_at {ds : List kUT} {n : Nat} (h : n < ds.length) : ∃ a d b, ds = a ++ d :: b ∧ n = a.length := by
  refine ⟨ds.take n, ds[n], ds.drop (n + 1), ?_, ?_⟩
  · rw [← List.drop_eq_getElem_cons h, List.take_append_drop]
  · rw [List.length_take]; omega
theorem kt_endP {D : va_G} {cl : List vw_C} {a d r o k : va_W} {H : Heap} (h : va_P D cl ((a ++ d) ++ (r ++ (o ++ k))) H) : va_P D cl (a ++ (r ++ (o ++ (k ++ d)))) H := by
  have h2 := h.swap
  rw [List.append_assoc, List.append_assoc, List.append_assoc] at h2
  exact h2
theorem kt_endD {A : Nat → Prop} {a d r o k : va_W} (h : va_D A ((a ++ d) ++ (r ++ (o ++ k)))) : va_D A (a ++ (r ++ (o ++ (k ++ d)))) := by
  have h2 := h.swap
  rw [List.append_assoc, List.append_assoc, List.append_assoc] at h2
  exact h2
theorem kt_outP {D : va_G} {cl : List vw_C} {a r o k d j : va_W} {H : Heap} (h : va_P D cl (a ++ (r ++ (o ++ (k ++ (d ++ j))))) H) : va_P D cl ((a ++ d) ++ (r ++ (o ++ (k ++ j)))) H := by
  have h1 : va_P D cl (((a ++ (r ++ (o ++ k))) ++ d) ++ j) H := by
    simp only [List.append_assoc]
    exact h
  have h2 : va_P D cl (((a ++ (r ++ (o ++ k))) ++ j) ++ d) H := h1.swap
  have h3 : va_P D cl ((a ++ ((r ++ (o ++ k)) ++ j)) ++ d) H := by
    rw [← List.append_assoc a]
    exact h2
  have h4 := h3.swap
  simp only [List.append_assoc] at h4 ⊢
  exact h4
theorem kt_outD {A : Nat → Prop} {a r o k d j : va_W} (h : va_D A (a ++ (r ++ (o ++ (k ++ (d ++ j)))))) : va_D A ((a ++ d) ++ (r ++ (o ++ (k ++ j)))) := by
  have h1 : va_D A (((a ++ (r ++ (o ++ k))) ++ d) ++ j) := by
    simp only [List.append_assoc]
    exact h
  have h2 : va_D A (((a ++ (r ++ (o ++ k))) ++ j) ++ d) := h1.swap
  have h3 : va_D A ((a ++ ((r ++ (o ++ k)) ++ j)) ++ d) := by
    rw [← List.append_assoc a]
    exact h2
  have h4 := h3.swap
  simp only [List.append_assoc] at h4 ⊢
  exact h4
theorem kt_inP {D : va_G} {cl : List vw_C} {a r o k d j : va_W} {H : Heap} (h : va_P D cl ((a ++ d) ++ (r ++ (o ++ (k ++ j)))) H) : va_P D cl (a ++ (r ++ (o ++ (k ++ (d ++ j))))) H := by
  have h2 := h.swap
  have h3 : va_P D cl (((a ++ (r ++ (o ++ k))) ++ j) ++ d) H := by
    simp only [List.append_assoc] at h2 ⊢
    exact h2
  have h4 := h3.swap
  simp only [List.append_assoc] at h4
  exact h4
theorem kt_inD {A : Nat → Prop} {a r o k d j : va_W} (h : va_D A ((a ++ d) ++ (r ++ (o ++ (k ++ j))))) : va_D A (a ++ (r ++ (o ++ (k ++ (d ++ j))))) := by
  have h2 := h.swap
  have h3 : va_D A (((a ++ (r ++ (o ++ k))) ++ j) ++ d) := by
    simp only [List.append_assoc] at h2 ⊢
    exact h2
  have h4 := h3.swap
  simp only [List.append_assoc] at h4
  exact h4
