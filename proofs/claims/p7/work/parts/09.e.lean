set_option maxHeartbeats 4000000 in
set_option maxRecDepth 100000 in
theorem c_X4_keyBits (l : Launch) (D : va_G) (cB cI cJ cD : ClassId) (p0 p1 : Int32) (sz : Nat) : Met l yX4_keyBits (kk_W yX4_keyBits cX4_keyBits 2 (some .int)) ({ frames := 1, cells := 0, slots := 0, locals := 24 }) (va_Pc [.int p0, .int p1] (kk_pre D cB cI cJ cD [] sz)) (vp_Si (fun r => r = kb p0 p1)) 0 0 (fun _ => False) := by
  refine kk_pstart (y := yX4_keyBits) (maxL := 2) (av := [.int p0, .int p1]) (by decide) (Nat.le_of_ble_eq_true rfl) ?_
  intro p e s m below meth c ls hx hb hr hml hown hts hE hlocks hsz hP hD hl
  have hown : s.vm.findClass RX4 = some m.cls := hown
  have hl : lv_has ls 2 [(0, .int p0), (1, .int p1)] := hl
  have bad : ¬ (0 ≤ p0 ∧ p0 ≤ 99999999 ∧ 1 ≤ p1 ∧ p1 ≤ 9999) → W p l e ({ frames := 1, cells := 0, slots := 0, locals := 24 }) s m ([.int p0, .int p1] : List Value).toArray below meth c s.heap [] 0 0 (MQ below (vp_Si (fun r => r = kb p0 p1)) ([.int p0, .int p1] : List Value).toArray s 0 0 (fun _ => False)) (F0 m 22 ls []) := by
    intro h
    refine lv_iconst (v := -1) hx hb dX4_keyBits_22 (by decide) ?_
    exact kk_pret_i hx hb hr hlocks (if_neg h).symm dX4_keyBits_23
  refine lv_iload_n hx hb dX4_keyBits_0 rfl (lv_at hl 0 rfl) ?_
  refine lv_if_lt (tgt := 22) hx hb dX4_keyBits_1 (by decide) (fun c_1 => bad (by simp only [kk_lt, kk_le, kk_eq, Int32.reduceToInt] at c_1 ⊢; omega)) (fun c_1 => ?_)
  refine lv_iload_n hx hb dX4_keyBits_4 rfl (lv_at hl 0 rfl) ?_
  refine lv_ldc (v := 99999999) hx hb hown (hts _ w_594) dX4_keyBits_5 ?_
  refine lv_icmp_gt (tgt := 22) hx hb dX4_keyBits_7 (by decide) (fun c_2 => bad (by simp only [kk_lt, kk_le, kk_eq, Int32.reduceToInt] at c_2 ⊢; omega)) (fun c_2 => ?_)
  refine lv_iload_n hx hb dX4_keyBits_10 rfl (lv_at hl 1 rfl) ?_
  refine lv_iconst (v := 1) hx hb dX4_keyBits_11 (by decide) ?_
  refine lv_icmp_lt (tgt := 22) hx hb dX4_keyBits_12 (by decide) (fun c_3 => bad (by simp only [kk_lt, kk_le, kk_eq, Int32.reduceToInt] at c_3 ⊢; omega)) (fun c_3 => ?_)
  refine lv_iload_n hx hb dX4_keyBits_15 rfl (lv_at hl 1 rfl) ?_
  refine lv_sipush (v := 9999) hx hb dX4_keyBits_16 (by decide) ?_
  refine lv_icmp_le (tgt := 24) hx hb dX4_keyBits_19 (by decide) (fun c_4 => ?_) (fun c_4 => bad (by simp only [kk_lt, kk_le, kk_eq, Int32.reduceToInt] at c_4 ⊢; omega))
  have hv : (0 ≤ p0 ∧ p0 ≤ 99999999 ∧ 1 ≤ p1 ∧ p1 ≤ 9999) := (by simp only [kk_lt, kk_le, kk_eq, Int32.reduceToInt] at c_1 c_2 c_3 c_4 ⊢; omega)
  obtain ⟨k1, k2⟩ := key_kn hv
  refine lv_iload_n hx hb dX4_keyBits_24 rfl (lv_at hl 0 rfl) ?_
  refine lv_i2f hx hb dX4_keyBits_25 ?_
  refine lv_iload_n hx hb dX4_keyBits_26 rfl (lv_at hl 1 rfl) ?_
  refine lv_i2f hx hb dX4_keyBits_27 ?_
  refine lv_fdiv hx hb dX4_keyBits_28 k2 ?_
  refine kk_pi (kk_runS (w1 := []) (As := [.float (FP.fdiv (FP.i2f p0) (FP.i2f p1))]) (rest := []) hx hb hml hown hts hE (c_X4_bitsOf l D cB cI cJ cD (FP.fdiv (FP.i2f p0) (FP.i2f p1)) s.heap.size k1) m_X4_bitsOf w_595 ⟨rfl, rfl, Nat.le_of_ble_eq_true rfl, Nat.le_of_ble_eq_true rfl⟩ hP hD rfl hl.1 (Nat.le_of_ble_eq_true rfl) dX4_keyBits_29 ⟨Nat.le_of_ble_eq_true rfl, Nat.le_of_ble_eq_true rfl⟩) (fun r h => ?_)
  refine kk_pret_i hx hb hr hlocks ?_ dX4_keyBits_32
  rw [h]
  exact (if_pos hv).symm
set_option maxHeartbeats 4000000 in
set_option maxRecDepth 100000 in
theorem c_X4_packedKey (l : Launch) (D : va_G) (cB cI cJ cD : ClassId) (p0 : Int32) (sz : Nat) : Met l yX4_packedKey (kk_W yX4_packedKey cX4_packedKey 1 (some .int)) ({ frames := 2, cells := 0, slots := 0, locals := 45 }) (va_Pc [.int p0] (kk_pre D cB cI cJ cD [] sz)) (vp_Si (fun r => r = kq p0)) 0 0 (fun _ => False) := by
  refine kk_pstart (y := yX4_packedKey) (maxL := 1) (av := [.int p0]) (by decide) (Nat.le_of_ble_eq_true rfl) ?_
  intro p e s m below meth c ls hx hb hr hml hown hts hE hlocks hsz hP hD hl
  have hown : s.vm.findClass RX4 = some m.cls := hown
  have hl : lv_has ls 1 [(0, .int p0)] := hl
  have bad : (p0 < 0 ∨ 99999 < p0 / 10000) → W p l e ({ frames := 2, cells := 0, slots := 0, locals := 45 }) s m ([.int p0] : List Value).toArray below meth c s.heap [] 0 0 (MQ below (vp_Si (fun r => r = kq p0)) ([.int p0] : List Value).toArray s 0 0 (fun _ => False)) (F0 m 14 ls []) := by
    intro h
    refine lv_iconst (v := -1) hx hb dX4_packedKey_14 (by decide) ?_
    exact kk_pret_i hx hb hr hlocks (if_pos h).symm dX4_packedKey_15
  refine lv_iload_n hx hb dX4_packedKey_0 rfl (lv_at hl 0 rfl) ?_
  refine lv_if_lt (tgt := 14) hx hb dX4_packedKey_1 (by decide) (fun c_1 => bad (Or.inl c_1)) (fun c_1 => ?_)
  refine lv_iload_n hx hb dX4_packedKey_4 rfl (lv_at hl 0 rfl) ?_
  refine lv_sipush (v := 10000) hx hb dX4_packedKey_5 (by decide) ?_
  refine lv_idiv hx hb dX4_packedKey_8 (by decide) ?_
  refine lv_ldc (v := 99999) hx hb hown (hts _ w_870) dX4_packedKey_9 ?_
  refine lv_icmp_le (tgt := 16) hx hb dX4_packedKey_11 (by decide) (fun c_2 => ?_) (fun c_2 => bad (Or.inr (by simp only [kk_lt, kk_le, kk_eq, Int32.reduceToInt] at c_2 ⊢; omega)))
  refine lv_iload_n hx hb dX4_packedKey_16 rfl (lv_at hl 0 rfl) ?_
  refine lv_sipush (v := 10000) hx hb dX4_packedKey_17 (by decide) ?_
  refine lv_idiv hx hb dX4_packedKey_20 (by decide) ?_
  refine lv_iload_n hx hb dX4_packedKey_21 rfl (lv_at hl 0 rfl) ?_
  refine lv_sipush (v := 10000) hx hb dX4_packedKey_22 (by decide) ?_
  refine lv_irem hx hb dX4_packedKey_25 (by decide) ?_
  refine kk_pi (kk_runS (w1 := []) (As := [.int (p0 / 10000), .int (p0 - p0 / 10000 * 10000)]) (rest := []) hx hb hml hown hts hE (c_X4_keyBits l D cB cI cJ cD (p0 / 10000) (p0 - p0 / 10000 * 10000) s.heap.size) m_X4_keyBits w_871 ⟨rfl, rfl, Nat.le_of_ble_eq_true rfl, Nat.le_of_ble_eq_true rfl⟩ hP hD rfl hl.1 (Nat.le_of_ble_eq_true rfl) dX4_packedKey_26 ⟨Nat.le_of_ble_eq_true rfl, Nat.le_of_ble_eq_true rfl⟩) (fun r h => ?_)
  refine kk_pret_i hx hb hr hlocks ?_ dX4_packedKey_29
  rw [h]
  refine (if_neg ?_).symm
  intro h3
  rcases h3 with h3 | h3
  · exact c_1 h3
  · exact absurd c_2 (by simp only [kk_lt, kk_le, kk_eq, Int32.reduceToInt] at h3 ⊢; omega)
