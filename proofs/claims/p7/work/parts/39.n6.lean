theorem kq_parts {p0 : Int32} (h : ¬ p0 < 0) : ∃ j : Nat, j < 2 ^ 31 ∧ p0 = nI j ∧ p0 / 10000 = nI (j / 10000) ∧ p0 - p0 / 10000 * 10000 = nI (j % 10000) := by
  obtain ⟨j, hj, rfl⟩ := nI_of h
  have e1 : nI j / 10000 = nI (j / 10000) := pk_div (d := 10000) hj (by decide) (by decide)
  refine ⟨j, hj, rfl, e1, ?_⟩
  have e2 := pk_rem (a := j) (d := 10000) hj (by decide) (by decide)
  exact e2
set_option maxHeartbeats 4000000 in
set_option maxRecDepth 100000 in
theorem c_X11_keyByOne (l : Launch) (D : va_G) (cB cI cJ cD : ClassId) (p0 : Int32) (sz : Nat) : Met l yX11_keyByOne (kk_W yX11_keyByOne cX11_keyByOne 1 (some .int)) ({ frames := 4, cells := 0, slots := 0, locals := 91 }) (va_Pc [.int p0] (kk_pre D cB cI cJ cD [] sz)) (vp_Si (fun r => r = kq p0)) 0 0 (fun _ => False) := by
  refine kk_pstart (y := yX11_keyByOne) (maxL := 1) (av := [.int p0]) (by decide) (Nat.le_of_ble_eq_true rfl) ?_
  intro p e s m below meth c ls hx hb hr hml hown hts hE hlocks hsz hP hD hl
  have hown : s.vm.findClass RX11 = some m.cls := hown
  have hl : lv_has ls 1 [(0, .int p0)] := hl
  have bad : kq p0 = -1 → W p l e ({ frames := 4, cells := 0, slots := 0, locals := 91 }) s m ([.int p0] : List Value).toArray below meth c s.heap [] 0 0 (MQ below (vp_Si (fun r => r = kq p0)) ([.int p0] : List Value).toArray s 0 0 (fun _ => False)) (F0 m 22 ls []) := by
    intro h
    refine lv_iconst (v := -1) hx hb dX11_keyByOne_22 (by decide) ?_
    exact kk_pret_i hx hb hr hlocks h.symm dX11_keyByOne_23
  refine lv_iload_n hx hb dX11_keyByOne_0 rfl (lv_at hl 0 rfl) ?_
  refine lv_if_lt (tgt := 22) hx hb dX11_keyByOne_1 (by decide) (fun c_1 => bad (if_pos (Or.inl c_1))) (fun c_1 => ?_)
  obtain ⟨j, hj, e0, e1, e2⟩ := kq_parts c_1
  refine lv_iload_n hx hb dX11_keyByOne_4 rfl (lv_at hl 0 rfl) ?_
  refine lv_sipush (v := 10000) hx hb dX11_keyByOne_5 (by decide) ?_
  refine lv_idiv hx hb dX11_keyByOne_8 (by decide) ?_
  refine lv_ldc (v := 99999) hx hb hown (hts _ w_1683) dX11_keyByOne_9 ?_
  refine lv_icmp_gt (tgt := 22) hx hb dX11_keyByOne_11 (by decide) (fun c_2 => bad (if_pos (Or.inr c_2))) (fun c_2 => ?_)
  have hk : kq p0 = kb (p0 / 10000) (p0 - p0 / 10000 * 10000) := if_neg (fun h3 => h3.elim c_1 c_2)
  refine lv_iload_n hx hb dX11_keyByOne_14 rfl (lv_at hl 0 rfl) ?_
  refine lv_sipush (v := 10000) hx hb dX11_keyByOne_15 (by decide) ?_
  refine lv_irem hx hb dX11_keyByOne_18 (by decide) ?_
  have t1 : (p0 / 10000).toInt = ((j / 10000 : Nat) : Int) := by rw [e1]; exact nI_toInt (by omega)
  have t2 : (p0 - p0 / 10000 * 10000).toInt = ((j % 10000 : Nat) : Int) := by rw [e2]; exact nI_toInt (by omega)
  refine lv_if_ne (tgt := 24) hx hb dX11_keyByOne_19 (by decide) (fun c_3 => ?_) (fun c_3 => bad ?_)
  · have hv : 0 ≤ p0 / 10000 ∧ p0 / 10000 ≤ 99999999 ∧ 1 ≤ p0 - p0 / 10000 * 10000 ∧ p0 - p0 / 10000 * 10000 ≤ 9999 := by
      simp only [kk_lt, kk_le, kk_eq, Int32.reduceToInt, t1, t2] at c_2 c_3 ⊢
      have c_2 : ¬ (99999 : Int) < ((j / 10000 : Nat) : Int) := by
        have := c_2
        omega
      omega
    refine lv_iload_n hx hb dX11_keyByOne_24 rfl (lv_at hl 0 rfl) ?_
    refine lv_sipush (v := 10000) hx hb dX11_keyByOne_25 (by decide) ?_
    refine lv_idiv hx hb dX11_keyByOne_28 (by decide) ?_
    refine lv_iload_n hx hb dX11_keyByOne_29 rfl (lv_at hl 0 rfl) ?_
    refine lv_sipush (v := 10000) hx hb dX11_keyByOne_30 (by decide) ?_
    refine lv_irem hx hb dX11_keyByOne_33 (by decide) ?_
    refine kk_pi (kk_runS (w1 := []) (As := [.int (p0 / 10000), .int (p0 - p0 / 10000 * 10000)]) (rest := []) hx hb hml hown hts hE (c_X11_keyOf l D cB cI cJ cD (p0 / 10000) (p0 - p0 / 10000 * 10000) s.heap.size hv) m_X11_keyOf w_1503 ⟨rfl, rfl, Nat.le_of_ble_eq_true rfl, Nat.le_of_ble_eq_true rfl⟩ hP hD rfl hl.1 (Nat.le_of_ble_eq_true rfl) dX11_keyByOne_34 ⟨Nat.le_of_ble_eq_true rfl, Nat.le_of_ble_eq_true rfl⟩) (fun r h => ?_)
    refine kk_pret_i hx hb hr hlocks ?_ dX11_keyByOne_37
    rw [h, hk]
  · rw [hk, c_3]
    exact if_neg (fun h => absurd h.2.2.1 (by decide))
