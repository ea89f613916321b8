set_option maxHeartbeats 4000000 in
set_option maxRecDepth 100000 in
theorem z_mfloatOf (l : Launch) (D : va_G) (cB cI cJ cD : ClassId) (N : Nat) (sz : Nat) (h0 : 0 < N) (h1 : N < 2 ^ 27) : Met l yX11_floatOf (kk_W yX11_floatOf cX11_floatOf 1 (some .int)) ({ frames := 1, cells := 0, slots := 0, locals := 30 }) (va_Pc [.int (nI N)] (kk_pre D cB cI cJ cD [] sz)) (vp_Si (fun r => r = pF N 0)) 0 0 (fun _ => False) := by
  refine kk_pstart (y := yX11_floatOf) (maxL := 1) (av := [.int (nI N)]) (by decide) (Nat.le_of_ble_eq_true rfl) ?_
  intro p e s m below meth c ls hx hb hr hml hown hts hE hlocks hsz hP hD hl
  have hown : s.vm.findClass RX11 = some m.cls := hown
  have hl : lv_has ls 1 [(0, .int (nI N))] := hl
  refine lv_iload_n hx hb dX11_floatOf_0 rfl (lv_at hl 0 rfl) ?_
  refine lv_i2l hx hb dX11_floatOf_1 (nI_l (by omega)) ?_
  refine lv_iconst (v := Int32.ofInt 0) hx hb dX11_floatOf_2 (by decide) ?_
  refine kk_pi (kk_runS (w1 := []) (As := [.long (lN N), .int (Int32.ofInt 0)]) (rest := []) hx hb hml hown hts hE (z_packedFloat l D cB cI cJ cD N 0 s.heap.size h0 (by omega) (by decide) (by decide)) m_X11_packedFloat w_1509 ⟨rfl, rfl, Nat.le_of_ble_eq_true rfl, Nat.le_of_ble_eq_true rfl⟩ hP hD rfl hl.1 (Nat.le_of_ble_eq_true rfl) dX11_floatOf_3 ⟨Nat.le_of_ble_eq_true rfl, Nat.le_of_ble_eq_true rfl⟩) (fun r h => ?_)
  exact kk_pret_i hx hb hr hlocks h dX11_floatOf_6
theorem pF_i2f {n : Int32} {N c : Nat} {q : Int} (hn : n.toInt = N) (hv : FP.Core.val32 (FP.i2f n) = .fin false c q) (h1 : 2 ^ 23 ≤ c) (h2 : c < 2 ^ 24) (h3 : -149 ≤ q) (h4 : q ≤ 104) : pF N 0 = nI (fb c q) := by
  rw [FP.Core.val32_i2f, hn] at hv
  have e : FP.Core.round FP.Core.b32 (FP.Core.ofInt (N : Int)) = FP.Core.roundRatio FP.Core.b32 false N 1 0 := by
    show FP.Core.roundRatio FP.Core.b32 (decide ((N : Int) < 0)) (N : Int).natAbs 1 0 = _
    rw [decide_eq_false (by omega), Int.natAbs_natCast]
  rw [e] at hv
  unfold pF
  rw [hv, fb_of h1 h2 h3 h4]
set_option maxHeartbeats 4000000 in
set_option maxRecDepth 100000 in
theorem c_X11_keyOf (l : Launch) (D : va_G) (cB cI cJ cD : ClassId) (p0 p1 : Int32) (sz : Nat) (hv : 0 ≤ p0 ∧ p0 ≤ 99999999 ∧ 1 ≤ p1 ∧ p1 ≤ 9999) : Met l yX11_keyOf (kk_W yX11_keyOf cX11_keyOf 2 (some .int)) ({ frames := 3, cells := 0, slots := 0, locals := 70 }) (va_Pc [.int p0, .int p1] (kk_pre D cB cI cJ cD [] sz)) (vp_Si (fun r => r = kb p0 p1)) 0 0 (fun _ => False) := by
  refine kk_pstart (y := yX11_keyOf) (maxL := 2) (av := [.int p0, .int p1]) (by decide) (Nat.le_of_ble_eq_true rfl) ?_
  intro p e s m below meth c ls hx hb hr hml hown hts hE hlocks hsz hP hD hl
  have hown : s.vm.findClass RX11 = some m.cls := hown
  have hl : lv_has ls 2 [(0, .int p0), (1, .int p1)] := hl
  obtain ⟨N, M, n1, n2, k1, k2, k3⟩ := val_nat hv
  have hkb : kb p0 p1 = (FP.fdiv (FP.i2f p0) (FP.i2f p1)).toInt32 := if_pos hv
  have en : p0 = nI N := Int32.toInt_inj.mp (by rw [n1, nI_toInt (by omega)])
  have em : p1 = nI M := Int32.toInt_inj.mp (by rw [n2, nI_toInt (by omega)])
  refine lv_iload_n hx hb dX11_keyOf_0 rfl (lv_at hl 0 rfl) ?_
  rcases key_fp n1 n2 (by omega) k2 (by omega) with ⟨hz, h4⟩ | ⟨hp, c1, c2, c3, q1, q2, q3, v1, v2, b1, b2, a1, a2, b3, b4, a3, a4, h5, h6, h7, h8, h9, h10⟩
  · refine lv_if_ne (tgt := 8) hx hb dX11_keyOf_1 (by decide) (fun h => absurd (by rw [en, hz]; rfl) h) (fun _ => ?_)
    refine lv_iconst (v := 0) hx hb dX11_keyOf_4 (by decide) ?_
    refine lv_goto (tgt := 19) hx hb dX11_keyOf_5 (by decide) ?_
    refine kk_pret_i hx hb hr hlocks ?_ dX11_keyOf_19
    rw [hkb, h4]
    rfl
  · refine lv_if_ne (tgt := 8) hx hb dX11_keyOf_1 (by decide) (fun _ => ?_) (fun h => absurd h (by rw [en]; exact nI_ne0 hp (by omega)))
    refine lv_iload_n hx hb dX11_keyOf_8 rfl (lv_at hl 0 rfl) ?_
    have f1 := pF_i2f n1 v1 b1 b2 (by omega) (by omega)
    have f2 := pF_i2f n2 v2 a1 a2 (by omega) (by omega)
    rw [en, em] at hl hts ⊢
    refine kk_pi (kk_runS (w1 := []) (As := [.int (nI N)]) (rest := []) hx hb hml hown hts hE (z_mfloatOf l D cB cI cJ cD N s.heap.size hp (by omega)) m_X11_floatOf w_1506 ⟨rfl, rfl, Nat.le_of_ble_eq_true rfl, Nat.le_of_ble_eq_true rfl⟩ hP hD rfl hl.1 (Nat.le_of_ble_eq_true rfl) dX11_keyOf_9 ⟨Nat.le_of_ble_eq_true rfl, Nat.le_of_ble_eq_true rfl⟩) (fun r h => ?_)
    rw [h, f1]
    refine lv_iload_n hx hb dX11_keyOf_12 rfl (lv_at hl 1 rfl) ?_
    refine kk_pi (kk_runS (w1 := []) (As := [.int (nI M)]) (rest := [.int (nI (fb c1 q1))]) hx hb hml hown hts hE (z_mfloatOf l D cB cI cJ cD M s.heap.size k2 (by omega)) m_X11_floatOf w_1506 ⟨rfl, rfl, Nat.le_of_ble_eq_true rfl, Nat.le_of_ble_eq_true rfl⟩ hP hD rfl hl.1 (Nat.le_of_ble_eq_true rfl) dX11_keyOf_13 ⟨Nat.le_of_ble_eq_true rfl, Nat.le_of_ble_eq_true rfl⟩) (fun r h => ?_)
    rw [h, f2]
    refine kk_pi (kk_runS (w1 := []) (As := [.int (nI (fb c1 q1)), .int (nI (fb c2 q2))]) (rest := []) hx hb hml hown hts hE (z_divided l D cB cI cJ cD c1 q1 c2 q2 s.heap.size b1 b2 (by omega) (by omega) a1 a2 (by omega) (by omega) (by omega) (by omega)) m_X11_divided w_1515 ⟨rfl, rfl, Nat.le_of_ble_eq_true rfl, Nat.le_of_ble_eq_true rfl⟩ hP hD rfl hl.1 (Nat.le_of_ble_eq_true rfl) dX11_keyOf_16 ⟨Nat.le_of_ble_eq_true rfl, Nat.le_of_ble_eq_true rfl⟩) (fun r h => ?_)
    refine kk_pret_i hx hb hr hlocks ?_ dX11_keyOf_19
    rw [h, h6, ← en, ← em, hkb]
    have := FP.Core.of32_val32 (a := FP.fdiv (FP.i2f p0) (FP.i2f p1)) (by rw [h5]; intro g; cases g)
    rw [h5] at this
    rw [this]
