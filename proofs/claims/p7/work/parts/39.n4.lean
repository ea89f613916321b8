/-- a normal float's bits -/
def fb (c : Nat) (q : Int) : Nat := (q + 150).toNat * 2 ^ 23 + (c - 2 ^ 23)
theorem fb_lt {c : Nat} {q : Int} (h2 : c < 2 ^ 24) (h3 : -149 ≤ q) (h4 : q ≤ 104) : fb c q < 2 ^ 31 ∧ 2 ^ 23 ≤ fb c q := by
  unfold fb
  omega
theorem fb_of {c : Nat} {q : Int} (h1 : 2 ^ 23 ≤ c) (h2 : c < 2 ^ 24) (h3 : -149 ≤ q) (h4 : q ≤ 104) : (FP.Core.of32 (.fin false c q)).toInt32 = nI (fb c q) := by
  rw [fin_join h1 h2 h3 h4, bits_join _ _ (by omega) (by omega)]
  exact Int32.toBitVec.inj (by rw [UInt32.toBitVec_toInt32, UInt32.toBitVec_ofNat']; unfold nI fb; rw [Int32.toBitVec_ofNat'])
theorem i_or {a b : Nat} (ha : a < 2 ^ 32) (hb : b < 2 ^ 32) : nI a ||| nI b = nI (a ||| b) := by
  apply Int32.toBitVec.inj
  apply BitVec.eq_of_toNat_eq
  unfold nI
  rw [Int32.toBitVec_or, Int32.toBitVec_ofNat', Int32.toBitVec_ofNat', Int32.toBitVec_ofNat', BitVec.toNat_or, BitVec.toNat_ofNat, BitVec.toNat_ofNat, BitVec.toNat_ofNat, Nat.mod_eq_of_lt ha, Nat.mod_eq_of_lt hb, Nat.mod_eq_of_lt (Nat.or_lt_two_pow ha hb)]
theorem i_and {a b : Nat} (ha : a < 2 ^ 32) (hb : b < 2 ^ 32) : nI a &&& nI b = nI (a &&& b) := by
  apply Int32.toBitVec.inj
  apply BitVec.eq_of_toNat_eq
  unfold nI
  rw [Int32.toBitVec_and, Int32.toBitVec_ofNat', Int32.toBitVec_ofNat', Int32.toBitVec_ofNat', BitVec.toNat_and, BitVec.toNat_ofNat, BitVec.toNat_ofNat, BitVec.toNat_ofNat, Nat.mod_eq_of_lt ha, Nat.mod_eq_of_lt hb, Nat.mod_eq_of_lt (Nat.and_lt_two_pow _ hb)]
theorem fb_whole {c : Nat} {q : Int} (h1 : 2 ^ 23 ≤ c) (h2 : c < 2 ^ 24) : (fb c q &&& (2 ^ 23 - 1)) ||| 2 ^ 23 = c := by
  rw [Nat.and_two_pow_sub_one_eq_mod]
  have e : fb c q % 2 ^ 23 = c - 2 ^ 23 := by unfold fb; omega
  rw [e, Nat.or_comm]
  have := Nat.shiftLeft_add_eq_or_of_lt (i := 23) (b := c - 2 ^ 23) (by omega) 1
  rw [Nat.shiftLeft_eq, Nat.one_mul] at this
  rw [← this]
  omega
set_option maxHeartbeats 4000000 in
set_option maxRecDepth 100000 in
theorem z_wholeOf (l : Launch) (D : va_G) (cB cI cJ cD : ClassId) (c0 : Nat) (q0 : Int) (sz : Nat) (h1 : 2 ^ 23 ≤ c0) (h2 : c0 < 2 ^ 24) (h3 : -149 ≤ q0) (h4 : q0 ≤ 104) : Met l yX11_wholeOf (kk_W yX11_wholeOf cX11_wholeOf 1 (some .long)) ({ frames := 0, cells := 0, slots := 0, locals := 0 }) (va_Pc [.int (nI (fb c0 q0))] (kk_pre D cB cI cJ cD [] sz)) (vp_Sl (fun r => r = lN c0)) 0 0 (fun _ => False) := by
  refine kk_pstart (y := yX11_wholeOf) (maxL := 1) (av := [.int (nI (fb c0 q0))]) (by decide) (Nat.le_of_ble_eq_true rfl) ?_
  intro p e s m below meth c ls hx hb hr hml hown hts hE hlocks hsz hP hD hl
  have hown : s.vm.findClass RX11 = some m.cls := hown
  have hl : lv_has ls 1 [(0, .int (nI (fb c0 q0)))] := hl
  have hf := fb_lt h2 h3 h4
  refine lv_iload_n hx hb dX11_wholeOf_0 rfl (lv_at hl 0 rfl) ?_
  refine lv_ldc (v := nI (2 ^ 23 - 1)) hx hb hown (hts _ w_1521) dX11_wholeOf_1 ?_
  refine lv_iand hx hb dX11_wholeOf_3 ?_
  rw [i_and (by omega) (by decide)]
  refine lv_iload_n hx hb dX11_wholeOf_4 rfl (lv_at hl 0 rfl) ?_
  refine lv_ldc (v := nI (2 ^ 23)) hx hb hown (hts _ w_1522) dX11_wholeOf_5 ?_
  refine lv_icmp_ge (tgt := 14) hx hb dX11_wholeOf_7 (by decide) (fun _ => ?_) (fun h => absurd (nI_le hf.2 hf.1) h)
  refine lv_ldc (v := nI (2 ^ 23)) hx hb hown (hts _ w_1522) dX11_wholeOf_14 ?_
  refine lv_ior hx hb dX11_wholeOf_16 ?_
  rw [i_or (Nat.lt_of_le_of_lt Nat.and_le_left (by omega)) (by decide), fb_whole h1 h2]
  refine lv_i2l hx hb dX11_wholeOf_17 (nI_l (by omega)) ?_
  exact kk_pret_l hx hb hr hlocks rfl dX11_wholeOf_18
set_option maxHeartbeats 4000000 in
set_option maxRecDepth 100000 in
theorem z_powerOf (l : Launch) (D : va_G) (cB cI cJ cD : ClassId) (c0 : Nat) (q0 : Int) (sz : Nat) (h1 : 2 ^ 23 ≤ c0) (h2 : c0 < 2 ^ 24) (h3 : -149 ≤ q0) (h4 : q0 ≤ 104) : Met l yX11_powerOf (kk_W yX11_powerOf cX11_powerOf 1 (some .int)) ({ frames := 0, cells := 0, slots := 0, locals := 0 }) (va_Pc [.int (nI (fb c0 q0))] (kk_pre D cB cI cJ cD [] sz)) (vp_Si (fun r => r = Int32.ofInt q0)) 0 0 (fun _ => False) := by
  refine kk_pstart (y := yX11_powerOf) (maxL := 1) (av := [.int (nI (fb c0 q0))]) (by decide) (Nat.le_of_ble_eq_true rfl) ?_
  intro p e s m below meth c ls hx hb hr hml hown hts hE hlocks hsz hP hD hl
  have hown : s.vm.findClass RX11 = some m.cls := hown
  have hl : lv_has ls 1 [(0, .int (nI (fb c0 q0)))] := hl
  have hf := fb_lt h2 h3 h4
  refine lv_iload_n hx hb dX11_powerOf_0 rfl (lv_at hl 0 rfl) ?_
  refine lv_ldc (v := nI (2 ^ 23)) hx hb hown (hts _ w_1522) dX11_powerOf_1 ?_
  refine lv_icmp_ge (tgt := 12) hx hb dX11_powerOf_3 (by decide) (fun _ => ?_) (fun h => absurd (nI_le hf.2 hf.1) h)
  refine lv_iload_n hx hb dX11_powerOf_12 rfl (lv_at hl 0 rfl) ?_
  refine lv_bipush (v := 23) hx hb dX11_powerOf_13 (by decide) ?_
  refine lv_ishr hx hb dX11_powerOf_15 ?_
  rw [pk_shrN hf.1 _ 23 (by decide), show fb c0 q0 / 2 ^ 23 = (q0 + 150).toNat by unfold fb; omega]
  refine lv_sipush (v := 150) hx hb dX11_powerOf_16 (by decide) ?_
  refine lv_isub hx hb dX11_powerOf_19 ?_
  refine kk_pret_i hx hb hr hlocks ?_ dX11_powerOf_20
  rw [show nI (q0 + 150).toNat = Int32.ofInt ((q0 + 150).toNat : Int) from rfl, show (150 : Int32) = Int32.ofInt 150 from rfl, ← Int32.ofInt_sub, show ((q0 + 150).toNat : Int) - 150 = q0 by omega]
set_option maxHeartbeats 4000000 in
set_option maxRecDepth 100000 in
theorem z_shortBy (l : Launch) (D : va_G) (cB cI cJ cD : ClassId) (c0 : Nat) (q0 : Int) (sz : Nat) (h1 : 2 ^ 23 ≤ c0) (h2 : c0 < 2 ^ 24) (h3 : -149 ≤ q0) (h4 : q0 ≤ 104) : Met l yX11_shortBy (kk_W yX11_shortBy cX11_shortBy 2 (some .int)) ({ frames := 1, cells := 0, slots := 0, locals := 20 }) (va_Pc [.int (nI (fb c0 q0))] (kk_pre D cB cI cJ cD [] sz)) (vp_Si (fun r => r = 0)) 0 0 (fun _ => False) := by
  refine kk_pstart (y := yX11_shortBy) (maxL := 2) (av := [.int (nI (fb c0 q0))]) (by decide) (Nat.le_of_ble_eq_true rfl) ?_
  intro p e s m below meth c ls hx hb hr hml hown hts hE hlocks hsz hP hD hl
  have hown : s.vm.findClass RX11 = some m.cls := hown
  have hl : lv_has ls 2 [(0, .int (nI (fb c0 q0)))] := hl
  refine lv_iconst (v := nI 0) hx hb dX11_shortBy_0 (by decide) ?_
  refine lv_istore_n (lv' := [(1, .int (nI 0)), (0, .int (nI (fb c0 q0)))]) hx hb dX11_shortBy_1 rfl hl (by decide) rfl (fun ls hl => ?_)
  refine lv_iload_n hx hb dX11_shortBy_2 rfl (lv_at hl 1 rfl) ?_
  refine kk_pl (kk_runS (w1 := []) (As := [.int (nI (fb c0 q0))]) (rest := []) hx hb hml hown hts hE (z_wholeOf l D cB cI cJ cD c0 q0 s.heap.size h1 h2 h3 h4) m_X11_wholeOf w_1518 ⟨rfl, rfl, Nat.le_of_ble_eq_true rfl, Nat.le_of_ble_eq_true rfl⟩ hP hD rfl hl.1 (Nat.le_of_ble_eq_true rfl) dX11_shortBy_3 ⟨Nat.le_of_ble_eq_true rfl, Nat.le_of_ble_eq_true rfl⟩) (fun r h => ?_)
  subst h
  refine lv_iload_n hx hb dX11_shortBy_6 rfl (lv_at hl 0 rfl) ?_
  refine lv_lshl hx hb dX11_shortBy_7 (wb_shl c0 (by decide)) ?_
  rw [Nat.pow_zero, Nat.mul_one]
  refine lv_ldc2 (v := lN 8388608) hx hb hown (hts _ w_1513) dX11_shortBy_8 ?_
  refine W.lcmp hx hb dX11_shortBy_11 ?_
  refine lv_if_ge (tgt := 21) hx hb dX11_shortBy_12 (by decide) (fun _ => ?_) (fun h => absurd (by rcases lc_cases c0 8388608 (by omega) (by decide) with q | q | q <;> rw [q.2] <;> first | decide | (exact absurd q.1 (by omega))) h)
  refine lv_iload_n hx hb dX11_shortBy_21 rfl (lv_at hl 0 rfl) ?_
  exact kk_pret_i hx hb hr hlocks rfl dX11_shortBy_22
set_option maxHeartbeats 4000000 in
set_option maxRecDepth 100000 in
theorem z_divided (l : Launch) (D : va_G) (cB cI cJ cD : ClassId) (c1 : Nat) (q1 : Int) (c2 : Nat) (q2 : Int) (sz : Nat) (a1 : 2 ^ 23 ≤ c1) (a2 : c1 < 2 ^ 24) (a3 : -149 ≤ q1) (a4 : q1 ≤ 104) (b1 : 2 ^ 23 ≤ c2) (b2 : c2 < 2 ^ 24) (b3 : -149 ≤ q2) (b4 : q2 ≤ 104) (e1 : -40 ≤ q1 - q2) (e2 : q1 - q2 ≤ 60) : Met l yX11_divided (kk_W yX11_divided cX11_divided 10 (some .int)) ({ frames := 2, cells := 0, slots := 0, locals := 41 }) (va_Pc [.int (nI (fb c1 q1)), .int (nI (fb c2 q2))] (kk_pre D cB cI cJ cD [] sz)) (vp_Si (fun r => r = (FP.Core.of32 (FP.Core.roundRatio FP.Core.b32 false c1 c2 (q1 - q2))).toInt32)) 0 0 (fun _ => False) := by
  refine kk_pstart (y := yX11_divided) (maxL := 10) (av := [.int (nI (fb c1 q1)), .int (nI (fb c2 q2))]) (by decide) (Nat.le_of_ble_eq_true rfl) ?_
  intro p e s m below meth c ls hx hb hr hml hown hts hE hlocks hsz hP hD hl
  have hown : s.vm.findClass RX11 = some m.cls := hown
  have hl : lv_has ls 10 [(0, .int (nI (fb c1 q1))), (1, .int (nI (fb c2 q2)))] := hl
  have hf := fb_lt (c := c1) a2 a3 a4
  refine lv_iload_n hx hb dX11_divided_0 rfl (lv_at hl 0 rfl) ?_
  refine lv_if_ne (tgt := 6) hx hb dX11_divided_1 (by decide) (fun _ => ?_) (fun h => absurd h (nI_ne0 (by omega) hf.1))
  refine lv_iload_n hx hb dX11_divided_6 rfl (lv_at hl 0 rfl) ?_
  refine kk_pl (kk_runS (w1 := []) (As := [.int (nI (fb c1 q1))]) (rest := []) hx hb hml hown hts hE (z_wholeOf l D cB cI cJ cD c1 q1 s.heap.size a1 a2 a3 a4) m_X11_wholeOf w_1518 ⟨rfl, rfl, Nat.le_of_ble_eq_true rfl, Nat.le_of_ble_eq_true rfl⟩ hP hD rfl hl.1 (Nat.le_of_ble_eq_true rfl) dX11_divided_7 ⟨Nat.le_of_ble_eq_true rfl, Nat.le_of_ble_eq_true rfl⟩) (fun r h => ?_)
  subst h
  refine lv_iload_n hx hb dX11_divided_10 rfl (lv_at hl 0 rfl) ?_
  refine kk_pi (kk_runS (w1 := []) (As := [.int (nI (fb c1 q1))]) (rest := [.long (lN c1)]) hx hb hml hown hts hE (z_shortBy l D cB cI cJ cD c1 q1 s.heap.size a1 a2 a3 a4) m_X11_shortBy w_1523 ⟨rfl, rfl, Nat.le_of_ble_eq_true rfl, Nat.le_of_ble_eq_true rfl⟩ hP hD rfl hl.1 (Nat.le_of_ble_eq_true rfl) dX11_divided_11 ⟨Nat.le_of_ble_eq_true rfl, Nat.le_of_ble_eq_true rfl⟩) (fun r h => ?_)
  subst h
  refine lv_lshl hx hb dX11_divided_14 (wb_shl c1 (k := 0) (by decide)) ?_
  rw [Nat.pow_zero, Nat.mul_one]
  refine lv_lstore_n (lv' := [(2, .long (lN c1)), (0, .int (nI (fb c1 q1))), (1, .int (nI (fb c2 q2)))]) hx hb dX11_divided_15 rfl hl (by decide) rfl (fun ls hl => ?_)
  refine lv_iload_n hx hb dX11_divided_16 rfl (lv_at hl 2 rfl) ?_
  refine kk_pl (kk_runS (w1 := []) (As := [.int (nI (fb c2 q2))]) (rest := []) hx hb hml hown hts hE (z_wholeOf l D cB cI cJ cD c2 q2 s.heap.size b1 b2 b3 b4) m_X11_wholeOf w_1518 ⟨rfl, rfl, Nat.le_of_ble_eq_true rfl, Nat.le_of_ble_eq_true rfl⟩ hP hD rfl hl.1 (Nat.le_of_ble_eq_true rfl) dX11_divided_17 ⟨Nat.le_of_ble_eq_true rfl, Nat.le_of_ble_eq_true rfl⟩) (fun r h => ?_)
  subst h
  refine lv_iload_n hx hb dX11_divided_20 rfl (lv_at hl 2 rfl) ?_
  refine kk_pi (kk_runS (w1 := []) (As := [.int (nI (fb c2 q2))]) (rest := [.long (lN c2)]) hx hb hml hown hts hE (z_shortBy l D cB cI cJ cD c2 q2 s.heap.size b1 b2 b3 b4) m_X11_shortBy w_1523 ⟨rfl, rfl, Nat.le_of_ble_eq_true rfl, Nat.le_of_ble_eq_true rfl⟩ hP hD rfl hl.1 (Nat.le_of_ble_eq_true rfl) dX11_divided_21 ⟨Nat.le_of_ble_eq_true rfl, Nat.le_of_ble_eq_true rfl⟩) (fun r h => ?_)
  subst h
  refine lv_lshl hx hb dX11_divided_24 (wb_shl c2 (k := 0) (by decide)) ?_
  rw [Nat.pow_zero, Nat.mul_one]
  refine lv_lstore (lv' := [(4, .long (lN c2)), (2, .long (lN c1)), (0, .int (nI (fb c1 q1))), (1, .int (nI (fb c2 q2)))]) hx hb dX11_divided_25 hl (by decide) rfl (fun ls hl => ?_)
  obtain ⟨z, hz⟩ : ∃ z : Nat, z = c1 * 2 ^ 38 := ⟨_, rfl⟩
  have hz2 : z < 2 ^ 62 := by rw [hz]; exact Nat.mul_lt_mul_of_pos_right a2 (by decide)
  obtain ⟨n1, hn1⟩ : ∃ n1 : Nat, n1 = z / c2 := ⟨_, rfl⟩
  have hle : n1 * c2 ≤ z := by rw [hn1]; exact Nat.div_mul_le_self _ _
  obtain ⟨more, hmore⟩ : ∃ more : Nat, more = if n1 * c2 = z then 0 else 1 := ⟨_, rfl⟩
  obtain ⟨s1, s2, s3⟩ := sticky_rr (c1 := c1) (c2 := c2) (n1 := n1) (more := more) (e := q1 - q2) a1 a2 b1 b2 (by omega) (by rw [← hz]; exact hn1) (by rw [← hz]; exact hmore)
  have hm1 : more ≤ 1 := by rw [hmore]; split <;> omega
  refine lv_lload_n hx hb dX11_divided_27 rfl (lv_at hl 1 rfl) ?_
  refine lv_bipush (v := nI 38) hx hb dX11_divided_28 (by decide) ?_
  refine lv_lshl hx hb dX11_divided_30 (wb_shl c1 (by decide)) ?_
  rw [← hz]
  refine lv_lload hx hb dX11_divided_31 (lv_at hl 0 rfl) ?_
  refine lv_ldiv hx hb dX11_divided_33 (fun h => absurd ((pk_lEQ (a := c2) (b := 0) (by omega) (by decide)).mp h) (by omega)) ?_
  rw [pk_lDiv (by omega) (by omega) (by omega), ← hn1]
  refine lv_lstore (lv' := [(6, .long (lN n1)), (4, .long (lN c2)), (2, .long (lN c1)), (0, .int (nI (fb c1 q1))), (1, .int (nI (fb c2 q2)))]) hx hb dX11_divided_34 hl (by decide) rfl (fun ls hl => ?_)
  refine lv_lload hx hb dX11_divided_36 (lv_at hl 0 rfl) ?_
  refine lv_lload hx hb dX11_divided_38 (lv_at hl 1 rfl) ?_
  refine lv_lmul hx hb dX11_divided_40 ?_
  rw [lN_mul]
  refine lv_lload_n hx hb dX11_divided_41 rfl (lv_at hl 2 rfl) ?_
  refine lv_bipush (v := nI 38) hx hb dX11_divided_42 (by decide) ?_
  refine lv_lshl hx hb dX11_divided_44 (wb_shl c1 (by decide)) ?_
  rw [← hz]
  refine W.lcmp hx hb dX11_divided_45 ?_
  have tail : ∀ (ls : Array Slot), lv_has ls 10 [(6, .long (lN n1)), (4, .long (lN c2)), (2, .long (lN c1)), (0, .int (nI (fb c1 q1))), (1, .int (nI (fb c2 q2)))] → W p l e ({ frames := 2, cells := 0, slots := 0, locals := 41 }) s m ([.int (nI (fb c1 q1)), .int (nI (fb c2 q2))] : List Value).toArray below meth c s.heap [] 0 0 (MQ below (vp_Si (fun r => r = (FP.Core.of32 (FP.Core.roundRatio FP.Core.b32 false c1 c2 (q1 - q2))).toInt32)) ([.int (nI (fb c1 q1)), .int (nI (fb c2 q2))] : List Value).toArray s 0 0 (fun _ => False)) (F0 m 54 ls [.long (lN more)]) := by
    intro ls hl
    refine lv_lstore (lv' := [(8, .long (lN more)), (6, .long (lN n1)), (4, .long (lN c2)), (2, .long (lN c1)), (0, .int (nI (fb c1 q1))), (1, .int (nI (fb c2 q2)))]) hx hb dX11_divided_54 hl (by decide) rfl (fun ls hl => ?_)
    refine lv_ldc2 (v := lN 2) hx hb hown (hts _ w_1526) dX11_divided_56 ?_
    refine lv_lload hx hb dX11_divided_59 (lv_at hl 1 rfl) ?_
    refine lv_lmul hx hb dX11_divided_61 ?_
    rw [lN_mul]
    refine lv_lload hx hb dX11_divided_62 (lv_at hl 0 rfl) ?_
    refine lv_ladd hx hb dX11_divided_64 ?_
    rw [lN_add]
    refine lv_iload_n hx hb dX11_divided_65 rfl (lv_at hl 4 rfl) ?_
    refine kk_pi (kk_runS (w1 := []) (As := [.int (nI (fb c1 q1))]) (rest := [.long (lN (2 * n1 + more))]) hx hb hml hown hts hE (z_powerOf l D cB cI cJ cD c1 q1 s.heap.size a1 a2 a3 a4) m_X11_powerOf w_1527 ⟨rfl, rfl, Nat.le_of_ble_eq_true rfl, Nat.le_of_ble_eq_true rfl⟩ hP hD rfl hl.1 (Nat.le_of_ble_eq_true rfl) dX11_divided_66 ⟨Nat.le_of_ble_eq_true rfl, Nat.le_of_ble_eq_true rfl⟩) (fun r h => ?_)
    subst h
    refine lv_iload_n hx hb dX11_divided_69 rfl (lv_at hl 4 rfl) ?_
    refine kk_pi (kk_runS (w1 := []) (As := [.int (nI (fb c1 q1))]) (rest := [.int (Int32.ofInt q1), .long (lN (2 * n1 + more))]) hx hb hml hown hts hE (z_shortBy l D cB cI cJ cD c1 q1 s.heap.size a1 a2 a3 a4) m_X11_shortBy w_1523 ⟨rfl, rfl, Nat.le_of_ble_eq_true rfl, Nat.le_of_ble_eq_true rfl⟩ hP hD rfl hl.1 (Nat.le_of_ble_eq_true rfl) dX11_divided_70 ⟨Nat.le_of_ble_eq_true rfl, Nat.le_of_ble_eq_true rfl⟩) (fun r h => ?_)
    subst h
    refine lv_isub hx hb dX11_divided_73 ?_
    refine lv_iload_n hx hb dX11_divided_74 rfl (lv_at hl 5 rfl) ?_
    refine kk_pi (kk_runS (w1 := []) (As := [.int (nI (fb c2 q2))]) (rest := [.int (Int32.ofInt q1 - 0), .long (lN (2 * n1 + more))]) hx hb hml hown hts hE (z_powerOf l D cB cI cJ cD c2 q2 s.heap.size b1 b2 b3 b4) m_X11_powerOf w_1527 ⟨rfl, rfl, Nat.le_of_ble_eq_true rfl, Nat.le_of_ble_eq_true rfl⟩ hP hD rfl hl.1 (Nat.le_of_ble_eq_true rfl) dX11_divided_75 ⟨Nat.le_of_ble_eq_true rfl, Nat.le_of_ble_eq_true rfl⟩) (fun r h => ?_)
    subst h
    refine lv_isub hx hb dX11_divided_78 ?_
    refine lv_iload_n hx hb dX11_divided_79 rfl (lv_at hl 5 rfl) ?_
    refine kk_pi (kk_runS (w1 := []) (As := [.int (nI (fb c2 q2))]) (rest := [.int (Int32.ofInt q1 - 0 - Int32.ofInt q2), .long (lN (2 * n1 + more))]) hx hb hml hown hts hE (z_shortBy l D cB cI cJ cD c2 q2 s.heap.size b1 b2 b3 b4) m_X11_shortBy w_1523 ⟨rfl, rfl, Nat.le_of_ble_eq_true rfl, Nat.le_of_ble_eq_true rfl⟩ hP hD rfl hl.1 (Nat.le_of_ble_eq_true rfl) dX11_divided_80 ⟨Nat.le_of_ble_eq_true rfl, Nat.le_of_ble_eq_true rfl⟩) (fun r h => ?_)
    subst h
    refine lv_iadd hx hb dX11_divided_83 ?_
    refine lv_bipush (v := 39) hx hb dX11_divided_84 (by decide) ?_
    refine lv_isub hx hb dX11_divided_86 ?_
    have ee : Int32.ofInt q1 - 0 - Int32.ofInt q2 + 0 - 39 = Int32.ofInt (q1 - q2 - 39) := by
      rw [show (39 : Int32) = Int32.ofInt 39 from rfl, show (0 : Int32) = Int32.ofInt 0 from rfl, ← Int32.ofInt_sub, ← Int32.ofInt_sub, oi_add, ← Int32.ofInt_sub, show q1 - 0 - q2 + 0 - 39 = q1 - q2 - 39 by omega]
    rw [ee]
    refine kk_pi (kk_runS (w1 := []) (As := [.long (lN (2 * n1 + more)), .int (Int32.ofInt (q1 - q2 - 39))]) (rest := []) hx hb hml hown hts hE (z_packedFloat l D cB cI cJ cD (2 * n1 + more) (q1 - q2 - 39) s.heap.size (by omega) (by omega) (by omega) (by omega)) m_X11_packedFloat w_1509 ⟨rfl, rfl, Nat.le_of_ble_eq_true rfl, Nat.le_of_ble_eq_true rfl⟩ hP hD rfl hl.1 (Nat.le_of_ble_eq_true rfl) dX11_divided_87 ⟨Nat.le_of_ble_eq_true rfl, Nat.le_of_ble_eq_true rfl⟩) (fun r h => ?_)
    refine kk_pret_i hx hb hr hlocks ?_ dX11_divided_90
    rw [h, s3]
    rfl
  have cc := lc_cases (n1 * c2) z (by omega) (by omega)
  refine lv_if_ne (tgt := 53) hx hb dX11_divided_46 (by decide) (fun h => ?_) (fun h => ?_)
  · have : ¬ n1 * c2 = z := fun g => by
      rcases cc with w1 | w1 | w1
      · omega
      · exact h w1.2
      · omega
    rw [if_neg this] at hmore
    refine lv_lconst (v := lN more) hx hb dX11_divided_53 (by rw [hmore]; rfl) ?_
    exact tail ls hl
  · have : n1 * c2 = z := by
      rcases cc with w1 | w1 | w1
      · rw [w1.2] at h; exact absurd h (by decide)
      · exact w1.1
      · omega
    rw [if_pos this] at hmore
    refine lv_lconst (v := lN more) hx hb dX11_divided_49 (by rw [hmore]; rfl) ?_
    refine lv_goto (tgt := 54) hx hb dX11_divided_50 (by decide) ?_
    exact tail ls hl
