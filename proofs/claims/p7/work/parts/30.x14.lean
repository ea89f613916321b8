set_option maxHeartbeats 4000000 in
set_option maxRecDepth 100000 in
theorem c_X9_waitsFor (l : Launch) (D : va_G) (cB cI cJ cD : ClassId) (h : Nat) (h_crew : Nat) (h_crew_state : Nat) (h_crew_need : Nat) (h_crew_needKey : Nat) (h_shelf : Nat) (h_shelf_bits : Nat) (h_shelf_wholes : Nat) (h_shelf_sharers : Nat) (h_shelf_gaps : Nat) (h_diary : Nat) (h_crew_outcome : Nat) (h_crew_deaths : Nat) (h_crew_kind : Nat) (h_crew_low : Nat) (h_crew_high : Nat) (h_crew_value : Nat) (h_crew_line : Nat) (h_shelf_value : Nat) (h_shelf_cutter : Nat) (h_shelf_putter : Nat) (n_h_gapless : Int32) (n_h_looseReads : Int32) (n_h_impatient : Int32) (n_h_need : Int32) (n_h_needKey : Int32) (n_h_crew_size : Int32) (n_h_crew_lineLength : Int32) (f_h_crew_state : Nat → Int32) (f_h_crew_need : Nat → Int32) (f_h_crew_needKey : Nat → Int32) (n_h_shelf_size : Int32) (f_h_shelf_bits : Nat → Int32) (f_h_shelf_wholes : Nat → Int32) (f_h_shelf_sharers : Nat → Int32) (f_h_shelf_gaps : Nat → Int32) (p0 : Int32) (sz : Nat) (b_h_gapless : kr 0 1 n_h_gapless) (b_h_looseReads : kr 0 1 n_h_looseReads) (b_h_impatient : kr 0 1 n_h_impatient) (b_h_crew_size : kr 0 5 n_h_crew_size) (b_h_crew_lineLength : kr 0 5 n_h_crew_lineLength) (b_h_shelf_size : kr 0 24 n_h_shelf_size) (b_p0 : kr 0 4 p0) : Met l yX9_waitsFor (kk_W yX9_waitsFor cX9_waitsFor 2 (some .int)) ({ frames := 1, cells := 0, slots := 0, locals := 25 }) (va_Pc [.ref h, .int p0] (kk_pre D cB cI cJ cD [kO h 8 [.ref h_shelf, .ref h_crew, .ref h_diary, .int n_h_gapless, .int n_h_looseReads, .int n_h_impatient, .int n_h_need, .int n_h_needKey], kO h_crew 1 [.int n_h_crew_size, .ref h_crew_state, .ref h_crew_outcome, .ref h_crew_deaths, .ref h_crew_kind, .ref h_crew_low, .ref h_crew_high, .ref h_crew_value, .ref h_crew_need, .ref h_crew_needKey, .ref h_crew_line, .int n_h_crew_lineLength], kI cI h_crew_state 5 f_h_crew_state, kI cI h_crew_need 5 f_h_crew_need, kI cI h_crew_needKey 5 f_h_crew_needKey, kO h_shelf 6 [.int n_h_shelf_size, .ref h_shelf_bits, .ref h_shelf_value, .ref h_shelf_cutter, .ref h_shelf_putter, .ref h_shelf_gaps, .ref h_shelf_sharers, .ref h_shelf_wholes], kI cI h_shelf_bits 24 f_h_shelf_bits, kI cI h_shelf_wholes 24 f_h_shelf_wholes, kI cI h_shelf_sharers 24 f_h_shelf_sharers, kI cI h_shelf_gaps 25 f_h_shelf_gaps] sz)) (vp_Si (fun r => True)) 0 0 (fun _ => False) := by
  refine kk_pstart (y := yX9_waitsFor) (maxL := 2) (av := [.ref h, .int p0]) (by decide) (Nat.le_of_ble_eq_true rfl) ?_
  intro p e s m below meth c ls hx hb hr hml hown hts hE hlocks hsz hP hD hl
  have hown : s.vm.findClass RX9 = some m.cls := hown
  have hl : lv_has ls 2 [(0, .ref h), (1, .int p0)] := hl
  refine lv_aload_n hx hb dX9_waitsFor_0 rfl (lv_at hl 0 rfl) ?_
  refine va_get (D := D) (ci := 8) (v := .ref h_crew) (C := RX9) (T := TX9) (N := 8) hx hb hts u_X9 hown hE.1 hP 0 rfl rfl 1 (by decide) (hts _ w_387) (fun _ h9 => h9) rfl dX9_waitsFor_1 ?_
  refine va_get (D := D) (ci := 1) (v := .ref h_crew_state) (C := RX1) (T := TX1) (N := 12) hx hb hts u_X1 hown hE.1 hP 1 rfl rfl 1 (by decide) (hts _ w_316) (fun _ h9 => h9) rfl dX9_waitsFor_4 ?_
  refine lv_iload_n hx hb dX9_waitsFor_7 rfl (lv_at hl 1 rfl) ?_
  refine va_iald hx hb hE.1 hP 2 1 rfl rfl (kr_in b_p0 rfl) dX9_waitsFor_8 ?_
  refine lv_topi (fun v_1 e_1 => ?_)
  refine lv_iconst (v := 2) hx hb dX9_waitsFor_9 (by decide) ?_
  refine lv_icmp_eq (tgt := 15) hx hb dX9_waitsFor_10 (by decide) (fun c_2 => ?_) (fun c_2 => ?_)
  · have b_3 : kr 2 2 v_1 := kr_eq_l (kr_all v_1) (kr_c 2 2 rfl) c_2 rfl
    refine lv_aload_n hx hb dX9_waitsFor_15 rfl (lv_at hl 0 rfl) ?_
    refine va_get (D := D) (ci := 8) (v := .ref h_shelf) (C := RX9) (T := TX9) (N := 8) hx hb hts u_X9 hown hE.1 hP 0 rfl rfl 0 (by decide) (hts _ w_384) (fun _ h9 => h9) rfl dX9_waitsFor_16 ?_
    refine lv_iload_n hx hb dX9_waitsFor_19 rfl (lv_at hl 1 rfl) ?_
    refine lv_aload_n hx hb dX9_waitsFor_20 rfl (lv_at hl 0 rfl) ?_
    refine va_get (D := D) (ci := 8) (v := .ref h_crew) (C := RX9) (T := TX9) (N := 8) hx hb hts u_X9 hown hE.1 hP 0 rfl rfl 1 (by decide) (hts _ w_387) (fun _ h9 => h9) rfl dX9_waitsFor_21 ?_
    refine va_get (D := D) (ci := 1) (v := .ref h_crew_need) (C := RX1) (T := TX1) (N := 12) hx hb hts u_X1 hown hE.1 hP 1 rfl rfl 8 (by decide) (hts _ w_335) (fun _ h9 => h9) rfl dX9_waitsFor_24 ?_
    refine lv_iload_n hx hb dX9_waitsFor_27 rfl (lv_at hl 1 rfl) ?_
    refine va_iald hx hb hE.1 hP 3 1 rfl rfl (kr_in b_p0 rfl) dX9_waitsFor_28 ?_
    refine lv_topi (fun v_4 e_4 => ?_)
    refine lv_aload_n hx hb dX9_waitsFor_29 rfl (lv_at hl 0 rfl) ?_
    refine va_get (D := D) (ci := 8) (v := .ref h_crew) (C := RX9) (T := TX9) (N := 8) hx hb hts u_X9 hown hE.1 hP 0 rfl rfl 1 (by decide) (hts _ w_387) (fun _ h9 => h9) rfl dX9_waitsFor_30 ?_
    refine va_get (D := D) (ci := 1) (v := .ref h_crew_needKey) (C := RX1) (T := TX1) (N := 12) hx hb hts u_X1 hown hE.1 hP 1 rfl rfl 9 (by decide) (hts _ w_337) (fun _ h9 => h9) rfl dX9_waitsFor_33 ?_
    refine lv_iload_n hx hb dX9_waitsFor_36 rfl (lv_at hl 1 rfl) ?_
    refine va_iald hx hb hE.1 hP 4 1 rfl rfl (kr_in b_p0 rfl) dX9_waitsFor_37 ?_
    refine lv_topi (fun v_5 e_5 => ?_)
    refine kk_pi (kk_runV (w1 := [kO h_shelf 6 [.int n_h_shelf_size, .ref h_shelf_bits, .ref h_shelf_value, .ref h_shelf_cutter, .ref h_shelf_putter, .ref h_shelf_gaps, .ref h_shelf_sharers, .ref h_shelf_wholes], kI cI h_shelf_bits 24 f_h_shelf_bits, kI cI h_shelf_wholes 24 f_h_shelf_wholes, kI cI h_shelf_sharers 24 f_h_shelf_sharers, kI cI h_shelf_gaps 25 f_h_shelf_gaps]) (As := [.int p0, .int v_4, .int v_5]) (rest := []) hx hb hml hown hts hE (c_X7_blockers l D cB cI cJ cD h_shelf h_shelf_bits h_shelf_wholes h_shelf_sharers h_shelf_gaps h_shelf_value h_shelf_cutter h_shelf_putter n_h_shelf_size f_h_shelf_bits f_h_shelf_wholes f_h_shelf_sharers f_h_shelf_gaps p0 v_4 v_5 s.heap.size b_h_shelf_size) m_X7_blockers w_721 ⟨rfl, rfl, Nat.le_of_ble_eq_true rfl, Nat.le_of_ble_eq_true rfl⟩ (hP.sub [5, 6, 7, 8, 9] rfl) (hD.sub [5, 6, 7, 8, 9] (by decide +kernel) rfl) 0 6 rfl rfl rfl hl.1 (Nat.le_of_ble_eq_true rfl) dX9_waitsFor_38 ⟨Nat.le_of_ble_eq_true rfl, Nat.le_of_ble_eq_true rfl⟩) (fun r_6 p_6 => ?_)
    exact kk_pret_i hx hb hr hlocks trivial dX9_waitsFor_41
  · refine lv_iconst (v := 0) hx hb dX9_waitsFor_13 (by decide) ?_
    exact kk_pret_i hx hb hr hlocks trivial dX9_waitsFor_14
set_option maxHeartbeats 4000000 in
set_option maxRecDepth 100000 in
theorem c_X9_allLocks (l : Launch) (D : va_G) (cB cI cJ cD : ClassId) (h : Nat) (h_crew : Nat) (h_shelf : Nat) (h_shelf_gaps : Nat) (h_shelf_sharers : Nat) (h_diary : Nat) (h_crew_state : Nat) (h_crew_outcome : Nat) (h_crew_deaths : Nat) (h_crew_kind : Nat) (h_crew_low : Nat) (h_crew_high : Nat) (h_crew_value : Nat) (h_crew_need : Nat) (h_crew_needKey : Nat) (h_crew_line : Nat) (h_shelf_bits : Nat) (h_shelf_value : Nat) (h_shelf_cutter : Nat) (h_shelf_putter : Nat) (h_shelf_wholes : Nat) (n_h_gapless : Int32) (n_h_looseReads : Int32) (n_h_impatient : Int32) (n_h_need : Int32) (n_h_needKey : Int32) (n_h_crew_size : Int32) (n_h_crew_lineLength : Int32) (n_h_shelf_size : Int32) (f_h_shelf_gaps : Nat → Int32) (f_h_shelf_sharers : Nat → Int32) (sz : Nat) (b_h_gapless : kr 0 1 n_h_gapless) (b_h_looseReads : kr 0 1 n_h_looseReads) (b_h_impatient : kr 0 1 n_h_impatient) (b_h_crew_size : kr 0 5 n_h_crew_size) (b_h_crew_lineLength : kr 0 5 n_h_crew_lineLength) (b_h_shelf_size : kr 0 24 n_h_shelf_size) : Met l yX9_allLocks (kk_W yX9_allLocks cX9_allLocks 3 (some .int)) ({ frames := 1, cells := 0, slots := 0, locals := 23 }) (va_Pc [.ref h] (kk_pre D cB cI cJ cD [kO h 8 [.ref h_shelf, .ref h_crew, .ref h_diary, .int n_h_gapless, .int n_h_looseReads, .int n_h_impatient, .int n_h_need, .int n_h_needKey], kO h_crew 1 [.int n_h_crew_size, .ref h_crew_state, .ref h_crew_outcome, .ref h_crew_deaths, .ref h_crew_kind, .ref h_crew_low, .ref h_crew_high, .ref h_crew_value, .ref h_crew_need, .ref h_crew_needKey, .ref h_crew_line, .int n_h_crew_lineLength], kO h_shelf 6 [.int n_h_shelf_size, .ref h_shelf_bits, .ref h_shelf_value, .ref h_shelf_cutter, .ref h_shelf_putter, .ref h_shelf_gaps, .ref h_shelf_sharers, .ref h_shelf_wholes], kI cI h_shelf_gaps 25 f_h_shelf_gaps, kI cI h_shelf_sharers 24 f_h_shelf_sharers] sz)) (vp_Si (fun r => True)) 0 0 (fun _ => False) := by
  refine kk_pstart (y := yX9_allLocks) (maxL := 3) (av := [.ref h]) (by decide) (Nat.le_of_ble_eq_true rfl) ?_
  intro p e s m below meth c ls hx hb hr hml hown hts hE hlocks hsz hP hD hl
  have hown : s.vm.findClass RX9 = some m.cls := hown
  have hl : lv_has ls 3 [(0, .ref h)] := hl
  generalize hQQ : MQ below _ _ s _ _ _ = QQ
  have J_4 : ∀ (n : Nat) (x4_l_2 : Int32) (x4_l_1 : Int32) (ls : Array Slot), (5 - x4_l_2.toInt).toNat < n → kr 0 5 x4_l_2 → lv_has ls 3 [(2, .int x4_l_2), (1, .int x4_l_1), (0, .ref h)] → W p l e ({ frames := 1, cells := 0, slots := 0, locals := 23 }) s m ([.ref h] : List Value).toArray below meth c s.heap [] 0 0 QQ (F0 m 4 ls []) := by
    intro n
    induction n with
    | zero =>
      intro x4_l_2 x4_l_1 ls hn_4 bx4_l_2 hl
      exact absurd hn_4 (Nat.not_lt_zero _)
    | succ n ih_4 =>
      intro x4_l_2 x4_l_1 ls hn_4 bx4_l_2 hl
      refine lv_iload_n hx hb dX9_allLocks_4 rfl (lv_at hl 0 rfl) ?_
      refine lv_aload_n hx hb dX9_allLocks_5 rfl (lv_at hl 2 rfl) ?_
      refine va_get (D := D) (ci := 8) (v := .ref h_crew) (C := RX9) (T := TX9) (N := 8) hx hb hts u_X9 hown hE.1 hP 0 rfl rfl 1 (by decide) (hts _ w_387) (fun _ h9 => h9) rfl dX9_allLocks_6 ?_
      refine va_get (D := D) (ci := 1) (v := .int n_h_crew_size) (C := RX1) (T := TX1) (N := 12) hx hb hts u_X1 hown hE.1 hP 1 rfl rfl 0 (by decide) (hts _ w_313) (fun _ h9 => h9) rfl dX9_allLocks_9 ?_
      refine lv_icmp_ge (tgt := 32) hx hb dX9_allLocks_12 (by decide) (fun c_1 => ?_) (fun c_1 => ?_)
      · have i_1 : n_h_crew_size.toInt ≤ x4_l_2.toInt := (ki_le c_1)
        refine lv_iload_n hx hb dX9_allLocks_32 rfl (lv_at hl 1 rfl) ?_
        subst hQQ
        exact kk_pret_i hx hb hr hlocks trivial dX9_allLocks_33
      · have i_1 : x4_l_2.toInt < n_h_crew_size.toInt := (ki_nle c_1)
        have b_2 : kr 0 4 x4_l_2 := kr_lt_l bx4_l_2 b_h_crew_size i_1 rfl
        have b_3 : kr 1 5 n_h_crew_size := kr_lt_r bx4_l_2 b_h_crew_size i_1 rfl
        refine lv_iload_n hx hb dX9_allLocks_15 rfl (lv_at hl 1 rfl) ?_
        refine lv_aload_n hx hb dX9_allLocks_16 rfl (lv_at hl 2 rfl) ?_
        refine va_get (D := D) (ci := 8) (v := .ref h_shelf) (C := RX9) (T := TX9) (N := 8) hx hb hts u_X9 hown hE.1 hP 0 rfl rfl 0 (by decide) (hts _ w_384) (fun _ h9 => h9) rfl dX9_allLocks_17 ?_
        refine lv_iload_n hx hb dX9_allLocks_20 rfl (lv_at hl 0 rfl) ?_
        refine kk_pi (kk_runV (w1 := [kO h_shelf 6 [.int n_h_shelf_size, .ref h_shelf_bits, .ref h_shelf_value, .ref h_shelf_cutter, .ref h_shelf_putter, .ref h_shelf_gaps, .ref h_shelf_sharers, .ref h_shelf_wholes], kI cI h_shelf_gaps 25 f_h_shelf_gaps, kI cI h_shelf_sharers 24 f_h_shelf_sharers]) (As := [.int x4_l_2]) (rest := [.int x4_l_1]) hx hb hml hown hts hE (c_X7_locksOf l D cB cI cJ cD h_shelf h_shelf_gaps h_shelf_sharers h_shelf_bits h_shelf_value h_shelf_cutter h_shelf_putter h_shelf_wholes n_h_shelf_size f_h_shelf_gaps f_h_shelf_sharers x4_l_2 s.heap.size b_h_shelf_size) m_X7_locksOf w_1147 ⟨rfl, rfl, Nat.le_of_ble_eq_true rfl, Nat.le_of_ble_eq_true rfl⟩ (hP.sub [2, 3, 4] rfl) (hD.sub [2, 3, 4] (by decide +kernel) rfl) 0 6 rfl rfl rfl hl.1 (Nat.le_of_ble_eq_true rfl) dX9_allLocks_21 ⟨Nat.le_of_ble_eq_true rfl, Nat.le_of_ble_eq_true rfl⟩) (fun r_4 p_4 => ?_)
        refine lv_iadd hx hb dX9_allLocks_24 ?_
        refine lv_topi (fun v_5 e_5 => ?_)
        refine lv_istore_n (lv' := [(1, .int v_5), (2, .int x4_l_2), (0, .ref h)]) hx hb dX9_allLocks_25 rfl hl (by decide) rfl (fun ls hl => ?_)
        obtain ⟨v_6, e_6⟩ : ∃ y : Int32, y = x4_l_2 + 1 := ⟨_, rfl⟩
        have t_6 : v_6.toInt = x4_l_2.toInt + 1 := kt_add e_6 b_2 (kr_c 1 1 rfl) rfl
        have b_6 : kr 1 5 v_6 := kr_add (x := x4_l_2) (y := 1) t_6 b_2 (kr_c 1 1 rfl) rfl
        refine lv_iinc (v := v_6) (lv' := [(2, .int v_6), (1, .int v_5), (0, .ref h)]) hx hb dX9_allLocks_26 hl (k := 1) rfl (by rw [e_6]; rfl) (by decide) rfl (fun ls hl => ?_)
        refine lv_goto (tgt := 4) hx hb dX9_allLocks_29 (by decide) ?_
        exact ih_4 v_6 v_5 _ (km_up hn_4 t_6 b_6 rfl) (kr_w b_6 rfl) (lv_sub hl [0, 1, 2] rfl)
  refine lv_iconst (v := 0) hx hb dX9_allLocks_0 (by decide) ?_
  refine lv_istore_n (lv' := [(1, .int 0), (0, .ref h)]) hx hb dX9_allLocks_1 rfl hl (by decide) rfl (fun ls hl => ?_)
  refine lv_iconst (v := 0) hx hb dX9_allLocks_2 (by decide) ?_
  refine lv_istore_n (lv' := [(2, .int 0), (1, .int 0), (0, .ref h)]) hx hb dX9_allLocks_3 rfl hl (by decide) rfl (fun ls hl => ?_)
  exact J_4 _ 0 0 _ (Nat.lt_succ_self _) (kr_w (kr_c 0 0 rfl) rfl) (lv_sub hl [0, 1, 2] rfl)
