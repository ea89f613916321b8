set_option maxHeartbeats 4000000 in
set_option maxRecDepth 100000 in
theorem c_X3_changesBy (l : Launch) (D : va_G) (cB cI cJ cD : ClassId) (h : Nat) (h_changes : Nat) (n_h_length : Int32) (f_h_changes : Nat → Int64) (p0 : Int32) (sz : Nat) (b_h_length : kr 0 600 n_h_length) : Met l yX3_changesBy (kk_W yX3_changesBy cX3_changesBy 4 (some .int)) ({ frames := 1, cells := 0, slots := 0, locals := 21 }) (va_Pc [.ref h, .int p0] (kk_pre D cB cI cJ cD [kO h 3 [.int n_h_length, .ref h_changes], kJ cJ h_changes 600 f_h_changes] sz)) (vp_Si (fun r => True)) 0 0 (fun _ => False) := by
  refine kk_pstart (y := yX3_changesBy) (maxL := 4) (av := [.ref h, .int p0]) (by decide) (Nat.le_of_ble_eq_true rfl) ?_
  intro p e s m below meth c ls hx hb hr hml hown hts hE hlocks hsz hP hD hl
  have hown : s.vm.findClass RX3 = some m.cls := hown
  have hl : lv_has ls 4 [(0, .ref h), (1, .int p0)] := hl
  generalize hQQ : MQ below _ _ s _ _ _ = QQ
  have J_4 : ∀ (n : Nat) (x4_l_3 : Int32) (x4_l_2 : Int32) (ls : Array Slot), (600 - x4_l_3.toInt).toNat < n → kr 0 600 x4_l_3 → lv_has ls 4 [(3, .int x4_l_3), (2, .int x4_l_2), (0, .ref h), (1, .int p0)] → W p l e ({ frames := 1, cells := 0, slots := 0, locals := 21 }) s m ([.ref h, .int p0] : List Value).toArray below meth c s.heap [] 0 0 QQ (F0 m 4 ls []) := by
    intro n
    induction n with
    | zero =>
      intro x4_l_3 x4_l_2 ls hn_4 bx4_l_3 hl
      exact absurd hn_4 (Nat.not_lt_zero _)
    | succ n ih_4 =>
      intro x4_l_3 x4_l_2 ls hn_4 bx4_l_3 hl
      have J_27 : ∀ (x27_s_1 : Int32) (ls : Array Slot), kr 0 599 x4_l_3 → kr 0 1 x27_s_1 → kr 1 600 n_h_length → lv_has ls 4 [(3, .int x4_l_3), (0, .ref h), (1, .int p0)] → W p l e ({ frames := 1, cells := 0, slots := 0, locals := 21 }) s m ([.ref h, .int p0] : List Value).toArray below meth c s.heap [] 0 0 QQ (F0 m 27 ls [.int x27_s_1, .int x4_l_2]) := by
        intro x27_s_1 ls c27_x4_l_3 bx27_s_1 c27_n_h_length hl
        refine lv_iadd hx hb dX3_changesBy_27 ?_
        refine lv_topi (fun v_1 e_1 => ?_)
        refine lv_istore_n (lv' := [(2, .int v_1), (3, .int x4_l_3), (0, .ref h), (1, .int p0)]) hx hb dX3_changesBy_28 rfl hl (by decide) rfl (fun ls hl => ?_)
        obtain ⟨v_2, e_2⟩ : ∃ y : Int32, y = x4_l_3 + 1 := ⟨_, rfl⟩
        have t_2 : v_2.toInt = x4_l_3.toInt + 1 := kt_add e_2 c27_x4_l_3 (kr_c 1 1 rfl) rfl
        have b_2 : kr 1 600 v_2 := kr_add (x := x4_l_3) (y := 1) t_2 c27_x4_l_3 (kr_c 1 1 rfl) rfl
        refine lv_iinc (v := v_2) (lv' := [(3, .int v_2), (2, .int v_1), (0, .ref h), (1, .int p0)]) hx hb dX3_changesBy_29 hl (k := 1) rfl (by rw [e_2]; rfl) (by decide) rfl (fun ls hl => ?_)
        refine lv_goto (tgt := 4) hx hb dX3_changesBy_32 (by decide) ?_
        exact ih_4 v_2 v_1 _ (km_up hn_4 t_2 b_2 rfl) (kr_w b_2 rfl) (lv_sub hl [0, 1, 2, 3] rfl)
      refine lv_iload_n hx hb dX3_changesBy_4 rfl (lv_at hl 0 rfl) ?_
      refine lv_aload_n hx hb dX3_changesBy_5 rfl (lv_at hl 2 rfl) ?_
      refine va_get (D := D) (ci := 3) (v := .int n_h_length) (C := RX3) (T := TX3) (N := 2) hx hb hts u_X3 hown hE.1 hP 0 rfl rfl 0 (by decide) (hts _ w_375) (fun _ h9 => h9) rfl dX3_changesBy_6 ?_
      refine lv_icmp_ge (tgt := 35) hx hb dX3_changesBy_9 (by decide) (fun c_3 => ?_) (fun c_3 => ?_)
      · have i_3 : n_h_length.toInt ≤ x4_l_3.toInt := (ki_le c_3)
        refine lv_iload_n hx hb dX3_changesBy_35 rfl (lv_at hl 1 rfl) ?_
        subst hQQ
        exact kk_pret_i hx hb hr hlocks trivial dX3_changesBy_36
      · have i_3 : x4_l_3.toInt < n_h_length.toInt := (ki_nle c_3)
        have b_4 : kr 0 599 x4_l_3 := kr_lt_l bx4_l_3 b_h_length i_3 rfl
        have b_5 : kr 1 600 n_h_length := kr_lt_r bx4_l_3 b_h_length i_3 rfl
        refine lv_iload_n hx hb dX3_changesBy_12 rfl (lv_at hl 1 rfl) ?_
        refine lv_aload_n hx hb dX3_changesBy_13 rfl (lv_at hl 2 rfl) ?_
        refine lv_iload_n hx hb dX3_changesBy_14 rfl (lv_at hl 0 rfl) ?_
        refine kk_pi (kk_runV (w1 := [kO h 3 [.int n_h_length, .ref h_changes], kJ cJ h_changes 600 f_h_changes]) (As := [.int x4_l_3]) (rest := [.int x4_l_2]) hx hb hml hown hts hE (c_X3_handOf l D cB cI cJ cD h h_changes n_h_length f_h_changes x4_l_3 s.heap.size (kr_w b_5 rfl) b_4) m_X3_handOf w_733 ⟨rfl, rfl, Nat.le_of_ble_eq_true rfl, Nat.le_of_ble_eq_true rfl⟩ (hP.sub [0, 1] rfl) (hD.sub [0, 1] (by decide +kernel) rfl) 0 3 rfl rfl rfl hl.1 (Nat.le_of_ble_eq_true rfl) dX3_changesBy_15 ⟨Nat.le_of_ble_eq_true rfl, Nat.le_of_ble_eq_true rfl⟩) (fun r_6 p_6 => ?_)
        refine lv_iload_n hx hb dX3_changesBy_18 rfl (lv_at hl 3 rfl) ?_
        refine lv_icmp_ne (tgt := 26) hx hb dX3_changesBy_19 (by decide) (fun c_7 => ?_) (fun c_7 => ?_)
        · refine lv_iconst (v := 0) hx hb dX3_changesBy_26 (by decide) ?_
          exact J_27 0 _ b_4 (kr_w (kr_c 0 0 rfl) rfl) b_5 (lv_sub hl [0, 2, 3] rfl)
        · refine lv_iconst (v := 1) hx hb dX3_changesBy_22 (by decide) ?_
          refine lv_goto (tgt := 27) hx hb dX3_changesBy_23 (by decide) ?_
          exact J_27 1 _ b_4 (kr_w (kr_c 1 1 rfl) rfl) b_5 (lv_sub hl [0, 2, 3] rfl)
  refine lv_iconst (v := 0) hx hb dX3_changesBy_0 (by decide) ?_
  refine lv_istore_n (lv' := [(2, .int 0), (0, .ref h), (1, .int p0)]) hx hb dX3_changesBy_1 rfl hl (by decide) rfl (fun ls hl => ?_)
  refine lv_iconst (v := 0) hx hb dX3_changesBy_2 (by decide) ?_
  refine lv_istore_n (lv' := [(3, .int 0), (2, .int 0), (0, .ref h), (1, .int p0)]) hx hb dX3_changesBy_3 rfl hl (by decide) rfl (fun ls hl => ?_)
  exact J_4 _ 0 0 _ (Nat.lt_succ_self _) (kr_w (kr_c 0 0 rfl) rfl) (lv_sub hl [0, 1, 2, 3] rfl)
set_option maxHeartbeats 4000000 in
set_option maxRecDepth 100000 in
theorem c_X6_clear (l : Launch) (D : va_G) (cB cI cJ cD : ClassId) (h : Nat) (h_told : Nat) (h_names : Nat) (h_kind : Nat) (h_hand : Nat) (h_low : Nat) (h_high : Nat) (h_value : Nat) (h_told_bits : Nat) (h_told_value : Nat) (h_told_cutter : Nat) (h_told_putter : Nat) (h_told_gaps : Nat) (h_told_sharers : Nat) (h_told_wholes : Nat) (n_h_lines : Int32) (n_h_hands : Int32) (n_h_steps : Int32) (n_h_told_size : Int32) (sz : Nat) (b_h_hands : kr 0 5 n_h_hands) (b_h_steps : kr 0 24 n_h_steps) (b_h_told_size : kr 0 24 n_h_told_size) : Met l yX6_clear (kk_W yX6_clear cX6_clear 1 none) ({ frames := 0, cells := 0, slots := 0, locals := 0 }) (va_Pc [.ref h] (kk_pre D cB cI cJ cD [kO h 5 [.int n_h_lines, .int n_h_hands, .int n_h_steps, .ref h_told, .ref h_names, .ref h_kind, .ref h_hand, .ref h_low, .ref h_high, .ref h_value], kO h_told 6 [.int n_h_told_size, .ref h_told_bits, .ref h_told_value, .ref h_told_cutter, .ref h_told_putter, .ref h_told_gaps, .ref h_told_sharers, .ref h_told_wholes]] sz)) (kk_Qv D (fun (u : (Nat → Nat) × (Nat → Nat → Int32) × (Nat → Nat → Int64) × (Nat → Int32)) => kr 0 0 (u.2.2.2 0) ∧ kr 0 0 (u.2.2.2 1) ∧ kr 0 0 (u.2.2.2 2) ∧ kr 0 0 (u.2.2.2 3)) (fun u => [kO h 5 [.int (u.2.2.2 0), .int (u.2.2.2 1), .int (u.2.2.2 2), .ref h_told, .ref h_names, .ref h_kind, .ref h_hand, .ref h_low, .ref h_high, .ref h_value], kO h_told 6 [.int (u.2.2.2 3), .ref h_told_bits, .ref h_told_value, .ref h_told_cutter, .ref h_told_putter, .ref h_told_gaps, .ref h_told_sharers, .ref h_told_wholes]]) (va_A [kO h 5 [.int n_h_lines, .int n_h_hands, .int n_h_steps, .ref h_told, .ref h_names, .ref h_kind, .ref h_hand, .ref h_low, .ref h_high, .ref h_value], kO h_told 6 [.int n_h_told_size, .ref h_told_bits, .ref h_told_value, .ref h_told_cutter, .ref h_told_putter, .ref h_told_gaps, .ref h_told_sharers, .ref h_told_wholes]] sz)) 0 0 (va_A [kO h 5 [.int n_h_lines, .int n_h_hands, .int n_h_steps, .ref h_told, .ref h_names, .ref h_kind, .ref h_hand, .ref h_low, .ref h_high, .ref h_value], kO h_told 6 [.int n_h_told_size, .ref h_told_bits, .ref h_told_value, .ref h_told_cutter, .ref h_told_putter, .ref h_told_gaps, .ref h_told_sharers, .ref h_told_wholes]] sz) := by
  refine kk_start (y := yX6_clear) (maxL := 1) (av := [.ref h]) (Qc := fun A => kk_Qv D (fun (u : (Nat → Nat) × (Nat → Nat → Int32) × (Nat → Nat → Int64) × (Nat → Int32)) => kr 0 0 (u.2.2.2 0) ∧ kr 0 0 (u.2.2.2 1) ∧ kr 0 0 (u.2.2.2 2) ∧ kr 0 0 (u.2.2.2 3)) (fun u => [kO h 5 [.int (u.2.2.2 0), .int (u.2.2.2 1), .int (u.2.2.2 2), .ref h_told, .ref h_names, .ref h_kind, .ref h_hand, .ref h_low, .ref h_high, .ref h_value], kO h_told 6 [.int (u.2.2.2 3), .ref h_told_bits, .ref h_told_value, .ref h_told_cutter, .ref h_told_putter, .ref h_told_gaps, .ref h_told_sharers, .ref h_told_wholes]]) A) (by decide) (Nat.le_of_ble_eq_true rfl) ?_
  intro p e s m below meth c ls A hx hb hr hml hown hts hE hlocks hin hsz hP hD hA hS hl
  have hown : s.vm.findClass RX6 = some m.cls := hown
  have hl : lv_has ls 1 [(0, .ref h)] := hl
  refine lv_aload_n hx hb dX6_clear_0 rfl (lv_at hl 0 rfl) ?_
  refine lv_iconst (v := 0) hx hb dX6_clear_1 (by decide) ?_
  refine va_put (D := D) (ci := 5) (v := .int 0) (ty := .int) (C := RX6) (T := TX6) (N := 10) hx hb hts u_X6 tyX6 tyX6_ok nmX6 hown hE.1 hP hD hS 0 rfl rfl 0 (by decide) (hts _ w_203) (fun _ h9 => h9) rfl (by decide +kernel) rfl rfl (Nat.le_of_ble_eq_true rfl) dX6_clear_2 (fun H locs hP hD hS => ?_)
  obtain ⟨hP, hD⟩ : kPD D A [kO h 5 [.int 0, .int n_h_hands, .int n_h_steps, .ref h_told, .ref h_names, .ref h_kind, .ref h_hand, .ref h_low, .ref h_high, .ref h_value], kO h_told 6 [.int n_h_told_size, .ref h_told_bits, .ref h_told_value, .ref h_told_cutter, .ref h_told_putter, .ref h_told_gaps, .ref h_told_sharers, .ref h_told_wholes]] H := ⟨hP, hD⟩
  refine lv_aload_n hx hb dX6_clear_5 rfl (lv_at hl 0 rfl) ?_
  refine lv_iconst (v := 0) hx hb dX6_clear_6 (by decide) ?_
  refine va_put (D := D) (ci := 5) (v := .int 0) (ty := .int) (C := RX6) (T := TX6) (N := 10) hx hb hts u_X6 tyX6 tyX6_ok nmX6 hown hE.1 hP hD hS 0 rfl rfl 1 (by decide) (hts _ w_206) (fun _ h9 => h9) rfl (by decide +kernel) rfl rfl (Nat.le_of_ble_eq_true rfl) dX6_clear_7 (fun H locs hP hD hS => ?_)
  obtain ⟨hP, hD⟩ : kPD D A [kO h 5 [.int 0, .int 0, .int n_h_steps, .ref h_told, .ref h_names, .ref h_kind, .ref h_hand, .ref h_low, .ref h_high, .ref h_value], kO h_told 6 [.int n_h_told_size, .ref h_told_bits, .ref h_told_value, .ref h_told_cutter, .ref h_told_putter, .ref h_told_gaps, .ref h_told_sharers, .ref h_told_wholes]] H := ⟨hP, hD⟩
  refine lv_aload_n hx hb dX6_clear_10 rfl (lv_at hl 0 rfl) ?_
  refine lv_iconst (v := 0) hx hb dX6_clear_11 (by decide) ?_
  refine va_put (D := D) (ci := 5) (v := .int 0) (ty := .int) (C := RX6) (T := TX6) (N := 10) hx hb hts u_X6 tyX6 tyX6_ok nmX6 hown hE.1 hP hD hS 0 rfl rfl 2 (by decide) (hts _ w_211) (fun _ h9 => h9) rfl (by decide +kernel) rfl rfl (Nat.le_of_ble_eq_true rfl) dX6_clear_12 (fun H locs hP hD hS => ?_)
  obtain ⟨hP, hD⟩ : kPD D A [kO h 5 [.int 0, .int 0, .int 0, .ref h_told, .ref h_names, .ref h_kind, .ref h_hand, .ref h_low, .ref h_high, .ref h_value], kO h_told 6 [.int n_h_told_size, .ref h_told_bits, .ref h_told_value, .ref h_told_cutter, .ref h_told_putter, .ref h_told_gaps, .ref h_told_sharers, .ref h_told_wholes]] H := ⟨hP, hD⟩
  refine lv_aload_n hx hb dX6_clear_15 rfl (lv_at hl 0 rfl) ?_
  refine va_get (D := D) (ci := 5) (v := .ref h_told) (C := RX6) (T := TX6) (N := 10) hx hb hts u_X6 hown hE.1 hP 0 rfl rfl 3 (by decide) (hts _ w_216) (fun _ h9 => h9) rfl dX6_clear_16 ?_
  refine lv_iconst (v := 0) hx hb dX6_clear_19 (by decide) ?_
  refine va_put (D := D) (ci := 6) (v := .int 0) (ty := .int) (C := RX7) (T := TX7) (N := 8) hx hb hts u_X7 tyX7 tyX7_ok nmX7 hown hE.1 hP hD hS 1 rfl rfl 0 (by decide) (hts _ w_158) (fun _ h9 => h9) rfl (by decide +kernel) rfl rfl (Nat.le_of_ble_eq_true rfl) dX6_clear_20 (fun H locs hP hD hS => ?_)
  obtain ⟨hP, hD⟩ : kPD D A [kO h 5 [.int 0, .int 0, .int 0, .ref h_told, .ref h_names, .ref h_kind, .ref h_hand, .ref h_low, .ref h_high, .ref h_value], kO h_told 6 [.int 0, .ref h_told_bits, .ref h_told_value, .ref h_told_cutter, .ref h_told_putter, .ref h_told_gaps, .ref h_told_sharers, .ref h_told_wholes]] H := ⟨hP, hD⟩
  exact kk_ret_v ((fun _ => 0), (fun i => [].getD i (fun _ => 0)), (fun i => [].getD i (fun _ => 0)), (fun i => [0, 0, 0, 0].getD i 0)) hx hb hr hlocks ⟨(kr_w (kr_c 0 0 rfl) rfl), (kr_w (kr_c 0 0 rfl) rfl), (kr_w (kr_c 0 0 rfl) rfl), (kr_w (kr_c 0 0 rfl) rfl)⟩ (hP.sub [0, 1] rfl) (hD.sub [0, 1] (by decide +kernel) rfl) hS dX6_clear_23 (Nat.le_of_ble_eq_true rfl) (Nat.le_of_ble_eq_true rfl)
set_option maxHeartbeats 4000000 in
set_option maxRecDepth 100000 in
theorem c_X5_takeWord (l : Launch) (D : va_G) (cB cI cJ cD : ClassId) (h : Nat) (h_bytes : Nat) (h_script : Nat) (n_h_faultCode : Int32) (n_h_faultPlace : Int32) (n_h_length : Int32) (n_h_at : Int32) (n_h_token : Int32) (n_h_tokenPlace : Int32) (n_h_tokenWorth : Int32) (f_h_bytes : Nat → Int32) (sz : Nat) (b_h_length : kr 0 700 n_h_length) (b_h_at : kr 0 700 n_h_at) : Met l yX5_takeWord (kk_W yX5_takeWord cX5_takeWord 2 none) ({ frames := 0, cells := 0, slots := 0, locals := 0 }) (va_Pc [.ref h] (kk_pre D cB cI cJ cD [kO h 4 [.int n_h_faultCode, .int n_h_faultPlace, .ref h_bytes, .int n_h_length, .int n_h_at, .int n_h_token, .int n_h_tokenPlace, .int n_h_tokenWorth, .ref h_script], kI cB h_bytes 700 f_h_bytes] sz)) (kk_Qv D (fun (u : (Nat → Nat) × (Nat → Nat → Int32) × (Nat → Nat → Int64) × (Nat → Int32)) => kr 0 700 (u.2.2.2 0) ∧ kr 1 4 (u.2.2.2 1)) (fun u => [kO h 4 [.int n_h_faultCode, .int n_h_faultPlace, .ref h_bytes, .int n_h_length, .int (u.2.2.2 0), .int (u.2.2.2 1), .int n_h_tokenPlace, .int (u.2.2.2 2), .ref h_script], kI cB h_bytes 700 f_h_bytes]) (va_A [kO h 4 [.int n_h_faultCode, .int n_h_faultPlace, .ref h_bytes, .int n_h_length, .int n_h_at, .int n_h_token, .int n_h_tokenPlace, .int n_h_tokenWorth, .ref h_script], kI cB h_bytes 700 f_h_bytes] sz)) 0 0 (va_A [kO h 4 [.int n_h_faultCode, .int n_h_faultPlace, .ref h_bytes, .int n_h_length, .int n_h_at, .int n_h_token, .int n_h_tokenPlace, .int n_h_tokenWorth, .ref h_script], kI cB h_bytes 700 f_h_bytes] sz) := by
  refine kk_start (y := yX5_takeWord) (maxL := 2) (av := [.ref h]) (Qc := fun A => kk_Qv D (fun (u : (Nat → Nat) × (Nat → Nat → Int32) × (Nat → Nat → Int64) × (Nat → Int32)) => kr 0 700 (u.2.2.2 0) ∧ kr 1 4 (u.2.2.2 1)) (fun u => [kO h 4 [.int n_h_faultCode, .int n_h_faultPlace, .ref h_bytes, .int n_h_length, .int (u.2.2.2 0), .int (u.2.2.2 1), .int n_h_tokenPlace, .int (u.2.2.2 2), .ref h_script], kI cB h_bytes 700 f_h_bytes]) A) (by decide) (Nat.le_of_ble_eq_true rfl) ?_
  intro p e s m below meth c ls A hx hb hr hml hown hts hE hlocks hin hsz hP hD hA hS hl
  have hown : s.vm.findClass RX5 = some m.cls := hown
  have hl : lv_has ls 2 [(0, .ref h)] := hl
  generalize hQQ : MQ below _ _ s _ _ _ = QQ
  have J_8 : ∀ (n : Nat) (x8_l_1 : Int32) (x8_f_h_4 : Int32) (x8_f_h_5 : Int32) (x8_f_h_7 : Int32) (H : Heap) (locs : List Loc) (ls : Array Slot), (700 - x8_f_h_4.toInt).toNat < n → kr (-5) 25 x8_l_1 → kr 0 700 x8_f_h_4 → kr 1 4 x8_f_h_5 → kPD D A [kO h 4 [.int n_h_faultCode, .int n_h_faultPlace, .ref h_bytes, .int n_h_length, .int x8_f_h_4, .int x8_f_h_5, .int n_h_tokenPlace, .int x8_f_h_7, .ref h_script], kI cB h_bytes 700 f_h_bytes] H → va_S A s.heap H locs → lv_has ls 2 [(1, .int x8_l_1), (0, .ref h)] → W p l e ({ frames := 0, cells := 0, slots := 0, locals := 0 }) s m ([.ref h] : List Value).toArray below meth c H locs 0 0 QQ (F0 m 8 ls []) := by
    intro n
    induction n with
    | zero =>
      intro x8_l_1 x8_f_h_4 x8_f_h_5 x8_f_h_7 H locs ls hn_8 bx8_l_1 bx8_f_h_4 bx8_f_h_5 hPD hS hl
      exact absurd hn_8 (Nat.not_lt_zero _)
    | succ n ih_8 =>
      intro x8_l_1 x8_f_h_4 x8_f_h_5 x8_f_h_7 H locs ls hn_8 bx8_l_1 bx8_f_h_4 bx8_f_h_5 hPD hS hl
      obtain ⟨hP, hD⟩ := hPD
      have J_87 : ∀ (x87_l_1 : Int32) (x87_f_h_5 : Int32) (x87_f_h_7 : Int32) (H : Heap) (locs : List Loc) (ls : Array Slot), kr (-5) 20 x87_l_1 → kr 1 700 n_h_length → kr 0 699 x8_f_h_4 → kr 1 4 x87_f_h_5 → kPD D A [kO h 4 [.int n_h_faultCode, .int n_h_faultPlace, .ref h_bytes, .int n_h_length, .int x8_f_h_4, .int x87_f_h_5, .int n_h_tokenPlace, .int x87_f_h_7, .ref h_script], kI cB h_bytes 700 f_h_bytes] H → va_S A s.heap H locs → lv_has ls 2 [(1, .int x87_l_1), (0, .ref h)] → W p l e ({ frames := 0, cells := 0, slots := 0, locals := 0 }) s m ([.ref h] : List Value).toArray below meth c H locs 0 0 QQ (F0 m 87 ls []) := by
        intro x87_l_1 x87_f_h_5 x87_f_h_7 H locs ls bx87_l_1 c87_n_h_length c87_x8_f_h_4 bx87_f_h_5 hPD hS hl
        obtain ⟨hP, hD⟩ := hPD
        refine lv_aload_n hx hb dX5_takeWord_87 rfl (lv_at hl 1 rfl) ?_
        refine lv_dup hx hb dX5_takeWord_88 rfl ?_
        refine va_get (D := D) (ci := 4) (v := .int x8_f_h_4) (C := RX5) (T := TX5) (N := 9) hx hb hts u_X5 hown hE.1 hP 0 rfl rfl 4 (by decide) (hts _ w_262) (fun _ h9 => h9) rfl dX5_takeWord_89 ?_
        refine lv_iconst (v := 1) hx hb dX5_takeWord_92 (by decide) ?_
        refine lv_iadd hx hb dX5_takeWord_93 ?_
        refine lv_topi (fun v_1 e_1 => ?_)
        have t_1 : v_1.toInt = x8_f_h_4.toInt + 1 := kt_add e_1 c87_x8_f_h_4 (kr_c 1 1 rfl) rfl
        have b_1 : kr 1 700 v_1 := kr_add (x := x8_f_h_4) (y := 1) t_1 c87_x8_f_h_4 (kr_c 1 1 rfl) rfl
        refine va_put (D := D) (ci := 4) (v := .int v_1) (ty := .int) (C := RX5) (T := TX5) (N := 9) hx hb hts u_X5 tyX5 tyX5_ok nmX5 hown hE.1 hP hD hS 0 rfl rfl 4 (by decide) (hts _ w_262) (fun _ h9 => h9) rfl (by decide +kernel) rfl rfl (Nat.le_of_ble_eq_true rfl) dX5_takeWord_94 (fun H locs hP hD hS => ?_)
        obtain ⟨hP, hD⟩ : kPD D A [kO h 4 [.int n_h_faultCode, .int n_h_faultPlace, .ref h_bytes, .int n_h_length, .int v_1, .int x87_f_h_5, .int n_h_tokenPlace, .int x87_f_h_7, .ref h_script], kI cB h_bytes 700 f_h_bytes] H := ⟨hP, hD⟩
        refine lv_goto (tgt := 8) hx hb dX5_takeWord_97 (by decide) ?_
        exact ih_8 x87_l_1 v_1 x87_f_h_5 x87_f_h_7 _ _ _ (km_up hn_8 t_1 b_1 rfl) (kr_w bx87_l_1 rfl) (kr_w b_1 rfl) bx87_f_h_5 ⟨hP, hD⟩ hS (lv_sub hl [0, 1] rfl)
      refine lv_aload_n hx hb dX5_takeWord_8 rfl (lv_at hl 1 rfl) ?_
      refine va_get (D := D) (ci := 4) (v := .int x8_f_h_4) (C := RX5) (T := TX5) (N := 9) hx hb hts u_X5 hown hE.1 hP 0 rfl rfl 4 (by decide) (hts _ w_262) (fun _ h9 => h9) rfl dX5_takeWord_9 ?_
      refine lv_aload_n hx hb dX5_takeWord_12 rfl (lv_at hl 1 rfl) ?_
      refine va_get (D := D) (ci := 4) (v := .int n_h_length) (C := RX5) (T := TX5) (N := 9) hx hb hts u_X5 hown hE.1 hP 0 rfl rfl 3 (by decide) (hts _ w_261) (fun _ h9 => h9) rfl dX5_takeWord_13 ?_
      refine lv_icmp_ge (tgt := 100) hx hb dX5_takeWord_16 (by decide) (fun c_2 => ?_) (fun c_2 => ?_)
      · have i_2 : n_h_length.toInt ≤ x8_f_h_4.toInt := (ki_le c_2)
        subst hQQ
        exact kk_ret_v ((fun _ => 0), (fun i => [].getD i (fun _ => 0)), (fun i => [].getD i (fun _ => 0)), (fun i => [x8_f_h_4, x8_f_h_5, x8_f_h_7].getD i 0)) hx hb hr hlocks ⟨bx8_f_h_4, bx8_f_h_5⟩ (hP.sub [0, 1] rfl) (hD.sub [0, 1] (by decide +kernel) rfl) hS dX5_takeWord_100 (Nat.le_of_ble_eq_true rfl) (Nat.le_of_ble_eq_true rfl)
      · have i_2 : x8_f_h_4.toInt < n_h_length.toInt := (ki_nle c_2)
        have b_3 : kr 0 699 x8_f_h_4 := kr_lt_l bx8_f_h_4 b_h_length i_2 rfl
        have b_4 : kr 1 700 n_h_length := kr_lt_r bx8_f_h_4 b_h_length i_2 rfl
        refine lv_aload_n hx hb dX5_takeWord_19 rfl (lv_at hl 1 rfl) ?_
        refine va_get (D := D) (ci := 4) (v := .ref h_bytes) (C := RX5) (T := TX5) (N := 9) hx hb hts u_X5 hown hE.1 hP 0 rfl rfl 2 (by decide) (hts _ w_260) (fun _ h9 => h9) rfl dX5_takeWord_20 ?_
        refine lv_aload_n hx hb dX5_takeWord_23 rfl (lv_at hl 1 rfl) ?_
        refine va_get (D := D) (ci := 4) (v := .int x8_f_h_4) (C := RX5) (T := TX5) (N := 9) hx hb hts u_X5 hown hE.1 hP 0 rfl rfl 4 (by decide) (hts _ w_262) (fun _ h9 => h9) rfl dX5_takeWord_24 ?_
        refine va_bald hx hb hE.1 hP 1 0 rfl rfl (kr_in b_3 rfl) dX5_takeWord_27 ?_
        refine lv_topi (fun v_5 e_5 => ?_)
        refine lv_bipush (v := 97) hx hb dX5_takeWord_28 (by decide) ?_
        refine lv_icmp_lt (tgt := 100) hx hb dX5_takeWord_30 (by decide) (fun c_6 => ?_) (fun c_6 => ?_)
        · have i_6 : v_5.toInt < 97 := (ki_lt c_6)
          have b_7 : kr (-2147483648) 96 v_5 := kr_lt_l (kr_all v_5) (kr_c 97 97 rfl) i_6 rfl
          subst hQQ
          exact kk_ret_v ((fun _ => 0), (fun i => [].getD i (fun _ => 0)), (fun i => [].getD i (fun _ => 0)), (fun i => [x8_f_h_4, x8_f_h_5, x8_f_h_7].getD i 0)) hx hb hr hlocks ⟨(kr_w b_3 rfl), bx8_f_h_5⟩ (hP.sub [0, 1] rfl) (hD.sub [0, 1] (by decide +kernel) rfl) hS dX5_takeWord_100 (Nat.le_of_ble_eq_true rfl) (Nat.le_of_ble_eq_true rfl)
        · have i_6 : 97 ≤ v_5.toInt := (ki_nlt c_6)
          have b_8 : kr 97 2147483647 v_5 := kr_le_r (kr_c 97 97 rfl) (kr_all v_5) i_6 rfl
          refine lv_aload_n hx hb dX5_takeWord_33 rfl (lv_at hl 1 rfl) ?_
          refine va_get (D := D) (ci := 4) (v := .ref h_bytes) (C := RX5) (T := TX5) (N := 9) hx hb hts u_X5 hown hE.1 hP 0 rfl rfl 2 (by decide) (hts _ w_260) (fun _ h9 => h9) rfl dX5_takeWord_34 ?_
          refine lv_aload_n hx hb dX5_takeWord_37 rfl (lv_at hl 1 rfl) ?_
          refine va_get (D := D) (ci := 4) (v := .int x8_f_h_4) (C := RX5) (T := TX5) (N := 9) hx hb hts u_X5 hown hE.1 hP 0 rfl rfl 4 (by decide) (hts _ w_262) (fun _ h9 => h9) rfl dX5_takeWord_38 ?_
          refine va_bald hx hb hE.1 hP 1 0 rfl rfl (kr_in b_3 rfl) dX5_takeWord_41 ?_
          refine lv_topi (fun v_9 e_9 => ?_)
          refine lv_bipush (v := 122) hx hb dX5_takeWord_42 (by decide) ?_
          refine lv_icmp_gt (tgt := 100) hx hb dX5_takeWord_44 (by decide) (fun c_10 => ?_) (fun c_10 => ?_)
          · have i_10 : 122 < v_9.toInt := (ki_lt c_10)
            have b_11 : kr 123 2147483647 v_9 := kr_lt_r (kr_c 122 122 rfl) (kr_all v_9) i_10 rfl
            subst hQQ
            exact kk_ret_v ((fun _ => 0), (fun i => [].getD i (fun _ => 0)), (fun i => [].getD i (fun _ => 0)), (fun i => [x8_f_h_4, x8_f_h_5, x8_f_h_7].getD i 0)) hx hb hr hlocks ⟨(kr_w b_3 rfl), bx8_f_h_5⟩ (hP.sub [0, 1] rfl) (hD.sub [0, 1] (by decide +kernel) rfl) hS dX5_takeWord_100 (Nat.le_of_ble_eq_true rfl) (Nat.le_of_ble_eq_true rfl)
          · have i_10 : v_9.toInt ≤ 122 := (ki_nlt c_10)
            have b_12 : kr (-2147483648) 122 v_9 := kr_le_l (kr_all v_9) (kr_c 122 122 rfl) i_10 rfl
            refine lv_iload_n hx hb dX5_takeWord_47 rfl (lv_at hl 0 rfl) ?_
            refine lv_if_ge (tgt := 59) hx hb dX5_takeWord_48 (by decide) (fun c_13 => ?_) (fun c_13 => ?_)
            · have i_13 : 0 ≤ x8_l_1.toInt := (ki_le c_13)
              have b_14 : kr 0 25 x8_l_1 := kr_le_r (kr_c 0 0 rfl) bx8_l_1 i_13 rfl
              refine lv_aload_n hx hb dX5_takeWord_59 rfl (lv_at hl 1 rfl) ?_
              refine lv_dup hx hb dX5_takeWord_60 rfl ?_
              refine va_get (D := D) (ci := 4) (v := .int x8_f_h_7) (C := RX5) (T := TX5) (N := 9) hx hb hts u_X5 hown hE.1 hP 0 rfl rfl 7 (by decide) (hts _ w_265) (fun _ h9 => h9) rfl dX5_takeWord_61 ?_
              refine lv_aload_n hx hb dX5_takeWord_64 rfl (lv_at hl 1 rfl) ?_
              refine va_get (D := D) (ci := 4) (v := .ref h_bytes) (C := RX5) (T := TX5) (N := 9) hx hb hts u_X5 hown hE.1 hP 0 rfl rfl 2 (by decide) (hts _ w_260) (fun _ h9 => h9) rfl dX5_takeWord_65 ?_
              refine lv_aload_n hx hb dX5_takeWord_68 rfl (lv_at hl 1 rfl) ?_
              refine va_get (D := D) (ci := 4) (v := .int x8_f_h_4) (C := RX5) (T := TX5) (N := 9) hx hb hts u_X5 hown hE.1 hP 0 rfl rfl 4 (by decide) (hts _ w_262) (fun _ h9 => h9) rfl dX5_takeWord_69 ?_
              refine va_bald hx hb hE.1 hP 1 0 rfl rfl (kr_in b_3 rfl) dX5_takeWord_72 ?_
              refine lv_topi (fun v_15 e_15 => ?_)
              refine lv_bipush (v := 97) hx hb dX5_takeWord_73 (by decide) ?_
              refine lv_isub hx hb dX5_takeWord_75 ?_
              refine lv_topi (fun v_16 e_16 => ?_)
              refine lv_iconst (v := 1) hx hb dX5_takeWord_76 (by decide) ?_
              refine lv_iadd hx hb dX5_takeWord_77 ?_
              refine lv_topi (fun v_17 e_17 => ?_)
              refine lv_iload_n hx hb dX5_takeWord_78 rfl (lv_at hl 0 rfl) ?_
              refine lv_ishl hx hb dX5_takeWord_79 ?_
              refine lv_topi (fun v_18 e_18 => ?_)
              refine lv_ior hx hb dX5_takeWord_80 ?_
              refine lv_topi (fun v_19 e_19 => ?_)
              refine va_put (D := D) (ci := 4) (v := .int v_19) (ty := .int) (C := RX5) (T := TX5) (N := 9) hx hb hts u_X5 tyX5 tyX5_ok nmX5 hown hE.1 hP hD hS 0 rfl rfl 7 (by decide) (hts _ w_265) (fun _ h9 => h9) rfl (by decide +kernel) rfl rfl (Nat.le_of_ble_eq_true rfl) dX5_takeWord_81 (fun H locs hP hD hS => ?_)
              obtain ⟨hP, hD⟩ : kPD D A [kO h 4 [.int n_h_faultCode, .int n_h_faultPlace, .ref h_bytes, .int n_h_length, .int x8_f_h_4, .int x8_f_h_5, .int n_h_tokenPlace, .int v_19, .ref h_script], kI cB h_bytes 700 f_h_bytes] H := ⟨hP, hD⟩
              obtain ⟨v_20, e_20⟩ : ∃ y : Int32, y = x8_l_1 + (-5) := ⟨_, rfl⟩
              have t_20 : v_20.toInt = x8_l_1.toInt + (-5) := kt_add e_20 b_14 (kr_c (-5) (-5) rfl) rfl
              have b_20 : kr (-5) 20 v_20 := kr_add (x := x8_l_1) (y := (-5)) t_20 b_14 (kr_c (-5) (-5) rfl) rfl
              refine lv_iinc (v := v_20) (lv' := [(1, .int v_20), (0, .ref h)]) hx hb dX5_takeWord_84 hl (k := 0) rfl (by rw [e_20]; rfl) (by decide) rfl (fun ls hl => ?_)
              exact J_87 v_20 x8_f_h_5 v_19 _ _ _ b_20 b_4 b_3 bx8_f_h_5 ⟨hP, hD⟩ hS (lv_sub hl [0, 1] rfl)
            · have i_13 : x8_l_1.toInt < 0 := (ki_nle c_13)
              have b_21 : kr (-5) (-1) x8_l_1 := kr_lt_l bx8_l_1 (kr_c 0 0 rfl) i_13 rfl
              refine lv_aload_n hx hb dX5_takeWord_51 rfl (lv_at hl 1 rfl) ?_
              refine lv_iconst (v := 4) hx hb dX5_takeWord_52 (by decide) ?_
              refine va_put (D := D) (ci := 4) (v := .int 4) (ty := .int) (C := RX5) (T := TX5) (N := 9) hx hb hts u_X5 tyX5 tyX5_ok nmX5 hown hE.1 hP hD hS 0 rfl rfl 5 (by decide) (hts _ w_263) (fun _ h9 => h9) rfl (by decide +kernel) rfl rfl (Nat.le_of_ble_eq_true rfl) dX5_takeWord_53 (fun H locs hP hD hS => ?_)
              obtain ⟨hP, hD⟩ : kPD D A [kO h 4 [.int n_h_faultCode, .int n_h_faultPlace, .ref h_bytes, .int n_h_length, .int x8_f_h_4, .int 4, .int n_h_tokenPlace, .int x8_f_h_7, .ref h_script], kI cB h_bytes 700 f_h_bytes] H := ⟨hP, hD⟩
              refine lv_goto (tgt := 87) hx hb dX5_takeWord_56 (by decide) ?_
              exact J_87 x8_l_1 4 x8_f_h_7 _ _ _ (kr_w b_21 rfl) b_4 b_3 (kr_w (kr_c 4 4 rfl) rfl) ⟨hP, hD⟩ hS (lv_sub hl [0, 1] rfl)
  refine lv_bipush (v := 25) hx hb dX5_takeWord_0 (by decide) ?_
  refine lv_istore_n (lv' := [(1, .int 25), (0, .ref h)]) hx hb dX5_takeWord_2 rfl hl (by decide) rfl (fun ls hl => ?_)
  refine lv_aload_n hx hb dX5_takeWord_3 rfl (lv_at hl 1 rfl) ?_
  refine lv_iconst (v := 1) hx hb dX5_takeWord_4 (by decide) ?_
  refine va_put (D := D) (ci := 4) (v := .int 1) (ty := .int) (C := RX5) (T := TX5) (N := 9) hx hb hts u_X5 tyX5 tyX5_ok nmX5 hown hE.1 hP hD hS 0 rfl rfl 5 (by decide) (hts _ w_263) (fun _ h9 => h9) rfl (by decide +kernel) rfl rfl (Nat.le_of_ble_eq_true rfl) dX5_takeWord_5 (fun H locs hP hD hS => ?_)
  obtain ⟨hP, hD⟩ : kPD D A [kO h 4 [.int n_h_faultCode, .int n_h_faultPlace, .ref h_bytes, .int n_h_length, .int n_h_at, .int 1, .int n_h_tokenPlace, .int n_h_tokenWorth, .ref h_script], kI cB h_bytes 700 f_h_bytes] H := ⟨hP, hD⟩
  exact J_8 _ 25 n_h_at 1 n_h_tokenWorth _ _ _ (Nat.lt_succ_self _) (kr_w (kr_c 25 25 rfl) rfl) b_h_at (kr_w (kr_c 1 1 rfl) rfl) ⟨hP, hD⟩ hS (lv_sub hl [0, 1] rfl)
set_option maxHeartbeats 4000000 in
set_option maxRecDepth 100000 in
theorem c_X5_takeNumber (l : Launch) (D : va_G) (cB cI cJ cD : ClassId) (h : Nat) (h_bytes : Nat) (h_script : Nat) (n_h_faultCode : Int32) (n_h_faultPlace : Int32) (n_h_length : Int32) (n_h_at : Int32) (n_h_token : Int32) (n_h_tokenPlace : Int32) (n_h_tokenWorth : Int32) (f_h_bytes : Nat → Int32) (sz : Nat) (b_h_length : kr 0 700 n_h_length) (b_h_at : kr 0 700 n_h_at) : Met l yX5_takeNumber (kk_W yX5_takeNumber cX5_takeNumber 1 none) ({ frames := 0, cells := 0, slots := 0, locals := 0 }) (va_Pc [.ref h] (kk_pre D cB cI cJ cD [kO h 4 [.int n_h_faultCode, .int n_h_faultPlace, .ref h_bytes, .int n_h_length, .int n_h_at, .int n_h_token, .int n_h_tokenPlace, .int n_h_tokenWorth, .ref h_script], kI cB h_bytes 700 f_h_bytes] sz)) (kk_Qv D (fun (u : (Nat → Nat) × (Nat → Nat → Int32) × (Nat → Nat → Int64) × (Nat → Int32)) => kr 0 700 (u.2.2.2 0) ∧ kr 2 2 (u.2.2.2 1)) (fun u => [kO h 4 [.int n_h_faultCode, .int n_h_faultPlace, .ref h_bytes, .int n_h_length, .int (u.2.2.2 0), .int (u.2.2.2 1), .int n_h_tokenPlace, .int (u.2.2.2 2), .ref h_script], kI cB h_bytes 700 f_h_bytes]) (va_A [kO h 4 [.int n_h_faultCode, .int n_h_faultPlace, .ref h_bytes, .int n_h_length, .int n_h_at, .int n_h_token, .int n_h_tokenPlace, .int n_h_tokenWorth, .ref h_script], kI cB h_bytes 700 f_h_bytes] sz)) 0 0 (va_A [kO h 4 [.int n_h_faultCode, .int n_h_faultPlace, .ref h_bytes, .int n_h_length, .int n_h_at, .int n_h_token, .int n_h_tokenPlace, .int n_h_tokenWorth, .ref h_script], kI cB h_bytes 700 f_h_bytes] sz) := by
  refine kk_start (y := yX5_takeNumber) (maxL := 1) (av := [.ref h]) (Qc := fun A => kk_Qv D (fun (u : (Nat → Nat) × (Nat → Nat → Int32) × (Nat → Nat → Int64) × (Nat → Int32)) => kr 0 700 (u.2.2.2 0) ∧ kr 2 2 (u.2.2.2 1)) (fun u => [kO h 4 [.int n_h_faultCode, .int n_h_faultPlace, .ref h_bytes, .int n_h_length, .int (u.2.2.2 0), .int (u.2.2.2 1), .int n_h_tokenPlace, .int (u.2.2.2 2), .ref h_script], kI cB h_bytes 700 f_h_bytes]) A) (by decide) (Nat.le_of_ble_eq_true rfl) ?_
  intro p e s m below meth c ls A hx hb hr hml hown hts hE hlocks hin hsz hP hD hA hS hl
  have hown : s.vm.findClass RX5 = some m.cls := hown
  have hl : lv_has ls 1 [(0, .ref h)] := hl
  generalize hQQ : MQ below _ _ s _ _ _ = QQ
  have J_5 : ∀ (n : Nat) (x5_f_h_4 : Int32) (x5_f_h_7 : Int32) (H : Heap) (locs : List Loc) (ls : Array Slot), (700 - x5_f_h_4.toInt).toNat < n → kr 0 700 x5_f_h_4 → kPD D A [kO h 4 [.int n_h_faultCode, .int n_h_faultPlace, .ref h_bytes, .int n_h_length, .int x5_f_h_4, .int 2, .int n_h_tokenPlace, .int x5_f_h_7, .ref h_script], kI cB h_bytes 700 f_h_bytes] H → va_S A s.heap H locs → lv_has ls 1 [(0, .ref h)] → W p l e ({ frames := 0, cells := 0, slots := 0, locals := 0 }) s m ([.ref h] : List Value).toArray below meth c H locs 0 0 QQ (F0 m 5 ls []) := by
    intro n
    induction n with
    | zero =>
      intro x5_f_h_4 x5_f_h_7 H locs ls hn_5 bx5_f_h_4 hPD hS hl
      exact absurd hn_5 (Nat.not_lt_zero _)
    | succ n ih_5 =>
      intro x5_f_h_4 x5_f_h_7 H locs ls hn_5 bx5_f_h_4 hPD hS hl
      obtain ⟨hP, hD⟩ := hPD
      have J_79 : ∀ (x79_s_1 : Int32) (H : Heap) (locs : List Loc) (ls : Array Slot), kr 1 700 n_h_length → kr 0 699 x5_f_h_4 → kPD D A [kO h 4 [.int n_h_faultCode, .int n_h_faultPlace, .ref h_bytes, .int n_h_length, .int x5_f_h_4, .int 2, .int n_h_tokenPlace, .int x5_f_h_7, .ref h_script], kI cB h_bytes 700 f_h_bytes] H → va_S A s.heap H locs → lv_has ls 1 [(0, .ref h)] → W p l e ({ frames := 0, cells := 0, slots := 0, locals := 0 }) s m ([.ref h] : List Value).toArray below meth c H locs 0 0 QQ (F0 m 79 ls [.int x79_s_1, .ref h]) := by
        intro x79_s_1 H locs ls c79_n_h_length c79_x5_f_h_4 hPD hS hl
        obtain ⟨hP, hD⟩ := hPD
        refine va_put (D := D) (ci := 4) (v := .int x79_s_1) (ty := .int) (C := RX5) (T := TX5) (N := 9) hx hb hts u_X5 tyX5 tyX5_ok nmX5 hown hE.1 hP hD hS 0 rfl rfl 7 (by decide) (hts _ w_265) (fun _ h9 => h9) rfl (by decide +kernel) rfl rfl (Nat.le_of_ble_eq_true rfl) dX5_takeNumber_79 (fun H locs hP hD hS => ?_)
        obtain ⟨hP, hD⟩ : kPD D A [kO h 4 [.int n_h_faultCode, .int n_h_faultPlace, .ref h_bytes, .int n_h_length, .int x5_f_h_4, .int 2, .int n_h_tokenPlace, .int x79_s_1, .ref h_script], kI cB h_bytes 700 f_h_bytes] H := ⟨hP, hD⟩
        refine lv_aload_n hx hb dX5_takeNumber_82 rfl (lv_at hl 0 rfl) ?_
        refine lv_dup hx hb dX5_takeNumber_83 rfl ?_
        refine va_get (D := D) (ci := 4) (v := .int x5_f_h_4) (C := RX5) (T := TX5) (N := 9) hx hb hts u_X5 hown hE.1 hP 0 rfl rfl 4 (by decide) (hts _ w_262) (fun _ h9 => h9) rfl dX5_takeNumber_84 ?_
        refine lv_iconst (v := 1) hx hb dX5_takeNumber_87 (by decide) ?_
        refine lv_iadd hx hb dX5_takeNumber_88 ?_
        refine lv_topi (fun v_1 e_1 => ?_)
        have t_1 : v_1.toInt = x5_f_h_4.toInt + 1 := kt_add e_1 c79_x5_f_h_4 (kr_c 1 1 rfl) rfl
        have b_1 : kr 1 700 v_1 := kr_add (x := x5_f_h_4) (y := 1) t_1 c79_x5_f_h_4 (kr_c 1 1 rfl) rfl
        refine va_put (D := D) (ci := 4) (v := .int v_1) (ty := .int) (C := RX5) (T := TX5) (N := 9) hx hb hts u_X5 tyX5 tyX5_ok nmX5 hown hE.1 hP hD hS 0 rfl rfl 4 (by decide) (hts _ w_262) (fun _ h9 => h9) rfl (by decide +kernel) rfl rfl (Nat.le_of_ble_eq_true rfl) dX5_takeNumber_89 (fun H locs hP hD hS => ?_)
        obtain ⟨hP, hD⟩ : kPD D A [kO h 4 [.int n_h_faultCode, .int n_h_faultPlace, .ref h_bytes, .int n_h_length, .int v_1, .int 2, .int n_h_tokenPlace, .int x79_s_1, .ref h_script], kI cB h_bytes 700 f_h_bytes] H := ⟨hP, hD⟩
        refine lv_goto (tgt := 5) hx hb dX5_takeNumber_92 (by decide) ?_
        exact ih_5 v_1 x79_s_1 _ _ _ (km_up hn_5 t_1 b_1 rfl) (kr_w b_1 rfl) ⟨hP, hD⟩ hS (lv_sub hl [0] rfl)
      refine lv_aload_n hx hb dX5_takeNumber_5 rfl (lv_at hl 0 rfl) ?_
      refine va_get (D := D) (ci := 4) (v := .int x5_f_h_4) (C := RX5) (T := TX5) (N := 9) hx hb hts u_X5 hown hE.1 hP 0 rfl rfl 4 (by decide) (hts _ w_262) (fun _ h9 => h9) rfl dX5_takeNumber_6 ?_
      refine lv_aload_n hx hb dX5_takeNumber_9 rfl (lv_at hl 0 rfl) ?_
      refine va_get (D := D) (ci := 4) (v := .int n_h_length) (C := RX5) (T := TX5) (N := 9) hx hb hts u_X5 hown hE.1 hP 0 rfl rfl 3 (by decide) (hts _ w_261) (fun _ h9 => h9) rfl dX5_takeNumber_10 ?_
      refine lv_icmp_ge (tgt := 95) hx hb dX5_takeNumber_13 (by decide) (fun c_2 => ?_) (fun c_2 => ?_)
      · have i_2 : n_h_length.toInt ≤ x5_f_h_4.toInt := (ki_le c_2)
        subst hQQ
        exact kk_ret_v ((fun _ => 0), (fun i => [].getD i (fun _ => 0)), (fun i => [].getD i (fun _ => 0)), (fun i => [x5_f_h_4, 2, x5_f_h_7].getD i 0)) hx hb hr hlocks ⟨bx5_f_h_4, (kr_w (kr_c 2 2 rfl) rfl)⟩ (hP.sub [0, 1] rfl) (hD.sub [0, 1] (by decide +kernel) rfl) hS dX5_takeNumber_95 (Nat.le_of_ble_eq_true rfl) (Nat.le_of_ble_eq_true rfl)
      · have i_2 : x5_f_h_4.toInt < n_h_length.toInt := (ki_nle c_2)
        have b_3 : kr 0 699 x5_f_h_4 := kr_lt_l bx5_f_h_4 b_h_length i_2 rfl
        have b_4 : kr 1 700 n_h_length := kr_lt_r bx5_f_h_4 b_h_length i_2 rfl
        refine lv_aload_n hx hb dX5_takeNumber_16 rfl (lv_at hl 0 rfl) ?_
        refine va_get (D := D) (ci := 4) (v := .ref h_bytes) (C := RX5) (T := TX5) (N := 9) hx hb hts u_X5 hown hE.1 hP 0 rfl rfl 2 (by decide) (hts _ w_260) (fun _ h9 => h9) rfl dX5_takeNumber_17 ?_
        refine lv_aload_n hx hb dX5_takeNumber_20 rfl (lv_at hl 0 rfl) ?_
        refine va_get (D := D) (ci := 4) (v := .int x5_f_h_4) (C := RX5) (T := TX5) (N := 9) hx hb hts u_X5 hown hE.1 hP 0 rfl rfl 4 (by decide) (hts _ w_262) (fun _ h9 => h9) rfl dX5_takeNumber_21 ?_
        refine va_bald hx hb hE.1 hP 1 0 rfl rfl (kr_in b_3 rfl) dX5_takeNumber_24 ?_
        refine lv_topi (fun v_5 e_5 => ?_)
        refine lv_bipush (v := 48) hx hb dX5_takeNumber_25 (by decide) ?_
        refine lv_icmp_lt (tgt := 95) hx hb dX5_takeNumber_27 (by decide) (fun c_6 => ?_) (fun c_6 => ?_)
        · have i_6 : v_5.toInt < 48 := (ki_lt c_6)
          have b_7 : kr (-2147483648) 47 v_5 := kr_lt_l (kr_all v_5) (kr_c 48 48 rfl) i_6 rfl
          subst hQQ
          exact kk_ret_v ((fun _ => 0), (fun i => [].getD i (fun _ => 0)), (fun i => [].getD i (fun _ => 0)), (fun i => [x5_f_h_4, 2, x5_f_h_7].getD i 0)) hx hb hr hlocks ⟨(kr_w b_3 rfl), (kr_w (kr_c 2 2 rfl) rfl)⟩ (hP.sub [0, 1] rfl) (hD.sub [0, 1] (by decide +kernel) rfl) hS dX5_takeNumber_95 (Nat.le_of_ble_eq_true rfl) (Nat.le_of_ble_eq_true rfl)
        · have i_6 : 48 ≤ v_5.toInt := (ki_nlt c_6)
          have b_8 : kr 48 2147483647 v_5 := kr_le_r (kr_c 48 48 rfl) (kr_all v_5) i_6 rfl
          refine lv_aload_n hx hb dX5_takeNumber_30 rfl (lv_at hl 0 rfl) ?_
          refine va_get (D := D) (ci := 4) (v := .ref h_bytes) (C := RX5) (T := TX5) (N := 9) hx hb hts u_X5 hown hE.1 hP 0 rfl rfl 2 (by decide) (hts _ w_260) (fun _ h9 => h9) rfl dX5_takeNumber_31 ?_
          refine lv_aload_n hx hb dX5_takeNumber_34 rfl (lv_at hl 0 rfl) ?_
          refine va_get (D := D) (ci := 4) (v := .int x5_f_h_4) (C := RX5) (T := TX5) (N := 9) hx hb hts u_X5 hown hE.1 hP 0 rfl rfl 4 (by decide) (hts _ w_262) (fun _ h9 => h9) rfl dX5_takeNumber_35 ?_
          refine va_bald hx hb hE.1 hP 1 0 rfl rfl (kr_in b_3 rfl) dX5_takeNumber_38 ?_
          refine lv_topi (fun v_9 e_9 => ?_)
          refine lv_bipush (v := 57) hx hb dX5_takeNumber_39 (by decide) ?_
          refine lv_icmp_gt (tgt := 95) hx hb dX5_takeNumber_41 (by decide) (fun c_10 => ?_) (fun c_10 => ?_)
          · have i_10 : 57 < v_9.toInt := (ki_lt c_10)
            have b_11 : kr 58 2147483647 v_9 := kr_lt_r (kr_c 57 57 rfl) (kr_all v_9) i_10 rfl
            subst hQQ
            exact kk_ret_v ((fun _ => 0), (fun i => [].getD i (fun _ => 0)), (fun i => [].getD i (fun _ => 0)), (fun i => [x5_f_h_4, 2, x5_f_h_7].getD i 0)) hx hb hr hlocks ⟨(kr_w b_3 rfl), (kr_w (kr_c 2 2 rfl) rfl)⟩ (hP.sub [0, 1] rfl) (hD.sub [0, 1] (by decide +kernel) rfl) hS dX5_takeNumber_95 (Nat.le_of_ble_eq_true rfl) (Nat.le_of_ble_eq_true rfl)
          · have i_10 : v_9.toInt ≤ 57 := (ki_nlt c_10)
            have b_12 : kr (-2147483648) 57 v_9 := kr_le_l (kr_all v_9) (kr_c 57 57 rfl) i_10 rfl
            refine lv_aload_n hx hb dX5_takeNumber_44 rfl (lv_at hl 0 rfl) ?_
            refine lv_aload_n hx hb dX5_takeNumber_45 rfl (lv_at hl 0 rfl) ?_
            refine va_get (D := D) (ci := 4) (v := .int x5_f_h_7) (C := RX5) (T := TX5) (N := 9) hx hb hts u_X5 hown hE.1 hP 0 rfl rfl 7 (by decide) (hts _ w_265) (fun _ h9 => h9) rfl dX5_takeNumber_46 ?_
            refine lv_ldc (v := 100000000) hx hb hown (hts _ w_546) dX5_takeNumber_49 ?_
            refine lv_icmp_lt (tgt := 59) hx hb dX5_takeNumber_51 (by decide) (fun c_13 => ?_) (fun c_13 => ?_)
            · have i_13 : x5_f_h_7.toInt < 100000000 := (ki_lt c_13)
              have b_14 : kr (-2147483648) 99999999 x5_f_h_7 := kr_lt_l (kr_all x5_f_h_7) (kr_c 100000000 100000000 rfl) i_13 rfl
              refine lv_aload_n hx hb dX5_takeNumber_59 rfl (lv_at hl 0 rfl) ?_
              refine va_get (D := D) (ci := 4) (v := .int x5_f_h_7) (C := RX5) (T := TX5) (N := 9) hx hb hts u_X5 hown hE.1 hP 0 rfl rfl 7 (by decide) (hts _ w_265) (fun _ h9 => h9) rfl dX5_takeNumber_60 ?_
              refine lv_bipush (v := 10) hx hb dX5_takeNumber_63 (by decide) ?_
              refine lv_imul hx hb dX5_takeNumber_65 ?_
              refine lv_topi (fun v_15 e_15 => ?_)
              refine lv_aload_n hx hb dX5_takeNumber_66 rfl (lv_at hl 0 rfl) ?_
              refine va_get (D := D) (ci := 4) (v := .ref h_bytes) (C := RX5) (T := TX5) (N := 9) hx hb hts u_X5 hown hE.1 hP 0 rfl rfl 2 (by decide) (hts _ w_260) (fun _ h9 => h9) rfl dX5_takeNumber_67 ?_
              refine lv_aload_n hx hb dX5_takeNumber_70 rfl (lv_at hl 0 rfl) ?_
              refine va_get (D := D) (ci := 4) (v := .int x5_f_h_4) (C := RX5) (T := TX5) (N := 9) hx hb hts u_X5 hown hE.1 hP 0 rfl rfl 4 (by decide) (hts _ w_262) (fun _ h9 => h9) rfl dX5_takeNumber_71 ?_
              refine va_bald hx hb hE.1 hP 1 0 rfl rfl (kr_in b_3 rfl) dX5_takeNumber_74 ?_
              refine lv_topi (fun v_16 e_16 => ?_)
              refine lv_iadd hx hb dX5_takeNumber_75 ?_
              refine lv_topi (fun v_17 e_17 => ?_)
              refine lv_bipush (v := 48) hx hb dX5_takeNumber_76 (by decide) ?_
              refine lv_isub hx hb dX5_takeNumber_78 ?_
              refine lv_topi (fun v_18 e_18 => ?_)
              exact J_79 v_18 _ _ _ b_4 b_3 ⟨hP, hD⟩ hS (lv_sub hl [0] rfl)
            · have i_13 : 100000000 ≤ x5_f_h_7.toInt := (ki_nlt c_13)
              have b_19 : kr 100000000 2147483647 x5_f_h_7 := kr_le_r (kr_c 100000000 100000000 rfl) (kr_all x5_f_h_7) i_13 rfl
              refine lv_ldc (v := 1000000000) hx hb hown (hts _ w_547) dX5_takeNumber_54 ?_
              refine lv_goto (tgt := 79) hx hb dX5_takeNumber_56 (by decide) ?_
              exact J_79 1000000000 _ _ _ b_4 b_3 ⟨hP, hD⟩ hS (lv_sub hl [0] rfl)
  refine lv_aload_n hx hb dX5_takeNumber_0 rfl (lv_at hl 0 rfl) ?_
  refine lv_iconst (v := 2) hx hb dX5_takeNumber_1 (by decide) ?_
  refine va_put (D := D) (ci := 4) (v := .int 2) (ty := .int) (C := RX5) (T := TX5) (N := 9) hx hb hts u_X5 tyX5 tyX5_ok nmX5 hown hE.1 hP hD hS 0 rfl rfl 5 (by decide) (hts _ w_263) (fun _ h9 => h9) rfl (by decide +kernel) rfl rfl (Nat.le_of_ble_eq_true rfl) dX5_takeNumber_2 (fun H locs hP hD hS => ?_)
  obtain ⟨hP, hD⟩ : kPD D A [kO h 4 [.int n_h_faultCode, .int n_h_faultPlace, .ref h_bytes, .int n_h_length, .int n_h_at, .int 2, .int n_h_tokenPlace, .int n_h_tokenWorth, .ref h_script], kI cB h_bytes 700 f_h_bytes] H := ⟨hP, hD⟩
  exact J_5 _ n_h_at n_h_tokenWorth _ _ _ (Nat.lt_succ_self _) b_h_at ⟨hP, hD⟩ hS (lv_sub hl [0] rfl)
set_option maxHeartbeats 4000000 in
set_option maxRecDepth 100000 in
theorem c_X5_step (l : Launch) (D : va_G) (cB cI cJ cD : ClassId) (h : Nat) (h_bytes : Nat) (h_script : Nat) (n_h_faultCode : Int32) (n_h_faultPlace : Int32) (n_h_length : Int32) (n_h_at : Int32) (n_h_token : Int32) (n_h_tokenPlace : Int32) (n_h_tokenWorth : Int32) (f_h_bytes : Nat → Int32) (sz : Nat) (b_h_length : kr 0 700 n_h_length) (b_h_at : kr 0 700 n_h_at) : Met l yX5_step (kk_W yX5_step cX5_step 1 none) ({ frames := 1, cells := 0, slots := 0, locals := 21 }) (va_Pc [.ref h] (kk_pre D cB cI cJ cD [kO h 4 [.int n_h_faultCode, .int n_h_faultPlace, .ref h_bytes, .int n_h_length, .int n_h_at, .int n_h_token, .int n_h_tokenPlace, .int n_h_tokenWorth, .ref h_script], kI cB h_bytes 700 f_h_bytes] sz)) (kk_Qv D (fun (u : (Nat → Nat) × (Nat → Nat → Int32) × (Nat → Nat → Int64) × (Nat → Int32)) => kr 0 700 (u.2.2.2 0) ∧ kr 0 4 (u.2.2.2 1) ∧ kr 0 700 (u.2.2.2 2)) (fun u => [kO h 4 [.int n_h_faultCode, .int n_h_faultPlace, .ref h_bytes, .int n_h_length, .int (u.2.2.2 0), .int (u.2.2.2 1), .int (u.2.2.2 2), .int (u.2.2.2 3), .ref h_script], kI cB h_bytes 700 f_h_bytes]) (va_A [kO h 4 [.int n_h_faultCode, .int n_h_faultPlace, .ref h_bytes, .int n_h_length, .int n_h_at, .int n_h_token, .int n_h_tokenPlace, .int n_h_tokenWorth, .ref h_script], kI cB h_bytes 700 f_h_bytes] sz)) 0 0 (va_A [kO h 4 [.int n_h_faultCode, .int n_h_faultPlace, .ref h_bytes, .int n_h_length, .int n_h_at, .int n_h_token, .int n_h_tokenPlace, .int n_h_tokenWorth, .ref h_script], kI cB h_bytes 700 f_h_bytes] sz) := by
  refine kk_start (y := yX5_step) (maxL := 1) (av := [.ref h]) (Qc := fun A => kk_Qv D (fun (u : (Nat → Nat) × (Nat → Nat → Int32) × (Nat → Nat → Int64) × (Nat → Int32)) => kr 0 700 (u.2.2.2 0) ∧ kr 0 4 (u.2.2.2 1) ∧ kr 0 700 (u.2.2.2 2)) (fun u => [kO h 4 [.int n_h_faultCode, .int n_h_faultPlace, .ref h_bytes, .int n_h_length, .int (u.2.2.2 0), .int (u.2.2.2 1), .int (u.2.2.2 2), .int (u.2.2.2 3), .ref h_script], kI cB h_bytes 700 f_h_bytes]) A) (by decide) (Nat.le_of_ble_eq_true rfl) ?_
  intro p e s m below meth c ls A hx hb hr hml hown hts hE hlocks hin hsz hP hD hA hS hl
  have hown : s.vm.findClass RX5 = some m.cls := hown
  have hl : lv_has ls 1 [(0, .ref h)] := hl
  generalize hQQ : MQ below _ _ s _ _ _ = QQ
  have J_174 : ∀ (x174_s_1 : Int32) (x174_f_h_4 : Int32) (x174_f_h_6 : Int32) (H : Heap) (locs : List Loc) (ls : Array Slot), kr 3 4 x174_s_1 → kr 1 700 n_h_length → kr 0 699 x174_f_h_4 → kr 0 699 x174_f_h_6 → kPD D A [kO h 4 [.int n_h_faultCode, .int n_h_faultPlace, .ref h_bytes, .int n_h_length, .int x174_f_h_4, .int n_h_token, .int x174_f_h_6, .int 0, .ref h_script], kI cB h_bytes 700 f_h_bytes] H → va_S A s.heap H locs → lv_has ls 1 [(0, .ref h)] → W p l e ({ frames := 1, cells := 0, slots := 0, locals := 21 }) s m ([.ref h] : List Value).toArray below meth c H locs 0 0 QQ (F0 m 174 ls [.int x174_s_1, .ref h]) := by
    intro x174_s_1 x174_f_h_4 x174_f_h_6 H locs ls bx174_s_1 c174_n_h_length bx174_f_h_4 bx174_f_h_6 hPD hS hl
    obtain ⟨hP, hD⟩ := hPD
    refine va_put (D := D) (ci := 4) (v := .int x174_s_1) (ty := .int) (C := RX5) (T := TX5) (N := 9) hx hb hts u_X5 tyX5 tyX5_ok nmX5 hown hE.1 hP hD hS 0 rfl rfl 5 (by decide) (hts _ w_263) (fun _ h9 => h9) rfl (by decide +kernel) rfl rfl (Nat.le_of_ble_eq_true rfl) dX5_step_174 (fun H locs hP hD hS => ?_)
    obtain ⟨hP, hD⟩ : kPD D A [kO h 4 [.int n_h_faultCode, .int n_h_faultPlace, .ref h_bytes, .int n_h_length, .int x174_f_h_4, .int x174_s_1, .int x174_f_h_6, .int 0, .ref h_script], kI cB h_bytes 700 f_h_bytes] H := ⟨hP, hD⟩
    refine lv_aload_n hx hb dX5_step_177 rfl (lv_at hl 0 rfl) ?_
    refine lv_dup hx hb dX5_step_178 rfl ?_
    refine va_get (D := D) (ci := 4) (v := .int x174_f_h_4) (C := RX5) (T := TX5) (N := 9) hx hb hts u_X5 hown hE.1 hP 0 rfl rfl 4 (by decide) (hts _ w_262) (fun _ h9 => h9) rfl dX5_step_179 ?_
    refine lv_iconst (v := 1) hx hb dX5_step_182 (by decide) ?_
    refine lv_iadd hx hb dX5_step_183 ?_
    refine lv_topi (fun v_1 e_1 => ?_)
    have t_1 : v_1.toInt = x174_f_h_4.toInt + 1 := kt_add e_1 bx174_f_h_4 (kr_c 1 1 rfl) rfl
    have b_1 : kr 1 700 v_1 := kr_add (x := x174_f_h_4) (y := 1) t_1 bx174_f_h_4 (kr_c 1 1 rfl) rfl
    refine va_put (D := D) (ci := 4) (v := .int v_1) (ty := .int) (C := RX5) (T := TX5) (N := 9) hx hb hts u_X5 tyX5 tyX5_ok nmX5 hown hE.1 hP hD hS 0 rfl rfl 4 (by decide) (hts _ w_262) (fun _ h9 => h9) rfl (by decide +kernel) rfl rfl (Nat.le_of_ble_eq_true rfl) dX5_step_184 (fun H locs hP hD hS => ?_)
    obtain ⟨hP, hD⟩ : kPD D A [kO h 4 [.int n_h_faultCode, .int n_h_faultPlace, .ref h_bytes, .int n_h_length, .int v_1, .int x174_s_1, .int x174_f_h_6, .int 0, .ref h_script], kI cB h_bytes 700 f_h_bytes] H := ⟨hP, hD⟩
    subst hQQ
    exact kk_ret_v ((fun _ => 0), (fun i => [].getD i (fun _ => 0)), (fun i => [].getD i (fun _ => 0)), (fun i => [v_1, x174_s_1, x174_f_h_6, 0].getD i 0)) hx hb hr hlocks ⟨(kr_w b_1 rfl), (kr_w bx174_s_1 rfl), (kr_w bx174_f_h_6 rfl)⟩ (hP.sub [0, 1] rfl) (hD.sub [0, 1] (by decide +kernel) rfl) hS dX5_step_187 (Nat.le_of_ble_eq_true rfl) (Nat.le_of_ble_eq_true rfl)
  have J_154 : ∀ (x154_f_h_4 : Int32) (x154_f_h_6 : Int32) (H : Heap) (locs : List Loc) (ls : Array Slot), kr 1 700 n_h_length → kr 0 699 x154_f_h_4 → kr 0 699 x154_f_h_6 → kPD D A [kO h 4 [.int n_h_faultCode, .int n_h_faultPlace, .ref h_bytes, .int n_h_length, .int x154_f_h_4, .int n_h_token, .int x154_f_h_6, .int 0, .ref h_script], kI cB h_bytes 700 f_h_bytes] H → va_S A s.heap H locs → lv_has ls 1 [(0, .ref h)] → W p l e ({ frames := 1, cells := 0, slots := 0, locals := 21 }) s m ([.ref h] : List Value).toArray below meth c H locs 0 0 QQ (F0 m 154 ls []) := by
    intro x154_f_h_4 x154_f_h_6 H locs ls c154_n_h_length bx154_f_h_4 bx154_f_h_6 hPD hS hl
    obtain ⟨hP, hD⟩ := hPD
    refine lv_aload_n hx hb dX5_step_154 rfl (lv_at hl 0 rfl) ?_
    refine lv_aload_n hx hb dX5_step_155 rfl (lv_at hl 0 rfl) ?_
    refine va_get (D := D) (ci := 4) (v := .ref h_bytes) (C := RX5) (T := TX5) (N := 9) hx hb hts u_X5 hown hE.1 hP 0 rfl rfl 2 (by decide) (hts _ w_260) (fun _ h9 => h9) rfl dX5_step_156 ?_
    refine lv_aload_n hx hb dX5_step_159 rfl (lv_at hl 0 rfl) ?_
    refine va_get (D := D) (ci := 4) (v := .int x154_f_h_4) (C := RX5) (T := TX5) (N := 9) hx hb hts u_X5 hown hE.1 hP 0 rfl rfl 4 (by decide) (hts _ w_262) (fun _ h9 => h9) rfl dX5_step_160 ?_
    refine va_bald hx hb hE.1 hP 1 0 rfl rfl (kr_in bx154_f_h_4 rfl) dX5_step_163 ?_
    refine lv_topi (fun v_2 e_2 => ?_)
    refine lv_bipush (v := 59) hx hb dX5_step_164 (by decide) ?_
    refine lv_icmp_ne (tgt := 173) hx hb dX5_step_166 (by decide) (fun c_3 => ?_) (fun c_3 => ?_)
    · refine lv_iconst (v := 4) hx hb dX5_step_173 (by decide) ?_
      exact J_174 4 x154_f_h_4 x154_f_h_6 _ _ _ (kr_w (kr_c 4 4 rfl) rfl) c154_n_h_length bx154_f_h_4 bx154_f_h_6 ⟨hP, hD⟩ hS (lv_sub hl [0] rfl)
    · have b_4 : kr 59 59 v_2 := kr_eq_l (kr_all v_2) (kr_c 59 59 rfl) c_3 rfl
      refine lv_iconst (v := 3) hx hb dX5_step_169 (by decide) ?_
      refine lv_goto (tgt := 174) hx hb dX5_step_170 (by decide) ?_
      exact J_174 3 x154_f_h_4 x154_f_h_6 _ _ _ (kr_w (kr_c 3 3 rfl) rfl) c154_n_h_length bx154_f_h_4 bx154_f_h_6 ⟨hP, hD⟩ hS (lv_sub hl [0] rfl)
  have J_119 : ∀ (x119_f_h_4 : Int32) (x119_f_h_6 : Int32) (H : Heap) (locs : List Loc) (ls : Array Slot), kr 1 700 n_h_length → kr 0 699 x119_f_h_4 → kr 0 699 x119_f_h_6 → kPD D A [kO h 4 [.int n_h_faultCode, .int n_h_faultPlace, .ref h_bytes, .int n_h_length, .int x119_f_h_4, .int n_h_token, .int x119_f_h_6, .int 0, .ref h_script], kI cB h_bytes 700 f_h_bytes] H → va_S A s.heap H locs → lv_has ls 1 [(0, .ref h)] → W p l e ({ frames := 1, cells := 0, slots := 0, locals := 21 }) s m ([.ref h] : List Value).toArray below meth c H locs 0 0 QQ (F0 m 119 ls []) := by
    intro x119_f_h_4 x119_f_h_6 H locs ls c119_n_h_length bx119_f_h_4 bx119_f_h_6 hPD hS hl
    obtain ⟨hP, hD⟩ := hPD
    refine lv_aload_n hx hb dX5_step_119 rfl (lv_at hl 0 rfl) ?_
    refine va_get (D := D) (ci := 4) (v := .ref h_bytes) (C := RX5) (T := TX5) (N := 9) hx hb hts u_X5 hown hE.1 hP 0 rfl rfl 2 (by decide) (hts _ w_260) (fun _ h9 => h9) rfl dX5_step_120 ?_
    refine lv_aload_n hx hb dX5_step_123 rfl (lv_at hl 0 rfl) ?_
    refine va_get (D := D) (ci := 4) (v := .int x119_f_h_4) (C := RX5) (T := TX5) (N := 9) hx hb hts u_X5 hown hE.1 hP 0 rfl rfl 4 (by decide) (hts _ w_262) (fun _ h9 => h9) rfl dX5_step_124 ?_
    refine va_bald hx hb hE.1 hP 1 0 rfl rfl (kr_in bx119_f_h_4 rfl) dX5_step_127 ?_
    refine lv_topi (fun v_5 e_5 => ?_)
    refine lv_bipush (v := 48) hx hb dX5_step_128 (by decide) ?_
    refine lv_icmp_lt (tgt := 154) hx hb dX5_step_130 (by decide) (fun c_6 => ?_) (fun c_6 => ?_)
    · have i_6 : v_5.toInt < 48 := (ki_lt c_6)
      have b_7 : kr (-2147483648) 47 v_5 := kr_lt_l (kr_all v_5) (kr_c 48 48 rfl) i_6 rfl
      exact J_154 x119_f_h_4 x119_f_h_6 _ _ _ c119_n_h_length bx119_f_h_4 bx119_f_h_6 ⟨hP, hD⟩ hS (lv_sub hl [0] rfl)
    · have i_6 : 48 ≤ v_5.toInt := (ki_nlt c_6)
      have b_8 : kr 48 2147483647 v_5 := kr_le_r (kr_c 48 48 rfl) (kr_all v_5) i_6 rfl
      refine lv_aload_n hx hb dX5_step_133 rfl (lv_at hl 0 rfl) ?_
      refine va_get (D := D) (ci := 4) (v := .ref h_bytes) (C := RX5) (T := TX5) (N := 9) hx hb hts u_X5 hown hE.1 hP 0 rfl rfl 2 (by decide) (hts _ w_260) (fun _ h9 => h9) rfl dX5_step_134 ?_
      refine lv_aload_n hx hb dX5_step_137 rfl (lv_at hl 0 rfl) ?_
      refine va_get (D := D) (ci := 4) (v := .int x119_f_h_4) (C := RX5) (T := TX5) (N := 9) hx hb hts u_X5 hown hE.1 hP 0 rfl rfl 4 (by decide) (hts _ w_262) (fun _ h9 => h9) rfl dX5_step_138 ?_
      refine va_bald hx hb hE.1 hP 1 0 rfl rfl (kr_in bx119_f_h_4 rfl) dX5_step_141 ?_
      refine lv_topi (fun v_9 e_9 => ?_)
      refine lv_bipush (v := 57) hx hb dX5_step_142 (by decide) ?_
      refine lv_icmp_gt (tgt := 154) hx hb dX5_step_144 (by decide) (fun c_10 => ?_) (fun c_10 => ?_)
      · have i_10 : 57 < v_9.toInt := (ki_lt c_10)
        have b_11 : kr 58 2147483647 v_9 := kr_lt_r (kr_c 57 57 rfl) (kr_all v_9) i_10 rfl
        exact J_154 x119_f_h_4 x119_f_h_6 _ _ _ c119_n_h_length bx119_f_h_4 bx119_f_h_6 ⟨hP, hD⟩ hS (lv_sub hl [0] rfl)
      · have i_10 : v_9.toInt ≤ 57 := (ki_nlt c_10)
        have b_12 : kr (-2147483648) 57 v_9 := kr_le_l (kr_all v_9) (kr_c 57 57 rfl) i_10 rfl
        refine lv_aload_n hx hb dX5_step_147 rfl (lv_at hl 0 rfl) ?_
        refine kk_cv (wr := []) (kk_runV (w1 := [kO h 4 [.int n_h_faultCode, .int n_h_faultPlace, .ref h_bytes, .int n_h_length, .int x119_f_h_4, .int n_h_token, .int x119_f_h_6, .int 0, .ref h_script], kI cB h_bytes 700 f_h_bytes]) (As := []) (rest := []) hx hb hml hown hts hE (c_X5_takeNumber l D cB cI cJ cD h h_bytes h_script n_h_faultCode n_h_faultPlace n_h_length x119_f_h_4 n_h_token x119_f_h_6 0 f_h_bytes H.size (kr_w c119_n_h_length rfl) (kr_w bx119_f_h_4 rfl)) m_X5_takeNumber w_542 ⟨rfl, rfl, Nat.le_of_ble_eq_true rfl, Nat.le_of_ble_eq_true rfl⟩ (hP.sub [0, 1] rfl) (hD.sub [0, 1] (by decide +kernel) rfl) 0 4 rfl rfl rfl hl.1 (Nat.le_of_ble_eq_true rfl) dX5_step_148 ⟨Nat.le_of_ble_eq_true rfl, Nat.le_of_ble_eq_true rfl⟩) hP hD hS hA [0, 1] [] rfl rfl (by decide +kernel) (by decide +kernel) (fun u_13 H locs p_13 hP hD hS => ?_)
        obtain ⟨hP, hD⟩ : kPD D A [kO h 4 [.int n_h_faultCode, .int n_h_faultPlace, .ref h_bytes, .int n_h_length, .int (u_13.2.2.2 0), .int (u_13.2.2.2 1), .int x119_f_h_6, .int (u_13.2.2.2 2), .ref h_script], kI cB h_bytes 700 f_h_bytes] H := ⟨hP, hD⟩
        refine lv_goto (tgt := 187) hx hb dX5_step_151 (by decide) ?_
        subst hQQ
        exact kk_ret_v ((fun _ => 0), (fun i => [].getD i (fun _ => 0)), (fun i => [].getD i (fun _ => 0)), (fun i => [(u_13.2.2.2 0), (u_13.2.2.2 1), x119_f_h_6, (u_13.2.2.2 2)].getD i 0)) hx hb hr hlocks ⟨p_13.1, (kr_w p_13.2 rfl), (kr_w bx119_f_h_6 rfl)⟩ (hP.sub [0, 1] rfl) (hD.sub [0, 1] (by decide +kernel) rfl) hS dX5_step_187 (Nat.le_of_ble_eq_true rfl) (Nat.le_of_ble_eq_true rfl)
  have J_52 : ∀ (x52_f_h_4 : Int32) (H : Heap) (locs : List Loc) (ls : Array Slot), kr 0 700 x52_f_h_4 → kPD D A [kO h 4 [.int n_h_faultCode, .int n_h_faultPlace, .ref h_bytes, .int n_h_length, .int x52_f_h_4, .int n_h_token, .int n_h_tokenPlace, .int n_h_tokenWorth, .ref h_script], kI cB h_bytes 700 f_h_bytes] H → va_S A s.heap H locs → lv_has ls 1 [(0, .ref h)] → W p l e ({ frames := 1, cells := 0, slots := 0, locals := 21 }) s m ([.ref h] : List Value).toArray below meth c H locs 0 0 QQ (F0 m 52 ls []) := by
    intro x52_f_h_4 H locs ls bx52_f_h_4 hPD hS hl
    obtain ⟨hP, hD⟩ := hPD
    refine lv_aload_n hx hb dX5_step_52 rfl (lv_at hl 0 rfl) ?_
    refine lv_aload_n hx hb dX5_step_53 rfl (lv_at hl 0 rfl) ?_
    refine va_get (D := D) (ci := 4) (v := .int x52_f_h_4) (C := RX5) (T := TX5) (N := 9) hx hb hts u_X5 hown hE.1 hP 0 rfl rfl 4 (by decide) (hts _ w_262) (fun _ h9 => h9) rfl dX5_step_54 ?_
    refine va_put (D := D) (ci := 4) (v := .int x52_f_h_4) (ty := .int) (C := RX5) (T := TX5) (N := 9) hx hb hts u_X5 tyX5 tyX5_ok nmX5 hown hE.1 hP hD hS 0 rfl rfl 6 (by decide) (hts _ w_264) (fun _ h9 => h9) rfl (by decide +kernel) rfl rfl (Nat.le_of_ble_eq_true rfl) dX5_step_57 (fun H locs hP hD hS => ?_)
    obtain ⟨hP, hD⟩ : kPD D A [kO h 4 [.int n_h_faultCode, .int n_h_faultPlace, .ref h_bytes, .int n_h_length, .int x52_f_h_4, .int n_h_token, .int x52_f_h_4, .int n_h_tokenWorth, .ref h_script], kI cB h_bytes 700 f_h_bytes] H := ⟨hP, hD⟩
    refine lv_aload_n hx hb dX5_step_60 rfl (lv_at hl 0 rfl) ?_
    refine lv_iconst (v := 0) hx hb dX5_step_61 (by decide) ?_
    refine va_put (D := D) (ci := 4) (v := .int 0) (ty := .int) (C := RX5) (T := TX5) (N := 9) hx hb hts u_X5 tyX5 tyX5_ok nmX5 hown hE.1 hP hD hS 0 rfl rfl 7 (by decide) (hts _ w_265) (fun _ h9 => h9) rfl (by decide +kernel) rfl rfl (Nat.le_of_ble_eq_true rfl) dX5_step_62 (fun H locs hP hD hS => ?_)
    obtain ⟨hP, hD⟩ : kPD D A [kO h 4 [.int n_h_faultCode, .int n_h_faultPlace, .ref h_bytes, .int n_h_length, .int x52_f_h_4, .int n_h_token, .int x52_f_h_4, .int 0, .ref h_script], kI cB h_bytes 700 f_h_bytes] H := ⟨hP, hD⟩
    refine lv_aload_n hx hb dX5_step_65 rfl (lv_at hl 0 rfl) ?_
    refine va_get (D := D) (ci := 4) (v := .int x52_f_h_4) (C := RX5) (T := TX5) (N := 9) hx hb hts u_X5 hown hE.1 hP 0 rfl rfl 4 (by decide) (hts _ w_262) (fun _ h9 => h9) rfl dX5_step_66 ?_
    refine lv_aload_n hx hb dX5_step_69 rfl (lv_at hl 0 rfl) ?_
    refine va_get (D := D) (ci := 4) (v := .int n_h_length) (C := RX5) (T := TX5) (N := 9) hx hb hts u_X5 hown hE.1 hP 0 rfl rfl 3 (by decide) (hts _ w_261) (fun _ h9 => h9) rfl dX5_step_70 ?_
    refine lv_icmp_lt (tgt := 84) hx hb dX5_step_73 (by decide) (fun c_14 => ?_) (fun c_14 => ?_)
    · have i_14 : x52_f_h_4.toInt < n_h_length.toInt := (ki_lt c_14)
      have b_15 : kr 0 699 x52_f_h_4 := kr_lt_l bx52_f_h_4 b_h_length i_14 rfl
      have b_16 : kr 1 700 n_h_length := kr_lt_r bx52_f_h_4 b_h_length i_14 rfl
      refine lv_aload_n hx hb dX5_step_84 rfl (lv_at hl 0 rfl) ?_
      refine va_get (D := D) (ci := 4) (v := .ref h_bytes) (C := RX5) (T := TX5) (N := 9) hx hb hts u_X5 hown hE.1 hP 0 rfl rfl 2 (by decide) (hts _ w_260) (fun _ h9 => h9) rfl dX5_step_85 ?_
      refine lv_aload_n hx hb dX5_step_88 rfl (lv_at hl 0 rfl) ?_
      refine va_get (D := D) (ci := 4) (v := .int x52_f_h_4) (C := RX5) (T := TX5) (N := 9) hx hb hts u_X5 hown hE.1 hP 0 rfl rfl 4 (by decide) (hts _ w_262) (fun _ h9 => h9) rfl dX5_step_89 ?_
      refine va_bald hx hb hE.1 hP 1 0 rfl rfl (kr_in b_15 rfl) dX5_step_92 ?_
      refine lv_topi (fun v_17 e_17 => ?_)
      refine lv_bipush (v := 97) hx hb dX5_step_93 (by decide) ?_
      refine lv_icmp_lt (tgt := 119) hx hb dX5_step_95 (by decide) (fun c_18 => ?_) (fun c_18 => ?_)
      · have i_18 : v_17.toInt < 97 := (ki_lt c_18)
        have b_19 : kr (-2147483648) 96 v_17 := kr_lt_l (kr_all v_17) (kr_c 97 97 rfl) i_18 rfl
        exact J_119 x52_f_h_4 x52_f_h_4 _ _ _ b_16 b_15 b_15 ⟨hP, hD⟩ hS (lv_sub hl [0] rfl)
      · have i_18 : 97 ≤ v_17.toInt := (ki_nlt c_18)
        have b_20 : kr 97 2147483647 v_17 := kr_le_r (kr_c 97 97 rfl) (kr_all v_17) i_18 rfl
        refine lv_aload_n hx hb dX5_step_98 rfl (lv_at hl 0 rfl) ?_
        refine va_get (D := D) (ci := 4) (v := .ref h_bytes) (C := RX5) (T := TX5) (N := 9) hx hb hts u_X5 hown hE.1 hP 0 rfl rfl 2 (by decide) (hts _ w_260) (fun _ h9 => h9) rfl dX5_step_99 ?_
        refine lv_aload_n hx hb dX5_step_102 rfl (lv_at hl 0 rfl) ?_
        refine va_get (D := D) (ci := 4) (v := .int x52_f_h_4) (C := RX5) (T := TX5) (N := 9) hx hb hts u_X5 hown hE.1 hP 0 rfl rfl 4 (by decide) (hts _ w_262) (fun _ h9 => h9) rfl dX5_step_103 ?_
        refine va_bald hx hb hE.1 hP 1 0 rfl rfl (kr_in b_15 rfl) dX5_step_106 ?_
        refine lv_topi (fun v_21 e_21 => ?_)
        refine lv_bipush (v := 122) hx hb dX5_step_107 (by decide) ?_
        refine lv_icmp_gt (tgt := 119) hx hb dX5_step_109 (by decide) (fun c_22 => ?_) (fun c_22 => ?_)
        · have i_22 : 122 < v_21.toInt := (ki_lt c_22)
          have b_23 : kr 123 2147483647 v_21 := kr_lt_r (kr_c 122 122 rfl) (kr_all v_21) i_22 rfl
          exact J_119 x52_f_h_4 x52_f_h_4 _ _ _ b_16 b_15 b_15 ⟨hP, hD⟩ hS (lv_sub hl [0] rfl)
        · have i_22 : v_21.toInt ≤ 122 := (ki_nlt c_22)
          have b_24 : kr (-2147483648) 122 v_21 := kr_le_l (kr_all v_21) (kr_c 122 122 rfl) i_22 rfl
          refine lv_aload_n hx hb dX5_step_112 rfl (lv_at hl 0 rfl) ?_
          refine kk_cv (wr := []) (kk_runV (w1 := [kO h 4 [.int n_h_faultCode, .int n_h_faultPlace, .ref h_bytes, .int n_h_length, .int x52_f_h_4, .int n_h_token, .int x52_f_h_4, .int 0, .ref h_script], kI cB h_bytes 700 f_h_bytes]) (As := []) (rest := []) hx hb hml hown hts hE (c_X5_takeWord l D cB cI cJ cD h h_bytes h_script n_h_faultCode n_h_faultPlace n_h_length x52_f_h_4 n_h_token x52_f_h_4 0 f_h_bytes H.size (kr_w b_16 rfl) (kr_w b_15 rfl)) m_X5_takeWord w_538 ⟨rfl, rfl, Nat.le_of_ble_eq_true rfl, Nat.le_of_ble_eq_true rfl⟩ (hP.sub [0, 1] rfl) (hD.sub [0, 1] (by decide +kernel) rfl) 0 4 rfl rfl rfl hl.1 (Nat.le_of_ble_eq_true rfl) dX5_step_113 ⟨Nat.le_of_ble_eq_true rfl, Nat.le_of_ble_eq_true rfl⟩) hP hD hS hA [0, 1] [] rfl rfl (by decide +kernel) (by decide +kernel) (fun u_25 H locs p_25 hP hD hS => ?_)
          obtain ⟨hP, hD⟩ : kPD D A [kO h 4 [.int n_h_faultCode, .int n_h_faultPlace, .ref h_bytes, .int n_h_length, .int (u_25.2.2.2 0), .int (u_25.2.2.2 1), .int x52_f_h_4, .int (u_25.2.2.2 2), .ref h_script], kI cB h_bytes 700 f_h_bytes] H := ⟨hP, hD⟩
          refine lv_goto (tgt := 187) hx hb dX5_step_116 (by decide) ?_
          subst hQQ
          exact kk_ret_v ((fun _ => 0), (fun i => [].getD i (fun _ => 0)), (fun i => [].getD i (fun _ => 0)), (fun i => [(u_25.2.2.2 0), (u_25.2.2.2 1), x52_f_h_4, (u_25.2.2.2 2)].getD i 0)) hx hb hr hlocks ⟨p_25.1, (kr_w p_25.2 rfl), (kr_w b_15 rfl)⟩ (hP.sub [0, 1] rfl) (hD.sub [0, 1] (by decide +kernel) rfl) hS dX5_step_187 (Nat.le_of_ble_eq_true rfl) (Nat.le_of_ble_eq_true rfl)
    · have i_14 : n_h_length.toInt ≤ x52_f_h_4.toInt := (ki_nlt c_14)
      refine lv_aload_n hx hb dX5_step_76 rfl (lv_at hl 0 rfl) ?_
      refine lv_iconst (v := 0) hx hb dX5_step_77 (by decide) ?_
      refine va_put (D := D) (ci := 4) (v := .int 0) (ty := .int) (C := RX5) (T := TX5) (N := 9) hx hb hts u_X5 tyX5 tyX5_ok nmX5 hown hE.1 hP hD hS 0 rfl rfl 5 (by decide) (hts _ w_263) (fun _ h9 => h9) rfl (by decide +kernel) rfl rfl (Nat.le_of_ble_eq_true rfl) dX5_step_78 (fun H locs hP hD hS => ?_)
      obtain ⟨hP, hD⟩ : kPD D A [kO h 4 [.int n_h_faultCode, .int n_h_faultPlace, .ref h_bytes, .int n_h_length, .int x52_f_h_4, .int 0, .int x52_f_h_4, .int 0, .ref h_script], kI cB h_bytes 700 f_h_bytes] H := ⟨hP, hD⟩
      refine lv_goto (tgt := 187) hx hb dX5_step_81 (by decide) ?_
      subst hQQ
      exact kk_ret_v ((fun _ => 0), (fun i => [].getD i (fun _ => 0)), (fun i => [].getD i (fun _ => 0)), (fun i => [x52_f_h_4, 0, x52_f_h_4, 0].getD i 0)) hx hb hr hlocks ⟨bx52_f_h_4, (kr_w (kr_c 0 0 rfl) rfl), bx52_f_h_4⟩ (hP.sub [0, 1] rfl) (hD.sub [0, 1] (by decide +kernel) rfl) hS dX5_step_187 (Nat.le_of_ble_eq_true rfl) (Nat.le_of_ble_eq_true rfl)
  have J_0 : ∀ (n : Nat) (x0_f_h_4 : Int32) (H : Heap) (locs : List Loc) (ls : Array Slot), (700 - x0_f_h_4.toInt).toNat < n → kr 0 700 x0_f_h_4 → kPD D A [kO h 4 [.int n_h_faultCode, .int n_h_faultPlace, .ref h_bytes, .int n_h_length, .int x0_f_h_4, .int n_h_token, .int n_h_tokenPlace, .int n_h_tokenWorth, .ref h_script], kI cB h_bytes 700 f_h_bytes] H → va_S A s.heap H locs → lv_has ls 1 [(0, .ref h)] → W p l e ({ frames := 1, cells := 0, slots := 0, locals := 21 }) s m ([.ref h] : List Value).toArray below meth c H locs 0 0 QQ (F0 m 0 ls []) := by
    intro n
    induction n with
    | zero =>
      intro x0_f_h_4 H locs ls hn_0 bx0_f_h_4 hPD hS hl
      exact absurd hn_0 (Nat.not_lt_zero _)
    | succ n ih_0 =>
      intro x0_f_h_4 H locs ls hn_0 bx0_f_h_4 hPD hS hl
      obtain ⟨hP, hD⟩ := hPD
      have J_39 : ∀ (H : Heap) (locs : List Loc) (ls : Array Slot), kr 1 700 n_h_length → kr 0 699 x0_f_h_4 → kPD D A [kO h 4 [.int n_h_faultCode, .int n_h_faultPlace, .ref h_bytes, .int n_h_length, .int x0_f_h_4, .int n_h_token, .int n_h_tokenPlace, .int n_h_tokenWorth, .ref h_script], kI cB h_bytes 700 f_h_bytes] H → va_S A s.heap H locs → lv_has ls 1 [(0, .ref h)] → W p l e ({ frames := 1, cells := 0, slots := 0, locals := 21 }) s m ([.ref h] : List Value).toArray below meth c H locs 0 0 QQ (F0 m 39 ls []) := by
        intro  H locs ls c39_n_h_length c39_x0_f_h_4 hPD hS hl
        obtain ⟨hP, hD⟩ := hPD
        refine lv_aload_n hx hb dX5_step_39 rfl (lv_at hl 0 rfl) ?_
        refine lv_dup hx hb dX5_step_40 rfl ?_
        refine va_get (D := D) (ci := 4) (v := .int x0_f_h_4) (C := RX5) (T := TX5) (N := 9) hx hb hts u_X5 hown hE.1 hP 0 rfl rfl 4 (by decide) (hts _ w_262) (fun _ h9 => h9) rfl dX5_step_41 ?_
        refine lv_iconst (v := 1) hx hb dX5_step_44 (by decide) ?_
        refine lv_iadd hx hb dX5_step_45 ?_
        refine lv_topi (fun v_26 e_26 => ?_)
        have t_26 : v_26.toInt = x0_f_h_4.toInt + 1 := kt_add e_26 c39_x0_f_h_4 (kr_c 1 1 rfl) rfl
        have b_26 : kr 1 700 v_26 := kr_add (x := x0_f_h_4) (y := 1) t_26 c39_x0_f_h_4 (kr_c 1 1 rfl) rfl
        refine va_put (D := D) (ci := 4) (v := .int v_26) (ty := .int) (C := RX5) (T := TX5) (N := 9) hx hb hts u_X5 tyX5 tyX5_ok nmX5 hown hE.1 hP hD hS 0 rfl rfl 4 (by decide) (hts _ w_262) (fun _ h9 => h9) rfl (by decide +kernel) rfl rfl (Nat.le_of_ble_eq_true rfl) dX5_step_46 (fun H locs hP hD hS => ?_)
        obtain ⟨hP, hD⟩ : kPD D A [kO h 4 [.int n_h_faultCode, .int n_h_faultPlace, .ref h_bytes, .int n_h_length, .int v_26, .int n_h_token, .int n_h_tokenPlace, .int n_h_tokenWorth, .ref h_script], kI cB h_bytes 700 f_h_bytes] H := ⟨hP, hD⟩
        refine lv_goto (tgt := 0) hx hb dX5_step_49 (by decide) ?_
        exact ih_0 v_26 _ _ _ (km_up hn_0 t_26 b_26 rfl) (kr_w b_26 rfl) ⟨hP, hD⟩ hS (lv_sub hl [0] rfl)
      refine lv_aload_n hx hb dX5_step_0 rfl (lv_at hl 0 rfl) ?_
      refine va_get (D := D) (ci := 4) (v := .int x0_f_h_4) (C := RX5) (T := TX5) (N := 9) hx hb hts u_X5 hown hE.1 hP 0 rfl rfl 4 (by decide) (hts _ w_262) (fun _ h9 => h9) rfl dX5_step_1 ?_
      refine lv_aload_n hx hb dX5_step_4 rfl (lv_at hl 0 rfl) ?_
      refine va_get (D := D) (ci := 4) (v := .int n_h_length) (C := RX5) (T := TX5) (N := 9) hx hb hts u_X5 hown hE.1 hP 0 rfl rfl 3 (by decide) (hts _ w_261) (fun _ h9 => h9) rfl dX5_step_5 ?_
      refine lv_icmp_ge (tgt := 52) hx hb dX5_step_8 (by decide) (fun c_27 => ?_) (fun c_27 => ?_)
      · have i_27 : n_h_length.toInt ≤ x0_f_h_4.toInt := (ki_le c_27)
        exact J_52 x0_f_h_4 _ _ _ bx0_f_h_4 ⟨hP, hD⟩ hS (lv_sub hl [0] rfl)
      · have i_27 : x0_f_h_4.toInt < n_h_length.toInt := (ki_nle c_27)
        have b_28 : kr 0 699 x0_f_h_4 := kr_lt_l bx0_f_h_4 b_h_length i_27 rfl
        have b_29 : kr 1 700 n_h_length := kr_lt_r bx0_f_h_4 b_h_length i_27 rfl
        refine lv_aload_n hx hb dX5_step_11 rfl (lv_at hl 0 rfl) ?_
        refine va_get (D := D) (ci := 4) (v := .ref h_bytes) (C := RX5) (T := TX5) (N := 9) hx hb hts u_X5 hown hE.1 hP 0 rfl rfl 2 (by decide) (hts _ w_260) (fun _ h9 => h9) rfl dX5_step_12 ?_
        refine lv_aload_n hx hb dX5_step_15 rfl (lv_at hl 0 rfl) ?_
        refine va_get (D := D) (ci := 4) (v := .int x0_f_h_4) (C := RX5) (T := TX5) (N := 9) hx hb hts u_X5 hown hE.1 hP 0 rfl rfl 4 (by decide) (hts _ w_262) (fun _ h9 => h9) rfl dX5_step_16 ?_
        refine va_bald hx hb hE.1 hP 1 0 rfl rfl (kr_in b_28 rfl) dX5_step_19 ?_
        refine lv_topi (fun v_30 e_30 => ?_)
        refine lv_bipush (v := 32) hx hb dX5_step_20 (by decide) ?_
        refine lv_icmp_eq (tgt := 39) hx hb dX5_step_22 (by decide) (fun c_31 => ?_) (fun c_31 => ?_)
        · have b_32 : kr 32 32 v_30 := kr_eq_l (kr_all v_30) (kr_c 32 32 rfl) c_31 rfl
          exact J_39 _ _ _ b_29 b_28 ⟨hP, hD⟩ hS (lv_sub hl [0] rfl)
        · refine lv_aload_n hx hb dX5_step_25 rfl (lv_at hl 0 rfl) ?_
          refine va_get (D := D) (ci := 4) (v := .ref h_bytes) (C := RX5) (T := TX5) (N := 9) hx hb hts u_X5 hown hE.1 hP 0 rfl rfl 2 (by decide) (hts _ w_260) (fun _ h9 => h9) rfl dX5_step_26 ?_
          refine lv_aload_n hx hb dX5_step_29 rfl (lv_at hl 0 rfl) ?_
          refine va_get (D := D) (ci := 4) (v := .int x0_f_h_4) (C := RX5) (T := TX5) (N := 9) hx hb hts u_X5 hown hE.1 hP 0 rfl rfl 4 (by decide) (hts _ w_262) (fun _ h9 => h9) rfl dX5_step_30 ?_
          refine va_bald hx hb hE.1 hP 1 0 rfl rfl (kr_in b_28 rfl) dX5_step_33 ?_
          refine lv_topi (fun v_33 e_33 => ?_)
          refine lv_bipush (v := 10) hx hb dX5_step_34 (by decide) ?_
          refine lv_icmp_ne (tgt := 52) hx hb dX5_step_36 (by decide) (fun c_34 => ?_) (fun c_34 => ?_)
          · exact J_52 x0_f_h_4 _ _ _ (kr_w b_28 rfl) ⟨hP, hD⟩ hS (lv_sub hl [0] rfl)
          · have b_35 : kr 10 10 v_33 := kr_eq_l (kr_all v_33) (kr_c 10 10 rfl) c_34 rfl
            exact J_39 _ _ _ b_29 b_28 ⟨hP, hD⟩ hS (lv_sub hl [0] rfl)
  exact J_0 _ n_h_at _ _ _ (Nat.lt_succ_self _) b_h_at ⟨hP, hD⟩ hS (lv_sub hl [0] rfl)
set_option maxHeartbeats 4000000 in
set_option maxRecDepth 100000 in
theorem c_X5_wordNumber (l : Launch) (D : va_G) (cB cI cJ cD : ClassId) (h : Nat) (h_bytes : Nat) (h_script : Nat) (n_h_faultCode : Int32) (n_h_faultPlace : Int32) (n_h_length : Int32) (n_h_at : Int32) (n_h_token : Int32) (n_h_tokenPlace : Int32) (n_h_tokenWorth : Int32) (z0 wa : Nat) (fw : Nat → Int32) (sz : Nat) (b_h_length : kr 0 700 n_h_length) (b_h_at : kr 0 700 n_h_at) : Met l yX5_wordNumber (kk_W yX5_wordNumber cX5_wordNumber 2 (some .int)) ({ frames := 0, cells := 0, slots := 0, locals := 0 }) (va_Pc [.ref h] (kw_pre D cB cI cJ cD [kO h 4 [.int n_h_faultCode, .int n_h_faultPlace, .ref h_bytes, .int n_h_length, .int n_h_at, .int n_h_token, .int n_h_tokenPlace, .int n_h_tokenWorth, .ref h_script]] sz z0 wa fw)) (vp_Si (fun r => kr (-1) 10 r)) 0 0 (fun _ => False) := by
  refine kw_pstart (y := yX5_wordNumber) (maxL := 2) (av := [.ref h]) (by decide) (Nat.le_of_ble_eq_true rfl) ?_
  intro p e s m below meth c ls hx hb hr hml hown hts hE hlocks hsz hP hD hl hw
  have hown : s.vm.findClass RX5 = some m.cls := hown
  have hl : lv_has ls 2 [(0, .ref h)] := hl
  generalize hQQ : MQ below _ _ s _ _ _ = QQ
  have J_2 : ∀ (n : Nat) (x2_l_1 : Int32) (ls : Array Slot), (11 - x2_l_1.toInt).toNat < n → kr 0 11 x2_l_1 → lv_has ls 2 [(1, .int x2_l_1), (0, .ref h)] → W p l e ({ frames := 0, cells := 0, slots := 0, locals := 0 }) s m ([.ref h] : List Value).toArray below meth c s.heap [] 0 0 QQ (F0 m 2 ls []) := by
    intro n
    induction n with
    | zero =>
      intro x2_l_1 ls hn_2 bx2_l_1 hl
      exact absurd hn_2 (Nat.not_lt_zero _)
    | succ n ih_2 =>
      intro x2_l_1 ls hn_2 bx2_l_1 hl
      refine lv_iload_n hx hb dX5_wordNumber_2 rfl (lv_at hl 0 rfl) ?_
      refine va_gets hx hb hw.1 (va_S.rf (A := fun q => z0 ≤ q)) hown (hts _ w_556) (fun _ h9 => h9) dX5_wordNumber_3 ?_
      refine va_tlen (v := Int32.ofNat 11) hx hb hw.2.2.2.2 (va_S.rf (A := fun q => z0 ≤ q)) rfl dX5_wordNumber_6 ?_
      refine lv_topi (fun v_1 e_1 => ?_)
      obtain rfl : v_1 = 11 := e_1.trans (by decide)
      refine lv_icmp_ge (tgt := 38) hx hb dX5_wordNumber_7 (by decide) (fun c_2 => ?_) (fun c_2 => ?_)
      · have i_2 : 11 ≤ x2_l_1.toInt := (ki_le c_2)
        have b_3 : kr 11 11 x2_l_1 := kr_le_r (kr_c 11 11 rfl) bx2_l_1 i_2 rfl
        refine lv_iconst (v := (-1)) hx hb dX5_wordNumber_38 (by decide) ?_
        subst hQQ
        exact kk_pret_i hx hb hr hlocks (kr_w (kr_c (-1) (-1) rfl) rfl) dX5_wordNumber_39
      · have i_2 : x2_l_1.toInt < 11 := (ki_nle c_2)
        have b_4 : kr 0 10 x2_l_1 := kr_lt_l bx2_l_1 (kr_c 11 11 rfl) i_2 rfl
        refine lv_aload_n hx hb dX5_wordNumber_10 rfl (lv_at hl 1 rfl) ?_
        refine va_get (D := D) (ci := 4) (v := .int n_h_token) (C := RX5) (T := TX5) (N := 9) hx hb hts u_X5 hown hE.1 hP 0 rfl rfl 5 (by decide) (hts _ w_263) (fun _ h9 => h9) rfl dX5_wordNumber_11 ?_
        refine lv_iconst (v := 1) hx hb dX5_wordNumber_14 (by decide) ?_
        refine lv_icmp_ne (tgt := 38) hx hb dX5_wordNumber_15 (by decide) (fun c_5 => ?_) (fun c_5 => ?_)
        · refine lv_iconst (v := (-1)) hx hb dX5_wordNumber_38 (by decide) ?_
          subst hQQ
          exact kk_pret_i hx hb hr hlocks (kr_w (kr_c (-1) (-1) rfl) rfl) dX5_wordNumber_39
        · have b_6 : kr 1 1 n_h_token := kr_eq_l (kr_all n_h_token) (kr_c 1 1 rfl) c_5 rfl
          refine va_gets hx hb hw.1 (va_S.rf (A := fun q => z0 ≤ q)) hown (hts _ w_556) (fun _ h9 => h9) dX5_wordNumber_18 ?_
          refine lv_iload_n hx hb dX5_wordNumber_21 rfl (lv_at hl 0 rfl) ?_
          refine va_ti hx hb hw.2.2.2.2 (va_S.rf (A := fun q => z0 ≤ q)) (kr_in b_4 rfl) rfl dX5_wordNumber_22 ?_
          refine lv_topi (fun v_7 e_7 => ?_)
          refine lv_aload_n hx hb dX5_wordNumber_23 rfl (lv_at hl 1 rfl) ?_
          refine va_get (D := D) (ci := 4) (v := .int n_h_tokenWorth) (C := RX5) (T := TX5) (N := 9) hx hb hts u_X5 hown hE.1 hP 0 rfl rfl 7 (by decide) (hts _ w_265) (fun _ h9 => h9) rfl dX5_wordNumber_24 ?_
          refine lv_icmp_ne (tgt := 32) hx hb dX5_wordNumber_27 (by decide) (fun c_8 => ?_) (fun c_8 => ?_)
          · obtain ⟨v_9, e_9⟩ : ∃ y : Int32, y = x2_l_1 + 1 := ⟨_, rfl⟩
            have t_9 : v_9.toInt = x2_l_1.toInt + 1 := kt_add e_9 b_4 (kr_c 1 1 rfl) rfl
            have b_9 : kr 1 11 v_9 := kr_add (x := x2_l_1) (y := 1) t_9 b_4 (kr_c 1 1 rfl) rfl
            refine lv_iinc (v := v_9) (lv' := [(1, .int v_9), (0, .ref h)]) hx hb dX5_wordNumber_32 hl (k := 0) rfl (by rw [e_9]; rfl) (by decide) rfl (fun ls hl => ?_)
            refine lv_goto (tgt := 2) hx hb dX5_wordNumber_35 (by decide) ?_
            exact ih_2 v_9 _ (km_up hn_2 t_9 b_9 rfl) (kr_w b_9 rfl) (lv_sub hl [0, 1] rfl)
          · refine lv_iload_n hx hb dX5_wordNumber_30 rfl (lv_at hl 0 rfl) ?_
            subst hQQ
            exact kk_pret_i hx hb hr hlocks (kr_w b_4 rfl) dX5_wordNumber_31
  refine lv_iconst (v := 0) hx hb dX5_wordNumber_0 (by decide) ?_
  refine lv_istore_n (lv' := [(1, .int 0), (0, .ref h)]) hx hb dX5_wordNumber_1 rfl hl (by decide) rfl (fun ls hl => ?_)
  exact J_2 _ 0 _ (Nat.lt_succ_self _) (kr_w (kr_c 0 0 rfl) rfl) (lv_sub hl [0, 1] rfl)
set_option maxHeartbeats 4000000 in
set_option maxRecDepth 100000 in
theorem c_X5_wrongAt (l : Launch) (D : va_G) (cB cI cJ cD : ClassId) (h : Nat) (h_bytes : Nat) (h_script : Nat) (n_h_faultCode : Int32) (n_h_faultPlace : Int32) (n_h_length : Int32) (n_h_at : Int32) (n_h_token : Int32) (n_h_tokenPlace : Int32) (n_h_tokenWorth : Int32) (p0 : Int32) (p1 : Int32) (sz : Nat) (b_h_length : kr 0 700 n_h_length) (b_h_at : kr 0 700 n_h_at) : Met l yX5_wrongAt (kk_W yX5_wrongAt cX5_wrongAt 3 (some .boolean)) ({ frames := 0, cells := 0, slots := 0, locals := 0 }) (va_Pc [.ref h, .int p0, .int p1] (kk_pre D cB cI cJ cD [kO h 4 [.int n_h_faultCode, .int n_h_faultPlace, .ref h_bytes, .int n_h_length, .int n_h_at, .int n_h_token, .int n_h_tokenPlace, .int n_h_tokenWorth, .ref h_script]] sz)) (kk_Qi D (fun (r : Int32) (u : (Nat → Nat) × (Nat → Nat → Int32) × (Nat → Nat → Int64) × (Nat → Int32)) => kr 0 0 r) (fun u => [kO h 4 [.int (u.2.2.2 0), .int (u.2.2.2 1), .ref h_bytes, .int n_h_length, .int n_h_at, .int n_h_token, .int n_h_tokenPlace, .int n_h_tokenWorth, .ref h_script]]) (va_A [kO h 4 [.int n_h_faultCode, .int n_h_faultPlace, .ref h_bytes, .int n_h_length, .int n_h_at, .int n_h_token, .int n_h_tokenPlace, .int n_h_tokenWorth, .ref h_script]] sz)) 0 0 (va_A [kO h 4 [.int n_h_faultCode, .int n_h_faultPlace, .ref h_bytes, .int n_h_length, .int n_h_at, .int n_h_token, .int n_h_tokenPlace, .int n_h_tokenWorth, .ref h_script]] sz) := by
  refine kk_start (y := yX5_wrongAt) (maxL := 3) (av := [.ref h, .int p0, .int p1]) (Qc := fun A => kk_Qi D (fun (r : Int32) (u : (Nat → Nat) × (Nat → Nat → Int32) × (Nat → Nat → Int64) × (Nat → Int32)) => kr 0 0 r) (fun u => [kO h 4 [.int (u.2.2.2 0), .int (u.2.2.2 1), .ref h_bytes, .int n_h_length, .int n_h_at, .int n_h_token, .int n_h_tokenPlace, .int n_h_tokenWorth, .ref h_script]]) A) (by decide) (Nat.le_of_ble_eq_true rfl) ?_
  intro p e s m below meth c ls A hx hb hr hml hown hts hE hlocks hin hsz hP hD hA hS hl
  have hown : s.vm.findClass RX5 = some m.cls := hown
  have hl : lv_has ls 3 [(0, .ref h), (1, .int p0), (2, .int p1)] := hl
  refine lv_aload_n hx hb dX5_wrongAt_0 rfl (lv_at hl 0 rfl) ?_
  refine lv_iload_n hx hb dX5_wrongAt_1 rfl (lv_at hl 1 rfl) ?_
  refine va_put (D := D) (ci := 4) (v := .int p0) (ty := .int) (C := RX5) (T := TX5) (N := 9) hx hb hts u_X5 tyX5 tyX5_ok nmX5 hown hE.1 hP hD hS 0 rfl rfl 0 (by decide) (hts _ w_256) (fun _ h9 => h9) rfl (by decide +kernel) rfl rfl (Nat.le_of_ble_eq_true rfl) dX5_wrongAt_2 (fun H locs hP hD hS => ?_)
  obtain ⟨hP, hD⟩ : kPD D A [kO h 4 [.int p0, .int n_h_faultPlace, .ref h_bytes, .int n_h_length, .int n_h_at, .int n_h_token, .int n_h_tokenPlace, .int n_h_tokenWorth, .ref h_script]] H := ⟨hP, hD⟩
  refine lv_aload_n hx hb dX5_wrongAt_5 rfl (lv_at hl 0 rfl) ?_
  refine lv_iload_n hx hb dX5_wrongAt_6 rfl (lv_at hl 2 rfl) ?_
  refine va_put (D := D) (ci := 4) (v := .int p1) (ty := .int) (C := RX5) (T := TX5) (N := 9) hx hb hts u_X5 tyX5 tyX5_ok nmX5 hown hE.1 hP hD hS 0 rfl rfl 1 (by decide) (hts _ w_258) (fun _ h9 => h9) rfl (by decide +kernel) rfl rfl (Nat.le_of_ble_eq_true rfl) dX5_wrongAt_7 (fun H locs hP hD hS => ?_)
  obtain ⟨hP, hD⟩ : kPD D A [kO h 4 [.int p0, .int p1, .ref h_bytes, .int n_h_length, .int n_h_at, .int n_h_token, .int n_h_tokenPlace, .int n_h_tokenWorth, .ref h_script]] H := ⟨hP, hD⟩
  refine lv_iconst (v := 0) hx hb dX5_wrongAt_10 (by decide) ?_
  exact kk_ret_z ((fun _ => 0), (fun i => [].getD i (fun _ => 0)), (fun i => [].getD i (fun _ => 0)), (fun i => [p0, p1].getD i 0)) hx hb hr hlocks (by decide) (kr_w (kr_c 0 0 rfl) rfl) (hP.sub [0] rfl) (hD.sub [0] (by decide +kernel) rfl) hS dX5_wrongAt_11 (Nat.le_of_ble_eq_true rfl) (Nat.le_of_ble_eq_true rfl)
set_option maxHeartbeats 4000000 in
set_option maxRecDepth 100000 in
theorem c_X5_readName (l : Launch) (D : va_G) (cB cI cJ cD : ClassId) (h : Nat) (h_bytes : Nat) (h_script : Nat) (n_h_faultCode : Int32) (n_h_faultPlace : Int32) (n_h_length : Int32) (n_h_at : Int32) (n_h_token : Int32) (n_h_tokenPlace : Int32) (n_h_tokenWorth : Int32) (f_h_bytes : Nat → Int32) (z0 wa : Nat) (fw : Nat → Int32) (sz : Nat) (b_h_length : kr 0 700 n_h_length) (b_h_at : kr 0 700 n_h_at) : Met l yX5_readName (kk_W yX5_readName cX5_readName 1 (some .boolean)) ({ frames := 2, cells := 0, slots := 0, locals := 41 }) (va_Pc [.ref h] (kw_pre D cB cI cJ cD [kO h 4 [.int n_h_faultCode, .int n_h_faultPlace, .ref h_bytes, .int n_h_length, .int n_h_at, .int n_h_token, .int n_h_tokenPlace, .int n_h_tokenWorth, .ref h_script], kI cB h_bytes 700 f_h_bytes] sz z0 wa fw)) (kk_Qi D (fun (r : Int32) (u : (Nat → Nat) × (Nat → Nat → Int32) × (Nat → Nat → Int64) × (Nat → Int32)) => kr 0 1 r ∧ kr 0 700 (u.2.2.2 2) ∧ kr 0 4 (u.2.2.2 3) ∧ kr 0 700 (u.2.2.2 4)) (fun u => [kO h 4 [.int (u.2.2.2 0), .int (u.2.2.2 1), .ref h_bytes, .int n_h_length, .int (u.2.2.2 2), .int (u.2.2.2 3), .int (u.2.2.2 4), .int (u.2.2.2 5), .ref h_script], kI cB h_bytes 700 f_h_bytes]) (va_A [kO h 4 [.int n_h_faultCode, .int n_h_faultPlace, .ref h_bytes, .int n_h_length, .int n_h_at, .int n_h_token, .int n_h_tokenPlace, .int n_h_tokenWorth, .ref h_script], kI cB h_bytes 700 f_h_bytes] sz)) 0 0 (va_A [kO h 4 [.int n_h_faultCode, .int n_h_faultPlace, .ref h_bytes, .int n_h_length, .int n_h_at, .int n_h_token, .int n_h_tokenPlace, .int n_h_tokenWorth, .ref h_script], kI cB h_bytes 700 f_h_bytes] sz) := by
  refine kw_start (y := yX5_readName) (maxL := 1) (av := [.ref h]) (Qc := fun A => kk_Qi D (fun (r : Int32) (u : (Nat → Nat) × (Nat → Nat → Int32) × (Nat → Nat → Int64) × (Nat → Int32)) => kr 0 1 r ∧ kr 0 700 (u.2.2.2 2) ∧ kr 0 4 (u.2.2.2 3) ∧ kr 0 700 (u.2.2.2 4)) (fun u => [kO h 4 [.int (u.2.2.2 0), .int (u.2.2.2 1), .ref h_bytes, .int n_h_length, .int (u.2.2.2 2), .int (u.2.2.2 3), .int (u.2.2.2 4), .int (u.2.2.2 5), .ref h_script], kI cB h_bytes 700 f_h_bytes]) A) (by decide) (Nat.le_of_ble_eq_true rfl) ?_
  intro p e s m below meth c ls A hx hb hr hml hown hts hE hlocks hin hsz hP hD hA hS hl hw hAz
  have hown : s.vm.findClass RX5 = some m.cls := hown
  have hl : lv_has ls 1 [(0, .ref h)] := hl
  generalize hQQ : MQ below _ _ s _ _ _ = QQ
  have J_20 : ∀ (x20_f_h_4 : Int32) (x20_f_h_5 : Int32) (x20_f_h_6 : Int32) (x20_f_h_7 : Int32) (H : Heap) (locs : List Loc) (ls : Array Slot), kr 0 700 x20_f_h_4 → kr 0 4 x20_f_h_5 → kr 0 700 x20_f_h_6 → kPD D A [kO h 4 [.int n_h_faultCode, .int n_h_faultPlace, .ref h_bytes, .int n_h_length, .int x20_f_h_4, .int x20_f_h_5, .int x20_f_h_6, .int x20_f_h_7, .ref h_script], kI cB h_bytes 700 f_h_bytes] H → va_S A s.heap H locs → lv_has ls 1 [(0, .ref h)] → W p l e ({ frames := 2, cells := 0, slots := 0, locals := 41 }) s m ([.ref h] : List Value).toArray below meth c H locs 0 0 QQ (F0 m 20 ls []) := by
    intro x20_f_h_4 x20_f_h_5 x20_f_h_6 x20_f_h_7 H locs ls bx20_f_h_4 bx20_f_h_5 bx20_f_h_6 hPD hS hl
    obtain ⟨hP, hD⟩ := hPD
    refine lv_aload_n hx hb dX5_readName_20 rfl (lv_at hl 0 rfl) ?_
    refine lv_iconst (v := 1) hx hb dX5_readName_21 (by decide) ?_
    refine lv_aload_n hx hb dX5_readName_22 rfl (lv_at hl 0 rfl) ?_
    refine va_get (D := D) (ci := 4) (v := .int x20_f_h_6) (C := RX5) (T := TX5) (N := 9) hx hb hts u_X5 hown hE.1 hP 0 rfl rfl 6 (by decide) (hts _ w_264) (fun _ h9 => h9) rfl dX5_readName_23 ?_
    refine kk_ci (wr := [kI cB h_bytes 700 f_h_bytes]) (kk_runV (w1 := [kO h 4 [.int n_h_faultCode, .int n_h_faultPlace, .ref h_bytes, .int n_h_length, .int x20_f_h_4, .int x20_f_h_5, .int x20_f_h_6, .int x20_f_h_7, .ref h_script]]) (As := [.int 1, .int x20_f_h_6]) (rest := []) hx hb hml hown hts hE (c_X5_wrongAt l D cB cI cJ cD h h_bytes h_script n_h_faultCode n_h_faultPlace n_h_length x20_f_h_4 x20_f_h_5 x20_f_h_6 x20_f_h_7 1 x20_f_h_6 H.size b_h_length bx20_f_h_4) m_X5_wrongAt w_558 ⟨rfl, rfl, Nat.le_of_ble_eq_true rfl, Nat.le_of_ble_eq_true rfl⟩ (hP.sub [0] rfl) (hD.sub [0] (by decide +kernel) rfl) 0 4 rfl rfl rfl hl.1 (Nat.le_of_ble_eq_true rfl) dX5_readName_26 ⟨Nat.le_of_ble_eq_true rfl, Nat.le_of_ble_eq_true rfl⟩) hP hD hS hA [0] [1] rfl rfl (by decide +kernel) (by decide +kernel) (fun r_2 u_1 H locs p_1 hP hD hS => ?_)
    obtain ⟨hP, hD⟩ : kPD D A [kI cB h_bytes 700 f_h_bytes, kO h 4 [.int (u_1.2.2.2 0), .int (u_1.2.2.2 1), .ref h_bytes, .int n_h_length, .int x20_f_h_4, .int x20_f_h_5, .int x20_f_h_6, .int x20_f_h_7, .ref h_script]] H := ⟨hP, hD⟩
    obtain rfl : r_2 = 0 := kr_one p_1 rfl
    refine lv_if_eq (tgt := 36) hx hb dX5_readName_29 (by decide) (fun c_3 => ?_) (fun c_3 => absurd c_3 (by decide))
    refine lv_iconst (v := 0) hx hb dX5_readName_36 (by decide) ?_
    subst hQQ
    exact kk_ret_z ((fun _ => 0), (fun i => [].getD i (fun _ => 0)), (fun i => [].getD i (fun _ => 0)), (fun i => [(u_1.2.2.2 0), (u_1.2.2.2 1), x20_f_h_4, x20_f_h_5, x20_f_h_6, x20_f_h_7].getD i 0)) hx hb hr hlocks (by decide) ⟨(kr_w (kr_c 0 0 rfl) rfl), bx20_f_h_4, bx20_f_h_5, bx20_f_h_6⟩ (hP.sub [1, 0] rfl) (hD.sub [1, 0] (by decide +kernel) rfl) hS dX5_readName_37 (Nat.le_of_ble_eq_true rfl) (Nat.le_of_ble_eq_true rfl)
  refine lv_aload_n hx hb dX5_readName_0 rfl (lv_at hl 0 rfl) ?_
  refine kk_cv (wr := []) (kk_runV (w1 := [kO h 4 [.int n_h_faultCode, .int n_h_faultPlace, .ref h_bytes, .int n_h_length, .int n_h_at, .int n_h_token, .int n_h_tokenPlace, .int n_h_tokenWorth, .ref h_script], kI cB h_bytes 700 f_h_bytes]) (As := []) (rest := []) hx hb hml hown hts hE (c_X5_step l D cB cI cJ cD h h_bytes h_script n_h_faultCode n_h_faultPlace n_h_length n_h_at n_h_token n_h_tokenPlace n_h_tokenWorth f_h_bytes s.heap.size b_h_length b_h_at) m_X5_step w_534 ⟨rfl, rfl, Nat.le_of_ble_eq_true rfl, Nat.le_of_ble_eq_true rfl⟩ (hP.sub [0, 1] rfl) (hD.sub [0, 1] (by decide +kernel) rfl) 0 4 rfl rfl rfl hl.1 (Nat.le_of_ble_eq_true rfl) dX5_readName_1 ⟨Nat.le_of_ble_eq_true rfl, Nat.le_of_ble_eq_true rfl⟩) hP hD hS hA [0, 1] [] rfl rfl (by decide +kernel) (by decide +kernel) (fun u_4 H locs p_4 hP hD hS => ?_)
  obtain ⟨hP, hD⟩ : kPD D A [kO h 4 [.int n_h_faultCode, .int n_h_faultPlace, .ref h_bytes, .int n_h_length, .int (u_4.2.2.2 0), .int (u_4.2.2.2 1), .int (u_4.2.2.2 2), .int (u_4.2.2.2 3), .ref h_script], kI cB h_bytes 700 f_h_bytes] H := ⟨hP, hD⟩
  refine lv_aload_n hx hb dX5_readName_4 rfl (lv_at hl 0 rfl) ?_
  refine va_get (D := D) (ci := 4) (v := .int (u_4.2.2.2 1)) (C := RX5) (T := TX5) (N := 9) hx hb hts u_X5 hown hE.1 hP 0 rfl rfl 5 (by decide) (hts _ w_263) (fun _ h9 => h9) rfl dX5_readName_5 ?_
  refine lv_iconst (v := 1) hx hb dX5_readName_8 (by decide) ?_
  refine lv_icmp_ne (tgt := 20) hx hb dX5_readName_9 (by decide) (fun c_5 => ?_) (fun c_5 => ?_)
  · exact J_20 (u_4.2.2.2 0) (u_4.2.2.2 1) (u_4.2.2.2 2) (u_4.2.2.2 3) _ _ _ p_4.1 p_4.2.1 p_4.2.2 ⟨hP, hD⟩ hS (lv_sub hl [0] rfl)
  · have b_6 : kr 1 1 (u_4.2.2.2 1) := kr_eq_l p_4.2.1 (kr_c 1 1 rfl) c_5 rfl
    refine lv_aload_n hx hb dX5_readName_12 rfl (lv_at hl 0 rfl) ?_
    refine kk_pi (kw_runV (w1 := [kO h 4 [.int n_h_faultCode, .int n_h_faultPlace, .ref h_bytes, .int n_h_length, .int (u_4.2.2.2 0), .int (u_4.2.2.2 1), .int (u_4.2.2.2 2), .int (u_4.2.2.2 3), .ref h_script]]) (As := []) (rest := []) hw hAz hS hx hb hml hown hts hE (c_X5_wordNumber l D cB cI cJ cD h h_bytes h_script n_h_faultCode n_h_faultPlace n_h_length (u_4.2.2.2 0) (u_4.2.2.2 1) (u_4.2.2.2 2) (u_4.2.2.2 3) z0 wa fw H.size b_h_length p_4.1) m_X5_wordNumber w_552 ⟨rfl, rfl, Nat.le_of_ble_eq_true rfl, Nat.le_of_ble_eq_true rfl⟩ (hP.sub [0] rfl) (hD.sub [0] (by decide +kernel) rfl) 0 4 rfl rfl rfl hl.1 (Nat.le_of_ble_eq_true rfl) dX5_readName_13 ⟨Nat.le_of_ble_eq_true rfl, Nat.le_of_ble_eq_true rfl⟩) (fun r_7 p_7 => ?_)
    have b_7 : kr (-1) 10 r_7 := p_7
    refine lv_iconst (v := (-1)) hx hb dX5_readName_16 (by decide) ?_
    refine lv_icmp_eq (tgt := 32) hx hb dX5_readName_17 (by decide) (fun c_8 => ?_) (fun c_8 => ?_)
    · have b_9 : kr (-1) (-1) r_7 := kr_eq_l b_7 (kr_c (-1) (-1) rfl) c_8 rfl
      refine lv_iconst (v := 1) hx hb dX5_readName_32 (by decide) ?_
      refine lv_goto (tgt := 37) hx hb dX5_readName_33 (by decide) ?_
      subst hQQ
      exact kk_ret_z ((fun _ => 0), (fun i => [].getD i (fun _ => 0)), (fun i => [].getD i (fun _ => 0)), (fun i => [n_h_faultCode, n_h_faultPlace, (u_4.2.2.2 0), (u_4.2.2.2 1), (u_4.2.2.2 2), (u_4.2.2.2 3)].getD i 0)) hx hb hr hlocks (by decide) ⟨(kr_w (kr_c 1 1 rfl) rfl), p_4.1, (kr_w b_6 rfl), p_4.2.2⟩ (hP.sub [0, 1] rfl) (hD.sub [0, 1] (by decide +kernel) rfl) hS dX5_readName_37 (Nat.le_of_ble_eq_true rfl) (Nat.le_of_ble_eq_true rfl)
    · have b_10 : kr 0 10 r_7 := kr_ne_lo b_7 c_8 rfl
      exact J_20 (u_4.2.2.2 0) (u_4.2.2.2 1) (u_4.2.2.2 2) (u_4.2.2.2 3) _ _ _ p_4.1 (kr_w b_6 rfl) p_4.2.2 ⟨hP, hD⟩ hS (lv_sub hl [0] rfl)
set_option maxHeartbeats 4000000 in
set_option maxRecDepth 100000 in
theorem c_X6_handNamed (l : Launch) (D : va_G) (cB cI cJ cD : ClassId) (h : Nat) (h_names : Nat) (h_told : Nat) (h_kind : Nat) (h_hand : Nat) (h_low : Nat) (h_high : Nat) (h_value : Nat) (n_h_lines : Int32) (n_h_hands : Int32) (n_h_steps : Int32) (f_h_names : Nat → Int32) (p0 : Int32) (sz : Nat) (b_h_hands : kr 0 5 n_h_hands) (b_h_steps : kr 0 24 n_h_steps) : Met l yX6_handNamed (kk_W yX6_handNamed cX6_handNamed 3 (some .int)) ({ frames := 0, cells := 0, slots := 0, locals := 0 }) (va_Pc [.ref h, .int p0] (kk_pre D cB cI cJ cD [kO h 5 [.int n_h_lines, .int n_h_hands, .int n_h_steps, .ref h_told, .ref h_names, .ref h_kind, .ref h_hand, .ref h_low, .ref h_high, .ref h_value], kI cI h_names 5 f_h_names] sz)) (vp_Si (fun r => kr (-1) 4 r)) 0 0 (fun _ => False) := by
  refine kk_pstart (y := yX6_handNamed) (maxL := 3) (av := [.ref h, .int p0]) (by decide) (Nat.le_of_ble_eq_true rfl) ?_
  intro p e s m below meth c ls hx hb hr hml hown hts hE hlocks hsz hP hD hl
  have hown : s.vm.findClass RX6 = some m.cls := hown
  have hl : lv_has ls 3 [(0, .ref h), (1, .int p0)] := hl
  generalize hQQ : MQ below _ _ s _ _ _ = QQ
  have J_2 : ∀ (n : Nat) (x2_l_2 : Int32) (ls : Array Slot), (5 - x2_l_2.toInt).toNat < n → kr 0 5 x2_l_2 → lv_has ls 3 [(2, .int x2_l_2), (0, .ref h), (1, .int p0)] → W p l e ({ frames := 0, cells := 0, slots := 0, locals := 0 }) s m ([.ref h, .int p0] : List Value).toArray below meth c s.heap [] 0 0 QQ (F0 m 2 ls []) := by
    intro n
    induction n with
    | zero =>
      intro x2_l_2 ls hn_2 bx2_l_2 hl
      exact absurd hn_2 (Nat.not_lt_zero _)
    | succ n ih_2 =>
      intro x2_l_2 ls hn_2 bx2_l_2 hl
      refine lv_iload_n hx hb dX6_handNamed_2 rfl (lv_at hl 0 rfl) ?_
      refine lv_aload_n hx hb dX6_handNamed_3 rfl (lv_at hl 1 rfl) ?_
      refine va_get (D := D) (ci := 5) (v := .int n_h_hands) (C := RX6) (T := TX6) (N := 10) hx hb hts u_X6 hown hE.1 hP 0 rfl rfl 1 (by decide) (hts _ w_206) (fun _ h9 => h9) rfl dX6_handNamed_4 ?_
      refine lv_icmp_ge (tgt := 28) hx hb dX6_handNamed_7 (by decide) (fun c_1 => ?_) (fun c_1 => ?_)
      · have i_1 : n_h_hands.toInt ≤ x2_l_2.toInt := (ki_le c_1)
        refine lv_iconst (v := (-1)) hx hb dX6_handNamed_28 (by decide) ?_
        subst hQQ
        exact kk_pret_i hx hb hr hlocks (kr_w (kr_c (-1) (-1) rfl) rfl) dX6_handNamed_29
      · have i_1 : x2_l_2.toInt < n_h_hands.toInt := (ki_nle c_1)
        have b_2 : kr 0 4 x2_l_2 := kr_lt_l bx2_l_2 b_h_hands i_1 rfl
        have b_3 : kr 1 5 n_h_hands := kr_lt_r bx2_l_2 b_h_hands i_1 rfl
        refine lv_aload_n hx hb dX6_handNamed_10 rfl (lv_at hl 1 rfl) ?_
        refine va_get (D := D) (ci := 5) (v := .ref h_names) (C := RX6) (T := TX6) (N := 10) hx hb hts u_X6 hown hE.1 hP 0 rfl rfl 4 (by decide) (hts _ w_219) (fun _ h9 => h9) rfl dX6_handNamed_11 ?_
        refine lv_iload_n hx hb dX6_handNamed_14 rfl (lv_at hl 0 rfl) ?_
        refine va_iald hx hb hE.1 hP 1 1 rfl rfl (kr_in b_2 rfl) dX6_handNamed_15 ?_
        refine lv_topi (fun v_4 e_4 => ?_)
        refine lv_iload_n hx hb dX6_handNamed_16 rfl (lv_at hl 2 rfl) ?_
        refine lv_icmp_ne (tgt := 22) hx hb dX6_handNamed_17 (by decide) (fun c_5 => ?_) (fun c_5 => ?_)
        · obtain ⟨v_6, e_6⟩ : ∃ y : Int32, y = x2_l_2 + 1 := ⟨_, rfl⟩
          have t_6 : v_6.toInt = x2_l_2.toInt + 1 := kt_add e_6 b_2 (kr_c 1 1 rfl) rfl
          have b_6 : kr 1 5 v_6 := kr_add (x := x2_l_2) (y := 1) t_6 b_2 (kr_c 1 1 rfl) rfl
          refine lv_iinc (v := v_6) (lv' := [(2, .int v_6), (0, .ref h), (1, .int p0)]) hx hb dX6_handNamed_22 hl (k := 0) rfl (by rw [e_6]; rfl) (by decide) rfl (fun ls hl => ?_)
          refine lv_goto (tgt := 2) hx hb dX6_handNamed_25 (by decide) ?_
          exact ih_2 v_6 _ (km_up hn_2 t_6 b_6 rfl) (kr_w b_6 rfl) (lv_sub hl [0, 1, 2] rfl)
        · refine lv_iload_n hx hb dX6_handNamed_20 rfl (lv_at hl 0 rfl) ?_
          subst hQQ
          exact kk_pret_i hx hb hr hlocks (kr_w b_2 rfl) dX6_handNamed_21
  refine lv_iconst (v := 0) hx hb dX6_handNamed_0 (by decide) ?_
  refine lv_istore_n (lv' := [(2, .int 0), (0, .ref h), (1, .int p0)]) hx hb dX6_handNamed_1 rfl hl (by decide) rfl (fun ls hl => ?_)
  exact J_2 _ 0 _ (Nat.lt_succ_self _) (kr_w (kr_c 0 0 rfl) rfl) (lv_sub hl [0, 1, 2] rfl)
set_option maxHeartbeats 4000000 in
set_option maxRecDepth 100000 in
theorem c_X5_readNumber (l : Launch) (D : va_G) (cB cI cJ cD : ClassId) (h : Nat) (h_bytes : Nat) (h_script : Nat) (n_h_faultCode : Int32) (n_h_faultPlace : Int32) (n_h_length : Int32) (n_h_at : Int32) (n_h_token : Int32) (n_h_tokenPlace : Int32) (n_h_tokenWorth : Int32) (f_h_bytes : Nat → Int32) (p0 : Int32) (p1 : Int32) (sz : Nat) (b_h_length : kr 0 700 n_h_length) (b_h_at : kr 0 700 n_h_at) : Met l yX5_readNumber (kk_W yX5_readNumber cX5_readNumber 3 (some .boolean)) ({ frames := 2, cells := 0, slots := 0, locals := 41 }) (va_Pc [.ref h, .int p0, .int p1] (kk_pre D cB cI cJ cD [kO h 4 [.int n_h_faultCode, .int n_h_faultPlace, .ref h_bytes, .int n_h_length, .int n_h_at, .int n_h_token, .int n_h_tokenPlace, .int n_h_tokenWorth, .ref h_script], kI cB h_bytes 700 f_h_bytes] sz)) (kk_Qi D (fun (r : Int32) (u : (Nat → Nat) × (Nat → Nat → Int32) × (Nat → Nat → Int64) × (Nat → Int32)) => kr 0 1 r ∧ kr 0 700 (u.2.2.2 2) ∧ kr 0 4 (u.2.2.2 3) ∧ kr 0 700 (u.2.2.2 4)) (fun u => [kO h 4 [.int (u.2.2.2 0), .int (u.2.2.2 1), .ref h_bytes, .int n_h_length, .int (u.2.2.2 2), .int (u.2.2.2 3), .int (u.2.2.2 4), .int (u.2.2.2 5), .ref h_script], kI cB h_bytes 700 f_h_bytes]) (va_A [kO h 4 [.int n_h_faultCode, .int n_h_faultPlace, .ref h_bytes, .int n_h_length, .int n_h_at, .int n_h_token, .int n_h_tokenPlace, .int n_h_tokenWorth, .ref h_script], kI cB h_bytes 700 f_h_bytes] sz)) 0 0 (va_A [kO h 4 [.int n_h_faultCode, .int n_h_faultPlace, .ref h_bytes, .int n_h_length, .int n_h_at, .int n_h_token, .int n_h_tokenPlace, .int n_h_tokenWorth, .ref h_script], kI cB h_bytes 700 f_h_bytes] sz) := by
  refine kk_start (y := yX5_readNumber) (maxL := 3) (av := [.ref h, .int p0, .int p1]) (Qc := fun A => kk_Qi D (fun (r : Int32) (u : (Nat → Nat) × (Nat → Nat → Int32) × (Nat → Nat → Int64) × (Nat → Int32)) => kr 0 1 r ∧ kr 0 700 (u.2.2.2 2) ∧ kr 0 4 (u.2.2.2 3) ∧ kr 0 700 (u.2.2.2 4)) (fun u => [kO h 4 [.int (u.2.2.2 0), .int (u.2.2.2 1), .ref h_bytes, .int n_h_length, .int (u.2.2.2 2), .int (u.2.2.2 3), .int (u.2.2.2 4), .int (u.2.2.2 5), .ref h_script], kI cB h_bytes 700 f_h_bytes]) A) (by decide) (Nat.le_of_ble_eq_true rfl) ?_
  intro p e s m below meth c ls A hx hb hr hml hown hts hE hlocks hin hsz hP hD hA hS hl
  have hown : s.vm.findClass RX5 = some m.cls := hown
  have hl : lv_has ls 3 [(0, .ref h), (1, .int p0), (2, .int p1)] := hl
  generalize hQQ : MQ below _ _ s _ _ _ = QQ
  have J_38 : ∀ (x38_f_h_4 : Int32) (x38_f_h_5 : Int32) (x38_f_h_6 : Int32) (x38_f_h_7 : Int32) (H : Heap) (locs : List Loc) (ls : Array Slot), kr 0 700 x38_f_h_4 → kr 2 2 x38_f_h_5 → kr 0 700 x38_f_h_6 → kPD D A [kO h 4 [.int n_h_faultCode, .int n_h_faultPlace, .ref h_bytes, .int n_h_length, .int x38_f_h_4, .int x38_f_h_5, .int x38_f_h_6, .int x38_f_h_7, .ref h_script], kI cB h_bytes 700 f_h_bytes] H → va_S A s.heap H locs → lv_has ls 3 [(0, .ref h)] → W p l e ({ frames := 2, cells := 0, slots := 0, locals := 41 }) s m ([.ref h, .int p0, .int p1] : List Value).toArray below meth c H locs 0 0 QQ (F0 m 38 ls []) := by
    intro x38_f_h_4 x38_f_h_5 x38_f_h_6 x38_f_h_7 H locs ls bx38_f_h_4 bx38_f_h_5 bx38_f_h_6 hPD hS hl
    obtain ⟨hP, hD⟩ := hPD
    refine lv_aload_n hx hb dX5_readNumber_38 rfl (lv_at hl 0 rfl) ?_
    refine lv_iconst (v := 2) hx hb dX5_readNumber_39 (by decide) ?_
    refine lv_aload_n hx hb dX5_readNumber_40 rfl (lv_at hl 0 rfl) ?_
    refine va_get (D := D) (ci := 4) (v := .int x38_f_h_6) (C := RX5) (T := TX5) (N := 9) hx hb hts u_X5 hown hE.1 hP 0 rfl rfl 6 (by decide) (hts _ w_264) (fun _ h9 => h9) rfl dX5_readNumber_41 ?_
    refine kk_ci (wr := [kI cB h_bytes 700 f_h_bytes]) (kk_runV (w1 := [kO h 4 [.int n_h_faultCode, .int n_h_faultPlace, .ref h_bytes, .int n_h_length, .int x38_f_h_4, .int x38_f_h_5, .int x38_f_h_6, .int x38_f_h_7, .ref h_script]]) (As := [.int 2, .int x38_f_h_6]) (rest := []) hx hb hml hown hts hE (c_X5_wrongAt l D cB cI cJ cD h h_bytes h_script n_h_faultCode n_h_faultPlace n_h_length x38_f_h_4 x38_f_h_5 x38_f_h_6 x38_f_h_7 2 x38_f_h_6 H.size b_h_length bx38_f_h_4) m_X5_wrongAt w_558 ⟨rfl, rfl, Nat.le_of_ble_eq_true rfl, Nat.le_of_ble_eq_true rfl⟩ (hP.sub [0] rfl) (hD.sub [0] (by decide +kernel) rfl) 0 4 rfl rfl rfl hl.1 (Nat.le_of_ble_eq_true rfl) dX5_readNumber_44 ⟨Nat.le_of_ble_eq_true rfl, Nat.le_of_ble_eq_true rfl⟩) hP hD hS hA [0] [1] rfl rfl (by decide +kernel) (by decide +kernel) (fun r_2 u_1 H locs p_1 hP hD hS => ?_)
    obtain ⟨hP, hD⟩ : kPD D A [kI cB h_bytes 700 f_h_bytes, kO h 4 [.int (u_1.2.2.2 0), .int (u_1.2.2.2 1), .ref h_bytes, .int n_h_length, .int x38_f_h_4, .int x38_f_h_5, .int x38_f_h_6, .int x38_f_h_7, .ref h_script]] H := ⟨hP, hD⟩
    obtain rfl : r_2 = 0 := kr_one p_1 rfl
    refine lv_if_eq (tgt := 54) hx hb dX5_readNumber_47 (by decide) (fun c_3 => ?_) (fun c_3 => absurd c_3 (by decide))
    refine lv_iconst (v := 0) hx hb dX5_readNumber_54 (by decide) ?_
    subst hQQ
    exact kk_ret_z ((fun _ => 0), (fun i => [].getD i (fun _ => 0)), (fun i => [].getD i (fun _ => 0)), (fun i => [(u_1.2.2.2 0), (u_1.2.2.2 1), x38_f_h_4, x38_f_h_5, x38_f_h_6, x38_f_h_7].getD i 0)) hx hb hr hlocks (by decide) ⟨(kr_w (kr_c 0 0 rfl) rfl), bx38_f_h_4, (kr_w bx38_f_h_5 rfl), bx38_f_h_6⟩ (hP.sub [1, 0] rfl) (hD.sub [1, 0] (by decide +kernel) rfl) hS dX5_readNumber_55 (Nat.le_of_ble_eq_true rfl) (Nat.le_of_ble_eq_true rfl)
  refine lv_aload_n hx hb dX5_readNumber_0 rfl (lv_at hl 0 rfl) ?_
  refine kk_cv (wr := []) (kk_runV (w1 := [kO h 4 [.int n_h_faultCode, .int n_h_faultPlace, .ref h_bytes, .int n_h_length, .int n_h_at, .int n_h_token, .int n_h_tokenPlace, .int n_h_tokenWorth, .ref h_script], kI cB h_bytes 700 f_h_bytes]) (As := []) (rest := []) hx hb hml hown hts hE (c_X5_step l D cB cI cJ cD h h_bytes h_script n_h_faultCode n_h_faultPlace n_h_length n_h_at n_h_token n_h_tokenPlace n_h_tokenWorth f_h_bytes s.heap.size b_h_length b_h_at) m_X5_step w_534 ⟨rfl, rfl, Nat.le_of_ble_eq_true rfl, Nat.le_of_ble_eq_true rfl⟩ (hP.sub [0, 1] rfl) (hD.sub [0, 1] (by decide +kernel) rfl) 0 4 rfl rfl rfl hl.1 (Nat.le_of_ble_eq_true rfl) dX5_readNumber_1 ⟨Nat.le_of_ble_eq_true rfl, Nat.le_of_ble_eq_true rfl⟩) hP hD hS hA [0, 1] [] rfl rfl (by decide +kernel) (by decide +kernel) (fun u_4 H locs p_4 hP hD hS => ?_)
  obtain ⟨hP, hD⟩ : kPD D A [kO h 4 [.int n_h_faultCode, .int n_h_faultPlace, .ref h_bytes, .int n_h_length, .int (u_4.2.2.2 0), .int (u_4.2.2.2 1), .int (u_4.2.2.2 2), .int (u_4.2.2.2 3), .ref h_script], kI cB h_bytes 700 f_h_bytes] H := ⟨hP, hD⟩
  refine lv_aload_n hx hb dX5_readNumber_4 rfl (lv_at hl 0 rfl) ?_
  refine va_get (D := D) (ci := 4) (v := .int (u_4.2.2.2 1)) (C := RX5) (T := TX5) (N := 9) hx hb hts u_X5 hown hE.1 hP 0 rfl rfl 5 (by decide) (hts _ w_263) (fun _ h9 => h9) rfl dX5_readNumber_5 ?_
  refine lv_iconst (v := 2) hx hb dX5_readNumber_8 (by decide) ?_
  refine lv_icmp_eq (tgt := 22) hx hb dX5_readNumber_9 (by decide) (fun c_5 => ?_) (fun c_5 => ?_)
  · have b_6 : kr 2 2 (u_4.2.2.2 1) := kr_eq_l p_4.2.1 (kr_c 2 2 rfl) c_5 rfl
    refine lv_aload_n hx hb dX5_readNumber_22 rfl (lv_at hl 0 rfl) ?_
    refine va_get (D := D) (ci := 4) (v := .int (u_4.2.2.2 3)) (C := RX5) (T := TX5) (N := 9) hx hb hts u_X5 hown hE.1 hP 0 rfl rfl 7 (by decide) (hts _ w_265) (fun _ h9 => h9) rfl dX5_readNumber_23 ?_
    refine lv_iload_n hx hb dX5_readNumber_26 rfl (lv_at hl 1 rfl) ?_
    refine lv_icmp_lt (tgt := 38) hx hb dX5_readNumber_27 (by decide) (fun c_7 => ?_) (fun c_7 => ?_)
    · have i_7 : (u_4.2.2.2 3).toInt < p0.toInt := (ki_lt c_7)
      have b_8 : kr (-2147483648) 2147483646 (u_4.2.2.2 3) := kr_lt_l (kr_all (u_4.2.2.2 3)) (kr_all p0) i_7 rfl
      have b_9 : kr (-2147483647) 2147483647 p0 := kr_lt_r (kr_all (u_4.2.2.2 3)) (kr_all p0) i_7 rfl
      exact J_38 (u_4.2.2.2 0) (u_4.2.2.2 1) (u_4.2.2.2 2) (u_4.2.2.2 3) _ _ _ p_4.1 b_6 p_4.2.2 ⟨hP, hD⟩ hS (lv_sub hl [0] rfl)
    · have i_7 : p0.toInt ≤ (u_4.2.2.2 3).toInt := (ki_nlt c_7)
      refine lv_aload_n hx hb dX5_readNumber_30 rfl (lv_at hl 0 rfl) ?_
      refine va_get (D := D) (ci := 4) (v := .int (u_4.2.2.2 3)) (C := RX5) (T := TX5) (N := 9) hx hb hts u_X5 hown hE.1 hP 0 rfl rfl 7 (by decide) (hts _ w_265) (fun _ h9 => h9) rfl dX5_readNumber_31 ?_
      refine lv_iload_n hx hb dX5_readNumber_34 rfl (lv_at hl 2 rfl) ?_
      refine lv_icmp_le (tgt := 50) hx hb dX5_readNumber_35 (by decide) (fun c_10 => ?_) (fun c_10 => ?_)
      · have i_10 : (u_4.2.2.2 3).toInt ≤ p1.toInt := (ki_le c_10)
        refine lv_iconst (v := 1) hx hb dX5_readNumber_50 (by decide) ?_
        refine lv_goto (tgt := 55) hx hb dX5_readNumber_51 (by decide) ?_
        subst hQQ
        exact kk_ret_z ((fun _ => 0), (fun i => [].getD i (fun _ => 0)), (fun i => [].getD i (fun _ => 0)), (fun i => [n_h_faultCode, n_h_faultPlace, (u_4.2.2.2 0), (u_4.2.2.2 1), (u_4.2.2.2 2), (u_4.2.2.2 3)].getD i 0)) hx hb hr hlocks (by decide) ⟨(kr_w (kr_c 1 1 rfl) rfl), p_4.1, (kr_w b_6 rfl), p_4.2.2⟩ (hP.sub [0, 1] rfl) (hD.sub [0, 1] (by decide +kernel) rfl) hS dX5_readNumber_55 (Nat.le_of_ble_eq_true rfl) (Nat.le_of_ble_eq_true rfl)
      · have i_10 : p1.toInt < (u_4.2.2.2 3).toInt := (ki_nle c_10)
        have b_11 : kr (-2147483648) 2147483646 p1 := kr_lt_l (kr_all p1) (kr_all (u_4.2.2.2 3)) i_10 rfl
        have b_12 : kr (-2147483647) 2147483647 (u_4.2.2.2 3) := kr_lt_r (kr_all p1) (kr_all (u_4.2.2.2 3)) i_10 rfl
        exact J_38 (u_4.2.2.2 0) (u_4.2.2.2 1) (u_4.2.2.2 2) (u_4.2.2.2 3) _ _ _ p_4.1 b_6 p_4.2.2 ⟨hP, hD⟩ hS (lv_sub hl [0] rfl)
  · refine lv_aload_n hx hb dX5_readNumber_12 rfl (lv_at hl 0 rfl) ?_
    refine lv_iconst (v := 1) hx hb dX5_readNumber_13 (by decide) ?_
    refine lv_aload_n hx hb dX5_readNumber_14 rfl (lv_at hl 0 rfl) ?_
    refine va_get (D := D) (ci := 4) (v := .int (u_4.2.2.2 2)) (C := RX5) (T := TX5) (N := 9) hx hb hts u_X5 hown hE.1 hP 0 rfl rfl 6 (by decide) (hts _ w_264) (fun _ h9 => h9) rfl dX5_readNumber_15 ?_
    refine kk_ci (wr := [kI cB h_bytes 700 f_h_bytes]) (kk_runV (w1 := [kO h 4 [.int n_h_faultCode, .int n_h_faultPlace, .ref h_bytes, .int n_h_length, .int (u_4.2.2.2 0), .int (u_4.2.2.2 1), .int (u_4.2.2.2 2), .int (u_4.2.2.2 3), .ref h_script]]) (As := [.int 1, .int (u_4.2.2.2 2)]) (rest := []) hx hb hml hown hts hE (c_X5_wrongAt l D cB cI cJ cD h h_bytes h_script n_h_faultCode n_h_faultPlace n_h_length (u_4.2.2.2 0) (u_4.2.2.2 1) (u_4.2.2.2 2) (u_4.2.2.2 3) 1 (u_4.2.2.2 2) H.size b_h_length p_4.1) m_X5_wrongAt w_558 ⟨rfl, rfl, Nat.le_of_ble_eq_true rfl, Nat.le_of_ble_eq_true rfl⟩ (hP.sub [0] rfl) (hD.sub [0] (by decide +kernel) rfl) 0 4 rfl rfl rfl hl.1 (Nat.le_of_ble_eq_true rfl) dX5_readNumber_18 ⟨Nat.le_of_ble_eq_true rfl, Nat.le_of_ble_eq_true rfl⟩) hP hD hS hA [0] [1] rfl rfl (by decide +kernel) (by decide +kernel) (fun r_14 u_13 H locs p_13 hP hD hS => ?_)
    obtain ⟨hP, hD⟩ : kPD D A [kI cB h_bytes 700 f_h_bytes, kO h 4 [.int (u_13.2.2.2 0), .int (u_13.2.2.2 1), .ref h_bytes, .int n_h_length, .int (u_4.2.2.2 0), .int (u_4.2.2.2 1), .int (u_4.2.2.2 2), .int (u_4.2.2.2 3), .ref h_script]] H := ⟨hP, hD⟩
    obtain rfl : r_14 = 0 := kr_one p_13 rfl
    subst hQQ
    exact kk_ret_z ((fun _ => 0), (fun i => [].getD i (fun _ => 0)), (fun i => [].getD i (fun _ => 0)), (fun i => [(u_13.2.2.2 0), (u_13.2.2.2 1), (u_4.2.2.2 0), (u_4.2.2.2 1), (u_4.2.2.2 2), (u_4.2.2.2 3)].getD i 0)) hx hb hr hlocks (by decide) ⟨(kr_w (kr_c 0 0 rfl) rfl), p_4.1, p_4.2.1, p_4.2.2⟩ (hP.sub [1, 0] rfl) (hD.sub [1, 0] (by decide +kernel) rfl) hS dX5_readNumber_21 (Nat.le_of_ble_eq_true rfl) (Nat.le_of_ble_eq_true rfl)
set_option maxHeartbeats 4000000 in
set_option maxRecDepth 100000 in
theorem c_X5_readTwo (l : Launch) (D : va_G) (cB cI cJ cD : ClassId) (h : Nat) (h_bytes : Nat) (h_script : Nat) (n_h_faultCode : Int32) (n_h_faultPlace : Int32) (n_h_length : Int32) (n_h_at : Int32) (n_h_token : Int32) (n_h_tokenPlace : Int32) (n_h_tokenWorth : Int32) (f_h_bytes : Nat → Int32) (sz : Nat) (b_h_length : kr 0 700 n_h_length) (b_h_at : kr 0 700 n_h_at) : Met l yX5_readTwo (kk_W yX5_readTwo cX5_readTwo 3 (some .boolean)) ({ frames := 3, cells := 0, slots := 0, locals := 63 }) (va_Pc [.ref h] (kk_pre D cB cI cJ cD [kO h 4 [.int n_h_faultCode, .int n_h_faultPlace, .ref h_bytes, .int n_h_length, .int n_h_at, .int n_h_token, .int n_h_tokenPlace, .int n_h_tokenWorth, .ref h_script], kI cB h_bytes 700 f_h_bytes] sz)) (kk_Qi D (fun (r : Int32) (u : (Nat → Nat) × (Nat → Nat → Int32) × (Nat → Nat → Int64) × (Nat → Int32)) => kr 0 1 r ∧ kr 0 700 (u.2.2.2 2) ∧ kr 0 4 (u.2.2.2 3) ∧ kr 0 700 (u.2.2.2 4)) (fun u => [kO h 4 [.int (u.2.2.2 0), .int (u.2.2.2 1), .ref h_bytes, .int n_h_length, .int (u.2.2.2 2), .int (u.2.2.2 3), .int (u.2.2.2 4), .int (u.2.2.2 5), .ref h_script], kI cB h_bytes 700 f_h_bytes]) (va_A [kO h 4 [.int n_h_faultCode, .int n_h_faultPlace, .ref h_bytes, .int n_h_length, .int n_h_at, .int n_h_token, .int n_h_tokenPlace, .int n_h_tokenWorth, .ref h_script], kI cB h_bytes 700 f_h_bytes] sz)) 0 0 (va_A [kO h 4 [.int n_h_faultCode, .int n_h_faultPlace, .ref h_bytes, .int n_h_length, .int n_h_at, .int n_h_token, .int n_h_tokenPlace, .int n_h_tokenWorth, .ref h_script], kI cB h_bytes 700 f_h_bytes] sz) := by
  refine kk_start (y := yX5_readTwo) (maxL := 3) (av := [.ref h]) (Qc := fun A => kk_Qi D (fun (r : Int32) (u : (Nat → Nat) × (Nat → Nat → Int32) × (Nat → Nat → Int64) × (Nat → Int32)) => kr 0 1 r ∧ kr 0 700 (u.2.2.2 2) ∧ kr 0 4 (u.2.2.2 3) ∧ kr 0 700 (u.2.2.2 4)) (fun u => [kO h 4 [.int (u.2.2.2 0), .int (u.2.2.2 1), .ref h_bytes, .int n_h_length, .int (u.2.2.2 2), .int (u.2.2.2 3), .int (u.2.2.2 4), .int (u.2.2.2 5), .ref h_script], kI cB h_bytes 700 f_h_bytes]) A) (by decide) (Nat.le_of_ble_eq_true rfl) ?_
  intro p e s m below meth c ls A hx hb hr hml hown hts hE hlocks hin hsz hP hD hA hS hl
  have hown : s.vm.findClass RX5 = some m.cls := hown
  have hl : lv_has ls 3 [(0, .ref h)] := hl
  refine lv_aload_n hx hb dX5_readTwo_0 rfl (lv_at hl 0 rfl) ?_
  refine lv_iconst (v := 0) hx hb dX5_readTwo_1 (by decide) ?_
  refine lv_ldc (v := 99999999) hx hb hown (hts _ w_586) dX5_readTwo_2 ?_
  refine kk_ci (wr := []) (kk_runV (w1 := [kO h 4 [.int n_h_faultCode, .int n_h_faultPlace, .ref h_bytes, .int n_h_length, .int n_h_at, .int n_h_token, .int n_h_tokenPlace, .int n_h_tokenWorth, .ref h_script], kI cB h_bytes 700 f_h_bytes]) (As := [.int 0, .int 99999999]) (rest := []) hx hb hml hown hts hE (c_X5_readNumber l D cB cI cJ cD h h_bytes h_script n_h_faultCode n_h_faultPlace n_h_length n_h_at n_h_token n_h_tokenPlace n_h_tokenWorth f_h_bytes 0 99999999 s.heap.size b_h_length b_h_at) m_X5_readNumber w_587 ⟨rfl, rfl, Nat.le_of_ble_eq_true rfl, Nat.le_of_ble_eq_true rfl⟩ (hP.sub [0, 1] rfl) (hD.sub [0, 1] (by decide +kernel) rfl) 0 4 rfl rfl rfl hl.1 (Nat.le_of_ble_eq_true rfl) dX5_readTwo_4 ⟨Nat.le_of_ble_eq_true rfl, Nat.le_of_ble_eq_true rfl⟩) hP hD hS hA [0, 1] [] rfl rfl (by decide +kernel) (by decide +kernel) (fun r_2 u_1 H locs p_1 hP hD hS => ?_)
  obtain ⟨hP, hD⟩ : kPD D A [kO h 4 [.int (u_1.2.2.2 0), .int (u_1.2.2.2 1), .ref h_bytes, .int n_h_length, .int (u_1.2.2.2 2), .int (u_1.2.2.2 3), .int (u_1.2.2.2 4), .int (u_1.2.2.2 5), .ref h_script], kI cB h_bytes 700 f_h_bytes] H := ⟨hP, hD⟩
  have b_2 : kr 0 1 r_2 := p_1.1
  refine lv_if_ne (tgt := 12) hx hb dX5_readTwo_7 (by decide) (fun c_3 => ?_) (fun c_3 => ?_)
  · have b_4 : kr 1 1 r_2 := kr_ne_lo b_2 c_3 rfl
    refine lv_aload_n hx hb dX5_readTwo_12 rfl (lv_at hl 0 rfl) ?_
    refine va_get (D := D) (ci := 4) (v := .int (u_1.2.2.2 5)) (C := RX5) (T := TX5) (N := 9) hx hb hts u_X5 hown hE.1 hP 0 rfl rfl 7 (by decide) (hts _ w_265) (fun _ h9 => h9) rfl dX5_readTwo_13 ?_
    refine lv_istore_n (lv' := [(1, .int (u_1.2.2.2 5)), (0, .ref h)]) hx hb dX5_readTwo_16 rfl hl (by decide) rfl (fun ls hl => ?_)
    refine lv_aload_n hx hb dX5_readTwo_17 rfl (lv_at hl 1 rfl) ?_
    refine va_get (D := D) (ci := 4) (v := .int (u_1.2.2.2 4)) (C := RX5) (T := TX5) (N := 9) hx hb hts u_X5 hown hE.1 hP 0 rfl rfl 6 (by decide) (hts _ w_264) (fun _ h9 => h9) rfl dX5_readTwo_18 ?_
    refine lv_istore_n (lv' := [(2, .int (u_1.2.2.2 4)), (1, .int (u_1.2.2.2 5)), (0, .ref h)]) hx hb dX5_readTwo_21 rfl hl (by decide) rfl (fun ls hl => ?_)
    refine lv_aload_n hx hb dX5_readTwo_22 rfl (lv_at hl 2 rfl) ?_
    refine lv_iconst (v := 1) hx hb dX5_readTwo_23 (by decide) ?_
    refine lv_sipush (v := 9999) hx hb dX5_readTwo_24 (by decide) ?_
    refine kk_ci (wr := []) (kk_runV (w1 := [kO h 4 [.int (u_1.2.2.2 0), .int (u_1.2.2.2 1), .ref h_bytes, .int n_h_length, .int (u_1.2.2.2 2), .int (u_1.2.2.2 3), .int (u_1.2.2.2 4), .int (u_1.2.2.2 5), .ref h_script], kI cB h_bytes 700 f_h_bytes]) (As := [.int 1, .int 9999]) (rest := []) hx hb hml hown hts hE (c_X5_readNumber l D cB cI cJ cD h h_bytes h_script (u_1.2.2.2 0) (u_1.2.2.2 1) n_h_length (u_1.2.2.2 2) (u_1.2.2.2 3) (u_1.2.2.2 4) (u_1.2.2.2 5) f_h_bytes 1 9999 H.size b_h_length p_1.2.1) m_X5_readNumber w_587 ⟨rfl, rfl, Nat.le_of_ble_eq_true rfl, Nat.le_of_ble_eq_true rfl⟩ (hP.sub [0, 1] rfl) (hD.sub [0, 1] (by decide +kernel) rfl) 0 4 rfl rfl rfl hl.1 (Nat.le_of_ble_eq_true rfl) dX5_readTwo_27 ⟨Nat.le_of_ble_eq_true rfl, Nat.le_of_ble_eq_true rfl⟩) hP hD hS hA [0, 1] [] rfl rfl (by decide +kernel) (by decide +kernel) (fun r_6 u_5 H locs p_5 hP hD hS => ?_)
    obtain ⟨hP, hD⟩ : kPD D A [kO h 4 [.int (u_5.2.2.2 0), .int (u_5.2.2.2 1), .ref h_bytes, .int n_h_length, .int (u_5.2.2.2 2), .int (u_5.2.2.2 3), .int (u_5.2.2.2 4), .int (u_5.2.2.2 5), .ref h_script], kI cB h_bytes 700 f_h_bytes] H := ⟨hP, hD⟩
    have b_6 : kr 0 1 r_6 := p_5.1
    refine lv_if_ne (tgt := 35) hx hb dX5_readTwo_30 (by decide) (fun c_7 => ?_) (fun c_7 => ?_)
    · have b_8 : kr 1 1 r_6 := kr_ne_lo b_6 c_7 rfl
      refine lv_aload_n hx hb dX5_readTwo_35 rfl (lv_at hl 2 rfl) ?_
      refine lv_iload_n hx hb dX5_readTwo_36 rfl (lv_at hl 1 rfl) ?_
      refine lv_aload_n hx hb dX5_readTwo_37 rfl (lv_at hl 2 rfl) ?_
      refine va_get (D := D) (ci := 4) (v := .int (u_5.2.2.2 5)) (C := RX5) (T := TX5) (N := 9) hx hb hts u_X5 hown hE.1 hP 0 rfl rfl 7 (by decide) (hts _ w_265) (fun _ h9 => h9) rfl dX5_readTwo_38 ?_
      refine kk_pi (kk_runS (w1 := []) (As := [.int (u_1.2.2.2 5), .int (u_5.2.2.2 5)]) (rest := [.ref h]) hx hb hml hown hts hE (c_X4_keyBits l D cB cI cJ cD (u_1.2.2.2 5) (u_5.2.2.2 5) H.size) m_X4_keyBits w_591 ⟨rfl, rfl, Nat.le_of_ble_eq_true rfl, Nat.le_of_ble_eq_true rfl⟩ (hP.sub [] rfl) (hD.sub [] (by decide +kernel) rfl) rfl hl.1 (Nat.le_of_ble_eq_true rfl) dX5_readTwo_41 ⟨Nat.le_of_ble_eq_true rfl, Nat.le_of_ble_eq_true rfl⟩) (fun r_9 p_9 => ?_)
      have g_10 : r_9 = kb (u_1.2.2.2 5) (u_5.2.2.2 5) := p_9
      refine va_put (D := D) (ci := 4) (v := .int r_9) (ty := .int) (C := RX5) (T := TX5) (N := 9) hx hb hts u_X5 tyX5 tyX5_ok nmX5 hown hE.1 hP hD hS 0 rfl rfl 7 (by decide) (hts _ w_265) (fun _ h9 => h9) rfl (by decide +kernel) rfl rfl (Nat.le_of_ble_eq_true rfl) dX5_readTwo_44 (fun H locs hP hD hS => ?_)
      obtain ⟨hP, hD⟩ : kPD D A [kO h 4 [.int (u_5.2.2.2 0), .int (u_5.2.2.2 1), .ref h_bytes, .int n_h_length, .int (u_5.2.2.2 2), .int (u_5.2.2.2 3), .int (u_5.2.2.2 4), .int r_9, .ref h_script], kI cB h_bytes 700 f_h_bytes] H := ⟨hP, hD⟩
      refine lv_aload_n hx hb dX5_readTwo_47 rfl (lv_at hl 2 rfl) ?_
      refine lv_iload_n hx hb dX5_readTwo_48 rfl (lv_at hl 0 rfl) ?_
      refine va_put (D := D) (ci := 4) (v := .int (u_1.2.2.2 4)) (ty := .int) (C := RX5) (T := TX5) (N := 9) hx hb hts u_X5 tyX5 tyX5_ok nmX5 hown hE.1 hP hD hS 0 rfl rfl 6 (by decide) (hts _ w_264) (fun _ h9 => h9) rfl (by decide +kernel) rfl rfl (Nat.le_of_ble_eq_true rfl) dX5_readTwo_49 (fun H locs hP hD hS => ?_)
      obtain ⟨hP, hD⟩ : kPD D A [kO h 4 [.int (u_5.2.2.2 0), .int (u_5.2.2.2 1), .ref h_bytes, .int n_h_length, .int (u_5.2.2.2 2), .int (u_5.2.2.2 3), .int (u_1.2.2.2 4), .int r_9, .ref h_script], kI cB h_bytes 700 f_h_bytes] H := ⟨hP, hD⟩
      refine lv_iconst (v := 1) hx hb dX5_readTwo_52 (by decide) ?_
      exact kk_ret_z ((fun _ => 0), (fun i => [].getD i (fun _ => 0)), (fun i => [].getD i (fun _ => 0)), (fun i => [(u_5.2.2.2 0), (u_5.2.2.2 1), (u_5.2.2.2 2), (u_5.2.2.2 3), (u_1.2.2.2 4), r_9].getD i 0)) hx hb hr hlocks (by decide) ⟨(kr_w (kr_c 1 1 rfl) rfl), p_5.2.1, p_5.2.2.1, p_1.2.2.2⟩ (hP.sub [0, 1] rfl) (hD.sub [0, 1] (by decide +kernel) rfl) hS dX5_readTwo_53 (Nat.le_of_ble_eq_true rfl) (Nat.le_of_ble_eq_true rfl)
    · have b_11 : kr 0 0 r_6 := kr_eq_l b_6 (kr_c 0 0 rfl) c_7 rfl
      refine lv_iconst (v := 0) hx hb dX5_readTwo_33 (by decide) ?_
      exact kk_ret_z ((fun _ => 0), (fun i => [].getD i (fun _ => 0)), (fun i => [].getD i (fun _ => 0)), (fun i => [(u_5.2.2.2 0), (u_5.2.2.2 1), (u_5.2.2.2 2), (u_5.2.2.2 3), (u_5.2.2.2 4), (u_5.2.2.2 5)].getD i 0)) hx hb hr hlocks (by decide) ⟨(kr_w (kr_c 0 0 rfl) rfl), p_5.2.1, p_5.2.2.1, p_5.2.2.2⟩ (hP.sub [0, 1] rfl) (hD.sub [0, 1] (by decide +kernel) rfl) hS dX5_readTwo_34 (Nat.le_of_ble_eq_true rfl) (Nat.le_of_ble_eq_true rfl)
  · have b_12 : kr 0 0 r_2 := kr_eq_l b_2 (kr_c 0 0 rfl) c_3 rfl
    refine lv_iconst (v := 0) hx hb dX5_readTwo_10 (by decide) ?_
    exact kk_ret_z ((fun _ => 0), (fun i => [].getD i (fun _ => 0)), (fun i => [].getD i (fun _ => 0)), (fun i => [(u_1.2.2.2 0), (u_1.2.2.2 1), (u_1.2.2.2 2), (u_1.2.2.2 3), (u_1.2.2.2 4), (u_1.2.2.2 5)].getD i 0)) hx hb hr hlocks (by decide) ⟨(kr_w (kr_c 0 0 rfl) rfl), p_1.2.1, p_1.2.2.1, p_1.2.2.2⟩ (hP.sub [0, 1] rfl) (hD.sub [0, 1] (by decide +kernel) rfl) hS dX5_readTwo_11 (Nat.le_of_ble_eq_true rfl) (Nat.le_of_ble_eq_true rfl)
set_option maxHeartbeats 4000000 in
set_option maxRecDepth 100000 in
theorem c_X6_addStep (l : Launch) (D : va_G) (cB cI cJ cD : ClassId) (h : Nat) (h_kind : Nat) (h_hand : Nat) (h_low : Nat) (h_high : Nat) (h_value : Nat) (h_told : Nat) (h_names : Nat) (n_h_lines : Int32) (n_h_hands : Int32) (n_h_steps : Int32) (f_h_kind : Nat → Int32) (f_h_hand : Nat → Int32) (f_h_low : Nat → Int32) (f_h_high : Nat → Int32) (f_h_value : Nat → Int32) (p0 : Int32) (p1 : Int32) (p2 : Int32) (p3 : Int32) (p4 : Int32) (sz : Nat) (b_h_hands : kr 0 5 n_h_hands) (b_h_steps : kr 0 24 n_h_steps) (kf_h_hand : ka 0 4 f_h_hand) (b_p1 : kr 0 4 p1) : Met l yX6_addStep (kk_W yX6_addStep cX6_addStep 6 none) ({ frames := 0, cells := 0, slots := 0, locals := 0 }) (va_Pc [.ref h, .int p0, .int p1, .int p2, .int p3, .int p4] (kk_pre D cB cI cJ cD [kO h 5 [.int n_h_lines, .int n_h_hands, .int n_h_steps, .ref h_told, .ref h_names, .ref h_kind, .ref h_hand, .ref h_low, .ref h_high, .ref h_value], kI cI h_kind 24 f_h_kind, kI cI h_hand 24 f_h_hand, kI cI h_low 24 f_h_low, kI cI h_high 24 f_h_high, kI cI h_value 24 f_h_value] sz)) (kk_Qv D (fun (u : (Nat → Nat) × (Nat → Nat → Int32) × (Nat → Nat → Int64) × (Nat → Int32)) => kr 1 24 (u.2.2.2 0) ∧ ka 0 4 (u.2.1 1)) (fun u => [kO h 5 [.int n_h_lines, .int n_h_hands, .int (u.2.2.2 0), .ref h_told, .ref h_names, .ref h_kind, .ref h_hand, .ref h_low, .ref h_high, .ref h_value], kI cI h_kind 24 (u.2.1 0), kI cI h_hand 24 (u.2.1 1), kI cI h_low 24 (u.2.1 2), kI cI h_high 24 (u.2.1 3), kI cI h_value 24 (u.2.1 4)]) (va_A [kO h 5 [.int n_h_lines, .int n_h_hands, .int n_h_steps, .ref h_told, .ref h_names, .ref h_kind, .ref h_hand, .ref h_low, .ref h_high, .ref h_value], kI cI h_kind 24 f_h_kind, kI cI h_hand 24 f_h_hand, kI cI h_low 24 f_h_low, kI cI h_high 24 f_h_high, kI cI h_value 24 f_h_value] sz)) 0 0 (va_A [kO h 5 [.int n_h_lines, .int n_h_hands, .int n_h_steps, .ref h_told, .ref h_names, .ref h_kind, .ref h_hand, .ref h_low, .ref h_high, .ref h_value], kI cI h_kind 24 f_h_kind, kI cI h_hand 24 f_h_hand, kI cI h_low 24 f_h_low, kI cI h_high 24 f_h_high, kI cI h_value 24 f_h_value] sz) := by
  refine kk_start (y := yX6_addStep) (maxL := 6) (av := [.ref h, .int p0, .int p1, .int p2, .int p3, .int p4]) (Qc := fun A => kk_Qv D (fun (u : (Nat → Nat) × (Nat → Nat → Int32) × (Nat → Nat → Int64) × (Nat → Int32)) => kr 1 24 (u.2.2.2 0) ∧ ka 0 4 (u.2.1 1)) (fun u => [kO h 5 [.int n_h_lines, .int n_h_hands, .int (u.2.2.2 0), .ref h_told, .ref h_names, .ref h_kind, .ref h_hand, .ref h_low, .ref h_high, .ref h_value], kI cI h_kind 24 (u.2.1 0), kI cI h_hand 24 (u.2.1 1), kI cI h_low 24 (u.2.1 2), kI cI h_high 24 (u.2.1 3), kI cI h_value 24 (u.2.1 4)]) A) (by decide) (Nat.le_of_ble_eq_true rfl) ?_
  intro p e s m below meth c ls A hx hb hr hml hown hts hE hlocks hin hsz hP hD hA hS hl
  have hown : s.vm.findClass RX6 = some m.cls := hown
  have hl : lv_has ls 6 [(0, .ref h), (1, .int p0), (2, .int p1), (3, .int p2), (4, .int p3), (5, .int p4)] := hl
  refine lv_aload_n hx hb dX6_addStep_0 rfl (lv_at hl 0 rfl) ?_
  refine va_get (D := D) (ci := 5) (v := .int n_h_steps) (C := RX6) (T := TX6) (N := 10) hx hb hts u_X6 hown hE.1 hP 0 rfl rfl 2 (by decide) (hts _ w_211) (fun _ h9 => h9) rfl dX6_addStep_1 ?_
  refine lv_bipush (v := 24) hx hb dX6_addStep_4 (by decide) ?_
  refine lv_icmp_ge (tgt := 71) hx hb dX6_addStep_6 (by decide) (fun c_1 => ?_) (fun c_1 => ?_)
  · have i_1 : 24 ≤ n_h_steps.toInt := (ki_le c_1)
    have b_2 : kr 24 24 n_h_steps := kr_le_r (kr_c 24 24 rfl) b_h_steps i_1 rfl
    exact kk_ret_v ((fun _ => 0), (fun i => [f_h_kind, f_h_hand, f_h_low, f_h_high, f_h_value].getD i (fun _ => 0)), (fun i => [].getD i (fun _ => 0)), (fun i => [n_h_steps].getD i 0)) hx hb hr hlocks ⟨(kr_w b_2 rfl), kf_h_hand⟩ (hP.sub [0, 1, 2, 3, 4, 5] rfl) (hD.sub [0, 1, 2, 3, 4, 5] (by decide +kernel) rfl) hS dX6_addStep_71 (Nat.le_of_ble_eq_true rfl) (Nat.le_of_ble_eq_true rfl)
  · have i_1 : n_h_steps.toInt < 24 := (ki_nle c_1)
    have b_3 : kr 0 23 n_h_steps := kr_lt_l b_h_steps (kr_c 24 24 rfl) i_1 rfl
    refine lv_aload_n hx hb dX6_addStep_9 rfl (lv_at hl 0 rfl) ?_
    refine va_get (D := D) (ci := 5) (v := .ref h_kind) (C := RX6) (T := TX6) (N := 10) hx hb hts u_X6 hown hE.1 hP 0 rfl rfl 5 (by decide) (hts _ w_220) (fun _ h9 => h9) rfl dX6_addStep_10 ?_
    refine lv_aload_n hx hb dX6_addStep_13 rfl (lv_at hl 0 rfl) ?_
    refine va_get (D := D) (ci := 5) (v := .int n_h_steps) (C := RX6) (T := TX6) (N := 10) hx hb hts u_X6 hown hE.1 hP 0 rfl rfl 2 (by decide) (hts _ w_211) (fun _ h9 => h9) rfl dX6_addStep_14 ?_
    refine lv_iload_n hx hb dX6_addStep_17 rfl (lv_at hl 1 rfl) ?_
    refine va_iast hx hb hE.1 hP hD hS 1 1 rfl rfl (kr_in b_3 rfl) dX6_addStep_18 (fun H locs hP hD hS => ?_)
    obtain ⟨f_4, ef_4⟩ : ∃ z, z = (upd f_h_kind (Int32.toNatClampNeg n_h_steps) p0) := ⟨_, rfl⟩
    rw [← ef_4] at hP hD
    obtain ⟨hP, hD⟩ : kPD D A [kO h 5 [.int n_h_lines, .int n_h_hands, .int n_h_steps, .ref h_told, .ref h_names, .ref h_kind, .ref h_hand, .ref h_low, .ref h_high, .ref h_value], kI cI h_kind 24 f_4, kI cI h_hand 24 f_h_hand, kI cI h_low 24 f_h_low, kI cI h_high 24 f_h_high, kI cI h_value 24 f_h_value] H := ⟨hP, hD⟩
    refine lv_aload_n hx hb dX6_addStep_19 rfl (lv_at hl 0 rfl) ?_
    refine va_get (D := D) (ci := 5) (v := .ref h_hand) (C := RX6) (T := TX6) (N := 10) hx hb hts u_X6 hown hE.1 hP 0 rfl rfl 6 (by decide) (hts _ w_223) (fun _ h9 => h9) rfl dX6_addStep_20 ?_
    refine lv_aload_n hx hb dX6_addStep_23 rfl (lv_at hl 0 rfl) ?_
    refine va_get (D := D) (ci := 5) (v := .int n_h_steps) (C := RX6) (T := TX6) (N := 10) hx hb hts u_X6 hown hE.1 hP 0 rfl rfl 2 (by decide) (hts _ w_211) (fun _ h9 => h9) rfl dX6_addStep_24 ?_
    refine lv_iload_n hx hb dX6_addStep_27 rfl (lv_at hl 2 rfl) ?_
    refine va_iast hx hb hE.1 hP hD hS 2 1 rfl rfl (kr_in b_3 rfl) dX6_addStep_28 (fun H locs hP hD hS => ?_)
    obtain ⟨f_5, ef_5⟩ : ∃ z, z = (upd f_h_hand (Int32.toNatClampNeg n_h_steps) p1) := ⟨_, rfl⟩
    have kf_5 : ka 0 4 f_5 := by rw [ef_5]; exact ka_upd (ka_w kf_h_hand rfl) b_p1
    rw [← ef_5] at hP hD
    obtain ⟨hP, hD⟩ : kPD D A [kO h 5 [.int n_h_lines, .int n_h_hands, .int n_h_steps, .ref h_told, .ref h_names, .ref h_kind, .ref h_hand, .ref h_low, .ref h_high, .ref h_value], kI cI h_kind 24 f_4, kI cI h_hand 24 f_5, kI cI h_low 24 f_h_low, kI cI h_high 24 f_h_high, kI cI h_value 24 f_h_value] H := ⟨hP, hD⟩
    refine lv_aload_n hx hb dX6_addStep_29 rfl (lv_at hl 0 rfl) ?_
    refine va_get (D := D) (ci := 5) (v := .ref h_low) (C := RX6) (T := TX6) (N := 10) hx hb hts u_X6 hown hE.1 hP 0 rfl rfl 7 (by decide) (hts _ w_226) (fun _ h9 => h9) rfl dX6_addStep_30 ?_
    refine lv_aload_n hx hb dX6_addStep_33 rfl (lv_at hl 0 rfl) ?_
    refine va_get (D := D) (ci := 5) (v := .int n_h_steps) (C := RX6) (T := TX6) (N := 10) hx hb hts u_X6 hown hE.1 hP 0 rfl rfl 2 (by decide) (hts _ w_211) (fun _ h9 => h9) rfl dX6_addStep_34 ?_
    refine lv_iload_n hx hb dX6_addStep_37 rfl (lv_at hl 3 rfl) ?_
    refine va_iast hx hb hE.1 hP hD hS 3 1 rfl rfl (kr_in b_3 rfl) dX6_addStep_38 (fun H locs hP hD hS => ?_)
    obtain ⟨f_6, ef_6⟩ : ∃ z, z = (upd f_h_low (Int32.toNatClampNeg n_h_steps) p2) := ⟨_, rfl⟩
    rw [← ef_6] at hP hD
    obtain ⟨hP, hD⟩ : kPD D A [kO h 5 [.int n_h_lines, .int n_h_hands, .int n_h_steps, .ref h_told, .ref h_names, .ref h_kind, .ref h_hand, .ref h_low, .ref h_high, .ref h_value], kI cI h_kind 24 f_4, kI cI h_hand 24 f_5, kI cI h_low 24 f_6, kI cI h_high 24 f_h_high, kI cI h_value 24 f_h_value] H := ⟨hP, hD⟩
    refine lv_aload_n hx hb dX6_addStep_39 rfl (lv_at hl 0 rfl) ?_
    refine va_get (D := D) (ci := 5) (v := .ref h_high) (C := RX6) (T := TX6) (N := 10) hx hb hts u_X6 hown hE.1 hP 0 rfl rfl 8 (by decide) (hts _ w_229) (fun _ h9 => h9) rfl dX6_addStep_40 ?_
    refine lv_aload_n hx hb dX6_addStep_43 rfl (lv_at hl 0 rfl) ?_
    refine va_get (D := D) (ci := 5) (v := .int n_h_steps) (C := RX6) (T := TX6) (N := 10) hx hb hts u_X6 hown hE.1 hP 0 rfl rfl 2 (by decide) (hts _ w_211) (fun _ h9 => h9) rfl dX6_addStep_44 ?_
    refine lv_iload hx hb dX6_addStep_47 (lv_at hl 4 rfl) ?_
    refine va_iast hx hb hE.1 hP hD hS 4 1 rfl rfl (kr_in b_3 rfl) dX6_addStep_49 (fun H locs hP hD hS => ?_)
    obtain ⟨f_7, ef_7⟩ : ∃ z, z = (upd f_h_high (Int32.toNatClampNeg n_h_steps) p3) := ⟨_, rfl⟩
    rw [← ef_7] at hP hD
    obtain ⟨hP, hD⟩ : kPD D A [kO h 5 [.int n_h_lines, .int n_h_hands, .int n_h_steps, .ref h_told, .ref h_names, .ref h_kind, .ref h_hand, .ref h_low, .ref h_high, .ref h_value], kI cI h_kind 24 f_4, kI cI h_hand 24 f_5, kI cI h_low 24 f_6, kI cI h_high 24 f_7, kI cI h_value 24 f_h_value] H := ⟨hP, hD⟩
    refine lv_aload_n hx hb dX6_addStep_50 rfl (lv_at hl 0 rfl) ?_
    refine va_get (D := D) (ci := 5) (v := .ref h_value) (C := RX6) (T := TX6) (N := 10) hx hb hts u_X6 hown hE.1 hP 0 rfl rfl 9 (by decide) (hts _ w_232) (fun _ h9 => h9) rfl dX6_addStep_51 ?_
    refine lv_aload_n hx hb dX6_addStep_54 rfl (lv_at hl 0 rfl) ?_
    refine va_get (D := D) (ci := 5) (v := .int n_h_steps) (C := RX6) (T := TX6) (N := 10) hx hb hts u_X6 hown hE.1 hP 0 rfl rfl 2 (by decide) (hts _ w_211) (fun _ h9 => h9) rfl dX6_addStep_55 ?_
    refine lv_iload hx hb dX6_addStep_58 (lv_at hl 5 rfl) ?_
    refine va_iast hx hb hE.1 hP hD hS 5 1 rfl rfl (kr_in b_3 rfl) dX6_addStep_60 (fun H locs hP hD hS => ?_)
    obtain ⟨f_8, ef_8⟩ : ∃ z, z = (upd f_h_value (Int32.toNatClampNeg n_h_steps) p4) := ⟨_, rfl⟩
    rw [← ef_8] at hP hD
    obtain ⟨hP, hD⟩ : kPD D A [kO h 5 [.int n_h_lines, .int n_h_hands, .int n_h_steps, .ref h_told, .ref h_names, .ref h_kind, .ref h_hand, .ref h_low, .ref h_high, .ref h_value], kI cI h_kind 24 f_4, kI cI h_hand 24 f_5, kI cI h_low 24 f_6, kI cI h_high 24 f_7, kI cI h_value 24 f_8] H := ⟨hP, hD⟩
    refine lv_aload_n hx hb dX6_addStep_61 rfl (lv_at hl 0 rfl) ?_
    refine lv_dup hx hb dX6_addStep_62 rfl ?_
    refine va_get (D := D) (ci := 5) (v := .int n_h_steps) (C := RX6) (T := TX6) (N := 10) hx hb hts u_X6 hown hE.1 hP 0 rfl rfl 2 (by decide) (hts _ w_211) (fun _ h9 => h9) rfl dX6_addStep_63 ?_
    refine lv_iconst (v := 1) hx hb dX6_addStep_66 (by decide) ?_
    refine lv_iadd hx hb dX6_addStep_67 ?_
    refine lv_topi (fun v_9 e_9 => ?_)
    have t_9 : v_9.toInt = n_h_steps.toInt + 1 := kt_add e_9 b_3 (kr_c 1 1 rfl) rfl
    have b_9 : kr 1 24 v_9 := kr_add (x := n_h_steps) (y := 1) t_9 b_3 (kr_c 1 1 rfl) rfl
    refine va_put (D := D) (ci := 5) (v := .int v_9) (ty := .int) (C := RX6) (T := TX6) (N := 10) hx hb hts u_X6 tyX6 tyX6_ok nmX6 hown hE.1 hP hD hS 0 rfl rfl 2 (by decide) (hts _ w_211) (fun _ h9 => h9) rfl (by decide +kernel) rfl rfl (Nat.le_of_ble_eq_true rfl) dX6_addStep_68 (fun H locs hP hD hS => ?_)
    obtain ⟨hP, hD⟩ : kPD D A [kO h 5 [.int n_h_lines, .int n_h_hands, .int v_9, .ref h_told, .ref h_names, .ref h_kind, .ref h_hand, .ref h_low, .ref h_high, .ref h_value], kI cI h_kind 24 f_4, kI cI h_hand 24 f_5, kI cI h_low 24 f_6, kI cI h_high 24 f_7, kI cI h_value 24 f_8] H := ⟨hP, hD⟩
    exact kk_ret_v ((fun _ => 0), (fun i => [f_4, f_5, f_6, f_7, f_8].getD i (fun _ => 0)), (fun i => [].getD i (fun _ => 0)), (fun i => [v_9].getD i 0)) hx hb hr hlocks ⟨b_9, kf_5⟩ (hP.sub [0, 1, 2, 3, 4, 5] rfl) (hD.sub [0, 1, 2, 3, 4, 5] (by decide +kernel) rfl) hS dX6_addStep_71 (Nat.le_of_ble_eq_true rfl) (Nat.le_of_ble_eq_true rfl)
