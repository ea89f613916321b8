set_option maxHeartbeats 4000000 in
set_option maxRecDepth 100000 in
theorem c_X5_readLine (l : Launch) (D : va_G) (cB cI cJ cD : ClassId) (h : Nat) (h_script : Nat) (h_bytes : Nat) (h_script_names : Nat) (h_script_kind : Nat) (h_script_hand : Nat) (h_script_low : Nat) (h_script_high : Nat) (h_script_value : Nat) (h_script_told : Nat) (h_script_told_bits : Nat) (h_script_told_gaps : Nat) (h_script_told_value : Nat) (h_script_told_cutter : Nat) (h_script_told_putter : Nat) (h_script_told_sharers : Nat) (h_script_told_wholes : Nat) (n_h_faultCode : Int32) (n_h_faultPlace : Int32) (n_h_length : Int32) (n_h_at : Int32) (n_h_token : Int32) (n_h_tokenPlace : Int32) (n_h_tokenWorth : Int32) (n_h_script_lines : Int32) (n_h_script_hands : Int32) (n_h_script_steps : Int32) (f_h_bytes : Nat → Int32) (f_h_script_names : Nat → Int32) (f_h_script_kind : Nat → Int32) (f_h_script_hand : Nat → Int32) (f_h_script_low : Nat → Int32) (f_h_script_high : Nat → Int32) (f_h_script_value : Nat → Int32) (n_h_script_told_size : Int32) (f_h_script_told_bits : Nat → Int32) (f_h_script_told_gaps : Nat → Int32) (f_h_script_told_value : Nat → Int32) (f_h_script_told_cutter : Nat → Int32) (f_h_script_told_putter : Nat → Int32) (f_h_script_told_sharers : Nat → Int32) (f_h_script_told_wholes : Nat → Int32) (z0 wa : Nat) (fw : Nat → Int32) (sz : Nat) (b_h_length : kr 0 700 n_h_length) (b_h_at : kr 0 700 n_h_at) (b_h_script_hands : kr 0 5 n_h_script_hands) (b_h_script_steps : kr 0 24 n_h_script_steps) (kf_h_script_hand : ka 0 4 f_h_script_hand) (b_h_script_told_size : kr 0 24 n_h_script_told_size) : Met l yX5_readLine (kk_W yX5_readLine cX5_readLine 3 (some .boolean)) ({ frames := 5, cells := 0, slots := 0, locals := 110 }) (va_Pc [.ref h] (kw_pre D cB cI cJ cD [kO h 4 [.int n_h_faultCode, .int n_h_faultPlace, .ref h_bytes, .int n_h_length, .int n_h_at, .int n_h_token, .int n_h_tokenPlace, .int n_h_tokenWorth, .ref h_script], kO h_script 5 [.int n_h_script_lines, .int n_h_script_hands, .int n_h_script_steps, .ref h_script_told, .ref h_script_names, .ref h_script_kind, .ref h_script_hand, .ref h_script_low, .ref h_script_high, .ref h_script_value], kI cB h_bytes 700 f_h_bytes, kI cI h_script_names 5 f_h_script_names, kI cI h_script_kind 24 f_h_script_kind, kI cI h_script_hand 24 f_h_script_hand, kI cI h_script_low 24 f_h_script_low, kI cI h_script_high 24 f_h_script_high, kI cI h_script_value 24 f_h_script_value, kO h_script_told 6 [.int n_h_script_told_size, .ref h_script_told_bits, .ref h_script_told_value, .ref h_script_told_cutter, .ref h_script_told_putter, .ref h_script_told_gaps, .ref h_script_told_sharers, .ref h_script_told_wholes], kI cI h_script_told_bits 24 f_h_script_told_bits, kI cI h_script_told_gaps 25 f_h_script_told_gaps, kI cI h_script_told_value 24 f_h_script_told_value, kI cI h_script_told_cutter 24 f_h_script_told_cutter, kI cI h_script_told_putter 24 f_h_script_told_putter, kI cI h_script_told_sharers 24 f_h_script_told_sharers, kI cI h_script_told_wholes 24 f_h_script_told_wholes] sz z0 wa fw)) (kk_Qi D (fun (r : Int32) (u : (Nat → Nat) × (Nat → Nat → Int32) × (Nat → Nat → Int64) × (Nat → Int32)) => kr 0 1 r ∧ kr 0 700 (u.2.2.2 2) ∧ kr 0 5 (u.2.2.2 6) ∧ kr 0 24 (u.2.2.2 7) ∧ ka 0 4 (u.2.1 2) ∧ kr 0 24 (u.2.2.2 8)) (fun u => [kO h 4 [.int (u.2.2.2 0), .int (u.2.2.2 1), .ref h_bytes, .int n_h_length, .int (u.2.2.2 2), .int (u.2.2.2 3), .int (u.2.2.2 4), .int (u.2.2.2 5), .ref h_script], kO h_script 5 [.int n_h_script_lines, .int (u.2.2.2 6), .int (u.2.2.2 7), .ref h_script_told, .ref h_script_names, .ref h_script_kind, .ref h_script_hand, .ref h_script_low, .ref h_script_high, .ref h_script_value], kI cB h_bytes 700 f_h_bytes, kI cI h_script_names 5 (u.2.1 0), kI cI h_script_kind 24 (u.2.1 1), kI cI h_script_hand 24 (u.2.1 2), kI cI h_script_low 24 (u.2.1 3), kI cI h_script_high 24 (u.2.1 4), kI cI h_script_value 24 (u.2.1 5), kO h_script_told 6 [.int (u.2.2.2 8), .ref h_script_told_bits, .ref h_script_told_value, .ref h_script_told_cutter, .ref h_script_told_putter, .ref h_script_told_gaps, .ref h_script_told_sharers, .ref h_script_told_wholes], kI cI h_script_told_bits 24 (u.2.1 6), kI cI h_script_told_gaps 25 (u.2.1 7), kI cI h_script_told_value 24 (u.2.1 8), kI cI h_script_told_cutter 24 (u.2.1 9), kI cI h_script_told_putter 24 (u.2.1 10), kI cI h_script_told_sharers 24 (u.2.1 11), kI cI h_script_told_wholes 24 (u.2.1 12)]) (va_A [kO h 4 [.int n_h_faultCode, .int n_h_faultPlace, .ref h_bytes, .int n_h_length, .int n_h_at, .int n_h_token, .int n_h_tokenPlace, .int n_h_tokenWorth, .ref h_script], kO h_script 5 [.int n_h_script_lines, .int n_h_script_hands, .int n_h_script_steps, .ref h_script_told, .ref h_script_names, .ref h_script_kind, .ref h_script_hand, .ref h_script_low, .ref h_script_high, .ref h_script_value], kI cB h_bytes 700 f_h_bytes, kI cI h_script_names 5 f_h_script_names, kI cI h_script_kind 24 f_h_script_kind, kI cI h_script_hand 24 f_h_script_hand, kI cI h_script_low 24 f_h_script_low, kI cI h_script_high 24 f_h_script_high, kI cI h_script_value 24 f_h_script_value, kO h_script_told 6 [.int n_h_script_told_size, .ref h_script_told_bits, .ref h_script_told_value, .ref h_script_told_cutter, .ref h_script_told_putter, .ref h_script_told_gaps, .ref h_script_told_sharers, .ref h_script_told_wholes], kI cI h_script_told_bits 24 f_h_script_told_bits, kI cI h_script_told_gaps 25 f_h_script_told_gaps, kI cI h_script_told_value 24 f_h_script_told_value, kI cI h_script_told_cutter 24 f_h_script_told_cutter, kI cI h_script_told_putter 24 f_h_script_told_putter, kI cI h_script_told_sharers 24 f_h_script_told_sharers, kI cI h_script_told_wholes 24 f_h_script_told_wholes] sz)) 0 0 (va_A [kO h 4 [.int n_h_faultCode, .int n_h_faultPlace, .ref h_bytes, .int n_h_length, .int n_h_at, .int n_h_token, .int n_h_tokenPlace, .int n_h_tokenWorth, .ref h_script], kO h_script 5 [.int n_h_script_lines, .int n_h_script_hands, .int n_h_script_steps, .ref h_script_told, .ref h_script_names, .ref h_script_kind, .ref h_script_hand, .ref h_script_low, .ref h_script_high, .ref h_script_value], kI cB h_bytes 700 f_h_bytes, kI cI h_script_names 5 f_h_script_names, kI cI h_script_kind 24 f_h_script_kind, kI cI h_script_hand 24 f_h_script_hand, kI cI h_script_low 24 f_h_script_low, kI cI h_script_high 24 f_h_script_high, kI cI h_script_value 24 f_h_script_value, kO h_script_told 6 [.int n_h_script_told_size, .ref h_script_told_bits, .ref h_script_told_value, .ref h_script_told_cutter, .ref h_script_told_putter, .ref h_script_told_gaps, .ref h_script_told_sharers, .ref h_script_told_wholes], kI cI h_script_told_bits 24 f_h_script_told_bits, kI cI h_script_told_gaps 25 f_h_script_told_gaps, kI cI h_script_told_value 24 f_h_script_told_value, kI cI h_script_told_cutter 24 f_h_script_told_cutter, kI cI h_script_told_putter 24 f_h_script_told_putter, kI cI h_script_told_sharers 24 f_h_script_told_sharers, kI cI h_script_told_wholes 24 f_h_script_told_wholes] sz) := by
  refine kw_start (y := yX5_readLine) (maxL := 3) (av := [.ref h]) (Qc := fun A => kk_Qi D (fun (r : Int32) (u : (Nat → Nat) × (Nat → Nat → Int32) × (Nat → Nat → Int64) × (Nat → Int32)) => kr 0 1 r ∧ kr 0 700 (u.2.2.2 2) ∧ kr 0 5 (u.2.2.2 6) ∧ kr 0 24 (u.2.2.2 7) ∧ ka 0 4 (u.2.1 2) ∧ kr 0 24 (u.2.2.2 8)) (fun u => [kO h 4 [.int (u.2.2.2 0), .int (u.2.2.2 1), .ref h_bytes, .int n_h_length, .int (u.2.2.2 2), .int (u.2.2.2 3), .int (u.2.2.2 4), .int (u.2.2.2 5), .ref h_script], kO h_script 5 [.int n_h_script_lines, .int (u.2.2.2 6), .int (u.2.2.2 7), .ref h_script_told, .ref h_script_names, .ref h_script_kind, .ref h_script_hand, .ref h_script_low, .ref h_script_high, .ref h_script_value], kI cB h_bytes 700 f_h_bytes, kI cI h_script_names 5 (u.2.1 0), kI cI h_script_kind 24 (u.2.1 1), kI cI h_script_hand 24 (u.2.1 2), kI cI h_script_low 24 (u.2.1 3), kI cI h_script_high 24 (u.2.1 4), kI cI h_script_value 24 (u.2.1 5), kO h_script_told 6 [.int (u.2.2.2 8), .ref h_script_told_bits, .ref h_script_told_value, .ref h_script_told_cutter, .ref h_script_told_putter, .ref h_script_told_gaps, .ref h_script_told_sharers, .ref h_script_told_wholes], kI cI h_script_told_bits 24 (u.2.1 6), kI cI h_script_told_gaps 25 (u.2.1 7), kI cI h_script_told_value 24 (u.2.1 8), kI cI h_script_told_cutter 24 (u.2.1 9), kI cI h_script_told_putter 24 (u.2.1 10), kI cI h_script_told_sharers 24 (u.2.1 11), kI cI h_script_told_wholes 24 (u.2.1 12)]) A) (by decide) (Nat.le_of_ble_eq_true rfl) ?_
  intro p e s m below meth c ls A hx hb hr hml hown hts hE hlocks hin hsz hP hD hA hS hl hw hAz
  have hown : s.vm.findClass RX5 = some m.cls := hown
  have hl : lv_has ls 3 [(0, .ref h)] := hl
  generalize hQQ : MQ below _ _ s _ _ _ = QQ
  have J_53 : ∀ (x53_l_2 : Int32) (x53_f_h_script_told_0 : Int32) (g53_h_script_told_bits : Nat → Int32) (g53_h_script_told_gaps : Nat → Int32) (g53_h_script_told_value : Nat → Int32) (g53_h_script_told_cutter : Nat → Int32) (g53_h_script_told_putter : Nat → Int32) (g53_h_script_told_sharers : Nat → Int32) (g53_h_script_told_wholes : Nat → Int32) (x53_f_h_0 : Int32) (x53_f_h_1 : Int32) (x53_f_h_4 : Int32) (x53_f_h_5 : Int32) (x53_f_h_6 : Int32) (x53_f_h_7 : Int32) (x53_f_h_script_1 : Int32) (x53_f_h_script_2 : Int32) (g53_h_script_names : Nat → Int32) (g53_h_script_kind : Nat → Int32) (g53_h_script_hand : Nat → Int32) (g53_h_script_low : Nat → Int32) (g53_h_script_high : Nat → Int32) (g53_h_script_value : Nat → Int32) (H : Heap) (locs : List Loc) (ls : Array Slot), kr 0 1 x53_l_2 → kr 0 24 x53_f_h_script_told_0 → kr 0 700 x53_f_h_4 → kr 0 5 x53_f_h_script_1 → kr 0 24 x53_f_h_script_2 → ka 0 4 g53_h_script_hand → kPD D A [kO h_script_told 6 [.int x53_f_h_script_told_0, .ref h_script_told_bits, .ref h_script_told_value, .ref h_script_told_cutter, .ref h_script_told_putter, .ref h_script_told_gaps, .ref h_script_told_sharers, .ref h_script_told_wholes], kI cI h_script_told_bits 24 g53_h_script_told_bits, kI cI h_script_told_gaps 25 g53_h_script_told_gaps, kI cI h_script_told_value 24 g53_h_script_told_value, kI cI h_script_told_cutter 24 g53_h_script_told_cutter, kI cI h_script_told_putter 24 g53_h_script_told_putter, kI cI h_script_told_sharers 24 g53_h_script_told_sharers, kI cI h_script_told_wholes 24 g53_h_script_told_wholes, kO h 4 [.int x53_f_h_0, .int x53_f_h_1, .ref h_bytes, .int n_h_length, .int x53_f_h_4, .int x53_f_h_5, .int x53_f_h_6, .int x53_f_h_7, .ref h_script], kO h_script 5 [.int n_h_script_lines, .int x53_f_h_script_1, .int x53_f_h_script_2, .ref h_script_told, .ref h_script_names, .ref h_script_kind, .ref h_script_hand, .ref h_script_low, .ref h_script_high, .ref h_script_value], kI cB h_bytes 700 f_h_bytes, kI cI h_script_names 5 g53_h_script_names, kI cI h_script_kind 24 g53_h_script_kind, kI cI h_script_hand 24 g53_h_script_hand, kI cI h_script_low 24 g53_h_script_low, kI cI h_script_high 24 g53_h_script_high, kI cI h_script_value 24 g53_h_script_value] H → va_S A s.heap H locs → lv_has ls 3 [(2, .int x53_l_2), (0, .ref h)] → W p l e ({ frames := 5, cells := 0, slots := 0, locals := 110 }) s m ([.ref h] : List Value).toArray below meth c H locs 0 0 QQ (F0 m 53 ls []) := by
    intro x53_l_2 x53_f_h_script_told_0 g53_h_script_told_bits g53_h_script_told_gaps g53_h_script_told_value g53_h_script_told_cutter g53_h_script_told_putter g53_h_script_told_sharers g53_h_script_told_wholes x53_f_h_0 x53_f_h_1 x53_f_h_4 x53_f_h_5 x53_f_h_6 x53_f_h_7 x53_f_h_script_1 x53_f_h_script_2 g53_h_script_names g53_h_script_kind g53_h_script_hand g53_h_script_low g53_h_script_high g53_h_script_value H locs ls bx53_l_2 bx53_f_h_script_told_0 bx53_f_h_4 bx53_f_h_script_1 bx53_f_h_script_2 kg53_h_script_hand hPD hS hl
    obtain ⟨hP, hD⟩ := hPD
    refine lv_iload_n hx hb dX5_readLine_53 rfl (lv_at hl 0 rfl) ?_
    refine lv_if_ne (tgt := 59) hx hb dX5_readLine_54 (by decide) (fun c_1 => ?_) (fun c_1 => ?_)
    · have b_2 : kr 1 1 x53_l_2 := kr_ne_lo bx53_l_2 c_1 rfl
      refine lv_aload_n hx hb dX5_readLine_59 rfl (lv_at hl 1 rfl) ?_
      refine kk_cv (wr := [kO h_script_told 6 [.int x53_f_h_script_told_0, .ref h_script_told_bits, .ref h_script_told_value, .ref h_script_told_cutter, .ref h_script_told_putter, .ref h_script_told_gaps, .ref h_script_told_sharers, .ref h_script_told_wholes], kI cI h_script_told_bits 24 g53_h_script_told_bits, kI cI h_script_told_gaps 25 g53_h_script_told_gaps, kI cI h_script_told_value 24 g53_h_script_told_value, kI cI h_script_told_cutter 24 g53_h_script_told_cutter, kI cI h_script_told_putter 24 g53_h_script_told_putter, kI cI h_script_told_sharers 24 g53_h_script_told_sharers, kI cI h_script_told_wholes 24 g53_h_script_told_wholes, kO h_script 5 [.int n_h_script_lines, .int x53_f_h_script_1, .int x53_f_h_script_2, .ref h_script_told, .ref h_script_names, .ref h_script_kind, .ref h_script_hand, .ref h_script_low, .ref h_script_high, .ref h_script_value], kI cI h_script_names 5 g53_h_script_names, kI cI h_script_kind 24 g53_h_script_kind, kI cI h_script_hand 24 g53_h_script_hand, kI cI h_script_low 24 g53_h_script_low, kI cI h_script_high 24 g53_h_script_high, kI cI h_script_value 24 g53_h_script_value]) (kk_runV (w1 := [kO h 4 [.int x53_f_h_0, .int x53_f_h_1, .ref h_bytes, .int n_h_length, .int x53_f_h_4, .int x53_f_h_5, .int x53_f_h_6, .int x53_f_h_7, .ref h_script], kI cB h_bytes 700 f_h_bytes]) (As := []) (rest := []) hx hb hml hown hts hE (c_X5_step l D cB cI cJ cD h h_bytes h_script x53_f_h_0 x53_f_h_1 n_h_length x53_f_h_4 x53_f_h_5 x53_f_h_6 x53_f_h_7 f_h_bytes H.size b_h_length bx53_f_h_4) m_X5_step w_534 ⟨rfl, rfl, Nat.le_of_ble_eq_true rfl, Nat.le_of_ble_eq_true rfl⟩ (hP.sub [8, 10] rfl) (hD.sub [8, 10] (by decide +kernel) rfl) 0 4 rfl rfl rfl hl.1 (Nat.le_of_ble_eq_true rfl) dX5_readLine_60 ⟨Nat.le_of_ble_eq_true rfl, Nat.le_of_ble_eq_true rfl⟩) hP hD hS hA [8, 10] [0, 1, 2, 3, 4, 5, 6, 7, 9, 11, 12, 13, 14, 15, 16] rfl rfl (by decide +kernel) (by decide +kernel) (fun u_3 H locs p_3 hP hD hS => ?_)
      obtain ⟨hP, hD⟩ : kPD D A [kO h_script_told 6 [.int x53_f_h_script_told_0, .ref h_script_told_bits, .ref h_script_told_value, .ref h_script_told_cutter, .ref h_script_told_putter, .ref h_script_told_gaps, .ref h_script_told_sharers, .ref h_script_told_wholes], kI cI h_script_told_bits 24 g53_h_script_told_bits, kI cI h_script_told_gaps 25 g53_h_script_told_gaps, kI cI h_script_told_value 24 g53_h_script_told_value, kI cI h_script_told_cutter 24 g53_h_script_told_cutter, kI cI h_script_told_putter 24 g53_h_script_told_putter, kI cI h_script_told_sharers 24 g53_h_script_told_sharers, kI cI h_script_told_wholes 24 g53_h_script_told_wholes, kO h_script 5 [.int n_h_script_lines, .int x53_f_h_script_1, .int x53_f_h_script_2, .ref h_script_told, .ref h_script_names, .ref h_script_kind, .ref h_script_hand, .ref h_script_low, .ref h_script_high, .ref h_script_value], kI cI h_script_names 5 g53_h_script_names, kI cI h_script_kind 24 g53_h_script_kind, kI cI h_script_hand 24 g53_h_script_hand, kI cI h_script_low 24 g53_h_script_low, kI cI h_script_high 24 g53_h_script_high, kI cI h_script_value 24 g53_h_script_value, kO h 4 [.int x53_f_h_0, .int x53_f_h_1, .ref h_bytes, .int n_h_length, .int (u_3.2.2.2 0), .int (u_3.2.2.2 1), .int (u_3.2.2.2 2), .int (u_3.2.2.2 3), .ref h_script], kI cB h_bytes 700 f_h_bytes] H := ⟨hP, hD⟩
      refine lv_aload_n hx hb dX5_readLine_63 rfl (lv_at hl 1 rfl) ?_
      refine va_get (D := D) (ci := 4) (v := .int (u_3.2.2.2 1)) (C := RX5) (T := TX5) (N := 9) hx hb hts u_X5 hown hE.1 hP 15 rfl rfl 5 (by decide) (hts _ w_263) (fun _ h9 => h9) rfl dX5_readLine_64 ?_
      refine lv_iconst (v := 3) hx hb dX5_readLine_67 (by decide) ?_
      refine lv_icmp_eq (tgt := 83) hx hb dX5_readLine_68 (by decide) (fun c_4 => ?_) (fun c_4 => ?_)
      · have b_5 : kr 3 3 (u_3.2.2.2 1) := kr_eq_l p_3.2.1 (kr_c 3 3 rfl) c_4 rfl
        refine lv_iconst (v := 1) hx hb dX5_readLine_83 (by decide) ?_
        refine lv_goto (tgt := 88) hx hb dX5_readLine_84 (by decide) ?_
        subst hQQ
        exact kk_ret_z ((fun _ => 0), (fun i => [g53_h_script_names, g53_h_script_kind, g53_h_script_hand, g53_h_script_low, g53_h_script_high, g53_h_script_value, g53_h_script_told_bits, g53_h_script_told_gaps, g53_h_script_told_value, g53_h_script_told_cutter, g53_h_script_told_putter, g53_h_script_told_sharers, g53_h_script_told_wholes].getD i (fun _ => 0)), (fun i => [].getD i (fun _ => 0)), (fun i => [x53_f_h_0, x53_f_h_1, (u_3.2.2.2 0), (u_3.2.2.2 1), (u_3.2.2.2 2), (u_3.2.2.2 3), x53_f_h_script_1, x53_f_h_script_2, x53_f_h_script_told_0].getD i 0)) hx hb hr hlocks (by decide) ⟨(kr_w (kr_c 1 1 rfl) rfl), p_3.1, bx53_f_h_script_1, bx53_f_h_script_2, kg53_h_script_hand, bx53_f_h_script_told_0⟩ (hP.sub [15, 8, 16, 9, 10, 11, 12, 13, 14, 0, 1, 2, 3, 4, 5, 6, 7] rfl) (hD.sub [15, 8, 16, 9, 10, 11, 12, 13, 14, 0, 1, 2, 3, 4, 5, 6, 7] (by decide +kernel) rfl) hS dX5_readLine_88 (Nat.le_of_ble_eq_true rfl) (Nat.le_of_ble_eq_true rfl)
      · refine lv_aload_n hx hb dX5_readLine_71 rfl (lv_at hl 1 rfl) ?_
        refine lv_iconst (v := 1) hx hb dX5_readLine_72 (by decide) ?_
        refine lv_aload_n hx hb dX5_readLine_73 rfl (lv_at hl 1 rfl) ?_
        refine va_get (D := D) (ci := 4) (v := .int (u_3.2.2.2 2)) (C := RX5) (T := TX5) (N := 9) hx hb hts u_X5 hown hE.1 hP 15 rfl rfl 6 (by decide) (hts _ w_264) (fun _ h9 => h9) rfl dX5_readLine_74 ?_
        refine kk_ci (wr := [kO h_script_told 6 [.int x53_f_h_script_told_0, .ref h_script_told_bits, .ref h_script_told_value, .ref h_script_told_cutter, .ref h_script_told_putter, .ref h_script_told_gaps, .ref h_script_told_sharers, .ref h_script_told_wholes], kI cI h_script_told_bits 24 g53_h_script_told_bits, kI cI h_script_told_gaps 25 g53_h_script_told_gaps, kI cI h_script_told_value 24 g53_h_script_told_value, kI cI h_script_told_cutter 24 g53_h_script_told_cutter, kI cI h_script_told_putter 24 g53_h_script_told_putter, kI cI h_script_told_sharers 24 g53_h_script_told_sharers, kI cI h_script_told_wholes 24 g53_h_script_told_wholes, kO h_script 5 [.int n_h_script_lines, .int x53_f_h_script_1, .int x53_f_h_script_2, .ref h_script_told, .ref h_script_names, .ref h_script_kind, .ref h_script_hand, .ref h_script_low, .ref h_script_high, .ref h_script_value], kI cI h_script_names 5 g53_h_script_names, kI cI h_script_kind 24 g53_h_script_kind, kI cI h_script_hand 24 g53_h_script_hand, kI cI h_script_low 24 g53_h_script_low, kI cI h_script_high 24 g53_h_script_high, kI cI h_script_value 24 g53_h_script_value, kI cB h_bytes 700 f_h_bytes]) (kk_runV (w1 := [kO h 4 [.int x53_f_h_0, .int x53_f_h_1, .ref h_bytes, .int n_h_length, .int (u_3.2.2.2 0), .int (u_3.2.2.2 1), .int (u_3.2.2.2 2), .int (u_3.2.2.2 3), .ref h_script]]) (As := [.int 1, .int (u_3.2.2.2 2)]) (rest := []) hx hb hml hown hts hE (c_X5_wrongAt l D cB cI cJ cD h h_bytes h_script x53_f_h_0 x53_f_h_1 n_h_length (u_3.2.2.2 0) (u_3.2.2.2 1) (u_3.2.2.2 2) (u_3.2.2.2 3) 1 (u_3.2.2.2 2) H.size b_h_length p_3.1) m_X5_wrongAt w_558 ⟨rfl, rfl, Nat.le_of_ble_eq_true rfl, Nat.le_of_ble_eq_true rfl⟩ (hP.sub [15] rfl) (hD.sub [15] (by decide +kernel) rfl) 0 4 rfl rfl rfl hl.1 (Nat.le_of_ble_eq_true rfl) dX5_readLine_77 ⟨Nat.le_of_ble_eq_true rfl, Nat.le_of_ble_eq_true rfl⟩) hP hD hS hA [15] [0, 1, 2, 3, 4, 5, 6, 7, 8, 9, 10, 11, 12, 13, 14, 16] rfl rfl (by decide +kernel) (by decide +kernel) (fun r_7 u_6 H locs p_6 hP hD hS => ?_)
        obtain ⟨hP, hD⟩ : kPD D A [kO h_script_told 6 [.int x53_f_h_script_told_0, .ref h_script_told_bits, .ref h_script_told_value, .ref h_script_told_cutter, .ref h_script_told_putter, .ref h_script_told_gaps, .ref h_script_told_sharers, .ref h_script_told_wholes], kI cI h_script_told_bits 24 g53_h_script_told_bits, kI cI h_script_told_gaps 25 g53_h_script_told_gaps, kI cI h_script_told_value 24 g53_h_script_told_value, kI cI h_script_told_cutter 24 g53_h_script_told_cutter, kI cI h_script_told_putter 24 g53_h_script_told_putter, kI cI h_script_told_sharers 24 g53_h_script_told_sharers, kI cI h_script_told_wholes 24 g53_h_script_told_wholes, kO h_script 5 [.int n_h_script_lines, .int x53_f_h_script_1, .int x53_f_h_script_2, .ref h_script_told, .ref h_script_names, .ref h_script_kind, .ref h_script_hand, .ref h_script_low, .ref h_script_high, .ref h_script_value], kI cI h_script_names 5 g53_h_script_names, kI cI h_script_kind 24 g53_h_script_kind, kI cI h_script_hand 24 g53_h_script_hand, kI cI h_script_low 24 g53_h_script_low, kI cI h_script_high 24 g53_h_script_high, kI cI h_script_value 24 g53_h_script_value, kI cB h_bytes 700 f_h_bytes, kO h 4 [.int (u_6.2.2.2 0), .int (u_6.2.2.2 1), .ref h_bytes, .int n_h_length, .int (u_3.2.2.2 0), .int (u_3.2.2.2 1), .int (u_3.2.2.2 2), .int (u_3.2.2.2 3), .ref h_script]] H := ⟨hP, hD⟩
        obtain rfl : r_7 = 0 := kr_one p_6 rfl
        refine lv_if_eq (tgt := 87) hx hb dX5_readLine_80 (by decide) (fun c_8 => ?_) (fun c_8 => absurd c_8 (by decide))
        refine lv_iconst (v := 0) hx hb dX5_readLine_87 (by decide) ?_
        subst hQQ
        exact kk_ret_z ((fun _ => 0), (fun i => [g53_h_script_names, g53_h_script_kind, g53_h_script_hand, g53_h_script_low, g53_h_script_high, g53_h_script_value, g53_h_script_told_bits, g53_h_script_told_gaps, g53_h_script_told_value, g53_h_script_told_cutter, g53_h_script_told_putter, g53_h_script_told_sharers, g53_h_script_told_wholes].getD i (fun _ => 0)), (fun i => [].getD i (fun _ => 0)), (fun i => [(u_6.2.2.2 0), (u_6.2.2.2 1), (u_3.2.2.2 0), (u_3.2.2.2 1), (u_3.2.2.2 2), (u_3.2.2.2 3), x53_f_h_script_1, x53_f_h_script_2, x53_f_h_script_told_0].getD i 0)) hx hb hr hlocks (by decide) ⟨(kr_w (kr_c 0 0 rfl) rfl), p_3.1, bx53_f_h_script_1, bx53_f_h_script_2, kg53_h_script_hand, bx53_f_h_script_told_0⟩ (hP.sub [16, 8, 15, 9, 10, 11, 12, 13, 14, 0, 1, 2, 3, 4, 5, 6, 7] rfl) (hD.sub [16, 8, 15, 9, 10, 11, 12, 13, 14, 0, 1, 2, 3, 4, 5, 6, 7] (by decide +kernel) rfl) hS dX5_readLine_88 (Nat.le_of_ble_eq_true rfl) (Nat.le_of_ble_eq_true rfl)
    · have b_9 : kr 0 0 x53_l_2 := kr_eq_l bx53_l_2 (kr_c 0 0 rfl) c_1 rfl
      refine lv_iconst (v := 0) hx hb dX5_readLine_57 (by decide) ?_
      subst hQQ
      exact kk_ret_z ((fun _ => 0), (fun i => [g53_h_script_names, g53_h_script_kind, g53_h_script_hand, g53_h_script_low, g53_h_script_high, g53_h_script_value, g53_h_script_told_bits, g53_h_script_told_gaps, g53_h_script_told_value, g53_h_script_told_cutter, g53_h_script_told_putter, g53_h_script_told_sharers, g53_h_script_told_wholes].getD i (fun _ => 0)), (fun i => [].getD i (fun _ => 0)), (fun i => [x53_f_h_0, x53_f_h_1, x53_f_h_4, x53_f_h_5, x53_f_h_6, x53_f_h_7, x53_f_h_script_1, x53_f_h_script_2, x53_f_h_script_told_0].getD i 0)) hx hb hr hlocks (by decide) ⟨(kr_w (kr_c 0 0 rfl) rfl), bx53_f_h_4, bx53_f_h_script_1, bx53_f_h_script_2, kg53_h_script_hand, bx53_f_h_script_told_0⟩ (hP.sub [8, 9, 10, 11, 12, 13, 14, 15, 16, 0, 1, 2, 3, 4, 5, 6, 7] rfl) (hD.sub [8, 9, 10, 11, 12, 13, 14, 15, 16, 0, 1, 2, 3, 4, 5, 6, 7] (by decide +kernel) rfl) hS dX5_readLine_58 (Nat.le_of_ble_eq_true rfl) (Nat.le_of_ble_eq_true rfl)
  refine lv_aload_n hx hb dX5_readLine_0 rfl (lv_at hl 0 rfl) ?_
  refine kk_pi (kw_runV (w1 := [kO h 4 [.int n_h_faultCode, .int n_h_faultPlace, .ref h_bytes, .int n_h_length, .int n_h_at, .int n_h_token, .int n_h_tokenPlace, .int n_h_tokenWorth, .ref h_script]]) (As := []) (rest := []) hw hAz hS hx hb hml hown hts hE (c_X5_wordNumber l D cB cI cJ cD h h_bytes h_script n_h_faultCode n_h_faultPlace n_h_length n_h_at n_h_token n_h_tokenPlace n_h_tokenWorth z0 wa fw s.heap.size b_h_length b_h_at) m_X5_wordNumber w_552 ⟨rfl, rfl, Nat.le_of_ble_eq_true rfl, Nat.le_of_ble_eq_true rfl⟩ (hP.sub [0] rfl) (hD.sub [0] (by decide +kernel) rfl) 0 4 rfl rfl rfl hl.1 (Nat.le_of_ble_eq_true rfl) dX5_readLine_1 ⟨Nat.le_of_ble_eq_true rfl, Nat.le_of_ble_eq_true rfl⟩) (fun r_10 p_10 => ?_)
  have b_10 : kr (-1) 10 r_10 := p_10
  refine lv_istore_n (lv' := [(1, .int r_10), (0, .ref h)]) hx hb dX5_readLine_4 rfl hl (by decide) rfl (fun ls hl => ?_)
  refine lv_iload_n hx hb dX5_readLine_5 rfl (lv_at hl 0 rfl) ?_
  refine lv_iconst (v := (-1)) hx hb dX5_readLine_6 (by decide) ?_
  refine lv_icmp_ne (tgt := 20) hx hb dX5_readLine_7 (by decide) (fun c_11 => ?_) (fun c_11 => ?_)
  · have b_12 : kr 0 10 r_10 := kr_ne_lo b_10 c_11 rfl
    refine lv_iload_n hx hb dX5_readLine_20 rfl (lv_at hl 0 rfl) ?_
    refine lv_if_ne (tgt := 32) hx hb dX5_readLine_21 (by decide) (fun c_13 => ?_) (fun c_13 => ?_)
    · have b_14 : kr 1 10 r_10 := kr_ne_lo b_12 c_13 rfl
      refine lv_iload_n hx hb dX5_readLine_32 rfl (lv_at hl 0 rfl) ?_
      refine lv_iconst (v := 1) hx hb dX5_readLine_33 (by decide) ?_
      refine lv_icmp_ne (tgt := 45) hx hb dX5_readLine_34 (by decide) (fun c_15 => ?_) (fun c_15 => ?_)
      · have b_16 : kr 2 10 r_10 := kr_ne_lo b_14 c_15 rfl
        refine lv_aload_n hx hb dX5_readLine_45 rfl (lv_at hl 1 rfl) ?_
        refine lv_iload_n hx hb dX5_readLine_46 rfl (lv_at hl 0 rfl) ?_
        refine lv_iconst (v := 2) hx hb dX5_readLine_47 (by decide) ?_
        refine lv_isub hx hb dX5_readLine_48 ?_
        refine lv_topi (fun v_17 e_17 => ?_)
        have t_17 : v_17.toInt = r_10.toInt - 2 := kt_sub e_17 b_16 (kr_c 2 2 rfl) rfl
        have b_17 : kr 0 8 v_17 := kr_sub (x := r_10) (y := 2) t_17 b_16 (kr_c 2 2 rfl) rfl
        refine kk_ci (wr := [kO h_script_told 6 [.int n_h_script_told_size, .ref h_script_told_bits, .ref h_script_told_value, .ref h_script_told_cutter, .ref h_script_told_putter, .ref h_script_told_gaps, .ref h_script_told_sharers, .ref h_script_told_wholes], kI cI h_script_told_bits 24 f_h_script_told_bits, kI cI h_script_told_gaps 25 f_h_script_told_gaps, kI cI h_script_told_value 24 f_h_script_told_value, kI cI h_script_told_cutter 24 f_h_script_told_cutter, kI cI h_script_told_putter 24 f_h_script_told_putter, kI cI h_script_told_sharers 24 f_h_script_told_sharers, kI cI h_script_told_wholes 24 f_h_script_told_wholes]) (kw_runV (w1 := [kO h 4 [.int n_h_faultCode, .int n_h_faultPlace, .ref h_bytes, .int n_h_length, .int n_h_at, .int n_h_token, .int n_h_tokenPlace, .int n_h_tokenWorth, .ref h_script], kO h_script 5 [.int n_h_script_lines, .int n_h_script_hands, .int n_h_script_steps, .ref h_script_told, .ref h_script_names, .ref h_script_kind, .ref h_script_hand, .ref h_script_low, .ref h_script_high, .ref h_script_value], kI cB h_bytes 700 f_h_bytes, kI cI h_script_names 5 f_h_script_names, kI cI h_script_kind 24 f_h_script_kind, kI cI h_script_hand 24 f_h_script_hand, kI cI h_script_low 24 f_h_script_low, kI cI h_script_high 24 f_h_script_high, kI cI h_script_value 24 f_h_script_value]) (As := [.int v_17]) (rest := []) hw hAz hS hx hb hml hown hts hE (c_X5_readStep l D cB cI cJ cD h h_script h_bytes h_script_names h_script_kind h_script_hand h_script_low h_script_high h_script_value h_script_told n_h_faultCode n_h_faultPlace n_h_length n_h_at n_h_token n_h_tokenPlace n_h_tokenWorth n_h_script_lines n_h_script_hands n_h_script_steps f_h_bytes f_h_script_names f_h_script_kind f_h_script_hand f_h_script_low f_h_script_high f_h_script_value v_17 z0 wa fw s.heap.size b_h_length b_h_at b_h_script_hands b_h_script_steps kf_h_script_hand) m_X5_readStep w_621 ⟨rfl, rfl, Nat.le_of_ble_eq_true rfl, Nat.le_of_ble_eq_true rfl⟩ (hP.sub [0, 1, 2, 3, 4, 5, 6, 7, 8] rfl) (hD.sub [0, 1, 2, 3, 4, 5, 6, 7, 8] (by decide +kernel) rfl) 0 4 rfl rfl rfl hl.1 (Nat.le_of_ble_eq_true rfl) dX5_readLine_49 ⟨Nat.le_of_ble_eq_true rfl, Nat.le_of_ble_eq_true rfl⟩) hP hD hS hA [0, 1, 2, 3, 4, 5, 6, 7, 8] [9, 10, 11, 12, 13, 14, 15, 16] rfl rfl (by decide +kernel) (by decide +kernel) (fun r_19 u_18 H locs p_18 hP hD hS => ?_)
        obtain ⟨hP, hD⟩ : kPD D A [kO h_script_told 6 [.int n_h_script_told_size, .ref h_script_told_bits, .ref h_script_told_value, .ref h_script_told_cutter, .ref h_script_told_putter, .ref h_script_told_gaps, .ref h_script_told_sharers, .ref h_script_told_wholes], kI cI h_script_told_bits 24 f_h_script_told_bits, kI cI h_script_told_gaps 25 f_h_script_told_gaps, kI cI h_script_told_value 24 f_h_script_told_value, kI cI h_script_told_cutter 24 f_h_script_told_cutter, kI cI h_script_told_putter 24 f_h_script_told_putter, kI cI h_script_told_sharers 24 f_h_script_told_sharers, kI cI h_script_told_wholes 24 f_h_script_told_wholes, kO h 4 [.int (u_18.2.2.2 0), .int (u_18.2.2.2 1), .ref h_bytes, .int n_h_length, .int (u_18.2.2.2 2), .int (u_18.2.2.2 3), .int (u_18.2.2.2 4), .int (u_18.2.2.2 5), .ref h_script], kO h_script 5 [.int n_h_script_lines, .int n_h_script_hands, .int (u_18.2.2.2 6), .ref h_script_told, .ref h_script_names, .ref h_script_kind, .ref h_script_hand, .ref h_script_low, .ref h_script_high, .ref h_script_value], kI cB h_bytes 700 f_h_bytes, kI cI h_script_names 5 f_h_script_names, kI cI h_script_kind 24 (u_18.2.1 0), kI cI h_script_hand 24 (u_18.2.1 1), kI cI h_script_low 24 (u_18.2.1 2), kI cI h_script_high 24 (u_18.2.1 3), kI cI h_script_value 24 (u_18.2.1 4)] H := ⟨hP, hD⟩
        have b_19 : kr 0 1 r_19 := p_18.1
        refine lv_istore_n (lv' := [(2, .int r_19), (1, .int r_10), (0, .ref h)]) hx hb dX5_readLine_52 rfl hl (by decide) rfl (fun ls hl => ?_)
        exact J_53 r_19 n_h_script_told_size f_h_script_told_bits f_h_script_told_gaps f_h_script_told_value f_h_script_told_cutter f_h_script_told_putter f_h_script_told_sharers f_h_script_told_wholes (u_18.2.2.2 0) (u_18.2.2.2 1) (u_18.2.2.2 2) (u_18.2.2.2 3) (u_18.2.2.2 4) (u_18.2.2.2 5) n_h_script_hands (u_18.2.2.2 6) f_h_script_names (u_18.2.1 0) (u_18.2.1 1) (u_18.2.1 2) (u_18.2.1 3) (u_18.2.1 4) _ _ _ b_19 b_h_script_told_size p_18.2.1 b_h_script_hands p_18.2.2.1 p_18.2.2.2 ⟨hP, hD⟩ hS (lv_sub hl [0, 2] rfl)
      · have b_20 : kr 1 1 r_10 := kr_eq_l b_14 (kr_c 1 1 rfl) c_15 rfl
        refine lv_aload_n hx hb dX5_readLine_37 rfl (lv_at hl 1 rfl) ?_
        refine kk_ci (wr := [kI cI h_script_names 5 f_h_script_names, kI cI h_script_kind 24 f_h_script_kind, kI cI h_script_hand 24 f_h_script_hand, kI cI h_script_low 24 f_h_script_low, kI cI h_script_high 24 f_h_script_high, kI cI h_script_value 24 f_h_script_value]) (kk_runV (w1 := [kO h 4 [.int n_h_faultCode, .int n_h_faultPlace, .ref h_bytes, .int n_h_length, .int n_h_at, .int n_h_token, .int n_h_tokenPlace, .int n_h_tokenWorth, .ref h_script], kO h_script 5 [.int n_h_script_lines, .int n_h_script_hands, .int n_h_script_steps, .ref h_script_told, .ref h_script_names, .ref h_script_kind, .ref h_script_hand, .ref h_script_low, .ref h_script_high, .ref h_script_value], kO h_script_told 6 [.int n_h_script_told_size, .ref h_script_told_bits, .ref h_script_told_value, .ref h_script_told_cutter, .ref h_script_told_putter, .ref h_script_told_gaps, .ref h_script_told_sharers, .ref h_script_told_wholes], kI cB h_bytes 700 f_h_bytes, kI cI h_script_told_bits 24 f_h_script_told_bits, kI cI h_script_told_gaps 25 f_h_script_told_gaps, kI cI h_script_told_value 24 f_h_script_told_value, kI cI h_script_told_cutter 24 f_h_script_told_cutter, kI cI h_script_told_putter 24 f_h_script_told_putter, kI cI h_script_told_sharers 24 f_h_script_told_sharers, kI cI h_script_told_wholes 24 f_h_script_told_wholes]) (As := []) (rest := []) hx hb hml hown hts hE (c_X5_readKey l D cB cI cJ cD h h_script h_script_told h_bytes h_script_told_bits h_script_told_gaps h_script_told_value h_script_told_cutter h_script_told_putter h_script_told_sharers h_script_told_wholes h_script_names h_script_kind h_script_hand h_script_low h_script_high h_script_value n_h_faultCode n_h_faultPlace n_h_length n_h_at n_h_token n_h_tokenPlace n_h_tokenWorth n_h_script_lines n_h_script_hands n_h_script_steps n_h_script_told_size f_h_bytes f_h_script_told_bits f_h_script_told_gaps f_h_script_told_value f_h_script_told_cutter f_h_script_told_putter f_h_script_told_sharers f_h_script_told_wholes s.heap.size b_h_length b_h_at b_h_script_hands b_h_script_steps b_h_script_told_size) m_X5_readKey w_578 ⟨rfl, rfl, Nat.le_of_ble_eq_true rfl, Nat.le_of_ble_eq_true rfl⟩ (hP.sub [0, 1, 9, 2, 10, 11, 12, 13, 14, 15, 16] rfl) (hD.sub [0, 1, 9, 2, 10, 11, 12, 13, 14, 15, 16] (by decide +kernel) rfl) 0 4 rfl rfl rfl hl.1 (Nat.le_of_ble_eq_true rfl) dX5_readLine_38 ⟨Nat.le_of_ble_eq_true rfl, Nat.le_of_ble_eq_true rfl⟩) hP hD hS hA [0, 1, 9, 2, 10, 11, 12, 13, 14, 15, 16] [3, 4, 5, 6, 7, 8] rfl rfl (by decide +kernel) (by decide +kernel) (fun r_22 u_21 H locs p_21 hP hD hS => ?_)
        obtain ⟨hP, hD⟩ : kPD D A [kI cI h_script_names 5 f_h_script_names, kI cI h_script_kind 24 f_h_script_kind, kI cI h_script_hand 24 f_h_script_hand, kI cI h_script_low 24 f_h_script_low, kI cI h_script_high 24 f_h_script_high, kI cI h_script_value 24 f_h_script_value, kO h 4 [.int (u_21.2.2.2 0), .int (u_21.2.2.2 1), .ref h_bytes, .int n_h_length, .int (u_21.2.2.2 2), .int (u_21.2.2.2 3), .int (u_21.2.2.2 4), .int (u_21.2.2.2 5), .ref h_script], kO h_script 5 [.int n_h_script_lines, .int n_h_script_hands, .int n_h_script_steps, .ref h_script_told, .ref h_script_names, .ref h_script_kind, .ref h_script_hand, .ref h_script_low, .ref h_script_high, .ref h_script_value], kO h_script_told 6 [.int (u_21.2.2.2 6), .ref h_script_told_bits, .ref h_script_told_value, .ref h_script_told_cutter, .ref h_script_told_putter, .ref h_script_told_gaps, .ref h_script_told_sharers, .ref h_script_told_wholes], kI cB h_bytes 700 f_h_bytes, kI cI h_script_told_bits 24 (u_21.2.1 0), kI cI h_script_told_gaps 25 (u_21.2.1 1), kI cI h_script_told_value 24 (u_21.2.1 2), kI cI h_script_told_cutter 24 (u_21.2.1 3), kI cI h_script_told_putter 24 (u_21.2.1 4), kI cI h_script_told_sharers 24 (u_21.2.1 5), kI cI h_script_told_wholes 24 (u_21.2.1 6)] H := ⟨hP, hD⟩
        have b_22 : kr 0 1 r_22 := p_21.1
        refine lv_istore_n (lv' := [(2, .int r_22), (1, .int r_10), (0, .ref h)]) hx hb dX5_readLine_41 rfl hl (by decide) rfl (fun ls hl => ?_)
        refine lv_goto (tgt := 53) hx hb dX5_readLine_42 (by decide) ?_
        exact J_53 r_22 (u_21.2.2.2 6) (u_21.2.1 0) (u_21.2.1 1) (u_21.2.1 2) (u_21.2.1 3) (u_21.2.1 4) (u_21.2.1 5) (u_21.2.1 6) (u_21.2.2.2 0) (u_21.2.2.2 1) (u_21.2.2.2 2) (u_21.2.2.2 3) (u_21.2.2.2 4) (u_21.2.2.2 5) n_h_script_hands n_h_script_steps f_h_script_names f_h_script_kind f_h_script_hand f_h_script_low f_h_script_high f_h_script_value _ _ _ b_22 p_21.2.2 p_21.2.1 b_h_script_hands b_h_script_steps kf_h_script_hand ⟨hP.sub [8, 10, 11, 12, 13, 14, 15, 16, 6, 7, 9, 0, 1, 2, 3, 4, 5] rfl, hD.sub [8, 10, 11, 12, 13, 14, 15, 16, 6, 7, 9, 0, 1, 2, 3, 4, 5] (by decide +kernel) rfl⟩ hS (lv_sub hl [0, 2] rfl)
    · have b_23 : kr 0 0 r_10 := kr_eq_l b_12 (kr_c 0 0 rfl) c_13 rfl
      refine lv_aload_n hx hb dX5_readLine_24 rfl (lv_at hl 1 rfl) ?_
      refine kk_ci (wr := [kI cI h_script_kind 24 f_h_script_kind, kI cI h_script_hand 24 f_h_script_hand, kI cI h_script_low 24 f_h_script_low, kI cI h_script_high 24 f_h_script_high, kI cI h_script_value 24 f_h_script_value, kO h_script_told 6 [.int n_h_script_told_size, .ref h_script_told_bits, .ref h_script_told_value, .ref h_script_told_cutter, .ref h_script_told_putter, .ref h_script_told_gaps, .ref h_script_told_sharers, .ref h_script_told_wholes], kI cI h_script_told_bits 24 f_h_script_told_bits, kI cI h_script_told_gaps 25 f_h_script_told_gaps, kI cI h_script_told_value 24 f_h_script_told_value, kI cI h_script_told_cutter 24 f_h_script_told_cutter, kI cI h_script_told_putter 24 f_h_script_told_putter, kI cI h_script_told_sharers 24 f_h_script_told_sharers, kI cI h_script_told_wholes 24 f_h_script_told_wholes]) (kw_runV (w1 := [kO h 4 [.int n_h_faultCode, .int n_h_faultPlace, .ref h_bytes, .int n_h_length, .int n_h_at, .int n_h_token, .int n_h_tokenPlace, .int n_h_tokenWorth, .ref h_script], kO h_script 5 [.int n_h_script_lines, .int n_h_script_hands, .int n_h_script_steps, .ref h_script_told, .ref h_script_names, .ref h_script_kind, .ref h_script_hand, .ref h_script_low, .ref h_script_high, .ref h_script_value], kI cB h_bytes 700 f_h_bytes, kI cI h_script_names 5 f_h_script_names]) (As := []) (rest := []) hw hAz hS hx hb hml hown hts hE (c_X5_readHand l D cB cI cJ cD h h_script h_bytes h_script_names h_script_told h_script_kind h_script_hand h_script_low h_script_high h_script_value n_h_faultCode n_h_faultPlace n_h_length n_h_at n_h_token n_h_tokenPlace n_h_tokenWorth n_h_script_lines n_h_script_hands n_h_script_steps f_h_bytes f_h_script_names z0 wa fw s.heap.size b_h_length b_h_at b_h_script_hands b_h_script_steps) m_X5_readHand w_562 ⟨rfl, rfl, Nat.le_of_ble_eq_true rfl, Nat.le_of_ble_eq_true rfl⟩ (hP.sub [0, 1, 2, 3] rfl) (hD.sub [0, 1, 2, 3] (by decide +kernel) rfl) 0 4 rfl rfl rfl hl.1 (Nat.le_of_ble_eq_true rfl) dX5_readLine_25 ⟨Nat.le_of_ble_eq_true rfl, Nat.le_of_ble_eq_true rfl⟩) hP hD hS hA [0, 1, 2, 3] [4, 5, 6, 7, 8, 9, 10, 11, 12, 13, 14, 15, 16] rfl rfl (by decide +kernel) (by decide +kernel) (fun r_25 u_24 H locs p_24 hP hD hS => ?_)
      obtain ⟨hP, hD⟩ : kPD D A [kI cI h_script_kind 24 f_h_script_kind, kI cI h_script_hand 24 f_h_script_hand, kI cI h_script_low 24 f_h_script_low, kI cI h_script_high 24 f_h_script_high, kI cI h_script_value 24 f_h_script_value, kO h_script_told 6 [.int n_h_script_told_size, .ref h_script_told_bits, .ref h_script_told_value, .ref h_script_told_cutter, .ref h_script_told_putter, .ref h_script_told_gaps, .ref h_script_told_sharers, .ref h_script_told_wholes], kI cI h_script_told_bits 24 f_h_script_told_bits, kI cI h_script_told_gaps 25 f_h_script_told_gaps, kI cI h_script_told_value 24 f_h_script_told_value, kI cI h_script_told_cutter 24 f_h_script_told_cutter, kI cI h_script_told_putter 24 f_h_script_told_putter, kI cI h_script_told_sharers 24 f_h_script_told_sharers, kI cI h_script_told_wholes 24 f_h_script_told_wholes, kO h 4 [.int (u_24.2.2.2 0), .int (u_24.2.2.2 1), .ref h_bytes, .int n_h_length, .int (u_24.2.2.2 2), .int (u_24.2.2.2 3), .int (u_24.2.2.2 4), .int (u_24.2.2.2 5), .ref h_script], kO h_script 5 [.int n_h_script_lines, .int (u_24.2.2.2 6), .int n_h_script_steps, .ref h_script_told, .ref h_script_names, .ref h_script_kind, .ref h_script_hand, .ref h_script_low, .ref h_script_high, .ref h_script_value], kI cB h_bytes 700 f_h_bytes, kI cI h_script_names 5 (u_24.2.1 0)] H := ⟨hP, hD⟩
      have b_25 : kr 0 1 r_25 := p_24.1
      refine lv_istore_n (lv' := [(2, .int r_25), (1, .int r_10), (0, .ref h)]) hx hb dX5_readLine_28 rfl hl (by decide) rfl (fun ls hl => ?_)
      refine lv_goto (tgt := 53) hx hb dX5_readLine_29 (by decide) ?_
      exact J_53 r_25 n_h_script_told_size f_h_script_told_bits f_h_script_told_gaps f_h_script_told_value f_h_script_told_cutter f_h_script_told_putter f_h_script_told_sharers f_h_script_told_wholes (u_24.2.2.2 0) (u_24.2.2.2 1) (u_24.2.2.2 2) (u_24.2.2.2 3) (u_24.2.2.2 4) (u_24.2.2.2 5) (u_24.2.2.2 6) n_h_script_steps (u_24.2.1 0) f_h_script_kind f_h_script_hand f_h_script_low f_h_script_high f_h_script_value _ _ _ b_25 b_h_script_told_size p_24.2.1 p_24.2.2 b_h_script_steps kf_h_script_hand ⟨hP.sub [5, 6, 7, 8, 9, 10, 11, 12, 13, 14, 15, 16, 0, 1, 2, 3, 4] rfl, hD.sub [5, 6, 7, 8, 9, 10, 11, 12, 13, 14, 15, 16, 0, 1, 2, 3, 4] (by decide +kernel) rfl⟩ hS (lv_sub hl [0, 2] rfl)
  · have b_26 : kr (-1) (-1) r_10 := kr_eq_l b_10 (kr_c (-1) (-1) rfl) c_11 rfl
    refine lv_aload_n hx hb dX5_readLine_10 rfl (lv_at hl 1 rfl) ?_
    refine lv_iconst (v := 1) hx hb dX5_readLine_11 (by decide) ?_
    refine lv_aload_n hx hb dX5_readLine_12 rfl (lv_at hl 1 rfl) ?_
    refine va_get (D := D) (ci := 4) (v := .int n_h_tokenPlace) (C := RX5) (T := TX5) (N := 9) hx hb hts u_X5 hown hE.1 hP 0 rfl rfl 6 (by decide) (hts _ w_264) (fun _ h9 => h9) rfl dX5_readLine_13 ?_
    refine kk_ci (wr := [kO h_script 5 [.int n_h_script_lines, .int n_h_script_hands, .int n_h_script_steps, .ref h_script_told, .ref h_script_names, .ref h_script_kind, .ref h_script_hand, .ref h_script_low, .ref h_script_high, .ref h_script_value], kI cB h_bytes 700 f_h_bytes, kI cI h_script_names 5 f_h_script_names, kI cI h_script_kind 24 f_h_script_kind, kI cI h_script_hand 24 f_h_script_hand, kI cI h_script_low 24 f_h_script_low, kI cI h_script_high 24 f_h_script_high, kI cI h_script_value 24 f_h_script_value, kO h_script_told 6 [.int n_h_script_told_size, .ref h_script_told_bits, .ref h_script_told_value, .ref h_script_told_cutter, .ref h_script_told_putter, .ref h_script_told_gaps, .ref h_script_told_sharers, .ref h_script_told_wholes], kI cI h_script_told_bits 24 f_h_script_told_bits, kI cI h_script_told_gaps 25 f_h_script_told_gaps, kI cI h_script_told_value 24 f_h_script_told_value, kI cI h_script_told_cutter 24 f_h_script_told_cutter, kI cI h_script_told_putter 24 f_h_script_told_putter, kI cI h_script_told_sharers 24 f_h_script_told_sharers, kI cI h_script_told_wholes 24 f_h_script_told_wholes]) (kk_runV (w1 := [kO h 4 [.int n_h_faultCode, .int n_h_faultPlace, .ref h_bytes, .int n_h_length, .int n_h_at, .int n_h_token, .int n_h_tokenPlace, .int n_h_tokenWorth, .ref h_script]]) (As := [.int 1, .int n_h_tokenPlace]) (rest := []) hx hb hml hown hts hE (c_X5_wrongAt l D cB cI cJ cD h h_bytes h_script n_h_faultCode n_h_faultPlace n_h_length n_h_at n_h_token n_h_tokenPlace n_h_tokenWorth 1 n_h_tokenPlace s.heap.size b_h_length b_h_at) m_X5_wrongAt w_558 ⟨rfl, rfl, Nat.le_of_ble_eq_true rfl, Nat.le_of_ble_eq_true rfl⟩ (hP.sub [0] rfl) (hD.sub [0] (by decide +kernel) rfl) 0 4 rfl rfl rfl hl.1 (Nat.le_of_ble_eq_true rfl) dX5_readLine_16 ⟨Nat.le_of_ble_eq_true rfl, Nat.le_of_ble_eq_true rfl⟩) hP hD hS hA [0] [1, 2, 3, 4, 5, 6, 7, 8, 9, 10, 11, 12, 13, 14, 15, 16] rfl rfl (by decide +kernel) (by decide +kernel) (fun r_28 u_27 H locs p_27 hP hD hS => ?_)
    obtain ⟨hP, hD⟩ : kPD D A [kO h_script 5 [.int n_h_script_lines, .int n_h_script_hands, .int n_h_script_steps, .ref h_script_told, .ref h_script_names, .ref h_script_kind, .ref h_script_hand, .ref h_script_low, .ref h_script_high, .ref h_script_value], kI cB h_bytes 700 f_h_bytes, kI cI h_script_names 5 f_h_script_names, kI cI h_script_kind 24 f_h_script_kind, kI cI h_script_hand 24 f_h_script_hand, kI cI h_script_low 24 f_h_script_low, kI cI h_script_high 24 f_h_script_high, kI cI h_script_value 24 f_h_script_value, kO h_script_told 6 [.int n_h_script_told_size, .ref h_script_told_bits, .ref h_script_told_value, .ref h_script_told_cutter, .ref h_script_told_putter, .ref h_script_told_gaps, .ref h_script_told_sharers, .ref h_script_told_wholes], kI cI h_script_told_bits 24 f_h_script_told_bits, kI cI h_script_told_gaps 25 f_h_script_told_gaps, kI cI h_script_told_value 24 f_h_script_told_value, kI cI h_script_told_cutter 24 f_h_script_told_cutter, kI cI h_script_told_putter 24 f_h_script_told_putter, kI cI h_script_told_sharers 24 f_h_script_told_sharers, kI cI h_script_told_wholes 24 f_h_script_told_wholes, kO h 4 [.int (u_27.2.2.2 0), .int (u_27.2.2.2 1), .ref h_bytes, .int n_h_length, .int n_h_at, .int n_h_token, .int n_h_tokenPlace, .int n_h_tokenWorth, .ref h_script]] H := ⟨hP, hD⟩
    obtain rfl : r_28 = 0 := kr_one p_27 rfl
    subst hQQ
    exact kk_ret_z ((fun _ => 0), (fun i => [f_h_script_names, f_h_script_kind, f_h_script_hand, f_h_script_low, f_h_script_high, f_h_script_value, f_h_script_told_bits, f_h_script_told_gaps, f_h_script_told_value, f_h_script_told_cutter, f_h_script_told_putter, f_h_script_told_sharers, f_h_script_told_wholes].getD i (fun _ => 0)), (fun i => [].getD i (fun _ => 0)), (fun i => [(u_27.2.2.2 0), (u_27.2.2.2 1), n_h_at, n_h_token, n_h_tokenPlace, n_h_tokenWorth, n_h_script_hands, n_h_script_steps, n_h_script_told_size].getD i 0)) hx hb hr hlocks (by decide) ⟨(kr_w (kr_c 0 0 rfl) rfl), b_h_at, b_h_script_hands, b_h_script_steps, kf_h_script_hand, b_h_script_told_size⟩ (hP.sub [16, 0, 1, 2, 3, 4, 5, 6, 7, 8, 9, 10, 11, 12, 13, 14, 15] rfl) (hD.sub [16, 0, 1, 2, 3, 4, 5, 6, 7, 8, 9, 10, 11, 12, 13, 14, 15] (by decide +kernel) rfl) hS dX5_readLine_19 (Nat.le_of_ble_eq_true rfl) (Nat.le_of_ble_eq_true rfl)
set_option maxHeartbeats 4000000 in
set_option maxRecDepth 100000 in
theorem c_X5_readAll (l : Launch) (D : va_G) (cB cI cJ cD : ClassId) (h : Nat) (k0 : Nat) (k1 : Nat) (k0_told : Nat) (k0_names : Nat) (k0_kind : Nat) (k0_hand : Nat) (k0_low : Nat) (k0_high : Nat) (k0_value : Nat) (k0_told_bits : Nat) (k0_told_gaps : Nat) (k0_told_value : Nat) (k0_told_cutter : Nat) (k0_told_putter : Nat) (k0_told_sharers : Nat) (k0_told_wholes : Nat) (n_h_faultCode : Int32) (n_h_faultPlace : Int32) (o_h_bytes : Value) (n_h_length : Int32) (n_h_at : Int32) (n_h_token : Int32) (n_h_tokenPlace : Int32) (n_h_tokenWorth : Int32) (o_h_script : Value) (n_k0_lines : Int32) (n_k0_hands : Int32) (n_k0_steps : Int32) (f_k1 : Nat → Int32) (n_k0_told_size : Int32) (f_k0_names : Nat → Int32) (f_k0_kind : Nat → Int32) (f_k0_hand : Nat → Int32) (f_k0_low : Nat → Int32) (f_k0_high : Nat → Int32) (f_k0_value : Nat → Int32) (f_k0_told_bits : Nat → Int32) (f_k0_told_gaps : Nat → Int32) (f_k0_told_value : Nat → Int32) (f_k0_told_cutter : Nat → Int32) (f_k0_told_putter : Nat → Int32) (f_k0_told_sharers : Nat → Int32) (f_k0_told_wholes : Nat → Int32) (p2 : Int32) (z0 wa : Nat) (fw : Nat → Int32) (sz : Nat) (b_h_length : kr 0 700 n_h_length) (b_h_at : kr 0 700 n_h_at) (b_k0_hands : kr 0 5 n_k0_hands) (b_k0_steps : kr 0 24 n_k0_steps) (kf_k1 : ka (-128) 127 f_k1) (b_k0_told_size : kr 0 24 n_k0_told_size) (kf_k0_hand : ka 0 4 f_k0_hand) (b_p2 : kr 0 700 p2) : Met l yX5_readAll (kk_W yX5_readAll cX5_readAll 5 (some .boolean)) ({ frames := 6, cells := 0, slots := 0, locals := 132 }) (va_Pc [.ref h, .ref k0, .ref k1, .int p2] (kw_pre D cB cI cJ cD [kO h 4 [.int n_h_faultCode, .int n_h_faultPlace, o_h_bytes, .int n_h_length, .int n_h_at, .int n_h_token, .int n_h_tokenPlace, .int n_h_tokenWorth, o_h_script], kO k0 5 [.int n_k0_lines, .int n_k0_hands, .int n_k0_steps, .ref k0_told, .ref k0_names, .ref k0_kind, .ref k0_hand, .ref k0_low, .ref k0_high, .ref k0_value], kI cB k1 700 f_k1, kO k0_told 6 [.int n_k0_told_size, .ref k0_told_bits, .ref k0_told_value, .ref k0_told_cutter, .ref k0_told_putter, .ref k0_told_gaps, .ref k0_told_sharers, .ref k0_told_wholes], kI cI k0_names 5 f_k0_names, kI cI k0_kind 24 f_k0_kind, kI cI k0_hand 24 f_k0_hand, kI cI k0_low 24 f_k0_low, kI cI k0_high 24 f_k0_high, kI cI k0_value 24 f_k0_value, kI cI k0_told_bits 24 f_k0_told_bits, kI cI k0_told_gaps 25 f_k0_told_gaps, kI cI k0_told_value 24 f_k0_told_value, kI cI k0_told_cutter 24 f_k0_told_cutter, kI cI k0_told_putter 24 f_k0_told_putter, kI cI k0_told_sharers 24 f_k0_told_sharers, kI cI k0_told_wholes 24 f_k0_told_wholes] sz z0 wa fw)) (kk_Qi D (fun (r : Int32) (u : (Nat → Nat) × (Nat → Nat → Int32) × (Nat → Nat → Int64) × (Nat → Int32)) => kr 0 1 r ∧ kr 0 700 (u.2.2.2 2) ∧ kr 0 700 (u.2.2.2 3) ∧ kr 0 5 (u.2.2.2 8) ∧ kr 0 24 (u.2.2.2 9) ∧ kr 0 24 (u.2.2.2 10) ∧ ka 0 4 (u.2.1 2)) (fun u => [kO h 4 [.int (u.2.2.2 0), .int (u.2.2.2 1), .ref k1, .int (u.2.2.2 2), .int (u.2.2.2 3), .int (u.2.2.2 4), .int (u.2.2.2 5), .int (u.2.2.2 6), .ref k0], kO k0 5 [.int (u.2.2.2 7), .int (u.2.2.2 8), .int (u.2.2.2 9), .ref k0_told, .ref k0_names, .ref k0_kind, .ref k0_hand, .ref k0_low, .ref k0_high, .ref k0_value], kI cB k1 700 f_k1, kO k0_told 6 [.int (u.2.2.2 10), .ref k0_told_bits, .ref k0_told_value, .ref k0_told_cutter, .ref k0_told_putter, .ref k0_told_gaps, .ref k0_told_sharers, .ref k0_told_wholes], kI cI k0_names 5 (u.2.1 0), kI cI k0_kind 24 (u.2.1 1), kI cI k0_hand 24 (u.2.1 2), kI cI k0_low 24 (u.2.1 3), kI cI k0_high 24 (u.2.1 4), kI cI k0_value 24 (u.2.1 5), kI cI k0_told_bits 24 (u.2.1 6), kI cI k0_told_gaps 25 (u.2.1 7), kI cI k0_told_value 24 (u.2.1 8), kI cI k0_told_cutter 24 (u.2.1 9), kI cI k0_told_putter 24 (u.2.1 10), kI cI k0_told_sharers 24 (u.2.1 11), kI cI k0_told_wholes 24 (u.2.1 12)]) (va_A [kO h 4 [.int n_h_faultCode, .int n_h_faultPlace, o_h_bytes, .int n_h_length, .int n_h_at, .int n_h_token, .int n_h_tokenPlace, .int n_h_tokenWorth, o_h_script], kO k0 5 [.int n_k0_lines, .int n_k0_hands, .int n_k0_steps, .ref k0_told, .ref k0_names, .ref k0_kind, .ref k0_hand, .ref k0_low, .ref k0_high, .ref k0_value], kI cB k1 700 f_k1, kO k0_told 6 [.int n_k0_told_size, .ref k0_told_bits, .ref k0_told_value, .ref k0_told_cutter, .ref k0_told_putter, .ref k0_told_gaps, .ref k0_told_sharers, .ref k0_told_wholes], kI cI k0_names 5 f_k0_names, kI cI k0_kind 24 f_k0_kind, kI cI k0_hand 24 f_k0_hand, kI cI k0_low 24 f_k0_low, kI cI k0_high 24 f_k0_high, kI cI k0_value 24 f_k0_value, kI cI k0_told_bits 24 f_k0_told_bits, kI cI k0_told_gaps 25 f_k0_told_gaps, kI cI k0_told_value 24 f_k0_told_value, kI cI k0_told_cutter 24 f_k0_told_cutter, kI cI k0_told_putter 24 f_k0_told_putter, kI cI k0_told_sharers 24 f_k0_told_sharers, kI cI k0_told_wholes 24 f_k0_told_wholes] sz)) 0 0 (va_A [kO h 4 [.int n_h_faultCode, .int n_h_faultPlace, o_h_bytes, .int n_h_length, .int n_h_at, .int n_h_token, .int n_h_tokenPlace, .int n_h_tokenWorth, o_h_script], kO k0 5 [.int n_k0_lines, .int n_k0_hands, .int n_k0_steps, .ref k0_told, .ref k0_names, .ref k0_kind, .ref k0_hand, .ref k0_low, .ref k0_high, .ref k0_value], kI cB k1 700 f_k1, kO k0_told 6 [.int n_k0_told_size, .ref k0_told_bits, .ref k0_told_value, .ref k0_told_cutter, .ref k0_told_putter, .ref k0_told_gaps, .ref k0_told_sharers, .ref k0_told_wholes], kI cI k0_names 5 f_k0_names, kI cI k0_kind 24 f_k0_kind, kI cI k0_hand 24 f_k0_hand, kI cI k0_low 24 f_k0_low, kI cI k0_high 24 f_k0_high, kI cI k0_value 24 f_k0_value, kI cI k0_told_bits 24 f_k0_told_bits, kI cI k0_told_gaps 25 f_k0_told_gaps, kI cI k0_told_value 24 f_k0_told_value, kI cI k0_told_cutter 24 f_k0_told_cutter, kI cI k0_told_putter 24 f_k0_told_putter, kI cI k0_told_sharers 24 f_k0_told_sharers, kI cI k0_told_wholes 24 f_k0_told_wholes] sz) := by
  refine kw_start (y := yX5_readAll) (maxL := 5) (av := [.ref h, .ref k0, .ref k1, .int p2]) (Qc := fun A => kk_Qi D (fun (r : Int32) (u : (Nat → Nat) × (Nat → Nat → Int32) × (Nat → Nat → Int64) × (Nat → Int32)) => kr 0 1 r ∧ kr 0 700 (u.2.2.2 2) ∧ kr 0 700 (u.2.2.2 3) ∧ kr 0 5 (u.2.2.2 8) ∧ kr 0 24 (u.2.2.2 9) ∧ kr 0 24 (u.2.2.2 10) ∧ ka 0 4 (u.2.1 2)) (fun u => [kO h 4 [.int (u.2.2.2 0), .int (u.2.2.2 1), .ref k1, .int (u.2.2.2 2), .int (u.2.2.2 3), .int (u.2.2.2 4), .int (u.2.2.2 5), .int (u.2.2.2 6), .ref k0], kO k0 5 [.int (u.2.2.2 7), .int (u.2.2.2 8), .int (u.2.2.2 9), .ref k0_told, .ref k0_names, .ref k0_kind, .ref k0_hand, .ref k0_low, .ref k0_high, .ref k0_value], kI cB k1 700 f_k1, kO k0_told 6 [.int (u.2.2.2 10), .ref k0_told_bits, .ref k0_told_value, .ref k0_told_cutter, .ref k0_told_putter, .ref k0_told_gaps, .ref k0_told_sharers, .ref k0_told_wholes], kI cI k0_names 5 (u.2.1 0), kI cI k0_kind 24 (u.2.1 1), kI cI k0_hand 24 (u.2.1 2), kI cI k0_low 24 (u.2.1 3), kI cI k0_high 24 (u.2.1 4), kI cI k0_value 24 (u.2.1 5), kI cI k0_told_bits 24 (u.2.1 6), kI cI k0_told_gaps 25 (u.2.1 7), kI cI k0_told_value 24 (u.2.1 8), kI cI k0_told_cutter 24 (u.2.1 9), kI cI k0_told_putter 24 (u.2.1 10), kI cI k0_told_sharers 24 (u.2.1 11), kI cI k0_told_wholes 24 (u.2.1 12)]) A) (by decide) (Nat.le_of_ble_eq_true rfl) ?_
  intro p e s m below meth c ls A hx hb hr hml hown hts hE hlocks hin hsz hP hD hA hS hl hw hAz
  have hown : s.vm.findClass RX5 = some m.cls := hown
  have hl : lv_has ls 5 [(0, .ref h), (1, .ref k0), (2, .ref k1), (3, .int p2)] := hl
  generalize hQQ : MQ below _ _ s _ _ _ = QQ
  have J_45 : ∀ (n : Nat) (x45_l_4 : Int32) (x45_f_h_0 : Int32) (x45_f_h_1 : Int32) (x45_f_h_3 : Int32) (x45_f_h_4 : Int32) (x45_f_h_5 : Int32) (x45_f_h_6 : Int32) (x45_f_h_7 : Int32) (g45_k0_names : Nat → Int32) (g45_k0_kind : Nat → Int32) (g45_k0_hand : Nat → Int32) (g45_k0_low : Nat → Int32) (g45_k0_high : Nat → Int32) (g45_k0_value : Nat → Int32) (g45_k0_told_bits : Nat → Int32) (g45_k0_told_gaps : Nat → Int32) (g45_k0_told_value : Nat → Int32) (g45_k0_told_cutter : Nat → Int32) (g45_k0_told_putter : Nat → Int32) (g45_k0_told_sharers : Nat → Int32) (g45_k0_told_wholes : Nat → Int32) (x45_f_k0_0 : Int32) (x45_f_k0_1 : Int32) (x45_f_k0_2 : Int32) (x45_f_k0_told_0 : Int32) (H : Heap) (locs : List Loc) (ls : Array Slot), (701 - x45_l_4.toInt).toNat < n → kr 0 701 x45_l_4 → kr 0 700 x45_f_h_3 → kr 0 700 x45_f_h_4 → ka 0 4 g45_k0_hand → kr 0 5 x45_f_k0_1 → kr 0 24 x45_f_k0_2 → kr 0 24 x45_f_k0_told_0 → kPD D A [kO h 4 [.int x45_f_h_0, .int x45_f_h_1, .ref k1, .int x45_f_h_3, .int x45_f_h_4, .int x45_f_h_5, .int x45_f_h_6, .int x45_f_h_7, .ref k0], kI cB k1 700 f_k1, kI cI k0_names 5 g45_k0_names, kI cI k0_kind 24 g45_k0_kind, kI cI k0_hand 24 g45_k0_hand, kI cI k0_low 24 g45_k0_low, kI cI k0_high 24 g45_k0_high, kI cI k0_value 24 g45_k0_value, kI cI k0_told_bits 24 g45_k0_told_bits, kI cI k0_told_gaps 25 g45_k0_told_gaps, kI cI k0_told_value 24 g45_k0_told_value, kI cI k0_told_cutter 24 g45_k0_told_cutter, kI cI k0_told_putter 24 g45_k0_told_putter, kI cI k0_told_sharers 24 g45_k0_told_sharers, kI cI k0_told_wholes 24 g45_k0_told_wholes, kO k0 5 [.int x45_f_k0_0, .int x45_f_k0_1, .int x45_f_k0_2, .ref k0_told, .ref k0_names, .ref k0_kind, .ref k0_hand, .ref k0_low, .ref k0_high, .ref k0_value], kO k0_told 6 [.int x45_f_k0_told_0, .ref k0_told_bits, .ref k0_told_value, .ref k0_told_cutter, .ref k0_told_putter, .ref k0_told_gaps, .ref k0_told_sharers, .ref k0_told_wholes]] H → va_S A s.heap H locs → lv_has ls 5 [(4, .int x45_l_4), (0, .ref h)] → W p l e ({ frames := 6, cells := 0, slots := 0, locals := 132 }) s m ([.ref h, .ref k0, .ref k1, .int p2] : List Value).toArray below meth c H locs 0 0 QQ (F0 m 45 ls []) := by
    intro n
    induction n with
    | zero =>
      intro x45_l_4 x45_f_h_0 x45_f_h_1 x45_f_h_3 x45_f_h_4 x45_f_h_5 x45_f_h_6 x45_f_h_7 g45_k0_names g45_k0_kind g45_k0_hand g45_k0_low g45_k0_high g45_k0_value g45_k0_told_bits g45_k0_told_gaps g45_k0_told_value g45_k0_told_cutter g45_k0_told_putter g45_k0_told_sharers g45_k0_told_wholes x45_f_k0_0 x45_f_k0_1 x45_f_k0_2 x45_f_k0_told_0 H locs ls hn_45 bx45_l_4 bx45_f_h_3 bx45_f_h_4 kg45_k0_hand bx45_f_k0_1 bx45_f_k0_2 bx45_f_k0_told_0 hPD hS hl
      exact absurd hn_45 (Nat.not_lt_zero _)
    | succ n ih_45 =>
      intro x45_l_4 x45_f_h_0 x45_f_h_1 x45_f_h_3 x45_f_h_4 x45_f_h_5 x45_f_h_6 x45_f_h_7 g45_k0_names g45_k0_kind g45_k0_hand g45_k0_low g45_k0_high g45_k0_value g45_k0_told_bits g45_k0_told_gaps g45_k0_told_value g45_k0_told_cutter g45_k0_told_putter g45_k0_told_sharers g45_k0_told_wholes x45_f_k0_0 x45_f_k0_1 x45_f_k0_2 x45_f_k0_told_0 H locs ls hn_45 bx45_l_4 bx45_f_h_3 bx45_f_h_4 kg45_k0_hand bx45_f_k0_1 bx45_f_k0_2 bx45_f_k0_told_0 hPD hS hl
      obtain ⟨hP, hD⟩ := hPD
      refine lv_iload hx hb dX5_readAll_45 (lv_at hl 0 rfl) ?_
      refine lv_aload_n hx hb dX5_readAll_47 rfl (lv_at hl 1 rfl) ?_
      refine va_get (D := D) (ci := 4) (v := .int x45_f_h_3) (C := RX5) (T := TX5) (N := 9) hx hb hts u_X5 hown hE.1 hP 0 rfl rfl 3 (by decide) (hts _ w_261) (fun _ h9 => h9) rfl dX5_readAll_48 ?_
      refine lv_icmp_gt (tgt := 95) hx hb dX5_readAll_51 (by decide) (fun c_1 => ?_) (fun c_1 => ?_)
      · have i_1 : x45_f_h_3.toInt < x45_l_4.toInt := (ki_lt c_1)
        have b_2 : kr 1 701 x45_l_4 := kr_lt_r bx45_f_h_3 bx45_l_4 i_1 rfl
        refine lv_iconst (v := 1) hx hb dX5_readAll_95 (by decide) ?_
        subst hQQ
        exact kk_ret_z ((fun _ => 0), (fun i => [g45_k0_names, g45_k0_kind, g45_k0_hand, g45_k0_low, g45_k0_high, g45_k0_value, g45_k0_told_bits, g45_k0_told_gaps, g45_k0_told_value, g45_k0_told_cutter, g45_k0_told_putter, g45_k0_told_sharers, g45_k0_told_wholes].getD i (fun _ => 0)), (fun i => [].getD i (fun _ => 0)), (fun i => [x45_f_h_0, x45_f_h_1, x45_f_h_3, x45_f_h_4, x45_f_h_5, x45_f_h_6, x45_f_h_7, x45_f_k0_0, x45_f_k0_1, x45_f_k0_2, x45_f_k0_told_0].getD i 0)) hx hb hr hlocks (by decide) ⟨(kr_w (kr_c 1 1 rfl) rfl), bx45_f_h_3, bx45_f_h_4, bx45_f_k0_1, bx45_f_k0_2, bx45_f_k0_told_0, kg45_k0_hand⟩ (hP.sub [0, 15, 1, 16, 2, 3, 4, 5, 6, 7, 8, 9, 10, 11, 12, 13, 14] rfl) (hD.sub [0, 15, 1, 16, 2, 3, 4, 5, 6, 7, 8, 9, 10, 11, 12, 13, 14] (by decide +kernel) rfl) hS dX5_readAll_96 (Nat.le_of_ble_eq_true rfl) (Nat.le_of_ble_eq_true rfl)
      · have i_1 : x45_l_4.toInt ≤ x45_f_h_3.toInt := (ki_nlt c_1)
        have b_3 : kr 0 700 x45_l_4 := kr_le_l bx45_l_4 bx45_f_h_3 i_1 rfl
        refine lv_aload_n hx hb dX5_readAll_54 rfl (lv_at hl 1 rfl) ?_
        refine kk_cv (wr := [kI cI k0_names 5 g45_k0_names, kI cI k0_kind 24 g45_k0_kind, kI cI k0_hand 24 g45_k0_hand, kI cI k0_low 24 g45_k0_low, kI cI k0_high 24 g45_k0_high, kI cI k0_value 24 g45_k0_value, kI cI k0_told_bits 24 g45_k0_told_bits, kI cI k0_told_gaps 25 g45_k0_told_gaps, kI cI k0_told_value 24 g45_k0_told_value, kI cI k0_told_cutter 24 g45_k0_told_cutter, kI cI k0_told_putter 24 g45_k0_told_putter, kI cI k0_told_sharers 24 g45_k0_told_sharers, kI cI k0_told_wholes 24 g45_k0_told_wholes, kO k0 5 [.int x45_f_k0_0, .int x45_f_k0_1, .int x45_f_k0_2, .ref k0_told, .ref k0_names, .ref k0_kind, .ref k0_hand, .ref k0_low, .ref k0_high, .ref k0_value], kO k0_told 6 [.int x45_f_k0_told_0, .ref k0_told_bits, .ref k0_told_value, .ref k0_told_cutter, .ref k0_told_putter, .ref k0_told_gaps, .ref k0_told_sharers, .ref k0_told_wholes]]) (kk_runV (w1 := [kO h 4 [.int x45_f_h_0, .int x45_f_h_1, .ref k1, .int x45_f_h_3, .int x45_f_h_4, .int x45_f_h_5, .int x45_f_h_6, .int x45_f_h_7, .ref k0], kI cB k1 700 f_k1]) (As := []) (rest := []) hx hb hml hown hts hE (c_X5_step l D cB cI cJ cD h k1 k0 x45_f_h_0 x45_f_h_1 x45_f_h_3 x45_f_h_4 x45_f_h_5 x45_f_h_6 x45_f_h_7 f_k1 H.size bx45_f_h_3 bx45_f_h_4) m_X5_step w_534 ⟨rfl, rfl, Nat.le_of_ble_eq_true rfl, Nat.le_of_ble_eq_true rfl⟩ (hP.sub [0, 1] rfl) (hD.sub [0, 1] (by decide +kernel) rfl) 0 4 rfl rfl rfl hl.1 (Nat.le_of_ble_eq_true rfl) dX5_readAll_55 ⟨Nat.le_of_ble_eq_true rfl, Nat.le_of_ble_eq_true rfl⟩) hP hD hS hA [0, 1] [2, 3, 4, 5, 6, 7, 8, 9, 10, 11, 12, 13, 14, 15, 16] rfl rfl (by decide +kernel) (by decide +kernel) (fun u_4 H locs p_4 hP hD hS => ?_)
        obtain ⟨hP, hD⟩ : kPD D A [kI cI k0_names 5 g45_k0_names, kI cI k0_kind 24 g45_k0_kind, kI cI k0_hand 24 g45_k0_hand, kI cI k0_low 24 g45_k0_low, kI cI k0_high 24 g45_k0_high, kI cI k0_value 24 g45_k0_value, kI cI k0_told_bits 24 g45_k0_told_bits, kI cI k0_told_gaps 25 g45_k0_told_gaps, kI cI k0_told_value 24 g45_k0_told_value, kI cI k0_told_cutter 24 g45_k0_told_cutter, kI cI k0_told_putter 24 g45_k0_told_putter, kI cI k0_told_sharers 24 g45_k0_told_sharers, kI cI k0_told_wholes 24 g45_k0_told_wholes, kO k0 5 [.int x45_f_k0_0, .int x45_f_k0_1, .int x45_f_k0_2, .ref k0_told, .ref k0_names, .ref k0_kind, .ref k0_hand, .ref k0_low, .ref k0_high, .ref k0_value], kO k0_told 6 [.int x45_f_k0_told_0, .ref k0_told_bits, .ref k0_told_value, .ref k0_told_cutter, .ref k0_told_putter, .ref k0_told_gaps, .ref k0_told_sharers, .ref k0_told_wholes], kO h 4 [.int x45_f_h_0, .int x45_f_h_1, .ref k1, .int x45_f_h_3, .int (u_4.2.2.2 0), .int (u_4.2.2.2 1), .int (u_4.2.2.2 2), .int (u_4.2.2.2 3), .ref k0], kI cB k1 700 f_k1] H := ⟨hP, hD⟩
        refine lv_aload_n hx hb dX5_readAll_58 rfl (lv_at hl 1 rfl) ?_
        refine va_get (D := D) (ci := 4) (v := .int (u_4.2.2.2 1)) (C := RX5) (T := TX5) (N := 9) hx hb hts u_X5 hown hE.1 hP 15 rfl rfl 5 (by decide) (hts _ w_263) (fun _ h9 => h9) rfl dX5_readAll_59 ?_
        refine lv_if_ne (tgt := 67) hx hb dX5_readAll_62 (by decide) (fun c_5 => ?_) (fun c_5 => ?_)
        · have b_6 : kr 1 4 (u_4.2.2.2 1) := kr_ne_lo p_4.2.1 c_5 rfl
          refine lv_aload_n hx hb dX5_readAll_67 rfl (lv_at hl 1 rfl) ?_
          refine kk_ci (wr := []) (kw_runV (w1 := [kO h 4 [.int x45_f_h_0, .int x45_f_h_1, .ref k1, .int x45_f_h_3, .int (u_4.2.2.2 0), .int (u_4.2.2.2 1), .int (u_4.2.2.2 2), .int (u_4.2.2.2 3), .ref k0], kO k0 5 [.int x45_f_k0_0, .int x45_f_k0_1, .int x45_f_k0_2, .ref k0_told, .ref k0_names, .ref k0_kind, .ref k0_hand, .ref k0_low, .ref k0_high, .ref k0_value], kI cB k1 700 f_k1, kI cI k0_names 5 g45_k0_names, kI cI k0_kind 24 g45_k0_kind, kI cI k0_hand 24 g45_k0_hand, kI cI k0_low 24 g45_k0_low, kI cI k0_high 24 g45_k0_high, kI cI k0_value 24 g45_k0_value, kO k0_told 6 [.int x45_f_k0_told_0, .ref k0_told_bits, .ref k0_told_value, .ref k0_told_cutter, .ref k0_told_putter, .ref k0_told_gaps, .ref k0_told_sharers, .ref k0_told_wholes], kI cI k0_told_bits 24 g45_k0_told_bits, kI cI k0_told_gaps 25 g45_k0_told_gaps, kI cI k0_told_value 24 g45_k0_told_value, kI cI k0_told_cutter 24 g45_k0_told_cutter, kI cI k0_told_putter 24 g45_k0_told_putter, kI cI k0_told_sharers 24 g45_k0_told_sharers, kI cI k0_told_wholes 24 g45_k0_told_wholes]) (As := []) (rest := []) hw hAz hS hx hb hml hown hts hE (c_X5_readLine l D cB cI cJ cD h k0 k1 k0_names k0_kind k0_hand k0_low k0_high k0_value k0_told k0_told_bits k0_told_gaps k0_told_value k0_told_cutter k0_told_putter k0_told_sharers k0_told_wholes x45_f_h_0 x45_f_h_1 x45_f_h_3 (u_4.2.2.2 0) (u_4.2.2.2 1) (u_4.2.2.2 2) (u_4.2.2.2 3) x45_f_k0_0 x45_f_k0_1 x45_f_k0_2 f_k1 g45_k0_names g45_k0_kind g45_k0_hand g45_k0_low g45_k0_high g45_k0_value x45_f_k0_told_0 g45_k0_told_bits g45_k0_told_gaps g45_k0_told_value g45_k0_told_cutter g45_k0_told_putter g45_k0_told_sharers g45_k0_told_wholes z0 wa fw H.size bx45_f_h_3 p_4.1 bx45_f_k0_1 bx45_f_k0_2 kg45_k0_hand bx45_f_k0_told_0) m_X5_readLine w_548 ⟨rfl, rfl, Nat.le_of_ble_eq_true rfl, Nat.le_of_ble_eq_true rfl⟩ (hP.sub [15, 13, 16, 0, 1, 2, 3, 4, 5, 14, 6, 7, 8, 9, 10, 11, 12] rfl) (hD.sub [15, 13, 16, 0, 1, 2, 3, 4, 5, 14, 6, 7, 8, 9, 10, 11, 12] (by decide +kernel) rfl) 0 4 rfl rfl rfl hl.1 (Nat.le_of_ble_eq_true rfl) dX5_readAll_68 ⟨Nat.le_of_ble_eq_true rfl, Nat.le_of_ble_eq_true rfl⟩) hP hD hS hA [15, 13, 16, 0, 1, 2, 3, 4, 5, 14, 6, 7, 8, 9, 10, 11, 12] [] rfl rfl (by decide +kernel) (by decide +kernel) (fun r_8 u_7 H locs p_7 hP hD hS => ?_)
          obtain ⟨hP, hD⟩ : kPD D A [kO h 4 [.int (u_7.2.2.2 0), .int (u_7.2.2.2 1), .ref k1, .int x45_f_h_3, .int (u_7.2.2.2 2), .int (u_7.2.2.2 3), .int (u_7.2.2.2 4), .int (u_7.2.2.2 5), .ref k0], kO k0 5 [.int x45_f_k0_0, .int (u_7.2.2.2 6), .int (u_7.2.2.2 7), .ref k0_told, .ref k0_names, .ref k0_kind, .ref k0_hand, .ref k0_low, .ref k0_high, .ref k0_value], kI cB k1 700 f_k1, kI cI k0_names 5 (u_7.2.1 0), kI cI k0_kind 24 (u_7.2.1 1), kI cI k0_hand 24 (u_7.2.1 2), kI cI k0_low 24 (u_7.2.1 3), kI cI k0_high 24 (u_7.2.1 4), kI cI k0_value 24 (u_7.2.1 5), kO k0_told 6 [.int (u_7.2.2.2 8), .ref k0_told_bits, .ref k0_told_value, .ref k0_told_cutter, .ref k0_told_putter, .ref k0_told_gaps, .ref k0_told_sharers, .ref k0_told_wholes], kI cI k0_told_bits 24 (u_7.2.1 6), kI cI k0_told_gaps 25 (u_7.2.1 7), kI cI k0_told_value 24 (u_7.2.1 8), kI cI k0_told_cutter 24 (u_7.2.1 9), kI cI k0_told_putter 24 (u_7.2.1 10), kI cI k0_told_sharers 24 (u_7.2.1 11), kI cI k0_told_wholes 24 (u_7.2.1 12)] H := ⟨hP, hD⟩
          have b_8 : kr 0 1 r_8 := p_7.1
          refine lv_if_ne (tgt := 76) hx hb dX5_readAll_71 (by decide) (fun c_9 => ?_) (fun c_9 => ?_)
          · have b_10 : kr 1 1 r_8 := kr_ne_lo b_8 c_9 rfl
            refine lv_aload_n hx hb dX5_readAll_76 rfl (lv_at hl 1 rfl) ?_
            refine va_get (D := D) (ci := 4) (v := .ref k0) (C := RX5) (T := TX5) (N := 9) hx hb hts u_X5 hown hE.1 hP 0 rfl rfl 8 (by decide) (hts _ w_266) (fun _ h9 => h9) rfl dX5_readAll_77 ?_
            refine lv_dup hx hb dX5_readAll_80 rfl ?_
            refine va_get (D := D) (ci := 5) (v := .int x45_f_k0_0) (C := RX6) (T := TX6) (N := 10) hx hb hts u_X6 hown hE.1 hP 1 rfl rfl 0 (by decide) (hts _ w_204) (fun _ h9 => h9) rfl dX5_readAll_81 ?_
            refine lv_iconst (v := 1) hx hb dX5_readAll_84 (by decide) ?_
            refine lv_iadd hx hb dX5_readAll_85 ?_
            refine lv_topi (fun v_11 e_11 => ?_)
            refine va_put (D := D) (ci := 5) (v := .int v_11) (ty := .int) (C := RX6) (T := TX6) (N := 10) hx hb hts u_X6 tyX6 tyX6_ok nmX6 hown hE.1 hP hD hS 1 rfl rfl 0 (by decide) (hts _ w_204) (fun _ h9 => h9) rfl (by decide +kernel) rfl rfl (Nat.le_of_ble_eq_true rfl) dX5_readAll_86 (fun H locs hP hD hS => ?_)
            obtain ⟨hP, hD⟩ : kPD D A [kO h 4 [.int (u_7.2.2.2 0), .int (u_7.2.2.2 1), .ref k1, .int x45_f_h_3, .int (u_7.2.2.2 2), .int (u_7.2.2.2 3), .int (u_7.2.2.2 4), .int (u_7.2.2.2 5), .ref k0], kO k0 5 [.int v_11, .int (u_7.2.2.2 6), .int (u_7.2.2.2 7), .ref k0_told, .ref k0_names, .ref k0_kind, .ref k0_hand, .ref k0_low, .ref k0_high, .ref k0_value], kI cB k1 700 f_k1, kI cI k0_names 5 (u_7.2.1 0), kI cI k0_kind 24 (u_7.2.1 1), kI cI k0_hand 24 (u_7.2.1 2), kI cI k0_low 24 (u_7.2.1 3), kI cI k0_high 24 (u_7.2.1 4), kI cI k0_value 24 (u_7.2.1 5), kO k0_told 6 [.int (u_7.2.2.2 8), .ref k0_told_bits, .ref k0_told_value, .ref k0_told_cutter, .ref k0_told_putter, .ref k0_told_gaps, .ref k0_told_sharers, .ref k0_told_wholes], kI cI k0_told_bits 24 (u_7.2.1 6), kI cI k0_told_gaps 25 (u_7.2.1 7), kI cI k0_told_value 24 (u_7.2.1 8), kI cI k0_told_cutter 24 (u_7.2.1 9), kI cI k0_told_putter 24 (u_7.2.1 10), kI cI k0_told_sharers 24 (u_7.2.1 11), kI cI k0_told_wholes 24 (u_7.2.1 12)] H := ⟨hP, hD⟩
            obtain ⟨v_12, e_12⟩ : ∃ y : Int32, y = x45_l_4 + 1 := ⟨_, rfl⟩
            have t_12 : v_12.toInt = x45_l_4.toInt + 1 := kt_add e_12 b_3 (kr_c 1 1 rfl) rfl
            have b_12 : kr 1 701 v_12 := kr_add (x := x45_l_4) (y := 1) t_12 b_3 (kr_c 1 1 rfl) rfl
            refine lv_iinc (v := v_12) (lv' := [(4, .int v_12), (0, .ref h)]) hx hb dX5_readAll_89 hl (k := 0) rfl (by rw [e_12]; rfl) (by decide) rfl (fun ls hl => ?_)
            refine lv_goto (tgt := 45) hx hb dX5_readAll_92 (by decide) ?_
            exact ih_45 v_12 (u_7.2.2.2 0) (u_7.2.2.2 1) x45_f_h_3 (u_7.2.2.2 2) (u_7.2.2.2 3) (u_7.2.2.2 4) (u_7.2.2.2 5) (u_7.2.1 0) (u_7.2.1 1) (u_7.2.1 2) (u_7.2.1 3) (u_7.2.1 4) (u_7.2.1 5) (u_7.2.1 6) (u_7.2.1 7) (u_7.2.1 8) (u_7.2.1 9) (u_7.2.1 10) (u_7.2.1 11) (u_7.2.1 12) v_11 (u_7.2.2.2 6) (u_7.2.2.2 7) (u_7.2.2.2 8) _ _ _ (km_up hn_45 t_12 b_12 rfl) (kr_w b_12 rfl) bx45_f_h_3 p_7.2.1 p_7.2.2.2.2.1 p_7.2.2.1 p_7.2.2.2.1 p_7.2.2.2.2.2 ⟨hP.sub [0, 2, 3, 4, 5, 6, 7, 8, 10, 11, 12, 13, 14, 15, 16, 1, 9] rfl, hD.sub [0, 2, 3, 4, 5, 6, 7, 8, 10, 11, 12, 13, 14, 15, 16, 1, 9] (by decide +kernel) rfl⟩ hS (lv_sub hl [0, 1] rfl)
          · have b_13 : kr 0 0 r_8 := kr_eq_l b_8 (kr_c 0 0 rfl) c_9 rfl
            refine lv_iconst (v := 0) hx hb dX5_readAll_74 (by decide) ?_
            subst hQQ
            exact kk_ret_z ((fun _ => 0), (fun i => [(u_7.2.1 0), (u_7.2.1 1), (u_7.2.1 2), (u_7.2.1 3), (u_7.2.1 4), (u_7.2.1 5), (u_7.2.1 6), (u_7.2.1 7), (u_7.2.1 8), (u_7.2.1 9), (u_7.2.1 10), (u_7.2.1 11), (u_7.2.1 12)].getD i (fun _ => 0)), (fun i => [].getD i (fun _ => 0)), (fun i => [(u_7.2.2.2 0), (u_7.2.2.2 1), x45_f_h_3, (u_7.2.2.2 2), (u_7.2.2.2 3), (u_7.2.2.2 4), (u_7.2.2.2 5), x45_f_k0_0, (u_7.2.2.2 6), (u_7.2.2.2 7), (u_7.2.2.2 8)].getD i 0)) hx hb hr hlocks (by decide) ⟨(kr_w (kr_c 0 0 rfl) rfl), bx45_f_h_3, p_7.2.1, p_7.2.2.1, p_7.2.2.2.1, p_7.2.2.2.2.2, p_7.2.2.2.2.1⟩ (hP.sub [0, 1, 2, 9, 3, 4, 5, 6, 7, 8, 10, 11, 12, 13, 14, 15, 16] rfl) (hD.sub [0, 1, 2, 9, 3, 4, 5, 6, 7, 8, 10, 11, 12, 13, 14, 15, 16] (by decide +kernel) rfl) hS dX5_readAll_75 (Nat.le_of_ble_eq_true rfl) (Nat.le_of_ble_eq_true rfl)
        · have b_14 : kr 0 0 (u_4.2.2.2 1) := kr_eq_l p_4.2.1 (kr_c 0 0 rfl) c_5 rfl
          refine lv_iconst (v := 1) hx hb dX5_readAll_65 (by decide) ?_
          subst hQQ
          exact kk_ret_z ((fun _ => 0), (fun i => [g45_k0_names, g45_k0_kind, g45_k0_hand, g45_k0_low, g45_k0_high, g45_k0_value, g45_k0_told_bits, g45_k0_told_gaps, g45_k0_told_value, g45_k0_told_cutter, g45_k0_told_putter, g45_k0_told_sharers, g45_k0_told_wholes].getD i (fun _ => 0)), (fun i => [].getD i (fun _ => 0)), (fun i => [x45_f_h_0, x45_f_h_1, x45_f_h_3, (u_4.2.2.2 0), (u_4.2.2.2 1), (u_4.2.2.2 2), (u_4.2.2.2 3), x45_f_k0_0, x45_f_k0_1, x45_f_k0_2, x45_f_k0_told_0].getD i 0)) hx hb hr hlocks (by decide) ⟨(kr_w (kr_c 1 1 rfl) rfl), bx45_f_h_3, p_4.1, bx45_f_k0_1, bx45_f_k0_2, bx45_f_k0_told_0, kg45_k0_hand⟩ (hP.sub [15, 13, 16, 14, 0, 1, 2, 3, 4, 5, 6, 7, 8, 9, 10, 11, 12] rfl) (hD.sub [15, 13, 16, 14, 0, 1, 2, 3, 4, 5, 6, 7, 8, 9, 10, 11, 12] (by decide +kernel) rfl) hS dX5_readAll_66 (Nat.le_of_ble_eq_true rfl) (Nat.le_of_ble_eq_true rfl)
  refine lv_aload_n hx hb dX5_readAll_0 rfl (lv_at hl 0 rfl) ?_
  refine lv_aload_n hx hb dX5_readAll_1 rfl (lv_at hl 1 rfl) ?_
  refine va_put (D := D) (ci := 4) (v := .ref k0) (ty := (.object "GapLocks$Script")) (C := RX5) (T := TX5) (N := 9) hx hb hts u_X5 tyX5 tyX5_ok nmX5 hown hE.1 hP hD hS 0 rfl rfl 8 (by decide) (hts _ w_266) (fun _ h9 => h9) rfl (by decide +kernel) rfl rfl (Nat.le_of_ble_eq_true rfl) dX5_readAll_2 (fun H locs hP hD hS => ?_)
  obtain ⟨hP, hD⟩ : kPD D A [kO h 4 [.int n_h_faultCode, .int n_h_faultPlace, o_h_bytes, .int n_h_length, .int n_h_at, .int n_h_token, .int n_h_tokenPlace, .int n_h_tokenWorth, .ref k0], kO k0 5 [.int n_k0_lines, .int n_k0_hands, .int n_k0_steps, .ref k0_told, .ref k0_names, .ref k0_kind, .ref k0_hand, .ref k0_low, .ref k0_high, .ref k0_value], kI cB k1 700 f_k1, kO k0_told 6 [.int n_k0_told_size, .ref k0_told_bits, .ref k0_told_value, .ref k0_told_cutter, .ref k0_told_putter, .ref k0_told_gaps, .ref k0_told_sharers, .ref k0_told_wholes], kI cI k0_names 5 f_k0_names, kI cI k0_kind 24 f_k0_kind, kI cI k0_hand 24 f_k0_hand, kI cI k0_low 24 f_k0_low, kI cI k0_high 24 f_k0_high, kI cI k0_value 24 f_k0_value, kI cI k0_told_bits 24 f_k0_told_bits, kI cI k0_told_gaps 25 f_k0_told_gaps, kI cI k0_told_value 24 f_k0_told_value, kI cI k0_told_cutter 24 f_k0_told_cutter, kI cI k0_told_putter 24 f_k0_told_putter, kI cI k0_told_sharers 24 f_k0_told_sharers, kI cI k0_told_wholes 24 f_k0_told_wholes] H := ⟨hP, hD⟩
  refine lv_aload_n hx hb dX5_readAll_5 rfl (lv_at hl 0 rfl) ?_
  refine va_get (D := D) (ci := 4) (v := .ref k0) (C := RX5) (T := TX5) (N := 9) hx hb hts u_X5 hown hE.1 hP 0 rfl rfl 8 (by decide) (hts _ w_266) (fun _ h9 => h9) rfl dX5_readAll_6 ?_
  refine kk_cv (wr := [kO h 4 [.int n_h_faultCode, .int n_h_faultPlace, o_h_bytes, .int n_h_length, .int n_h_at, .int n_h_token, .int n_h_tokenPlace, .int n_h_tokenWorth, .ref k0], kI cB k1 700 f_k1, kI cI k0_names 5 f_k0_names, kI cI k0_kind 24 f_k0_kind, kI cI k0_hand 24 f_k0_hand, kI cI k0_low 24 f_k0_low, kI cI k0_high 24 f_k0_high, kI cI k0_value 24 f_k0_value, kI cI k0_told_bits 24 f_k0_told_bits, kI cI k0_told_gaps 25 f_k0_told_gaps, kI cI k0_told_value 24 f_k0_told_value, kI cI k0_told_cutter 24 f_k0_told_cutter, kI cI k0_told_putter 24 f_k0_told_putter, kI cI k0_told_sharers 24 f_k0_told_sharers, kI cI k0_told_wholes 24 f_k0_told_wholes]) (kk_runV (w1 := [kO k0 5 [.int n_k0_lines, .int n_k0_hands, .int n_k0_steps, .ref k0_told, .ref k0_names, .ref k0_kind, .ref k0_hand, .ref k0_low, .ref k0_high, .ref k0_value], kO k0_told 6 [.int n_k0_told_size, .ref k0_told_bits, .ref k0_told_value, .ref k0_told_cutter, .ref k0_told_putter, .ref k0_told_gaps, .ref k0_told_sharers, .ref k0_told_wholes]]) (As := []) (rest := []) hx hb hml hown hts hE (c_X6_clear l D cB cI cJ cD k0 k0_told k0_names k0_kind k0_hand k0_low k0_high k0_value k0_told_bits k0_told_value k0_told_cutter k0_told_putter k0_told_gaps k0_told_sharers k0_told_wholes n_k0_lines n_k0_hands n_k0_steps n_k0_told_size H.size b_k0_hands b_k0_steps b_k0_told_size) m_X6_clear w_527 ⟨rfl, rfl, Nat.le_of_ble_eq_true rfl, Nat.le_of_ble_eq_true rfl⟩ (hP.sub [1, 3] rfl) (hD.sub [1, 3] (by decide +kernel) rfl) 0 5 rfl rfl rfl hl.1 (Nat.le_of_ble_eq_true rfl) dX5_readAll_9 ⟨Nat.le_of_ble_eq_true rfl, Nat.le_of_ble_eq_true rfl⟩) hP hD hS hA [1, 3] [0, 2, 4, 5, 6, 7, 8, 9, 10, 11, 12, 13, 14, 15, 16] rfl rfl (by decide +kernel) (by decide +kernel) (fun u_15 H locs p_15 hP hD hS => ?_)
  obtain ⟨hP, hD⟩ : kPD D A [kO h 4 [.int n_h_faultCode, .int n_h_faultPlace, o_h_bytes, .int n_h_length, .int n_h_at, .int n_h_token, .int n_h_tokenPlace, .int n_h_tokenWorth, .ref k0], kI cB k1 700 f_k1, kI cI k0_names 5 f_k0_names, kI cI k0_kind 24 f_k0_kind, kI cI k0_hand 24 f_k0_hand, kI cI k0_low 24 f_k0_low, kI cI k0_high 24 f_k0_high, kI cI k0_value 24 f_k0_value, kI cI k0_told_bits 24 f_k0_told_bits, kI cI k0_told_gaps 25 f_k0_told_gaps, kI cI k0_told_value 24 f_k0_told_value, kI cI k0_told_cutter 24 f_k0_told_cutter, kI cI k0_told_putter 24 f_k0_told_putter, kI cI k0_told_sharers 24 f_k0_told_sharers, kI cI k0_told_wholes 24 f_k0_told_wholes, kO k0 5 [.int (u_15.2.2.2 0), .int (u_15.2.2.2 1), .int (u_15.2.2.2 2), .ref k0_told, .ref k0_names, .ref k0_kind, .ref k0_hand, .ref k0_low, .ref k0_high, .ref k0_value], kO k0_told 6 [.int (u_15.2.2.2 3), .ref k0_told_bits, .ref k0_told_value, .ref k0_told_cutter, .ref k0_told_putter, .ref k0_told_gaps, .ref k0_told_sharers, .ref k0_told_wholes]] H := ⟨hP, hD⟩
  refine lv_aload_n hx hb dX5_readAll_12 rfl (lv_at hl 0 rfl) ?_
  refine lv_aload_n hx hb dX5_readAll_13 rfl (lv_at hl 2 rfl) ?_
  refine va_put (D := D) (ci := 4) (v := .ref k1) (ty := (.array .byte)) (C := RX5) (T := TX5) (N := 9) hx hb hts u_X5 tyX5 tyX5_ok nmX5 hown hE.1 hP hD hS 0 rfl rfl 2 (by decide) (hts _ w_260) (fun _ h9 => h9) rfl (by decide +kernel) rfl rfl (Nat.le_of_ble_eq_true rfl) dX5_readAll_14 (fun H locs hP hD hS => ?_)
  obtain ⟨hP, hD⟩ : kPD D A [kO h 4 [.int n_h_faultCode, .int n_h_faultPlace, .ref k1, .int n_h_length, .int n_h_at, .int n_h_token, .int n_h_tokenPlace, .int n_h_tokenWorth, .ref k0], kI cB k1 700 f_k1, kI cI k0_names 5 f_k0_names, kI cI k0_kind 24 f_k0_kind, kI cI k0_hand 24 f_k0_hand, kI cI k0_low 24 f_k0_low, kI cI k0_high 24 f_k0_high, kI cI k0_value 24 f_k0_value, kI cI k0_told_bits 24 f_k0_told_bits, kI cI k0_told_gaps 25 f_k0_told_gaps, kI cI k0_told_value 24 f_k0_told_value, kI cI k0_told_cutter 24 f_k0_told_cutter, kI cI k0_told_putter 24 f_k0_told_putter, kI cI k0_told_sharers 24 f_k0_told_sharers, kI cI k0_told_wholes 24 f_k0_told_wholes, kO k0 5 [.int (u_15.2.2.2 0), .int (u_15.2.2.2 1), .int (u_15.2.2.2 2), .ref k0_told, .ref k0_names, .ref k0_kind, .ref k0_hand, .ref k0_low, .ref k0_high, .ref k0_value], kO k0_told 6 [.int (u_15.2.2.2 3), .ref k0_told_bits, .ref k0_told_value, .ref k0_told_cutter, .ref k0_told_putter, .ref k0_told_gaps, .ref k0_told_sharers, .ref k0_told_wholes]] H := ⟨hP, hD⟩
  refine lv_aload_n hx hb dX5_readAll_17 rfl (lv_at hl 0 rfl) ?_
  refine lv_iload_n hx hb dX5_readAll_18 rfl (lv_at hl 3 rfl) ?_
  refine lv_aload_n hx hb dX5_readAll_19 rfl (lv_at hl 2 rfl) ?_
  refine va_alen (v := 700) hx hb hE.1 hP 1 0 rfl rfl rfl dX5_readAll_20 ?_
  refine va_mmin hx hb (hml.trans hl.1.symm) hown (hts _ w_531) (hts _ w_532) (hts _ w_121) (hts _ w_533) (Nat.le_of_ble_eq_true rfl) (Nat.le_of_ble_eq_true rfl) (Nat.le_of_ble_eq_true rfl) (Nat.le_of_ble_eq_true rfl) dX5_readAll_21 ?_
  refine lv_topi (fun v_16 e_16 => ?_)
  have b_16 : kr 0 700 v_16 := kr_min e_16 b_p2 (kr_c 700 700 rfl) rfl
  refine va_put (D := D) (ci := 4) (v := .int v_16) (ty := .int) (C := RX5) (T := TX5) (N := 9) hx hb hts u_X5 tyX5 tyX5_ok nmX5 hown hE.1 hP hD hS 0 rfl rfl 3 (by decide) (hts _ w_261) (fun _ h9 => h9) rfl (by decide +kernel) rfl rfl (Nat.le_of_ble_eq_true rfl) dX5_readAll_24 (fun H locs hP hD hS => ?_)
  obtain ⟨hP, hD⟩ : kPD D A [kO h 4 [.int n_h_faultCode, .int n_h_faultPlace, .ref k1, .int v_16, .int n_h_at, .int n_h_token, .int n_h_tokenPlace, .int n_h_tokenWorth, .ref k0], kI cB k1 700 f_k1, kI cI k0_names 5 f_k0_names, kI cI k0_kind 24 f_k0_kind, kI cI k0_hand 24 f_k0_hand, kI cI k0_low 24 f_k0_low, kI cI k0_high 24 f_k0_high, kI cI k0_value 24 f_k0_value, kI cI k0_told_bits 24 f_k0_told_bits, kI cI k0_told_gaps 25 f_k0_told_gaps, kI cI k0_told_value 24 f_k0_told_value, kI cI k0_told_cutter 24 f_k0_told_cutter, kI cI k0_told_putter 24 f_k0_told_putter, kI cI k0_told_sharers 24 f_k0_told_sharers, kI cI k0_told_wholes 24 f_k0_told_wholes, kO k0 5 [.int (u_15.2.2.2 0), .int (u_15.2.2.2 1), .int (u_15.2.2.2 2), .ref k0_told, .ref k0_names, .ref k0_kind, .ref k0_hand, .ref k0_low, .ref k0_high, .ref k0_value], kO k0_told 6 [.int (u_15.2.2.2 3), .ref k0_told_bits, .ref k0_told_value, .ref k0_told_cutter, .ref k0_told_putter, .ref k0_told_gaps, .ref k0_told_sharers, .ref k0_told_wholes]] H := ⟨hP, hD⟩
  refine lv_aload_n hx hb dX5_readAll_27 rfl (lv_at hl 0 rfl) ?_
  refine lv_iconst (v := 0) hx hb dX5_readAll_28 (by decide) ?_
  refine va_put (D := D) (ci := 4) (v := .int 0) (ty := .int) (C := RX5) (T := TX5) (N := 9) hx hb hts u_X5 tyX5 tyX5_ok nmX5 hown hE.1 hP hD hS 0 rfl rfl 4 (by decide) (hts _ w_262) (fun _ h9 => h9) rfl (by decide +kernel) rfl rfl (Nat.le_of_ble_eq_true rfl) dX5_readAll_29 (fun H locs hP hD hS => ?_)
  obtain ⟨hP, hD⟩ : kPD D A [kO h 4 [.int n_h_faultCode, .int n_h_faultPlace, .ref k1, .int v_16, .int 0, .int n_h_token, .int n_h_tokenPlace, .int n_h_tokenWorth, .ref k0], kI cB k1 700 f_k1, kI cI k0_names 5 f_k0_names, kI cI k0_kind 24 f_k0_kind, kI cI k0_hand 24 f_k0_hand, kI cI k0_low 24 f_k0_low, kI cI k0_high 24 f_k0_high, kI cI k0_value 24 f_k0_value, kI cI k0_told_bits 24 f_k0_told_bits, kI cI k0_told_gaps 25 f_k0_told_gaps, kI cI k0_told_value 24 f_k0_told_value, kI cI k0_told_cutter 24 f_k0_told_cutter, kI cI k0_told_putter 24 f_k0_told_putter, kI cI k0_told_sharers 24 f_k0_told_sharers, kI cI k0_told_wholes 24 f_k0_told_wholes, kO k0 5 [.int (u_15.2.2.2 0), .int (u_15.2.2.2 1), .int (u_15.2.2.2 2), .ref k0_told, .ref k0_names, .ref k0_kind, .ref k0_hand, .ref k0_low, .ref k0_high, .ref k0_value], kO k0_told 6 [.int (u_15.2.2.2 3), .ref k0_told_bits, .ref k0_told_value, .ref k0_told_cutter, .ref k0_told_putter, .ref k0_told_gaps, .ref k0_told_sharers, .ref k0_told_wholes]] H := ⟨hP, hD⟩
  refine lv_aload_n hx hb dX5_readAll_32 rfl (lv_at hl 0 rfl) ?_
  refine lv_iconst (v := 0) hx hb dX5_readAll_33 (by decide) ?_
  refine va_put (D := D) (ci := 4) (v := .int 0) (ty := .int) (C := RX5) (T := TX5) (N := 9) hx hb hts u_X5 tyX5 tyX5_ok nmX5 hown hE.1 hP hD hS 0 rfl rfl 0 (by decide) (hts _ w_256) (fun _ h9 => h9) rfl (by decide +kernel) rfl rfl (Nat.le_of_ble_eq_true rfl) dX5_readAll_34 (fun H locs hP hD hS => ?_)
  obtain ⟨hP, hD⟩ : kPD D A [kO h 4 [.int 0, .int n_h_faultPlace, .ref k1, .int v_16, .int 0, .int n_h_token, .int n_h_tokenPlace, .int n_h_tokenWorth, .ref k0], kI cB k1 700 f_k1, kI cI k0_names 5 f_k0_names, kI cI k0_kind 24 f_k0_kind, kI cI k0_hand 24 f_k0_hand, kI cI k0_low 24 f_k0_low, kI cI k0_high 24 f_k0_high, kI cI k0_value 24 f_k0_value, kI cI k0_told_bits 24 f_k0_told_bits, kI cI k0_told_gaps 25 f_k0_told_gaps, kI cI k0_told_value 24 f_k0_told_value, kI cI k0_told_cutter 24 f_k0_told_cutter, kI cI k0_told_putter 24 f_k0_told_putter, kI cI k0_told_sharers 24 f_k0_told_sharers, kI cI k0_told_wholes 24 f_k0_told_wholes, kO k0 5 [.int (u_15.2.2.2 0), .int (u_15.2.2.2 1), .int (u_15.2.2.2 2), .ref k0_told, .ref k0_names, .ref k0_kind, .ref k0_hand, .ref k0_low, .ref k0_high, .ref k0_value], kO k0_told 6 [.int (u_15.2.2.2 3), .ref k0_told_bits, .ref k0_told_value, .ref k0_told_cutter, .ref k0_told_putter, .ref k0_told_gaps, .ref k0_told_sharers, .ref k0_told_wholes]] H := ⟨hP, hD⟩
  refine lv_aload_n hx hb dX5_readAll_37 rfl (lv_at hl 0 rfl) ?_
  refine lv_iconst (v := (-1)) hx hb dX5_readAll_38 (by decide) ?_
  refine va_put (D := D) (ci := 4) (v := .int (-1)) (ty := .int) (C := RX5) (T := TX5) (N := 9) hx hb hts u_X5 tyX5 tyX5_ok nmX5 hown hE.1 hP hD hS 0 rfl rfl 1 (by decide) (hts _ w_258) (fun _ h9 => h9) rfl (by decide +kernel) rfl rfl (Nat.le_of_ble_eq_true rfl) dX5_readAll_39 (fun H locs hP hD hS => ?_)
  obtain ⟨hP, hD⟩ : kPD D A [kO h 4 [.int 0, .int (-1), .ref k1, .int v_16, .int 0, .int n_h_token, .int n_h_tokenPlace, .int n_h_tokenWorth, .ref k0], kI cB k1 700 f_k1, kI cI k0_names 5 f_k0_names, kI cI k0_kind 24 f_k0_kind, kI cI k0_hand 24 f_k0_hand, kI cI k0_low 24 f_k0_low, kI cI k0_high 24 f_k0_high, kI cI k0_value 24 f_k0_value, kI cI k0_told_bits 24 f_k0_told_bits, kI cI k0_told_gaps 25 f_k0_told_gaps, kI cI k0_told_value 24 f_k0_told_value, kI cI k0_told_cutter 24 f_k0_told_cutter, kI cI k0_told_putter 24 f_k0_told_putter, kI cI k0_told_sharers 24 f_k0_told_sharers, kI cI k0_told_wholes 24 f_k0_told_wholes, kO k0 5 [.int (u_15.2.2.2 0), .int (u_15.2.2.2 1), .int (u_15.2.2.2 2), .ref k0_told, .ref k0_names, .ref k0_kind, .ref k0_hand, .ref k0_low, .ref k0_high, .ref k0_value], kO k0_told 6 [.int (u_15.2.2.2 3), .ref k0_told_bits, .ref k0_told_value, .ref k0_told_cutter, .ref k0_told_putter, .ref k0_told_gaps, .ref k0_told_sharers, .ref k0_told_wholes]] H := ⟨hP, hD⟩
  refine lv_iconst (v := 0) hx hb dX5_readAll_42 (by decide) ?_
  refine lv_istore (lv' := [(4, .int 0), (0, .ref h), (1, .ref k0), (2, .ref k1), (3, .int p2)]) hx hb dX5_readAll_43 hl (by decide) rfl (fun ls hl => ?_)
  exact J_45 _ 0 0 (-1) v_16 0 n_h_token n_h_tokenPlace n_h_tokenWorth f_k0_names f_k0_kind f_k0_hand f_k0_low f_k0_high f_k0_value f_k0_told_bits f_k0_told_gaps f_k0_told_value f_k0_told_cutter f_k0_told_putter f_k0_told_sharers f_k0_told_wholes (u_15.2.2.2 0) (u_15.2.2.2 1) (u_15.2.2.2 2) (u_15.2.2.2 3) _ _ _ (Nat.lt_succ_self _) (kr_w (kr_c 0 0 rfl) rfl) b_16 (kr_w (kr_c 0 0 rfl) rfl) kf_k0_hand (kr_w p_15.2.1 rfl) (kr_w p_15.2.2.1 rfl) (kr_w p_15.2.2.2 rfl) ⟨hP, hD⟩ hS (lv_sub hl [0, 1] rfl)
set_option maxHeartbeats 4000000 in
set_option maxRecDepth 100000 in
theorem c_X7_levelAt (l : Launch) (D : va_G) (cB cI cJ cD : ClassId) (h : Nat) (h_sharers : Nat) (h_wholes : Nat) (h_bits : Nat) (h_value : Nat) (h_cutter : Nat) (h_putter : Nat) (h_gaps : Nat) (n_h_size : Int32) (f_h_sharers : Nat → Int32) (f_h_wholes : Nat → Int32) (p0 : Int32) (p1 : Int32) (sz : Nat) (b_h_size : kr 0 24 n_h_size) (b_p0 : kr 0 24 p0) : Met l yX7_levelAt (kk_W yX7_levelAt cX7_levelAt 3 (some .int)) ({ frames := 0, cells := 0, slots := 0, locals := 0 }) (va_Pc [.ref h, .int p0, .int p1] (kk_pre D cB cI cJ cD [kO h 6 [.int n_h_size, .ref h_bits, .ref h_value, .ref h_cutter, .ref h_putter, .ref h_gaps, .ref h_sharers, .ref h_wholes], kI cI h_sharers 24 f_h_sharers, kI cI h_wholes 24 f_h_wholes] sz)) (vp_Si (fun r => kr 0 2 r)) 0 0 (fun _ => False) := by
  refine kk_pstart (y := yX7_levelAt) (maxL := 3) (av := [.ref h, .int p0, .int p1]) (by decide) (Nat.le_of_ble_eq_true rfl) ?_
  intro p e s m below meth c ls hx hb hr hml hown hts hE hlocks hsz hP hD hl
  have hown : s.vm.findClass RX7 = some m.cls := hown
  have hl : lv_has ls 3 [(0, .ref h), (1, .int p0), (2, .int p1)] := hl
  refine lv_iload_n hx hb dX7_levelAt_0 rfl (lv_at hl 1 rfl) ?_
  refine lv_aload_n hx hb dX7_levelAt_1 rfl (lv_at hl 0 rfl) ?_
  refine va_get (D := D) (ci := 6) (v := .int n_h_size) (C := RX7) (T := TX7) (N := 8) hx hb hts u_X7 hown hE.1 hP 0 rfl rfl 0 (by decide) (hts _ w_157) (fun _ h9 => h9) rfl dX7_levelAt_2 ?_
  refine lv_icmp_ge (tgt := 32) hx hb dX7_levelAt_5 (by decide) (fun c_1 => ?_) (fun c_1 => ?_)
  · have i_1 : n_h_size.toInt ≤ p0.toInt := (ki_le c_1)
    refine lv_iconst (v := 0) hx hb dX7_levelAt_32 (by decide) ?_
    exact kk_pret_i hx hb hr hlocks (kr_w (kr_c 0 0 rfl) rfl) dX7_levelAt_33
  · have i_1 : p0.toInt < n_h_size.toInt := (ki_nle c_1)
    have b_2 : kr 0 23 p0 := kr_lt_l b_p0 b_h_size i_1 rfl
    have b_3 : kr 1 24 n_h_size := kr_lt_r b_p0 b_h_size i_1 rfl
    refine lv_aload_n hx hb dX7_levelAt_8 rfl (lv_at hl 0 rfl) ?_
    refine va_get (D := D) (ci := 6) (v := .ref h_sharers) (C := RX7) (T := TX7) (N := 8) hx hb hts u_X7 hown hE.1 hP 0 rfl rfl 6 (by decide) (hts _ w_180) (fun _ h9 => h9) rfl dX7_levelAt_9 ?_
    refine lv_iload_n hx hb dX7_levelAt_12 rfl (lv_at hl 1 rfl) ?_
    refine va_iald hx hb hE.1 hP 1 1 rfl rfl (kr_in b_2 rfl) dX7_levelAt_13 ?_
    refine lv_topi (fun v_4 e_4 => ?_)
    refine lv_iload_n hx hb dX7_levelAt_14 rfl (lv_at hl 2 rfl) ?_
    refine lv_ishr hx hb dX7_levelAt_15 ?_
    refine lv_topi (fun v_5 e_5 => ?_)
    refine lv_iconst (v := 1) hx hb dX7_levelAt_16 (by decide) ?_
    refine lv_iand hx hb dX7_levelAt_17 ?_
    refine lv_topi (fun v_6 e_6 => ?_)
    have b_6 : kr 0 1 v_6 := kr_and e_6 1 (by decide) rfl
    refine lv_aload_n hx hb dX7_levelAt_18 rfl (lv_at hl 0 rfl) ?_
    refine va_get (D := D) (ci := 6) (v := .ref h_wholes) (C := RX7) (T := TX7) (N := 8) hx hb hts u_X7 hown hE.1 hP 0 rfl rfl 7 (by decide) (hts _ w_182) (fun _ h9 => h9) rfl dX7_levelAt_19 ?_
    refine lv_iload_n hx hb dX7_levelAt_22 rfl (lv_at hl 1 rfl) ?_
    refine va_iald hx hb hE.1 hP 2 1 rfl rfl (kr_in b_2 rfl) dX7_levelAt_23 ?_
    refine lv_topi (fun v_7 e_7 => ?_)
    refine lv_iload_n hx hb dX7_levelAt_24 rfl (lv_at hl 2 rfl) ?_
    refine lv_ishr hx hb dX7_levelAt_25 ?_
    refine lv_topi (fun v_8 e_8 => ?_)
    refine lv_iconst (v := 1) hx hb dX7_levelAt_26 (by decide) ?_
    refine lv_iand hx hb dX7_levelAt_27 ?_
    refine lv_topi (fun v_9 e_9 => ?_)
    have b_9 : kr 0 1 v_9 := kr_and e_9 1 (by decide) rfl
    refine lv_iadd hx hb dX7_levelAt_28 ?_
    refine lv_topi (fun v_10 e_10 => ?_)
    have t_10 : v_10.toInt = v_6.toInt + v_9.toInt := kt_add e_10 b_6 b_9 rfl
    have b_10 : kr 0 2 v_10 := kr_add (x := v_6) (y := v_9) t_10 b_6 b_9 rfl
    refine lv_goto (tgt := 33) hx hb dX7_levelAt_29 (by decide) ?_
    exact kk_pret_i hx hb hr hlocks b_10 dX7_levelAt_33
set_option maxHeartbeats 4000000 in
set_option maxRecDepth 100000 in
theorem c_X7_locksOf (l : Launch) (D : va_G) (cB cI cJ cD : ClassId) (h : Nat) (h_gaps : Nat) (h_sharers : Nat) (h_bits : Nat) (h_value : Nat) (h_cutter : Nat) (h_putter : Nat) (h_wholes : Nat) (n_h_size : Int32) (f_h_gaps : Nat → Int32) (f_h_sharers : Nat → Int32) (p0 : Int32) (sz : Nat) (b_h_size : kr 0 24 n_h_size) : Met l yX7_locksOf (kk_W yX7_locksOf cX7_locksOf 4 (some .int)) ({ frames := 0, cells := 0, slots := 0, locals := 0 }) (va_Pc [.ref h, .int p0] (kk_pre D cB cI cJ cD [kO h 6 [.int n_h_size, .ref h_bits, .ref h_value, .ref h_cutter, .ref h_putter, .ref h_gaps, .ref h_sharers, .ref h_wholes], kI cI h_gaps 25 f_h_gaps, kI cI h_sharers 24 f_h_sharers] sz)) (vp_Si (fun r => True)) 0 0 (fun _ => False) := by
  refine kk_pstart (y := yX7_locksOf) (maxL := 4) (av := [.ref h, .int p0]) (by decide) (Nat.le_of_ble_eq_true rfl) ?_
  intro p e s m below meth c ls hx hb hr hml hown hts hE hlocks hsz hP hD hl
  have hown : s.vm.findClass RX7 = some m.cls := hown
  have hl : lv_has ls 4 [(0, .ref h), (1, .int p0)] := hl
  generalize hQQ : MQ below _ _ s _ _ _ = QQ
  have J_16 : ∀ (n : Nat) (x16_l_3 : Int32) (x16_l_2 : Int32) (ls : Array Slot), (24 - x16_l_3.toInt).toNat < n → kr 0 24 x16_l_3 → lv_has ls 4 [(3, .int x16_l_3), (2, .int x16_l_2), (0, .ref h), (1, .int p0)] → W p l e ({ frames := 0, cells := 0, slots := 0, locals := 0 }) s m ([.ref h, .int p0] : List Value).toArray below meth c s.heap [] 0 0 QQ (F0 m 16 ls []) := by
    intro n
    induction n with
    | zero =>
      intro x16_l_3 x16_l_2 ls hn_16 bx16_l_3 hl
      exact absurd hn_16 (Nat.not_lt_zero _)
    | succ n ih_16 =>
      intro x16_l_3 x16_l_2 ls hn_16 bx16_l_3 hl
      refine lv_iload_n hx hb dX7_locksOf_16 rfl (lv_at hl 0 rfl) ?_
      refine lv_aload_n hx hb dX7_locksOf_17 rfl (lv_at hl 2 rfl) ?_
      refine va_get (D := D) (ci := 6) (v := .int n_h_size) (C := RX7) (T := TX7) (N := 8) hx hb hts u_X7 hown hE.1 hP 0 rfl rfl 0 (by decide) (hts _ w_157) (fun _ h9 => h9) rfl dX7_locksOf_18 ?_
      refine lv_icmp_ge (tgt := 54) hx hb dX7_locksOf_21 (by decide) (fun c_1 => ?_) (fun c_1 => ?_)
      · have i_1 : n_h_size.toInt ≤ x16_l_3.toInt := (ki_le c_1)
        refine lv_iload_n hx hb dX7_locksOf_54 rfl (lv_at hl 1 rfl) ?_
        subst hQQ
        exact kk_pret_i hx hb hr hlocks trivial dX7_locksOf_55
      · have i_1 : x16_l_3.toInt < n_h_size.toInt := (ki_nle c_1)
        have b_2 : kr 0 23 x16_l_3 := kr_lt_l bx16_l_3 b_h_size i_1 rfl
        have b_3 : kr 1 24 n_h_size := kr_lt_r bx16_l_3 b_h_size i_1 rfl
        refine lv_iload_n hx hb dX7_locksOf_24 rfl (lv_at hl 1 rfl) ?_
        refine lv_aload_n hx hb dX7_locksOf_25 rfl (lv_at hl 2 rfl) ?_
        refine va_get (D := D) (ci := 6) (v := .ref h_gaps) (C := RX7) (T := TX7) (N := 8) hx hb hts u_X7 hown hE.1 hP 0 rfl rfl 5 (by decide) (hts _ w_177) (fun _ h9 => h9) rfl dX7_locksOf_26 ?_
        refine lv_iload_n hx hb dX7_locksOf_29 rfl (lv_at hl 0 rfl) ?_
        refine va_iald hx hb hE.1 hP 1 1 rfl rfl (kr_in b_2 rfl) dX7_locksOf_30 ?_
        refine lv_topi (fun v_4 e_4 => ?_)
        refine lv_iload_n hx hb dX7_locksOf_31 rfl (lv_at hl 3 rfl) ?_
        refine lv_ishr hx hb dX7_locksOf_32 ?_
        refine lv_topi (fun v_5 e_5 => ?_)
        refine lv_iconst (v := 1) hx hb dX7_locksOf_33 (by decide) ?_
        refine lv_iand hx hb dX7_locksOf_34 ?_
        refine lv_topi (fun v_6 e_6 => ?_)
        have b_6 : kr 0 1 v_6 := kr_and e_6 1 (by decide) rfl
        refine lv_aload_n hx hb dX7_locksOf_35 rfl (lv_at hl 2 rfl) ?_
        refine va_get (D := D) (ci := 6) (v := .ref h_sharers) (C := RX7) (T := TX7) (N := 8) hx hb hts u_X7 hown hE.1 hP 0 rfl rfl 6 (by decide) (hts _ w_180) (fun _ h9 => h9) rfl dX7_locksOf_36 ?_
        refine lv_iload_n hx hb dX7_locksOf_39 rfl (lv_at hl 0 rfl) ?_
        refine va_iald hx hb hE.1 hP 2 1 rfl rfl (kr_in b_2 rfl) dX7_locksOf_40 ?_
        refine lv_topi (fun v_7 e_7 => ?_)
        refine lv_iload_n hx hb dX7_locksOf_41 rfl (lv_at hl 3 rfl) ?_
        refine lv_ishr hx hb dX7_locksOf_42 ?_
        refine lv_topi (fun v_8 e_8 => ?_)
        refine lv_iconst (v := 1) hx hb dX7_locksOf_43 (by decide) ?_
        refine lv_iand hx hb dX7_locksOf_44 ?_
        refine lv_topi (fun v_9 e_9 => ?_)
        have b_9 : kr 0 1 v_9 := kr_and e_9 1 (by decide) rfl
        refine lv_iadd hx hb dX7_locksOf_45 ?_
        refine lv_topi (fun v_10 e_10 => ?_)
        have t_10 : v_10.toInt = v_6.toInt + v_9.toInt := kt_add e_10 b_6 b_9 rfl
        have b_10 : kr 0 2 v_10 := kr_add (x := v_6) (y := v_9) t_10 b_6 b_9 rfl
        refine lv_iadd hx hb dX7_locksOf_46 ?_
        refine lv_topi (fun v_11 e_11 => ?_)
        refine lv_istore_n (lv' := [(2, .int v_11), (3, .int x16_l_3), (0, .ref h), (1, .int p0)]) hx hb dX7_locksOf_47 rfl hl (by decide) rfl (fun ls hl => ?_)
        obtain ⟨v_12, e_12⟩ : ∃ y : Int32, y = x16_l_3 + 1 := ⟨_, rfl⟩
        have t_12 : v_12.toInt = x16_l_3.toInt + 1 := kt_add e_12 b_2 (kr_c 1 1 rfl) rfl
        have b_12 : kr 1 24 v_12 := kr_add (x := x16_l_3) (y := 1) t_12 b_2 (kr_c 1 1 rfl) rfl
        refine lv_iinc (v := v_12) (lv' := [(3, .int v_12), (2, .int v_11), (0, .ref h), (1, .int p0)]) hx hb dX7_locksOf_48 hl (k := 1) rfl (by rw [e_12]; rfl) (by decide) rfl (fun ls hl => ?_)
        refine lv_goto (tgt := 16) hx hb dX7_locksOf_51 (by decide) ?_
        exact ih_16 v_12 v_11 _ (km_up hn_16 t_12 b_12 rfl) (kr_w b_12 rfl) (lv_sub hl [0, 1, 2, 3] rfl)
  refine lv_aload_n hx hb dX7_locksOf_0 rfl (lv_at hl 0 rfl) ?_
  refine va_get (D := D) (ci := 6) (v := .ref h_gaps) (C := RX7) (T := TX7) (N := 8) hx hb hts u_X7 hown hE.1 hP 0 rfl rfl 5 (by decide) (hts _ w_177) (fun _ h9 => h9) rfl dX7_locksOf_1 ?_
  refine lv_aload_n hx hb dX7_locksOf_4 rfl (lv_at hl 0 rfl) ?_
  refine va_get (D := D) (ci := 6) (v := .int n_h_size) (C := RX7) (T := TX7) (N := 8) hx hb hts u_X7 hown hE.1 hP 0 rfl rfl 0 (by decide) (hts _ w_157) (fun _ h9 => h9) rfl dX7_locksOf_5 ?_
  refine va_iald hx hb hE.1 hP 1 1 rfl rfl (kr_in b_h_size rfl) dX7_locksOf_8 ?_
  refine lv_topi (fun v_13 e_13 => ?_)
  refine lv_iload_n hx hb dX7_locksOf_9 rfl (lv_at hl 1 rfl) ?_
  refine lv_ishr hx hb dX7_locksOf_10 ?_
  refine lv_topi (fun v_14 e_14 => ?_)
  refine lv_iconst (v := 1) hx hb dX7_locksOf_11 (by decide) ?_
  refine lv_iand hx hb dX7_locksOf_12 ?_
  refine lv_topi (fun v_15 e_15 => ?_)
  have b_15 : kr 0 1 v_15 := kr_and e_15 1 (by decide) rfl
  refine lv_istore_n (lv' := [(2, .int v_15), (0, .ref h), (1, .int p0)]) hx hb dX7_locksOf_13 rfl hl (by decide) rfl (fun ls hl => ?_)
  refine lv_iconst (v := 0) hx hb dX7_locksOf_14 (by decide) ?_
  refine lv_istore_n (lv' := [(3, .int 0), (2, .int v_15), (0, .ref h), (1, .int p0)]) hx hb dX7_locksOf_15 rfl hl (by decide) rfl (fun ls hl => ?_)
  exact J_16 _ 0 v_15 _ (Nat.lt_succ_self _) (kr_w (kr_c 0 0 rfl) rfl) (lv_sub hl [0, 1, 2, 3] rfl)
set_option maxHeartbeats 4000000 in
set_option maxRecDepth 100000 in
theorem c_X7_lockByNumber (l : Launch) (D : va_G) (cB cI cJ cD : ClassId) (h : Nat) (h_gaps : Nat) (h_sharers : Nat) (h_wholes : Nat) (h_bits : Nat) (h_value : Nat) (h_cutter : Nat) (h_putter : Nat) (n_h_size : Int32) (f_h_gaps : Nat → Int32) (f_h_sharers : Nat → Int32) (f_h_wholes : Nat → Int32) (p0 : Int32) (p1 : Int32) (sz : Nat) (b_h_size : kr 0 24 n_h_size) : Met l yX7_lockByNumber (kk_W yX7_lockByNumber cX7_lockByNumber 6 (some .int)) ({ frames := 1, cells := 0, slots := 0, locals := 22 }) (va_Pc [.ref h, .int p0, .int p1] (kk_pre D cB cI cJ cD [kO h 6 [.int n_h_size, .ref h_bits, .ref h_value, .ref h_cutter, .ref h_putter, .ref h_gaps, .ref h_sharers, .ref h_wholes], kI cI h_gaps 25 f_h_gaps, kI cI h_sharers 24 f_h_sharers, kI cI h_wholes 24 f_h_wholes] sz)) (vp_Si (fun r => kr (-2) 242 r)) 0 0 (fun _ => False) := by
  refine kk_pstart (y := yX7_lockByNumber) (maxL := 6) (av := [.ref h, .int p0, .int p1]) (by decide) (Nat.le_of_ble_eq_true rfl) ?_
  intro p e s m below meth c ls hx hb hr hml hown hts hE hlocks hsz hP hD hl
  have hown : s.vm.findClass RX7 = some m.cls := hown
  have hl : lv_has ls 6 [(0, .ref h), (1, .int p0), (2, .int p1)] := hl
  generalize hQQ : MQ below _ _ s _ _ _ = QQ
  have J_5 : ∀ (n : Nat) (x5_l_4 : Int32) (x5_l_3 : Int32) (ls : Array Slot), (25 - x5_l_4.toInt).toNat < n → kr 0 25 x5_l_4 → lv_has ls 6 [(4, .int x5_l_4), (3, .int x5_l_3), (0, .ref h), (1, .int p0)] → W p l e ({ frames := 1, cells := 0, slots := 0, locals := 22 }) s m ([.ref h, .int p0, .int p1] : List Value).toArray below meth c s.heap [] 0 0 QQ (F0 m 5 ls []) := by
    intro n
    induction n with
    | zero =>
      intro x5_l_4 x5_l_3 ls hn_5 bx5_l_4 hl
      exact absurd hn_5 (Nat.not_lt_zero _)
    | succ n ih_5 =>
      intro x5_l_4 x5_l_3 ls hn_5 bx5_l_4 hl
      have J_71 : ∀ (x71_l_3 : Int32) (ls : Array Slot), kr 0 24 x5_l_4 → lv_has ls 6 [(4, .int x5_l_4), (3, .int x71_l_3), (0, .ref h), (1, .int p0)] → W p l e ({ frames := 1, cells := 0, slots := 0, locals := 22 }) s m ([.ref h, .int p0, .int p1] : List Value).toArray below meth c s.heap [] 0 0 QQ (F0 m 71 ls []) := by
        intro x71_l_3 ls c71_x5_l_4 hl
        obtain ⟨v_1, e_1⟩ : ∃ y : Int32, y = x5_l_4 + 1 := ⟨_, rfl⟩
        have t_1 : v_1.toInt = x5_l_4.toInt + 1 := kt_add e_1 c71_x5_l_4 (kr_c 1 1 rfl) rfl
        have b_1 : kr 1 25 v_1 := kr_add (x := x5_l_4) (y := 1) t_1 c71_x5_l_4 (kr_c 1 1 rfl) rfl
        refine lv_iinc (v := v_1) (lv' := [(4, .int v_1), (3, .int x71_l_3), (0, .ref h), (1, .int p0)]) hx hb dX7_lockByNumber_71 hl (k := 0) rfl (by rw [e_1]; rfl) (by decide) rfl (fun ls hl => ?_)
        refine lv_goto (tgt := 5) hx hb dX7_lockByNumber_74 (by decide) ?_
        exact ih_5 v_1 x71_l_3 _ (km_up hn_5 t_1 b_1 rfl) (kr_w b_1 rfl) (lv_sub hl [0, 1, 2, 3] rfl)
      have J_41 : ∀ (x41_l_3 : Int32) (ls : Array Slot), kr 0 24 x5_l_4 → lv_has ls 6 [(4, .int x5_l_4), (3, .int x41_l_3), (0, .ref h), (1, .int p0)] → W p l e ({ frames := 1, cells := 0, slots := 0, locals := 22 }) s m ([.ref h, .int p0, .int p1] : List Value).toArray below meth c s.heap [] 0 0 QQ (F0 m 41 ls []) := by
        intro x41_l_3 ls c41_x5_l_4 hl
        refine lv_aload_n hx hb dX7_lockByNumber_41 rfl (lv_at hl 2 rfl) ?_
        refine lv_iload hx hb dX7_lockByNumber_42 (lv_at hl 0 rfl) ?_
        refine lv_iload_n hx hb dX7_lockByNumber_44 rfl (lv_at hl 3 rfl) ?_
        refine kk_pi (kk_runV (w1 := [kO h 6 [.int n_h_size, .ref h_bits, .ref h_value, .ref h_cutter, .ref h_putter, .ref h_gaps, .ref h_sharers, .ref h_wholes], kI cI h_sharers 24 f_h_sharers, kI cI h_wholes 24 f_h_wholes]) (As := [.int x5_l_4, .int p0]) (rest := []) hx hb hml hown hts hE (c_X7_levelAt l D cB cI cJ cD h h_sharers h_wholes h_bits h_value h_cutter h_putter h_gaps n_h_size f_h_sharers f_h_wholes x5_l_4 p0 s.heap.size b_h_size c41_x5_l_4) m_X7_levelAt w_1030 ⟨rfl, rfl, Nat.le_of_ble_eq_true rfl, Nat.le_of_ble_eq_true rfl⟩ (hP.sub [0, 2, 3] rfl) (hD.sub [0, 2, 3] (by decide +kernel) rfl) 0 6 rfl rfl rfl hl.1 (Nat.le_of_ble_eq_true rfl) dX7_lockByNumber_45 ⟨Nat.le_of_ble_eq_true rfl, Nat.le_of_ble_eq_true rfl⟩) (fun r_2 p_2 => ?_)
        have b_2 : kr 0 2 r_2 := p_2
        refine lv_istore (lv' := [(5, .int r_2), (4, .int x5_l_4), (3, .int x41_l_3), (0, .ref h), (1, .int p0)]) hx hb dX7_lockByNumber_48 hl (by decide) rfl (fun ls hl => ?_)
        refine lv_iload hx hb dX7_lockByNumber_50 (lv_at hl 0 rfl) ?_
        refine lv_if_eq (tgt := 71) hx hb dX7_lockByNumber_52 (by decide) (fun c_3 => ?_) (fun c_3 => ?_)
        · have b_4 : kr 0 0 r_2 := kr_eq_l b_2 (kr_c 0 0 rfl) c_3 rfl
          exact J_71 x41_l_3 _ c41_x5_l_4 (lv_sub hl [1, 2, 3, 4] rfl)
        · have b_5 : kr 1 2 r_2 := kr_ne_lo b_2 c_3 rfl
          refine lv_iload_n hx hb dX7_lockByNumber_55 rfl (lv_at hl 2 rfl) ?_
          refine lv_if_ne (tgt := 68) hx hb dX7_lockByNumber_56 (by decide) (fun c_6 => ?_) (fun c_6 => ?_)
          · obtain ⟨v_7, e_7⟩ : ∃ y : Int32, y = x41_l_3 + (-1) := ⟨_, rfl⟩
            refine lv_iinc (v := v_7) (lv' := [(3, .int v_7), (5, .int r_2), (4, .int x5_l_4), (0, .ref h), (1, .int p0)]) hx hb dX7_lockByNumber_68 hl (k := 2) rfl (by rw [e_7]; rfl) (by decide) rfl (fun ls hl => ?_)
            exact J_71 v_7 _ c41_x5_l_4 (lv_sub hl [2, 0, 3, 4] rfl)
          · have b_8 : kr 0 0 x41_l_3 := kr_eq_l (kr_all x41_l_3) (kr_c 0 0 rfl) c_6 rfl
            refine lv_bipush (v := 10) hx hb dX7_lockByNumber_59 (by decide) ?_
            refine lv_iload hx hb dX7_lockByNumber_61 (lv_at hl 1 rfl) ?_
            refine lv_imul hx hb dX7_lockByNumber_63 ?_
            refine lv_topi (fun v_9 e_9 => ?_)
            have t_9 : v_9.toInt = 10 * x5_l_4.toInt := kt_cmul e_9 c41_x5_l_4 rfl
            have b_9 : kr 0 240 v_9 := kr_mul t_9 c41_x5_l_4 rfl
            refine lv_iload hx hb dX7_lockByNumber_64 (lv_at hl 0 rfl) ?_
            refine lv_iadd hx hb dX7_lockByNumber_66 ?_
            refine lv_topi (fun v_10 e_10 => ?_)
            have t_10 : v_10.toInt = v_9.toInt + r_2.toInt := kt_add e_10 b_9 b_5 rfl
            have b_10 : kr 1 242 v_10 := kr_add (x := v_9) (y := r_2) t_10 b_9 b_5 rfl
            subst hQQ
            exact kk_pret_i hx hb hr hlocks (kr_w b_10 rfl) dX7_lockByNumber_67
      refine lv_iload hx hb dX7_lockByNumber_5 (lv_at hl 0 rfl) ?_
      refine lv_aload_n hx hb dX7_lockByNumber_7 rfl (lv_at hl 2 rfl) ?_
      refine va_get (D := D) (ci := 6) (v := .int n_h_size) (C := RX7) (T := TX7) (N := 8) hx hb hts u_X7 hown hE.1 hP 0 rfl rfl 0 (by decide) (hts _ w_157) (fun _ h9 => h9) rfl dX7_lockByNumber_8 ?_
      refine lv_icmp_gt (tgt := 77) hx hb dX7_lockByNumber_11 (by decide) (fun c_11 => ?_) (fun c_11 => ?_)
      · have i_11 : n_h_size.toInt < x5_l_4.toInt := (ki_lt c_11)
        have b_12 : kr 1 25 x5_l_4 := kr_lt_r b_h_size bx5_l_4 i_11 rfl
        refine lv_bipush (v := (-2)) hx hb dX7_lockByNumber_77 (by decide) ?_
        subst hQQ
        exact kk_pret_i hx hb hr hlocks (kr_w (kr_c (-2) (-2) rfl) rfl) dX7_lockByNumber_79
      · have i_11 : x5_l_4.toInt ≤ n_h_size.toInt := (ki_nlt c_11)
        have b_13 : kr 0 24 x5_l_4 := kr_le_l bx5_l_4 b_h_size i_11 rfl
        refine lv_aload_n hx hb dX7_lockByNumber_14 rfl (lv_at hl 2 rfl) ?_
        refine va_get (D := D) (ci := 6) (v := .ref h_gaps) (C := RX7) (T := TX7) (N := 8) hx hb hts u_X7 hown hE.1 hP 0 rfl rfl 5 (by decide) (hts _ w_177) (fun _ h9 => h9) rfl dX7_lockByNumber_15 ?_
        refine lv_iload hx hb dX7_lockByNumber_18 (lv_at hl 0 rfl) ?_
        refine va_iald hx hb hE.1 hP 1 1 rfl rfl (kr_in b_13 rfl) dX7_lockByNumber_20 ?_
        refine lv_topi (fun v_14 e_14 => ?_)
        refine lv_iload_n hx hb dX7_lockByNumber_21 rfl (lv_at hl 3 rfl) ?_
        refine lv_ishr hx hb dX7_lockByNumber_22 ?_
        refine lv_topi (fun v_15 e_15 => ?_)
        refine lv_iconst (v := 1) hx hb dX7_lockByNumber_23 (by decide) ?_
        refine lv_iand hx hb dX7_lockByNumber_24 ?_
        refine lv_topi (fun v_16 e_16 => ?_)
        have b_16 : kr 0 1 v_16 := kr_and e_16 1 (by decide) rfl
        refine lv_if_eq (tgt := 41) hx hb dX7_lockByNumber_25 (by decide) (fun c_17 => ?_) (fun c_17 => ?_)
        · have b_18 : kr 0 0 v_16 := kr_eq_l b_16 (kr_c 0 0 rfl) c_17 rfl
          exact J_41 x5_l_3 _ b_13 (lv_sub hl [0, 1, 2, 3] rfl)
        · have b_19 : kr 1 1 v_16 := kr_ne_lo b_16 c_17 rfl
          refine lv_iload_n hx hb dX7_lockByNumber_28 rfl (lv_at hl 1 rfl) ?_
          refine lv_if_ne (tgt := 38) hx hb dX7_lockByNumber_29 (by decide) (fun c_20 => ?_) (fun c_20 => ?_)
          · obtain ⟨v_21, e_21⟩ : ∃ y : Int32, y = x5_l_3 + (-1) := ⟨_, rfl⟩
            refine lv_iinc (v := v_21) (lv' := [(3, .int v_21), (4, .int x5_l_4), (0, .ref h), (1, .int p0)]) hx hb dX7_lockByNumber_38 hl (k := 1) rfl (by rw [e_21]; rfl) (by decide) rfl (fun ls hl => ?_)
            exact J_41 v_21 _ b_13 (lv_sub hl [1, 0, 2, 3] rfl)
          · have b_22 : kr 0 0 x5_l_3 := kr_eq_l (kr_all x5_l_3) (kr_c 0 0 rfl) c_20 rfl
            refine lv_bipush (v := 10) hx hb dX7_lockByNumber_32 (by decide) ?_
            refine lv_iload hx hb dX7_lockByNumber_34 (lv_at hl 0 rfl) ?_
            refine lv_imul hx hb dX7_lockByNumber_36 ?_
            refine lv_topi (fun v_23 e_23 => ?_)
            have t_23 : v_23.toInt = 10 * x5_l_4.toInt := kt_cmul e_23 b_13 rfl
            have b_23 : kr 0 240 v_23 := kr_mul t_23 b_13 rfl
            subst hQQ
            exact kk_pret_i hx hb hr hlocks (kr_w b_23 rfl) dX7_lockByNumber_37
  refine lv_iload_n hx hb dX7_lockByNumber_0 rfl (lv_at hl 2 rfl) ?_
  refine lv_istore_n (lv' := [(3, .int p1), (0, .ref h), (1, .int p0), (2, .int p1)]) hx hb dX7_lockByNumber_1 rfl hl (by decide) rfl (fun ls hl => ?_)
  refine lv_iconst (v := 0) hx hb dX7_lockByNumber_2 (by decide) ?_
  refine lv_istore (lv' := [(4, .int 0), (3, .int p1), (0, .ref h), (1, .int p0), (2, .int p1)]) hx hb dX7_lockByNumber_3 hl (by decide) rfl (fun ls hl => ?_)
  exact J_5 _ 0 p1 _ (Nat.lt_succ_self _) (kr_w (kr_c 0 0 rfl) rfl) (lv_sub hl [0, 1, 2, 3] rfl)
set_option maxHeartbeats 4000000 in
set_option maxRecDepth 100000 in
theorem c_X7_leavesGap (l : Launch) (D : va_G) (cB cI cJ cD : ClassId) (h : Nat) (h_gaps : Nat) (h_bits : Nat) (h_value : Nat) (h_cutter : Nat) (h_putter : Nat) (h_sharers : Nat) (h_wholes : Nat) (n_h_size : Int32) (f_h_gaps : Nat → Int32) (f_h_bits : Nat → Int32) (p0 : Int32) (p1 : Int32) (p2 : Int32) (sz : Nat) (b_h_size : kr 0 24 n_h_size) (b_p1 : kr 0 24 p1) : Met l yX7_leavesGap (kk_W yX7_leavesGap cX7_leavesGap 5 (some .boolean)) ({ frames := 0, cells := 0, slots := 0, locals := 0 }) (va_Pc [.ref h, .int p0, .int p1, .int p2] (kk_pre D cB cI cJ cD [kO h 6 [.int n_h_size, .ref h_bits, .ref h_value, .ref h_cutter, .ref h_putter, .ref h_gaps, .ref h_sharers, .ref h_wholes], kI cI h_gaps 25 f_h_gaps, kI cI h_bits 24 f_h_bits] sz)) (vp_Si (fun r => kr 0 1 r)) 0 0 (fun _ => False) := by
  refine kk_pstart (y := yX7_leavesGap) (maxL := 5) (av := [.ref h, .int p0, .int p1, .int p2]) (by decide) (Nat.le_of_ble_eq_true rfl) ?_
  intro p e s m below meth c ls hx hb hr hml hown hts hE hlocks hsz hP hD hl
  have hown : s.vm.findClass RX7 = some m.cls := hown
  have hl : lv_has ls 5 [(0, .ref h), (1, .int p0), (2, .int p1), (3, .int p2)] := hl
  generalize hQQ : MQ below _ _ s _ _ _ = QQ
  have J_3 : ∀ (n : Nat) (x3_l_4 : Int32) (ls : Array Slot), (25 - x3_l_4.toInt).toNat < n → kr 0 25 x3_l_4 → lv_has ls 5 [(4, .int x3_l_4), (0, .ref h), (1, .int p0), (3, .int p2)] → W p l e ({ frames := 0, cells := 0, slots := 0, locals := 0 }) s m ([.ref h, .int p0, .int p1, .int p2] : List Value).toArray below meth c s.heap [] 0 0 QQ (F0 m 3 ls []) := by
    intro n
    induction n with
    | zero =>
      intro x3_l_4 ls hn_3 bx3_l_4 hl
      exact absurd hn_3 (Nat.not_lt_zero _)
    | succ n ih_3 =>
      intro x3_l_4 ls hn_3 bx3_l_4 hl
      have J_52 : ∀ (ls : Array Slot), kr 0 24 x3_l_4 → lv_has ls 5 [(4, .int x3_l_4), (0, .ref h), (1, .int p0), (3, .int p2)] → W p l e ({ frames := 0, cells := 0, slots := 0, locals := 0 }) s m ([.ref h, .int p0, .int p1, .int p2] : List Value).toArray below meth c s.heap [] 0 0 QQ (F0 m 52 ls []) := by
        intro  ls c52_x3_l_4 hl
        obtain ⟨v_1, e_1⟩ : ∃ y : Int32, y = x3_l_4 + 1 := ⟨_, rfl⟩
        have t_1 : v_1.toInt = x3_l_4.toInt + 1 := kt_add e_1 c52_x3_l_4 (kr_c 1 1 rfl) rfl
        have b_1 : kr 1 25 v_1 := kr_add (x := x3_l_4) (y := 1) t_1 c52_x3_l_4 (kr_c 1 1 rfl) rfl
        refine lv_iinc (v := v_1) (lv' := [(4, .int v_1), (0, .ref h), (1, .int p0), (3, .int p2)]) hx hb dX7_leavesGap_52 hl (k := 0) rfl (by rw [e_1]; rfl) (by decide) rfl (fun ls hl => ?_)
        refine lv_goto (tgt := 3) hx hb dX7_leavesGap_55 (by decide) ?_
        exact ih_3 v_1 _ (km_up hn_3 t_1 b_1 rfl) (kr_w b_1 rfl) (lv_sub hl [0, 1, 2, 3] rfl)
      refine lv_iload hx hb dX7_leavesGap_3 (lv_at hl 0 rfl) ?_
      refine lv_aload_n hx hb dX7_leavesGap_5 rfl (lv_at hl 1 rfl) ?_
      refine va_get (D := D) (ci := 6) (v := .int n_h_size) (C := RX7) (T := TX7) (N := 8) hx hb hts u_X7 hown hE.1 hP 0 rfl rfl 0 (by decide) (hts _ w_157) (fun _ h9 => h9) rfl dX7_leavesGap_6 ?_
      refine lv_icmp_gt (tgt := 58) hx hb dX7_leavesGap_9 (by decide) (fun c_2 => ?_) (fun c_2 => ?_)
      · have i_2 : n_h_size.toInt < x3_l_4.toInt := (ki_lt c_2)
        have b_3 : kr 1 25 x3_l_4 := kr_lt_r b_h_size bx3_l_4 i_2 rfl
        refine lv_iconst (v := 0) hx hb dX7_leavesGap_58 (by decide) ?_
        subst hQQ
        exact kk_pret_z hx hb hr hlocks (by decide) (kr_w (kr_c 0 0 rfl) rfl) dX7_leavesGap_59
      · have i_2 : x3_l_4.toInt ≤ n_h_size.toInt := (ki_nlt c_2)
        have b_4 : kr 0 24 x3_l_4 := kr_le_l bx3_l_4 b_h_size i_2 rfl
        refine lv_aload_n hx hb dX7_leavesGap_12 rfl (lv_at hl 1 rfl) ?_
        refine va_get (D := D) (ci := 6) (v := .ref h_gaps) (C := RX7) (T := TX7) (N := 8) hx hb hts u_X7 hown hE.1 hP 0 rfl rfl 5 (by decide) (hts _ w_177) (fun _ h9 => h9) rfl dX7_leavesGap_13 ?_
        refine lv_iload hx hb dX7_leavesGap_16 (lv_at hl 0 rfl) ?_
        refine va_iald hx hb hE.1 hP 1 1 rfl rfl (kr_in b_4 rfl) dX7_leavesGap_18 ?_
        refine lv_topi (fun v_5 e_5 => ?_)
        refine lv_iconst (v := 1) hx hb dX7_leavesGap_19 (by decide) ?_
        refine lv_iload_n hx hb dX7_leavesGap_20 rfl (lv_at hl 2 rfl) ?_
        refine lv_ishl hx hb dX7_leavesGap_21 ?_
        refine lv_topi (fun v_6 e_6 => ?_)
        refine lv_iconst (v := (-1)) hx hb dX7_leavesGap_22 (by decide) ?_
        refine lv_ixor hx hb dX7_leavesGap_23 ?_
        refine lv_topi (fun v_7 e_7 => ?_)
        refine lv_iand hx hb dX7_leavesGap_24 ?_
        refine lv_topi (fun v_8 e_8 => ?_)
        refine lv_if_ne (tgt := 30) hx hb dX7_leavesGap_25 (by decide) (fun c_9 => ?_) (fun c_9 => ?_)
        · refine lv_iload hx hb dX7_leavesGap_30 (lv_at hl 0 rfl) ?_
          refine lv_aload_n hx hb dX7_leavesGap_32 rfl (lv_at hl 1 rfl) ?_
          refine va_get (D := D) (ci := 6) (v := .int n_h_size) (C := RX7) (T := TX7) (N := 8) hx hb hts u_X7 hown hE.1 hP 0 rfl rfl 0 (by decide) (hts _ w_157) (fun _ h9 => h9) rfl dX7_leavesGap_33 ?_
          refine lv_icmp_ge (tgt := 52) hx hb dX7_leavesGap_36 (by decide) (fun c_10 => ?_) (fun c_10 => ?_)
          · have i_10 : n_h_size.toInt ≤ x3_l_4.toInt := (ki_le c_10)
            exact J_52 _ b_4 (lv_sub hl [0, 1, 2, 3] rfl)
          · have i_10 : x3_l_4.toInt < n_h_size.toInt := (ki_nle c_10)
            have b_11 : kr 0 23 x3_l_4 := kr_lt_l b_4 b_h_size i_10 rfl
            have b_12 : kr 1 24 n_h_size := kr_lt_r b_4 b_h_size i_10 rfl
            refine lv_aload_n hx hb dX7_leavesGap_39 rfl (lv_at hl 1 rfl) ?_
            refine va_get (D := D) (ci := 6) (v := .ref h_bits) (C := RX7) (T := TX7) (N := 8) hx hb hts u_X7 hown hE.1 hP 0 rfl rfl 1 (by decide) (hts _ w_163) (fun _ h9 => h9) rfl dX7_leavesGap_40 ?_
            refine lv_iload hx hb dX7_leavesGap_43 (lv_at hl 0 rfl) ?_
            refine va_iald hx hb hE.1 hP 2 1 rfl rfl (kr_in b_11 rfl) dX7_leavesGap_45 ?_
            refine lv_topi (fun v_13 e_13 => ?_)
            refine lv_iload_n hx hb dX7_leavesGap_46 rfl (lv_at hl 3 rfl) ?_
            refine lv_icmp_le (tgt := 52) hx hb dX7_leavesGap_47 (by decide) (fun c_14 => ?_) (fun c_14 => ?_)
            · have i_14 : v_13.toInt ≤ p2.toInt := (ki_le c_14)
              exact J_52 _ (kr_w b_11 rfl) (lv_sub hl [0, 1, 2, 3] rfl)
            · have i_14 : p2.toInt < v_13.toInt := (ki_nle c_14)
              have b_15 : kr (-2147483648) 2147483646 p2 := kr_lt_l (kr_all p2) (kr_all v_13) i_14 rfl
              have b_16 : kr (-2147483647) 2147483647 v_13 := kr_lt_r (kr_all p2) (kr_all v_13) i_14 rfl
              refine lv_iconst (v := 0) hx hb dX7_leavesGap_50 (by decide) ?_
              subst hQQ
              exact kk_pret_z hx hb hr hlocks (by decide) (kr_w (kr_c 0 0 rfl) rfl) dX7_leavesGap_51
        · have b_17 : kr 0 0 v_8 := kr_eq_l (kr_all v_8) (kr_c 0 0 rfl) c_9 rfl
          refine lv_iconst (v := 1) hx hb dX7_leavesGap_28 (by decide) ?_
          subst hQQ
          exact kk_pret_z hx hb hr hlocks (by decide) (kr_w (kr_c 1 1 rfl) rfl) dX7_leavesGap_29
  refine lv_iload_n hx hb dX7_leavesGap_0 rfl (lv_at hl 2 rfl) ?_
  refine lv_istore (lv' := [(4, .int p1), (0, .ref h), (1, .int p0), (2, .int p1), (3, .int p2)]) hx hb dX7_leavesGap_1 hl (by decide) rfl (fun ls hl => ?_)
  exact J_3 _ p1 _ (Nat.lt_succ_self _) (kr_w b_p1 rfl) (lv_sub hl [0, 1, 2, 4] rfl)
set_option maxHeartbeats 4000000 in
set_option maxRecDepth 100000 in
theorem c_X7_widthAt (l : Launch) (D : va_G) (cB cI cJ cD : ClassId) (h : Nat) (h_bits : Nat) (h_value : Nat) (h_cutter : Nat) (h_putter : Nat) (h_gaps : Nat) (h_sharers : Nat) (h_wholes : Nat) (n_h_size : Int32) (f_h_bits : Nat → Int32) (p0 : Int32) (sz : Nat) (b_h_size : kr 0 24 n_h_size) (b_p0 : kr 0 23 p0) : MetD lw_cs l yX7_widthAt (kk_W yX7_widthAt cX7_widthAt 3 (some .float)) ({ frames := 1, cells := 0, slots := 0, locals := 24 }) (va_Pc [.ref h, .int p0] (kk_pre D cB cI cJ cD [kO h 6 [.int n_h_size, .ref h_bits, .ref h_value, .ref h_cutter, .ref h_putter, .ref h_gaps, .ref h_sharers, .ref h_wholes], kI cI h_bits 24 f_h_bits] sz)) (vp_Sf (fun r => True)) 0 0 (fun _ => False) := by
  refine kk_pstartD (y := yX7_widthAt) (maxL := 3) (av := [.ref h, .int p0]) (by decide) (Nat.le_of_ble_eq_true rfl) ?_
  intro p e s m below meth c ls hx hb hr hml hown hts hE hlocks hsz hP hD hl hd
  have hts0 := hts
  have hE0 := hE
  have hts := dr_words hts0 s.drawn
  have hE := kk_E.warm (U := s.setDrawn s.drawn) (State.WarmedH.refl s) hE0
  have hown : s.vm.findClass RX7 = some m.cls := hown
  have hl : lv_has ls 3 [(0, .ref h), (1, .int p0)] := hl
  generalize hQQ : MQD lw_cs below _ _ s _ _ _ = QQ
  have J_19 : ∀ (dd : Drawn) (x19_s_0 : UInt32) (ls : Array Slot), s.drawn.sameBut dd lw_cs → lv_has ls 3 [(0, .ref h), (1, .int p0)] → W p l e ({ frames := 1, cells := 0, slots := 0, locals := 24 }) (s.setDrawn dd) m ([.ref h, .int p0] : List Value).toArray below meth c s.heap [] 0 0 QQ (F0 m 19 ls [.float x19_s_0]) := by
    intro dd x19_s_0 ls hd hl
    have hts := dr_words hts0 dd
    have hE := kk_E.warm (U := s.setDrawn dd) (State.WarmedH.refl s) hE0
    refine lv_fstore_n (lv' := [(2, .float x19_s_0), (0, .ref h), (1, .int p0)]) hx hb dX7_widthAt_19 rfl hl (by decide) rfl (fun ls hl => ?_)
    refine lv_aload_n hx hb dX7_widthAt_20 rfl (lv_at hl 1 rfl) ?_
    refine va_get (D := D) (ci := 6) (v := .ref h_bits) (C := RX7) (T := TX7) (N := 8) hx hb hts u_X7 hown hE.1 hP 0 rfl rfl 1 (by decide) (hts _ w_163) (fun _ h9 => h9) rfl dX7_widthAt_21 ?_
    refine lv_iload_n hx hb dX7_widthAt_24 rfl (lv_at hl 2 rfl) ?_
    refine va_iald hx hb hE.1 hP 1 1 rfl rfl (kr_in b_p0 rfl) dX7_widthAt_25 ?_
    refine lv_topi (fun v_1 e_1 => ?_)
    refine kk_pf (kk_runS (w1 := []) (As := [.int v_1]) (rest := []) hx hb hml hown hts hE (c_X4_floatOf l D cB cI cJ cD v_1 s.heap.size) m_X4_floatOf w_679 ⟨rfl, rfl, Nat.le_of_ble_eq_true rfl, Nat.le_of_ble_eq_true rfl⟩ (hP.sub [] rfl) (hD.sub [] (by decide +kernel) rfl) rfl hl.1 (Nat.le_of_ble_eq_true rfl) dX7_widthAt_26 ⟨Nat.le_of_ble_eq_true rfl, Nat.le_of_ble_eq_true rfl⟩) (fun r_2 p_2 => ?_)
    refine lv_fload_n hx hb dX7_widthAt_29 rfl (lv_at hl 0 rfl) ?_
    refine lv_fsub_any hd lw_bits hx hb dX7_widthAt_30 (fun r_3 dd _ hd => ?_)
    have hts := dr_words hts0 dd
    have hE := kk_E.warm (U := s.setDrawn dd) (State.WarmedH.refl s) hE0
    subst hQQ
    refine W.endD hd ?_
    exact kk_pret_f hx hb hr hlocks trivial dX7_widthAt_31
  refine lv_iload_n hx hb dX7_widthAt_0 rfl (lv_at hl 1 rfl) ?_
  refine lv_if_le (tgt := 18) hx hb dX7_widthAt_1 (by decide) (fun c_4 => ?_) (fun c_4 => ?_)
  · have i_4 : p0.toInt ≤ 0 := (ki_le c_4)
    have b_5 : kr 0 0 p0 := kr_le_l b_p0 (kr_c 0 0 rfl) i_4 rfl
    refine lv_fconst0 hx hb dX7_widthAt_18 ?_
    refine lv_topf (fun v_6 e_6 => ?_)
    exact J_19 _ v_6 _ hd (lv_sub hl [0, 1] rfl)
  · have i_4 : 0 < p0.toInt := (ki_nle c_4)
    have b_7 : kr 1 23 p0 := kr_lt_r (kr_c 0 0 rfl) b_p0 i_4 rfl
    refine lv_aload_n hx hb dX7_widthAt_4 rfl (lv_at hl 0 rfl) ?_
    refine va_get (D := D) (ci := 6) (v := .ref h_bits) (C := RX7) (T := TX7) (N := 8) hx hb hts u_X7 hown hE.1 hP 0 rfl rfl 1 (by decide) (hts _ w_163) (fun _ h9 => h9) rfl dX7_widthAt_5 ?_
    refine lv_iload_n hx hb dX7_widthAt_8 rfl (lv_at hl 1 rfl) ?_
    refine lv_iconst (v := 1) hx hb dX7_widthAt_9 (by decide) ?_
    refine lv_isub hx hb dX7_widthAt_10 ?_
    refine lv_topi (fun v_8 e_8 => ?_)
    have t_8 : v_8.toInt = p0.toInt - 1 := kt_sub e_8 b_7 (kr_c 1 1 rfl) rfl
    have b_8 : kr 0 22 v_8 := kr_sub (x := p0) (y := 1) t_8 b_7 (kr_c 1 1 rfl) rfl
    refine va_iald hx hb hE.1 hP 1 1 rfl rfl (kr_in b_8 rfl) dX7_widthAt_11 ?_
    refine lv_topi (fun v_9 e_9 => ?_)
    refine kk_pf (kk_runS (w1 := []) (As := [.int v_9]) (rest := []) hx hb hml hown hts hE (c_X4_floatOf l D cB cI cJ cD v_9 s.heap.size) m_X4_floatOf w_679 ⟨rfl, rfl, Nat.le_of_ble_eq_true rfl, Nat.le_of_ble_eq_true rfl⟩ (hP.sub [] rfl) (hD.sub [] (by decide +kernel) rfl) rfl hl.1 (Nat.le_of_ble_eq_true rfl) dX7_widthAt_12 ⟨Nat.le_of_ble_eq_true rfl, Nat.le_of_ble_eq_true rfl⟩) (fun r_10 p_10 => ?_)
    refine lv_goto (tgt := 19) hx hb dX7_widthAt_15 (by decide) ?_
    exact J_19 _ r_10 _ hd (lv_sub hl [0, 1] rfl)
set_option maxHeartbeats 4000000 in
set_option maxRecDepth 100000 in
theorem c_X7_middleAt (l : Launch) (D : va_G) (cB cI cJ cD : ClassId) (h : Nat) (h_bits : Nat) (h_value : Nat) (h_cutter : Nat) (h_putter : Nat) (h_gaps : Nat) (h_sharers : Nat) (h_wholes : Nat) (n_h_size : Int32) (f_h_bits : Nat → Int32) (p0 : Int32) (sz : Nat) (b_h_size : kr 0 24 n_h_size) (b_p0 : kr 0 23 p0) : MetD lw_cs l yX7_middleAt (kk_W yX7_middleAt cX7_middleAt 3 (some .float)) ({ frames := 1, cells := 0, slots := 0, locals := 24 }) (va_Pc [.ref h, .int p0] (kk_pre D cB cI cJ cD [kO h 6 [.int n_h_size, .ref h_bits, .ref h_value, .ref h_cutter, .ref h_putter, .ref h_gaps, .ref h_sharers, .ref h_wholes], kI cI h_bits 24 f_h_bits] sz)) (vp_Sf (fun r => True)) 0 0 (fun _ => False) := by
  refine kk_pstartD (y := yX7_middleAt) (maxL := 3) (av := [.ref h, .int p0]) (by decide) (Nat.le_of_ble_eq_true rfl) ?_
  intro p e s m below meth c ls hx hb hr hml hown hts hE hlocks hsz hP hD hl hd
  have hts0 := hts
  have hE0 := hE
  have hts := dr_words hts0 s.drawn
  have hE := kk_E.warm (U := s.setDrawn s.drawn) (State.WarmedH.refl s) hE0
  have hown : s.vm.findClass RX7 = some m.cls := hown
  have hl : lv_has ls 3 [(0, .ref h), (1, .int p0)] := hl
  generalize hQQ : MQD lw_cs below _ _ s _ _ _ = QQ
  have J_19 : ∀ (dd : Drawn) (x19_s_0 : UInt32) (ls : Array Slot), s.drawn.sameBut dd lw_cs → lv_has ls 3 [(0, .ref h), (1, .int p0)] → W p l e ({ frames := 1, cells := 0, slots := 0, locals := 24 }) (s.setDrawn dd) m ([.ref h, .int p0] : List Value).toArray below meth c s.heap [] 0 0 QQ (F0 m 19 ls [.float x19_s_0]) := by
    intro dd x19_s_0 ls hd hl
    have hts := dr_words hts0 dd
    have hE := kk_E.warm (U := s.setDrawn dd) (State.WarmedH.refl s) hE0
    refine lv_fstore_n (lv' := [(2, .float x19_s_0), (0, .ref h), (1, .int p0)]) hx hb dX7_middleAt_19 rfl hl (by decide) rfl (fun ls hl => ?_)
    refine lv_fload_n hx hb dX7_middleAt_20 rfl (lv_at hl 0 rfl) ?_
    refine lv_aload_n hx hb dX7_middleAt_21 rfl (lv_at hl 1 rfl) ?_
    refine va_get (D := D) (ci := 6) (v := .ref h_bits) (C := RX7) (T := TX7) (N := 8) hx hb hts u_X7 hown hE.1 hP 0 rfl rfl 1 (by decide) (hts _ w_163) (fun _ h9 => h9) rfl dX7_middleAt_22 ?_
    refine lv_iload_n hx hb dX7_middleAt_25 rfl (lv_at hl 2 rfl) ?_
    refine va_iald hx hb hE.1 hP 1 1 rfl rfl (kr_in b_p0 rfl) dX7_middleAt_26 ?_
    refine lv_topi (fun v_1 e_1 => ?_)
    refine kk_pf (kk_runS (w1 := []) (As := [.int v_1]) (rest := [.float x19_s_0]) hx hb hml hown hts hE (c_X4_floatOf l D cB cI cJ cD v_1 s.heap.size) m_X4_floatOf w_679 ⟨rfl, rfl, Nat.le_of_ble_eq_true rfl, Nat.le_of_ble_eq_true rfl⟩ (hP.sub [] rfl) (hD.sub [] (by decide +kernel) rfl) rfl hl.1 (Nat.le_of_ble_eq_true rfl) dX7_middleAt_27 ⟨Nat.le_of_ble_eq_true rfl, Nat.le_of_ble_eq_true rfl⟩) (fun r_2 p_2 => ?_)
    refine lv_fadd_any hd lw_bits hx hb dX7_middleAt_30 (fun r_3 dd _ hd => ?_)
    have hts := dr_words hts0 dd
    have hE := kk_E.warm (U := s.setDrawn dd) (State.WarmedH.refl s) hE0
    refine lv_fconst2 hx hb dX7_middleAt_31 ?_
    refine lv_topf (fun v_4 e_4 => ?_)
    refine lv_fdiv_any hd lw_bits hx hb dX7_middleAt_32 (fun r_5 dd _ hd => ?_)
    have hts := dr_words hts0 dd
    have hE := kk_E.warm (U := s.setDrawn dd) (State.WarmedH.refl s) hE0
    subst hQQ
    refine W.endD hd ?_
    exact kk_pret_f hx hb hr hlocks trivial dX7_middleAt_33
  refine lv_iload_n hx hb dX7_middleAt_0 rfl (lv_at hl 1 rfl) ?_
  refine lv_if_le (tgt := 18) hx hb dX7_middleAt_1 (by decide) (fun c_6 => ?_) (fun c_6 => ?_)
  · have i_6 : p0.toInt ≤ 0 := (ki_le c_6)
    have b_7 : kr 0 0 p0 := kr_le_l b_p0 (kr_c 0 0 rfl) i_6 rfl
    refine lv_fconst0 hx hb dX7_middleAt_18 ?_
    refine lv_topf (fun v_8 e_8 => ?_)
    exact J_19 _ v_8 _ hd (lv_sub hl [0, 1] rfl)
  · have i_6 : 0 < p0.toInt := (ki_nle c_6)
    have b_9 : kr 1 23 p0 := kr_lt_r (kr_c 0 0 rfl) b_p0 i_6 rfl
    refine lv_aload_n hx hb dX7_middleAt_4 rfl (lv_at hl 0 rfl) ?_
    refine va_get (D := D) (ci := 6) (v := .ref h_bits) (C := RX7) (T := TX7) (N := 8) hx hb hts u_X7 hown hE.1 hP 0 rfl rfl 1 (by decide) (hts _ w_163) (fun _ h9 => h9) rfl dX7_middleAt_5 ?_
    refine lv_iload_n hx hb dX7_middleAt_8 rfl (lv_at hl 1 rfl) ?_
    refine lv_iconst (v := 1) hx hb dX7_middleAt_9 (by decide) ?_
    refine lv_isub hx hb dX7_middleAt_10 ?_
    refine lv_topi (fun v_10 e_10 => ?_)
    have t_10 : v_10.toInt = p0.toInt - 1 := kt_sub e_10 b_9 (kr_c 1 1 rfl) rfl
    have b_10 : kr 0 22 v_10 := kr_sub (x := p0) (y := 1) t_10 b_9 (kr_c 1 1 rfl) rfl
    refine va_iald hx hb hE.1 hP 1 1 rfl rfl (kr_in b_10 rfl) dX7_middleAt_11 ?_
    refine lv_topi (fun v_11 e_11 => ?_)
    refine kk_pf (kk_runS (w1 := []) (As := [.int v_11]) (rest := []) hx hb hml hown hts hE (c_X4_floatOf l D cB cI cJ cD v_11 s.heap.size) m_X4_floatOf w_679 ⟨rfl, rfl, Nat.le_of_ble_eq_true rfl, Nat.le_of_ble_eq_true rfl⟩ (hP.sub [] rfl) (hD.sub [] (by decide +kernel) rfl) rfl hl.1 (Nat.le_of_ble_eq_true rfl) dX7_middleAt_12 ⟨Nat.le_of_ble_eq_true rfl, Nat.le_of_ble_eq_true rfl⟩) (fun r_12 p_12 => ?_)
    refine lv_goto (tgt := 19) hx hb dX7_middleAt_15 (by decide) ?_
    exact J_19 _ r_12 _ hd (lv_sub hl [0, 1] rfl)
set_option maxHeartbeats 4000000 in
set_option maxRecDepth 100000 in
theorem c_X7_keySum (l : Launch) (D : va_G) (cB cI cJ cD : ClassId) (h : Nat) (h_bits : Nat) (h_value : Nat) (h_cutter : Nat) (h_putter : Nat) (h_gaps : Nat) (h_sharers : Nat) (h_wholes : Nat) (n_h_size : Int32) (f_h_bits : Nat → Int32) (sz : Nat) (b_h_size : kr 0 24 n_h_size) : MetD lw_cs l yX7_keySum (kk_W yX7_keySum cX7_keySum 3 (some .float)) ({ frames := 1, cells := 0, slots := 0, locals := 24 }) (va_Pc [.ref h] (kk_pre D cB cI cJ cD [kO h 6 [.int n_h_size, .ref h_bits, .ref h_value, .ref h_cutter, .ref h_putter, .ref h_gaps, .ref h_sharers, .ref h_wholes], kI cI h_bits 24 f_h_bits] sz)) (vp_Sf (fun r => True)) 0 0 (fun _ => False) := by
  refine kk_pstartD (y := yX7_keySum) (maxL := 3) (av := [.ref h]) (by decide) (Nat.le_of_ble_eq_true rfl) ?_
  intro p e s m below meth c ls hx hb hr hml hown hts hE hlocks hsz hP hD hl hd
  have hts0 := hts
  have hE0 := hE
  have hts := dr_words hts0 s.drawn
  have hE := kk_E.warm (U := s.setDrawn s.drawn) (State.WarmedH.refl s) hE0
  have hown : s.vm.findClass RX7 = some m.cls := hown
  have hl : lv_has ls 3 [(0, .ref h)] := hl
  generalize hQQ : MQD lw_cs below _ _ s _ _ _ = QQ
  have J_4 : ∀ (n : Nat) (dd : Drawn) (x4_l_2 : Int32) (x4_l_1 : UInt32) (ls : Array Slot), (24 - x4_l_2.toInt).toNat < n → s.drawn.sameBut dd lw_cs → kr 0 24 x4_l_2 → lv_has ls 3 [(2, .int x4_l_2), (1, .float x4_l_1), (0, .ref h)] → W p l e ({ frames := 1, cells := 0, slots := 0, locals := 24 }) (s.setDrawn dd) m ([.ref h] : List Value).toArray below meth c s.heap [] 0 0 QQ (F0 m 4 ls []) := by
    intro n
    induction n with
    | zero =>
      intro dd x4_l_2 x4_l_1 ls hn_4 hd bx4_l_2 hl
      exact absurd hn_4 (Nat.not_lt_zero _)
    | succ n ih_4 =>
      intro dd x4_l_2 x4_l_1 ls hn_4 hd bx4_l_2 hl
      have hts := dr_words hts0 dd
      have hE := kk_E.warm (U := s.setDrawn dd) (State.WarmedH.refl s) hE0
      refine lv_iload_n hx hb dX7_keySum_4 rfl (lv_at hl 0 rfl) ?_
      refine lv_aload_n hx hb dX7_keySum_5 rfl (lv_at hl 2 rfl) ?_
      refine va_get (D := D) (ci := 6) (v := .int n_h_size) (C := RX7) (T := TX7) (N := 8) hx hb hts u_X7 hown hE.1 hP 0 rfl rfl 0 (by decide) (hts _ w_157) (fun _ h9 => h9) rfl dX7_keySum_6 ?_
      refine lv_icmp_ge (tgt := 30) hx hb dX7_keySum_9 (by decide) (fun c_1 => ?_) (fun c_1 => ?_)
      · have i_1 : n_h_size.toInt ≤ x4_l_2.toInt := (ki_le c_1)
        refine lv_fload_n hx hb dX7_keySum_30 rfl (lv_at hl 1 rfl) ?_
        subst hQQ
        refine W.endD hd ?_
        exact kk_pret_f hx hb hr hlocks trivial dX7_keySum_31
      · have i_1 : x4_l_2.toInt < n_h_size.toInt := (ki_nle c_1)
        have b_2 : kr 0 23 x4_l_2 := kr_lt_l bx4_l_2 b_h_size i_1 rfl
        have b_3 : kr 1 24 n_h_size := kr_lt_r bx4_l_2 b_h_size i_1 rfl
        refine lv_fload_n hx hb dX7_keySum_12 rfl (lv_at hl 1 rfl) ?_
        refine lv_aload_n hx hb dX7_keySum_13 rfl (lv_at hl 2 rfl) ?_
        refine va_get (D := D) (ci := 6) (v := .ref h_bits) (C := RX7) (T := TX7) (N := 8) hx hb hts u_X7 hown hE.1 hP 0 rfl rfl 1 (by decide) (hts _ w_163) (fun _ h9 => h9) rfl dX7_keySum_14 ?_
        refine lv_iload_n hx hb dX7_keySum_17 rfl (lv_at hl 0 rfl) ?_
        refine va_iald hx hb hE.1 hP 1 1 rfl rfl (kr_in b_2 rfl) dX7_keySum_18 ?_
        refine lv_topi (fun v_4 e_4 => ?_)
        refine kk_pf (kk_runS (w1 := []) (As := [.int v_4]) (rest := [.float x4_l_1]) hx hb hml hown hts hE (c_X4_floatOf l D cB cI cJ cD v_4 s.heap.size) m_X4_floatOf w_679 ⟨rfl, rfl, Nat.le_of_ble_eq_true rfl, Nat.le_of_ble_eq_true rfl⟩ (hP.sub [] rfl) (hD.sub [] (by decide +kernel) rfl) rfl hl.1 (Nat.le_of_ble_eq_true rfl) dX7_keySum_19 ⟨Nat.le_of_ble_eq_true rfl, Nat.le_of_ble_eq_true rfl⟩) (fun r_5 p_5 => ?_)
        refine lv_fadd_any hd lw_bits hx hb dX7_keySum_22 (fun r_6 dd _ hd => ?_)
        have hts := dr_words hts0 dd
        have hE := kk_E.warm (U := s.setDrawn dd) (State.WarmedH.refl s) hE0
        refine lv_fstore_n (lv' := [(1, .float r_6), (2, .int x4_l_2), (0, .ref h)]) hx hb dX7_keySum_23 rfl hl (by decide) rfl (fun ls hl => ?_)
        obtain ⟨v_7, e_7⟩ : ∃ y : Int32, y = x4_l_2 + 1 := ⟨_, rfl⟩
        have t_7 : v_7.toInt = x4_l_2.toInt + 1 := kt_add e_7 b_2 (kr_c 1 1 rfl) rfl
        have b_7 : kr 1 24 v_7 := kr_add (x := x4_l_2) (y := 1) t_7 b_2 (kr_c 1 1 rfl) rfl
        refine lv_iinc (v := v_7) (lv' := [(2, .int v_7), (1, .float r_6), (0, .ref h)]) hx hb dX7_keySum_24 hl (k := 1) rfl (by rw [e_7]; rfl) (by decide) rfl (fun ls hl => ?_)
        refine lv_goto (tgt := 4) hx hb dX7_keySum_27 (by decide) ?_
        exact ih_4 _ v_7 r_6 _ (km_up hn_4 t_7 b_7 rfl) hd (kr_w b_7 rfl) (lv_sub hl [0, 1, 2] rfl)
  refine lv_fconst0 hx hb dX7_keySum_0 ?_
  refine lv_topf (fun v_8 e_8 => ?_)
  refine lv_fstore_n (lv' := [(1, .float v_8), (0, .ref h)]) hx hb dX7_keySum_1 rfl hl (by decide) rfl (fun ls hl => ?_)
  refine lv_iconst (v := 0) hx hb dX7_keySum_2 (by decide) ?_
  refine lv_istore_n (lv' := [(2, .int 0), (1, .float v_8), (0, .ref h)]) hx hb dX7_keySum_3 rfl hl (by decide) rfl (fun ls hl => ?_)
  exact J_4 _ _ 0 v_8 _ (Nat.lt_succ_self _) hd (kr_w (kr_c 0 0 rfl) rfl) (lv_sub hl [0, 1, 2] rfl)
