set_option maxHeartbeats 4000000 in
set_option maxRecDepth 100000 in
theorem c_X9_reach (l : Launch) (D : va_G) (cB cI cJ cD : ClassId) (h : Nat) (h_crew : Nat) (h_crew_kind : Nat) (h_crew_low : Nat) (h_shelf : Nat) (h_shelf_bits : Nat) (h_shelf_gaps : Nat) (h_shelf_cutter : Nat) (h_shelf_value : Nat) (h_diary : Nat) (h_diary_changes : Nat) (h_crew_value : Nat) (h_shelf_wholes : Nat) (h_shelf_sharers : Nat) (h_crew_state : Nat) (h_crew_outcome : Nat) (h_crew_deaths : Nat) (h_crew_high : Nat) (h_crew_need : Nat) (h_crew_needKey : Nat) (h_crew_line : Nat) (h_shelf_putter : Nat) (n_h_gapless : Int32) (n_h_looseReads : Int32) (n_h_impatient : Int32) (n_h_need : Int32) (n_h_needKey : Int32) (n_h_crew_size : Int32) (n_h_crew_lineLength : Int32) (f_h_crew_kind : Nat → Int32) (f_h_crew_low : Nat → Int32) (n_h_shelf_size : Int32) (f_h_shelf_bits : Nat → Int32) (f_h_shelf_gaps : Nat → Int32) (f_h_shelf_cutter : Nat → Int32) (f_h_shelf_value : Nat → Int32) (n_h_diary_length : Int32) (f_h_diary_changes : Nat → Int64) (f_h_crew_value : Nat → Int32) (f_h_shelf_wholes : Nat → Int32) (f_h_shelf_sharers : Nat → Int32) (p0 : Int32) (sz : Nat) (b_h_gapless : kr 0 1 n_h_gapless) (b_h_looseReads : kr 0 1 n_h_looseReads) (b_h_impatient : kr 0 1 n_h_impatient) (b_h_crew_size : kr 0 5 n_h_crew_size) (b_h_crew_lineLength : kr 0 5 n_h_crew_lineLength) (b_h_shelf_size : kr 0 24 n_h_shelf_size) (b_h_diary_length : kr 0 600 n_h_diary_length) (b_p0 : kr 0 4 p0) : Met l yX9_reach (kk_W yX9_reach cX9_reach 7 (some .int)) ({ frames := 1, cells := 0, slots := 0, locals := 24 }) (va_Pc [.ref h, .int p0] (kk_pre D cB cI cJ cD [kO h 8 [.ref h_shelf, .ref h_crew, .ref h_diary, .int n_h_gapless, .int n_h_looseReads, .int n_h_impatient, .int n_h_need, .int n_h_needKey], kO h_crew 1 [.int n_h_crew_size, .ref h_crew_state, .ref h_crew_outcome, .ref h_crew_deaths, .ref h_crew_kind, .ref h_crew_low, .ref h_crew_high, .ref h_crew_value, .ref h_crew_need, .ref h_crew_needKey, .ref h_crew_line, .int n_h_crew_lineLength], kI cI h_crew_kind 5 f_h_crew_kind, kI cI h_crew_low 5 f_h_crew_low, kO h_shelf 6 [.int n_h_shelf_size, .ref h_shelf_bits, .ref h_shelf_value, .ref h_shelf_cutter, .ref h_shelf_putter, .ref h_shelf_gaps, .ref h_shelf_sharers, .ref h_shelf_wholes], kI cI h_shelf_bits 24 f_h_shelf_bits, kI cI h_shelf_gaps 25 f_h_shelf_gaps, kI cI h_shelf_cutter 24 f_h_shelf_cutter, kI cI h_shelf_value 24 f_h_shelf_value, kO h_diary 3 [.int n_h_diary_length, .ref h_diary_changes], kJ cJ h_diary_changes 600 f_h_diary_changes, kI cI h_crew_value 5 f_h_crew_value, kI cI h_shelf_wholes 24 f_h_shelf_wholes, kI cI h_shelf_sharers 24 f_h_shelf_sharers] sz)) (kk_Qi D (fun (r : Int32) (u : (Nat → Nat) × (Nat → Nat → Int32) × (Nat → Nat → Int64) × (Nat → Int32)) => kr 0 600 (u.2.2.2 2)) (fun u => [kO h 8 [.ref h_shelf, .ref h_crew, .ref h_diary, .int n_h_gapless, .int n_h_looseReads, .int n_h_impatient, .int (u.2.2.2 0), .int (u.2.2.2 1)], kO h_crew 1 [.int n_h_crew_size, .ref h_crew_state, .ref h_crew_outcome, .ref h_crew_deaths, .ref h_crew_kind, .ref h_crew_low, .ref h_crew_high, .ref h_crew_value, .ref h_crew_need, .ref h_crew_needKey, .ref h_crew_line, .int n_h_crew_lineLength], kI cI h_crew_kind 5 f_h_crew_kind, kI cI h_crew_low 5 f_h_crew_low, kO h_shelf 6 [.int n_h_shelf_size, .ref h_shelf_bits, .ref h_shelf_value, .ref h_shelf_cutter, .ref h_shelf_putter, .ref h_shelf_gaps, .ref h_shelf_sharers, .ref h_shelf_wholes], kI cI h_shelf_bits 24 f_h_shelf_bits, kI cI h_shelf_gaps 25 (u.2.1 0), kI cI h_shelf_cutter 24 (u.2.1 1), kI cI h_shelf_value 24 (u.2.1 2), kO h_diary 3 [.int (u.2.2.2 2), .ref h_diary_changes], kJ cJ h_diary_changes 600 (u.2.2.1 0), kI cI h_crew_value 5 f_h_crew_value, kI cI h_shelf_wholes 24 (u.2.1 3), kI cI h_shelf_sharers 24 (u.2.1 4)]) (va_A [kO h 8 [.ref h_shelf, .ref h_crew, .ref h_diary, .int n_h_gapless, .int n_h_looseReads, .int n_h_impatient, .int n_h_need, .int n_h_needKey], kO h_crew 1 [.int n_h_crew_size, .ref h_crew_state, .ref h_crew_outcome, .ref h_crew_deaths, .ref h_crew_kind, .ref h_crew_low, .ref h_crew_high, .ref h_crew_value, .ref h_crew_need, .ref h_crew_needKey, .ref h_crew_line, .int n_h_crew_lineLength], kI cI h_crew_kind 5 f_h_crew_kind, kI cI h_crew_low 5 f_h_crew_low, kO h_shelf 6 [.int n_h_shelf_size, .ref h_shelf_bits, .ref h_shelf_value, .ref h_shelf_cutter, .ref h_shelf_putter, .ref h_shelf_gaps, .ref h_shelf_sharers, .ref h_shelf_wholes], kI cI h_shelf_bits 24 f_h_shelf_bits, kI cI h_shelf_gaps 25 f_h_shelf_gaps, kI cI h_shelf_cutter 24 f_h_shelf_cutter, kI cI h_shelf_value 24 f_h_shelf_value, kO h_diary 3 [.int n_h_diary_length, .ref h_diary_changes], kJ cJ h_diary_changes 600 f_h_diary_changes, kI cI h_crew_value 5 f_h_crew_value, kI cI h_shelf_wholes 24 f_h_shelf_wholes, kI cI h_shelf_sharers 24 f_h_shelf_sharers] sz)) 0 0 (va_A [kO h 8 [.ref h_shelf, .ref h_crew, .ref h_diary, .int n_h_gapless, .int n_h_looseReads, .int n_h_impatient, .int n_h_need, .int n_h_needKey], kO h_crew 1 [.int n_h_crew_size, .ref h_crew_state, .ref h_crew_outcome, .ref h_crew_deaths, .ref h_crew_kind, .ref h_crew_low, .ref h_crew_high, .ref h_crew_value, .ref h_crew_need, .ref h_crew_needKey, .ref h_crew_line, .int n_h_crew_lineLength], kI cI h_crew_kind 5 f_h_crew_kind, kI cI h_crew_low 5 f_h_crew_low, kO h_shelf 6 [.int n_h_shelf_size, .ref h_shelf_bits, .ref h_shelf_value, .ref h_shelf_cutter, .ref h_shelf_putter, .ref h_shelf_gaps, .ref h_shelf_sharers, .ref h_shelf_wholes], kI cI h_shelf_bits 24 f_h_shelf_bits, kI cI h_shelf_gaps 25 f_h_shelf_gaps, kI cI h_shelf_cutter 24 f_h_shelf_cutter, kI cI h_shelf_value 24 f_h_shelf_value, kO h_diary 3 [.int n_h_diary_length, .ref h_diary_changes], kJ cJ h_diary_changes 600 f_h_diary_changes, kI cI h_crew_value 5 f_h_crew_value, kI cI h_shelf_wholes 24 f_h_shelf_wholes, kI cI h_shelf_sharers 24 f_h_shelf_sharers] sz) := by
  refine kk_start (y := yX9_reach) (maxL := 7) (av := [.ref h, .int p0]) (Qc := fun A => kk_Qi D (fun (r : Int32) (u : (Nat → Nat) × (Nat → Nat → Int32) × (Nat → Nat → Int64) × (Nat → Int32)) => kr 0 600 (u.2.2.2 2)) (fun u => [kO h 8 [.ref h_shelf, .ref h_crew, .ref h_diary, .int n_h_gapless, .int n_h_looseReads, .int n_h_impatient, .int (u.2.2.2 0), .int (u.2.2.2 1)], kO h_crew 1 [.int n_h_crew_size, .ref h_crew_state, .ref h_crew_outcome, .ref h_crew_deaths, .ref h_crew_kind, .ref h_crew_low, .ref h_crew_high, .ref h_crew_value, .ref h_crew_need, .ref h_crew_needKey, .ref h_crew_line, .int n_h_crew_lineLength], kI cI h_crew_kind 5 f_h_crew_kind, kI cI h_crew_low 5 f_h_crew_low, kO h_shelf 6 [.int n_h_shelf_size, .ref h_shelf_bits, .ref h_shelf_value, .ref h_shelf_cutter, .ref h_shelf_putter, .ref h_shelf_gaps, .ref h_shelf_sharers, .ref h_shelf_wholes], kI cI h_shelf_bits 24 f_h_shelf_bits, kI cI h_shelf_gaps 25 (u.2.1 0), kI cI h_shelf_cutter 24 (u.2.1 1), kI cI h_shelf_value 24 (u.2.1 2), kO h_diary 3 [.int (u.2.2.2 2), .ref h_diary_changes], kJ cJ h_diary_changes 600 (u.2.2.1 0), kI cI h_crew_value 5 f_h_crew_value, kI cI h_shelf_wholes 24 (u.2.1 3), kI cI h_shelf_sharers 24 (u.2.1 4)]) A) (by decide) (Nat.le_of_ble_eq_true rfl) ?_
  intro p e s m below meth c ls A hx hb hr hml hown hts hE hlocks hin hsz hP hD hA hS hl
  have hown : s.vm.findClass RX9 = some m.cls := hown
  have hl : lv_has ls 7 [(0, .ref h), (1, .int p0)] := hl
  generalize hQQ : MQ below _ _ s _ _ _ = QQ
  have J_114 : ∀ (x114_l_5 : Int32) (x114_l_4 : Int32) (x114_l_3 : Int32) (x114_l_2 : Int32) (g114_h_shelf_gaps : Nat → Int32) (g114_h_shelf_wholes : Nat → Int32) (g114_h_shelf_sharers : Nat → Int32) (H : Heap) (locs : List Loc) (ls : Array Slot), kr 0 1 x114_l_5 → kr 0 24 x114_l_4 → (¬ x114_l_5 = 0 → kr 0 23 x114_l_4) → kPD D A [kO h 8 [.ref h_shelf, .ref h_crew, .ref h_diary, .int n_h_gapless, .int n_h_looseReads, .int n_h_impatient, .int n_h_need, .int n_h_needKey], kO h_crew 1 [.int n_h_crew_size, .ref h_crew_state, .ref h_crew_outcome, .ref h_crew_deaths, .ref h_crew_kind, .ref h_crew_low, .ref h_crew_high, .ref h_crew_value, .ref h_crew_need, .ref h_crew_needKey, .ref h_crew_line, .int n_h_crew_lineLength], kI cI h_crew_kind 5 f_h_crew_kind, kI cI h_crew_low 5 f_h_crew_low, kO h_shelf 6 [.int n_h_shelf_size, .ref h_shelf_bits, .ref h_shelf_value, .ref h_shelf_cutter, .ref h_shelf_putter, .ref h_shelf_gaps, .ref h_shelf_sharers, .ref h_shelf_wholes], kI cI h_shelf_bits 24 f_h_shelf_bits, kI cI h_shelf_gaps 25 g114_h_shelf_gaps, kI cI h_shelf_cutter 24 f_h_shelf_cutter, kI cI h_shelf_value 24 f_h_shelf_value, kO h_diary 3 [.int n_h_diary_length, .ref h_diary_changes], kJ cJ h_diary_changes 600 f_h_diary_changes, kI cI h_crew_value 5 f_h_crew_value, kI cI h_shelf_wholes 24 g114_h_shelf_wholes, kI cI h_shelf_sharers 24 g114_h_shelf_sharers] H → va_S A s.heap H locs → lv_has ls 7 [(5, .int x114_l_5), (4, .int x114_l_4), (3, .int x114_l_3), (2, .int x114_l_2), (0, .ref h), (1, .int p0)] → W p l e ({ frames := 1, cells := 0, slots := 0, locals := 24 }) s m ([.ref h, .int p0] : List Value).toArray below meth c H locs 0 0 QQ (F0 m 114 ls []) := by
    intro x114_l_5 x114_l_4 x114_l_3 x114_l_2 g114_h_shelf_gaps g114_h_shelf_wholes g114_h_shelf_sharers H locs ls bx114_l_5 bx114_l_4 d114_0 hPD hS hl
    obtain ⟨hP, hD⟩ := hPD
    refine lv_iload hx hb dX9_reach_114 (lv_at hl 0 rfl) ?_
    refine lv_if_eq (tgt := 133) hx hb dX9_reach_116 (by decide) (fun c_1 => ?_) (fun c_1 => ?_)
    · have b_2 : kr 0 0 x114_l_5 := kr_eq_l bx114_l_5 (kr_c 0 0 rfl) c_1 rfl
      refine lv_bipush (v := (-4)) hx hb dX9_reach_133 (by decide) ?_
      subst hQQ
      exact kk_ret_i ((fun _ => 0), (fun i => [g114_h_shelf_gaps, f_h_shelf_cutter, f_h_shelf_value, g114_h_shelf_wholes, g114_h_shelf_sharers].getD i (fun _ => 0)), (fun i => [f_h_diary_changes].getD i (fun _ => 0)), (fun i => [n_h_need, n_h_needKey, n_h_diary_length].getD i 0)) hx hb hr hlocks b_h_diary_length (hP.sub [0, 1, 2, 3, 4, 5, 6, 7, 8, 9, 10, 11, 12, 13] rfl) (hD.sub [0, 1, 2, 3, 4, 5, 6, 7, 8, 9, 10, 11, 12, 13] (by decide +kernel) rfl) hS dX9_reach_135 (Nat.le_of_ble_eq_true rfl) (Nat.le_of_ble_eq_true rfl)
    · have b_3 : kr 1 1 x114_l_5 := kr_ne_lo bx114_l_5 c_1 rfl
      have b_4 : kr 0 23 x114_l_4 := d114_0 c_1
      refine lv_aload_n hx hb dX9_reach_119 rfl (lv_at hl 4 rfl) ?_
      refine va_get (D := D) (ci := 8) (v := .ref h_shelf) (C := RX9) (T := TX9) (N := 8) hx hb hts u_X9 hown hE.1 hP 0 rfl rfl 0 (by decide) (hts _ w_384) (fun _ h9 => h9) rfl dX9_reach_120 ?_
      refine va_get (D := D) (ci := 6) (v := .ref h_shelf_cutter) (C := RX7) (T := TX7) (N := 8) hx hb hts u_X7 hown hE.1 hP 4 rfl rfl 3 (by decide) (hts _ w_173) (fun _ h9 => h9) rfl dX9_reach_123 ?_
      refine lv_iload hx hb dX9_reach_126 (lv_at hl 1 rfl) ?_
      refine va_iald hx hb hE.1 hP 7 1 rfl rfl (kr_in b_4 rfl) dX9_reach_128 ?_
      refine lv_topi (fun v_5 e_5 => ?_)
      refine lv_iload_n hx hb dX9_reach_129 rfl (lv_at hl 5 rfl) ?_
      refine lv_icmp_ne (tgt := 136) hx hb dX9_reach_130 (by decide) (fun c_6 => ?_) (fun c_6 => ?_)
      · refine lv_aload_n hx hb dX9_reach_136 rfl (lv_at hl 4 rfl) ?_
        refine va_get (D := D) (ci := 8) (v := .ref h_shelf) (C := RX9) (T := TX9) (N := 8) hx hb hts u_X9 hown hE.1 hP 0 rfl rfl 0 (by decide) (hts _ w_384) (fun _ h9 => h9) rfl dX9_reach_137 ?_
        refine va_get (D := D) (ci := 6) (v := .ref h_shelf_value) (C := RX7) (T := TX7) (N := 8) hx hb hts u_X7 hown hE.1 hP 4 rfl rfl 2 (by decide) (hts _ w_169) (fun _ h9 => h9) rfl dX9_reach_140 ?_
        refine lv_iload hx hb dX9_reach_143 (lv_at hl 1 rfl) ?_
        refine va_iald hx hb hE.1 hP 8 1 rfl rfl (kr_in b_4 rfl) dX9_reach_145 ?_
        refine lv_topi (fun v_7 e_7 => ?_)
        refine lv_istore (lv' := [(6, .int v_7), (5, .int x114_l_5), (4, .int x114_l_4), (3, .int x114_l_3), (2, .int x114_l_2), (0, .ref h), (1, .int p0)]) hx hb dX9_reach_146 hl (by decide) rfl (fun ls hl => ?_)
        refine lv_iload_n hx hb dX9_reach_148 rfl (lv_at hl 4 rfl) ?_
        refine lv_iconst (v := 4) hx hb dX9_reach_149 (by decide) ?_
        refine lv_icmp_ne (tgt := 187) hx hb dX9_reach_150 (by decide) (fun c_8 => ?_) (fun c_8 => ?_)
        · refine lv_iload_n hx hb dX9_reach_187 rfl (lv_at hl 4 rfl) ?_
          refine lv_bipush (v := 6) hx hb dX9_reach_188 (by decide) ?_
          refine lv_icmp_ne (tgt := 216) hx hb dX9_reach_190 (by decide) (fun c_9 => ?_) (fun c_9 => ?_)
          · refine lv_iload hx hb dX9_reach_216 (lv_at hl 0 rfl) ?_
            subst hQQ
            exact kk_ret_i ((fun _ => 0), (fun i => [g114_h_shelf_gaps, f_h_shelf_cutter, f_h_shelf_value, g114_h_shelf_wholes, g114_h_shelf_sharers].getD i (fun _ => 0)), (fun i => [f_h_diary_changes].getD i (fun _ => 0)), (fun i => [n_h_need, n_h_needKey, n_h_diary_length].getD i 0)) hx hb hr hlocks b_h_diary_length (hP.sub [0, 1, 2, 3, 4, 5, 6, 7, 8, 9, 10, 11, 12, 13] rfl) (hD.sub [0, 1, 2, 3, 4, 5, 6, 7, 8, 9, 10, 11, 12, 13] (by decide +kernel) rfl) hS dX9_reach_218 (Nat.le_of_ble_eq_true rfl) (Nat.le_of_ble_eq_true rfl)
          · have b_10 : kr 6 6 x114_l_2 := kr_eq_l (kr_all x114_l_2) (kr_c 6 6 rfl) c_9 rfl
            refine lv_aload_n hx hb dX9_reach_193 rfl (lv_at hl 5 rfl) ?_
            refine va_get (D := D) (ci := 8) (v := .ref h_diary) (C := RX9) (T := TX9) (N := 8) hx hb hts u_X9 hown hE.1 hP 0 rfl rfl 2 (by decide) (hts _ w_391) (fun _ h9 => h9) rfl dX9_reach_194 ?_
            refine lv_iload_n hx hb dX9_reach_197 rfl (lv_at hl 6 rfl) ?_
            refine lv_iconst (v := 1) hx hb dX9_reach_198 (by decide) ?_
            refine lv_iload_n hx hb dX9_reach_199 rfl (lv_at hl 3 rfl) ?_
            refine lv_iload hx hb dX9_reach_200 (lv_at hl 0 rfl) ?_
            refine kk_cv (wr := [kO h 8 [.ref h_shelf, .ref h_crew, .ref h_diary, .int n_h_gapless, .int n_h_looseReads, .int n_h_impatient, .int n_h_need, .int n_h_needKey], kO h_crew 1 [.int n_h_crew_size, .ref h_crew_state, .ref h_crew_outcome, .ref h_crew_deaths, .ref h_crew_kind, .ref h_crew_low, .ref h_crew_high, .ref h_crew_value, .ref h_crew_need, .ref h_crew_needKey, .ref h_crew_line, .int n_h_crew_lineLength], kI cI h_crew_kind 5 f_h_crew_kind, kI cI h_crew_low 5 f_h_crew_low, kO h_shelf 6 [.int n_h_shelf_size, .ref h_shelf_bits, .ref h_shelf_value, .ref h_shelf_cutter, .ref h_shelf_putter, .ref h_shelf_gaps, .ref h_shelf_sharers, .ref h_shelf_wholes], kI cI h_shelf_bits 24 f_h_shelf_bits, kI cI h_shelf_gaps 25 g114_h_shelf_gaps, kI cI h_shelf_cutter 24 f_h_shelf_cutter, kI cI h_shelf_value 24 f_h_shelf_value, kI cI h_crew_value 5 f_h_crew_value, kI cI h_shelf_wholes 24 g114_h_shelf_wholes, kI cI h_shelf_sharers 24 g114_h_shelf_sharers]) (kk_runV (w1 := [kO h_diary 3 [.int n_h_diary_length, .ref h_diary_changes], kJ cJ h_diary_changes 600 f_h_diary_changes]) (As := [.int p0, .int 1, .int x114_l_3, .int v_7]) (rest := []) hx hb hml hown hts hE (c_X3_note l D cB cI cJ cD h_diary h_diary_changes n_h_diary_length f_h_diary_changes p0 1 x114_l_3 v_7 H.size b_h_diary_length) m_X3_note w_836 ⟨rfl, rfl, Nat.le_of_ble_eq_true rfl, Nat.le_of_ble_eq_true rfl⟩ (hP.sub [9, 10] rfl) (hD.sub [9, 10] (by decide +kernel) rfl) 0 3 rfl rfl rfl hl.1 (Nat.le_of_ble_eq_true rfl) dX9_reach_202 ⟨Nat.le_of_ble_eq_true rfl, Nat.le_of_ble_eq_true rfl⟩) hP hD hS hA [9, 10] [0, 1, 2, 3, 4, 5, 6, 7, 8, 11, 12, 13] rfl rfl (by decide +kernel) (by decide +kernel) (fun u_11 H locs p_11 hP hD hS => ?_)
            obtain ⟨hP, hD⟩ : kPD D A [kO h 8 [.ref h_shelf, .ref h_crew, .ref h_diary, .int n_h_gapless, .int n_h_looseReads, .int n_h_impatient, .int n_h_need, .int n_h_needKey], kO h_crew 1 [.int n_h_crew_size, .ref h_crew_state, .ref h_crew_outcome, .ref h_crew_deaths, .ref h_crew_kind, .ref h_crew_low, .ref h_crew_high, .ref h_crew_value, .ref h_crew_need, .ref h_crew_needKey, .ref h_crew_line, .int n_h_crew_lineLength], kI cI h_crew_kind 5 f_h_crew_kind, kI cI h_crew_low 5 f_h_crew_low, kO h_shelf 6 [.int n_h_shelf_size, .ref h_shelf_bits, .ref h_shelf_value, .ref h_shelf_cutter, .ref h_shelf_putter, .ref h_shelf_gaps, .ref h_shelf_sharers, .ref h_shelf_wholes], kI cI h_shelf_bits 24 f_h_shelf_bits, kI cI h_shelf_gaps 25 g114_h_shelf_gaps, kI cI h_shelf_cutter 24 f_h_shelf_cutter, kI cI h_shelf_value 24 f_h_shelf_value, kI cI h_crew_value 5 f_h_crew_value, kI cI h_shelf_wholes 24 g114_h_shelf_wholes, kI cI h_shelf_sharers 24 g114_h_shelf_sharers, kO h_diary 3 [.int (u_11.2.2.2 0), .ref h_diary_changes], kJ cJ h_diary_changes 600 (u_11.2.2.1 0)] H := ⟨hP, hD⟩
            refine lv_aload_n hx hb dX9_reach_205 rfl (lv_at hl 5 rfl) ?_
            refine va_get (D := D) (ci := 8) (v := .ref h_shelf) (C := RX9) (T := TX9) (N := 8) hx hb hts u_X9 hown hE.1 hP 0 rfl rfl 0 (by decide) (hts _ w_384) (fun _ h9 => h9) rfl dX9_reach_206 ?_
            refine va_get (D := D) (ci := 6) (v := .ref h_shelf_cutter) (C := RX7) (T := TX7) (N := 8) hx hb hts u_X7 hown hE.1 hP 4 rfl rfl 3 (by decide) (hts _ w_173) (fun _ h9 => h9) rfl dX9_reach_209 ?_
            refine lv_iload hx hb dX9_reach_212 (lv_at hl 2 rfl) ?_
            refine lv_iload_n hx hb dX9_reach_214 rfl (lv_at hl 6 rfl) ?_
            refine va_iast hx hb hE.1 hP hD hS 7 1 rfl rfl (kr_in b_4 rfl) dX9_reach_215 (fun H locs hP hD hS => ?_)
            obtain ⟨f_12, ef_12⟩ : ∃ z, z = (upd f_h_shelf_cutter (Int32.toNatClampNeg x114_l_4) p0) := ⟨_, rfl⟩
            rw [← ef_12] at hP hD
            obtain ⟨hP, hD⟩ : kPD D A [kO h 8 [.ref h_shelf, .ref h_crew, .ref h_diary, .int n_h_gapless, .int n_h_looseReads, .int n_h_impatient, .int n_h_need, .int n_h_needKey], kO h_crew 1 [.int n_h_crew_size, .ref h_crew_state, .ref h_crew_outcome, .ref h_crew_deaths, .ref h_crew_kind, .ref h_crew_low, .ref h_crew_high, .ref h_crew_value, .ref h_crew_need, .ref h_crew_needKey, .ref h_crew_line, .int n_h_crew_lineLength], kI cI h_crew_kind 5 f_h_crew_kind, kI cI h_crew_low 5 f_h_crew_low, kO h_shelf 6 [.int n_h_shelf_size, .ref h_shelf_bits, .ref h_shelf_value, .ref h_shelf_cutter, .ref h_shelf_putter, .ref h_shelf_gaps, .ref h_shelf_sharers, .ref h_shelf_wholes], kI cI h_shelf_bits 24 f_h_shelf_bits, kI cI h_shelf_gaps 25 g114_h_shelf_gaps, kI cI h_shelf_cutter 24 f_12, kI cI h_shelf_value 24 f_h_shelf_value, kI cI h_crew_value 5 f_h_crew_value, kI cI h_shelf_wholes 24 g114_h_shelf_wholes, kI cI h_shelf_sharers 24 g114_h_shelf_sharers, kO h_diary 3 [.int (u_11.2.2.2 0), .ref h_diary_changes], kJ cJ h_diary_changes 600 (u_11.2.2.1 0)] H := ⟨hP, hD⟩
            refine lv_iload hx hb dX9_reach_216 (lv_at hl 0 rfl) ?_
            subst hQQ
            exact kk_ret_i ((fun _ => 0), (fun i => [g114_h_shelf_gaps, f_12, f_h_shelf_value, g114_h_shelf_wholes, g114_h_shelf_sharers].getD i (fun _ => 0)), (fun i => [(u_11.2.2.1 0)].getD i (fun _ => 0)), (fun i => [n_h_need, n_h_needKey, (u_11.2.2.2 0)].getD i 0)) hx hb hr hlocks (kr_w p_11 rfl) (hP.sub [0, 1, 2, 3, 4, 5, 6, 7, 8, 12, 13, 9, 10, 11] rfl) (hD.sub [0, 1, 2, 3, 4, 5, 6, 7, 8, 12, 13, 9, 10, 11] (by decide +kernel) rfl) hS dX9_reach_218 (Nat.le_of_ble_eq_true rfl) (Nat.le_of_ble_eq_true rfl)
        · have b_13 : kr 4 4 x114_l_2 := kr_eq_l (kr_all x114_l_2) (kr_c 4 4 rfl) c_8 rfl
          refine lv_aload_n hx hb dX9_reach_153 rfl (lv_at hl 5 rfl) ?_
          refine va_get (D := D) (ci := 8) (v := .ref h_diary) (C := RX9) (T := TX9) (N := 8) hx hb hts u_X9 hown hE.1 hP 0 rfl rfl 2 (by decide) (hts _ w_391) (fun _ h9 => h9) rfl dX9_reach_154 ?_
          refine lv_iload_n hx hb dX9_reach_157 rfl (lv_at hl 6 rfl) ?_
          refine lv_iconst (v := 0) hx hb dX9_reach_158 (by decide) ?_
          refine lv_iload_n hx hb dX9_reach_159 rfl (lv_at hl 3 rfl) ?_
          refine lv_iload hx hb dX9_reach_160 (lv_at hl 0 rfl) ?_
          refine kk_cv (wr := [kO h 8 [.ref h_shelf, .ref h_crew, .ref h_diary, .int n_h_gapless, .int n_h_looseReads, .int n_h_impatient, .int n_h_need, .int n_h_needKey], kO h_crew 1 [.int n_h_crew_size, .ref h_crew_state, .ref h_crew_outcome, .ref h_crew_deaths, .ref h_crew_kind, .ref h_crew_low, .ref h_crew_high, .ref h_crew_value, .ref h_crew_need, .ref h_crew_needKey, .ref h_crew_line, .int n_h_crew_lineLength], kI cI h_crew_kind 5 f_h_crew_kind, kI cI h_crew_low 5 f_h_crew_low, kO h_shelf 6 [.int n_h_shelf_size, .ref h_shelf_bits, .ref h_shelf_value, .ref h_shelf_cutter, .ref h_shelf_putter, .ref h_shelf_gaps, .ref h_shelf_sharers, .ref h_shelf_wholes], kI cI h_shelf_bits 24 f_h_shelf_bits, kI cI h_shelf_gaps 25 g114_h_shelf_gaps, kI cI h_shelf_cutter 24 f_h_shelf_cutter, kI cI h_shelf_value 24 f_h_shelf_value, kI cI h_crew_value 5 f_h_crew_value, kI cI h_shelf_wholes 24 g114_h_shelf_wholes, kI cI h_shelf_sharers 24 g114_h_shelf_sharers]) (kk_runV (w1 := [kO h_diary 3 [.int n_h_diary_length, .ref h_diary_changes], kJ cJ h_diary_changes 600 f_h_diary_changes]) (As := [.int p0, .int 0, .int x114_l_3, .int v_7]) (rest := []) hx hb hml hown hts hE (c_X3_note l D cB cI cJ cD h_diary h_diary_changes n_h_diary_length f_h_diary_changes p0 0 x114_l_3 v_7 H.size b_h_diary_length) m_X3_note w_836 ⟨rfl, rfl, Nat.le_of_ble_eq_true rfl, Nat.le_of_ble_eq_true rfl⟩ (hP.sub [9, 10] rfl) (hD.sub [9, 10] (by decide +kernel) rfl) 0 3 rfl rfl rfl hl.1 (Nat.le_of_ble_eq_true rfl) dX9_reach_162 ⟨Nat.le_of_ble_eq_true rfl, Nat.le_of_ble_eq_true rfl⟩) hP hD hS hA [9, 10] [0, 1, 2, 3, 4, 5, 6, 7, 8, 11, 12, 13] rfl rfl (by decide +kernel) (by decide +kernel) (fun u_14 H locs p_14 hP hD hS => ?_)
          obtain ⟨hP, hD⟩ : kPD D A [kO h 8 [.ref h_shelf, .ref h_crew, .ref h_diary, .int n_h_gapless, .int n_h_looseReads, .int n_h_impatient, .int n_h_need, .int n_h_needKey], kO h_crew 1 [.int n_h_crew_size, .ref h_crew_state, .ref h_crew_outcome, .ref h_crew_deaths, .ref h_crew_kind, .ref h_crew_low, .ref h_crew_high, .ref h_crew_value, .ref h_crew_need, .ref h_crew_needKey, .ref h_crew_line, .int n_h_crew_lineLength], kI cI h_crew_kind 5 f_h_crew_kind, kI cI h_crew_low 5 f_h_crew_low, kO h_shelf 6 [.int n_h_shelf_size, .ref h_shelf_bits, .ref h_shelf_value, .ref h_shelf_cutter, .ref h_shelf_putter, .ref h_shelf_gaps, .ref h_shelf_sharers, .ref h_shelf_wholes], kI cI h_shelf_bits 24 f_h_shelf_bits, kI cI h_shelf_gaps 25 g114_h_shelf_gaps, kI cI h_shelf_cutter 24 f_h_shelf_cutter, kI cI h_shelf_value 24 f_h_shelf_value, kI cI h_crew_value 5 f_h_crew_value, kI cI h_shelf_wholes 24 g114_h_shelf_wholes, kI cI h_shelf_sharers 24 g114_h_shelf_sharers, kO h_diary 3 [.int (u_14.2.2.2 0), .ref h_diary_changes], kJ cJ h_diary_changes 600 (u_14.2.2.1 0)] H := ⟨hP, hD⟩
          refine lv_aload_n hx hb dX9_reach_165 rfl (lv_at hl 5 rfl) ?_
          refine va_get (D := D) (ci := 8) (v := .ref h_shelf) (C := RX9) (T := TX9) (N := 8) hx hb hts u_X9 hown hE.1 hP 0 rfl rfl 0 (by decide) (hts _ w_384) (fun _ h9 => h9) rfl dX9_reach_166 ?_
          refine va_get (D := D) (ci := 6) (v := .ref h_shelf_value) (C := RX7) (T := TX7) (N := 8) hx hb hts u_X7 hown hE.1 hP 4 rfl rfl 2 (by decide) (hts _ w_169) (fun _ h9 => h9) rfl dX9_reach_169 ?_
          refine lv_iload hx hb dX9_reach_172 (lv_at hl 2 rfl) ?_
          refine lv_aload_n hx hb dX9_reach_174 rfl (lv_at hl 5 rfl) ?_
          refine va_get (D := D) (ci := 8) (v := .ref h_crew) (C := RX9) (T := TX9) (N := 8) hx hb hts u_X9 hown hE.1 hP 0 rfl rfl 1 (by decide) (hts _ w_387) (fun _ h9 => h9) rfl dX9_reach_175 ?_
          refine va_get (D := D) (ci := 1) (v := .ref h_crew_value) (C := RX1) (T := TX1) (N := 12) hx hb hts u_X1 hown hE.1 hP 1 rfl rfl 7 (by decide) (hts _ w_333) (fun _ h9 => h9) rfl dX9_reach_178 ?_
          refine lv_iload_n hx hb dX9_reach_181 rfl (lv_at hl 6 rfl) ?_
          refine va_iald hx hb hE.1 hP 9 1 rfl rfl (kr_in b_p0 rfl) dX9_reach_182 ?_
          refine lv_topi (fun v_15 e_15 => ?_)
          refine va_iast hx hb hE.1 hP hD hS 8 1 rfl rfl (kr_in b_4 rfl) dX9_reach_183 (fun H locs hP hD hS => ?_)
          obtain ⟨f_16, ef_16⟩ : ∃ z, z = (upd f_h_shelf_value (Int32.toNatClampNeg x114_l_4) v_15) := ⟨_, rfl⟩
          rw [← ef_16] at hP hD
          obtain ⟨hP, hD⟩ : kPD D A [kO h 8 [.ref h_shelf, .ref h_crew, .ref h_diary, .int n_h_gapless, .int n_h_looseReads, .int n_h_impatient, .int n_h_need, .int n_h_needKey], kO h_crew 1 [.int n_h_crew_size, .ref h_crew_state, .ref h_crew_outcome, .ref h_crew_deaths, .ref h_crew_kind, .ref h_crew_low, .ref h_crew_high, .ref h_crew_value, .ref h_crew_need, .ref h_crew_needKey, .ref h_crew_line, .int n_h_crew_lineLength], kI cI h_crew_kind 5 f_h_crew_kind, kI cI h_crew_low 5 f_h_crew_low, kO h_shelf 6 [.int n_h_shelf_size, .ref h_shelf_bits, .ref h_shelf_value, .ref h_shelf_cutter, .ref h_shelf_putter, .ref h_shelf_gaps, .ref h_shelf_sharers, .ref h_shelf_wholes], kI cI h_shelf_bits 24 f_h_shelf_bits, kI cI h_shelf_gaps 25 g114_h_shelf_gaps, kI cI h_shelf_cutter 24 f_h_shelf_cutter, kI cI h_shelf_value 24 f_16, kI cI h_crew_value 5 f_h_crew_value, kI cI h_shelf_wholes 24 g114_h_shelf_wholes, kI cI h_shelf_sharers 24 g114_h_shelf_sharers, kO h_diary 3 [.int (u_14.2.2.2 0), .ref h_diary_changes], kJ cJ h_diary_changes 600 (u_14.2.2.1 0)] H := ⟨hP, hD⟩
          refine lv_goto (tgt := 216) hx hb dX9_reach_184 (by decide) ?_
          refine lv_iload hx hb dX9_reach_216 (lv_at hl 0 rfl) ?_
          subst hQQ
          exact kk_ret_i ((fun _ => 0), (fun i => [g114_h_shelf_gaps, f_h_shelf_cutter, f_16, g114_h_shelf_wholes, g114_h_shelf_sharers].getD i (fun _ => 0)), (fun i => [(u_14.2.2.1 0)].getD i (fun _ => 0)), (fun i => [n_h_need, n_h_needKey, (u_14.2.2.2 0)].getD i 0)) hx hb hr hlocks (kr_w p_14 rfl) (hP.sub [0, 1, 2, 3, 4, 5, 6, 7, 8, 12, 13, 9, 10, 11] rfl) (hD.sub [0, 1, 2, 3, 4, 5, 6, 7, 8, 12, 13, 9, 10, 11] (by decide +kernel) rfl) hS dX9_reach_218 (Nat.le_of_ble_eq_true rfl) (Nat.le_of_ble_eq_true rfl)
      · have b_17 : kr 0 4 v_5 := kr_eq_l (kr_all v_5) b_p0 c_6 rfl
        refine lv_bipush (v := (-4)) hx hb dX9_reach_133 (by decide) ?_
        subst hQQ
        exact kk_ret_i ((fun _ => 0), (fun i => [g114_h_shelf_gaps, f_h_shelf_cutter, f_h_shelf_value, g114_h_shelf_wholes, g114_h_shelf_sharers].getD i (fun _ => 0)), (fun i => [f_h_diary_changes].getD i (fun _ => 0)), (fun i => [n_h_need, n_h_needKey, n_h_diary_length].getD i 0)) hx hb hr hlocks b_h_diary_length (hP.sub [0, 1, 2, 3, 4, 5, 6, 7, 8, 9, 10, 11, 12, 13] rfl) (hD.sub [0, 1, 2, 3, 4, 5, 6, 7, 8, 9, 10, 11, 12, 13] (by decide +kernel) rfl) hS dX9_reach_135 (Nat.le_of_ble_eq_true rfl) (Nat.le_of_ble_eq_true rfl)
  have J_109 : ∀ (x109_l_3 : Int32) (x109_s_1 : Int32) (g109_h_shelf_wholes : Nat → Int32) (g109_h_shelf_sharers : Nat → Int32) (H : Heap) (locs : List Loc) (ls : Array Slot), kr 1 2 x109_s_1 → kPD D A [kO h_crew 1 [.int n_h_crew_size, .ref h_crew_state, .ref h_crew_outcome, .ref h_crew_deaths, .ref h_crew_kind, .ref h_crew_low, .ref h_crew_high, .ref h_crew_value, .ref h_crew_need, .ref h_crew_needKey, .ref h_crew_line, .int n_h_crew_lineLength], kI cI h_crew_kind 5 f_h_crew_kind, kI cI h_crew_low 5 f_h_crew_low, kI cI h_shelf_bits 24 f_h_shelf_bits, kI cI h_shelf_gaps 25 f_h_shelf_gaps, kI cI h_shelf_cutter 24 f_h_shelf_cutter, kI cI h_shelf_value 24 f_h_shelf_value, kO h_diary 3 [.int n_h_diary_length, .ref h_diary_changes], kJ cJ h_diary_changes 600 f_h_diary_changes, kI cI h_crew_value 5 f_h_crew_value, kO h 8 [.ref h_shelf, .ref h_crew, .ref h_diary, .int n_h_gapless, .int n_h_looseReads, .int n_h_impatient, .int n_h_need, .int n_h_needKey], kO h_shelf 6 [.int n_h_shelf_size, .ref h_shelf_bits, .ref h_shelf_value, .ref h_shelf_cutter, .ref h_shelf_putter, .ref h_shelf_gaps, .ref h_shelf_sharers, .ref h_shelf_wholes], kI cI h_shelf_wholes 24 g109_h_shelf_wholes, kI cI h_shelf_sharers 24 g109_h_shelf_sharers] H → va_S A s.heap H locs → lv_has ls 7 [(3, .int x109_l_3)] → W p l e ({ frames := 1, cells := 0, slots := 0, locals := 24 }) s m ([.ref h, .int p0] : List Value).toArray below meth c H locs 0 0 QQ (F0 m 109 ls [.int x109_s_1, .ref h]) := by
    intro x109_l_3 x109_s_1 g109_h_shelf_wholes g109_h_shelf_sharers H locs ls bx109_s_1 hPD hS hl
    obtain ⟨hP, hD⟩ := hPD
    refine lv_iload_n hx hb dX9_reach_109 rfl (lv_at hl 0 rfl) ?_
    refine kk_ci (wr := [kO h_crew 1 [.int n_h_crew_size, .ref h_crew_state, .ref h_crew_outcome, .ref h_crew_deaths, .ref h_crew_kind, .ref h_crew_low, .ref h_crew_high, .ref h_crew_value, .ref h_crew_need, .ref h_crew_needKey, .ref h_crew_line, .int n_h_crew_lineLength], kI cI h_crew_kind 5 f_h_crew_kind, kI cI h_crew_low 5 f_h_crew_low, kI cI h_shelf_bits 24 f_h_shelf_bits, kI cI h_shelf_gaps 25 f_h_shelf_gaps, kI cI h_shelf_cutter 24 f_h_shelf_cutter, kI cI h_shelf_value 24 f_h_shelf_value, kO h_diary 3 [.int n_h_diary_length, .ref h_diary_changes], kJ cJ h_diary_changes 600 f_h_diary_changes, kI cI h_crew_value 5 f_h_crew_value, kO h_shelf 6 [.int n_h_shelf_size, .ref h_shelf_bits, .ref h_shelf_value, .ref h_shelf_cutter, .ref h_shelf_putter, .ref h_shelf_gaps, .ref h_shelf_sharers, .ref h_shelf_wholes], kI cI h_shelf_wholes 24 g109_h_shelf_wholes, kI cI h_shelf_sharers 24 g109_h_shelf_sharers]) (kk_runV (w1 := [kO h 8 [.ref h_shelf, .ref h_crew, .ref h_diary, .int n_h_gapless, .int n_h_looseReads, .int n_h_impatient, .int n_h_need, .int n_h_needKey]]) (As := [.int x109_s_1, .int x109_l_3]) (rest := []) hx hb hml hown hts hE (c_X9_stoppedAt l D cB cI cJ cD h h_shelf h_crew h_diary n_h_gapless n_h_looseReads n_h_impatient n_h_need n_h_needKey x109_s_1 x109_l_3 H.size b_h_gapless b_h_looseReads b_h_impatient) m_X9_stoppedAt w_828 ⟨rfl, rfl, Nat.le_of_ble_eq_true rfl, Nat.le_of_ble_eq_true rfl⟩ (hP.sub [10] rfl) (hD.sub [10] (by decide +kernel) rfl) 0 8 rfl rfl rfl hl.1 (Nat.le_of_ble_eq_true rfl) dX9_reach_110 ⟨Nat.le_of_ble_eq_true rfl, Nat.le_of_ble_eq_true rfl⟩) hP hD hS hA [10] [0, 1, 2, 3, 4, 5, 6, 7, 8, 9, 11, 12, 13] rfl rfl (by decide +kernel) (by decide +kernel) (fun r_19 u_18 H locs p_18 hP hD hS => ?_)
    obtain ⟨hP, hD⟩ : kPD D A [kO h_crew 1 [.int n_h_crew_size, .ref h_crew_state, .ref h_crew_outcome, .ref h_crew_deaths, .ref h_crew_kind, .ref h_crew_low, .ref h_crew_high, .ref h_crew_value, .ref h_crew_need, .ref h_crew_needKey, .ref h_crew_line, .int n_h_crew_lineLength], kI cI h_crew_kind 5 f_h_crew_kind, kI cI h_crew_low 5 f_h_crew_low, kI cI h_shelf_bits 24 f_h_shelf_bits, kI cI h_shelf_gaps 25 f_h_shelf_gaps, kI cI h_shelf_cutter 24 f_h_shelf_cutter, kI cI h_shelf_value 24 f_h_shelf_value, kO h_diary 3 [.int n_h_diary_length, .ref h_diary_changes], kJ cJ h_diary_changes 600 f_h_diary_changes, kI cI h_crew_value 5 f_h_crew_value, kO h_shelf 6 [.int n_h_shelf_size, .ref h_shelf_bits, .ref h_shelf_value, .ref h_shelf_cutter, .ref h_shelf_putter, .ref h_shelf_gaps, .ref h_shelf_sharers, .ref h_shelf_wholes], kI cI h_shelf_wholes 24 g109_h_shelf_wholes, kI cI h_shelf_sharers 24 g109_h_shelf_sharers, kO h 8 [.ref h_shelf, .ref h_crew, .ref h_diary, .int n_h_gapless, .int n_h_looseReads, .int n_h_impatient, .int (u_18.2.2.2 0), .int (u_18.2.2.2 1)]] H := ⟨hP, hD⟩
    obtain rfl : r_19 = (-2) := kr_one p_18 rfl
    subst hQQ
    exact kk_ret_i ((fun _ => 0), (fun i => [f_h_shelf_gaps, f_h_shelf_cutter, f_h_shelf_value, g109_h_shelf_wholes, g109_h_shelf_sharers].getD i (fun _ => 0)), (fun i => [f_h_diary_changes].getD i (fun _ => 0)), (fun i => [(u_18.2.2.2 0), (u_18.2.2.2 1), n_h_diary_length].getD i 0)) hx hb hr hlocks b_h_diary_length (hP.sub [13, 0, 1, 2, 10, 3, 4, 5, 6, 7, 8, 9, 11, 12] rfl) (hD.sub [13, 0, 1, 2, 10, 3, 4, 5, 6, 7, 8, 9, 11, 12] (by decide +kernel) rfl) hS dX9_reach_113 (Nat.le_of_ble_eq_true rfl) (Nat.le_of_ble_eq_true rfl)
  have J_92 : ∀ (x92_l_5 : Int32) (x92_l_4 : Int32) (x92_l_3 : Int32) (x92_l_2 : Int32) (x92_s_3 : Int32) (x92_s_2 : Int32) (H : Heap) (locs : List Loc) (ls : Array Slot), kr 1 1 x92_l_5 → kr 0 23 x92_l_4 → kr 0 1 x92_s_3 → kr 0 23 x92_s_2 → kPD D A [kO h 8 [.ref h_shelf, .ref h_crew, .ref h_diary, .int n_h_gapless, .int n_h_looseReads, .int n_h_impatient, .int n_h_need, .int n_h_needKey], kO h_crew 1 [.int n_h_crew_size, .ref h_crew_state, .ref h_crew_outcome, .ref h_crew_deaths, .ref h_crew_kind, .ref h_crew_low, .ref h_crew_high, .ref h_crew_value, .ref h_crew_need, .ref h_crew_needKey, .ref h_crew_line, .int n_h_crew_lineLength], kI cI h_crew_kind 5 f_h_crew_kind, kI cI h_crew_low 5 f_h_crew_low, kO h_shelf 6 [.int n_h_shelf_size, .ref h_shelf_bits, .ref h_shelf_value, .ref h_shelf_cutter, .ref h_shelf_putter, .ref h_shelf_gaps, .ref h_shelf_sharers, .ref h_shelf_wholes], kI cI h_shelf_bits 24 f_h_shelf_bits, kI cI h_shelf_gaps 25 f_h_shelf_gaps, kI cI h_shelf_cutter 24 f_h_shelf_cutter, kI cI h_shelf_value 24 f_h_shelf_value, kO h_diary 3 [.int n_h_diary_length, .ref h_diary_changes], kJ cJ h_diary_changes 600 f_h_diary_changes, kI cI h_crew_value 5 f_h_crew_value, kI cI h_shelf_wholes 24 f_h_shelf_wholes, kI cI h_shelf_sharers 24 f_h_shelf_sharers] H → va_S A s.heap H locs → lv_has ls 7 [(5, .int x92_l_5), (4, .int x92_l_4), (3, .int x92_l_3), (2, .int x92_l_2), (0, .ref h), (1, .int p0)] → W p l e ({ frames := 1, cells := 0, slots := 0, locals := 24 }) s m ([.ref h, .int p0] : List Value).toArray below meth c H locs 0 0 QQ (F0 m 92 ls [.int x92_s_3, .int x92_s_2, .int p0, .ref h]) := by
    intro x92_l_5 x92_l_4 x92_l_3 x92_l_2 x92_s_3 x92_s_2 H locs ls bx92_l_5 bx92_l_4 bx92_s_3 bx92_s_2 hPD hS hl
    obtain ⟨hP, hD⟩ := hPD
    refine kk_ci (wr := [kO h_crew 1 [.int n_h_crew_size, .ref h_crew_state, .ref h_crew_outcome, .ref h_crew_deaths, .ref h_crew_kind, .ref h_crew_low, .ref h_crew_high, .ref h_crew_value, .ref h_crew_need, .ref h_crew_needKey, .ref h_crew_line, .int n_h_crew_lineLength], kI cI h_crew_kind 5 f_h_crew_kind, kI cI h_crew_low 5 f_h_crew_low, kI cI h_shelf_bits 24 f_h_shelf_bits, kI cI h_shelf_gaps 25 f_h_shelf_gaps, kI cI h_shelf_cutter 24 f_h_shelf_cutter, kI cI h_shelf_value 24 f_h_shelf_value, kO h_diary 3 [.int n_h_diary_length, .ref h_diary_changes], kJ cJ h_diary_changes 600 f_h_diary_changes, kI cI h_crew_value 5 f_h_crew_value]) (kk_runV (w1 := [kO h 8 [.ref h_shelf, .ref h_crew, .ref h_diary, .int n_h_gapless, .int n_h_looseReads, .int n_h_impatient, .int n_h_need, .int n_h_needKey], kO h_shelf 6 [.int n_h_shelf_size, .ref h_shelf_bits, .ref h_shelf_value, .ref h_shelf_cutter, .ref h_shelf_putter, .ref h_shelf_gaps, .ref h_shelf_sharers, .ref h_shelf_wholes], kI cI h_shelf_wholes 24 f_h_shelf_wholes, kI cI h_shelf_sharers 24 f_h_shelf_sharers]) (As := [.int p0, .int x92_s_2, .int x92_s_3]) (rest := []) hx hb hml hown hts hE (c_X9_locked l D cB cI cJ cD h h_shelf h_shelf_wholes h_shelf_sharers h_crew h_diary h_shelf_bits h_shelf_value h_shelf_cutter h_shelf_putter h_shelf_gaps n_h_gapless n_h_looseReads n_h_impatient n_h_need n_h_needKey n_h_shelf_size f_h_shelf_wholes f_h_shelf_sharers p0 x92_s_2 x92_s_3 H.size b_h_gapless b_h_looseReads b_h_impatient b_h_shelf_size bx92_s_2) m_X9_locked w_840 ⟨rfl, rfl, Nat.le_of_ble_eq_true rfl, Nat.le_of_ble_eq_true rfl⟩ (hP.sub [0, 4, 12, 13] rfl) (hD.sub [0, 4, 12, 13] (by decide +kernel) rfl) 0 8 rfl rfl rfl hl.1 (Nat.le_of_ble_eq_true rfl) dX9_reach_92 ⟨Nat.le_of_ble_eq_true rfl, Nat.le_of_ble_eq_true rfl⟩) hP hD hS hA [0, 4, 12, 13] [1, 2, 3, 5, 6, 7, 8, 9, 10, 11] rfl rfl (by decide +kernel) (by decide +kernel) (fun r_21 u_20 H locs p_20 hP hD hS => ?_)
    obtain ⟨hP, hD⟩ : kPD D A [kO h_crew 1 [.int n_h_crew_size, .ref h_crew_state, .ref h_crew_outcome, .ref h_crew_deaths, .ref h_crew_kind, .ref h_crew_low, .ref h_crew_high, .ref h_crew_value, .ref h_crew_need, .ref h_crew_needKey, .ref h_crew_line, .int n_h_crew_lineLength], kI cI h_crew_kind 5 f_h_crew_kind, kI cI h_crew_low 5 f_h_crew_low, kI cI h_shelf_bits 24 f_h_shelf_bits, kI cI h_shelf_gaps 25 f_h_shelf_gaps, kI cI h_shelf_cutter 24 f_h_shelf_cutter, kI cI h_shelf_value 24 f_h_shelf_value, kO h_diary 3 [.int n_h_diary_length, .ref h_diary_changes], kJ cJ h_diary_changes 600 f_h_diary_changes, kI cI h_crew_value 5 f_h_crew_value, kO h 8 [.ref h_shelf, .ref h_crew, .ref h_diary, .int n_h_gapless, .int n_h_looseReads, .int n_h_impatient, .int n_h_need, .int n_h_needKey], kO h_shelf 6 [.int n_h_shelf_size, .ref h_shelf_bits, .ref h_shelf_value, .ref h_shelf_cutter, .ref h_shelf_putter, .ref h_shelf_gaps, .ref h_shelf_sharers, .ref h_shelf_wholes], kI cI h_shelf_wholes 24 (u_20.2.1 0), kI cI h_shelf_sharers 24 (u_20.2.1 1)] H := ⟨hP, hD⟩
    have b_21 : kr 0 1 r_21 := p_20
    refine lv_if_ne (tgt := 114) hx hb dX9_reach_95 (by decide) (fun c_22 => ?_) (fun c_22 => ?_)
    · have b_23 : kr 1 1 r_21 := kr_ne_lo b_21 c_22 rfl
      exact J_114 x92_l_5 x92_l_4 x92_l_3 x92_l_2 f_h_shelf_gaps (u_20.2.1 0) (u_20.2.1 1) _ _ _ (kr_w bx92_l_5 rfl) (kr_w bx92_l_4 rfl) (fun _ => bx92_l_4) ⟨hP.sub [10, 0, 1, 2, 11, 3, 4, 5, 6, 7, 8, 9, 12, 13] rfl, hD.sub [10, 0, 1, 2, 11, 3, 4, 5, 6, 7, 8, 9, 12, 13] (by decide +kernel) rfl⟩ hS (lv_sub hl [0, 1, 2, 3, 4, 5] rfl)
    · have b_24 : kr 0 0 r_21 := kr_eq_l b_21 (kr_c 0 0 rfl) c_22 rfl
      refine lv_aload_n hx hb dX9_reach_98 rfl (lv_at hl 4 rfl) ?_
      refine lv_iload_n hx hb dX9_reach_99 rfl (lv_at hl 3 rfl) ?_
      refine lv_iconst (v := 2) hx hb dX9_reach_100 (by decide) ?_
      refine lv_icmp_ne (tgt := 108) hx hb dX9_reach_101 (by decide) (fun c_25 => ?_) (fun c_25 => ?_)
      · refine lv_iconst (v := 2) hx hb dX9_reach_108 (by decide) ?_
        exact J_109 x92_l_3 2 (u_20.2.1 0) (u_20.2.1 1) _ _ _ (kr_w (kr_c 2 2 rfl) rfl) ⟨hP, hD⟩ hS (lv_sub hl [2] rfl)
      · have b_26 : kr 2 2 x92_l_2 := kr_eq_l (kr_all x92_l_2) (kr_c 2 2 rfl) c_25 rfl
        refine lv_iconst (v := 1) hx hb dX9_reach_104 (by decide) ?_
        refine lv_goto (tgt := 109) hx hb dX9_reach_105 (by decide) ?_
        exact J_109 x92_l_3 1 (u_20.2.1 0) (u_20.2.1 1) _ _ _ (kr_w (kr_c 1 1 rfl) rfl) ⟨hP, hD⟩ hS (lv_sub hl [2] rfl)
  have J_54 : ∀ (x54_l_5 : Int32) (x54_l_4 : Int32) (x54_l_3 : Int32) (x54_l_2 : Int32) (H : Heap) (locs : List Loc) (ls : Array Slot), kr 0 1 x54_l_5 → kr 0 24 x54_l_4 → (¬ x54_l_5 = 0 → kr 0 23 x54_l_4) → kPD D A [kO h 8 [.ref h_shelf, .ref h_crew, .ref h_diary, .int n_h_gapless, .int n_h_looseReads, .int n_h_impatient, .int n_h_need, .int n_h_needKey], kO h_crew 1 [.int n_h_crew_size, .ref h_crew_state, .ref h_crew_outcome, .ref h_crew_deaths, .ref h_crew_kind, .ref h_crew_low, .ref h_crew_high, .ref h_crew_value, .ref h_crew_need, .ref h_crew_needKey, .ref h_crew_line, .int n_h_crew_lineLength], kI cI h_crew_kind 5 f_h_crew_kind, kI cI h_crew_low 5 f_h_crew_low, kO h_shelf 6 [.int n_h_shelf_size, .ref h_shelf_bits, .ref h_shelf_value, .ref h_shelf_cutter, .ref h_shelf_putter, .ref h_shelf_gaps, .ref h_shelf_sharers, .ref h_shelf_wholes], kI cI h_shelf_bits 24 f_h_shelf_bits, kI cI h_shelf_gaps 25 f_h_shelf_gaps, kI cI h_shelf_cutter 24 f_h_shelf_cutter, kI cI h_shelf_value 24 f_h_shelf_value, kO h_diary 3 [.int n_h_diary_length, .ref h_diary_changes], kJ cJ h_diary_changes 600 f_h_diary_changes, kI cI h_crew_value 5 f_h_crew_value, kI cI h_shelf_wholes 24 f_h_shelf_wholes, kI cI h_shelf_sharers 24 f_h_shelf_sharers] H → va_S A s.heap H locs → lv_has ls 7 [(5, .int x54_l_5), (4, .int x54_l_4), (3, .int x54_l_3), (2, .int x54_l_2), (0, .ref h), (1, .int p0)] → W p l e ({ frames := 1, cells := 0, slots := 0, locals := 24 }) s m ([.ref h, .int p0] : List Value).toArray below meth c H locs 0 0 QQ (F0 m 54 ls []) := by
    intro x54_l_5 x54_l_4 x54_l_3 x54_l_2 H locs ls bx54_l_5 bx54_l_4 d54_0 hPD hS hl
    obtain ⟨hP, hD⟩ := hPD
    refine lv_iload hx hb dX9_reach_54 (lv_at hl 0 rfl) ?_
    refine lv_if_ne (tgt := 78) hx hb dX9_reach_56 (by decide) (fun c_27 => ?_) (fun c_27 => ?_)
    · have b_28 : kr 1 1 x54_l_5 := kr_ne_lo bx54_l_5 c_27 rfl
      have b_29 : kr 0 23 x54_l_4 := d54_0 c_27
      refine lv_aload_n hx hb dX9_reach_78 rfl (lv_at hl 4 rfl) ?_
      refine lv_iload_n hx hb dX9_reach_79 rfl (lv_at hl 5 rfl) ?_
      refine lv_iload hx hb dX9_reach_80 (lv_at hl 1 rfl) ?_
      refine lv_iload_n hx hb dX9_reach_82 rfl (lv_at hl 3 rfl) ?_
      refine lv_iconst (v := 2) hx hb dX9_reach_83 (by decide) ?_
      refine lv_icmp_eq (tgt := 91) hx hb dX9_reach_84 (by decide) (fun c_30 => ?_) (fun c_30 => ?_)
      · have b_31 : kr 2 2 x54_l_2 := kr_eq_l (kr_all x54_l_2) (kr_c 2 2 rfl) c_30 rfl
        refine lv_iconst (v := 0) hx hb dX9_reach_91 (by decide) ?_
        exact J_92 x54_l_5 x54_l_4 x54_l_3 x54_l_2 0 x54_l_4 _ _ _ b_28 b_29 (kr_w (kr_c 0 0 rfl) rfl) b_29 ⟨hP, hD⟩ hS (lv_sub hl [0, 1, 2, 3, 4, 5] rfl)
      · refine lv_iconst (v := 1) hx hb dX9_reach_87 (by decide) ?_
        refine lv_goto (tgt := 92) hx hb dX9_reach_88 (by decide) ?_
        exact J_92 x54_l_5 x54_l_4 x54_l_3 x54_l_2 1 x54_l_4 _ _ _ b_28 b_29 (kr_w (kr_c 1 1 rfl) rfl) b_29 ⟨hP, hD⟩ hS (lv_sub hl [0, 1, 2, 3, 4, 5] rfl)
    · have b_32 : kr 0 0 x54_l_5 := kr_eq_l bx54_l_5 (kr_c 0 0 rfl) c_27 rfl
      refine lv_aload_n hx hb dX9_reach_59 rfl (lv_at hl 4 rfl) ?_
      refine va_get (D := D) (ci := 8) (v := .ref h_shelf) (C := RX9) (T := TX9) (N := 8) hx hb hts u_X9 hown hE.1 hP 0 rfl rfl 0 (by decide) (hts _ w_384) (fun _ h9 => h9) rfl dX9_reach_60 ?_
      refine va_get (D := D) (ci := 6) (v := .ref h_shelf_gaps) (C := RX7) (T := TX7) (N := 8) hx hb hts u_X7 hown hE.1 hP 4 rfl rfl 5 (by decide) (hts _ w_178) (fun _ h9 => h9) rfl dX9_reach_63 ?_
      refine lv_iload hx hb dX9_reach_66 (lv_at hl 1 rfl) ?_
      refine lv_dup2_11 hx hb dX9_reach_68 rfl rfl ?_
      refine va_iald hx hb hE.1 hP 6 1 rfl rfl (kr_in bx54_l_4 rfl) dX9_reach_69 ?_
      refine lv_topi (fun v_33 e_33 => ?_)
      refine lv_iconst (v := 1) hx hb dX9_reach_70 (by decide) ?_
      refine lv_iload_n hx hb dX9_reach_71 rfl (lv_at hl 5 rfl) ?_
      refine lv_ishl hx hb dX9_reach_72 ?_
      refine lv_topi (fun v_34 e_34 => ?_)
      refine lv_ior hx hb dX9_reach_73 ?_
      refine lv_topi (fun v_35 e_35 => ?_)
      refine va_iast hx hb hE.1 hP hD hS 6 1 rfl rfl (kr_in bx54_l_4 rfl) dX9_reach_74 (fun H locs hP hD hS => ?_)
      obtain ⟨f_36, ef_36⟩ : ∃ z, z = (upd f_h_shelf_gaps (Int32.toNatClampNeg x54_l_4) v_35) := ⟨_, rfl⟩
      rw [← ef_36] at hP hD
      obtain ⟨hP, hD⟩ : kPD D A [kO h 8 [.ref h_shelf, .ref h_crew, .ref h_diary, .int n_h_gapless, .int n_h_looseReads, .int n_h_impatient, .int n_h_need, .int n_h_needKey], kO h_crew 1 [.int n_h_crew_size, .ref h_crew_state, .ref h_crew_outcome, .ref h_crew_deaths, .ref h_crew_kind, .ref h_crew_low, .ref h_crew_high, .ref h_crew_value, .ref h_crew_need, .ref h_crew_needKey, .ref h_crew_line, .int n_h_crew_lineLength], kI cI h_crew_kind 5 f_h_crew_kind, kI cI h_crew_low 5 f_h_crew_low, kO h_shelf 6 [.int n_h_shelf_size, .ref h_shelf_bits, .ref h_shelf_value, .ref h_shelf_cutter, .ref h_shelf_putter, .ref h_shelf_gaps, .ref h_shelf_sharers, .ref h_shelf_wholes], kI cI h_shelf_bits 24 f_h_shelf_bits, kI cI h_shelf_gaps 25 f_36, kI cI h_shelf_cutter 24 f_h_shelf_cutter, kI cI h_shelf_value 24 f_h_shelf_value, kO h_diary 3 [.int n_h_diary_length, .ref h_diary_changes], kJ cJ h_diary_changes 600 f_h_diary_changes, kI cI h_crew_value 5 f_h_crew_value, kI cI h_shelf_wholes 24 f_h_shelf_wholes, kI cI h_shelf_sharers 24 f_h_shelf_sharers] H := ⟨hP, hD⟩
      refine lv_goto (tgt := 114) hx hb dX9_reach_75 (by decide) ?_
      exact J_114 x54_l_5 x54_l_4 x54_l_3 x54_l_2 f_36 f_h_shelf_wholes f_h_shelf_sharers _ _ _ (kr_w b_32 rfl) bx54_l_4 (fun h9 => absurd (kr_one b_32 rfl) h9) ⟨hP, hD⟩ hS (lv_sub hl [0, 1, 2, 3, 4, 5] rfl)
  refine lv_aload_n hx hb dX9_reach_0 rfl (lv_at hl 0 rfl) ?_
  refine va_get (D := D) (ci := 8) (v := .ref h_crew) (C := RX9) (T := TX9) (N := 8) hx hb hts u_X9 hown hE.1 hP 0 rfl rfl 1 (by decide) (hts _ w_387) (fun _ h9 => h9) rfl dX9_reach_1 ?_
  refine va_get (D := D) (ci := 1) (v := .ref h_crew_kind) (C := RX1) (T := TX1) (N := 12) hx hb hts u_X1 hown hE.1 hP 1 rfl rfl 4 (by decide) (hts _ w_327) (fun _ h9 => h9) rfl dX9_reach_4 ?_
  refine lv_iload_n hx hb dX9_reach_7 rfl (lv_at hl 1 rfl) ?_
  refine va_iald hx hb hE.1 hP 2 1 rfl rfl (kr_in b_p0 rfl) dX9_reach_8 ?_
  refine lv_topi (fun v_37 e_37 => ?_)
  refine lv_istore_n (lv' := [(2, .int v_37), (0, .ref h), (1, .int p0)]) hx hb dX9_reach_9 rfl hl (by decide) rfl (fun ls hl => ?_)
  refine lv_aload_n hx hb dX9_reach_10 rfl (lv_at hl 1 rfl) ?_
  refine va_get (D := D) (ci := 8) (v := .ref h_crew) (C := RX9) (T := TX9) (N := 8) hx hb hts u_X9 hown hE.1 hP 0 rfl rfl 1 (by decide) (hts _ w_387) (fun _ h9 => h9) rfl dX9_reach_11 ?_
  refine va_get (D := D) (ci := 1) (v := .ref h_crew_low) (C := RX1) (T := TX1) (N := 12) hx hb hts u_X1 hown hE.1 hP 1 rfl rfl 5 (by decide) (hts _ w_329) (fun _ h9 => h9) rfl dX9_reach_14 ?_
  refine lv_iload_n hx hb dX9_reach_17 rfl (lv_at hl 2 rfl) ?_
  refine va_iald hx hb hE.1 hP 3 1 rfl rfl (kr_in b_p0 rfl) dX9_reach_18 ?_
  refine lv_topi (fun v_38 e_38 => ?_)
  refine lv_istore_n (lv' := [(3, .int v_38), (2, .int v_37), (0, .ref h), (1, .int p0)]) hx hb dX9_reach_19 rfl hl (by decide) rfl (fun ls hl => ?_)
  refine lv_aload_n hx hb dX9_reach_20 rfl (lv_at hl 2 rfl) ?_
  refine va_get (D := D) (ci := 8) (v := .ref h_shelf) (C := RX9) (T := TX9) (N := 8) hx hb hts u_X9 hown hE.1 hP 0 rfl rfl 0 (by decide) (hts _ w_384) (fun _ h9 => h9) rfl dX9_reach_21 ?_
  refine lv_iload_n hx hb dX9_reach_24 rfl (lv_at hl 0 rfl) ?_
  refine kk_pi (kk_runV (w1 := [kO h_shelf 6 [.int n_h_shelf_size, .ref h_shelf_bits, .ref h_shelf_value, .ref h_shelf_cutter, .ref h_shelf_putter, .ref h_shelf_gaps, .ref h_shelf_sharers, .ref h_shelf_wholes], kI cI h_shelf_bits 24 f_h_shelf_bits]) (As := [.int v_38]) (rest := []) hx hb hml hown hts hE (c_X7_placeFrom l D cB cI cJ cD h_shelf h_shelf_bits h_shelf_value h_shelf_cutter h_shelf_putter h_shelf_gaps h_shelf_sharers h_shelf_wholes n_h_shelf_size f_h_shelf_bits v_38 s.heap.size b_h_shelf_size) m_X7_placeFrom w_804 ⟨rfl, rfl, Nat.le_of_ble_eq_true rfl, Nat.le_of_ble_eq_true rfl⟩ (hP.sub [4, 5] rfl) (hD.sub [4, 5] (by decide +kernel) rfl) 0 6 rfl rfl rfl hl.1 (Nat.le_of_ble_eq_true rfl) dX9_reach_25 ⟨Nat.le_of_ble_eq_true rfl, Nat.le_of_ble_eq_true rfl⟩) (fun r_39 p_39 => ?_)
  have b_39 : kr 0 24 r_39 := p_39.1
  have g_40 : r_39.toInt ≤ n_h_shelf_size.toInt := p_39.2
  refine lv_istore (lv' := [(4, .int r_39), (3, .int v_38), (2, .int v_37), (0, .ref h), (1, .int p0)]) hx hb dX9_reach_28 hl (by decide) rfl (fun ls hl => ?_)
  refine lv_aload_n hx hb dX9_reach_30 rfl (lv_at hl 3 rfl) ?_
  refine va_get (D := D) (ci := 8) (v := .ref h_shelf) (C := RX9) (T := TX9) (N := 8) hx hb hts u_X9 hown hE.1 hP 0 rfl rfl 0 (by decide) (hts _ w_384) (fun _ h9 => h9) rfl dX9_reach_31 ?_
  refine lv_iload hx hb dX9_reach_34 (lv_at hl 0 rfl) ?_
  refine lv_iload_n hx hb dX9_reach_36 rfl (lv_at hl 1 rfl) ?_
  refine kk_pi (kk_runV (w1 := [kO h_shelf 6 [.int n_h_shelf_size, .ref h_shelf_bits, .ref h_shelf_value, .ref h_shelf_cutter, .ref h_shelf_putter, .ref h_shelf_gaps, .ref h_shelf_sharers, .ref h_shelf_wholes], kI cI h_shelf_bits 24 f_h_shelf_bits]) (As := [.int r_39, .int v_38]) (rest := []) hx hb hml hown hts hE (c_X7_hasAt l D cB cI cJ cD h_shelf h_shelf_bits h_shelf_value h_shelf_cutter h_shelf_putter h_shelf_gaps h_shelf_sharers h_shelf_wholes n_h_shelf_size f_h_shelf_bits r_39 v_38 s.heap.size b_h_shelf_size b_39) m_X7_hasAt w_806 ⟨rfl, rfl, Nat.le_of_ble_eq_true rfl, Nat.le_of_ble_eq_true rfl⟩ (hP.sub [4, 5] rfl) (hD.sub [4, 5] (by decide +kernel) rfl) 0 6 rfl rfl rfl hl.1 (Nat.le_of_ble_eq_true rfl) dX9_reach_37 ⟨Nat.le_of_ble_eq_true rfl, Nat.le_of_ble_eq_true rfl⟩) (fun r_41 p_41 => ?_)
  have b_41 : kr 0 1 r_41 := p_41.1
  refine lv_istore (lv' := [(5, .int r_41), (4, .int r_39), (3, .int v_38), (2, .int v_37), (0, .ref h), (1, .int p0)]) hx hb dX9_reach_40 hl (by decide) rfl (fun ls hl => ?_)
  refine lv_iload_n hx hb dX9_reach_42 rfl (lv_at hl 3 rfl) ?_
  refine lv_iconst (v := 2) hx hb dX9_reach_43 (by decide) ?_
  refine lv_icmp_ne (tgt := 54) hx hb dX9_reach_44 (by decide) (fun c_42 => ?_) (fun c_42 => ?_)
  · exact J_54 r_41 r_39 v_38 v_37 _ _ _ b_41 b_39 p_41.2 ⟨hP, hD⟩ hS (lv_sub hl [0, 1, 2, 3, 4, 5] rfl)
  · have b_43 : kr 2 2 v_37 := kr_eq_l (kr_all v_37) (kr_c 2 2 rfl) c_42 rfl
    refine lv_aload_n hx hb dX9_reach_47 rfl (lv_at hl 4 rfl) ?_
    refine va_get (D := D) (ci := 8) (v := .int n_h_looseReads) (C := RX9) (T := TX9) (N := 8) hx hb hts u_X9 hown hE.1 hP 0 rfl rfl 4 (by decide) (hts _ w_395) (fun _ h9 => h9) rfl dX9_reach_48 ?_
    refine lv_if_ne (tgt := 114) hx hb dX9_reach_51 (by decide) (fun c_44 => ?_) (fun c_44 => ?_)
    · have b_45 : kr 1 1 n_h_looseReads := kr_ne_lo b_h_looseReads c_44 rfl
      exact J_114 r_41 r_39 v_38 v_37 f_h_shelf_gaps f_h_shelf_wholes f_h_shelf_sharers _ _ _ b_41 b_39 p_41.2 ⟨hP, hD⟩ hS (lv_sub hl [0, 1, 2, 3, 4, 5] rfl)
    · have b_46 : kr 0 0 n_h_looseReads := kr_eq_l b_h_looseReads (kr_c 0 0 rfl) c_44 rfl
      exact J_54 r_41 r_39 v_38 v_37 _ _ _ b_41 b_39 p_41.2 ⟨hP, hD⟩ hS (lv_sub hl [0, 1, 2, 3, 4, 5] rfl)
set_option maxHeartbeats 4000000 in
set_option maxRecDepth 100000 in
theorem c_X9_attempt (l : Launch) (D : va_G) (cB cI cJ cD : ClassId) (h : Nat) (h_crew : Nat) (h_crew_kind : Nat) (h_crew_low : Nat) (h_shelf : Nat) (h_shelf_bits : Nat) (h_crew_high : Nat) (h_shelf_gaps : Nat) (h_shelf_wholes : Nat) (h_shelf_sharers : Nat) (h_shelf_cutter : Nat) (h_shelf_value : Nat) (h_diary : Nat) (h_diary_changes : Nat) (h_crew_value : Nat) (h_shelf_putter : Nat) (h_crew_state : Nat) (h_crew_outcome : Nat) (h_crew_deaths : Nat) (h_crew_need : Nat) (h_crew_needKey : Nat) (h_crew_line : Nat) (n_h_gapless : Int32) (n_h_looseReads : Int32) (n_h_impatient : Int32) (n_h_need : Int32) (n_h_needKey : Int32) (n_h_crew_size : Int32) (n_h_crew_lineLength : Int32) (f_h_crew_kind : Nat → Int32) (f_h_crew_low : Nat → Int32) (n_h_shelf_size : Int32) (f_h_shelf_bits : Nat → Int32) (f_h_crew_high : Nat → Int32) (f_h_shelf_gaps : Nat → Int32) (f_h_shelf_wholes : Nat → Int32) (f_h_shelf_sharers : Nat → Int32) (f_h_shelf_cutter : Nat → Int32) (f_h_shelf_value : Nat → Int32) (n_h_diary_length : Int32) (f_h_diary_changes : Nat → Int64) (f_h_crew_value : Nat → Int32) (f_h_shelf_putter : Nat → Int32) (p0 : Int32) (sz : Nat) (b_h_gapless : kr 0 1 n_h_gapless) (b_h_looseReads : kr 0 1 n_h_looseReads) (b_h_impatient : kr 0 1 n_h_impatient) (b_h_crew_size : kr 0 5 n_h_crew_size) (b_h_crew_lineLength : kr 0 5 n_h_crew_lineLength) (b_h_shelf_size : kr 0 24 n_h_shelf_size) (b_h_diary_length : kr 0 600 n_h_diary_length) (b_p0 : kr 0 4 p0) : Met l yX9_attempt (kk_W yX9_attempt cX9_attempt 2 (some .int)) ({ frames := 2, cells := 0, slots := 0, locals := 50 }) (va_Pc [.ref h, .int p0] (kk_pre D cB cI cJ cD [kO h 8 [.ref h_shelf, .ref h_crew, .ref h_diary, .int n_h_gapless, .int n_h_looseReads, .int n_h_impatient, .int n_h_need, .int n_h_needKey], kO h_crew 1 [.int n_h_crew_size, .ref h_crew_state, .ref h_crew_outcome, .ref h_crew_deaths, .ref h_crew_kind, .ref h_crew_low, .ref h_crew_high, .ref h_crew_value, .ref h_crew_need, .ref h_crew_needKey, .ref h_crew_line, .int n_h_crew_lineLength], kI cI h_crew_kind 5 f_h_crew_kind, kI cI h_crew_low 5 f_h_crew_low, kO h_shelf 6 [.int n_h_shelf_size, .ref h_shelf_bits, .ref h_shelf_value, .ref h_shelf_cutter, .ref h_shelf_putter, .ref h_shelf_gaps, .ref h_shelf_sharers, .ref h_shelf_wholes], kI cI h_shelf_bits 24 f_h_shelf_bits, kI cI h_crew_high 5 f_h_crew_high, kI cI h_shelf_gaps 25 f_h_shelf_gaps, kI cI h_shelf_wholes 24 f_h_shelf_wholes, kI cI h_shelf_sharers 24 f_h_shelf_sharers, kI cI h_shelf_cutter 24 f_h_shelf_cutter, kI cI h_shelf_value 24 f_h_shelf_value, kO h_diary 3 [.int n_h_diary_length, .ref h_diary_changes], kJ cJ h_diary_changes 600 f_h_diary_changes, kI cI h_crew_value 5 f_h_crew_value, kI cI h_shelf_putter 24 f_h_shelf_putter] sz)) (kk_Qi D (fun (r : Int32) (u : (Nat → Nat) × (Nat → Nat → Int32) × (Nat → Nat → Int64) × (Nat → Int32)) => kr 0 24 (u.2.2.2 2) ∧ kr 0 600 (u.2.2.2 3)) (fun u => [kO h 8 [.ref h_shelf, .ref h_crew, .ref h_diary, .int n_h_gapless, .int n_h_looseReads, .int n_h_impatient, .int (u.2.2.2 0), .int (u.2.2.2 1)], kO h_crew 1 [.int n_h_crew_size, .ref h_crew_state, .ref h_crew_outcome, .ref h_crew_deaths, .ref h_crew_kind, .ref h_crew_low, .ref h_crew_high, .ref h_crew_value, .ref h_crew_need, .ref h_crew_needKey, .ref h_crew_line, .int n_h_crew_lineLength], kI cI h_crew_kind 5 f_h_crew_kind, kI cI h_crew_low 5 f_h_crew_low, kO h_shelf 6 [.int (u.2.2.2 2), .ref h_shelf_bits, .ref h_shelf_value, .ref h_shelf_cutter, .ref h_shelf_putter, .ref h_shelf_gaps, .ref h_shelf_sharers, .ref h_shelf_wholes], kI cI h_shelf_bits 24 (u.2.1 0), kI cI h_crew_high 5 f_h_crew_high, kI cI h_shelf_gaps 25 (u.2.1 1), kI cI h_shelf_wholes 24 (u.2.1 2), kI cI h_shelf_sharers 24 (u.2.1 3), kI cI h_shelf_cutter 24 (u.2.1 4), kI cI h_shelf_value 24 (u.2.1 5), kO h_diary 3 [.int (u.2.2.2 3), .ref h_diary_changes], kJ cJ h_diary_changes 600 (u.2.2.1 0), kI cI h_crew_value 5 f_h_crew_value, kI cI h_shelf_putter 24 (u.2.1 6)]) (va_A [kO h 8 [.ref h_shelf, .ref h_crew, .ref h_diary, .int n_h_gapless, .int n_h_looseReads, .int n_h_impatient, .int n_h_need, .int n_h_needKey], kO h_crew 1 [.int n_h_crew_size, .ref h_crew_state, .ref h_crew_outcome, .ref h_crew_deaths, .ref h_crew_kind, .ref h_crew_low, .ref h_crew_high, .ref h_crew_value, .ref h_crew_need, .ref h_crew_needKey, .ref h_crew_line, .int n_h_crew_lineLength], kI cI h_crew_kind 5 f_h_crew_kind, kI cI h_crew_low 5 f_h_crew_low, kO h_shelf 6 [.int n_h_shelf_size, .ref h_shelf_bits, .ref h_shelf_value, .ref h_shelf_cutter, .ref h_shelf_putter, .ref h_shelf_gaps, .ref h_shelf_sharers, .ref h_shelf_wholes], kI cI h_shelf_bits 24 f_h_shelf_bits, kI cI h_crew_high 5 f_h_crew_high, kI cI h_shelf_gaps 25 f_h_shelf_gaps, kI cI h_shelf_wholes 24 f_h_shelf_wholes, kI cI h_shelf_sharers 24 f_h_shelf_sharers, kI cI h_shelf_cutter 24 f_h_shelf_cutter, kI cI h_shelf_value 24 f_h_shelf_value, kO h_diary 3 [.int n_h_diary_length, .ref h_diary_changes], kJ cJ h_diary_changes 600 f_h_diary_changes, kI cI h_crew_value 5 f_h_crew_value, kI cI h_shelf_putter 24 f_h_shelf_putter] sz)) 0 0 (va_A [kO h 8 [.ref h_shelf, .ref h_crew, .ref h_diary, .int n_h_gapless, .int n_h_looseReads, .int n_h_impatient, .int n_h_need, .int n_h_needKey], kO h_crew 1 [.int n_h_crew_size, .ref h_crew_state, .ref h_crew_outcome, .ref h_crew_deaths, .ref h_crew_kind, .ref h_crew_low, .ref h_crew_high, .ref h_crew_value, .ref h_crew_need, .ref h_crew_needKey, .ref h_crew_line, .int n_h_crew_lineLength], kI cI h_crew_kind 5 f_h_crew_kind, kI cI h_crew_low 5 f_h_crew_low, kO h_shelf 6 [.int n_h_shelf_size, .ref h_shelf_bits, .ref h_shelf_value, .ref h_shelf_cutter, .ref h_shelf_putter, .ref h_shelf_gaps, .ref h_shelf_sharers, .ref h_shelf_wholes], kI cI h_shelf_bits 24 f_h_shelf_bits, kI cI h_crew_high 5 f_h_crew_high, kI cI h_shelf_gaps 25 f_h_shelf_gaps, kI cI h_shelf_wholes 24 f_h_shelf_wholes, kI cI h_shelf_sharers 24 f_h_shelf_sharers, kI cI h_shelf_cutter 24 f_h_shelf_cutter, kI cI h_shelf_value 24 f_h_shelf_value, kO h_diary 3 [.int n_h_diary_length, .ref h_diary_changes], kJ cJ h_diary_changes 600 f_h_diary_changes, kI cI h_crew_value 5 f_h_crew_value, kI cI h_shelf_putter 24 f_h_shelf_putter] sz) := by
  refine kk_start (y := yX9_attempt) (maxL := 2) (av := [.ref h, .int p0]) (Qc := fun A => kk_Qi D (fun (r : Int32) (u : (Nat → Nat) × (Nat → Nat → Int32) × (Nat → Nat → Int64) × (Nat → Int32)) => kr 0 24 (u.2.2.2 2) ∧ kr 0 600 (u.2.2.2 3)) (fun u => [kO h 8 [.ref h_shelf, .ref h_crew, .ref h_diary, .int n_h_gapless, .int n_h_looseReads, .int n_h_impatient, .int (u.2.2.2 0), .int (u.2.2.2 1)], kO h_crew 1 [.int n_h_crew_size, .ref h_crew_state, .ref h_crew_outcome, .ref h_crew_deaths, .ref h_crew_kind, .ref h_crew_low, .ref h_crew_high, .ref h_crew_value, .ref h_crew_need, .ref h_crew_needKey, .ref h_crew_line, .int n_h_crew_lineLength], kI cI h_crew_kind 5 f_h_crew_kind, kI cI h_crew_low 5 f_h_crew_low, kO h_shelf 6 [.int (u.2.2.2 2), .ref h_shelf_bits, .ref h_shelf_value, .ref h_shelf_cutter, .ref h_shelf_putter, .ref h_shelf_gaps, .ref h_shelf_sharers, .ref h_shelf_wholes], kI cI h_shelf_bits 24 (u.2.1 0), kI cI h_crew_high 5 f_h_crew_high, kI cI h_shelf_gaps 25 (u.2.1 1), kI cI h_shelf_wholes 24 (u.2.1 2), kI cI h_shelf_sharers 24 (u.2.1 3), kI cI h_shelf_cutter 24 (u.2.1 4), kI cI h_shelf_value 24 (u.2.1 5), kO h_diary 3 [.int (u.2.2.2 3), .ref h_diary_changes], kJ cJ h_diary_changes 600 (u.2.2.1 0), kI cI h_crew_value 5 f_h_crew_value, kI cI h_shelf_putter 24 (u.2.1 6)]) A) (by decide) (Nat.le_of_ble_eq_true rfl) ?_
  intro p e s m below meth c ls A hx hb hr hml hown hts hE hlocks hin hsz hP hD hA hS hl
  have hown : s.vm.findClass RX9 = some m.cls := hown
  have hl : lv_has ls 2 [(0, .ref h), (1, .int p0)] := hl
  refine lv_aload_n hx hb dX9_attempt_0 rfl (lv_at hl 0 rfl) ?_
  refine va_get (D := D) (ci := 8) (v := .ref h_crew) (C := RX9) (T := TX9) (N := 8) hx hb hts u_X9 hown hE.1 hP 0 rfl rfl 1 (by decide) (hts _ w_387) (fun _ h9 => h9) rfl dX9_attempt_1 ?_
  refine va_get (D := D) (ci := 1) (v := .ref h_crew_kind) (C := RX1) (T := TX1) (N := 12) hx hb hts u_X1 hown hE.1 hP 1 rfl rfl 4 (by decide) (hts _ w_327) (fun _ h9 => h9) rfl dX9_attempt_4 ?_
  refine lv_iload_n hx hb dX9_attempt_7 rfl (lv_at hl 1 rfl) ?_
  refine va_iald hx hb hE.1 hP 2 1 rfl rfl (kr_in b_p0 rfl) dX9_attempt_8 ?_
  refine lv_topi (fun v_1 e_1 => ?_)
  by_cases q_2 : v_1 = 1
  · obtain rfl : v_1 = 1 := q_2
    refine lv_lookup (tgt := 36) hx hb dX9_attempt_9 (by decide) rfl (by decide) ?_
    refine lv_aload_n hx hb dX9_attempt_36 rfl (lv_at hl 0 rfl) ?_
    refine lv_iload_n hx hb dX9_attempt_37 rfl (lv_at hl 1 rfl) ?_
    refine kk_ci (wr := [kI cI h_crew_kind 5 f_h_crew_kind, kO h_diary 3 [.int n_h_diary_length, .ref h_diary_changes], kJ cJ h_diary_changes 600 f_h_diary_changes, kI cI h_crew_value 5 f_h_crew_value, kI cI h_shelf_putter 24 f_h_shelf_putter]) (kk_runV (w1 := [kO h 8 [.ref h_shelf, .ref h_crew, .ref h_diary, .int n_h_gapless, .int n_h_looseReads, .int n_h_impatient, .int n_h_need, .int n_h_needKey], kO h_crew 1 [.int n_h_crew_size, .ref h_crew_state, .ref h_crew_outcome, .ref h_crew_deaths, .ref h_crew_kind, .ref h_crew_low, .ref h_crew_high, .ref h_crew_value, .ref h_crew_need, .ref h_crew_needKey, .ref h_crew_line, .int n_h_crew_lineLength], kI cI h_crew_low 5 f_h_crew_low, kO h_shelf 6 [.int n_h_shelf_size, .ref h_shelf_bits, .ref h_shelf_value, .ref h_shelf_cutter, .ref h_shelf_putter, .ref h_shelf_gaps, .ref h_shelf_sharers, .ref h_shelf_wholes], kI cI h_shelf_bits 24 f_h_shelf_bits, kI cI h_crew_high 5 f_h_crew_high, kI cI h_shelf_gaps 25 f_h_shelf_gaps, kI cI h_shelf_wholes 24 f_h_shelf_wholes, kI cI h_shelf_sharers 24 f_h_shelf_sharers, kI cI h_shelf_cutter 24 f_h_shelf_cutter, kI cI h_shelf_value 24 f_h_shelf_value]) (As := [.int p0]) (rest := []) hx hb hml hown hts hE (c_X9_readThrough l D cB cI cJ cD h h_crew h_crew_low h_shelf h_shelf_bits h_crew_high h_shelf_gaps h_shelf_wholes h_shelf_sharers h_shelf_cutter h_shelf_value h_diary h_crew_state h_crew_outcome h_crew_deaths h_crew_kind h_crew_value h_crew_need h_crew_needKey h_crew_line h_shelf_putter n_h_gapless n_h_looseReads n_h_impatient n_h_need n_h_needKey n_h_crew_size n_h_crew_lineLength f_h_crew_low n_h_shelf_size f_h_shelf_bits f_h_crew_high f_h_shelf_gaps f_h_shelf_wholes f_h_shelf_sharers f_h_shelf_cutter f_h_shelf_value p0 s.heap.size b_h_gapless b_h_looseReads b_h_impatient b_h_crew_size b_h_crew_lineLength b_h_shelf_size b_p0) m_X9_readThrough w_824 ⟨rfl, rfl, Nat.le_of_ble_eq_true rfl, Nat.le_of_ble_eq_true rfl⟩ (hP.sub [0, 1, 3, 4, 5, 6, 7, 8, 9, 10, 11] rfl) (hD.sub [0, 1, 3, 4, 5, 6, 7, 8, 9, 10, 11] (by decide +kernel) rfl) 0 8 rfl rfl rfl hl.1 (Nat.le_of_ble_eq_true rfl) dX9_attempt_38 ⟨Nat.le_of_ble_eq_true rfl, Nat.le_of_ble_eq_true rfl⟩) hP hD hS hA [0, 1, 3, 4, 5, 6, 7, 8, 9, 10, 11] [2, 12, 13, 14, 15] rfl rfl (by decide +kernel) (by decide +kernel) (fun r_4 u_3 H locs p_3 hP hD hS => ?_)
    obtain ⟨hP, hD⟩ : kPD D A [kI cI h_crew_kind 5 f_h_crew_kind, kO h_diary 3 [.int n_h_diary_length, .ref h_diary_changes], kJ cJ h_diary_changes 600 f_h_diary_changes, kI cI h_crew_value 5 f_h_crew_value, kI cI h_shelf_putter 24 f_h_shelf_putter, kO h 8 [.ref h_shelf, .ref h_crew, .ref h_diary, .int n_h_gapless, .int n_h_looseReads, .int n_h_impatient, .int (u_3.2.2.2 0), .int (u_3.2.2.2 1)], kO h_crew 1 [.int n_h_crew_size, .ref h_crew_state, .ref h_crew_outcome, .ref h_crew_deaths, .ref h_crew_kind, .ref h_crew_low, .ref h_crew_high, .ref h_crew_value, .ref h_crew_need, .ref h_crew_needKey, .ref h_crew_line, .int n_h_crew_lineLength], kI cI h_crew_low 5 f_h_crew_low, kO h_shelf 6 [.int n_h_shelf_size, .ref h_shelf_bits, .ref h_shelf_value, .ref h_shelf_cutter, .ref h_shelf_putter, .ref h_shelf_gaps, .ref h_shelf_sharers, .ref h_shelf_wholes], kI cI h_shelf_bits 24 f_h_shelf_bits, kI cI h_crew_high 5 f_h_crew_high, kI cI h_shelf_gaps 25 (u_3.2.1 0), kI cI h_shelf_wholes 24 f_h_shelf_wholes, kI cI h_shelf_sharers 24 (u_3.2.1 1), kI cI h_shelf_cutter 24 f_h_shelf_cutter, kI cI h_shelf_value 24 f_h_shelf_value] H := ⟨hP, hD⟩
    exact kk_ret_i ((fun _ => 0), (fun i => [f_h_shelf_bits, (u_3.2.1 0), f_h_shelf_wholes, (u_3.2.1 1), f_h_shelf_cutter, f_h_shelf_value, f_h_shelf_putter].getD i (fun _ => 0)), (fun i => [f_h_diary_changes].getD i (fun _ => 0)), (fun i => [(u_3.2.2.2 0), (u_3.2.2.2 1), n_h_shelf_size, n_h_diary_length].getD i 0)) hx hb hr hlocks ⟨b_h_shelf_size, b_h_diary_length⟩ (hP.sub [5, 6, 0, 7, 8, 9, 10, 11, 12, 13, 14, 15, 1, 2, 3, 4] rfl) (hD.sub [5, 6, 0, 7, 8, 9, 10, 11, 12, 13, 14, 15, 1, 2, 3, 4] (by decide +kernel) rfl) hS dX9_attempt_41 (Nat.le_of_ble_eq_true rfl) (Nat.le_of_ble_eq_true rfl)
  by_cases q_5 : v_1 = 5
  · obtain rfl : v_1 = 5 := q_5
    refine lv_lookup (tgt := 42) hx hb dX9_attempt_9 (by decide) rfl (by decide) ?_
    refine lv_aload_n hx hb dX9_attempt_42 rfl (lv_at hl 0 rfl) ?_
    refine lv_iload_n hx hb dX9_attempt_43 rfl (lv_at hl 1 rfl) ?_
    refine kk_ci (wr := [kI cI h_crew_kind 5 f_h_crew_kind, kI cI h_crew_high 5 f_h_crew_high]) (kk_runV (w1 := [kO h 8 [.ref h_shelf, .ref h_crew, .ref h_diary, .int n_h_gapless, .int n_h_looseReads, .int n_h_impatient, .int n_h_need, .int n_h_needKey], kO h_crew 1 [.int n_h_crew_size, .ref h_crew_state, .ref h_crew_outcome, .ref h_crew_deaths, .ref h_crew_kind, .ref h_crew_low, .ref h_crew_high, .ref h_crew_value, .ref h_crew_need, .ref h_crew_needKey, .ref h_crew_line, .int n_h_crew_lineLength], kI cI h_crew_low 5 f_h_crew_low, kO h_shelf 6 [.int n_h_shelf_size, .ref h_shelf_bits, .ref h_shelf_value, .ref h_shelf_cutter, .ref h_shelf_putter, .ref h_shelf_gaps, .ref h_shelf_sharers, .ref h_shelf_wholes], kI cI h_shelf_bits 24 f_h_shelf_bits, kI cI h_shelf_gaps 25 f_h_shelf_gaps, kI cI h_shelf_cutter 24 f_h_shelf_cutter, kI cI h_shelf_wholes 24 f_h_shelf_wholes, kI cI h_shelf_sharers 24 f_h_shelf_sharers, kI cI h_shelf_value 24 f_h_shelf_value, kO h_diary 3 [.int n_h_diary_length, .ref h_diary_changes], kJ cJ h_diary_changes 600 f_h_diary_changes, kI cI h_crew_value 5 f_h_crew_value, kI cI h_shelf_putter 24 f_h_shelf_putter]) (As := [.int p0]) (rest := []) hx hb hml hown hts hE (c_X9_bring l D cB cI cJ cD h h_crew h_crew_low h_shelf h_shelf_bits h_shelf_gaps h_shelf_cutter h_shelf_wholes h_shelf_sharers h_shelf_value h_diary h_diary_changes h_crew_value h_shelf_putter h_crew_state h_crew_outcome h_crew_deaths h_crew_kind h_crew_high h_crew_need h_crew_needKey h_crew_line n_h_gapless n_h_looseReads n_h_impatient n_h_need n_h_needKey n_h_crew_size n_h_crew_lineLength f_h_crew_low n_h_shelf_size f_h_shelf_bits f_h_shelf_gaps f_h_shelf_cutter f_h_shelf_wholes f_h_shelf_sharers f_h_shelf_value n_h_diary_length f_h_diary_changes f_h_crew_value f_h_shelf_putter p0 s.heap.size b_h_gapless b_h_looseReads b_h_impatient b_h_crew_size b_h_crew_lineLength b_h_shelf_size b_h_diary_length b_p0) m_X9_bring w_832 ⟨rfl, rfl, Nat.le_of_ble_eq_true rfl, Nat.le_of_ble_eq_true rfl⟩ (hP.sub [0, 1, 3, 4, 5, 7, 10, 8, 9, 11, 12, 13, 14, 15] rfl) (hD.sub [0, 1, 3, 4, 5, 7, 10, 8, 9, 11, 12, 13, 14, 15] (by decide +kernel) rfl) 0 8 rfl rfl rfl hl.1 (Nat.le_of_ble_eq_true rfl) dX9_attempt_44 ⟨Nat.le_of_ble_eq_true rfl, Nat.le_of_ble_eq_true rfl⟩) hP hD hS hA [0, 1, 3, 4, 5, 7, 10, 8, 9, 11, 12, 13, 14, 15] [2, 6] rfl rfl (by decide +kernel) (by decide +kernel) (fun r_7 u_6 H locs p_6 hP hD hS => ?_)
    obtain ⟨hP, hD⟩ : kPD D A [kI cI h_crew_kind 5 f_h_crew_kind, kI cI h_crew_high 5 f_h_crew_high, kO h 8 [.ref h_shelf, .ref h_crew, .ref h_diary, .int n_h_gapless, .int n_h_looseReads, .int n_h_impatient, .int (u_6.2.2.2 0), .int (u_6.2.2.2 1)], kO h_crew 1 [.int n_h_crew_size, .ref h_crew_state, .ref h_crew_outcome, .ref h_crew_deaths, .ref h_crew_kind, .ref h_crew_low, .ref h_crew_high, .ref h_crew_value, .ref h_crew_need, .ref h_crew_needKey, .ref h_crew_line, .int n_h_crew_lineLength], kI cI h_crew_low 5 f_h_crew_low, kO h_shelf 6 [.int (u_6.2.2.2 2), .ref h_shelf_bits, .ref h_shelf_value, .ref h_shelf_cutter, .ref h_shelf_putter, .ref h_shelf_gaps, .ref h_shelf_sharers, .ref h_shelf_wholes], kI cI h_shelf_bits 24 (u_6.2.1 0), kI cI h_shelf_gaps 25 (u_6.2.1 1), kI cI h_shelf_cutter 24 (u_6.2.1 2), kI cI h_shelf_wholes 24 (u_6.2.1 3), kI cI h_shelf_sharers 24 (u_6.2.1 4), kI cI h_shelf_value 24 (u_6.2.1 5), kO h_diary 3 [.int (u_6.2.2.2 3), .ref h_diary_changes], kJ cJ h_diary_changes 600 (u_6.2.2.1 0), kI cI h_crew_value 5 f_h_crew_value, kI cI h_shelf_putter 24 (u_6.2.1 6)] H := ⟨hP, hD⟩
    have b_7 : kr (-4) 24 r_7 := p_6.1
    exact kk_ret_i ((fun _ => 0), (fun i => [(u_6.2.1 0), (u_6.2.1 1), (u_6.2.1 3), (u_6.2.1 4), (u_6.2.1 2), (u_6.2.1 5), (u_6.2.1 6)].getD i (fun _ => 0)), (fun i => [(u_6.2.2.1 0)].getD i (fun _ => 0)), (fun i => [(u_6.2.2.2 0), (u_6.2.2.2 1), (u_6.2.2.2 2), (u_6.2.2.2 3)].getD i 0)) hx hb hr hlocks ⟨p_6.2.1, p_6.2.2⟩ (hP.sub [2, 3, 0, 4, 5, 6, 1, 7, 9, 10, 8, 11, 12, 13, 14, 15] rfl) (hD.sub [2, 3, 0, 4, 5, 6, 1, 7, 9, 10, 8, 11, 12, 13, 14, 15] (by decide +kernel) rfl) hS dX9_attempt_47 (Nat.le_of_ble_eq_true rfl) (Nat.le_of_ble_eq_true rfl)
  refine lv_lookup (off := 39) (tgt := 48) hx hb dX9_attempt_9 (by decide) (kl_d2 (kr_nei q_2 rfl) (kr_nei q_5 rfl)) (by decide) ?_
  refine lv_aload_n hx hb dX9_attempt_48 rfl (lv_at hl 0 rfl) ?_
  refine lv_iload_n hx hb dX9_attempt_49 rfl (lv_at hl 1 rfl) ?_
  refine kk_ci (wr := [kI cI h_crew_high 5 f_h_crew_high, kI cI h_shelf_putter 24 f_h_shelf_putter]) (kk_runV (w1 := [kO h 8 [.ref h_shelf, .ref h_crew, .ref h_diary, .int n_h_gapless, .int n_h_looseReads, .int n_h_impatient, .int n_h_need, .int n_h_needKey], kO h_crew 1 [.int n_h_crew_size, .ref h_crew_state, .ref h_crew_outcome, .ref h_crew_deaths, .ref h_crew_kind, .ref h_crew_low, .ref h_crew_high, .ref h_crew_value, .ref h_crew_need, .ref h_crew_needKey, .ref h_crew_line, .int n_h_crew_lineLength], kI cI h_crew_kind 5 f_h_crew_kind, kI cI h_crew_low 5 f_h_crew_low, kO h_shelf 6 [.int n_h_shelf_size, .ref h_shelf_bits, .ref h_shelf_value, .ref h_shelf_cutter, .ref h_shelf_putter, .ref h_shelf_gaps, .ref h_shelf_sharers, .ref h_shelf_wholes], kI cI h_shelf_bits 24 f_h_shelf_bits, kI cI h_shelf_gaps 25 f_h_shelf_gaps, kI cI h_shelf_cutter 24 f_h_shelf_cutter, kI cI h_shelf_value 24 f_h_shelf_value, kO h_diary 3 [.int n_h_diary_length, .ref h_diary_changes], kJ cJ h_diary_changes 600 f_h_diary_changes, kI cI h_crew_value 5 f_h_crew_value, kI cI h_shelf_wholes 24 f_h_shelf_wholes, kI cI h_shelf_sharers 24 f_h_shelf_sharers]) (As := [.int p0]) (rest := []) hx hb hml hown hts hE (c_X9_reach l D cB cI cJ cD h h_crew h_crew_kind h_crew_low h_shelf h_shelf_bits h_shelf_gaps h_shelf_cutter h_shelf_value h_diary h_diary_changes h_crew_value h_shelf_wholes h_shelf_sharers h_crew_state h_crew_outcome h_crew_deaths h_crew_high h_crew_need h_crew_needKey h_crew_line h_shelf_putter n_h_gapless n_h_looseReads n_h_impatient n_h_need n_h_needKey n_h_crew_size n_h_crew_lineLength f_h_crew_kind f_h_crew_low n_h_shelf_size f_h_shelf_bits f_h_shelf_gaps f_h_shelf_cutter f_h_shelf_value n_h_diary_length f_h_diary_changes f_h_crew_value f_h_shelf_wholes f_h_shelf_sharers p0 s.heap.size b_h_gapless b_h_looseReads b_h_impatient b_h_crew_size b_h_crew_lineLength b_h_shelf_size b_h_diary_length b_p0) m_X9_reach w_845 ⟨rfl, rfl, Nat.le_of_ble_eq_true rfl, Nat.le_of_ble_eq_true rfl⟩ (hP.sub [0, 1, 2, 3, 4, 5, 7, 10, 11, 12, 13, 14, 8, 9] rfl) (hD.sub [0, 1, 2, 3, 4, 5, 7, 10, 11, 12, 13, 14, 8, 9] (by decide +kernel) rfl) 0 8 rfl rfl rfl hl.1 (Nat.le_of_ble_eq_true rfl) dX9_attempt_50 ⟨Nat.le_of_ble_eq_true rfl, Nat.le_of_ble_eq_true rfl⟩) hP hD hS hA [0, 1, 2, 3, 4, 5, 7, 10, 11, 12, 13, 14, 8, 9] [6, 15] rfl rfl (by decide +kernel) (by decide +kernel) (fun r_9 u_8 H locs p_8 hP hD hS => ?_)
  obtain ⟨hP, hD⟩ : kPD D A [kI cI h_crew_high 5 f_h_crew_high, kI cI h_shelf_putter 24 f_h_shelf_putter, kO h 8 [.ref h_shelf, .ref h_crew, .ref h_diary, .int n_h_gapless, .int n_h_looseReads, .int n_h_impatient, .int (u_8.2.2.2 0), .int (u_8.2.2.2 1)], kO h_crew 1 [.int n_h_crew_size, .ref h_crew_state, .ref h_crew_outcome, .ref h_crew_deaths, .ref h_crew_kind, .ref h_crew_low, .ref h_crew_high, .ref h_crew_value, .ref h_crew_need, .ref h_crew_needKey, .ref h_crew_line, .int n_h_crew_lineLength], kI cI h_crew_kind 5 f_h_crew_kind, kI cI h_crew_low 5 f_h_crew_low, kO h_shelf 6 [.int n_h_shelf_size, .ref h_shelf_bits, .ref h_shelf_value, .ref h_shelf_cutter, .ref h_shelf_putter, .ref h_shelf_gaps, .ref h_shelf_sharers, .ref h_shelf_wholes], kI cI h_shelf_bits 24 f_h_shelf_bits, kI cI h_shelf_gaps 25 (u_8.2.1 0), kI cI h_shelf_cutter 24 (u_8.2.1 1), kI cI h_shelf_value 24 (u_8.2.1 2), kO h_diary 3 [.int (u_8.2.2.2 2), .ref h_diary_changes], kJ cJ h_diary_changes 600 (u_8.2.2.1 0), kI cI h_crew_value 5 f_h_crew_value, kI cI h_shelf_wholes 24 (u_8.2.1 3), kI cI h_shelf_sharers 24 (u_8.2.1 4)] H := ⟨hP, hD⟩
  exact kk_ret_i ((fun _ => 0), (fun i => [f_h_shelf_bits, (u_8.2.1 0), (u_8.2.1 3), (u_8.2.1 4), (u_8.2.1 1), (u_8.2.1 2), f_h_shelf_putter].getD i (fun _ => 0)), (fun i => [(u_8.2.2.1 0)].getD i (fun _ => 0)), (fun i => [(u_8.2.2.2 0), (u_8.2.2.2 1), n_h_shelf_size, (u_8.2.2.2 2)].getD i 0)) hx hb hr hlocks ⟨b_h_shelf_size, p_8⟩ (hP.sub [2, 3, 4, 5, 6, 7, 0, 8, 14, 15, 9, 10, 11, 12, 13, 1] rfl) (hD.sub [2, 3, 4, 5, 6, 7, 0, 8, 14, 15, 9, 10, 11, 12, 13, 1] (by decide +kernel) rfl) hS dX9_attempt_53 (Nat.le_of_ble_eq_true rfl) (Nat.le_of_ble_eq_true rfl)
set_option maxHeartbeats 4000000 in
set_option maxRecDepth 100000 in
theorem c_X7_blockers (l : Launch) (D : va_G) (cB cI cJ cD : ClassId) (h : Nat) (h_bits : Nat) (h_wholes : Nat) (h_sharers : Nat) (h_gaps : Nat) (h_value : Nat) (h_cutter : Nat) (h_putter : Nat) (n_h_size : Int32) (f_h_bits : Nat → Int32) (f_h_wholes : Nat → Int32) (f_h_sharers : Nat → Int32) (f_h_gaps : Nat → Int32) (p0 : Int32) (p1 : Int32) (p2 : Int32) (sz : Nat) (b_h_size : kr 0 24 n_h_size) : Met l yX7_blockers (kk_W yX7_blockers cX7_blockers 6 (some .int)) ({ frames := 0, cells := 0, slots := 0, locals := 0 }) (va_Pc [.ref h, .int p0, .int p1, .int p2] (kk_pre D cB cI cJ cD [kO h 6 [.int n_h_size, .ref h_bits, .ref h_value, .ref h_cutter, .ref h_putter, .ref h_gaps, .ref h_sharers, .ref h_wholes], kI cI h_bits 24 f_h_bits, kI cI h_wholes 24 f_h_wholes, kI cI h_sharers 24 f_h_sharers, kI cI h_gaps 25 f_h_gaps] sz)) (vp_Si (fun r => True)) 0 0 (fun _ => False) := by
  refine kk_pstart (y := yX7_blockers) (maxL := 6) (av := [.ref h, .int p0, .int p1, .int p2]) (by decide) (Nat.le_of_ble_eq_true rfl) ?_
  intro p e s m below meth c ls hx hb hr hml hown hts hE hlocks hsz hP hD hl
  have hown : s.vm.findClass RX7 = some m.cls := hown
  have hl : lv_has ls 6 [(0, .ref h), (1, .int p0), (2, .int p1), (3, .int p2)] := hl
  generalize hQQ : MQ below _ _ s _ _ _ = QQ
  have J_93 : ∀ (x93_l_5 : Int32) (ls : Array Slot), lv_has ls 6 [(5, .int x93_l_5), (1, .int p0)] → W p l e ({ frames := 0, cells := 0, slots := 0, locals := 0 }) s m ([.ref h, .int p0, .int p1, .int p2] : List Value).toArray below meth c s.heap [] 0 0 QQ (F0 m 93 ls []) := by
    intro x93_l_5 ls hl
    refine lv_iload hx hb dX7_blockers_93 (lv_at hl 0 rfl) ?_
    refine lv_iconst (v := 1) hx hb dX7_blockers_95 (by decide) ?_
    refine lv_iload_n hx hb dX7_blockers_96 rfl (lv_at hl 1 rfl) ?_
    refine lv_ishl hx hb dX7_blockers_97 ?_
    refine lv_topi (fun v_1 e_1 => ?_)
    refine lv_iconst (v := (-1)) hx hb dX7_blockers_98 (by decide) ?_
    refine lv_ixor hx hb dX7_blockers_99 ?_
    refine lv_topi (fun v_2 e_2 => ?_)
    refine lv_iand hx hb dX7_blockers_100 ?_
    refine lv_topi (fun v_3 e_3 => ?_)
    subst hQQ
    exact kk_pret_i hx hb hr hlocks trivial dX7_blockers_101
  have J_91 : ∀ (x91_s_0 : Int32) (ls : Array Slot), kr 1 24 n_h_size → lv_has ls 6 [(1, .int p0)] → W p l e ({ frames := 0, cells := 0, slots := 0, locals := 0 }) s m ([.ref h, .int p0, .int p1, .int p2] : List Value).toArray below meth c s.heap [] 0 0 QQ (F0 m 91 ls [.int x91_s_0]) := by
    intro x91_s_0 ls c91_n_h_size hl
    refine lv_istore (lv' := [(5, .int x91_s_0), (1, .int p0)]) hx hb dX7_blockers_91 hl (by decide) rfl (fun ls hl => ?_)
    exact J_93 x91_s_0 _ (lv_sub hl [0, 1] rfl)
  have J_29 : ∀ (x29_l_4 : Int32) (ls : Array Slot), kr 0 24 x29_l_4 → lv_has ls 6 [(4, .int x29_l_4), (0, .ref h), (1, .int p0), (2, .int p1), (3, .int p2)] → W p l e ({ frames := 0, cells := 0, slots := 0, locals := 0 }) s m ([.ref h, .int p0, .int p1, .int p2] : List Value).toArray below meth c s.heap [] 0 0 QQ (F0 m 29 ls []) := by
    intro x29_l_4 ls bx29_l_4 hl
    refine lv_iconst (v := 0) hx hb dX7_blockers_29 (by decide) ?_
    refine lv_istore (lv' := [(5, .int 0), (4, .int x29_l_4), (0, .ref h), (1, .int p0), (2, .int p1), (3, .int p2)]) hx hb dX7_blockers_30 hl (by decide) rfl (fun ls hl => ?_)
    refine lv_iload_n hx hb dX7_blockers_32 rfl (lv_at hl 4 rfl) ?_
    refine lv_iconst (v := 3) hx hb dX7_blockers_33 (by decide) ?_
    refine lv_icmp_ne (tgt := 49) hx hb dX7_blockers_34 (by decide) (fun c_4 => ?_) (fun c_4 => ?_)
    · refine lv_iload hx hb dX7_blockers_49 (lv_at hl 1 rfl) ?_
      refine lv_aload_n hx hb dX7_blockers_51 rfl (lv_at hl 2 rfl) ?_
      refine va_get (D := D) (ci := 6) (v := .int n_h_size) (C := RX7) (T := TX7) (N := 8) hx hb hts u_X7 hown hE.1 hP 0 rfl rfl 0 (by decide) (hts _ w_157) (fun _ h9 => h9) rfl dX7_blockers_52 ?_
      refine lv_icmp_ge (tgt := 93) hx hb dX7_blockers_55 (by decide) (fun c_5 => ?_) (fun c_5 => ?_)
      · have i_5 : n_h_size.toInt ≤ x29_l_4.toInt := (ki_le c_5)
        exact J_93 0 _ (lv_sub hl [0, 3] rfl)
      · have i_5 : x29_l_4.toInt < n_h_size.toInt := (ki_nle c_5)
        have b_6 : kr 0 23 x29_l_4 := kr_lt_l bx29_l_4 b_h_size i_5 rfl
        have b_7 : kr 1 24 n_h_size := kr_lt_r bx29_l_4 b_h_size i_5 rfl
        refine lv_aload_n hx hb dX7_blockers_58 rfl (lv_at hl 2 rfl) ?_
        refine va_get (D := D) (ci := 6) (v := .ref h_bits) (C := RX7) (T := TX7) (N := 8) hx hb hts u_X7 hown hE.1 hP 0 rfl rfl 1 (by decide) (hts _ w_163) (fun _ h9 => h9) rfl dX7_blockers_59 ?_
        refine lv_iload hx hb dX7_blockers_62 (lv_at hl 1 rfl) ?_
        refine va_iald hx hb hE.1 hP 1 1 rfl rfl (kr_in b_6 rfl) dX7_blockers_64 ?_
        refine lv_topi (fun v_8 e_8 => ?_)
        refine lv_iload_n hx hb dX7_blockers_65 rfl (lv_at hl 5 rfl) ?_
        refine lv_icmp_ne (tgt := 93) hx hb dX7_blockers_66 (by decide) (fun c_9 => ?_) (fun c_9 => ?_)
        · exact J_93 0 _ (lv_sub hl [0, 3] rfl)
        · refine lv_iload_n hx hb dX7_blockers_69 rfl (lv_at hl 4 rfl) ?_
          refine lv_iconst (v := 2) hx hb dX7_blockers_70 (by decide) ?_
          refine lv_icmp_ne (tgt := 84) hx hb dX7_blockers_71 (by decide) (fun c_10 => ?_) (fun c_10 => ?_)
          · refine lv_aload_n hx hb dX7_blockers_84 rfl (lv_at hl 2 rfl) ?_
            refine va_get (D := D) (ci := 6) (v := .ref h_wholes) (C := RX7) (T := TX7) (N := 8) hx hb hts u_X7 hown hE.1 hP 0 rfl rfl 7 (by decide) (hts _ w_182) (fun _ h9 => h9) rfl dX7_blockers_85 ?_
            refine lv_iload hx hb dX7_blockers_88 (lv_at hl 1 rfl) ?_
            refine va_iald hx hb hE.1 hP 2 1 rfl rfl (kr_in b_6 rfl) dX7_blockers_90 ?_
            refine lv_topi (fun v_11 e_11 => ?_)
            exact J_91 v_11 _ b_7 (lv_sub hl [3] rfl)
          · have b_12 : kr 2 2 p1 := kr_eq_l (kr_all p1) (kr_c 2 2 rfl) c_10 rfl
            refine lv_aload_n hx hb dX7_blockers_74 rfl (lv_at hl 2 rfl) ?_
            refine va_get (D := D) (ci := 6) (v := .ref h_sharers) (C := RX7) (T := TX7) (N := 8) hx hb hts u_X7 hown hE.1 hP 0 rfl rfl 6 (by decide) (hts _ w_180) (fun _ h9 => h9) rfl dX7_blockers_75 ?_
            refine lv_iload hx hb dX7_blockers_78 (lv_at hl 1 rfl) ?_
            refine va_iald hx hb hE.1 hP 3 1 rfl rfl (kr_in b_6 rfl) dX7_blockers_80 ?_
            refine lv_topi (fun v_13 e_13 => ?_)
            refine lv_goto (tgt := 91) hx hb dX7_blockers_81 (by decide) ?_
            exact J_91 v_13 _ b_7 (lv_sub hl [3] rfl)
    · have b_14 : kr 3 3 p1 := kr_eq_l (kr_all p1) (kr_c 3 3 rfl) c_4 rfl
      refine lv_aload_n hx hb dX7_blockers_37 rfl (lv_at hl 2 rfl) ?_
      refine va_get (D := D) (ci := 6) (v := .ref h_gaps) (C := RX7) (T := TX7) (N := 8) hx hb hts u_X7 hown hE.1 hP 0 rfl rfl 5 (by decide) (hts _ w_177) (fun _ h9 => h9) rfl dX7_blockers_38 ?_
      refine lv_iload hx hb dX7_blockers_41 (lv_at hl 1 rfl) ?_
      refine va_iald hx hb hE.1 hP 4 1 rfl rfl (kr_in bx29_l_4 rfl) dX7_blockers_43 ?_
      refine lv_topi (fun v_15 e_15 => ?_)
      refine lv_istore (lv' := [(5, .int v_15), (4, .int x29_l_4), (0, .ref h), (1, .int p0), (2, .int p1), (3, .int p2)]) hx hb dX7_blockers_44 hl (by decide) rfl (fun ls hl => ?_)
      refine lv_goto (tgt := 93) hx hb dX7_blockers_46 (by decide) ?_
      exact J_93 v_15 _ (lv_sub hl [0, 3] rfl)
  have J_3 : ∀ (n : Nat) (x3_l_4 : Int32) (ls : Array Slot), (24 - x3_l_4.toInt).toNat < n → kr 0 24 x3_l_4 → lv_has ls 6 [(4, .int x3_l_4), (0, .ref h), (1, .int p0), (2, .int p1), (3, .int p2)] → W p l e ({ frames := 0, cells := 0, slots := 0, locals := 0 }) s m ([.ref h, .int p0, .int p1, .int p2] : List Value).toArray below meth c s.heap [] 0 0 QQ (F0 m 3 ls []) := by
    intro n
    induction n with
    | zero =>
      intro x3_l_4 ls hn_3 bx3_l_4 hl
      exact absurd hn_3 (Nat.not_lt_zero _)
    | succ n ih_3 =>
      intro x3_l_4 ls hn_3 bx3_l_4 hl
      refine lv_iload hx hb dX7_blockers_3 (lv_at hl 0 rfl) ?_
      refine lv_aload_n hx hb dX7_blockers_5 rfl (lv_at hl 1 rfl) ?_
      refine va_get (D := D) (ci := 6) (v := .int n_h_size) (C := RX7) (T := TX7) (N := 8) hx hb hts u_X7 hown hE.1 hP 0 rfl rfl 0 (by decide) (hts _ w_157) (fun _ h9 => h9) rfl dX7_blockers_6 ?_
      refine lv_icmp_ge (tgt := 29) hx hb dX7_blockers_9 (by decide) (fun c_16 => ?_) (fun c_16 => ?_)
      · have i_16 : n_h_size.toInt ≤ x3_l_4.toInt := (ki_le c_16)
        exact J_29 x3_l_4 _ bx3_l_4 (lv_sub hl [0, 1, 2, 3, 4] rfl)
      · have i_16 : x3_l_4.toInt < n_h_size.toInt := (ki_nle c_16)
        have b_17 : kr 0 23 x3_l_4 := kr_lt_l bx3_l_4 b_h_size i_16 rfl
        have b_18 : kr 1 24 n_h_size := kr_lt_r bx3_l_4 b_h_size i_16 rfl
        refine lv_aload_n hx hb dX7_blockers_12 rfl (lv_at hl 1 rfl) ?_
        refine va_get (D := D) (ci := 6) (v := .ref h_bits) (C := RX7) (T := TX7) (N := 8) hx hb hts u_X7 hown hE.1 hP 0 rfl rfl 1 (by decide) (hts _ w_163) (fun _ h9 => h9) rfl dX7_blockers_13 ?_
        refine lv_iload hx hb dX7_blockers_16 (lv_at hl 0 rfl) ?_
        refine va_iald hx hb hE.1 hP 1 1 rfl rfl (kr_in b_17 rfl) dX7_blockers_18 ?_
        refine lv_topi (fun v_19 e_19 => ?_)
        refine lv_iload_n hx hb dX7_blockers_19 rfl (lv_at hl 4 rfl) ?_
        refine lv_icmp_ge (tgt := 29) hx hb dX7_blockers_20 (by decide) (fun c_20 => ?_) (fun c_20 => ?_)
        · have i_20 : p2.toInt ≤ v_19.toInt := (ki_le c_20)
          exact J_29 x3_l_4 _ (kr_w b_17 rfl) (lv_sub hl [0, 1, 2, 3, 4] rfl)
        · have i_20 : v_19.toInt < p2.toInt := (ki_nle c_20)
          have b_21 : kr (-2147483648) 2147483646 v_19 := kr_lt_l (kr_all v_19) (kr_all p2) i_20 rfl
          have b_22 : kr (-2147483647) 2147483647 p2 := kr_lt_r (kr_all v_19) (kr_all p2) i_20 rfl
          obtain ⟨v_23, e_23⟩ : ∃ y : Int32, y = x3_l_4 + 1 := ⟨_, rfl⟩
          have t_23 : v_23.toInt = x3_l_4.toInt + 1 := kt_add e_23 b_17 (kr_c 1 1 rfl) rfl
          have b_23 : kr 1 24 v_23 := kr_add (x := x3_l_4) (y := 1) t_23 b_17 (kr_c 1 1 rfl) rfl
          refine lv_iinc (v := v_23) (lv' := [(4, .int v_23), (0, .ref h), (1, .int p0), (2, .int p1), (3, .int p2)]) hx hb dX7_blockers_23 hl (k := 0) rfl (by rw [e_23]; rfl) (by decide) rfl (fun ls hl => ?_)
          refine lv_goto (tgt := 3) hx hb dX7_blockers_26 (by decide) ?_
          exact ih_3 v_23 _ (km_up hn_3 t_23 b_23 rfl) (kr_w b_23 rfl) (lv_sub hl [0, 1, 2, 3, 4] rfl)
  refine lv_iconst (v := 0) hx hb dX7_blockers_0 (by decide) ?_
  refine lv_istore (lv' := [(4, .int 0), (0, .ref h), (1, .int p0), (2, .int p1), (3, .int p2)]) hx hb dX7_blockers_1 hl (by decide) rfl (fun ls hl => ?_)
  exact J_3 _ 0 _ (Nat.lt_succ_self _) (kr_w (kr_c 0 0 rfl) rfl) (lv_sub hl [0, 1, 2, 3, 4] rfl)
set_option maxHeartbeats 4000000 in
set_option maxRecDepth 100000 in
theorem c_X9_reaches (l : Launch) (D : va_G) (cB cI cJ cD : ClassId) (h : Nat) (h_crew : Nat) (h_crew_state : Nat) (h_crew_need : Nat) (h_crew_needKey : Nat) (h_shelf : Nat) (h_shelf_bits : Nat) (h_shelf_wholes : Nat) (h_shelf_sharers : Nat) (h_shelf_gaps : Nat) (h_diary : Nat) (h_crew_outcome : Nat) (h_crew_deaths : Nat) (h_crew_kind : Nat) (h_crew_low : Nat) (h_crew_high : Nat) (h_crew_value : Nat) (h_crew_line : Nat) (h_shelf_value : Nat) (h_shelf_cutter : Nat) (h_shelf_putter : Nat) (n_h_gapless : Int32) (n_h_looseReads : Int32) (n_h_impatient : Int32) (n_h_need : Int32) (n_h_needKey : Int32) (n_h_crew_size : Int32) (n_h_crew_lineLength : Int32) (f_h_crew_state : Nat → Int32) (f_h_crew_need : Nat → Int32) (f_h_crew_needKey : Nat → Int32) (n_h_shelf_size : Int32) (f_h_shelf_bits : Nat → Int32) (f_h_shelf_wholes : Nat → Int32) (f_h_shelf_sharers : Nat → Int32) (f_h_shelf_gaps : Nat → Int32) (p0 : Int32) (p1 : Int32) (sz : Nat) (b_h_gapless : kr 0 1 n_h_gapless) (b_h_looseReads : kr 0 1 n_h_looseReads) (b_h_impatient : kr 0 1 n_h_impatient) (b_h_crew_size : kr 0 5 n_h_crew_size) (b_h_crew_lineLength : kr 0 5 n_h_crew_lineLength) (b_h_shelf_size : kr 0 24 n_h_shelf_size) : Met l yX9_reaches (kk_W yX9_reaches cX9_reaches 6 (some .boolean)) ({ frames := 1, cells := 0, slots := 0, locals := 25 }) (va_Pc [.ref h, .int p0, .int p1] (kk_pre D cB cI cJ cD [kO h 8 [.ref h_shelf, .ref h_crew, .ref h_diary, .int n_h_gapless, .int n_h_looseReads, .int n_h_impatient, .int n_h_need, .int n_h_needKey], kO h_crew 1 [.int n_h_crew_size, .ref h_crew_state, .ref h_crew_outcome, .ref h_crew_deaths, .ref h_crew_kind, .ref h_crew_low, .ref h_crew_high, .ref h_crew_value, .ref h_crew_need, .ref h_crew_needKey, .ref h_crew_line, .int n_h_crew_lineLength], kI cI h_crew_state 5 f_h_crew_state, kI cI h_crew_need 5 f_h_crew_need, kI cI h_crew_needKey 5 f_h_crew_needKey, kO h_shelf 6 [.int n_h_shelf_size, .ref h_shelf_bits, .ref h_shelf_value, .ref h_shelf_cutter, .ref h_shelf_putter, .ref h_shelf_gaps, .ref h_shelf_sharers, .ref h_shelf_wholes], kI cI h_shelf_bits 24 f_h_shelf_bits, kI cI h_shelf_wholes 24 f_h_shelf_wholes, kI cI h_shelf_sharers 24 f_h_shelf_sharers, kI cI h_shelf_gaps 25 f_h_shelf_gaps] sz)) (vp_Si (fun r => kr 0 1 r)) 0 0 (fun _ => False) := by
  refine kk_pstart (y := yX9_reaches) (maxL := 6) (av := [.ref h, .int p0, .int p1]) (by decide) (Nat.le_of_ble_eq_true rfl) ?_
  intro p e s m below meth c ls hx hb hr hml hown hts hE hlocks hsz hP hD hl
  have hown : s.vm.findClass RX9 = some m.cls := hown
  have hl : lv_has ls 6 [(0, .ref h), (1, .int p0), (2, .int p1)] := hl
  generalize hQQ : MQ below _ _ s _ _ _ = QQ
  have J_5 : ∀ (n : Nat) (x5_l_4 : Int32) (x5_l_3 : Int32) (ls : Array Slot), (5 - x5_l_4.toInt).toNat < n → kr 0 5 x5_l_4 → lv_has ls 6 [(4, .int x5_l_4), (3, .int x5_l_3), (0, .ref h), (2, .int p1)] → W p l e ({ frames := 1, cells := 0, slots := 0, locals := 25 }) s m ([.ref h, .int p0, .int p1] : List Value).toArray below meth c s.heap [] 0 0 QQ (F0 m 5 ls []) := by
    intro n
    induction n with
    | zero =>
      intro x5_l_4 x5_l_3 ls hn_5 bx5_l_4 hl
      exact absurd hn_5 (Nat.not_lt_zero _)
    | succ n ih_5 =>
      intro x5_l_4 x5_l_3 ls hn_5 bx5_l_4 hl
      have J_14 : ∀ (n : Nat) (x14_l_5 : Int32) (x14_l_3 : Int32) (ls : Array Slot), (5 - x14_l_5.toInt).toNat < n → kr 0 5 x14_l_5 → kr 0 4 x5_l_4 → lv_has ls 6 [(5, .int x14_l_5), (4, .int x5_l_4), (3, .int x14_l_3), (0, .ref h), (2, .int p1)] → W p l e ({ frames := 1, cells := 0, slots := 0, locals := 25 }) s m ([.ref h, .int p0, .int p1] : List Value).toArray below meth c s.heap [] 0 0 QQ (F0 m 14 ls []) := by
        intro n
        induction n with
        | zero =>
          intro x14_l_5 x14_l_3 ls hn_14 bx14_l_5 c14_x5_l_4 hl
          exact absurd hn_14 (Nat.not_lt_zero _)
        | succ n ih_14 =>
          intro x14_l_5 x14_l_3 ls hn_14 bx14_l_5 c14_x5_l_4 hl
          have J_87 : ∀ (x87_l_3 : Int32) (ls : Array Slot), kr 0 4 x14_l_5 → kr 0 4 x5_l_4 → kr 1 5 n_h_crew_size → lv_has ls 6 [(5, .int x14_l_5), (4, .int x5_l_4), (3, .int x87_l_3), (0, .ref h), (2, .int p1)] → W p l e ({ frames := 1, cells := 0, slots := 0, locals := 25 }) s m ([.ref h, .int p0, .int p1] : List Value).toArray below meth c s.heap [] 0 0 QQ (F0 m 87 ls []) := by
            intro x87_l_3 ls c87_x14_l_5 c87_x5_l_4 c87_n_h_crew_size hl
            obtain ⟨v_1, e_1⟩ : ∃ y : Int32, y = x14_l_5 + 1 := ⟨_, rfl⟩
            have t_1 : v_1.toInt = x14_l_5.toInt + 1 := kt_add e_1 c87_x14_l_5 (kr_c 1 1 rfl) rfl
            have b_1 : kr 1 5 v_1 := kr_add (x := x14_l_5) (y := 1) t_1 c87_x14_l_5 (kr_c 1 1 rfl) rfl
            refine lv_iinc (v := v_1) (lv' := [(5, .int v_1), (4, .int x5_l_4), (3, .int x87_l_3), (0, .ref h), (2, .int p1)]) hx hb dX9_reaches_87 hl (k := 0) rfl (by rw [e_1]; rfl) (by decide) rfl (fun ls hl => ?_)
            refine lv_goto (tgt := 14) hx hb dX9_reaches_90 (by decide) ?_
            exact ih_14 v_1 x87_l_3 _ (km_up hn_14 t_1 b_1 rfl) (kr_w b_1 rfl) c87_x5_l_4 (lv_sub hl [0, 1, 2, 3, 4] rfl)
          refine lv_iload hx hb dX9_reaches_14 (lv_at hl 0 rfl) ?_
          refine lv_aload_n hx hb dX9_reaches_16 rfl (lv_at hl 3 rfl) ?_
          refine va_get (D := D) (ci := 8) (v := .ref h_crew) (C := RX9) (T := TX9) (N := 8) hx hb hts u_X9 hown hE.1 hP 0 rfl rfl 1 (by decide) (hts _ w_387) (fun _ h9 => h9) rfl dX9_reaches_17 ?_
          refine va_get (D := D) (ci := 1) (v := .int n_h_crew_size) (C := RX1) (T := TX1) (N := 12) hx hb hts u_X1 hown hE.1 hP 1 rfl rfl 0 (by decide) (hts _ w_313) (fun _ h9 => h9) rfl dX9_reaches_20 ?_
          refine lv_icmp_ge (tgt := 93) hx hb dX9_reaches_23 (by decide) (fun c_2 => ?_) (fun c_2 => ?_)
          · have i_2 : n_h_crew_size.toInt ≤ x14_l_5.toInt := (ki_le c_2)
            obtain ⟨v_3, e_3⟩ : ∃ y : Int32, y = x5_l_4 + 1 := ⟨_, rfl⟩
            have t_3 : v_3.toInt = x5_l_4.toInt + 1 := kt_add e_3 c14_x5_l_4 (kr_c 1 1 rfl) rfl
            have b_3 : kr 1 5 v_3 := kr_add (x := x5_l_4) (y := 1) t_3 c14_x5_l_4 (kr_c 1 1 rfl) rfl
            refine lv_iinc (v := v_3) (lv' := [(4, .int v_3), (5, .int x14_l_5), (3, .int x14_l_3), (0, .ref h), (2, .int p1)]) hx hb dX9_reaches_93 hl (k := 1) rfl (by rw [e_3]; rfl) (by decide) rfl (fun ls hl => ?_)
            refine lv_goto (tgt := 5) hx hb dX9_reaches_96 (by decide) ?_
            exact ih_5 v_3 x14_l_3 _ (km_up hn_5 t_3 b_3 rfl) (kr_w b_3 rfl) (lv_sub hl [0, 2, 3, 4] rfl)
          · have i_2 : x14_l_5.toInt < n_h_crew_size.toInt := (ki_nle c_2)
            have b_4 : kr 0 4 x14_l_5 := kr_lt_l bx14_l_5 b_h_crew_size i_2 rfl
            have b_5 : kr 1 5 n_h_crew_size := kr_lt_r bx14_l_5 b_h_crew_size i_2 rfl
            refine lv_iload hx hb dX9_reaches_26 (lv_at hl 0 rfl) ?_
            refine lv_iload_n hx hb dX9_reaches_28 rfl (lv_at hl 4 rfl) ?_
            refine lv_icmp_eq (tgt := 87) hx hb dX9_reaches_29 (by decide) (fun c_6 => ?_) (fun c_6 => ?_)
            · have b_7 : kr 0 4 p1 := kr_eq_r b_4 (kr_all p1) c_6 rfl
              exact J_87 x14_l_3 _ b_4 c14_x5_l_4 b_5 (lv_sub hl [0, 1, 2, 3, 4] rfl)
            · refine lv_iload_n hx hb dX9_reaches_32 rfl (lv_at hl 2 rfl) ?_
              refine lv_iload hx hb dX9_reaches_33 (lv_at hl 0 rfl) ?_
              refine lv_ishr hx hb dX9_reaches_35 ?_
              refine lv_topi (fun v_8 e_8 => ?_)
              refine lv_iconst (v := 1) hx hb dX9_reaches_36 (by decide) ?_
              refine lv_iand hx hb dX9_reaches_37 ?_
              refine lv_topi (fun v_9 e_9 => ?_)
              have b_9 : kr 0 1 v_9 := kr_and e_9 1 (by decide) rfl
              refine lv_if_eq (tgt := 87) hx hb dX9_reaches_38 (by decide) (fun c_10 => ?_) (fun c_10 => ?_)
              · have b_11 : kr 0 0 v_9 := kr_eq_l b_9 (kr_c 0 0 rfl) c_10 rfl
                exact J_87 x14_l_3 _ b_4 c14_x5_l_4 b_5 (lv_sub hl [0, 1, 2, 3, 4] rfl)
              · have b_12 : kr 1 1 v_9 := kr_ne_lo b_9 c_10 rfl
                refine lv_aload_n hx hb dX9_reaches_41 rfl (lv_at hl 3 rfl) ?_
                refine va_get (D := D) (ci := 8) (v := .ref h_crew) (C := RX9) (T := TX9) (N := 8) hx hb hts u_X9 hown hE.1 hP 0 rfl rfl 1 (by decide) (hts _ w_387) (fun _ h9 => h9) rfl dX9_reaches_42 ?_
                refine va_get (D := D) (ci := 1) (v := .ref h_crew_state) (C := RX1) (T := TX1) (N := 12) hx hb hts u_X1 hown hE.1 hP 1 rfl rfl 1 (by decide) (hts _ w_316) (fun _ h9 => h9) rfl dX9_reaches_45 ?_
                refine lv_iload hx hb dX9_reaches_48 (lv_at hl 0 rfl) ?_
                refine va_iald hx hb hE.1 hP 2 1 rfl rfl (kr_in b_4 rfl) dX9_reaches_50 ?_
                refine lv_topi (fun v_13 e_13 => ?_)
                refine lv_iconst (v := 2) hx hb dX9_reaches_51 (by decide) ?_
                refine lv_icmp_ne (tgt := 87) hx hb dX9_reaches_52 (by decide) (fun c_14 => ?_) (fun c_14 => ?_)
                · exact J_87 x14_l_3 _ b_4 c14_x5_l_4 b_5 (lv_sub hl [0, 1, 2, 3, 4] rfl)
                · have b_15 : kr 2 2 v_13 := kr_eq_l (kr_all v_13) (kr_c 2 2 rfl) c_14 rfl
                  refine lv_iload_n hx hb dX9_reaches_55 rfl (lv_at hl 2 rfl) ?_
                  refine lv_aload_n hx hb dX9_reaches_56 rfl (lv_at hl 3 rfl) ?_
                  refine va_get (D := D) (ci := 8) (v := .ref h_shelf) (C := RX9) (T := TX9) (N := 8) hx hb hts u_X9 hown hE.1 hP 0 rfl rfl 0 (by decide) (hts _ w_384) (fun _ h9 => h9) rfl dX9_reaches_57 ?_
                  refine lv_iload hx hb dX9_reaches_60 (lv_at hl 0 rfl) ?_
                  refine lv_aload_n hx hb dX9_reaches_62 rfl (lv_at hl 3 rfl) ?_
                  refine va_get (D := D) (ci := 8) (v := .ref h_crew) (C := RX9) (T := TX9) (N := 8) hx hb hts u_X9 hown hE.1 hP 0 rfl rfl 1 (by decide) (hts _ w_387) (fun _ h9 => h9) rfl dX9_reaches_63 ?_
                  refine va_get (D := D) (ci := 1) (v := .ref h_crew_need) (C := RX1) (T := TX1) (N := 12) hx hb hts u_X1 hown hE.1 hP 1 rfl rfl 8 (by decide) (hts _ w_335) (fun _ h9 => h9) rfl dX9_reaches_66 ?_
                  refine lv_iload hx hb dX9_reaches_69 (lv_at hl 0 rfl) ?_
                  refine va_iald hx hb hE.1 hP 3 1 rfl rfl (kr_in b_4 rfl) dX9_reaches_71 ?_
                  refine lv_topi (fun v_16 e_16 => ?_)
                  refine lv_aload_n hx hb dX9_reaches_72 rfl (lv_at hl 3 rfl) ?_
                  refine va_get (D := D) (ci := 8) (v := .ref h_crew) (C := RX9) (T := TX9) (N := 8) hx hb hts u_X9 hown hE.1 hP 0 rfl rfl 1 (by decide) (hts _ w_387) (fun _ h9 => h9) rfl dX9_reaches_73 ?_
                  refine va_get (D := D) (ci := 1) (v := .ref h_crew_needKey) (C := RX1) (T := TX1) (N := 12) hx hb hts u_X1 hown hE.1 hP 1 rfl rfl 9 (by decide) (hts _ w_337) (fun _ h9 => h9) rfl dX9_reaches_76 ?_
                  refine lv_iload hx hb dX9_reaches_79 (lv_at hl 0 rfl) ?_
                  refine va_iald hx hb hE.1 hP 4 1 rfl rfl (kr_in b_4 rfl) dX9_reaches_81 ?_
                  refine lv_topi (fun v_17 e_17 => ?_)
                  refine kk_pi (kk_runV (w1 := [kO h_shelf 6 [.int n_h_shelf_size, .ref h_shelf_bits, .ref h_shelf_value, .ref h_shelf_cutter, .ref h_shelf_putter, .ref h_shelf_gaps, .ref h_shelf_sharers, .ref h_shelf_wholes], kI cI h_shelf_bits 24 f_h_shelf_bits, kI cI h_shelf_wholes 24 f_h_shelf_wholes, kI cI h_shelf_sharers 24 f_h_shelf_sharers, kI cI h_shelf_gaps 25 f_h_shelf_gaps]) (As := [.int x14_l_5, .int v_16, .int v_17]) (rest := [.int x14_l_3]) hx hb hml hown hts hE (c_X7_blockers l D cB cI cJ cD h_shelf h_shelf_bits h_shelf_wholes h_shelf_sharers h_shelf_gaps h_shelf_value h_shelf_cutter h_shelf_putter n_h_shelf_size f_h_shelf_bits f_h_shelf_wholes f_h_shelf_sharers f_h_shelf_gaps x14_l_5 v_16 v_17 s.heap.size b_h_shelf_size) m_X7_blockers w_721 ⟨rfl, rfl, Nat.le_of_ble_eq_true rfl, Nat.le_of_ble_eq_true rfl⟩ (hP.sub [5, 6, 7, 8, 9] rfl) (hD.sub [5, 6, 7, 8, 9] (by decide +kernel) rfl) 0 6 rfl rfl rfl hl.1 (Nat.le_of_ble_eq_true rfl) dX9_reaches_82 ⟨Nat.le_of_ble_eq_true rfl, Nat.le_of_ble_eq_true rfl⟩) (fun r_18 p_18 => ?_)
                  refine lv_ior hx hb dX9_reaches_85 ?_
                  refine lv_topi (fun v_19 e_19 => ?_)
                  refine lv_istore_n (lv' := [(3, .int v_19), (5, .int x14_l_5), (4, .int x5_l_4), (0, .ref h), (2, .int p1)]) hx hb dX9_reaches_86 rfl hl (by decide) rfl (fun ls hl => ?_)
                  exact J_87 v_19 _ b_4 c14_x5_l_4 b_5 (lv_sub hl [1, 2, 0, 3, 4] rfl)
      refine lv_iload hx hb dX9_reaches_5 (lv_at hl 0 rfl) ?_
      refine lv_iconst (v := 5) hx hb dX9_reaches_7 (by decide) ?_
      refine lv_icmp_ge (tgt := 99) hx hb dX9_reaches_8 (by decide) (fun c_20 => ?_) (fun c_20 => ?_)
      · have i_20 : 5 ≤ x5_l_4.toInt := (ki_le c_20)
        have b_21 : kr 5 5 x5_l_4 := kr_le_r (kr_c 5 5 rfl) bx5_l_4 i_20 rfl
        refine lv_iload_n hx hb dX9_reaches_99 rfl (lv_at hl 1 rfl) ?_
        refine lv_iload_n hx hb dX9_reaches_100 rfl (lv_at hl 3 rfl) ?_
        refine lv_ishr hx hb dX9_reaches_101 ?_
        refine lv_topi (fun v_22 e_22 => ?_)
        refine lv_iconst (v := 1) hx hb dX9_reaches_102 (by decide) ?_
        refine lv_iand hx hb dX9_reaches_103 ?_
        refine lv_topi (fun v_23 e_23 => ?_)
        have b_23 : kr 0 1 v_23 := kr_and e_23 1 (by decide) rfl
        refine lv_if_eq (tgt := 111) hx hb dX9_reaches_104 (by decide) (fun c_24 => ?_) (fun c_24 => ?_)
        · have b_25 : kr 0 0 v_23 := kr_eq_l b_23 (kr_c 0 0 rfl) c_24 rfl
          refine lv_iconst (v := 0) hx hb dX9_reaches_111 (by decide) ?_
          subst hQQ
          exact kk_pret_z hx hb hr hlocks (by decide) (kr_w (kr_c 0 0 rfl) rfl) dX9_reaches_112
        · have b_26 : kr 1 1 v_23 := kr_ne_lo b_23 c_24 rfl
          refine lv_iconst (v := 1) hx hb dX9_reaches_107 (by decide) ?_
          refine lv_goto (tgt := 112) hx hb dX9_reaches_108 (by decide) ?_
          subst hQQ
          exact kk_pret_z hx hb hr hlocks (by decide) (kr_w (kr_c 1 1 rfl) rfl) dX9_reaches_112
      · have i_20 : x5_l_4.toInt < 5 := (ki_nle c_20)
        have b_27 : kr 0 4 x5_l_4 := kr_lt_l bx5_l_4 (kr_c 5 5 rfl) i_20 rfl
        refine lv_iconst (v := 0) hx hb dX9_reaches_11 (by decide) ?_
        refine lv_istore (lv' := [(5, .int 0), (4, .int x5_l_4), (3, .int x5_l_3), (0, .ref h), (2, .int p1)]) hx hb dX9_reaches_12 hl (by decide) rfl (fun ls hl => ?_)
        exact J_14 _ 0 x5_l_3 _ (Nat.lt_succ_self _) (kr_w (kr_c 0 0 rfl) rfl) b_27 (lv_sub hl [0, 1, 2, 3, 4] rfl)
  refine lv_iload_n hx hb dX9_reaches_0 rfl (lv_at hl 1 rfl) ?_
  refine lv_istore_n (lv' := [(3, .int p0), (0, .ref h), (1, .int p0), (2, .int p1)]) hx hb dX9_reaches_1 rfl hl (by decide) rfl (fun ls hl => ?_)
  refine lv_iconst (v := 0) hx hb dX9_reaches_2 (by decide) ?_
  refine lv_istore (lv' := [(4, .int 0), (3, .int p0), (0, .ref h), (1, .int p0), (2, .int p1)]) hx hb dX9_reaches_3 hl (by decide) rfl (fun ls hl => ?_)
  exact J_5 _ 0 p0 _ (Nat.lt_succ_self _) (kr_w (kr_c 0 0 rfl) rfl) (lv_sub hl [0, 1, 2, 4] rfl)
set_option maxHeartbeats 4000000 in
set_option maxRecDepth 100000 in
theorem c_X1_joinLine (l : Launch) (D : va_G) (cB cI cJ cD : ClassId) (h : Nat) (h_state : Nat) (h_need : Nat) (h_needKey : Nat) (h_line : Nat) (h_outcome : Nat) (h_deaths : Nat) (h_kind : Nat) (h_low : Nat) (h_high : Nat) (h_value : Nat) (n_h_size : Int32) (n_h_lineLength : Int32) (f_h_state : Nat → Int32) (f_h_need : Nat → Int32) (f_h_needKey : Nat → Int32) (f_h_line : Nat → Int32) (p0 : Int32) (p1 : Int32) (p2 : Int32) (sz : Nat) (b_h_size : kr 0 5 n_h_size) (b_h_lineLength : kr 0 5 n_h_lineLength) (kf_h_line : ka 0 4 f_h_line) (b_p0 : kr 0 4 p0) : Met l yX1_joinLine (kk_W yX1_joinLine cX1_joinLine 4 none) ({ frames := 0, cells := 0, slots := 0, locals := 0 }) (va_Pc [.ref h, .int p0, .int p1, .int p2] (kk_pre D cB cI cJ cD [kO h 1 [.int n_h_size, .ref h_state, .ref h_outcome, .ref h_deaths, .ref h_kind, .ref h_low, .ref h_high, .ref h_value, .ref h_need, .ref h_needKey, .ref h_line, .int n_h_lineLength], kI cI h_state 5 f_h_state, kI cI h_need 5 f_h_need, kI cI h_needKey 5 f_h_needKey, kI cI h_line 5 f_h_line] sz)) (kk_Qv D (fun (u : (Nat → Nat) × (Nat → Nat → Int32) × (Nat → Nat → Int64) × (Nat → Int32)) => kr 1 5 (u.2.2.2 0) ∧ ka 0 4 (u.2.1 3)) (fun u => [kO h 1 [.int n_h_size, .ref h_state, .ref h_outcome, .ref h_deaths, .ref h_kind, .ref h_low, .ref h_high, .ref h_value, .ref h_need, .ref h_needKey, .ref h_line, .int (u.2.2.2 0)], kI cI h_state 5 (u.2.1 0), kI cI h_need 5 (u.2.1 1), kI cI h_needKey 5 (u.2.1 2), kI cI h_line 5 (u.2.1 3)]) (va_A [kO h 1 [.int n_h_size, .ref h_state, .ref h_outcome, .ref h_deaths, .ref h_kind, .ref h_low, .ref h_high, .ref h_value, .ref h_need, .ref h_needKey, .ref h_line, .int n_h_lineLength], kI cI h_state 5 f_h_state, kI cI h_need 5 f_h_need, kI cI h_needKey 5 f_h_needKey, kI cI h_line 5 f_h_line] sz)) 0 0 (va_A [kO h 1 [.int n_h_size, .ref h_state, .ref h_outcome, .ref h_deaths, .ref h_kind, .ref h_low, .ref h_high, .ref h_value, .ref h_need, .ref h_needKey, .ref h_line, .int n_h_lineLength], kI cI h_state 5 f_h_state, kI cI h_need 5 f_h_need, kI cI h_needKey 5 f_h_needKey, kI cI h_line 5 f_h_line] sz) := by
  refine kk_start (y := yX1_joinLine) (maxL := 4) (av := [.ref h, .int p0, .int p1, .int p2]) (Qc := fun A => kk_Qv D (fun (u : (Nat → Nat) × (Nat → Nat → Int32) × (Nat → Nat → Int64) × (Nat → Int32)) => kr 1 5 (u.2.2.2 0) ∧ ka 0 4 (u.2.1 3)) (fun u => [kO h 1 [.int n_h_size, .ref h_state, .ref h_outcome, .ref h_deaths, .ref h_kind, .ref h_low, .ref h_high, .ref h_value, .ref h_need, .ref h_needKey, .ref h_line, .int (u.2.2.2 0)], kI cI h_state 5 (u.2.1 0), kI cI h_need 5 (u.2.1 1), kI cI h_needKey 5 (u.2.1 2), kI cI h_line 5 (u.2.1 3)]) A) (by decide) (Nat.le_of_ble_eq_true rfl) ?_
  intro p e s m below meth c ls A hx hb hr hml hown hts hE hlocks hin hsz hP hD hA hS hl
  have hown : s.vm.findClass RX1 = some m.cls := hown
  have hl : lv_has ls 4 [(0, .ref h), (1, .int p0), (2, .int p1), (3, .int p2)] := hl
  refine lv_aload_n hx hb dX1_joinLine_0 rfl (lv_at hl 0 rfl) ?_
  refine va_get (D := D) (ci := 1) (v := .int n_h_lineLength) (C := RX1) (T := TX1) (N := 12) hx hb hts u_X1 hown hE.1 hP 0 rfl rfl 11 (by decide) (hts _ w_341) (fun _ h9 => h9) rfl dX1_joinLine_1 ?_
  refine lv_iconst (v := 5) hx hb dX1_joinLine_4 (by decide) ?_
  refine lv_icmp_ge (tgt := 49) hx hb dX1_joinLine_5 (by decide) (fun c_1 => ?_) (fun c_1 => ?_)
  · have i_1 : 5 ≤ n_h_lineLength.toInt := (ki_le c_1)
    have b_2 : kr 5 5 n_h_lineLength := kr_le_r (kr_c 5 5 rfl) b_h_lineLength i_1 rfl
    exact kk_ret_v ((fun _ => 0), (fun i => [f_h_state, f_h_need, f_h_needKey, f_h_line].getD i (fun _ => 0)), (fun i => [].getD i (fun _ => 0)), (fun i => [n_h_lineLength].getD i 0)) hx hb hr hlocks ⟨(kr_w b_2 rfl), kf_h_line⟩ (hP.sub [0, 1, 2, 3, 4] rfl) (hD.sub [0, 1, 2, 3, 4] (by decide +kernel) rfl) hS dX1_joinLine_49 (Nat.le_of_ble_eq_true rfl) (Nat.le_of_ble_eq_true rfl)
  · have i_1 : n_h_lineLength.toInt < 5 := (ki_nle c_1)
    have b_3 : kr 0 4 n_h_lineLength := kr_lt_l b_h_lineLength (kr_c 5 5 rfl) i_1 rfl
    refine lv_aload_n hx hb dX1_joinLine_8 rfl (lv_at hl 0 rfl) ?_
    refine va_get (D := D) (ci := 1) (v := .ref h_state) (C := RX1) (T := TX1) (N := 12) hx hb hts u_X1 hown hE.1 hP 0 rfl rfl 1 (by decide) (hts _ w_315) (fun _ h9 => h9) rfl dX1_joinLine_9 ?_
    refine lv_iload_n hx hb dX1_joinLine_12 rfl (lv_at hl 1 rfl) ?_
    refine lv_iconst (v := 2) hx hb dX1_joinLine_13 (by decide) ?_
    refine va_iast hx hb hE.1 hP hD hS 1 1 rfl rfl (kr_in b_p0 rfl) dX1_joinLine_14 (fun H locs hP hD hS => ?_)
    obtain ⟨f_4, ef_4⟩ : ∃ z, z = (upd f_h_state (Int32.toNatClampNeg p0) 2) := ⟨_, rfl⟩
    rw [← ef_4] at hP hD
    obtain ⟨hP, hD⟩ : kPD D A [kO h 1 [.int n_h_size, .ref h_state, .ref h_outcome, .ref h_deaths, .ref h_kind, .ref h_low, .ref h_high, .ref h_value, .ref h_need, .ref h_needKey, .ref h_line, .int n_h_lineLength], kI cI h_state 5 f_4, kI cI h_need 5 f_h_need, kI cI h_needKey 5 f_h_needKey, kI cI h_line 5 f_h_line] H := ⟨hP, hD⟩
    refine lv_aload_n hx hb dX1_joinLine_15 rfl (lv_at hl 0 rfl) ?_
    refine va_get (D := D) (ci := 1) (v := .ref h_need) (C := RX1) (T := TX1) (N := 12) hx hb hts u_X1 hown hE.1 hP 0 rfl rfl 8 (by decide) (hts _ w_334) (fun _ h9 => h9) rfl dX1_joinLine_16 ?_
    refine lv_iload_n hx hb dX1_joinLine_19 rfl (lv_at hl 1 rfl) ?_
    refine lv_iload_n hx hb dX1_joinLine_20 rfl (lv_at hl 2 rfl) ?_
    refine va_iast hx hb hE.1 hP hD hS 2 1 rfl rfl (kr_in b_p0 rfl) dX1_joinLine_21 (fun H locs hP hD hS => ?_)
    obtain ⟨f_5, ef_5⟩ : ∃ z, z = (upd f_h_need (Int32.toNatClampNeg p0) p1) := ⟨_, rfl⟩
    rw [← ef_5] at hP hD
    obtain ⟨hP, hD⟩ : kPD D A [kO h 1 [.int n_h_size, .ref h_state, .ref h_outcome, .ref h_deaths, .ref h_kind, .ref h_low, .ref h_high, .ref h_value, .ref h_need, .ref h_needKey, .ref h_line, .int n_h_lineLength], kI cI h_state 5 f_4, kI cI h_need 5 f_5, kI cI h_needKey 5 f_h_needKey, kI cI h_line 5 f_h_line] H := ⟨hP, hD⟩
    refine lv_aload_n hx hb dX1_joinLine_22 rfl (lv_at hl 0 rfl) ?_
    refine va_get (D := D) (ci := 1) (v := .ref h_needKey) (C := RX1) (T := TX1) (N := 12) hx hb hts u_X1 hown hE.1 hP 0 rfl rfl 9 (by decide) (hts _ w_336) (fun _ h9 => h9) rfl dX1_joinLine_23 ?_
    refine lv_iload_n hx hb dX1_joinLine_26 rfl (lv_at hl 1 rfl) ?_
    refine lv_iload_n hx hb dX1_joinLine_27 rfl (lv_at hl 3 rfl) ?_
    refine va_iast hx hb hE.1 hP hD hS 3 1 rfl rfl (kr_in b_p0 rfl) dX1_joinLine_28 (fun H locs hP hD hS => ?_)
    obtain ⟨f_6, ef_6⟩ : ∃ z, z = (upd f_h_needKey (Int32.toNatClampNeg p0) p2) := ⟨_, rfl⟩
    rw [← ef_6] at hP hD
    obtain ⟨hP, hD⟩ : kPD D A [kO h 1 [.int n_h_size, .ref h_state, .ref h_outcome, .ref h_deaths, .ref h_kind, .ref h_low, .ref h_high, .ref h_value, .ref h_need, .ref h_needKey, .ref h_line, .int n_h_lineLength], kI cI h_state 5 f_4, kI cI h_need 5 f_5, kI cI h_needKey 5 f_6, kI cI h_line 5 f_h_line] H := ⟨hP, hD⟩
    refine lv_aload_n hx hb dX1_joinLine_29 rfl (lv_at hl 0 rfl) ?_
    refine va_get (D := D) (ci := 1) (v := .ref h_line) (C := RX1) (T := TX1) (N := 12) hx hb hts u_X1 hown hE.1 hP 0 rfl rfl 10 (by decide) (hts _ w_338) (fun _ h9 => h9) rfl dX1_joinLine_30 ?_
    refine lv_aload_n hx hb dX1_joinLine_33 rfl (lv_at hl 0 rfl) ?_
    refine va_get (D := D) (ci := 1) (v := .int n_h_lineLength) (C := RX1) (T := TX1) (N := 12) hx hb hts u_X1 hown hE.1 hP 0 rfl rfl 11 (by decide) (hts _ w_341) (fun _ h9 => h9) rfl dX1_joinLine_34 ?_
    refine lv_iload_n hx hb dX1_joinLine_37 rfl (lv_at hl 1 rfl) ?_
    refine va_iast hx hb hE.1 hP hD hS 4 1 rfl rfl (kr_in b_3 rfl) dX1_joinLine_38 (fun H locs hP hD hS => ?_)
    obtain ⟨f_7, ef_7⟩ : ∃ z, z = (upd f_h_line (Int32.toNatClampNeg n_h_lineLength) p0) := ⟨_, rfl⟩
    have kf_7 : ka 0 4 f_7 := by rw [ef_7]; exact ka_upd (ka_w kf_h_line rfl) b_p0
    rw [← ef_7] at hP hD
    obtain ⟨hP, hD⟩ : kPD D A [kO h 1 [.int n_h_size, .ref h_state, .ref h_outcome, .ref h_deaths, .ref h_kind, .ref h_low, .ref h_high, .ref h_value, .ref h_need, .ref h_needKey, .ref h_line, .int n_h_lineLength], kI cI h_state 5 f_4, kI cI h_need 5 f_5, kI cI h_needKey 5 f_6, kI cI h_line 5 f_7] H := ⟨hP, hD⟩
    refine lv_aload_n hx hb dX1_joinLine_39 rfl (lv_at hl 0 rfl) ?_
    refine lv_dup hx hb dX1_joinLine_40 rfl ?_
    refine va_get (D := D) (ci := 1) (v := .int n_h_lineLength) (C := RX1) (T := TX1) (N := 12) hx hb hts u_X1 hown hE.1 hP 0 rfl rfl 11 (by decide) (hts _ w_341) (fun _ h9 => h9) rfl dX1_joinLine_41 ?_
    refine lv_iconst (v := 1) hx hb dX1_joinLine_44 (by decide) ?_
    refine lv_iadd hx hb dX1_joinLine_45 ?_
    refine lv_topi (fun v_8 e_8 => ?_)
    have t_8 : v_8.toInt = n_h_lineLength.toInt + 1 := kt_add e_8 b_3 (kr_c 1 1 rfl) rfl
    have b_8 : kr 1 5 v_8 := kr_add (x := n_h_lineLength) (y := 1) t_8 b_3 (kr_c 1 1 rfl) rfl
    refine va_put (D := D) (ci := 1) (v := .int v_8) (ty := .int) (C := RX1) (T := TX1) (N := 12) hx hb hts u_X1 tyX1 tyX1_ok nmX1 hown hE.1 hP hD hS 0 rfl rfl 11 (by decide) (hts _ w_341) (fun _ h9 => h9) rfl (by decide +kernel) rfl rfl (Nat.le_of_ble_eq_true rfl) dX1_joinLine_46 (fun H locs hP hD hS => ?_)
    obtain ⟨hP, hD⟩ : kPD D A [kO h 1 [.int n_h_size, .ref h_state, .ref h_outcome, .ref h_deaths, .ref h_kind, .ref h_low, .ref h_high, .ref h_value, .ref h_need, .ref h_needKey, .ref h_line, .int v_8], kI cI h_state 5 f_4, kI cI h_need 5 f_5, kI cI h_needKey 5 f_6, kI cI h_line 5 f_7] H := ⟨hP, hD⟩
    exact kk_ret_v ((fun _ => 0), (fun i => [f_4, f_5, f_6, f_7].getD i (fun _ => 0)), (fun i => [].getD i (fun _ => 0)), (fun i => [v_8].getD i 0)) hx hb hr hlocks ⟨b_8, kf_7⟩ (hP.sub [0, 1, 2, 3, 4] rfl) (hD.sub [0, 1, 2, 3, 4] (by decide +kernel) rfl) hS dX1_joinLine_49 (Nat.le_of_ble_eq_true rfl) (Nat.le_of_ble_eq_true rfl)
set_option maxHeartbeats 4000000 in
set_option maxRecDepth 100000 in
theorem c_X3_keyOf (l : Launch) (D : va_G) (cB cI cJ cD : ClassId) (h : Nat) (h_changes : Nat) (n_h_length : Int32) (f_h_changes : Nat → Int64) (p0 : Int32) (sz : Nat) (b_h_length : kr 0 600 n_h_length) (b_p0 : kr 0 599 p0) : Met l yX3_keyOf (kk_W yX3_keyOf cX3_keyOf 2 (some .int)) ({ frames := 0, cells := 0, slots := 0, locals := 0 }) (va_Pc [.ref h, .int p0] (kk_pre D cB cI cJ cD [kO h 3 [.int n_h_length, .ref h_changes], kJ cJ h_changes 600 f_h_changes] sz)) (vp_Si (fun r => True)) 0 0 (fun _ => False) := by
  refine kk_pstart (y := yX3_keyOf) (maxL := 2) (av := [.ref h, .int p0]) (by decide) (Nat.le_of_ble_eq_true rfl) ?_
  intro p e s m below meth c ls hx hb hr hml hown hts hE hlocks hsz hP hD hl
  have hown : s.vm.findClass RX3 = some m.cls := hown
  have hl : lv_has ls 2 [(0, .ref h), (1, .int p0)] := hl
  refine lv_aload_n hx hb dX3_keyOf_0 rfl (lv_at hl 0 rfl) ?_
  refine va_get (D := D) (ci := 3) (v := .ref h_changes) (C := RX3) (T := TX3) (N := 2) hx hb hts u_X3 hown hE.1 hP 0 rfl rfl 1 (by decide) (hts _ w_377) (fun _ h9 => h9) rfl dX3_keyOf_1 ?_
  refine lv_iload_n hx hb dX3_keyOf_4 rfl (lv_at hl 1 rfl) ?_
  refine va_lald hx hb hE.1 hP 1 2 rfl rfl (kr_in b_p0 rfl) dX3_keyOf_5 ?_
  refine lv_topl (fun v_1 e_1 => ?_)
  refine lv_l2i hx hb dX3_keyOf_6 rfl ?_
  refine lv_topi (fun v_2 e_2 => ?_)
  exact kk_pret_i hx hb hr hlocks trivial dX3_keyOf_7
set_option maxHeartbeats 4000000 in
set_option maxRecDepth 100000 in
theorem c_X3_handOf (l : Launch) (D : va_G) (cB cI cJ cD : ClassId) (h : Nat) (h_changes : Nat) (n_h_length : Int32) (f_h_changes : Nat → Int64) (p0 : Int32) (sz : Nat) (b_h_length : kr 0 600 n_h_length) (b_p0 : kr 0 599 p0) : Met l yX3_handOf (kk_W yX3_handOf cX3_handOf 2 (some .int)) ({ frames := 0, cells := 0, slots := 0, locals := 0 }) (va_Pc [.ref h, .int p0] (kk_pre D cB cI cJ cD [kO h 3 [.int n_h_length, .ref h_changes], kJ cJ h_changes 600 f_h_changes] sz)) (vp_Si (fun r => True)) 0 0 (fun _ => False) := by
  refine kk_pstart (y := yX3_handOf) (maxL := 2) (av := [.ref h, .int p0]) (by decide) (Nat.le_of_ble_eq_true rfl) ?_
  intro p e s m below meth c ls hx hb hr hml hown hts hE hlocks hsz hP hD hl
  have hown : s.vm.findClass RX3 = some m.cls := hown
  have hl : lv_has ls 2 [(0, .ref h), (1, .int p0)] := hl
  refine lv_aload_n hx hb dX3_handOf_0 rfl (lv_at hl 0 rfl) ?_
  refine va_get (D := D) (ci := 3) (v := .ref h_changes) (C := RX3) (T := TX3) (N := 2) hx hb hts u_X3 hown hE.1 hP 0 rfl rfl 1 (by decide) (hts _ w_377) (fun _ h9 => h9) rfl dX3_handOf_1 ?_
  refine lv_iload_n hx hb dX3_handOf_4 rfl (lv_at hl 1 rfl) ?_
  refine va_lald hx hb hE.1 hP 1 2 rfl rfl (kr_in b_p0 rfl) dX3_handOf_5 ?_
  refine lv_topl (fun v_1 e_1 => ?_)
  refine lv_bipush (v := 50) hx hb dX3_handOf_6 (by decide) ?_
  refine lv_lshr hx hb dX3_handOf_8 rfl ?_
  refine lv_topl (fun v_2 e_2 => ?_)
  refine lv_l2i hx hb dX3_handOf_9 rfl ?_
  refine lv_topi (fun v_3 e_3 => ?_)
  exact kk_pret_i hx hb hr hlocks trivial dX3_handOf_10
set_option maxHeartbeats 4000000 in
set_option maxRecDepth 100000 in
theorem c_X3_whatOf (l : Launch) (D : va_G) (cB cI cJ cD : ClassId) (h : Nat) (h_changes : Nat) (n_h_length : Int32) (f_h_changes : Nat → Int64) (p0 : Int32) (sz : Nat) (b_h_length : kr 0 600 n_h_length) (b_p0 : kr 0 599 p0) : Met l yX3_whatOf (kk_W yX3_whatOf cX3_whatOf 2 (some .int)) ({ frames := 0, cells := 0, slots := 0, locals := 0 }) (va_Pc [.ref h, .int p0] (kk_pre D cB cI cJ cD [kO h 3 [.int n_h_length, .ref h_changes], kJ cJ h_changes 600 f_h_changes] sz)) (vp_Si (fun r => kr 0 3 r)) 0 0 (fun _ => False) := by
  refine kk_pstart (y := yX3_whatOf) (maxL := 2) (av := [.ref h, .int p0]) (by decide) (Nat.le_of_ble_eq_true rfl) ?_
  intro p e s m below meth c ls hx hb hr hml hown hts hE hlocks hsz hP hD hl
  have hown : s.vm.findClass RX3 = some m.cls := hown
  have hl : lv_has ls 2 [(0, .ref h), (1, .int p0)] := hl
  refine lv_aload_n hx hb dX3_whatOf_0 rfl (lv_at hl 0 rfl) ?_
  refine va_get (D := D) (ci := 3) (v := .ref h_changes) (C := RX3) (T := TX3) (N := 2) hx hb hts u_X3 hown hE.1 hP 0 rfl rfl 1 (by decide) (hts _ w_377) (fun _ h9 => h9) rfl dX3_whatOf_1 ?_
  refine lv_iload_n hx hb dX3_whatOf_4 rfl (lv_at hl 1 rfl) ?_
  refine va_lald hx hb hE.1 hP 1 2 rfl rfl (kr_in b_p0 rfl) dX3_whatOf_5 ?_
  refine lv_topl (fun v_1 e_1 => ?_)
  refine lv_bipush (v := 48) hx hb dX3_whatOf_6 (by decide) ?_
  refine lv_lshr hx hb dX3_whatOf_8 rfl ?_
  refine lv_topl (fun v_2 e_2 => ?_)
  refine lv_l2i hx hb dX3_whatOf_9 rfl ?_
  refine lv_topi (fun v_3 e_3 => ?_)
  refine lv_iconst (v := 3) hx hb dX3_whatOf_10 (by decide) ?_
  refine lv_iand hx hb dX3_whatOf_11 ?_
  refine lv_topi (fun v_4 e_4 => ?_)
  have b_4 : kr 0 3 v_4 := kr_and e_4 2 (by decide) rfl
  exact kk_pret_i hx hb hr hlocks b_4 dX3_whatOf_12
set_option maxHeartbeats 4000000 in
set_option maxRecDepth 100000 in
theorem c_X7_vanish (l : Launch) (D : va_G) (cB cI cJ cD : ClassId) (h : Nat) (h_gaps : Nat) (h_sharers : Nat) (h_bits : Nat) (h_value : Nat) (h_cutter : Nat) (h_putter : Nat) (h_wholes : Nat) (n_h_size : Int32) (f_h_gaps : Nat → Int32) (f_h_sharers : Nat → Int32) (f_h_bits : Nat → Int32) (f_h_value : Nat → Int32) (f_h_cutter : Nat → Int32) (f_h_putter : Nat → Int32) (f_h_wholes : Nat → Int32) (p0 : Int32) (p1 : Int32) (sz : Nat) (b_h_size : kr 0 24 n_h_size) : Met l yX7_vanish (kk_W yX7_vanish cX7_vanish 4 none) ({ frames := 0, cells := 0, slots := 0, locals := 0 }) (va_Pc [.ref h, .int p0, .int p1] (kk_pre D cB cI cJ cD [kO h 6 [.int n_h_size, .ref h_bits, .ref h_value, .ref h_cutter, .ref h_putter, .ref h_gaps, .ref h_sharers, .ref h_wholes], kI cI h_gaps 25 f_h_gaps, kI cI h_sharers 24 f_h_sharers, kI cI h_bits 24 f_h_bits, kI cI h_value 24 f_h_value, kI cI h_cutter 24 f_h_cutter, kI cI h_putter 24 f_h_putter, kI cI h_wholes 24 f_h_wholes] sz)) (kk_Qv D (fun (u : (Nat → Nat) × (Nat → Nat → Int32) × (Nat → Nat → Int64) × (Nat → Int32)) => kr 0 24 (u.2.2.2 0)) (fun u => [kO h 6 [.int (u.2.2.2 0), .ref h_bits, .ref h_value, .ref h_cutter, .ref h_putter, .ref h_gaps, .ref h_sharers, .ref h_wholes], kI cI h_gaps 25 (u.2.1 0), kI cI h_sharers 24 (u.2.1 1), kI cI h_bits 24 (u.2.1 2), kI cI h_value 24 (u.2.1 3), kI cI h_cutter 24 (u.2.1 4), kI cI h_putter 24 (u.2.1 5), kI cI h_wholes 24 (u.2.1 6)]) (va_A [kO h 6 [.int n_h_size, .ref h_bits, .ref h_value, .ref h_cutter, .ref h_putter, .ref h_gaps, .ref h_sharers, .ref h_wholes], kI cI h_gaps 25 f_h_gaps, kI cI h_sharers 24 f_h_sharers, kI cI h_bits 24 f_h_bits, kI cI h_value 24 f_h_value, kI cI h_cutter 24 f_h_cutter, kI cI h_putter 24 f_h_putter, kI cI h_wholes 24 f_h_wholes] sz)) 0 0 (va_A [kO h 6 [.int n_h_size, .ref h_bits, .ref h_value, .ref h_cutter, .ref h_putter, .ref h_gaps, .ref h_sharers, .ref h_wholes], kI cI h_gaps 25 f_h_gaps, kI cI h_sharers 24 f_h_sharers, kI cI h_bits 24 f_h_bits, kI cI h_value 24 f_h_value, kI cI h_cutter 24 f_h_cutter, kI cI h_putter 24 f_h_putter, kI cI h_wholes 24 f_h_wholes] sz) := by
  refine kk_start (y := yX7_vanish) (maxL := 4) (av := [.ref h, .int p0, .int p1]) (Qc := fun A => kk_Qv D (fun (u : (Nat → Nat) × (Nat → Nat → Int32) × (Nat → Nat → Int64) × (Nat → Int32)) => kr 0 24 (u.2.2.2 0)) (fun u => [kO h 6 [.int (u.2.2.2 0), .ref h_bits, .ref h_value, .ref h_cutter, .ref h_putter, .ref h_gaps, .ref h_sharers, .ref h_wholes], kI cI h_gaps 25 (u.2.1 0), kI cI h_sharers 24 (u.2.1 1), kI cI h_bits 24 (u.2.1 2), kI cI h_value 24 (u.2.1 3), kI cI h_cutter 24 (u.2.1 4), kI cI h_putter 24 (u.2.1 5), kI cI h_wholes 24 (u.2.1 6)]) A) (by decide) (Nat.le_of_ble_eq_true rfl) ?_
  intro p e s m below meth c ls A hx hb hr hml hown hts hE hlocks hin hsz hP hD hA hS hl
  have hown : s.vm.findClass RX7 = some m.cls := hown
  have hl : lv_has ls 4 [(0, .ref h), (1, .int p0), (2, .int p1)] := hl
  generalize hQQ : MQ below _ _ s _ _ _ = QQ
  have J_55 : ∀ (n : Nat) (x55_l_3 : Int32) (x55_f_h_0 : Int32) (g55_h_gaps : Nat → Int32) (g55_h_sharers : Nat → Int32) (g55_h_bits : Nat → Int32) (g55_h_value : Nat → Int32) (g55_h_cutter : Nat → Int32) (g55_h_putter : Nat → Int32) (g55_h_wholes : Nat → Int32) (H : Heap) (locs : List Loc) (ls : Array Slot), (23 - x55_l_3.toInt).toNat < n → kr 0 23 x55_l_3 → kr 0 23 x55_f_h_0 → kPD D A [kO h 6 [.int x55_f_h_0, .ref h_bits, .ref h_value, .ref h_cutter, .ref h_putter, .ref h_gaps, .ref h_sharers, .ref h_wholes], kI cI h_gaps 25 g55_h_gaps, kI cI h_sharers 24 g55_h_sharers, kI cI h_bits 24 g55_h_bits, kI cI h_value 24 g55_h_value, kI cI h_cutter 24 g55_h_cutter, kI cI h_putter 24 g55_h_putter, kI cI h_wholes 24 g55_h_wholes] H → va_S A s.heap H locs → lv_has ls 4 [(3, .int x55_l_3), (0, .ref h)] → W p l e ({ frames := 0, cells := 0, slots := 0, locals := 0 }) s m ([.ref h, .int p0, .int p1] : List Value).toArray below meth c H locs 0 0 QQ (F0 m 55 ls []) := by
    intro n
    induction n with
    | zero =>
      intro x55_l_3 x55_f_h_0 g55_h_gaps g55_h_sharers g55_h_bits g55_h_value g55_h_cutter g55_h_putter g55_h_wholes H locs ls hn_55 bx55_l_3 bx55_f_h_0 hPD hS hl
      exact absurd hn_55 (Nat.not_lt_zero _)
    | succ n ih_55 =>
      intro x55_l_3 x55_f_h_0 g55_h_gaps g55_h_sharers g55_h_bits g55_h_value g55_h_cutter g55_h_putter g55_h_wholes H locs ls hn_55 bx55_l_3 bx55_f_h_0 hPD hS hl
      obtain ⟨hP, hD⟩ := hPD
      refine lv_iload_n hx hb dX7_vanish_55 rfl (lv_at hl 0 rfl) ?_
      refine lv_aload_n hx hb dX7_vanish_56 rfl (lv_at hl 1 rfl) ?_
      refine va_get (D := D) (ci := 6) (v := .int x55_f_h_0) (C := RX7) (T := TX7) (N := 8) hx hb hts u_X7 hown hE.1 hP 0 rfl rfl 0 (by decide) (hts _ w_157) (fun _ h9 => h9) rfl dX7_vanish_57 ?_
      refine lv_icmp_ge (tgt := 167) hx hb dX7_vanish_60 (by decide) (fun c_1 => ?_) (fun c_1 => ?_)
      · have i_1 : x55_f_h_0.toInt ≤ x55_l_3.toInt := (ki_le c_1)
        refine lv_aload_n hx hb dX7_vanish_167 rfl (lv_at hl 1 rfl) ?_
        refine va_get (D := D) (ci := 6) (v := .ref h_gaps) (C := RX7) (T := TX7) (N := 8) hx hb hts u_X7 hown hE.1 hP 0 rfl rfl 5 (by decide) (hts _ w_177) (fun _ h9 => h9) rfl dX7_vanish_168 ?_
        refine lv_aload_n hx hb dX7_vanish_171 rfl (lv_at hl 1 rfl) ?_
        refine va_get (D := D) (ci := 6) (v := .int x55_f_h_0) (C := RX7) (T := TX7) (N := 8) hx hb hts u_X7 hown hE.1 hP 0 rfl rfl 0 (by decide) (hts _ w_157) (fun _ h9 => h9) rfl dX7_vanish_172 ?_
        refine lv_aload_n hx hb dX7_vanish_175 rfl (lv_at hl 1 rfl) ?_
        refine va_get (D := D) (ci := 6) (v := .ref h_gaps) (C := RX7) (T := TX7) (N := 8) hx hb hts u_X7 hown hE.1 hP 0 rfl rfl 5 (by decide) (hts _ w_177) (fun _ h9 => h9) rfl dX7_vanish_176 ?_
        refine lv_aload_n hx hb dX7_vanish_179 rfl (lv_at hl 1 rfl) ?_
        refine va_get (D := D) (ci := 6) (v := .int x55_f_h_0) (C := RX7) (T := TX7) (N := 8) hx hb hts u_X7 hown hE.1 hP 0 rfl rfl 0 (by decide) (hts _ w_157) (fun _ h9 => h9) rfl dX7_vanish_180 ?_
        refine lv_iconst (v := 1) hx hb dX7_vanish_183 (by decide) ?_
        refine lv_iadd hx hb dX7_vanish_184 ?_
        refine lv_topi (fun v_2 e_2 => ?_)
        have t_2 : v_2.toInt = x55_f_h_0.toInt + 1 := kt_add e_2 bx55_f_h_0 (kr_c 1 1 rfl) rfl
        have b_2 : kr 1 24 v_2 := kr_add (x := x55_f_h_0) (y := 1) t_2 bx55_f_h_0 (kr_c 1 1 rfl) rfl
        refine va_iald hx hb hE.1 hP 1 1 rfl rfl (kr_in b_2 rfl) dX7_vanish_185 ?_
        refine lv_topi (fun v_3 e_3 => ?_)
        refine va_iast hx hb hE.1 hP hD hS 1 1 rfl rfl (kr_in bx55_f_h_0 rfl) dX7_vanish_186 (fun H locs hP hD hS => ?_)
        obtain ⟨f_4, ef_4⟩ : ∃ z, z = (upd g55_h_gaps (Int32.toNatClampNeg x55_f_h_0) v_3) := ⟨_, rfl⟩
        rw [← ef_4] at hP hD
        obtain ⟨hP, hD⟩ : kPD D A [kO h 6 [.int x55_f_h_0, .ref h_bits, .ref h_value, .ref h_cutter, .ref h_putter, .ref h_gaps, .ref h_sharers, .ref h_wholes], kI cI h_gaps 25 f_4, kI cI h_sharers 24 g55_h_sharers, kI cI h_bits 24 g55_h_bits, kI cI h_value 24 g55_h_value, kI cI h_cutter 24 g55_h_cutter, kI cI h_putter 24 g55_h_putter, kI cI h_wholes 24 g55_h_wholes] H := ⟨hP, hD⟩
        subst hQQ
        exact kk_ret_v ((fun _ => 0), (fun i => [f_4, g55_h_sharers, g55_h_bits, g55_h_value, g55_h_cutter, g55_h_putter, g55_h_wholes].getD i (fun _ => 0)), (fun i => [].getD i (fun _ => 0)), (fun i => [x55_f_h_0].getD i 0)) hx hb hr hlocks (kr_w bx55_f_h_0 rfl) (hP.sub [0, 1, 2, 3, 4, 5, 6, 7] rfl) (hD.sub [0, 1, 2, 3, 4, 5, 6, 7] (by decide +kernel) rfl) hS dX7_vanish_187 (Nat.le_of_ble_eq_true rfl) (Nat.le_of_ble_eq_true rfl)
      · have i_1 : x55_l_3.toInt < x55_f_h_0.toInt := (ki_nle c_1)
        have b_5 : kr 0 22 x55_l_3 := kr_lt_l bx55_l_3 bx55_f_h_0 i_1 rfl
        have b_6 : kr 1 23 x55_f_h_0 := kr_lt_r bx55_l_3 bx55_f_h_0 i_1 rfl
        refine lv_aload_n hx hb dX7_vanish_63 rfl (lv_at hl 1 rfl) ?_
        refine va_get (D := D) (ci := 6) (v := .ref h_bits) (C := RX7) (T := TX7) (N := 8) hx hb hts u_X7 hown hE.1 hP 0 rfl rfl 1 (by decide) (hts _ w_163) (fun _ h9 => h9) rfl dX7_vanish_64 ?_
        refine lv_iload_n hx hb dX7_vanish_67 rfl (lv_at hl 0 rfl) ?_
        refine lv_aload_n hx hb dX7_vanish_68 rfl (lv_at hl 1 rfl) ?_
        refine va_get (D := D) (ci := 6) (v := .ref h_bits) (C := RX7) (T := TX7) (N := 8) hx hb hts u_X7 hown hE.1 hP 0 rfl rfl 1 (by decide) (hts _ w_163) (fun _ h9 => h9) rfl dX7_vanish_69 ?_
        refine lv_iload_n hx hb dX7_vanish_72 rfl (lv_at hl 0 rfl) ?_
        refine lv_iconst (v := 1) hx hb dX7_vanish_73 (by decide) ?_
        refine lv_iadd hx hb dX7_vanish_74 ?_
        refine lv_topi (fun v_7 e_7 => ?_)
        have t_7 : v_7.toInt = x55_l_3.toInt + 1 := kt_add e_7 b_5 (kr_c 1 1 rfl) rfl
        have b_7 : kr 1 23 v_7 := kr_add (x := x55_l_3) (y := 1) t_7 b_5 (kr_c 1 1 rfl) rfl
        refine va_iald hx hb hE.1 hP 3 1 rfl rfl (kr_in b_7 rfl) dX7_vanish_75 ?_
        refine lv_topi (fun v_8 e_8 => ?_)
        refine va_iast hx hb hE.1 hP hD hS 3 1 rfl rfl (kr_in b_5 rfl) dX7_vanish_76 (fun H locs hP hD hS => ?_)
        obtain ⟨f_9, ef_9⟩ : ∃ z, z = (upd g55_h_bits (Int32.toNatClampNeg x55_l_3) v_8) := ⟨_, rfl⟩
        rw [← ef_9] at hP hD
        obtain ⟨hP, hD⟩ : kPD D A [kO h 6 [.int x55_f_h_0, .ref h_bits, .ref h_value, .ref h_cutter, .ref h_putter, .ref h_gaps, .ref h_sharers, .ref h_wholes], kI cI h_gaps 25 g55_h_gaps, kI cI h_sharers 24 g55_h_sharers, kI cI h_bits 24 f_9, kI cI h_value 24 g55_h_value, kI cI h_cutter 24 g55_h_cutter, kI cI h_putter 24 g55_h_putter, kI cI h_wholes 24 g55_h_wholes] H := ⟨hP, hD⟩
        refine lv_aload_n hx hb dX7_vanish_77 rfl (lv_at hl 1 rfl) ?_
        refine va_get (D := D) (ci := 6) (v := .ref h_value) (C := RX7) (T := TX7) (N := 8) hx hb hts u_X7 hown hE.1 hP 0 rfl rfl 2 (by decide) (hts _ w_167) (fun _ h9 => h9) rfl dX7_vanish_78 ?_
        refine lv_iload_n hx hb dX7_vanish_81 rfl (lv_at hl 0 rfl) ?_
        refine lv_aload_n hx hb dX7_vanish_82 rfl (lv_at hl 1 rfl) ?_
        refine va_get (D := D) (ci := 6) (v := .ref h_value) (C := RX7) (T := TX7) (N := 8) hx hb hts u_X7 hown hE.1 hP 0 rfl rfl 2 (by decide) (hts _ w_167) (fun _ h9 => h9) rfl dX7_vanish_83 ?_
        refine lv_iload_n hx hb dX7_vanish_86 rfl (lv_at hl 0 rfl) ?_
        refine lv_iconst (v := 1) hx hb dX7_vanish_87 (by decide) ?_
        refine lv_iadd hx hb dX7_vanish_88 ?_
        refine lv_topi (fun v_10 e_10 => ?_)
        have t_10 : v_10.toInt = x55_l_3.toInt + 1 := kt_add e_10 b_5 (kr_c 1 1 rfl) rfl
        have b_10 : kr 1 23 v_10 := kr_add (x := x55_l_3) (y := 1) t_10 b_5 (kr_c 1 1 rfl) rfl
        refine va_iald hx hb hE.1 hP 4 1 rfl rfl (kr_in b_10 rfl) dX7_vanish_89 ?_
        refine lv_topi (fun v_11 e_11 => ?_)
        refine va_iast hx hb hE.1 hP hD hS 4 1 rfl rfl (kr_in b_5 rfl) dX7_vanish_90 (fun H locs hP hD hS => ?_)
        obtain ⟨f_12, ef_12⟩ : ∃ z, z = (upd g55_h_value (Int32.toNatClampNeg x55_l_3) v_11) := ⟨_, rfl⟩
        rw [← ef_12] at hP hD
        obtain ⟨hP, hD⟩ : kPD D A [kO h 6 [.int x55_f_h_0, .ref h_bits, .ref h_value, .ref h_cutter, .ref h_putter, .ref h_gaps, .ref h_sharers, .ref h_wholes], kI cI h_gaps 25 g55_h_gaps, kI cI h_sharers 24 g55_h_sharers, kI cI h_bits 24 f_9, kI cI h_value 24 f_12, kI cI h_cutter 24 g55_h_cutter, kI cI h_putter 24 g55_h_putter, kI cI h_wholes 24 g55_h_wholes] H := ⟨hP, hD⟩
        refine lv_aload_n hx hb dX7_vanish_91 rfl (lv_at hl 1 rfl) ?_
        refine va_get (D := D) (ci := 6) (v := .ref h_cutter) (C := RX7) (T := TX7) (N := 8) hx hb hts u_X7 hown hE.1 hP 0 rfl rfl 3 (by decide) (hts _ w_171) (fun _ h9 => h9) rfl dX7_vanish_92 ?_
        refine lv_iload_n hx hb dX7_vanish_95 rfl (lv_at hl 0 rfl) ?_
        refine lv_aload_n hx hb dX7_vanish_96 rfl (lv_at hl 1 rfl) ?_
        refine va_get (D := D) (ci := 6) (v := .ref h_cutter) (C := RX7) (T := TX7) (N := 8) hx hb hts u_X7 hown hE.1 hP 0 rfl rfl 3 (by decide) (hts _ w_171) (fun _ h9 => h9) rfl dX7_vanish_97 ?_
        refine lv_iload_n hx hb dX7_vanish_100 rfl (lv_at hl 0 rfl) ?_
        refine lv_iconst (v := 1) hx hb dX7_vanish_101 (by decide) ?_
        refine lv_iadd hx hb dX7_vanish_102 ?_
        refine lv_topi (fun v_13 e_13 => ?_)
        have t_13 : v_13.toInt = x55_l_3.toInt + 1 := kt_add e_13 b_5 (kr_c 1 1 rfl) rfl
        have b_13 : kr 1 23 v_13 := kr_add (x := x55_l_3) (y := 1) t_13 b_5 (kr_c 1 1 rfl) rfl
        refine va_iald hx hb hE.1 hP 5 1 rfl rfl (kr_in b_13 rfl) dX7_vanish_103 ?_
        refine lv_topi (fun v_14 e_14 => ?_)
        refine va_iast hx hb hE.1 hP hD hS 5 1 rfl rfl (kr_in b_5 rfl) dX7_vanish_104 (fun H locs hP hD hS => ?_)
        obtain ⟨f_15, ef_15⟩ : ∃ z, z = (upd g55_h_cutter (Int32.toNatClampNeg x55_l_3) v_14) := ⟨_, rfl⟩
        rw [← ef_15] at hP hD
        obtain ⟨hP, hD⟩ : kPD D A [kO h 6 [.int x55_f_h_0, .ref h_bits, .ref h_value, .ref h_cutter, .ref h_putter, .ref h_gaps, .ref h_sharers, .ref h_wholes], kI cI h_gaps 25 g55_h_gaps, kI cI h_sharers 24 g55_h_sharers, kI cI h_bits 24 f_9, kI cI h_value 24 f_12, kI cI h_cutter 24 f_15, kI cI h_putter 24 g55_h_putter, kI cI h_wholes 24 g55_h_wholes] H := ⟨hP, hD⟩
        refine lv_aload_n hx hb dX7_vanish_105 rfl (lv_at hl 1 rfl) ?_
        refine va_get (D := D) (ci := 6) (v := .ref h_putter) (C := RX7) (T := TX7) (N := 8) hx hb hts u_X7 hown hE.1 hP 0 rfl rfl 4 (by decide) (hts _ w_174) (fun _ h9 => h9) rfl dX7_vanish_106 ?_
        refine lv_iload_n hx hb dX7_vanish_109 rfl (lv_at hl 0 rfl) ?_
        refine lv_aload_n hx hb dX7_vanish_110 rfl (lv_at hl 1 rfl) ?_
        refine va_get (D := D) (ci := 6) (v := .ref h_putter) (C := RX7) (T := TX7) (N := 8) hx hb hts u_X7 hown hE.1 hP 0 rfl rfl 4 (by decide) (hts _ w_174) (fun _ h9 => h9) rfl dX7_vanish_111 ?_
        refine lv_iload_n hx hb dX7_vanish_114 rfl (lv_at hl 0 rfl) ?_
        refine lv_iconst (v := 1) hx hb dX7_vanish_115 (by decide) ?_
        refine lv_iadd hx hb dX7_vanish_116 ?_
        refine lv_topi (fun v_16 e_16 => ?_)
        have t_16 : v_16.toInt = x55_l_3.toInt + 1 := kt_add e_16 b_5 (kr_c 1 1 rfl) rfl
        have b_16 : kr 1 23 v_16 := kr_add (x := x55_l_3) (y := 1) t_16 b_5 (kr_c 1 1 rfl) rfl
        refine va_iald hx hb hE.1 hP 6 1 rfl rfl (kr_in b_16 rfl) dX7_vanish_117 ?_
        refine lv_topi (fun v_17 e_17 => ?_)
        refine va_iast hx hb hE.1 hP hD hS 6 1 rfl rfl (kr_in b_5 rfl) dX7_vanish_118 (fun H locs hP hD hS => ?_)
        obtain ⟨f_18, ef_18⟩ : ∃ z, z = (upd g55_h_putter (Int32.toNatClampNeg x55_l_3) v_17) := ⟨_, rfl⟩
        rw [← ef_18] at hP hD
        obtain ⟨hP, hD⟩ : kPD D A [kO h 6 [.int x55_f_h_0, .ref h_bits, .ref h_value, .ref h_cutter, .ref h_putter, .ref h_gaps, .ref h_sharers, .ref h_wholes], kI cI h_gaps 25 g55_h_gaps, kI cI h_sharers 24 g55_h_sharers, kI cI h_bits 24 f_9, kI cI h_value 24 f_12, kI cI h_cutter 24 f_15, kI cI h_putter 24 f_18, kI cI h_wholes 24 g55_h_wholes] H := ⟨hP, hD⟩
        refine lv_aload_n hx hb dX7_vanish_119 rfl (lv_at hl 1 rfl) ?_
        refine va_get (D := D) (ci := 6) (v := .ref h_gaps) (C := RX7) (T := TX7) (N := 8) hx hb hts u_X7 hown hE.1 hP 0 rfl rfl 5 (by decide) (hts _ w_177) (fun _ h9 => h9) rfl dX7_vanish_120 ?_
        refine lv_iload_n hx hb dX7_vanish_123 rfl (lv_at hl 0 rfl) ?_
        refine lv_aload_n hx hb dX7_vanish_124 rfl (lv_at hl 1 rfl) ?_
        refine va_get (D := D) (ci := 6) (v := .ref h_gaps) (C := RX7) (T := TX7) (N := 8) hx hb hts u_X7 hown hE.1 hP 0 rfl rfl 5 (by decide) (hts _ w_177) (fun _ h9 => h9) rfl dX7_vanish_125 ?_
        refine lv_iload_n hx hb dX7_vanish_128 rfl (lv_at hl 0 rfl) ?_
        refine lv_iconst (v := 1) hx hb dX7_vanish_129 (by decide) ?_
        refine lv_iadd hx hb dX7_vanish_130 ?_
        refine lv_topi (fun v_19 e_19 => ?_)
        have t_19 : v_19.toInt = x55_l_3.toInt + 1 := kt_add e_19 b_5 (kr_c 1 1 rfl) rfl
        have b_19 : kr 1 23 v_19 := kr_add (x := x55_l_3) (y := 1) t_19 b_5 (kr_c 1 1 rfl) rfl
        refine va_iald hx hb hE.1 hP 1 1 rfl rfl (kr_in b_19 rfl) dX7_vanish_131 ?_
        refine lv_topi (fun v_20 e_20 => ?_)
        refine va_iast hx hb hE.1 hP hD hS 1 1 rfl rfl (kr_in b_5 rfl) dX7_vanish_132 (fun H locs hP hD hS => ?_)
        obtain ⟨f_21, ef_21⟩ : ∃ z, z = (upd g55_h_gaps (Int32.toNatClampNeg x55_l_3) v_20) := ⟨_, rfl⟩
        rw [← ef_21] at hP hD
        obtain ⟨hP, hD⟩ : kPD D A [kO h 6 [.int x55_f_h_0, .ref h_bits, .ref h_value, .ref h_cutter, .ref h_putter, .ref h_gaps, .ref h_sharers, .ref h_wholes], kI cI h_gaps 25 f_21, kI cI h_sharers 24 g55_h_sharers, kI cI h_bits 24 f_9, kI cI h_value 24 f_12, kI cI h_cutter 24 f_15, kI cI h_putter 24 f_18, kI cI h_wholes 24 g55_h_wholes] H := ⟨hP, hD⟩
        refine lv_aload_n hx hb dX7_vanish_133 rfl (lv_at hl 1 rfl) ?_
        refine va_get (D := D) (ci := 6) (v := .ref h_sharers) (C := RX7) (T := TX7) (N := 8) hx hb hts u_X7 hown hE.1 hP 0 rfl rfl 6 (by decide) (hts _ w_180) (fun _ h9 => h9) rfl dX7_vanish_134 ?_
        refine lv_iload_n hx hb dX7_vanish_137 rfl (lv_at hl 0 rfl) ?_
        refine lv_aload_n hx hb dX7_vanish_138 rfl (lv_at hl 1 rfl) ?_
        refine va_get (D := D) (ci := 6) (v := .ref h_sharers) (C := RX7) (T := TX7) (N := 8) hx hb hts u_X7 hown hE.1 hP 0 rfl rfl 6 (by decide) (hts _ w_180) (fun _ h9 => h9) rfl dX7_vanish_139 ?_
        refine lv_iload_n hx hb dX7_vanish_142 rfl (lv_at hl 0 rfl) ?_
        refine lv_iconst (v := 1) hx hb dX7_vanish_143 (by decide) ?_
        refine lv_iadd hx hb dX7_vanish_144 ?_
        refine lv_topi (fun v_22 e_22 => ?_)
        have t_22 : v_22.toInt = x55_l_3.toInt + 1 := kt_add e_22 b_5 (kr_c 1 1 rfl) rfl
        have b_22 : kr 1 23 v_22 := kr_add (x := x55_l_3) (y := 1) t_22 b_5 (kr_c 1 1 rfl) rfl
        refine va_iald hx hb hE.1 hP 2 1 rfl rfl (kr_in b_22 rfl) dX7_vanish_145 ?_
        refine lv_topi (fun v_23 e_23 => ?_)
        refine va_iast hx hb hE.1 hP hD hS 2 1 rfl rfl (kr_in b_5 rfl) dX7_vanish_146 (fun H locs hP hD hS => ?_)
        obtain ⟨f_24, ef_24⟩ : ∃ z, z = (upd g55_h_sharers (Int32.toNatClampNeg x55_l_3) v_23) := ⟨_, rfl⟩
        rw [← ef_24] at hP hD
        obtain ⟨hP, hD⟩ : kPD D A [kO h 6 [.int x55_f_h_0, .ref h_bits, .ref h_value, .ref h_cutter, .ref h_putter, .ref h_gaps, .ref h_sharers, .ref h_wholes], kI cI h_gaps 25 f_21, kI cI h_sharers 24 f_24, kI cI h_bits 24 f_9, kI cI h_value 24 f_12, kI cI h_cutter 24 f_15, kI cI h_putter 24 f_18, kI cI h_wholes 24 g55_h_wholes] H := ⟨hP, hD⟩
        refine lv_aload_n hx hb dX7_vanish_147 rfl (lv_at hl 1 rfl) ?_
        refine va_get (D := D) (ci := 6) (v := .ref h_wholes) (C := RX7) (T := TX7) (N := 8) hx hb hts u_X7 hown hE.1 hP 0 rfl rfl 7 (by decide) (hts _ w_182) (fun _ h9 => h9) rfl dX7_vanish_148 ?_
        refine lv_iload_n hx hb dX7_vanish_151 rfl (lv_at hl 0 rfl) ?_
        refine lv_aload_n hx hb dX7_vanish_152 rfl (lv_at hl 1 rfl) ?_
        refine va_get (D := D) (ci := 6) (v := .ref h_wholes) (C := RX7) (T := TX7) (N := 8) hx hb hts u_X7 hown hE.1 hP 0 rfl rfl 7 (by decide) (hts _ w_182) (fun _ h9 => h9) rfl dX7_vanish_153 ?_
        refine lv_iload_n hx hb dX7_vanish_156 rfl (lv_at hl 0 rfl) ?_
        refine lv_iconst (v := 1) hx hb dX7_vanish_157 (by decide) ?_
        refine lv_iadd hx hb dX7_vanish_158 ?_
        refine lv_topi (fun v_25 e_25 => ?_)
        have t_25 : v_25.toInt = x55_l_3.toInt + 1 := kt_add e_25 b_5 (kr_c 1 1 rfl) rfl
        have b_25 : kr 1 23 v_25 := kr_add (x := x55_l_3) (y := 1) t_25 b_5 (kr_c 1 1 rfl) rfl
        refine va_iald hx hb hE.1 hP 7 1 rfl rfl (kr_in b_25 rfl) dX7_vanish_159 ?_
        refine lv_topi (fun v_26 e_26 => ?_)
        refine va_iast hx hb hE.1 hP hD hS 7 1 rfl rfl (kr_in b_5 rfl) dX7_vanish_160 (fun H locs hP hD hS => ?_)
        obtain ⟨f_27, ef_27⟩ : ∃ z, z = (upd g55_h_wholes (Int32.toNatClampNeg x55_l_3) v_26) := ⟨_, rfl⟩
        rw [← ef_27] at hP hD
        obtain ⟨hP, hD⟩ : kPD D A [kO h 6 [.int x55_f_h_0, .ref h_bits, .ref h_value, .ref h_cutter, .ref h_putter, .ref h_gaps, .ref h_sharers, .ref h_wholes], kI cI h_gaps 25 f_21, kI cI h_sharers 24 f_24, kI cI h_bits 24 f_9, kI cI h_value 24 f_12, kI cI h_cutter 24 f_15, kI cI h_putter 24 f_18, kI cI h_wholes 24 f_27] H := ⟨hP, hD⟩
        obtain ⟨v_28, e_28⟩ : ∃ y : Int32, y = x55_l_3 + 1 := ⟨_, rfl⟩
        have t_28 : v_28.toInt = x55_l_3.toInt + 1 := kt_add e_28 b_5 (kr_c 1 1 rfl) rfl
        have b_28 : kr 1 23 v_28 := kr_add (x := x55_l_3) (y := 1) t_28 b_5 (kr_c 1 1 rfl) rfl
        refine lv_iinc (v := v_28) (lv' := [(3, .int v_28), (0, .ref h)]) hx hb dX7_vanish_161 hl (k := 0) rfl (by rw [e_28]; rfl) (by decide) rfl (fun ls hl => ?_)
        refine lv_goto (tgt := 55) hx hb dX7_vanish_164 (by decide) ?_
        exact ih_55 v_28 x55_f_h_0 f_21 f_24 f_9 f_12 f_15 f_18 f_27 _ _ _ (km_up hn_55 t_28 b_28 rfl) (kr_w b_28 rfl) (kr_w b_6 rfl) ⟨hP, hD⟩ hS (lv_sub hl [0, 1] rfl)
  refine lv_iload_n hx hb dX7_vanish_0 rfl (lv_at hl 1 rfl) ?_
  refine lv_if_lt (tgt := 12) hx hb dX7_vanish_1 (by decide) (fun c_29 => ?_) (fun c_29 => ?_)
  · have i_29 : p0.toInt < 0 := (ki_lt c_29)
    have b_30 : kr (-2147483648) (-1) p0 := kr_lt_l (kr_all p0) (kr_c 0 0 rfl) i_29 rfl
    subst hQQ
    exact kk_ret_v ((fun _ => 0), (fun i => [f_h_gaps, f_h_sharers, f_h_bits, f_h_value, f_h_cutter, f_h_putter, f_h_wholes].getD i (fun _ => 0)), (fun i => [].getD i (fun _ => 0)), (fun i => [n_h_size].getD i 0)) hx hb hr hlocks b_h_size (hP.sub [0, 1, 2, 3, 4, 5, 6, 7] rfl) (hD.sub [0, 1, 2, 3, 4, 5, 6, 7] (by decide +kernel) rfl) hS dX7_vanish_12 (Nat.le_of_ble_eq_true rfl) (Nat.le_of_ble_eq_true rfl)
  · have i_29 : 0 ≤ p0.toInt := (ki_nlt c_29)
    have b_31 : kr 0 2147483647 p0 := kr_le_r (kr_c 0 0 rfl) (kr_all p0) i_29 rfl
    refine lv_iload_n hx hb dX7_vanish_4 rfl (lv_at hl 1 rfl) ?_
    refine lv_aload_n hx hb dX7_vanish_5 rfl (lv_at hl 0 rfl) ?_
    refine va_get (D := D) (ci := 6) (v := .int n_h_size) (C := RX7) (T := TX7) (N := 8) hx hb hts u_X7 hown hE.1 hP 0 rfl rfl 0 (by decide) (hts _ w_157) (fun _ h9 => h9) rfl dX7_vanish_6 ?_
    refine lv_icmp_lt (tgt := 13) hx hb dX7_vanish_9 (by decide) (fun c_32 => ?_) (fun c_32 => ?_)
    · have i_32 : p0.toInt < n_h_size.toInt := (ki_lt c_32)
      have b_33 : kr 0 23 p0 := kr_lt_l b_31 b_h_size i_32 rfl
      have b_34 : kr 1 24 n_h_size := kr_lt_r b_31 b_h_size i_32 rfl
      refine lv_aload_n hx hb dX7_vanish_13 rfl (lv_at hl 0 rfl) ?_
      refine va_get (D := D) (ci := 6) (v := .ref h_gaps) (C := RX7) (T := TX7) (N := 8) hx hb hts u_X7 hown hE.1 hP 0 rfl rfl 5 (by decide) (hts _ w_177) (fun _ h9 => h9) rfl dX7_vanish_14 ?_
      refine lv_iload_n hx hb dX7_vanish_17 rfl (lv_at hl 1 rfl) ?_
      refine lv_iconst (v := 1) hx hb dX7_vanish_18 (by decide) ?_
      refine lv_iadd hx hb dX7_vanish_19 ?_
      refine lv_topi (fun v_35 e_35 => ?_)
      have t_35 : v_35.toInt = p0.toInt + 1 := kt_add e_35 b_33 (kr_c 1 1 rfl) rfl
      have b_35 : kr 1 24 v_35 := kr_add (x := p0) (y := 1) t_35 b_33 (kr_c 1 1 rfl) rfl
      refine lv_dup2_11 hx hb dX7_vanish_20 rfl rfl ?_
      refine va_iald hx hb hE.1 hP 1 1 rfl rfl (kr_in b_35 rfl) dX7_vanish_21 ?_
      refine lv_topi (fun v_36 e_36 => ?_)
      refine lv_aload_n hx hb dX7_vanish_22 rfl (lv_at hl 0 rfl) ?_
      refine va_get (D := D) (ci := 6) (v := .ref h_gaps) (C := RX7) (T := TX7) (N := 8) hx hb hts u_X7 hown hE.1 hP 0 rfl rfl 5 (by decide) (hts _ w_177) (fun _ h9 => h9) rfl dX7_vanish_23 ?_
      refine lv_iload_n hx hb dX7_vanish_26 rfl (lv_at hl 1 rfl) ?_
      refine va_iald hx hb hE.1 hP 1 1 rfl rfl (kr_in b_33 rfl) dX7_vanish_27 ?_
      refine lv_topi (fun v_37 e_37 => ?_)
      refine lv_aload_n hx hb dX7_vanish_28 rfl (lv_at hl 0 rfl) ?_
      refine va_get (D := D) (ci := 6) (v := .ref h_sharers) (C := RX7) (T := TX7) (N := 8) hx hb hts u_X7 hown hE.1 hP 0 rfl rfl 6 (by decide) (hts _ w_180) (fun _ h9 => h9) rfl dX7_vanish_29 ?_
      refine lv_iload_n hx hb dX7_vanish_32 rfl (lv_at hl 1 rfl) ?_
      refine va_iald hx hb hE.1 hP 2 1 rfl rfl (kr_in b_33 rfl) dX7_vanish_33 ?_
      refine lv_topi (fun v_38 e_38 => ?_)
      refine lv_ior hx hb dX7_vanish_34 ?_
      refine lv_topi (fun v_39 e_39 => ?_)
      refine lv_iconst (v := 1) hx hb dX7_vanish_35 (by decide) ?_
      refine lv_iload_n hx hb dX7_vanish_36 rfl (lv_at hl 2 rfl) ?_
      refine lv_ishl hx hb dX7_vanish_37 ?_
      refine lv_topi (fun v_40 e_40 => ?_)
      refine lv_iconst (v := (-1)) hx hb dX7_vanish_38 (by decide) ?_
      refine lv_ixor hx hb dX7_vanish_39 ?_
      refine lv_topi (fun v_41 e_41 => ?_)
      refine lv_iand hx hb dX7_vanish_40 ?_
      refine lv_topi (fun v_42 e_42 => ?_)
      refine lv_ior hx hb dX7_vanish_41 ?_
      refine lv_topi (fun v_43 e_43 => ?_)
      refine va_iast hx hb hE.1 hP hD hS 1 1 rfl rfl (kr_in b_35 rfl) dX7_vanish_42 (fun H locs hP hD hS => ?_)
      obtain ⟨f_44, ef_44⟩ : ∃ z, z = (upd f_h_gaps (Int32.toNatClampNeg v_35) v_43) := ⟨_, rfl⟩
      rw [← ef_44] at hP hD
      obtain ⟨hP, hD⟩ : kPD D A [kO h 6 [.int n_h_size, .ref h_bits, .ref h_value, .ref h_cutter, .ref h_putter, .ref h_gaps, .ref h_sharers, .ref h_wholes], kI cI h_gaps 25 f_44, kI cI h_sharers 24 f_h_sharers, kI cI h_bits 24 f_h_bits, kI cI h_value 24 f_h_value, kI cI h_cutter 24 f_h_cutter, kI cI h_putter 24 f_h_putter, kI cI h_wholes 24 f_h_wholes] H := ⟨hP, hD⟩
      refine lv_aload_n hx hb dX7_vanish_43 rfl (lv_at hl 0 rfl) ?_
      refine lv_dup hx hb dX7_vanish_44 rfl ?_
      refine va_get (D := D) (ci := 6) (v := .int n_h_size) (C := RX7) (T := TX7) (N := 8) hx hb hts u_X7 hown hE.1 hP 0 rfl rfl 0 (by decide) (hts _ w_157) (fun _ h9 => h9) rfl dX7_vanish_45 ?_
      refine lv_iconst (v := 1) hx hb dX7_vanish_48 (by decide) ?_
      refine lv_isub hx hb dX7_vanish_49 ?_
      refine lv_topi (fun v_45 e_45 => ?_)
      have t_45 : v_45.toInt = n_h_size.toInt - 1 := kt_sub e_45 b_34 (kr_c 1 1 rfl) rfl
      have b_45 : kr 0 23 v_45 := kr_sub (x := n_h_size) (y := 1) t_45 b_34 (kr_c 1 1 rfl) rfl
      refine va_put (D := D) (ci := 6) (v := .int v_45) (ty := .int) (C := RX7) (T := TX7) (N := 8) hx hb hts u_X7 tyX7 tyX7_ok nmX7 hown hE.1 hP hD hS 0 rfl rfl 0 (by decide) (hts _ w_157) (fun _ h9 => h9) rfl (by decide +kernel) rfl rfl (Nat.le_of_ble_eq_true rfl) dX7_vanish_50 (fun H locs hP hD hS => ?_)
      obtain ⟨hP, hD⟩ : kPD D A [kO h 6 [.int v_45, .ref h_bits, .ref h_value, .ref h_cutter, .ref h_putter, .ref h_gaps, .ref h_sharers, .ref h_wholes], kI cI h_gaps 25 f_44, kI cI h_sharers 24 f_h_sharers, kI cI h_bits 24 f_h_bits, kI cI h_value 24 f_h_value, kI cI h_cutter 24 f_h_cutter, kI cI h_putter 24 f_h_putter, kI cI h_wholes 24 f_h_wholes] H := ⟨hP, hD⟩
      refine lv_iload_n hx hb dX7_vanish_53 rfl (lv_at hl 1 rfl) ?_
      refine lv_istore_n (lv' := [(3, .int p0), (0, .ref h), (1, .int p0), (2, .int p1)]) hx hb dX7_vanish_54 rfl hl (by decide) rfl (fun ls hl => ?_)
      exact J_55 _ p0 v_45 f_44 f_h_sharers f_h_bits f_h_value f_h_cutter f_h_putter f_h_wholes _ _ _ (Nat.lt_succ_self _) b_33 b_45 ⟨hP, hD⟩ hS (lv_sub hl [0, 1] rfl)
    · have i_32 : n_h_size.toInt ≤ p0.toInt := (ki_nlt c_32)
      subst hQQ
      exact kk_ret_v ((fun _ => 0), (fun i => [f_h_gaps, f_h_sharers, f_h_bits, f_h_value, f_h_cutter, f_h_putter, f_h_wholes].getD i (fun _ => 0)), (fun i => [].getD i (fun _ => 0)), (fun i => [n_h_size].getD i 0)) hx hb hr hlocks b_h_size (hP.sub [0, 1, 2, 3, 4, 5, 6, 7] rfl) (hD.sub [0, 1, 2, 3, 4, 5, 6, 7] (by decide +kernel) rfl) hS dX7_vanish_12 (Nat.le_of_ble_eq_true rfl) (Nat.le_of_ble_eq_true rfl)
