set_option maxHeartbeats 4000000 in
set_option maxRecDepth 100000 in
theorem c_X1_has (l : Launch) (D : va_G) (cB cI cJ cD : ClassId) (h : Nat) (h_state : Nat) (h_outcome : Nat) (h_deaths : Nat) (h_kind : Nat) (h_low : Nat) (h_high : Nat) (h_value : Nat) (h_need : Nat) (h_needKey : Nat) (h_line : Nat) (n_h_size : Int32) (n_h_lineLength : Int32) (p0 : Int32) (sz : Nat) (b_h_size : kr 0 5 n_h_size) (b_h_lineLength : kr 0 5 n_h_lineLength) : Met l yX1_has (kk_W yX1_has cX1_has 2 (some .boolean)) ({ frames := 0, cells := 0, slots := 0, locals := 0 }) (va_Pc [.ref h, .int p0] (kk_pre D cB cI cJ cD [kO h 1 [.int n_h_size, .ref h_state, .ref h_outcome, .ref h_deaths, .ref h_kind, .ref h_low, .ref h_high, .ref h_value, .ref h_need, .ref h_needKey, .ref h_line, .int n_h_lineLength]] sz)) (vp_Si (fun r => kr 0 1 r ∧ (¬ r = 0 → kr 0 4 p0))) 0 0 (fun _ => False) := by
  refine kk_pstart (y := yX1_has) (maxL := 2) (av := [.ref h, .int p0]) (by decide) (Nat.le_of_ble_eq_true rfl) ?_
  intro p e s m below meth c ls hx hb hr hml hown hts hE hlocks hsz hP hD hl
  have hown : s.vm.findClass RX1 = some m.cls := hown
  have hl : lv_has ls 2 [(0, .ref h), (1, .int p0)] := hl
  refine lv_iload_n hx hb dX1_has_0 rfl (lv_at hl 1 rfl) ?_
  refine lv_if_lt (tgt := 16) hx hb dX1_has_1 (by decide) (fun c_1 => ?_) (fun c_1 => ?_)
  · have i_1 : p0.toInt < 0 := (ki_lt c_1)
    have b_2 : kr (-2147483648) (-1) p0 := kr_lt_l (kr_all p0) (kr_c 0 0 rfl) i_1 rfl
    refine lv_iconst (v := 0) hx hb dX1_has_16 (by decide) ?_
    exact kk_pret_z hx hb hr hlocks (by decide) ⟨(kr_w (kr_c 0 0 rfl) rfl), (fun h9 => absurd rfl h9)⟩ dX1_has_17
  · have i_1 : 0 ≤ p0.toInt := (ki_nlt c_1)
    have b_3 : kr 0 2147483647 p0 := kr_le_r (kr_c 0 0 rfl) (kr_all p0) i_1 rfl
    refine lv_iload_n hx hb dX1_has_4 rfl (lv_at hl 1 rfl) ?_
    refine lv_aload_n hx hb dX1_has_5 rfl (lv_at hl 0 rfl) ?_
    refine va_get (D := D) (ci := 1) (v := .int n_h_size) (C := RX1) (T := TX1) (N := 12) hx hb hts u_X1 hown hE.1 hP 0 rfl rfl 0 (by decide) (hts _ w_312) (fun _ h9 => h9) rfl dX1_has_6 ?_
    refine lv_icmp_ge (tgt := 16) hx hb dX1_has_9 (by decide) (fun c_4 => ?_) (fun c_4 => ?_)
    · have i_4 : n_h_size.toInt ≤ p0.toInt := (ki_le c_4)
      refine lv_iconst (v := 0) hx hb dX1_has_16 (by decide) ?_
      exact kk_pret_z hx hb hr hlocks (by decide) ⟨(kr_w (kr_c 0 0 rfl) rfl), (fun h9 => absurd rfl h9)⟩ dX1_has_17
    · have i_4 : p0.toInt < n_h_size.toInt := (ki_nle c_4)
      have b_5 : kr 0 4 p0 := kr_lt_l b_3 b_h_size i_4 rfl
      have b_6 : kr 1 5 n_h_size := kr_lt_r b_3 b_h_size i_4 rfl
      refine lv_iconst (v := 1) hx hb dX1_has_12 (by decide) ?_
      refine lv_goto (tgt := 17) hx hb dX1_has_13 (by decide) ?_
      exact kk_pret_z hx hb hr hlocks (by decide) ⟨(kr_w (kr_c 1 1 rfl) rfl), (fun _ => b_5)⟩ dX1_has_17
set_option maxHeartbeats 4000000 in
set_option maxRecDepth 100000 in
theorem c_X1_mayDo (l : Launch) (D : va_G) (cB cI cJ cD : ClassId) (h : Nat) (h_state : Nat) (h_outcome : Nat) (h_deaths : Nat) (h_kind : Nat) (h_low : Nat) (h_high : Nat) (h_value : Nat) (h_need : Nat) (h_needKey : Nat) (h_line : Nat) (n_h_size : Int32) (n_h_lineLength : Int32) (f_h_state : Nat → Int32) (p0 : Int32) (p1 : Int32) (sz : Nat) (b_h_size : kr 0 5 n_h_size) (b_h_lineLength : kr 0 5 n_h_lineLength) : Met l yX1_mayDo (kk_W yX1_mayDo cX1_mayDo 3 (some .boolean)) ({ frames := 1, cells := 0, slots := 0, locals := 21 }) (va_Pc [.ref h, .int p0, .int p1] (kk_pre D cB cI cJ cD [kO h 1 [.int n_h_size, .ref h_state, .ref h_outcome, .ref h_deaths, .ref h_kind, .ref h_low, .ref h_high, .ref h_value, .ref h_need, .ref h_needKey, .ref h_line, .int n_h_lineLength], kI cI h_state 5 f_h_state] sz)) (vp_Si (fun r => kr 0 1 r ∧ (¬ r = 0 → kr 0 4 p0))) 0 0 (fun _ => False) := by
  refine kk_pstart (y := yX1_mayDo) (maxL := 3) (av := [.ref h, .int p0, .int p1]) (by decide) (Nat.le_of_ble_eq_true rfl) ?_
  intro p e s m below meth c ls hx hb hr hml hown hts hE hlocks hsz hP hD hl
  have hown : s.vm.findClass RX1 = some m.cls := hown
  have hl : lv_has ls 3 [(0, .ref h), (1, .int p0), (2, .int p1)] := hl
  refine lv_aload_n hx hb dX1_mayDo_0 rfl (lv_at hl 0 rfl) ?_
  refine lv_iload_n hx hb dX1_mayDo_1 rfl (lv_at hl 1 rfl) ?_
  refine kk_pi (kk_runV (w1 := [kO h 1 [.int n_h_size, .ref h_state, .ref h_outcome, .ref h_deaths, .ref h_kind, .ref h_low, .ref h_high, .ref h_value, .ref h_need, .ref h_needKey, .ref h_line, .int n_h_lineLength]]) (As := [.int p0]) (rest := []) hx hb hml hown hts hE (c_X1_has l D cB cI cJ cD h h_state h_outcome h_deaths h_kind h_low h_high h_value h_need h_needKey h_line n_h_size n_h_lineLength p0 s.heap.size b_h_size b_h_lineLength) m_X1_has w_771 ⟨rfl, rfl, Nat.le_of_ble_eq_true rfl, Nat.le_of_ble_eq_true rfl⟩ (hP.sub [0] rfl) (hD.sub [0] (by decide +kernel) rfl) 0 1 rfl rfl rfl hl.1 (Nat.le_of_ble_eq_true rfl) dX1_mayDo_2 ⟨Nat.le_of_ble_eq_true rfl, Nat.le_of_ble_eq_true rfl⟩) (fun r_1 p_1 => ?_)
  have b_1 : kr 0 1 r_1 := p_1.1
  refine lv_if_ne (tgt := 10) hx hb dX1_mayDo_5 (by decide) (fun c_2 => ?_) (fun c_2 => ?_)
  · have b_3 : kr 1 1 r_1 := kr_ne_lo b_1 c_2 rfl
    have b_4 : kr 0 4 p0 := p_1.2 c_2
    refine lv_iload_n hx hb dX1_mayDo_10 rfl (lv_at hl 2 rfl) ?_
    refine lv_if_ne (tgt := 29) hx hb dX1_mayDo_11 (by decide) (fun c_5 => ?_) (fun c_5 => ?_)
    · refine lv_iload_n hx hb dX1_mayDo_29 rfl (lv_at hl 2 rfl) ?_
      refine lv_bipush (v := 8) hx hb dX1_mayDo_30 (by decide) ?_
      refine lv_icmp_ne (tgt := 52) hx hb dX1_mayDo_32 (by decide) (fun c_6 => ?_) (fun c_6 => ?_)
      · refine lv_aload_n hx hb dX1_mayDo_52 rfl (lv_at hl 0 rfl) ?_
        refine va_get (D := D) (ci := 1) (v := .ref h_state) (C := RX1) (T := TX1) (N := 12) hx hb hts u_X1 hown hE.1 hP 0 rfl rfl 1 (by decide) (hts _ w_315) (fun _ h9 => h9) rfl dX1_mayDo_53 ?_
        refine lv_iload_n hx hb dX1_mayDo_56 rfl (lv_at hl 1 rfl) ?_
        refine va_iald hx hb hE.1 hP 1 1 rfl rfl (kr_in b_4 rfl) dX1_mayDo_57 ?_
        refine lv_topi (fun v_7 e_7 => ?_)
        refine lv_iconst (v := 1) hx hb dX1_mayDo_58 (by decide) ?_
        refine lv_icmp_ne (tgt := 66) hx hb dX1_mayDo_59 (by decide) (fun c_8 => ?_) (fun c_8 => ?_)
        · refine lv_iconst (v := 0) hx hb dX1_mayDo_66 (by decide) ?_
          exact kk_pret_z hx hb hr hlocks (by decide) ⟨(kr_w (kr_c 0 0 rfl) rfl), (fun h9 => absurd rfl h9)⟩ dX1_mayDo_67
        · have b_9 : kr 1 1 v_7 := kr_eq_l (kr_all v_7) (kr_c 1 1 rfl) c_8 rfl
          refine lv_iconst (v := 1) hx hb dX1_mayDo_62 (by decide) ?_
          refine lv_goto (tgt := 67) hx hb dX1_mayDo_63 (by decide) ?_
          exact kk_pret_z hx hb hr hlocks (by decide) ⟨(kr_w (kr_c 1 1 rfl) rfl), (fun _ => b_4)⟩ dX1_mayDo_67
      · have b_10 : kr 8 8 p1 := kr_eq_l (kr_all p1) (kr_c 8 8 rfl) c_6 rfl
        refine lv_aload_n hx hb dX1_mayDo_35 rfl (lv_at hl 0 rfl) ?_
        refine va_get (D := D) (ci := 1) (v := .ref h_state) (C := RX1) (T := TX1) (N := 12) hx hb hts u_X1 hown hE.1 hP 0 rfl rfl 1 (by decide) (hts _ w_315) (fun _ h9 => h9) rfl dX1_mayDo_36 ?_
        refine lv_iload_n hx hb dX1_mayDo_39 rfl (lv_at hl 1 rfl) ?_
        refine va_iald hx hb hE.1 hP 1 1 rfl rfl (kr_in b_4 rfl) dX1_mayDo_40 ?_
        refine lv_topi (fun v_11 e_11 => ?_)
        refine lv_if_eq (tgt := 48) hx hb dX1_mayDo_41 (by decide) (fun c_12 => ?_) (fun c_12 => ?_)
        · have b_13 : kr 0 0 v_11 := kr_eq_l (kr_all v_11) (kr_c 0 0 rfl) c_12 rfl
          refine lv_iconst (v := 0) hx hb dX1_mayDo_48 (by decide) ?_
          refine lv_goto (tgt := 67) hx hb dX1_mayDo_49 (by decide) ?_
          exact kk_pret_z hx hb hr hlocks (by decide) ⟨(kr_w (kr_c 0 0 rfl) rfl), (fun h9 => absurd rfl h9)⟩ dX1_mayDo_67
        · refine lv_iconst (v := 1) hx hb dX1_mayDo_44 (by decide) ?_
          refine lv_goto (tgt := 67) hx hb dX1_mayDo_45 (by decide) ?_
          exact kk_pret_z hx hb hr hlocks (by decide) ⟨(kr_w (kr_c 1 1 rfl) rfl), (fun _ => b_4)⟩ dX1_mayDo_67
    · have b_14 : kr 0 0 p1 := kr_eq_l (kr_all p1) (kr_c 0 0 rfl) c_5 rfl
      refine lv_aload_n hx hb dX1_mayDo_14 rfl (lv_at hl 0 rfl) ?_
      refine va_get (D := D) (ci := 1) (v := .ref h_state) (C := RX1) (T := TX1) (N := 12) hx hb hts u_X1 hown hE.1 hP 0 rfl rfl 1 (by decide) (hts _ w_315) (fun _ h9 => h9) rfl dX1_mayDo_15 ?_
      refine lv_iload_n hx hb dX1_mayDo_18 rfl (lv_at hl 1 rfl) ?_
      refine va_iald hx hb hE.1 hP 1 1 rfl rfl (kr_in b_4 rfl) dX1_mayDo_19 ?_
      refine lv_topi (fun v_15 e_15 => ?_)
      refine lv_if_ne (tgt := 27) hx hb dX1_mayDo_20 (by decide) (fun c_16 => ?_) (fun c_16 => ?_)
      · refine lv_iconst (v := 0) hx hb dX1_mayDo_27 (by decide) ?_
        exact kk_pret_z hx hb hr hlocks (by decide) ⟨(kr_w (kr_c 0 0 rfl) rfl), (fun h9 => absurd rfl h9)⟩ dX1_mayDo_28
      · have b_17 : kr 0 0 v_15 := kr_eq_l (kr_all v_15) (kr_c 0 0 rfl) c_16 rfl
        refine lv_iconst (v := 1) hx hb dX1_mayDo_23 (by decide) ?_
        refine lv_goto (tgt := 28) hx hb dX1_mayDo_24 (by decide) ?_
        exact kk_pret_z hx hb hr hlocks (by decide) ⟨(kr_w (kr_c 1 1 rfl) rfl), (fun _ => b_4)⟩ dX1_mayDo_28
  · have b_18 : kr 0 0 r_1 := kr_eq_l b_1 (kr_c 0 0 rfl) c_2 rfl
    refine lv_iconst (v := 0) hx hb dX1_mayDo_8 (by decide) ?_
    exact kk_pret_z hx hb hr hlocks (by decide) ⟨(kr_w (kr_c 0 0 rfl) rfl), (fun h9 => absurd rfl h9)⟩ dX1_mayDo_9
set_option maxHeartbeats 4000000 in
set_option maxRecDepth 100000 in
theorem c_X1_keepTask (l : Launch) (D : va_G) (cB cI cJ cD : ClassId) (h : Nat) (h_kind : Nat) (h_low : Nat) (h_high : Nat) (h_value : Nat) (h_state : Nat) (h_outcome : Nat) (h_deaths : Nat) (h_need : Nat) (h_needKey : Nat) (h_line : Nat) (n_h_size : Int32) (n_h_lineLength : Int32) (f_h_kind : Nat → Int32) (f_h_low : Nat → Int32) (f_h_high : Nat → Int32) (f_h_value : Nat → Int32) (p0 : Int32) (p1 : Int32) (p2 : Int32) (p3 : Int32) (p4 : Int32) (sz : Nat) (b_h_size : kr 0 5 n_h_size) (b_h_lineLength : kr 0 5 n_h_lineLength) (b_p0 : kr 0 4 p0) : Met l yX1_keepTask (kk_W yX1_keepTask cX1_keepTask 6 none) ({ frames := 0, cells := 0, slots := 0, locals := 0 }) (va_Pc [.ref h, .int p0, .int p1, .int p2, .int p3, .int p4] (kk_pre D cB cI cJ cD [kO h 1 [.int n_h_size, .ref h_state, .ref h_outcome, .ref h_deaths, .ref h_kind, .ref h_low, .ref h_high, .ref h_value, .ref h_need, .ref h_needKey, .ref h_line, .int n_h_lineLength], kI cI h_kind 5 f_h_kind, kI cI h_low 5 f_h_low, kI cI h_high 5 f_h_high, kI cI h_value 5 f_h_value] sz)) (kk_Qv D (fun (u : (Nat → Nat) × (Nat → Nat → Int32) × (Nat → Nat → Int64) × (Nat → Int32)) => True) (fun u => [kO h 1 [.int n_h_size, .ref h_state, .ref h_outcome, .ref h_deaths, .ref h_kind, .ref h_low, .ref h_high, .ref h_value, .ref h_need, .ref h_needKey, .ref h_line, .int n_h_lineLength], kI cI h_kind 5 (u.2.1 0), kI cI h_low 5 (u.2.1 1), kI cI h_high 5 (u.2.1 2), kI cI h_value 5 (u.2.1 3)]) (va_A [kO h 1 [.int n_h_size, .ref h_state, .ref h_outcome, .ref h_deaths, .ref h_kind, .ref h_low, .ref h_high, .ref h_value, .ref h_need, .ref h_needKey, .ref h_line, .int n_h_lineLength], kI cI h_kind 5 f_h_kind, kI cI h_low 5 f_h_low, kI cI h_high 5 f_h_high, kI cI h_value 5 f_h_value] sz)) 0 0 (va_A [kO h 1 [.int n_h_size, .ref h_state, .ref h_outcome, .ref h_deaths, .ref h_kind, .ref h_low, .ref h_high, .ref h_value, .ref h_need, .ref h_needKey, .ref h_line, .int n_h_lineLength], kI cI h_kind 5 f_h_kind, kI cI h_low 5 f_h_low, kI cI h_high 5 f_h_high, kI cI h_value 5 f_h_value] sz) := by
  refine kk_start (y := yX1_keepTask) (maxL := 6) (av := [.ref h, .int p0, .int p1, .int p2, .int p3, .int p4]) (Qc := fun A => kk_Qv D (fun (u : (Nat → Nat) × (Nat → Nat → Int32) × (Nat → Nat → Int64) × (Nat → Int32)) => True) (fun u => [kO h 1 [.int n_h_size, .ref h_state, .ref h_outcome, .ref h_deaths, .ref h_kind, .ref h_low, .ref h_high, .ref h_value, .ref h_need, .ref h_needKey, .ref h_line, .int n_h_lineLength], kI cI h_kind 5 (u.2.1 0), kI cI h_low 5 (u.2.1 1), kI cI h_high 5 (u.2.1 2), kI cI h_value 5 (u.2.1 3)]) A) (by decide) (Nat.le_of_ble_eq_true rfl) ?_
  intro p e s m below meth c ls A hx hb hr hml hown hts hE hlocks hin hsz hP hD hA hS hl
  have hown : s.vm.findClass RX1 = some m.cls := hown
  have hl : lv_has ls 6 [(0, .ref h), (1, .int p0), (2, .int p1), (3, .int p2), (4, .int p3), (5, .int p4)] := hl
  refine lv_aload_n hx hb dX1_keepTask_0 rfl (lv_at hl 0 rfl) ?_
  refine va_get (D := D) (ci := 1) (v := .ref h_kind) (C := RX1) (T := TX1) (N := 12) hx hb hts u_X1 hown hE.1 hP 0 rfl rfl 4 (by decide) (hts _ w_326) (fun _ h9 => h9) rfl dX1_keepTask_1 ?_
  refine lv_iload_n hx hb dX1_keepTask_4 rfl (lv_at hl 1 rfl) ?_
  refine lv_iload_n hx hb dX1_keepTask_5 rfl (lv_at hl 2 rfl) ?_
  refine va_iast hx hb hE.1 hP hD hS 1 1 rfl rfl (kr_in b_p0 rfl) dX1_keepTask_6 (fun H locs hP hD hS => ?_)
  obtain ⟨f_1, ef_1⟩ : ∃ z, z = (upd f_h_kind (Int32.toNatClampNeg p0) p1) := ⟨_, rfl⟩
  rw [← ef_1] at hP hD
  obtain ⟨hP, hD⟩ : kPD D A [kO h 1 [.int n_h_size, .ref h_state, .ref h_outcome, .ref h_deaths, .ref h_kind, .ref h_low, .ref h_high, .ref h_value, .ref h_need, .ref h_needKey, .ref h_line, .int n_h_lineLength], kI cI h_kind 5 f_1, kI cI h_low 5 f_h_low, kI cI h_high 5 f_h_high, kI cI h_value 5 f_h_value] H := ⟨hP, hD⟩
  refine lv_aload_n hx hb dX1_keepTask_7 rfl (lv_at hl 0 rfl) ?_
  refine va_get (D := D) (ci := 1) (v := .ref h_low) (C := RX1) (T := TX1) (N := 12) hx hb hts u_X1 hown hE.1 hP 0 rfl rfl 5 (by decide) (hts _ w_328) (fun _ h9 => h9) rfl dX1_keepTask_8 ?_
  refine lv_iload_n hx hb dX1_keepTask_11 rfl (lv_at hl 1 rfl) ?_
  refine lv_iload_n hx hb dX1_keepTask_12 rfl (lv_at hl 3 rfl) ?_
  refine va_iast hx hb hE.1 hP hD hS 2 1 rfl rfl (kr_in b_p0 rfl) dX1_keepTask_13 (fun H locs hP hD hS => ?_)
  obtain ⟨f_2, ef_2⟩ : ∃ z, z = (upd f_h_low (Int32.toNatClampNeg p0) p2) := ⟨_, rfl⟩
  rw [← ef_2] at hP hD
  obtain ⟨hP, hD⟩ : kPD D A [kO h 1 [.int n_h_size, .ref h_state, .ref h_outcome, .ref h_deaths, .ref h_kind, .ref h_low, .ref h_high, .ref h_value, .ref h_need, .ref h_needKey, .ref h_line, .int n_h_lineLength], kI cI h_kind 5 f_1, kI cI h_low 5 f_2, kI cI h_high 5 f_h_high, kI cI h_value 5 f_h_value] H := ⟨hP, hD⟩
  refine lv_aload_n hx hb dX1_keepTask_14 rfl (lv_at hl 0 rfl) ?_
  refine va_get (D := D) (ci := 1) (v := .ref h_high) (C := RX1) (T := TX1) (N := 12) hx hb hts u_X1 hown hE.1 hP 0 rfl rfl 6 (by decide) (hts _ w_330) (fun _ h9 => h9) rfl dX1_keepTask_15 ?_
  refine lv_iload_n hx hb dX1_keepTask_18 rfl (lv_at hl 1 rfl) ?_
  refine lv_iload hx hb dX1_keepTask_19 (lv_at hl 4 rfl) ?_
  refine va_iast hx hb hE.1 hP hD hS 3 1 rfl rfl (kr_in b_p0 rfl) dX1_keepTask_21 (fun H locs hP hD hS => ?_)
  obtain ⟨f_3, ef_3⟩ : ∃ z, z = (upd f_h_high (Int32.toNatClampNeg p0) p3) := ⟨_, rfl⟩
  rw [← ef_3] at hP hD
  obtain ⟨hP, hD⟩ : kPD D A [kO h 1 [.int n_h_size, .ref h_state, .ref h_outcome, .ref h_deaths, .ref h_kind, .ref h_low, .ref h_high, .ref h_value, .ref h_need, .ref h_needKey, .ref h_line, .int n_h_lineLength], kI cI h_kind 5 f_1, kI cI h_low 5 f_2, kI cI h_high 5 f_3, kI cI h_value 5 f_h_value] H := ⟨hP, hD⟩
  refine lv_aload_n hx hb dX1_keepTask_22 rfl (lv_at hl 0 rfl) ?_
  refine va_get (D := D) (ci := 1) (v := .ref h_value) (C := RX1) (T := TX1) (N := 12) hx hb hts u_X1 hown hE.1 hP 0 rfl rfl 7 (by decide) (hts _ w_332) (fun _ h9 => h9) rfl dX1_keepTask_23 ?_
  refine lv_iload_n hx hb dX1_keepTask_26 rfl (lv_at hl 1 rfl) ?_
  refine lv_iload hx hb dX1_keepTask_27 (lv_at hl 5 rfl) ?_
  refine va_iast hx hb hE.1 hP hD hS 4 1 rfl rfl (kr_in b_p0 rfl) dX1_keepTask_29 (fun H locs hP hD hS => ?_)
  obtain ⟨f_4, ef_4⟩ : ∃ z, z = (upd f_h_value (Int32.toNatClampNeg p0) p4) := ⟨_, rfl⟩
  rw [← ef_4] at hP hD
  obtain ⟨hP, hD⟩ : kPD D A [kO h 1 [.int n_h_size, .ref h_state, .ref h_outcome, .ref h_deaths, .ref h_kind, .ref h_low, .ref h_high, .ref h_value, .ref h_need, .ref h_needKey, .ref h_line, .int n_h_lineLength], kI cI h_kind 5 f_1, kI cI h_low 5 f_2, kI cI h_high 5 f_3, kI cI h_value 5 f_4] H := ⟨hP, hD⟩
  exact kk_ret_v ((fun _ => 0), (fun i => [f_1, f_2, f_3, f_4].getD i (fun _ => 0)), (fun i => [].getD i (fun _ => 0)), (fun i => [].getD i 0)) hx hb hr hlocks trivial (hP.sub [0, 1, 2, 3, 4] rfl) (hD.sub [0, 1, 2, 3, 4] (by decide +kernel) rfl) hS dX1_keepTask_30 (Nat.le_of_ble_eq_true rfl) (Nat.le_of_ble_eq_true rfl)
set_option maxHeartbeats 4000000 in
set_option maxRecDepth 100000 in
theorem c_X7_placeFrom (l : Launch) (D : va_G) (cB cI cJ cD : ClassId) (h : Nat) (h_bits : Nat) (h_value : Nat) (h_cutter : Nat) (h_putter : Nat) (h_gaps : Nat) (h_sharers : Nat) (h_wholes : Nat) (n_h_size : Int32) (f_h_bits : Nat → Int32) (p0 : Int32) (sz : Nat) (b_h_size : kr 0 24 n_h_size) : Met l yX7_placeFrom (kk_W yX7_placeFrom cX7_placeFrom 3 (some .int)) ({ frames := 0, cells := 0, slots := 0, locals := 0 }) (va_Pc [.ref h, .int p0] (kk_pre D cB cI cJ cD [kO h 6 [.int n_h_size, .ref h_bits, .ref h_value, .ref h_cutter, .ref h_putter, .ref h_gaps, .ref h_sharers, .ref h_wholes], kI cI h_bits 24 f_h_bits] sz)) (vp_Si (fun r => kr 0 24 r ∧ r.toInt ≤ n_h_size.toInt)) 0 0 (fun _ => False) := by
  refine kk_pstart (y := yX7_placeFrom) (maxL := 3) (av := [.ref h, .int p0]) (by decide) (Nat.le_of_ble_eq_true rfl) ?_
  intro p e s m below meth c ls hx hb hr hml hown hts hE hlocks hsz hP hD hl
  have hown : s.vm.findClass RX7 = some m.cls := hown
  have hl : lv_has ls 3 [(0, .ref h), (1, .int p0)] := hl
  generalize hQQ : MQ below _ _ s _ _ _ = QQ
  have J_2 : ∀ (n : Nat) (x2_l_2 : Int32) (ls : Array Slot), (24 - x2_l_2.toInt).toNat < n → kr 0 24 x2_l_2 → x2_l_2.toInt ≤ n_h_size.toInt → lv_has ls 3 [(2, .int x2_l_2), (0, .ref h), (1, .int p0)] → W p l e ({ frames := 0, cells := 0, slots := 0, locals := 0 }) s m ([.ref h, .int p0] : List Value).toArray below meth c s.heap [] 0 0 QQ (F0 m 2 ls []) := by
    intro n
    induction n with
    | zero =>
      intro x2_l_2 ls hn_2 bx2_l_2 r2_0 hl
      exact absurd hn_2 (Nat.not_lt_zero _)
    | succ n ih_2 =>
      intro x2_l_2 ls hn_2 bx2_l_2 r2_0 hl
      refine lv_iload_n hx hb dX7_placeFrom_2 rfl (lv_at hl 0 rfl) ?_
      refine lv_aload_n hx hb dX7_placeFrom_3 rfl (lv_at hl 1 rfl) ?_
      refine va_get (D := D) (ci := 6) (v := .int n_h_size) (C := RX7) (T := TX7) (N := 8) hx hb hts u_X7 hown hE.1 hP 0 rfl rfl 0 (by decide) (hts _ w_157) (fun _ h9 => h9) rfl dX7_placeFrom_4 ?_
      refine lv_icmp_ge (tgt := 26) hx hb dX7_placeFrom_7 (by decide) (fun c_1 => ?_) (fun c_1 => ?_)
      · have i_1 : n_h_size.toInt ≤ x2_l_2.toInt := (ki_le c_1)
        refine lv_iload_n hx hb dX7_placeFrom_26 rfl (lv_at hl 0 rfl) ?_
        subst hQQ
        exact kk_pret_i hx hb hr hlocks ⟨bx2_l_2, r2_0⟩ dX7_placeFrom_27
      · have i_1 : x2_l_2.toInt < n_h_size.toInt := (ki_nle c_1)
        have b_2 : kr 0 23 x2_l_2 := kr_lt_l bx2_l_2 b_h_size i_1 rfl
        have b_3 : kr 1 24 n_h_size := kr_lt_r bx2_l_2 b_h_size i_1 rfl
        refine lv_aload_n hx hb dX7_placeFrom_10 rfl (lv_at hl 1 rfl) ?_
        refine va_get (D := D) (ci := 6) (v := .ref h_bits) (C := RX7) (T := TX7) (N := 8) hx hb hts u_X7 hown hE.1 hP 0 rfl rfl 1 (by decide) (hts _ w_163) (fun _ h9 => h9) rfl dX7_placeFrom_11 ?_
        refine lv_iload_n hx hb dX7_placeFrom_14 rfl (lv_at hl 0 rfl) ?_
        refine va_iald hx hb hE.1 hP 1 1 rfl rfl (kr_in b_2 rfl) dX7_placeFrom_15 ?_
        refine lv_topi (fun v_4 e_4 => ?_)
        refine lv_iload_n hx hb dX7_placeFrom_16 rfl (lv_at hl 2 rfl) ?_
        refine lv_icmp_ge (tgt := 26) hx hb dX7_placeFrom_17 (by decide) (fun c_5 => ?_) (fun c_5 => ?_)
        · have i_5 : p0.toInt ≤ v_4.toInt := (ki_le c_5)
          refine lv_iload_n hx hb dX7_placeFrom_26 rfl (lv_at hl 0 rfl) ?_
          subst hQQ
          exact kk_pret_i hx hb hr hlocks ⟨(kr_w b_2 rfl), r2_0⟩ dX7_placeFrom_27
        · have i_5 : v_4.toInt < p0.toInt := (ki_nle c_5)
          have b_6 : kr (-2147483648) 2147483646 v_4 := kr_lt_l (kr_all v_4) (kr_all p0) i_5 rfl
          have b_7 : kr (-2147483647) 2147483647 p0 := kr_lt_r (kr_all v_4) (kr_all p0) i_5 rfl
          obtain ⟨v_8, e_8⟩ : ∃ y : Int32, y = x2_l_2 + 1 := ⟨_, rfl⟩
          have t_8 : v_8.toInt = x2_l_2.toInt + 1 := kt_add e_8 b_2 (kr_c 1 1 rfl) rfl
          have b_8 : kr 1 24 v_8 := kr_add (x := x2_l_2) (y := 1) t_8 b_2 (kr_c 1 1 rfl) rfl
          refine lv_iinc (v := v_8) (lv' := [(2, .int v_8), (0, .ref h), (1, .int p0)]) hx hb dX7_placeFrom_20 hl (k := 0) rfl (by rw [e_8]; rfl) (by decide) rfl (fun ls hl => ?_)
          refine lv_goto (tgt := 2) hx hb dX7_placeFrom_23 (by decide) ?_
          exact ih_2 v_8 _ (km_up hn_2 t_8 b_8 rfl) (kr_w b_8 rfl) (by show v_8.toInt ≤ n_h_size.toInt; have q0 := b_3.1; have q0' := b_3.2; have q1 := b_7.1; have q1' := b_7.2; have q2 := b_8.1; have q2' := b_8.2; omega) (lv_sub hl [0, 1, 2] rfl)
  refine lv_iconst (v := 0) hx hb dX7_placeFrom_0 (by decide) ?_
  refine lv_istore_n (lv' := [(2, .int 0), (0, .ref h), (1, .int p0)]) hx hb dX7_placeFrom_1 rfl hl (by decide) rfl (fun ls hl => ?_)
  exact J_2 _ 0 _ (Nat.lt_succ_self _) (kr_w (kr_c 0 0 rfl) rfl) (by show 0 ≤ n_h_size.toInt; have q0 := b_h_size.1; have q0' := b_h_size.2; omega) (lv_sub hl [0, 1, 2] rfl)
set_option maxHeartbeats 4000000 in
set_option maxRecDepth 100000 in
theorem c_X9_stoppedAt (l : Launch) (D : va_G) (cB cI cJ cD : ClassId) (h : Nat) (h_shelf : Nat) (h_crew : Nat) (h_diary : Nat) (n_h_gapless : Int32) (n_h_looseReads : Int32) (n_h_impatient : Int32) (n_h_need : Int32) (n_h_needKey : Int32) (p0 : Int32) (p1 : Int32) (sz : Nat) (b_h_gapless : kr 0 1 n_h_gapless) (b_h_looseReads : kr 0 1 n_h_looseReads) (b_h_impatient : kr 0 1 n_h_impatient) : Met l yX9_stoppedAt (kk_W yX9_stoppedAt cX9_stoppedAt 3 (some .int)) ({ frames := 0, cells := 0, slots := 0, locals := 0 }) (va_Pc [.ref h, .int p0, .int p1] (kk_pre D cB cI cJ cD [kO h 8 [.ref h_shelf, .ref h_crew, .ref h_diary, .int n_h_gapless, .int n_h_looseReads, .int n_h_impatient, .int n_h_need, .int n_h_needKey]] sz)) (kk_Qi D (fun (r : Int32) (u : (Nat → Nat) × (Nat → Nat → Int32) × (Nat → Nat → Int64) × (Nat → Int32)) => kr (-2) (-2) r) (fun u => [kO h 8 [.ref h_shelf, .ref h_crew, .ref h_diary, .int n_h_gapless, .int n_h_looseReads, .int n_h_impatient, .int (u.2.2.2 0), .int (u.2.2.2 1)]]) (va_A [kO h 8 [.ref h_shelf, .ref h_crew, .ref h_diary, .int n_h_gapless, .int n_h_looseReads, .int n_h_impatient, .int n_h_need, .int n_h_needKey]] sz)) 0 0 (va_A [kO h 8 [.ref h_shelf, .ref h_crew, .ref h_diary, .int n_h_gapless, .int n_h_looseReads, .int n_h_impatient, .int n_h_need, .int n_h_needKey]] sz) := by
  refine kk_start (y := yX9_stoppedAt) (maxL := 3) (av := [.ref h, .int p0, .int p1]) (Qc := fun A => kk_Qi D (fun (r : Int32) (u : (Nat → Nat) × (Nat → Nat → Int32) × (Nat → Nat → Int64) × (Nat → Int32)) => kr (-2) (-2) r) (fun u => [kO h 8 [.ref h_shelf, .ref h_crew, .ref h_diary, .int n_h_gapless, .int n_h_looseReads, .int n_h_impatient, .int (u.2.2.2 0), .int (u.2.2.2 1)]]) A) (by decide) (Nat.le_of_ble_eq_true rfl) ?_
  intro p e s m below meth c ls A hx hb hr hml hown hts hE hlocks hin hsz hP hD hA hS hl
  have hown : s.vm.findClass RX9 = some m.cls := hown
  have hl : lv_has ls 3 [(0, .ref h), (1, .int p0), (2, .int p1)] := hl
  refine lv_aload_n hx hb dX9_stoppedAt_0 rfl (lv_at hl 0 rfl) ?_
  refine lv_iload_n hx hb dX9_stoppedAt_1 rfl (lv_at hl 1 rfl) ?_
  refine va_put (D := D) (ci := 8) (v := .int p0) (ty := .int) (C := RX9) (T := TX9) (N := 8) hx hb hts u_X9 tyX9 tyX9_ok nmX9 hown hE.1 hP hD hS 0 rfl rfl 6 (by decide) (hts _ w_399) (fun _ h9 => h9) rfl (by decide +kernel) rfl rfl (Nat.le_of_ble_eq_true rfl) dX9_stoppedAt_2 (fun H locs hP hD hS => ?_)
  obtain ⟨hP, hD⟩ : kPD D A [kO h 8 [.ref h_shelf, .ref h_crew, .ref h_diary, .int n_h_gapless, .int n_h_looseReads, .int n_h_impatient, .int p0, .int n_h_needKey]] H := ⟨hP, hD⟩
  refine lv_aload_n hx hb dX9_stoppedAt_5 rfl (lv_at hl 0 rfl) ?_
  refine lv_iload_n hx hb dX9_stoppedAt_6 rfl (lv_at hl 2 rfl) ?_
  refine va_put (D := D) (ci := 8) (v := .int p1) (ty := .int) (C := RX9) (T := TX9) (N := 8) hx hb hts u_X9 tyX9 tyX9_ok nmX9 hown hE.1 hP hD hS 0 rfl rfl 7 (by decide) (hts _ w_400) (fun _ h9 => h9) rfl (by decide +kernel) rfl rfl (Nat.le_of_ble_eq_true rfl) dX9_stoppedAt_7 (fun H locs hP hD hS => ?_)
  obtain ⟨hP, hD⟩ : kPD D A [kO h 8 [.ref h_shelf, .ref h_crew, .ref h_diary, .int n_h_gapless, .int n_h_looseReads, .int n_h_impatient, .int p0, .int p1]] H := ⟨hP, hD⟩
  refine lv_bipush (v := (-2)) hx hb dX9_stoppedAt_10 (by decide) ?_
  exact kk_ret_i ((fun _ => 0), (fun i => [].getD i (fun _ => 0)), (fun i => [].getD i (fun _ => 0)), (fun i => [p0, p1].getD i 0)) hx hb hr hlocks (kr_w (kr_c (-2) (-2) rfl) rfl) (hP.sub [0] rfl) (hD.sub [0] (by decide +kernel) rfl) hS dX9_stoppedAt_12 (Nat.le_of_ble_eq_true rfl) (Nat.le_of_ble_eq_true rfl)
set_option maxHeartbeats 4000000 in
set_option maxRecDepth 100000 in
theorem c_X9_readThrough (l : Launch) (D : va_G) (cB cI cJ cD : ClassId) (h : Nat) (h_crew : Nat) (h_crew_low : Nat) (h_shelf : Nat) (h_shelf_bits : Nat) (h_crew_high : Nat) (h_shelf_gaps : Nat) (h_shelf_wholes : Nat) (h_shelf_sharers : Nat) (h_shelf_cutter : Nat) (h_shelf_value : Nat) (h_diary : Nat) (h_crew_state : Nat) (h_crew_outcome : Nat) (h_crew_deaths : Nat) (h_crew_kind : Nat) (h_crew_value : Nat) (h_crew_need : Nat) (h_crew_needKey : Nat) (h_crew_line : Nat) (h_shelf_putter : Nat) (n_h_gapless : Int32) (n_h_looseReads : Int32) (n_h_impatient : Int32) (n_h_need : Int32) (n_h_needKey : Int32) (n_h_crew_size : Int32) (n_h_crew_lineLength : Int32) (f_h_crew_low : Nat → Int32) (n_h_shelf_size : Int32) (f_h_shelf_bits : Nat → Int32) (f_h_crew_high : Nat → Int32) (f_h_shelf_gaps : Nat → Int32) (f_h_shelf_wholes : Nat → Int32) (f_h_shelf_sharers : Nat → Int32) (f_h_shelf_cutter : Nat → Int32) (f_h_shelf_value : Nat → Int32) (p0 : Int32) (sz : Nat) (b_h_gapless : kr 0 1 n_h_gapless) (b_h_looseReads : kr 0 1 n_h_looseReads) (b_h_impatient : kr 0 1 n_h_impatient) (b_h_crew_size : kr 0 5 n_h_crew_size) (b_h_crew_lineLength : kr 0 5 n_h_crew_lineLength) (b_h_shelf_size : kr 0 24 n_h_shelf_size) (b_p0 : kr 0 4 p0) : Met l yX9_readThrough (kk_W yX9_readThrough cX9_readThrough 5 (some .int)) ({ frames := 1, cells := 0, slots := 0, locals := 22 }) (va_Pc [.ref h, .int p0] (kk_pre D cB cI cJ cD [kO h 8 [.ref h_shelf, .ref h_crew, .ref h_diary, .int n_h_gapless, .int n_h_looseReads, .int n_h_impatient, .int n_h_need, .int n_h_needKey], kO h_crew 1 [.int n_h_crew_size, .ref h_crew_state, .ref h_crew_outcome, .ref h_crew_deaths, .ref h_crew_kind, .ref h_crew_low, .ref h_crew_high, .ref h_crew_value, .ref h_crew_need, .ref h_crew_needKey, .ref h_crew_line, .int n_h_crew_lineLength], kI cI h_crew_low 5 f_h_crew_low, kO h_shelf 6 [.int n_h_shelf_size, .ref h_shelf_bits, .ref h_shelf_value, .ref h_shelf_cutter, .ref h_shelf_putter, .ref h_shelf_gaps, .ref h_shelf_sharers, .ref h_shelf_wholes], kI cI h_shelf_bits 24 f_h_shelf_bits, kI cI h_crew_high 5 f_h_crew_high, kI cI h_shelf_gaps 25 f_h_shelf_gaps, kI cI h_shelf_wholes 24 f_h_shelf_wholes, kI cI h_shelf_sharers 24 f_h_shelf_sharers, kI cI h_shelf_cutter 24 f_h_shelf_cutter, kI cI h_shelf_value 24 f_h_shelf_value] sz)) (kk_Qi D (fun (r : Int32) (u : (Nat → Nat) × (Nat → Nat → Int32) × (Nat → Nat → Int64) × (Nat → Int32)) => True) (fun u => [kO h 8 [.ref h_shelf, .ref h_crew, .ref h_diary, .int n_h_gapless, .int n_h_looseReads, .int n_h_impatient, .int (u.2.2.2 0), .int (u.2.2.2 1)], kO h_crew 1 [.int n_h_crew_size, .ref h_crew_state, .ref h_crew_outcome, .ref h_crew_deaths, .ref h_crew_kind, .ref h_crew_low, .ref h_crew_high, .ref h_crew_value, .ref h_crew_need, .ref h_crew_needKey, .ref h_crew_line, .int n_h_crew_lineLength], kI cI h_crew_low 5 f_h_crew_low, kO h_shelf 6 [.int n_h_shelf_size, .ref h_shelf_bits, .ref h_shelf_value, .ref h_shelf_cutter, .ref h_shelf_putter, .ref h_shelf_gaps, .ref h_shelf_sharers, .ref h_shelf_wholes], kI cI h_shelf_bits 24 f_h_shelf_bits, kI cI h_crew_high 5 f_h_crew_high, kI cI h_shelf_gaps 25 (u.2.1 0), kI cI h_shelf_wholes 24 f_h_shelf_wholes, kI cI h_shelf_sharers 24 (u.2.1 1), kI cI h_shelf_cutter 24 f_h_shelf_cutter, kI cI h_shelf_value 24 f_h_shelf_value]) (va_A [kO h 8 [.ref h_shelf, .ref h_crew, .ref h_diary, .int n_h_gapless, .int n_h_looseReads, .int n_h_impatient, .int n_h_need, .int n_h_needKey], kO h_crew 1 [.int n_h_crew_size, .ref h_crew_state, .ref h_crew_outcome, .ref h_crew_deaths, .ref h_crew_kind, .ref h_crew_low, .ref h_crew_high, .ref h_crew_value, .ref h_crew_need, .ref h_crew_needKey, .ref h_crew_line, .int n_h_crew_lineLength], kI cI h_crew_low 5 f_h_crew_low, kO h_shelf 6 [.int n_h_shelf_size, .ref h_shelf_bits, .ref h_shelf_value, .ref h_shelf_cutter, .ref h_shelf_putter, .ref h_shelf_gaps, .ref h_shelf_sharers, .ref h_shelf_wholes], kI cI h_shelf_bits 24 f_h_shelf_bits, kI cI h_crew_high 5 f_h_crew_high, kI cI h_shelf_gaps 25 f_h_shelf_gaps, kI cI h_shelf_wholes 24 f_h_shelf_wholes, kI cI h_shelf_sharers 24 f_h_shelf_sharers, kI cI h_shelf_cutter 24 f_h_shelf_cutter, kI cI h_shelf_value 24 f_h_shelf_value] sz)) 0 0 (va_A [kO h 8 [.ref h_shelf, .ref h_crew, .ref h_diary, .int n_h_gapless, .int n_h_looseReads, .int n_h_impatient, .int n_h_need, .int n_h_needKey], kO h_crew 1 [.int n_h_crew_size, .ref h_crew_state, .ref h_crew_outcome, .ref h_crew_deaths, .ref h_crew_kind, .ref h_crew_low, .ref h_crew_high, .ref h_crew_value, .ref h_crew_need, .ref h_crew_needKey, .ref h_crew_line, .int n_h_crew_lineLength], kI cI h_crew_low 5 f_h_crew_low, kO h_shelf 6 [.int n_h_shelf_size, .ref h_shelf_bits, .ref h_shelf_value, .ref h_shelf_cutter, .ref h_shelf_putter, .ref h_shelf_gaps, .ref h_shelf_sharers, .ref h_shelf_wholes], kI cI h_shelf_bits 24 f_h_shelf_bits, kI cI h_crew_high 5 f_h_crew_high, kI cI h_shelf_gaps 25 f_h_shelf_gaps, kI cI h_shelf_wholes 24 f_h_shelf_wholes, kI cI h_shelf_sharers 24 f_h_shelf_sharers, kI cI h_shelf_cutter 24 f_h_shelf_cutter, kI cI h_shelf_value 24 f_h_shelf_value] sz) := by
  refine kk_start (y := yX9_readThrough) (maxL := 5) (av := [.ref h, .int p0]) (Qc := fun A => kk_Qi D (fun (r : Int32) (u : (Nat → Nat) × (Nat → Nat → Int32) × (Nat → Nat → Int64) × (Nat → Int32)) => True) (fun u => [kO h 8 [.ref h_shelf, .ref h_crew, .ref h_diary, .int n_h_gapless, .int n_h_looseReads, .int n_h_impatient, .int (u.2.2.2 0), .int (u.2.2.2 1)], kO h_crew 1 [.int n_h_crew_size, .ref h_crew_state, .ref h_crew_outcome, .ref h_crew_deaths, .ref h_crew_kind, .ref h_crew_low, .ref h_crew_high, .ref h_crew_value, .ref h_crew_need, .ref h_crew_needKey, .ref h_crew_line, .int n_h_crew_lineLength], kI cI h_crew_low 5 f_h_crew_low, kO h_shelf 6 [.int n_h_shelf_size, .ref h_shelf_bits, .ref h_shelf_value, .ref h_shelf_cutter, .ref h_shelf_putter, .ref h_shelf_gaps, .ref h_shelf_sharers, .ref h_shelf_wholes], kI cI h_shelf_bits 24 f_h_shelf_bits, kI cI h_crew_high 5 f_h_crew_high, kI cI h_shelf_gaps 25 (u.2.1 0), kI cI h_shelf_wholes 24 f_h_shelf_wholes, kI cI h_shelf_sharers 24 (u.2.1 1), kI cI h_shelf_cutter 24 f_h_shelf_cutter, kI cI h_shelf_value 24 f_h_shelf_value]) A) (by decide) (Nat.le_of_ble_eq_true rfl) ?_
  intro p e s m below meth c ls A hx hb hr hml hown hts hE hlocks hin hsz hP hD hA hS hl
  have hown : s.vm.findClass RX9 = some m.cls := hown
  have hl : lv_has ls 5 [(0, .ref h), (1, .int p0)] := hl
  generalize hQQ : MQ below _ _ s _ _ _ = QQ
  have J_163 : ∀ (x163_l_4 : Int32) (x163_l_3 : Int32) (x163_l_2 : Int32) (g163_h_shelf_gaps : Nat → Int32) (g163_h_shelf_sharers : Nat → Int32) (H : Heap) (locs : List Loc) (ls : Array Slot), kr 0 24 x163_l_4 → kPD D A [kO h 8 [.ref h_shelf, .ref h_crew, .ref h_diary, .int n_h_gapless, .int n_h_looseReads, .int n_h_impatient, .int n_h_need, .int n_h_needKey], kO h_crew 1 [.int n_h_crew_size, .ref h_crew_state, .ref h_crew_outcome, .ref h_crew_deaths, .ref h_crew_kind, .ref h_crew_low, .ref h_crew_high, .ref h_crew_value, .ref h_crew_need, .ref h_crew_needKey, .ref h_crew_line, .int n_h_crew_lineLength], kI cI h_crew_low 5 f_h_crew_low, kO h_shelf 6 [.int n_h_shelf_size, .ref h_shelf_bits, .ref h_shelf_value, .ref h_shelf_cutter, .ref h_shelf_putter, .ref h_shelf_gaps, .ref h_shelf_sharers, .ref h_shelf_wholes], kI cI h_shelf_bits 24 f_h_shelf_bits, kI cI h_crew_high 5 f_h_crew_high, kI cI h_shelf_gaps 25 g163_h_shelf_gaps, kI cI h_shelf_wholes 24 f_h_shelf_wholes, kI cI h_shelf_sharers 24 g163_h_shelf_sharers, kI cI h_shelf_cutter 24 f_h_shelf_cutter, kI cI h_shelf_value 24 f_h_shelf_value] H → va_S A s.heap H locs → lv_has ls 5 [(4, .int x163_l_4), (3, .int x163_l_3), (2, .int x163_l_2), (0, .ref h)] → W p l e ({ frames := 1, cells := 0, slots := 0, locals := 22 }) s m ([.ref h, .int p0] : List Value).toArray below meth c H locs 0 0 QQ (F0 m 163 ls []) := by
    intro x163_l_4 x163_l_3 x163_l_2 g163_h_shelf_gaps g163_h_shelf_sharers H locs ls bx163_l_4 hPD hS hl
    obtain ⟨hP, hD⟩ := hPD
    refine lv_aload_n hx hb dX9_readThrough_163 rfl (lv_at hl 3 rfl) ?_
    refine va_get (D := D) (ci := 8) (v := .int n_h_looseReads) (C := RX9) (T := TX9) (N := 8) hx hb hts u_X9 hown hE.1 hP 0 rfl rfl 4 (by decide) (hts _ w_395) (fun _ h9 => h9) rfl dX9_readThrough_164 ?_
    refine lv_if_ne (tgt := 184) hx hb dX9_readThrough_167 (by decide) (fun c_1 => ?_) (fun c_1 => ?_)
    · have b_2 : kr 1 1 n_h_looseReads := kr_ne_lo b_h_looseReads c_1 rfl
      refine lv_iload_n hx hb dX9_readThrough_184 rfl (lv_at hl 1 rfl) ?_
      subst hQQ
      exact kk_ret_i ((fun _ => 0), (fun i => [g163_h_shelf_gaps, g163_h_shelf_sharers].getD i (fun _ => 0)), (fun i => [].getD i (fun _ => 0)), (fun i => [n_h_need, n_h_needKey].getD i 0)) hx hb hr hlocks trivial (hP.sub [0, 1, 2, 3, 4, 5, 6, 7, 8, 9, 10] rfl) (hD.sub [0, 1, 2, 3, 4, 5, 6, 7, 8, 9, 10] (by decide +kernel) rfl) hS dX9_readThrough_185 (Nat.le_of_ble_eq_true rfl) (Nat.le_of_ble_eq_true rfl)
    · have b_3 : kr 0 0 n_h_looseReads := kr_eq_l b_h_looseReads (kr_c 0 0 rfl) c_1 rfl
      refine lv_aload_n hx hb dX9_readThrough_170 rfl (lv_at hl 3 rfl) ?_
      refine va_get (D := D) (ci := 8) (v := .ref h_shelf) (C := RX9) (T := TX9) (N := 8) hx hb hts u_X9 hown hE.1 hP 0 rfl rfl 0 (by decide) (hts _ w_384) (fun _ h9 => h9) rfl dX9_readThrough_171 ?_
      refine va_get (D := D) (ci := 6) (v := .ref h_shelf_gaps) (C := RX7) (T := TX7) (N := 8) hx hb hts u_X7 hown hE.1 hP 3 rfl rfl 5 (by decide) (hts _ w_178) (fun _ h9 => h9) rfl dX9_readThrough_174 ?_
      refine lv_iload hx hb dX9_readThrough_177 (lv_at hl 0 rfl) ?_
      refine lv_dup2_11 hx hb dX9_readThrough_179 rfl rfl ?_
      refine va_iald hx hb hE.1 hP 6 1 rfl rfl (kr_in bx163_l_4 rfl) dX9_readThrough_180 ?_
      refine lv_topi (fun v_4 e_4 => ?_)
      refine lv_iload_n hx hb dX9_readThrough_181 rfl (lv_at hl 2 rfl) ?_
      refine lv_ior hx hb dX9_readThrough_182 ?_
      refine lv_topi (fun v_5 e_5 => ?_)
      refine va_iast hx hb hE.1 hP hD hS 6 1 rfl rfl (kr_in bx163_l_4 rfl) dX9_readThrough_183 (fun H locs hP hD hS => ?_)
      obtain ⟨f_6, ef_6⟩ : ∃ z, z = (upd g163_h_shelf_gaps (Int32.toNatClampNeg x163_l_4) v_5) := ⟨_, rfl⟩
      rw [← ef_6] at hP hD
      obtain ⟨hP, hD⟩ : kPD D A [kO h 8 [.ref h_shelf, .ref h_crew, .ref h_diary, .int n_h_gapless, .int n_h_looseReads, .int n_h_impatient, .int n_h_need, .int n_h_needKey], kO h_crew 1 [.int n_h_crew_size, .ref h_crew_state, .ref h_crew_outcome, .ref h_crew_deaths, .ref h_crew_kind, .ref h_crew_low, .ref h_crew_high, .ref h_crew_value, .ref h_crew_need, .ref h_crew_needKey, .ref h_crew_line, .int n_h_crew_lineLength], kI cI h_crew_low 5 f_h_crew_low, kO h_shelf 6 [.int n_h_shelf_size, .ref h_shelf_bits, .ref h_shelf_value, .ref h_shelf_cutter, .ref h_shelf_putter, .ref h_shelf_gaps, .ref h_shelf_sharers, .ref h_shelf_wholes], kI cI h_shelf_bits 24 f_h_shelf_bits, kI cI h_crew_high 5 f_h_crew_high, kI cI h_shelf_gaps 25 f_6, kI cI h_shelf_wholes 24 f_h_shelf_wholes, kI cI h_shelf_sharers 24 g163_h_shelf_sharers, kI cI h_shelf_cutter 24 f_h_shelf_cutter, kI cI h_shelf_value 24 f_h_shelf_value] H := ⟨hP, hD⟩
      refine lv_iload_n hx hb dX9_readThrough_184 rfl (lv_at hl 1 rfl) ?_
      subst hQQ
      exact kk_ret_i ((fun _ => 0), (fun i => [f_6, g163_h_shelf_sharers].getD i (fun _ => 0)), (fun i => [].getD i (fun _ => 0)), (fun i => [n_h_need, n_h_needKey].getD i 0)) hx hb hr hlocks trivial (hP.sub [0, 1, 2, 3, 4, 5, 6, 7, 8, 9, 10] rfl) (hD.sub [0, 1, 2, 3, 4, 5, 6, 7, 8, 9, 10] (by decide +kernel) rfl) hS dX9_readThrough_185 (Nat.le_of_ble_eq_true rfl) (Nat.le_of_ble_eq_true rfl)
  have J_24 : ∀ (n : Nat) (x24_l_4 : Int32) (x24_l_3 : Int32) (x24_l_2 : Int32) (g24_h_shelf_gaps : Nat → Int32) (g24_h_shelf_sharers : Nat → Int32) (H : Heap) (locs : List Loc) (ls : Array Slot), (24 - x24_l_4.toInt).toNat < n → kr 0 24 x24_l_4 → kPD D A [kO h 8 [.ref h_shelf, .ref h_crew, .ref h_diary, .int n_h_gapless, .int n_h_looseReads, .int n_h_impatient, .int n_h_need, .int n_h_needKey], kO h_crew 1 [.int n_h_crew_size, .ref h_crew_state, .ref h_crew_outcome, .ref h_crew_deaths, .ref h_crew_kind, .ref h_crew_low, .ref h_crew_high, .ref h_crew_value, .ref h_crew_need, .ref h_crew_needKey, .ref h_crew_line, .int n_h_crew_lineLength], kI cI h_crew_low 5 f_h_crew_low, kO h_shelf 6 [.int n_h_shelf_size, .ref h_shelf_bits, .ref h_shelf_value, .ref h_shelf_cutter, .ref h_shelf_putter, .ref h_shelf_gaps, .ref h_shelf_sharers, .ref h_shelf_wholes], kI cI h_shelf_bits 24 f_h_shelf_bits, kI cI h_crew_high 5 f_h_crew_high, kI cI h_shelf_gaps 25 g24_h_shelf_gaps, kI cI h_shelf_wholes 24 f_h_shelf_wholes, kI cI h_shelf_sharers 24 g24_h_shelf_sharers, kI cI h_shelf_cutter 24 f_h_shelf_cutter, kI cI h_shelf_value 24 f_h_shelf_value] H → va_S A s.heap H locs → lv_has ls 5 [(4, .int x24_l_4), (3, .int x24_l_3), (2, .int x24_l_2), (0, .ref h), (1, .int p0)] → W p l e ({ frames := 1, cells := 0, slots := 0, locals := 22 }) s m ([.ref h, .int p0] : List Value).toArray below meth c H locs 0 0 QQ (F0 m 24 ls []) := by
    intro n
    induction n with
    | zero =>
      intro x24_l_4 x24_l_3 x24_l_2 g24_h_shelf_gaps g24_h_shelf_sharers H locs ls hn_24 bx24_l_4 hPD hS hl
      exact absurd hn_24 (Nat.not_lt_zero _)
    | succ n ih_24 =>
      intro x24_l_4 x24_l_3 x24_l_2 g24_h_shelf_gaps g24_h_shelf_sharers H locs ls hn_24 bx24_l_4 hPD hS hl
      obtain ⟨hP, hD⟩ := hPD
      have J_155 : ∀ (x155_s_1 : Int32) (g155_h_shelf_gaps : Nat → Int32) (g155_h_shelf_sharers : Nat → Int32) (H : Heap) (locs : List Loc) (ls : Array Slot), kr 0 23 x24_l_4 → kr 1 24 n_h_shelf_size → kPD D A [kO h 8 [.ref h_shelf, .ref h_crew, .ref h_diary, .int n_h_gapless, .int n_h_looseReads, .int n_h_impatient, .int n_h_need, .int n_h_needKey], kO h_crew 1 [.int n_h_crew_size, .ref h_crew_state, .ref h_crew_outcome, .ref h_crew_deaths, .ref h_crew_kind, .ref h_crew_low, .ref h_crew_high, .ref h_crew_value, .ref h_crew_need, .ref h_crew_needKey, .ref h_crew_line, .int n_h_crew_lineLength], kI cI h_crew_low 5 f_h_crew_low, kO h_shelf 6 [.int n_h_shelf_size, .ref h_shelf_bits, .ref h_shelf_value, .ref h_shelf_cutter, .ref h_shelf_putter, .ref h_shelf_gaps, .ref h_shelf_sharers, .ref h_shelf_wholes], kI cI h_shelf_bits 24 f_h_shelf_bits, kI cI h_crew_high 5 f_h_crew_high, kI cI h_shelf_gaps 25 g155_h_shelf_gaps, kI cI h_shelf_wholes 24 f_h_shelf_wholes, kI cI h_shelf_sharers 24 g155_h_shelf_sharers, kI cI h_shelf_cutter 24 f_h_shelf_cutter, kI cI h_shelf_value 24 f_h_shelf_value] H → va_S A s.heap H locs → lv_has ls 5 [(4, .int x24_l_4), (2, .int x24_l_2), (0, .ref h), (1, .int p0)] → W p l e ({ frames := 1, cells := 0, slots := 0, locals := 22 }) s m ([.ref h, .int p0] : List Value).toArray below meth c H locs 0 0 QQ (F0 m 155 ls [.int x155_s_1, .int x24_l_3]) := by
        intro x155_s_1 g155_h_shelf_gaps g155_h_shelf_sharers H locs ls c155_x24_l_4 c155_n_h_shelf_size hPD hS hl
        obtain ⟨hP, hD⟩ := hPD
        refine lv_iadd hx hb dX9_readThrough_155 ?_
        refine lv_topi (fun v_7 e_7 => ?_)
        refine lv_istore_n (lv' := [(3, .int v_7), (4, .int x24_l_4), (2, .int x24_l_2), (0, .ref h), (1, .int p0)]) hx hb dX9_readThrough_156 rfl hl (by decide) rfl (fun ls hl => ?_)
        obtain ⟨v_8, e_8⟩ : ∃ y : Int32, y = x24_l_4 + 1 := ⟨_, rfl⟩
        have t_8 : v_8.toInt = x24_l_4.toInt + 1 := kt_add e_8 c155_x24_l_4 (kr_c 1 1 rfl) rfl
        have b_8 : kr 1 24 v_8 := kr_add (x := x24_l_4) (y := 1) t_8 c155_x24_l_4 (kr_c 1 1 rfl) rfl
        refine lv_iinc (v := v_8) (lv' := [(4, .int v_8), (3, .int v_7), (2, .int x24_l_2), (0, .ref h), (1, .int p0)]) hx hb dX9_readThrough_157 hl (k := 1) rfl (by rw [e_8]; rfl) (by decide) rfl (fun ls hl => ?_)
        refine lv_goto (tgt := 24) hx hb dX9_readThrough_160 (by decide) ?_
        exact ih_24 v_8 v_7 x24_l_2 g155_h_shelf_gaps g155_h_shelf_sharers _ _ _ (km_up hn_24 t_8 b_8 rfl) (kr_w b_8 rfl) ⟨hP, hD⟩ hS (lv_sub hl [0, 1, 2, 3, 4] rfl)
      have J_126 : ∀ (g126_h_shelf_gaps : Nat → Int32) (g126_h_shelf_sharers : Nat → Int32) (H : Heap) (locs : List Loc) (ls : Array Slot), kr 0 23 x24_l_4 → kr 1 24 n_h_shelf_size → kPD D A [kO h 8 [.ref h_shelf, .ref h_crew, .ref h_diary, .int n_h_gapless, .int n_h_looseReads, .int n_h_impatient, .int n_h_need, .int n_h_needKey], kO h_crew 1 [.int n_h_crew_size, .ref h_crew_state, .ref h_crew_outcome, .ref h_crew_deaths, .ref h_crew_kind, .ref h_crew_low, .ref h_crew_high, .ref h_crew_value, .ref h_crew_need, .ref h_crew_needKey, .ref h_crew_line, .int n_h_crew_lineLength], kI cI h_crew_low 5 f_h_crew_low, kO h_shelf 6 [.int n_h_shelf_size, .ref h_shelf_bits, .ref h_shelf_value, .ref h_shelf_cutter, .ref h_shelf_putter, .ref h_shelf_gaps, .ref h_shelf_sharers, .ref h_shelf_wholes], kI cI h_shelf_bits 24 f_h_shelf_bits, kI cI h_crew_high 5 f_h_crew_high, kI cI h_shelf_gaps 25 g126_h_shelf_gaps, kI cI h_shelf_wholes 24 f_h_shelf_wholes, kI cI h_shelf_sharers 24 g126_h_shelf_sharers, kI cI h_shelf_cutter 24 f_h_shelf_cutter, kI cI h_shelf_value 24 f_h_shelf_value] H → va_S A s.heap H locs → lv_has ls 5 [(4, .int x24_l_4), (3, .int x24_l_3), (2, .int x24_l_2), (0, .ref h), (1, .int p0)] → W p l e ({ frames := 1, cells := 0, slots := 0, locals := 22 }) s m ([.ref h, .int p0] : List Value).toArray below meth c H locs 0 0 QQ (F0 m 126 ls []) := by
        intro g126_h_shelf_gaps g126_h_shelf_sharers H locs ls c126_x24_l_4 c126_n_h_shelf_size hPD hS hl
        obtain ⟨hP, hD⟩ := hPD
        refine lv_iload_n hx hb dX9_readThrough_126 rfl (lv_at hl 1 rfl) ?_
        refine lv_aload_n hx hb dX9_readThrough_127 rfl (lv_at hl 3 rfl) ?_
        refine va_get (D := D) (ci := 8) (v := .ref h_shelf) (C := RX9) (T := TX9) (N := 8) hx hb hts u_X9 hown hE.1 hP 0 rfl rfl 0 (by decide) (hts _ w_384) (fun _ h9 => h9) rfl dX9_readThrough_128 ?_
        refine va_get (D := D) (ci := 6) (v := .ref h_shelf_cutter) (C := RX7) (T := TX7) (N := 8) hx hb hts u_X7 hown hE.1 hP 3 rfl rfl 3 (by decide) (hts _ w_173) (fun _ h9 => h9) rfl dX9_readThrough_131 ?_
        refine lv_iload hx hb dX9_readThrough_134 (lv_at hl 0 rfl) ?_
        refine va_iald hx hb hE.1 hP 9 1 rfl rfl (kr_in c126_x24_l_4 rfl) dX9_readThrough_136 ?_
        refine lv_topi (fun v_9 e_9 => ?_)
        refine lv_iload_n hx hb dX9_readThrough_137 rfl (lv_at hl 4 rfl) ?_
        refine lv_icmp_ne (tgt := 145) hx hb dX9_readThrough_138 (by decide) (fun c_10 => ?_) (fun c_10 => ?_)
        · refine lv_aload_n hx hb dX9_readThrough_145 rfl (lv_at hl 3 rfl) ?_
          refine va_get (D := D) (ci := 8) (v := .ref h_shelf) (C := RX9) (T := TX9) (N := 8) hx hb hts u_X9 hown hE.1 hP 0 rfl rfl 0 (by decide) (hts _ w_384) (fun _ h9 => h9) rfl dX9_readThrough_146 ?_
          refine va_get (D := D) (ci := 6) (v := .ref h_shelf_value) (C := RX7) (T := TX7) (N := 8) hx hb hts u_X7 hown hE.1 hP 3 rfl rfl 2 (by decide) (hts _ w_169) (fun _ h9 => h9) rfl dX9_readThrough_149 ?_
          refine lv_iload hx hb dX9_readThrough_152 (lv_at hl 0 rfl) ?_
          refine va_iald hx hb hE.1 hP 10 1 rfl rfl (kr_in c126_x24_l_4 rfl) dX9_readThrough_154 ?_
          refine lv_topi (fun v_11 e_11 => ?_)
          exact J_155 v_11 g126_h_shelf_gaps g126_h_shelf_sharers _ _ _ c126_x24_l_4 c126_n_h_shelf_size ⟨hP, hD⟩ hS (lv_sub hl [0, 2, 3, 4] rfl)
        · have b_12 : kr 0 4 v_9 := kr_eq_l (kr_all v_9) b_p0 c_10 rfl
          refine lv_iconst (v := 0) hx hb dX9_readThrough_141 (by decide) ?_
          refine lv_goto (tgt := 155) hx hb dX9_readThrough_142 (by decide) ?_
          exact J_155 0 g126_h_shelf_gaps g126_h_shelf_sharers _ _ _ c126_x24_l_4 c126_n_h_shelf_size ⟨hP, hD⟩ hS (lv_sub hl [0, 2, 3, 4] rfl)
      refine lv_iload hx hb dX9_readThrough_24 (lv_at hl 0 rfl) ?_
      refine lv_aload_n hx hb dX9_readThrough_26 rfl (lv_at hl 3 rfl) ?_
      refine va_get (D := D) (ci := 8) (v := .ref h_shelf) (C := RX9) (T := TX9) (N := 8) hx hb hts u_X9 hown hE.1 hP 0 rfl rfl 0 (by decide) (hts _ w_384) (fun _ h9 => h9) rfl dX9_readThrough_27 ?_
      refine va_get (D := D) (ci := 6) (v := .int n_h_shelf_size) (C := RX7) (T := TX7) (N := 8) hx hb hts u_X7 hown hE.1 hP 3 rfl rfl 0 (by decide) (hts _ w_160) (fun _ h9 => h9) rfl dX9_readThrough_30 ?_
      refine lv_icmp_ge (tgt := 163) hx hb dX9_readThrough_33 (by decide) (fun c_13 => ?_) (fun c_13 => ?_)
      · have i_13 : n_h_shelf_size.toInt ≤ x24_l_4.toInt := (ki_le c_13)
        exact J_163 x24_l_4 x24_l_3 x24_l_2 g24_h_shelf_gaps g24_h_shelf_sharers _ _ _ bx24_l_4 ⟨hP, hD⟩ hS (lv_sub hl [0, 1, 2, 3] rfl)
      · have i_13 : x24_l_4.toInt < n_h_shelf_size.toInt := (ki_nle c_13)
        have b_14 : kr 0 23 x24_l_4 := kr_lt_l bx24_l_4 b_h_shelf_size i_13 rfl
        have b_15 : kr 1 24 n_h_shelf_size := kr_lt_r bx24_l_4 b_h_shelf_size i_13 rfl
        refine lv_aload_n hx hb dX9_readThrough_36 rfl (lv_at hl 3 rfl) ?_
        refine va_get (D := D) (ci := 8) (v := .ref h_shelf) (C := RX9) (T := TX9) (N := 8) hx hb hts u_X9 hown hE.1 hP 0 rfl rfl 0 (by decide) (hts _ w_384) (fun _ h9 => h9) rfl dX9_readThrough_37 ?_
        refine va_get (D := D) (ci := 6) (v := .ref h_shelf_bits) (C := RX7) (T := TX7) (N := 8) hx hb hts u_X7 hown hE.1 hP 3 rfl rfl 1 (by decide) (hts _ w_165) (fun _ h9 => h9) rfl dX9_readThrough_40 ?_
        refine lv_iload hx hb dX9_readThrough_43 (lv_at hl 0 rfl) ?_
        refine va_iald hx hb hE.1 hP 4 1 rfl rfl (kr_in b_14 rfl) dX9_readThrough_45 ?_
        refine lv_topi (fun v_16 e_16 => ?_)
        refine lv_aload_n hx hb dX9_readThrough_46 rfl (lv_at hl 3 rfl) ?_
        refine va_get (D := D) (ci := 8) (v := .ref h_crew) (C := RX9) (T := TX9) (N := 8) hx hb hts u_X9 hown hE.1 hP 0 rfl rfl 1 (by decide) (hts _ w_387) (fun _ h9 => h9) rfl dX9_readThrough_47 ?_
        refine va_get (D := D) (ci := 1) (v := .ref h_crew_high) (C := RX1) (T := TX1) (N := 12) hx hb hts u_X1 hown hE.1 hP 1 rfl rfl 6 (by decide) (hts _ w_331) (fun _ h9 => h9) rfl dX9_readThrough_50 ?_
        refine lv_iload_n hx hb dX9_readThrough_53 rfl (lv_at hl 4 rfl) ?_
        refine va_iald hx hb hE.1 hP 5 1 rfl rfl (kr_in b_p0 rfl) dX9_readThrough_54 ?_
        refine lv_topi (fun v_17 e_17 => ?_)
        refine lv_icmp_gt (tgt := 163) hx hb dX9_readThrough_55 (by decide) (fun c_18 => ?_) (fun c_18 => ?_)
        · have i_18 : v_17.toInt < v_16.toInt := (ki_lt c_18)
          have b_19 : kr (-2147483648) 2147483646 v_17 := kr_lt_l (kr_all v_17) (kr_all v_16) i_18 rfl
          have b_20 : kr (-2147483647) 2147483647 v_16 := kr_lt_r (kr_all v_17) (kr_all v_16) i_18 rfl
          exact J_163 x24_l_4 x24_l_3 x24_l_2 g24_h_shelf_gaps g24_h_shelf_sharers _ _ _ (kr_w b_14 rfl) ⟨hP, hD⟩ hS (lv_sub hl [0, 1, 2, 3] rfl)
        · have i_18 : v_16.toInt ≤ v_17.toInt := (ki_nlt c_18)
          refine lv_aload_n hx hb dX9_readThrough_58 rfl (lv_at hl 3 rfl) ?_
          refine va_get (D := D) (ci := 8) (v := .int n_h_looseReads) (C := RX9) (T := TX9) (N := 8) hx hb hts u_X9 hown hE.1 hP 0 rfl rfl 4 (by decide) (hts _ w_395) (fun _ h9 => h9) rfl dX9_readThrough_59 ?_
          refine lv_if_ne (tgt := 126) hx hb dX9_readThrough_62 (by decide) (fun c_21 => ?_) (fun c_21 => ?_)
          · have b_22 : kr 1 1 n_h_looseReads := kr_ne_lo b_h_looseReads c_21 rfl
            exact J_126 g24_h_shelf_gaps g24_h_shelf_sharers _ _ _ b_14 b_15 ⟨hP, hD⟩ hS (lv_sub hl [0, 1, 2, 3, 4] rfl)
          · have b_23 : kr 0 0 n_h_looseReads := kr_eq_l b_h_looseReads (kr_c 0 0 rfl) c_21 rfl
            refine lv_aload_n hx hb dX9_readThrough_65 rfl (lv_at hl 3 rfl) ?_
            refine va_get (D := D) (ci := 8) (v := .ref h_shelf) (C := RX9) (T := TX9) (N := 8) hx hb hts u_X9 hown hE.1 hP 0 rfl rfl 0 (by decide) (hts _ w_384) (fun _ h9 => h9) rfl dX9_readThrough_66 ?_
            refine va_get (D := D) (ci := 6) (v := .ref h_shelf_gaps) (C := RX7) (T := TX7) (N := 8) hx hb hts u_X7 hown hE.1 hP 3 rfl rfl 5 (by decide) (hts _ w_178) (fun _ h9 => h9) rfl dX9_readThrough_69 ?_
            refine lv_iload hx hb dX9_readThrough_72 (lv_at hl 0 rfl) ?_
            refine lv_dup2_11 hx hb dX9_readThrough_74 rfl rfl ?_
            refine va_iald hx hb hE.1 hP 6 1 rfl rfl (kr_in b_14 rfl) dX9_readThrough_75 ?_
            refine lv_topi (fun v_24 e_24 => ?_)
            refine lv_iload_n hx hb dX9_readThrough_76 rfl (lv_at hl 2 rfl) ?_
            refine lv_ior hx hb dX9_readThrough_77 ?_
            refine lv_topi (fun v_25 e_25 => ?_)
            refine va_iast hx hb hE.1 hP hD hS 6 1 rfl rfl (kr_in b_14 rfl) dX9_readThrough_78 (fun H locs hP hD hS => ?_)
            obtain ⟨f_26, ef_26⟩ : ∃ z, z = (upd g24_h_shelf_gaps (Int32.toNatClampNeg x24_l_4) v_25) := ⟨_, rfl⟩
            rw [← ef_26] at hP hD
            obtain ⟨hP, hD⟩ : kPD D A [kO h 8 [.ref h_shelf, .ref h_crew, .ref h_diary, .int n_h_gapless, .int n_h_looseReads, .int n_h_impatient, .int n_h_need, .int n_h_needKey], kO h_crew 1 [.int n_h_crew_size, .ref h_crew_state, .ref h_crew_outcome, .ref h_crew_deaths, .ref h_crew_kind, .ref h_crew_low, .ref h_crew_high, .ref h_crew_value, .ref h_crew_need, .ref h_crew_needKey, .ref h_crew_line, .int n_h_crew_lineLength], kI cI h_crew_low 5 f_h_crew_low, kO h_shelf 6 [.int n_h_shelf_size, .ref h_shelf_bits, .ref h_shelf_value, .ref h_shelf_cutter, .ref h_shelf_putter, .ref h_shelf_gaps, .ref h_shelf_sharers, .ref h_shelf_wholes], kI cI h_shelf_bits 24 f_h_shelf_bits, kI cI h_crew_high 5 f_h_crew_high, kI cI h_shelf_gaps 25 f_26, kI cI h_shelf_wholes 24 f_h_shelf_wholes, kI cI h_shelf_sharers 24 g24_h_shelf_sharers, kI cI h_shelf_cutter 24 f_h_shelf_cutter, kI cI h_shelf_value 24 f_h_shelf_value] H := ⟨hP, hD⟩
            refine lv_aload_n hx hb dX9_readThrough_79 rfl (lv_at hl 3 rfl) ?_
            refine va_get (D := D) (ci := 8) (v := .ref h_shelf) (C := RX9) (T := TX9) (N := 8) hx hb hts u_X9 hown hE.1 hP 0 rfl rfl 0 (by decide) (hts _ w_384) (fun _ h9 => h9) rfl dX9_readThrough_80 ?_
            refine va_get (D := D) (ci := 6) (v := .ref h_shelf_wholes) (C := RX7) (T := TX7) (N := 8) hx hb hts u_X7 hown hE.1 hP 3 rfl rfl 7 (by decide) (hts _ w_183) (fun _ h9 => h9) rfl dX9_readThrough_83 ?_
            refine lv_iload hx hb dX9_readThrough_86 (lv_at hl 0 rfl) ?_
            refine va_iald hx hb hE.1 hP 7 1 rfl rfl (kr_in b_14 rfl) dX9_readThrough_88 ?_
            refine lv_topi (fun v_27 e_27 => ?_)
            refine lv_iload_n hx hb dX9_readThrough_89 rfl (lv_at hl 2 rfl) ?_
            refine lv_iconst (v := (-1)) hx hb dX9_readThrough_90 (by decide) ?_
            refine lv_ixor hx hb dX9_readThrough_91 ?_
            refine lv_topi (fun v_28 e_28 => ?_)
            refine lv_iand hx hb dX9_readThrough_92 ?_
            refine lv_topi (fun v_29 e_29 => ?_)
            refine lv_if_eq (tgt := 112) hx hb dX9_readThrough_93 (by decide) (fun c_30 => ?_) (fun c_30 => ?_)
            · have b_31 : kr 0 0 v_29 := kr_eq_l (kr_all v_29) (kr_c 0 0 rfl) c_30 rfl
              refine lv_aload_n hx hb dX9_readThrough_112 rfl (lv_at hl 3 rfl) ?_
              refine va_get (D := D) (ci := 8) (v := .ref h_shelf) (C := RX9) (T := TX9) (N := 8) hx hb hts u_X9 hown hE.1 hP 0 rfl rfl 0 (by decide) (hts _ w_384) (fun _ h9 => h9) rfl dX9_readThrough_113 ?_
              refine va_get (D := D) (ci := 6) (v := .ref h_shelf_sharers) (C := RX7) (T := TX7) (N := 8) hx hb hts u_X7 hown hE.1 hP 3 rfl rfl 6 (by decide) (hts _ w_181) (fun _ h9 => h9) rfl dX9_readThrough_116 ?_
              refine lv_iload hx hb dX9_readThrough_119 (lv_at hl 0 rfl) ?_
              refine lv_dup2_11 hx hb dX9_readThrough_121 rfl rfl ?_
              refine va_iald hx hb hE.1 hP 8 1 rfl rfl (kr_in b_14 rfl) dX9_readThrough_122 ?_
              refine lv_topi (fun v_32 e_32 => ?_)
              refine lv_iload_n hx hb dX9_readThrough_123 rfl (lv_at hl 2 rfl) ?_
              refine lv_ior hx hb dX9_readThrough_124 ?_
              refine lv_topi (fun v_33 e_33 => ?_)
              refine va_iast hx hb hE.1 hP hD hS 8 1 rfl rfl (kr_in b_14 rfl) dX9_readThrough_125 (fun H locs hP hD hS => ?_)
              obtain ⟨f_34, ef_34⟩ : ∃ z, z = (upd g24_h_shelf_sharers (Int32.toNatClampNeg x24_l_4) v_33) := ⟨_, rfl⟩
              rw [← ef_34] at hP hD
              obtain ⟨hP, hD⟩ : kPD D A [kO h 8 [.ref h_shelf, .ref h_crew, .ref h_diary, .int n_h_gapless, .int n_h_looseReads, .int n_h_impatient, .int n_h_need, .int n_h_needKey], kO h_crew 1 [.int n_h_crew_size, .ref h_crew_state, .ref h_crew_outcome, .ref h_crew_deaths, .ref h_crew_kind, .ref h_crew_low, .ref h_crew_high, .ref h_crew_value, .ref h_crew_need, .ref h_crew_needKey, .ref h_crew_line, .int n_h_crew_lineLength], kI cI h_crew_low 5 f_h_crew_low, kO h_shelf 6 [.int n_h_shelf_size, .ref h_shelf_bits, .ref h_shelf_value, .ref h_shelf_cutter, .ref h_shelf_putter, .ref h_shelf_gaps, .ref h_shelf_sharers, .ref h_shelf_wholes], kI cI h_shelf_bits 24 f_h_shelf_bits, kI cI h_crew_high 5 f_h_crew_high, kI cI h_shelf_gaps 25 f_26, kI cI h_shelf_wholes 24 f_h_shelf_wholes, kI cI h_shelf_sharers 24 f_34, kI cI h_shelf_cutter 24 f_h_shelf_cutter, kI cI h_shelf_value 24 f_h_shelf_value] H := ⟨hP, hD⟩
              exact J_126 f_26 f_34 _ _ _ b_14 b_15 ⟨hP, hD⟩ hS (lv_sub hl [0, 1, 2, 3, 4] rfl)
            · refine lv_aload_n hx hb dX9_readThrough_96 rfl (lv_at hl 3 rfl) ?_
              refine lv_iconst (v := 1) hx hb dX9_readThrough_97 (by decide) ?_
              refine lv_aload_n hx hb dX9_readThrough_98 rfl (lv_at hl 3 rfl) ?_
              refine va_get (D := D) (ci := 8) (v := .ref h_shelf) (C := RX9) (T := TX9) (N := 8) hx hb hts u_X9 hown hE.1 hP 0 rfl rfl 0 (by decide) (hts _ w_384) (fun _ h9 => h9) rfl dX9_readThrough_99 ?_
              refine va_get (D := D) (ci := 6) (v := .ref h_shelf_bits) (C := RX7) (T := TX7) (N := 8) hx hb hts u_X7 hown hE.1 hP 3 rfl rfl 1 (by decide) (hts _ w_165) (fun _ h9 => h9) rfl dX9_readThrough_102 ?_
              refine lv_iload hx hb dX9_readThrough_105 (lv_at hl 0 rfl) ?_
              refine va_iald hx hb hE.1 hP 4 1 rfl rfl (kr_in b_14 rfl) dX9_readThrough_107 ?_
              refine lv_topi (fun v_35 e_35 => ?_)
              refine kk_ci (wr := [kO h_crew 1 [.int n_h_crew_size, .ref h_crew_state, .ref h_crew_outcome, .ref h_crew_deaths, .ref h_crew_kind, .ref h_crew_low, .ref h_crew_high, .ref h_crew_value, .ref h_crew_need, .ref h_crew_needKey, .ref h_crew_line, .int n_h_crew_lineLength], kI cI h_crew_low 5 f_h_crew_low, kO h_shelf 6 [.int n_h_shelf_size, .ref h_shelf_bits, .ref h_shelf_value, .ref h_shelf_cutter, .ref h_shelf_putter, .ref h_shelf_gaps, .ref h_shelf_sharers, .ref h_shelf_wholes], kI cI h_shelf_bits 24 f_h_shelf_bits, kI cI h_crew_high 5 f_h_crew_high, kI cI h_shelf_gaps 25 f_26, kI cI h_shelf_wholes 24 f_h_shelf_wholes, kI cI h_shelf_sharers 24 g24_h_shelf_sharers, kI cI h_shelf_cutter 24 f_h_shelf_cutter, kI cI h_shelf_value 24 f_h_shelf_value]) (kk_runV (w1 := [kO h 8 [.ref h_shelf, .ref h_crew, .ref h_diary, .int n_h_gapless, .int n_h_looseReads, .int n_h_impatient, .int n_h_need, .int n_h_needKey]]) (As := [.int 1, .int v_35]) (rest := []) hx hb hml hown hts hE (c_X9_stoppedAt l D cB cI cJ cD h h_shelf h_crew h_diary n_h_gapless n_h_looseReads n_h_impatient n_h_need n_h_needKey 1 v_35 H.size b_h_gapless (kr_w b_23 rfl) b_h_impatient) m_X9_stoppedAt w_828 ⟨rfl, rfl, Nat.le_of_ble_eq_true rfl, Nat.le_of_ble_eq_true rfl⟩ (hP.sub [0] rfl) (hD.sub [0] (by decide +kernel) rfl) 0 8 rfl rfl rfl hl.1 (Nat.le_of_ble_eq_true rfl) dX9_readThrough_108 ⟨Nat.le_of_ble_eq_true rfl, Nat.le_of_ble_eq_true rfl⟩) hP hD hS hA [0] [1, 2, 3, 4, 5, 6, 7, 8, 9, 10] rfl rfl (by decide +kernel) (by decide +kernel) (fun r_37 u_36 H locs p_36 hP hD hS => ?_)
              obtain ⟨hP, hD⟩ : kPD D A [kO h_crew 1 [.int n_h_crew_size, .ref h_crew_state, .ref h_crew_outcome, .ref h_crew_deaths, .ref h_crew_kind, .ref h_crew_low, .ref h_crew_high, .ref h_crew_value, .ref h_crew_need, .ref h_crew_needKey, .ref h_crew_line, .int n_h_crew_lineLength], kI cI h_crew_low 5 f_h_crew_low, kO h_shelf 6 [.int n_h_shelf_size, .ref h_shelf_bits, .ref h_shelf_value, .ref h_shelf_cutter, .ref h_shelf_putter, .ref h_shelf_gaps, .ref h_shelf_sharers, .ref h_shelf_wholes], kI cI h_shelf_bits 24 f_h_shelf_bits, kI cI h_crew_high 5 f_h_crew_high, kI cI h_shelf_gaps 25 f_26, kI cI h_shelf_wholes 24 f_h_shelf_wholes, kI cI h_shelf_sharers 24 g24_h_shelf_sharers, kI cI h_shelf_cutter 24 f_h_shelf_cutter, kI cI h_shelf_value 24 f_h_shelf_value, kO h 8 [.ref h_shelf, .ref h_crew, .ref h_diary, .int n_h_gapless, .int n_h_looseReads, .int n_h_impatient, .int (u_36.2.2.2 0), .int (u_36.2.2.2 1)]] H := ⟨hP, hD⟩
              obtain rfl : r_37 = (-2) := kr_one p_36 rfl
              subst hQQ
              exact kk_ret_i ((fun _ => 0), (fun i => [f_26, g24_h_shelf_sharers].getD i (fun _ => 0)), (fun i => [].getD i (fun _ => 0)), (fun i => [(u_36.2.2.2 0), (u_36.2.2.2 1)].getD i 0)) hx hb hr hlocks trivial (hP.sub [10, 0, 1, 2, 3, 4, 5, 6, 7, 8, 9] rfl) (hD.sub [10, 0, 1, 2, 3, 4, 5, 6, 7, 8, 9] (by decide +kernel) rfl) hS dX9_readThrough_111 (Nat.le_of_ble_eq_true rfl) (Nat.le_of_ble_eq_true rfl)
  refine lv_iconst (v := 1) hx hb dX9_readThrough_0 (by decide) ?_
  refine lv_iload_n hx hb dX9_readThrough_1 rfl (lv_at hl 1 rfl) ?_
  refine lv_ishl hx hb dX9_readThrough_2 ?_
  refine lv_topi (fun v_38 e_38 => ?_)
  refine lv_istore_n (lv' := [(2, .int v_38), (0, .ref h), (1, .int p0)]) hx hb dX9_readThrough_3 rfl hl (by decide) rfl (fun ls hl => ?_)
  refine lv_iconst (v := 0) hx hb dX9_readThrough_4 (by decide) ?_
  refine lv_istore_n (lv' := [(3, .int 0), (2, .int v_38), (0, .ref h), (1, .int p0)]) hx hb dX9_readThrough_5 rfl hl (by decide) rfl (fun ls hl => ?_)
  refine lv_aload_n hx hb dX9_readThrough_6 rfl (lv_at hl 2 rfl) ?_
  refine va_get (D := D) (ci := 8) (v := .ref h_shelf) (C := RX9) (T := TX9) (N := 8) hx hb hts u_X9 hown hE.1 hP 0 rfl rfl 0 (by decide) (hts _ w_384) (fun _ h9 => h9) rfl dX9_readThrough_7 ?_
  refine lv_aload_n hx hb dX9_readThrough_10 rfl (lv_at hl 2 rfl) ?_
  refine va_get (D := D) (ci := 8) (v := .ref h_crew) (C := RX9) (T := TX9) (N := 8) hx hb hts u_X9 hown hE.1 hP 0 rfl rfl 1 (by decide) (hts _ w_387) (fun _ h9 => h9) rfl dX9_readThrough_11 ?_
  refine va_get (D := D) (ci := 1) (v := .ref h_crew_low) (C := RX1) (T := TX1) (N := 12) hx hb hts u_X1 hown hE.1 hP 1 rfl rfl 5 (by decide) (hts _ w_329) (fun _ h9 => h9) rfl dX9_readThrough_14 ?_
  refine lv_iload_n hx hb dX9_readThrough_17 rfl (lv_at hl 3 rfl) ?_
  refine va_iald hx hb hE.1 hP 2 1 rfl rfl (kr_in b_p0 rfl) dX9_readThrough_18 ?_
  refine lv_topi (fun v_39 e_39 => ?_)
  refine kk_pi (kk_runV (w1 := [kO h_shelf 6 [.int n_h_shelf_size, .ref h_shelf_bits, .ref h_shelf_value, .ref h_shelf_cutter, .ref h_shelf_putter, .ref h_shelf_gaps, .ref h_shelf_sharers, .ref h_shelf_wholes], kI cI h_shelf_bits 24 f_h_shelf_bits]) (As := [.int v_39]) (rest := []) hx hb hml hown hts hE (c_X7_placeFrom l D cB cI cJ cD h_shelf h_shelf_bits h_shelf_value h_shelf_cutter h_shelf_putter h_shelf_gaps h_shelf_sharers h_shelf_wholes n_h_shelf_size f_h_shelf_bits v_39 s.heap.size b_h_shelf_size) m_X7_placeFrom w_804 ⟨rfl, rfl, Nat.le_of_ble_eq_true rfl, Nat.le_of_ble_eq_true rfl⟩ (hP.sub [3, 4] rfl) (hD.sub [3, 4] (by decide +kernel) rfl) 0 6 rfl rfl rfl hl.1 (Nat.le_of_ble_eq_true rfl) dX9_readThrough_19 ⟨Nat.le_of_ble_eq_true rfl, Nat.le_of_ble_eq_true rfl⟩) (fun r_40 p_40 => ?_)
  have b_40 : kr 0 24 r_40 := p_40.1
  have g_41 : r_40.toInt ≤ n_h_shelf_size.toInt := p_40.2
  refine lv_istore (lv' := [(4, .int r_40), (3, .int 0), (2, .int v_38), (0, .ref h), (1, .int p0)]) hx hb dX9_readThrough_22 hl (by decide) rfl (fun ls hl => ?_)
  exact J_24 _ r_40 0 v_38 f_h_shelf_gaps f_h_shelf_sharers _ _ _ (Nat.lt_succ_self _) b_40 ⟨hP, hD⟩ hS (lv_sub hl [0, 1, 2, 3, 4] rfl)
set_option maxHeartbeats 4000000 in
set_option maxRecDepth 100000 in
theorem c_X7_hasAt (l : Launch) (D : va_G) (cB cI cJ cD : ClassId) (h : Nat) (h_bits : Nat) (h_value : Nat) (h_cutter : Nat) (h_putter : Nat) (h_gaps : Nat) (h_sharers : Nat) (h_wholes : Nat) (n_h_size : Int32) (f_h_bits : Nat → Int32) (p0 : Int32) (p1 : Int32) (sz : Nat) (b_h_size : kr 0 24 n_h_size) (b_p0 : kr 0 24 p0) : Met l yX7_hasAt (kk_W yX7_hasAt cX7_hasAt 3 (some .boolean)) ({ frames := 0, cells := 0, slots := 0, locals := 0 }) (va_Pc [.ref h, .int p0, .int p1] (kk_pre D cB cI cJ cD [kO h 6 [.int n_h_size, .ref h_bits, .ref h_value, .ref h_cutter, .ref h_putter, .ref h_gaps, .ref h_sharers, .ref h_wholes], kI cI h_bits 24 f_h_bits] sz)) (vp_Si (fun r => kr 0 1 r ∧ (¬ r = 0 → kr 0 23 p0))) 0 0 (fun _ => False) := by
  refine kk_pstart (y := yX7_hasAt) (maxL := 3) (av := [.ref h, .int p0, .int p1]) (by decide) (Nat.le_of_ble_eq_true rfl) ?_
  intro p e s m below meth c ls hx hb hr hml hown hts hE hlocks hsz hP hD hl
  have hown : s.vm.findClass RX7 = some m.cls := hown
  have hl : lv_has ls 3 [(0, .ref h), (1, .int p0), (2, .int p1)] := hl
  refine lv_iload_n hx hb dX7_hasAt_0 rfl (lv_at hl 1 rfl) ?_
  refine lv_aload_n hx hb dX7_hasAt_1 rfl (lv_at hl 0 rfl) ?_
  refine va_get (D := D) (ci := 6) (v := .int n_h_size) (C := RX7) (T := TX7) (N := 8) hx hb hts u_X7 hown hE.1 hP 0 rfl rfl 0 (by decide) (hts _ w_157) (fun _ h9 => h9) rfl dX7_hasAt_2 ?_
  refine lv_icmp_ge (tgt := 22) hx hb dX7_hasAt_5 (by decide) (fun c_1 => ?_) (fun c_1 => ?_)
  · have i_1 : n_h_size.toInt ≤ p0.toInt := (ki_le c_1)
    refine lv_iconst (v := 0) hx hb dX7_hasAt_22 (by decide) ?_
    exact kk_pret_z hx hb hr hlocks (by decide) ⟨(kr_w (kr_c 0 0 rfl) rfl), (fun h9 => absurd rfl h9)⟩ dX7_hasAt_23
  · have i_1 : p0.toInt < n_h_size.toInt := (ki_nle c_1)
    have b_2 : kr 0 23 p0 := kr_lt_l b_p0 b_h_size i_1 rfl
    have b_3 : kr 1 24 n_h_size := kr_lt_r b_p0 b_h_size i_1 rfl
    refine lv_aload_n hx hb dX7_hasAt_8 rfl (lv_at hl 0 rfl) ?_
    refine va_get (D := D) (ci := 6) (v := .ref h_bits) (C := RX7) (T := TX7) (N := 8) hx hb hts u_X7 hown hE.1 hP 0 rfl rfl 1 (by decide) (hts _ w_163) (fun _ h9 => h9) rfl dX7_hasAt_9 ?_
    refine lv_iload_n hx hb dX7_hasAt_12 rfl (lv_at hl 1 rfl) ?_
    refine va_iald hx hb hE.1 hP 1 1 rfl rfl (kr_in b_2 rfl) dX7_hasAt_13 ?_
    refine lv_topi (fun v_4 e_4 => ?_)
    refine lv_iload_n hx hb dX7_hasAt_14 rfl (lv_at hl 2 rfl) ?_
    refine lv_icmp_ne (tgt := 22) hx hb dX7_hasAt_15 (by decide) (fun c_5 => ?_) (fun c_5 => ?_)
    · refine lv_iconst (v := 0) hx hb dX7_hasAt_22 (by decide) ?_
      exact kk_pret_z hx hb hr hlocks (by decide) ⟨(kr_w (kr_c 0 0 rfl) rfl), (fun h9 => absurd rfl h9)⟩ dX7_hasAt_23
    · refine lv_iconst (v := 1) hx hb dX7_hasAt_18 (by decide) ?_
      refine lv_goto (tgt := 23) hx hb dX7_hasAt_19 (by decide) ?_
      exact kk_pret_z hx hb hr hlocks (by decide) ⟨(kr_w (kr_c 1 1 rfl) rfl), (fun _ => b_2)⟩ dX7_hasAt_23
set_option maxHeartbeats 4000000 in
set_option maxRecDepth 100000 in
theorem c_X9_locked (l : Launch) (D : va_G) (cB cI cJ cD : ClassId) (h : Nat) (h_shelf : Nat) (h_shelf_wholes : Nat) (h_shelf_sharers : Nat) (h_crew : Nat) (h_diary : Nat) (h_shelf_bits : Nat) (h_shelf_value : Nat) (h_shelf_cutter : Nat) (h_shelf_putter : Nat) (h_shelf_gaps : Nat) (n_h_gapless : Int32) (n_h_looseReads : Int32) (n_h_impatient : Int32) (n_h_need : Int32) (n_h_needKey : Int32) (n_h_shelf_size : Int32) (f_h_shelf_wholes : Nat → Int32) (f_h_shelf_sharers : Nat → Int32) (p0 : Int32) (p1 : Int32) (p2 : Int32) (sz : Nat) (b_h_gapless : kr 0 1 n_h_gapless) (b_h_looseReads : kr 0 1 n_h_looseReads) (b_h_impatient : kr 0 1 n_h_impatient) (b_h_shelf_size : kr 0 24 n_h_shelf_size) (b_p1 : kr 0 23 p1) : Met l yX9_locked (kk_W yX9_locked cX9_locked 5 (some .boolean)) ({ frames := 0, cells := 0, slots := 0, locals := 0 }) (va_Pc [.ref h, .int p0, .int p1, .int p2] (kk_pre D cB cI cJ cD [kO h 8 [.ref h_shelf, .ref h_crew, .ref h_diary, .int n_h_gapless, .int n_h_looseReads, .int n_h_impatient, .int n_h_need, .int n_h_needKey], kO h_shelf 6 [.int n_h_shelf_size, .ref h_shelf_bits, .ref h_shelf_value, .ref h_shelf_cutter, .ref h_shelf_putter, .ref h_shelf_gaps, .ref h_shelf_sharers, .ref h_shelf_wholes], kI cI h_shelf_wholes 24 f_h_shelf_wholes, kI cI h_shelf_sharers 24 f_h_shelf_sharers] sz)) (kk_Qi D (fun (r : Int32) (u : (Nat → Nat) × (Nat → Nat → Int32) × (Nat → Nat → Int64) × (Nat → Int32)) => kr 0 1 r) (fun u => [kO h 8 [.ref h_shelf, .ref h_crew, .ref h_diary, .int n_h_gapless, .int n_h_looseReads, .int n_h_impatient, .int n_h_need, .int n_h_needKey], kO h_shelf 6 [.int n_h_shelf_size, .ref h_shelf_bits, .ref h_shelf_value, .ref h_shelf_cutter, .ref h_shelf_putter, .ref h_shelf_gaps, .ref h_shelf_sharers, .ref h_shelf_wholes], kI cI h_shelf_wholes 24 (u.2.1 0), kI cI h_shelf_sharers 24 (u.2.1 1)]) (va_A [kO h 8 [.ref h_shelf, .ref h_crew, .ref h_diary, .int n_h_gapless, .int n_h_looseReads, .int n_h_impatient, .int n_h_need, .int n_h_needKey], kO h_shelf 6 [.int n_h_shelf_size, .ref h_shelf_bits, .ref h_shelf_value, .ref h_shelf_cutter, .ref h_shelf_putter, .ref h_shelf_gaps, .ref h_shelf_sharers, .ref h_shelf_wholes], kI cI h_shelf_wholes 24 f_h_shelf_wholes, kI cI h_shelf_sharers 24 f_h_shelf_sharers] sz)) 0 0 (va_A [kO h 8 [.ref h_shelf, .ref h_crew, .ref h_diary, .int n_h_gapless, .int n_h_looseReads, .int n_h_impatient, .int n_h_need, .int n_h_needKey], kO h_shelf 6 [.int n_h_shelf_size, .ref h_shelf_bits, .ref h_shelf_value, .ref h_shelf_cutter, .ref h_shelf_putter, .ref h_shelf_gaps, .ref h_shelf_sharers, .ref h_shelf_wholes], kI cI h_shelf_wholes 24 f_h_shelf_wholes, kI cI h_shelf_sharers 24 f_h_shelf_sharers] sz) := by
  refine kk_start (y := yX9_locked) (maxL := 5) (av := [.ref h, .int p0, .int p1, .int p2]) (Qc := fun A => kk_Qi D (fun (r : Int32) (u : (Nat → Nat) × (Nat → Nat → Int32) × (Nat → Nat → Int64) × (Nat → Int32)) => kr 0 1 r) (fun u => [kO h 8 [.ref h_shelf, .ref h_crew, .ref h_diary, .int n_h_gapless, .int n_h_looseReads, .int n_h_impatient, .int n_h_need, .int n_h_needKey], kO h_shelf 6 [.int n_h_shelf_size, .ref h_shelf_bits, .ref h_shelf_value, .ref h_shelf_cutter, .ref h_shelf_putter, .ref h_shelf_gaps, .ref h_shelf_sharers, .ref h_shelf_wholes], kI cI h_shelf_wholes 24 (u.2.1 0), kI cI h_shelf_sharers 24 (u.2.1 1)]) A) (by decide) (Nat.le_of_ble_eq_true rfl) ?_
  intro p e s m below meth c ls A hx hb hr hml hown hts hE hlocks hin hsz hP hD hA hS hl
  have hown : s.vm.findClass RX9 = some m.cls := hown
  have hl : lv_has ls 5 [(0, .ref h), (1, .int p0), (2, .int p1), (3, .int p2)] := hl
  generalize hQQ : MQ below _ _ s _ _ _ = QQ
  have J_30 : ∀ (x30_l_4 : Int32) (x30_s_0 : Int32) (H : Heap) (locs : List Loc) (ls : Array Slot), kPD D A [kO h 8 [.ref h_shelf, .ref h_crew, .ref h_diary, .int n_h_gapless, .int n_h_looseReads, .int n_h_impatient, .int n_h_need, .int n_h_needKey], kO h_shelf 6 [.int n_h_shelf_size, .ref h_shelf_bits, .ref h_shelf_value, .ref h_shelf_cutter, .ref h_shelf_putter, .ref h_shelf_gaps, .ref h_shelf_sharers, .ref h_shelf_wholes], kI cI h_shelf_wholes 24 f_h_shelf_wholes, kI cI h_shelf_sharers 24 f_h_shelf_sharers] H → va_S A s.heap H locs → lv_has ls 5 [(4, .int x30_l_4), (0, .ref h), (2, .int p1), (3, .int p2)] → W p l e ({ frames := 0, cells := 0, slots := 0, locals := 0 }) s m ([.ref h, .int p0, .int p1, .int p2] : List Value).toArray below meth c H locs 0 0 QQ (F0 m 30 ls [.int x30_s_0]) := by
    intro x30_l_4 x30_s_0 H locs ls hPD hS hl
    obtain ⟨hP, hD⟩ := hPD
    refine lv_iload hx hb dX9_locked_30 (lv_at hl 0 rfl) ?_
    refine lv_iconst (v := (-1)) hx hb dX9_locked_32 (by decide) ?_
    refine lv_ixor hx hb dX9_locked_33 ?_
    refine lv_topi (fun v_1 e_1 => ?_)
    refine lv_iand hx hb dX9_locked_34 ?_
    refine lv_topi (fun v_2 e_2 => ?_)
    refine lv_if_eq (tgt := 40) hx hb dX9_locked_35 (by decide) (fun c_3 => ?_) (fun c_3 => ?_)
    · have b_4 : kr 0 0 v_2 := kr_eq_l (kr_all v_2) (kr_c 0 0 rfl) c_3 rfl
      refine lv_aload_n hx hb dX9_locked_40 rfl (lv_at hl 1 rfl) ?_
      refine va_get (D := D) (ci := 8) (v := .ref h_shelf) (C := RX9) (T := TX9) (N := 8) hx hb hts u_X9 hown hE.1 hP 0 rfl rfl 0 (by decide) (hts _ w_384) (fun _ h9 => h9) rfl dX9_locked_41 ?_
      refine va_get (D := D) (ci := 6) (v := .ref h_shelf_sharers) (C := RX7) (T := TX7) (N := 8) hx hb hts u_X7 hown hE.1 hP 1 rfl rfl 6 (by decide) (hts _ w_181) (fun _ h9 => h9) rfl dX9_locked_44 ?_
      refine lv_iload_n hx hb dX9_locked_47 rfl (lv_at hl 2 rfl) ?_
      refine lv_dup2_11 hx hb dX9_locked_48 rfl rfl ?_
      refine va_iald hx hb hE.1 hP 3 1 rfl rfl (kr_in b_p1 rfl) dX9_locked_49 ?_
      refine lv_topi (fun v_5 e_5 => ?_)
      refine lv_iload hx hb dX9_locked_50 (lv_at hl 0 rfl) ?_
      refine lv_ior hx hb dX9_locked_52 ?_
      refine lv_topi (fun v_6 e_6 => ?_)
      refine va_iast hx hb hE.1 hP hD hS 3 1 rfl rfl (kr_in b_p1 rfl) dX9_locked_53 (fun H locs hP hD hS => ?_)
      obtain ⟨f_7, ef_7⟩ : ∃ z, z = (upd f_h_shelf_sharers (Int32.toNatClampNeg p1) v_6) := ⟨_, rfl⟩
      rw [← ef_7] at hP hD
      obtain ⟨hP, hD⟩ : kPD D A [kO h 8 [.ref h_shelf, .ref h_crew, .ref h_diary, .int n_h_gapless, .int n_h_looseReads, .int n_h_impatient, .int n_h_need, .int n_h_needKey], kO h_shelf 6 [.int n_h_shelf_size, .ref h_shelf_bits, .ref h_shelf_value, .ref h_shelf_cutter, .ref h_shelf_putter, .ref h_shelf_gaps, .ref h_shelf_sharers, .ref h_shelf_wholes], kI cI h_shelf_wholes 24 f_h_shelf_wholes, kI cI h_shelf_sharers 24 f_7] H := ⟨hP, hD⟩
      refine lv_aload_n hx hb dX9_locked_54 rfl (lv_at hl 1 rfl) ?_
      refine va_get (D := D) (ci := 8) (v := .ref h_shelf) (C := RX9) (T := TX9) (N := 8) hx hb hts u_X9 hown hE.1 hP 0 rfl rfl 0 (by decide) (hts _ w_384) (fun _ h9 => h9) rfl dX9_locked_55 ?_
      refine va_get (D := D) (ci := 6) (v := .ref h_shelf_wholes) (C := RX7) (T := TX7) (N := 8) hx hb hts u_X7 hown hE.1 hP 1 rfl rfl 7 (by decide) (hts _ w_183) (fun _ h9 => h9) rfl dX9_locked_58 ?_
      refine lv_iload_n hx hb dX9_locked_61 rfl (lv_at hl 2 rfl) ?_
      refine lv_dup2_11 hx hb dX9_locked_62 rfl rfl ?_
      refine va_iald hx hb hE.1 hP 2 1 rfl rfl (kr_in b_p1 rfl) dX9_locked_63 ?_
      refine lv_topi (fun v_8 e_8 => ?_)
      refine lv_iload_n hx hb dX9_locked_64 rfl (lv_at hl 3 rfl) ?_
      refine lv_if_eq (tgt := 73) hx hb dX9_locked_65 (by decide) (fun c_9 => ?_) (fun c_9 => ?_)
      · have b_10 : kr 0 0 p2 := kr_eq_l (kr_all p2) (kr_c 0 0 rfl) c_9 rfl
        refine lv_iconst (v := 0) hx hb dX9_locked_73 (by decide) ?_
        refine lv_ior hx hb dX9_locked_74 ?_
        refine lv_topi (fun v_11 e_11 => ?_)
        refine va_iast hx hb hE.1 hP hD hS 2 1 rfl rfl (kr_in b_p1 rfl) dX9_locked_75 (fun H locs hP hD hS => ?_)
        obtain ⟨f_12, ef_12⟩ : ∃ z, z = (upd f_h_shelf_wholes (Int32.toNatClampNeg p1) v_11) := ⟨_, rfl⟩
        rw [← ef_12] at hP hD
        obtain ⟨hP, hD⟩ : kPD D A [kO h 8 [.ref h_shelf, .ref h_crew, .ref h_diary, .int n_h_gapless, .int n_h_looseReads, .int n_h_impatient, .int n_h_need, .int n_h_needKey], kO h_shelf 6 [.int n_h_shelf_size, .ref h_shelf_bits, .ref h_shelf_value, .ref h_shelf_cutter, .ref h_shelf_putter, .ref h_shelf_gaps, .ref h_shelf_sharers, .ref h_shelf_wholes], kI cI h_shelf_wholes 24 f_12, kI cI h_shelf_sharers 24 f_7] H := ⟨hP, hD⟩
        refine lv_iconst (v := 1) hx hb dX9_locked_76 (by decide) ?_
        subst hQQ
        exact kk_ret_z ((fun _ => 0), (fun i => [f_12, f_7].getD i (fun _ => 0)), (fun i => [].getD i (fun _ => 0)), (fun i => [].getD i 0)) hx hb hr hlocks (by decide) (kr_w (kr_c 1 1 rfl) rfl) (hP.sub [0, 1, 2, 3] rfl) (hD.sub [0, 1, 2, 3] (by decide +kernel) rfl) hS dX9_locked_77 (Nat.le_of_ble_eq_true rfl) (Nat.le_of_ble_eq_true rfl)
      · refine lv_iload hx hb dX9_locked_68 (lv_at hl 0 rfl) ?_
        refine lv_goto (tgt := 74) hx hb dX9_locked_70 (by decide) ?_
        refine lv_ior hx hb dX9_locked_74 ?_
        refine lv_topi (fun v_13 e_13 => ?_)
        refine va_iast hx hb hE.1 hP hD hS 2 1 rfl rfl (kr_in b_p1 rfl) dX9_locked_75 (fun H locs hP hD hS => ?_)
        obtain ⟨f_14, ef_14⟩ : ∃ z, z = (upd f_h_shelf_wholes (Int32.toNatClampNeg p1) v_13) := ⟨_, rfl⟩
        rw [← ef_14] at hP hD
        obtain ⟨hP, hD⟩ : kPD D A [kO h 8 [.ref h_shelf, .ref h_crew, .ref h_diary, .int n_h_gapless, .int n_h_looseReads, .int n_h_impatient, .int n_h_need, .int n_h_needKey], kO h_shelf 6 [.int n_h_shelf_size, .ref h_shelf_bits, .ref h_shelf_value, .ref h_shelf_cutter, .ref h_shelf_putter, .ref h_shelf_gaps, .ref h_shelf_sharers, .ref h_shelf_wholes], kI cI h_shelf_wholes 24 f_14, kI cI h_shelf_sharers 24 f_7] H := ⟨hP, hD⟩
        refine lv_iconst (v := 1) hx hb dX9_locked_76 (by decide) ?_
        subst hQQ
        exact kk_ret_z ((fun _ => 0), (fun i => [f_14, f_7].getD i (fun _ => 0)), (fun i => [].getD i (fun _ => 0)), (fun i => [].getD i 0)) hx hb hr hlocks (by decide) (kr_w (kr_c 1 1 rfl) rfl) (hP.sub [0, 1, 2, 3] rfl) (hD.sub [0, 1, 2, 3] (by decide +kernel) rfl) hS dX9_locked_77 (Nat.le_of_ble_eq_true rfl) (Nat.le_of_ble_eq_true rfl)
    · refine lv_iconst (v := 0) hx hb dX9_locked_38 (by decide) ?_
      subst hQQ
      exact kk_ret_z ((fun _ => 0), (fun i => [f_h_shelf_wholes, f_h_shelf_sharers].getD i (fun _ => 0)), (fun i => [].getD i (fun _ => 0)), (fun i => [].getD i 0)) hx hb hr hlocks (by decide) (kr_w (kr_c 0 0 rfl) rfl) (hP.sub [0, 1, 2, 3] rfl) (hD.sub [0, 1, 2, 3] (by decide +kernel) rfl) hS dX9_locked_39 (Nat.le_of_ble_eq_true rfl) (Nat.le_of_ble_eq_true rfl)
  refine lv_iconst (v := 1) hx hb dX9_locked_0 (by decide) ?_
  refine lv_iload_n hx hb dX9_locked_1 rfl (lv_at hl 1 rfl) ?_
  refine lv_ishl hx hb dX9_locked_2 ?_
  refine lv_topi (fun v_15 e_15 => ?_)
  refine lv_istore (lv' := [(4, .int v_15), (0, .ref h), (1, .int p0), (2, .int p1), (3, .int p2)]) hx hb dX9_locked_3 hl (by decide) rfl (fun ls hl => ?_)
  refine lv_iload_n hx hb dX9_locked_5 rfl (lv_at hl 4 rfl) ?_
  refine lv_if_eq (tgt := 21) hx hb dX9_locked_6 (by decide) (fun c_16 => ?_) (fun c_16 => ?_)
  · have b_17 : kr 0 0 p2 := kr_eq_l (kr_all p2) (kr_c 0 0 rfl) c_16 rfl
    refine lv_aload_n hx hb dX9_locked_21 rfl (lv_at hl 1 rfl) ?_
    refine va_get (D := D) (ci := 8) (v := .ref h_shelf) (C := RX9) (T := TX9) (N := 8) hx hb hts u_X9 hown hE.1 hP 0 rfl rfl 0 (by decide) (hts _ w_384) (fun _ h9 => h9) rfl dX9_locked_22 ?_
    refine va_get (D := D) (ci := 6) (v := .ref h_shelf_wholes) (C := RX7) (T := TX7) (N := 8) hx hb hts u_X7 hown hE.1 hP 1 rfl rfl 7 (by decide) (hts _ w_183) (fun _ h9 => h9) rfl dX9_locked_25 ?_
    refine lv_iload_n hx hb dX9_locked_28 rfl (lv_at hl 3 rfl) ?_
    refine va_iald hx hb hE.1 hP 2 1 rfl rfl (kr_in b_p1 rfl) dX9_locked_29 ?_
    refine lv_topi (fun v_18 e_18 => ?_)
    exact J_30 v_15 v_18 _ _ _ ⟨hP, hD⟩ hS (lv_sub hl [0, 1, 3, 4] rfl)
  · refine lv_aload_n hx hb dX9_locked_9 rfl (lv_at hl 1 rfl) ?_
    refine va_get (D := D) (ci := 8) (v := .ref h_shelf) (C := RX9) (T := TX9) (N := 8) hx hb hts u_X9 hown hE.1 hP 0 rfl rfl 0 (by decide) (hts _ w_384) (fun _ h9 => h9) rfl dX9_locked_10 ?_
    refine va_get (D := D) (ci := 6) (v := .ref h_shelf_sharers) (C := RX7) (T := TX7) (N := 8) hx hb hts u_X7 hown hE.1 hP 1 rfl rfl 6 (by decide) (hts _ w_181) (fun _ h9 => h9) rfl dX9_locked_13 ?_
    refine lv_iload_n hx hb dX9_locked_16 rfl (lv_at hl 3 rfl) ?_
    refine va_iald hx hb hE.1 hP 3 1 rfl rfl (kr_in b_p1 rfl) dX9_locked_17 ?_
    refine lv_topi (fun v_19 e_19 => ?_)
    refine lv_goto (tgt := 30) hx hb dX9_locked_18 (by decide) ?_
    exact J_30 v_15 v_19 _ _ _ ⟨hP, hD⟩ hS (lv_sub hl [0, 1, 3, 4] rfl)
set_option maxHeartbeats 4000000 in
set_option maxRecDepth 100000 in
theorem c_X3_note (l : Launch) (D : va_G) (cB cI cJ cD : ClassId) (h : Nat) (h_changes : Nat) (n_h_length : Int32) (f_h_changes : Nat → Int64) (p0 : Int32) (p1 : Int32) (p2 : Int32) (p3 : Int32) (sz : Nat) (b_h_length : kr 0 600 n_h_length) : Met l yX3_note (kk_W yX3_note cX3_note 5 none) ({ frames := 0, cells := 0, slots := 0, locals := 0 }) (va_Pc [.ref h, .int p0, .int p1, .int p2, .int p3] (kk_pre D cB cI cJ cD [kO h 3 [.int n_h_length, .ref h_changes], kJ cJ h_changes 600 f_h_changes] sz)) (kk_Qv D (fun (u : (Nat → Nat) × (Nat → Nat → Int32) × (Nat → Nat → Int64) × (Nat → Int32)) => kr 1 600 (u.2.2.2 0)) (fun u => [kO h 3 [.int (u.2.2.2 0), .ref h_changes], kJ cJ h_changes 600 (u.2.2.1 0)]) (va_A [kO h 3 [.int n_h_length, .ref h_changes], kJ cJ h_changes 600 f_h_changes] sz)) 0 0 (va_A [kO h 3 [.int n_h_length, .ref h_changes], kJ cJ h_changes 600 f_h_changes] sz) := by
  refine kk_start (y := yX3_note) (maxL := 5) (av := [.ref h, .int p0, .int p1, .int p2, .int p3]) (Qc := fun A => kk_Qv D (fun (u : (Nat → Nat) × (Nat → Nat → Int32) × (Nat → Nat → Int64) × (Nat → Int32)) => kr 1 600 (u.2.2.2 0)) (fun u => [kO h 3 [.int (u.2.2.2 0), .ref h_changes], kJ cJ h_changes 600 (u.2.2.1 0)]) A) (by decide) (Nat.le_of_ble_eq_true rfl) ?_
  intro p e s m below meth c ls A hx hb hr hml hown hts hE hlocks hin hsz hP hD hA hS hl
  have hown : s.vm.findClass RX3 = some m.cls := hown
  have hl : lv_has ls 5 [(0, .ref h), (1, .int p0), (2, .int p1), (3, .int p2), (4, .int p3)] := hl
  refine lv_aload_n hx hb dX3_note_0 rfl (lv_at hl 0 rfl) ?_
  refine va_get (D := D) (ci := 3) (v := .int n_h_length) (C := RX3) (T := TX3) (N := 2) hx hb hts u_X3 hown hE.1 hP 0 rfl rfl 0 (by decide) (hts _ w_375) (fun _ h9 => h9) rfl dX3_note_1 ?_
  refine lv_sipush (v := 600) hx hb dX3_note_4 (by decide) ?_
  refine lv_icmp_ge (tgt := 50) hx hb dX3_note_7 (by decide) (fun c_1 => ?_) (fun c_1 => ?_)
  · have i_1 : 600 ≤ n_h_length.toInt := (ki_le c_1)
    have b_2 : kr 600 600 n_h_length := kr_le_r (kr_c 600 600 rfl) b_h_length i_1 rfl
    exact kk_ret_v ((fun _ => 0), (fun i => [].getD i (fun _ => 0)), (fun i => [f_h_changes].getD i (fun _ => 0)), (fun i => [n_h_length].getD i 0)) hx hb hr hlocks (kr_w b_2 rfl) (hP.sub [0, 1] rfl) (hD.sub [0, 1] (by decide +kernel) rfl) hS dX3_note_50 (Nat.le_of_ble_eq_true rfl) (Nat.le_of_ble_eq_true rfl)
  · have i_1 : n_h_length.toInt < 600 := (ki_nle c_1)
    have b_3 : kr 0 599 n_h_length := kr_lt_l b_h_length (kr_c 600 600 rfl) i_1 rfl
    refine lv_aload_n hx hb dX3_note_10 rfl (lv_at hl 0 rfl) ?_
    refine va_get (D := D) (ci := 3) (v := .ref h_changes) (C := RX3) (T := TX3) (N := 2) hx hb hts u_X3 hown hE.1 hP 0 rfl rfl 1 (by decide) (hts _ w_377) (fun _ h9 => h9) rfl dX3_note_11 ?_
    refine lv_aload_n hx hb dX3_note_14 rfl (lv_at hl 0 rfl) ?_
    refine va_get (D := D) (ci := 3) (v := .int n_h_length) (C := RX3) (T := TX3) (N := 2) hx hb hts u_X3 hown hE.1 hP 0 rfl rfl 0 (by decide) (hts _ w_375) (fun _ h9 => h9) rfl dX3_note_15 ?_
    refine lv_iload_n hx hb dX3_note_18 rfl (lv_at hl 1 rfl) ?_
    refine lv_i2l hx hb dX3_note_19 rfl ?_
    refine lv_topl (fun v_4 e_4 => ?_)
    refine lv_bipush (v := 50) hx hb dX3_note_20 (by decide) ?_
    refine lv_lshl hx hb dX3_note_22 rfl ?_
    refine lv_topl (fun v_5 e_5 => ?_)
    refine lv_iload_n hx hb dX3_note_23 rfl (lv_at hl 2 rfl) ?_
    refine lv_i2l hx hb dX3_note_24 rfl ?_
    refine lv_topl (fun v_6 e_6 => ?_)
    refine lv_bipush (v := 48) hx hb dX3_note_25 (by decide) ?_
    refine lv_lshl hx hb dX3_note_27 rfl ?_
    refine lv_topl (fun v_7 e_7 => ?_)
    refine lv_lor hx hb dX3_note_28 ?_
    refine lv_topl (fun v_8 e_8 => ?_)
    refine lv_iload hx hb dX3_note_29 (lv_at hl 4 rfl) ?_
    refine lv_i2l hx hb dX3_note_31 rfl ?_
    refine lv_topl (fun v_9 e_9 => ?_)
    refine lv_bipush (v := 32) hx hb dX3_note_32 (by decide) ?_
    refine lv_lshl hx hb dX3_note_34 rfl ?_
    refine lv_topl (fun v_10 e_10 => ?_)
    refine lv_lor hx hb dX3_note_35 ?_
    refine lv_topl (fun v_11 e_11 => ?_)
    refine lv_iload_n hx hb dX3_note_36 rfl (lv_at hl 3 rfl) ?_
    refine lv_i2l hx hb dX3_note_37 rfl ?_
    refine lv_topl (fun v_12 e_12 => ?_)
    refine lv_lor hx hb dX3_note_38 ?_
    refine lv_topl (fun v_13 e_13 => ?_)
    refine va_last hx hb hE.1 hP hD hS 1 2 rfl rfl (kr_in b_3 rfl) dX3_note_39 (fun H locs hP hD hS => ?_)
    obtain ⟨f_14, ef_14⟩ : ∃ z, z = (vp_updL f_h_changes (Int32.toNatClampNeg n_h_length) v_13) := ⟨_, rfl⟩
    rw [← ef_14] at hP hD
    obtain ⟨hP, hD⟩ : kPD D A [kO h 3 [.int n_h_length, .ref h_changes], kJ cJ h_changes 600 f_14] H := ⟨hP, hD⟩
    refine lv_aload_n hx hb dX3_note_40 rfl (lv_at hl 0 rfl) ?_
    refine lv_dup hx hb dX3_note_41 rfl ?_
    refine va_get (D := D) (ci := 3) (v := .int n_h_length) (C := RX3) (T := TX3) (N := 2) hx hb hts u_X3 hown hE.1 hP 0 rfl rfl 0 (by decide) (hts _ w_375) (fun _ h9 => h9) rfl dX3_note_42 ?_
    refine lv_iconst (v := 1) hx hb dX3_note_45 (by decide) ?_
    refine lv_iadd hx hb dX3_note_46 ?_
    refine lv_topi (fun v_15 e_15 => ?_)
    have t_15 : v_15.toInt = n_h_length.toInt + 1 := kt_add e_15 b_3 (kr_c 1 1 rfl) rfl
    have b_15 : kr 1 600 v_15 := kr_add (x := n_h_length) (y := 1) t_15 b_3 (kr_c 1 1 rfl) rfl
    refine va_put (D := D) (ci := 3) (v := .int v_15) (ty := .int) (C := RX3) (T := TX3) (N := 2) hx hb hts u_X3 tyX3 tyX3_ok nmX3 hown hE.1 hP hD hS 0 rfl rfl 0 (by decide) (hts _ w_375) (fun _ h9 => h9) rfl (by decide +kernel) rfl rfl (Nat.le_of_ble_eq_true rfl) dX3_note_47 (fun H locs hP hD hS => ?_)
    obtain ⟨hP, hD⟩ : kPD D A [kO h 3 [.int v_15, .ref h_changes], kJ cJ h_changes 600 f_14] H := ⟨hP, hD⟩
    exact kk_ret_v ((fun _ => 0), (fun i => [].getD i (fun _ => 0)), (fun i => [f_14].getD i (fun _ => 0)), (fun i => [v_15].getD i 0)) hx hb hr hlocks b_15 (hP.sub [0, 1] rfl) (hD.sub [0, 1] (by decide +kernel) rfl) hS dX3_note_50 (Nat.le_of_ble_eq_true rfl) (Nat.le_of_ble_eq_true rfl)
set_option maxHeartbeats 4000000 in
set_option maxRecDepth 100000 in
theorem c_X7_insert (l : Launch) (D : va_G) (cB cI cJ cD : ClassId) (h : Nat) (h_gaps : Nat) (h_bits : Nat) (h_value : Nat) (h_cutter : Nat) (h_putter : Nat) (h_sharers : Nat) (h_wholes : Nat) (n_h_size : Int32) (f_h_gaps : Nat → Int32) (f_h_bits : Nat → Int32) (f_h_value : Nat → Int32) (f_h_cutter : Nat → Int32) (f_h_putter : Nat → Int32) (f_h_sharers : Nat → Int32) (f_h_wholes : Nat → Int32) (p0 : Int32) (p1 : Int32) (p2 : Int32) (sz : Nat) (b_h_size : kr 0 24 n_h_size) : Met l yX7_insert (kk_W yX7_insert cX7_insert 5 none) ({ frames := 0, cells := 0, slots := 0, locals := 0 }) (va_Pc [.ref h, .int p0, .int p1, .int p2] (kk_pre D cB cI cJ cD [kO h 6 [.int n_h_size, .ref h_bits, .ref h_value, .ref h_cutter, .ref h_putter, .ref h_gaps, .ref h_sharers, .ref h_wholes], kI cI h_gaps 25 f_h_gaps, kI cI h_bits 24 f_h_bits, kI cI h_value 24 f_h_value, kI cI h_cutter 24 f_h_cutter, kI cI h_putter 24 f_h_putter, kI cI h_sharers 24 f_h_sharers, kI cI h_wholes 24 f_h_wholes] sz)) (kk_Qv D (fun (u : (Nat → Nat) × (Nat → Nat → Int32) × (Nat → Nat → Int64) × (Nat → Int32)) => kr 0 24 (u.2.2.2 0)) (fun u => [kO h 6 [.int (u.2.2.2 0), .ref h_bits, .ref h_value, .ref h_cutter, .ref h_putter, .ref h_gaps, .ref h_sharers, .ref h_wholes], kI cI h_gaps 25 (u.2.1 0), kI cI h_bits 24 (u.2.1 1), kI cI h_value 24 (u.2.1 2), kI cI h_cutter 24 (u.2.1 3), kI cI h_putter 24 (u.2.1 4), kI cI h_sharers 24 (u.2.1 5), kI cI h_wholes 24 (u.2.1 6)]) (va_A [kO h 6 [.int n_h_size, .ref h_bits, .ref h_value, .ref h_cutter, .ref h_putter, .ref h_gaps, .ref h_sharers, .ref h_wholes], kI cI h_gaps 25 f_h_gaps, kI cI h_bits 24 f_h_bits, kI cI h_value 24 f_h_value, kI cI h_cutter 24 f_h_cutter, kI cI h_putter 24 f_h_putter, kI cI h_sharers 24 f_h_sharers, kI cI h_wholes 24 f_h_wholes] sz)) 0 0 (va_A [kO h 6 [.int n_h_size, .ref h_bits, .ref h_value, .ref h_cutter, .ref h_putter, .ref h_gaps, .ref h_sharers, .ref h_wholes], kI cI h_gaps 25 f_h_gaps, kI cI h_bits 24 f_h_bits, kI cI h_value 24 f_h_value, kI cI h_cutter 24 f_h_cutter, kI cI h_putter 24 f_h_putter, kI cI h_sharers 24 f_h_sharers, kI cI h_wholes 24 f_h_wholes] sz) := by
  refine kk_start (y := yX7_insert) (maxL := 5) (av := [.ref h, .int p0, .int p1, .int p2]) (Qc := fun A => kk_Qv D (fun (u : (Nat → Nat) × (Nat → Nat → Int32) × (Nat → Nat → Int64) × (Nat → Int32)) => kr 0 24 (u.2.2.2 0)) (fun u => [kO h 6 [.int (u.2.2.2 0), .ref h_bits, .ref h_value, .ref h_cutter, .ref h_putter, .ref h_gaps, .ref h_sharers, .ref h_wholes], kI cI h_gaps 25 (u.2.1 0), kI cI h_bits 24 (u.2.1 1), kI cI h_value 24 (u.2.1 2), kI cI h_cutter 24 (u.2.1 3), kI cI h_putter 24 (u.2.1 4), kI cI h_sharers 24 (u.2.1 5), kI cI h_wholes 24 (u.2.1 6)]) A) (by decide) (Nat.le_of_ble_eq_true rfl) ?_
  intro p e s m below meth c ls A hx hb hr hml hown hts hE hlocks hin hsz hP hD hA hS hl
  have hown : s.vm.findClass RX7 = some m.cls := hown
  have hl : lv_has ls 5 [(0, .ref h), (1, .int p0), (2, .int p1), (3, .int p2)] := hl
  generalize hQQ : MQ below _ _ s _ _ _ = QQ
  have J_48 : ∀ (n : Nat) (x48_l_4 : Int32) (g48_h_gaps : Nat → Int32) (g48_h_bits : Nat → Int32) (g48_h_value : Nat → Int32) (g48_h_cutter : Nat → Int32) (g48_h_putter : Nat → Int32) (g48_h_sharers : Nat → Int32) (g48_h_wholes : Nat → Int32) (H : Heap) (locs : List Loc) (ls : Array Slot), (x48_l_4.toInt - 0).toNat < n → kr 0 23 x48_l_4 → kr 0 23 p0 → kr 0 23 n_h_size → kPD D A [kO h 6 [.int n_h_size, .ref h_bits, .ref h_value, .ref h_cutter, .ref h_putter, .ref h_gaps, .ref h_sharers, .ref h_wholes], kI cI h_gaps 25 g48_h_gaps, kI cI h_bits 24 g48_h_bits, kI cI h_value 24 g48_h_value, kI cI h_cutter 24 g48_h_cutter, kI cI h_putter 24 g48_h_putter, kI cI h_sharers 24 g48_h_sharers, kI cI h_wholes 24 g48_h_wholes] H → va_S A s.heap H locs → lv_has ls 5 [(4, .int x48_l_4), (0, .ref h), (1, .int p0), (2, .int p1), (3, .int p2)] → W p l e ({ frames := 0, cells := 0, slots := 0, locals := 0 }) s m ([.ref h, .int p0, .int p1, .int p2] : List Value).toArray below meth c H locs 0 0 QQ (F0 m 48 ls []) := by
    intro n
    induction n with
    | zero =>
      intro x48_l_4 g48_h_gaps g48_h_bits g48_h_value g48_h_cutter g48_h_putter g48_h_sharers g48_h_wholes H locs ls hn_48 bx48_l_4 c48_p0 c48_n_h_size hPD hS hl
      exact absurd hn_48 (Nat.not_lt_zero _)
    | succ n ih_48 =>
      intro x48_l_4 g48_h_gaps g48_h_bits g48_h_value g48_h_cutter g48_h_putter g48_h_sharers g48_h_wholes H locs ls hn_48 bx48_l_4 c48_p0 c48_n_h_size hPD hS hl
      obtain ⟨hP, hD⟩ := hPD
      refine lv_iload hx hb dX7_insert_48 (lv_at hl 0 rfl) ?_
      refine lv_iload_n hx hb dX7_insert_50 rfl (lv_at hl 2 rfl) ?_
      refine lv_icmp_le (tgt := 172) hx hb dX7_insert_51 (by decide) (fun c_1 => ?_) (fun c_1 => ?_)
      · have i_1 : x48_l_4.toInt ≤ p0.toInt := (ki_le c_1)
        refine lv_aload_n hx hb dX7_insert_172 rfl (lv_at hl 1 rfl) ?_
        refine va_get (D := D) (ci := 6) (v := .ref h_bits) (C := RX7) (T := TX7) (N := 8) hx hb hts u_X7 hown hE.1 hP 0 rfl rfl 1 (by decide) (hts _ w_163) (fun _ h9 => h9) rfl dX7_insert_173 ?_
        refine lv_iload_n hx hb dX7_insert_176 rfl (lv_at hl 2 rfl) ?_
        refine lv_iload_n hx hb dX7_insert_177 rfl (lv_at hl 3 rfl) ?_
        refine va_iast hx hb hE.1 hP hD hS 2 1 rfl rfl (kr_in c48_p0 rfl) dX7_insert_178 (fun H locs hP hD hS => ?_)
        obtain ⟨f_2, ef_2⟩ : ∃ z, z = (upd g48_h_bits (Int32.toNatClampNeg p0) p1) := ⟨_, rfl⟩
        rw [← ef_2] at hP hD
        obtain ⟨hP, hD⟩ : kPD D A [kO h 6 [.int n_h_size, .ref h_bits, .ref h_value, .ref h_cutter, .ref h_putter, .ref h_gaps, .ref h_sharers, .ref h_wholes], kI cI h_gaps 25 g48_h_gaps, kI cI h_bits 24 f_2, kI cI h_value 24 g48_h_value, kI cI h_cutter 24 g48_h_cutter, kI cI h_putter 24 g48_h_putter, kI cI h_sharers 24 g48_h_sharers, kI cI h_wholes 24 g48_h_wholes] H := ⟨hP, hD⟩
        refine lv_aload_n hx hb dX7_insert_179 rfl (lv_at hl 1 rfl) ?_
        refine va_get (D := D) (ci := 6) (v := .ref h_value) (C := RX7) (T := TX7) (N := 8) hx hb hts u_X7 hown hE.1 hP 0 rfl rfl 2 (by decide) (hts _ w_167) (fun _ h9 => h9) rfl dX7_insert_180 ?_
        refine lv_iload_n hx hb dX7_insert_183 rfl (lv_at hl 2 rfl) ?_
        refine lv_iload_n hx hb dX7_insert_184 rfl (lv_at hl 4 rfl) ?_
        refine va_iast hx hb hE.1 hP hD hS 3 1 rfl rfl (kr_in c48_p0 rfl) dX7_insert_185 (fun H locs hP hD hS => ?_)
        obtain ⟨f_3, ef_3⟩ : ∃ z, z = (upd g48_h_value (Int32.toNatClampNeg p0) p2) := ⟨_, rfl⟩
        rw [← ef_3] at hP hD
        obtain ⟨hP, hD⟩ : kPD D A [kO h 6 [.int n_h_size, .ref h_bits, .ref h_value, .ref h_cutter, .ref h_putter, .ref h_gaps, .ref h_sharers, .ref h_wholes], kI cI h_gaps 25 g48_h_gaps, kI cI h_bits 24 f_2, kI cI h_value 24 f_3, kI cI h_cutter 24 g48_h_cutter, kI cI h_putter 24 g48_h_putter, kI cI h_sharers 24 g48_h_sharers, kI cI h_wholes 24 g48_h_wholes] H := ⟨hP, hD⟩
        refine lv_aload_n hx hb dX7_insert_186 rfl (lv_at hl 1 rfl) ?_
        refine va_get (D := D) (ci := 6) (v := .ref h_cutter) (C := RX7) (T := TX7) (N := 8) hx hb hts u_X7 hown hE.1 hP 0 rfl rfl 3 (by decide) (hts _ w_171) (fun _ h9 => h9) rfl dX7_insert_187 ?_
        refine lv_iload_n hx hb dX7_insert_190 rfl (lv_at hl 2 rfl) ?_
        refine lv_bipush (v := (-2)) hx hb dX7_insert_191 (by decide) ?_
        refine va_iast hx hb hE.1 hP hD hS 4 1 rfl rfl (kr_in c48_p0 rfl) dX7_insert_193 (fun H locs hP hD hS => ?_)
        obtain ⟨f_4, ef_4⟩ : ∃ z, z = (upd g48_h_cutter (Int32.toNatClampNeg p0) (-2)) := ⟨_, rfl⟩
        rw [← ef_4] at hP hD
        obtain ⟨hP, hD⟩ : kPD D A [kO h 6 [.int n_h_size, .ref h_bits, .ref h_value, .ref h_cutter, .ref h_putter, .ref h_gaps, .ref h_sharers, .ref h_wholes], kI cI h_gaps 25 g48_h_gaps, kI cI h_bits 24 f_2, kI cI h_value 24 f_3, kI cI h_cutter 24 f_4, kI cI h_putter 24 g48_h_putter, kI cI h_sharers 24 g48_h_sharers, kI cI h_wholes 24 g48_h_wholes] H := ⟨hP, hD⟩
        refine lv_aload_n hx hb dX7_insert_194 rfl (lv_at hl 1 rfl) ?_
        refine va_get (D := D) (ci := 6) (v := .ref h_putter) (C := RX7) (T := TX7) (N := 8) hx hb hts u_X7 hown hE.1 hP 0 rfl rfl 4 (by decide) (hts _ w_174) (fun _ h9 => h9) rfl dX7_insert_195 ?_
        refine lv_iload_n hx hb dX7_insert_198 rfl (lv_at hl 2 rfl) ?_
        refine lv_bipush (v := (-2)) hx hb dX7_insert_199 (by decide) ?_
        refine va_iast hx hb hE.1 hP hD hS 5 1 rfl rfl (kr_in c48_p0 rfl) dX7_insert_201 (fun H locs hP hD hS => ?_)
        obtain ⟨f_5, ef_5⟩ : ∃ z, z = (upd g48_h_putter (Int32.toNatClampNeg p0) (-2)) := ⟨_, rfl⟩
        rw [← ef_5] at hP hD
        obtain ⟨hP, hD⟩ : kPD D A [kO h 6 [.int n_h_size, .ref h_bits, .ref h_value, .ref h_cutter, .ref h_putter, .ref h_gaps, .ref h_sharers, .ref h_wholes], kI cI h_gaps 25 g48_h_gaps, kI cI h_bits 24 f_2, kI cI h_value 24 f_3, kI cI h_cutter 24 f_4, kI cI h_putter 24 f_5, kI cI h_sharers 24 g48_h_sharers, kI cI h_wholes 24 g48_h_wholes] H := ⟨hP, hD⟩
        refine lv_aload_n hx hb dX7_insert_202 rfl (lv_at hl 1 rfl) ?_
        refine va_get (D := D) (ci := 6) (v := .ref h_sharers) (C := RX7) (T := TX7) (N := 8) hx hb hts u_X7 hown hE.1 hP 0 rfl rfl 6 (by decide) (hts _ w_180) (fun _ h9 => h9) rfl dX7_insert_203 ?_
        refine lv_iload_n hx hb dX7_insert_206 rfl (lv_at hl 2 rfl) ?_
        refine lv_iconst (v := 0) hx hb dX7_insert_207 (by decide) ?_
        refine va_iast hx hb hE.1 hP hD hS 6 1 rfl rfl (kr_in c48_p0 rfl) dX7_insert_208 (fun H locs hP hD hS => ?_)
        obtain ⟨f_6, ef_6⟩ : ∃ z, z = (upd g48_h_sharers (Int32.toNatClampNeg p0) 0) := ⟨_, rfl⟩
        rw [← ef_6] at hP hD
        obtain ⟨hP, hD⟩ : kPD D A [kO h 6 [.int n_h_size, .ref h_bits, .ref h_value, .ref h_cutter, .ref h_putter, .ref h_gaps, .ref h_sharers, .ref h_wholes], kI cI h_gaps 25 g48_h_gaps, kI cI h_bits 24 f_2, kI cI h_value 24 f_3, kI cI h_cutter 24 f_4, kI cI h_putter 24 f_5, kI cI h_sharers 24 f_6, kI cI h_wholes 24 g48_h_wholes] H := ⟨hP, hD⟩
        refine lv_aload_n hx hb dX7_insert_209 rfl (lv_at hl 1 rfl) ?_
        refine va_get (D := D) (ci := 6) (v := .ref h_wholes) (C := RX7) (T := TX7) (N := 8) hx hb hts u_X7 hown hE.1 hP 0 rfl rfl 7 (by decide) (hts _ w_182) (fun _ h9 => h9) rfl dX7_insert_210 ?_
        refine lv_iload_n hx hb dX7_insert_213 rfl (lv_at hl 2 rfl) ?_
        refine lv_iconst (v := 0) hx hb dX7_insert_214 (by decide) ?_
        refine va_iast hx hb hE.1 hP hD hS 7 1 rfl rfl (kr_in c48_p0 rfl) dX7_insert_215 (fun H locs hP hD hS => ?_)
        obtain ⟨f_7, ef_7⟩ : ∃ z, z = (upd g48_h_wholes (Int32.toNatClampNeg p0) 0) := ⟨_, rfl⟩
        rw [← ef_7] at hP hD
        obtain ⟨hP, hD⟩ : kPD D A [kO h 6 [.int n_h_size, .ref h_bits, .ref h_value, .ref h_cutter, .ref h_putter, .ref h_gaps, .ref h_sharers, .ref h_wholes], kI cI h_gaps 25 g48_h_gaps, kI cI h_bits 24 f_2, kI cI h_value 24 f_3, kI cI h_cutter 24 f_4, kI cI h_putter 24 f_5, kI cI h_sharers 24 f_6, kI cI h_wholes 24 f_7] H := ⟨hP, hD⟩
        refine lv_aload_n hx hb dX7_insert_216 rfl (lv_at hl 1 rfl) ?_
        refine lv_dup hx hb dX7_insert_217 rfl ?_
        refine va_get (D := D) (ci := 6) (v := .int n_h_size) (C := RX7) (T := TX7) (N := 8) hx hb hts u_X7 hown hE.1 hP 0 rfl rfl 0 (by decide) (hts _ w_157) (fun _ h9 => h9) rfl dX7_insert_218 ?_
        refine lv_iconst (v := 1) hx hb dX7_insert_221 (by decide) ?_
        refine lv_iadd hx hb dX7_insert_222 ?_
        refine lv_topi (fun v_8 e_8 => ?_)
        have t_8 : v_8.toInt = n_h_size.toInt + 1 := kt_add e_8 c48_n_h_size (kr_c 1 1 rfl) rfl
        have b_8 : kr 1 24 v_8 := kr_add (x := n_h_size) (y := 1) t_8 c48_n_h_size (kr_c 1 1 rfl) rfl
        refine va_put (D := D) (ci := 6) (v := .int v_8) (ty := .int) (C := RX7) (T := TX7) (N := 8) hx hb hts u_X7 tyX7 tyX7_ok nmX7 hown hE.1 hP hD hS 0 rfl rfl 0 (by decide) (hts _ w_157) (fun _ h9 => h9) rfl (by decide +kernel) rfl rfl (Nat.le_of_ble_eq_true rfl) dX7_insert_223 (fun H locs hP hD hS => ?_)
        obtain ⟨hP, hD⟩ : kPD D A [kO h 6 [.int v_8, .ref h_bits, .ref h_value, .ref h_cutter, .ref h_putter, .ref h_gaps, .ref h_sharers, .ref h_wholes], kI cI h_gaps 25 g48_h_gaps, kI cI h_bits 24 f_2, kI cI h_value 24 f_3, kI cI h_cutter 24 f_4, kI cI h_putter 24 f_5, kI cI h_sharers 24 f_6, kI cI h_wholes 24 f_7] H := ⟨hP, hD⟩
        subst hQQ
        exact kk_ret_v ((fun _ => 0), (fun i => [g48_h_gaps, f_2, f_3, f_4, f_5, f_6, f_7].getD i (fun _ => 0)), (fun i => [].getD i (fun _ => 0)), (fun i => [v_8].getD i 0)) hx hb hr hlocks (kr_w b_8 rfl) (hP.sub [0, 1, 2, 3, 4, 5, 6, 7] rfl) (hD.sub [0, 1, 2, 3, 4, 5, 6, 7] (by decide +kernel) rfl) hS dX7_insert_226 (Nat.le_of_ble_eq_true rfl) (Nat.le_of_ble_eq_true rfl)
      · have i_1 : p0.toInt < x48_l_4.toInt := (ki_nle c_1)
        have b_9 : kr 0 22 p0 := kr_lt_l c48_p0 bx48_l_4 i_1 rfl
        have b_10 : kr 1 23 x48_l_4 := kr_lt_r c48_p0 bx48_l_4 i_1 rfl
        refine lv_aload_n hx hb dX7_insert_54 rfl (lv_at hl 1 rfl) ?_
        refine va_get (D := D) (ci := 6) (v := .ref h_bits) (C := RX7) (T := TX7) (N := 8) hx hb hts u_X7 hown hE.1 hP 0 rfl rfl 1 (by decide) (hts _ w_163) (fun _ h9 => h9) rfl dX7_insert_55 ?_
        refine lv_iload hx hb dX7_insert_58 (lv_at hl 0 rfl) ?_
        refine lv_aload_n hx hb dX7_insert_60 rfl (lv_at hl 1 rfl) ?_
        refine va_get (D := D) (ci := 6) (v := .ref h_bits) (C := RX7) (T := TX7) (N := 8) hx hb hts u_X7 hown hE.1 hP 0 rfl rfl 1 (by decide) (hts _ w_163) (fun _ h9 => h9) rfl dX7_insert_61 ?_
        refine lv_iload hx hb dX7_insert_64 (lv_at hl 0 rfl) ?_
        refine lv_iconst (v := 1) hx hb dX7_insert_66 (by decide) ?_
        refine lv_isub hx hb dX7_insert_67 ?_
        refine lv_topi (fun v_11 e_11 => ?_)
        have t_11 : v_11.toInt = x48_l_4.toInt - 1 := kt_sub e_11 b_10 (kr_c 1 1 rfl) rfl
        have b_11 : kr 0 22 v_11 := kr_sub (x := x48_l_4) (y := 1) t_11 b_10 (kr_c 1 1 rfl) rfl
        refine va_iald hx hb hE.1 hP 2 1 rfl rfl (kr_in b_11 rfl) dX7_insert_68 ?_
        refine lv_topi (fun v_12 e_12 => ?_)
        refine va_iast hx hb hE.1 hP hD hS 2 1 rfl rfl (kr_in b_10 rfl) dX7_insert_69 (fun H locs hP hD hS => ?_)
        obtain ⟨f_13, ef_13⟩ : ∃ z, z = (upd g48_h_bits (Int32.toNatClampNeg x48_l_4) v_12) := ⟨_, rfl⟩
        rw [← ef_13] at hP hD
        obtain ⟨hP, hD⟩ : kPD D A [kO h 6 [.int n_h_size, .ref h_bits, .ref h_value, .ref h_cutter, .ref h_putter, .ref h_gaps, .ref h_sharers, .ref h_wholes], kI cI h_gaps 25 g48_h_gaps, kI cI h_bits 24 f_13, kI cI h_value 24 g48_h_value, kI cI h_cutter 24 g48_h_cutter, kI cI h_putter 24 g48_h_putter, kI cI h_sharers 24 g48_h_sharers, kI cI h_wholes 24 g48_h_wholes] H := ⟨hP, hD⟩
        refine lv_aload_n hx hb dX7_insert_70 rfl (lv_at hl 1 rfl) ?_
        refine va_get (D := D) (ci := 6) (v := .ref h_value) (C := RX7) (T := TX7) (N := 8) hx hb hts u_X7 hown hE.1 hP 0 rfl rfl 2 (by decide) (hts _ w_167) (fun _ h9 => h9) rfl dX7_insert_71 ?_
        refine lv_iload hx hb dX7_insert_74 (lv_at hl 0 rfl) ?_
        refine lv_aload_n hx hb dX7_insert_76 rfl (lv_at hl 1 rfl) ?_
        refine va_get (D := D) (ci := 6) (v := .ref h_value) (C := RX7) (T := TX7) (N := 8) hx hb hts u_X7 hown hE.1 hP 0 rfl rfl 2 (by decide) (hts _ w_167) (fun _ h9 => h9) rfl dX7_insert_77 ?_
        refine lv_iload hx hb dX7_insert_80 (lv_at hl 0 rfl) ?_
        refine lv_iconst (v := 1) hx hb dX7_insert_82 (by decide) ?_
        refine lv_isub hx hb dX7_insert_83 ?_
        refine lv_topi (fun v_14 e_14 => ?_)
        have t_14 : v_14.toInt = x48_l_4.toInt - 1 := kt_sub e_14 b_10 (kr_c 1 1 rfl) rfl
        have b_14 : kr 0 22 v_14 := kr_sub (x := x48_l_4) (y := 1) t_14 b_10 (kr_c 1 1 rfl) rfl
        refine va_iald hx hb hE.1 hP 3 1 rfl rfl (kr_in b_14 rfl) dX7_insert_84 ?_
        refine lv_topi (fun v_15 e_15 => ?_)
        refine va_iast hx hb hE.1 hP hD hS 3 1 rfl rfl (kr_in b_10 rfl) dX7_insert_85 (fun H locs hP hD hS => ?_)
        obtain ⟨f_16, ef_16⟩ : ∃ z, z = (upd g48_h_value (Int32.toNatClampNeg x48_l_4) v_15) := ⟨_, rfl⟩
        rw [← ef_16] at hP hD
        obtain ⟨hP, hD⟩ : kPD D A [kO h 6 [.int n_h_size, .ref h_bits, .ref h_value, .ref h_cutter, .ref h_putter, .ref h_gaps, .ref h_sharers, .ref h_wholes], kI cI h_gaps 25 g48_h_gaps, kI cI h_bits 24 f_13, kI cI h_value 24 f_16, kI cI h_cutter 24 g48_h_cutter, kI cI h_putter 24 g48_h_putter, kI cI h_sharers 24 g48_h_sharers, kI cI h_wholes 24 g48_h_wholes] H := ⟨hP, hD⟩
        refine lv_aload_n hx hb dX7_insert_86 rfl (lv_at hl 1 rfl) ?_
        refine va_get (D := D) (ci := 6) (v := .ref h_cutter) (C := RX7) (T := TX7) (N := 8) hx hb hts u_X7 hown hE.1 hP 0 rfl rfl 3 (by decide) (hts _ w_171) (fun _ h9 => h9) rfl dX7_insert_87 ?_
        refine lv_iload hx hb dX7_insert_90 (lv_at hl 0 rfl) ?_
        refine lv_aload_n hx hb dX7_insert_92 rfl (lv_at hl 1 rfl) ?_
        refine va_get (D := D) (ci := 6) (v := .ref h_cutter) (C := RX7) (T := TX7) (N := 8) hx hb hts u_X7 hown hE.1 hP 0 rfl rfl 3 (by decide) (hts _ w_171) (fun _ h9 => h9) rfl dX7_insert_93 ?_
        refine lv_iload hx hb dX7_insert_96 (lv_at hl 0 rfl) ?_
        refine lv_iconst (v := 1) hx hb dX7_insert_98 (by decide) ?_
        refine lv_isub hx hb dX7_insert_99 ?_
        refine lv_topi (fun v_17 e_17 => ?_)
        have t_17 : v_17.toInt = x48_l_4.toInt - 1 := kt_sub e_17 b_10 (kr_c 1 1 rfl) rfl
        have b_17 : kr 0 22 v_17 := kr_sub (x := x48_l_4) (y := 1) t_17 b_10 (kr_c 1 1 rfl) rfl
        refine va_iald hx hb hE.1 hP 4 1 rfl rfl (kr_in b_17 rfl) dX7_insert_100 ?_
        refine lv_topi (fun v_18 e_18 => ?_)
        refine va_iast hx hb hE.1 hP hD hS 4 1 rfl rfl (kr_in b_10 rfl) dX7_insert_101 (fun H locs hP hD hS => ?_)
        obtain ⟨f_19, ef_19⟩ : ∃ z, z = (upd g48_h_cutter (Int32.toNatClampNeg x48_l_4) v_18) := ⟨_, rfl⟩
        rw [← ef_19] at hP hD
        obtain ⟨hP, hD⟩ : kPD D A [kO h 6 [.int n_h_size, .ref h_bits, .ref h_value, .ref h_cutter, .ref h_putter, .ref h_gaps, .ref h_sharers, .ref h_wholes], kI cI h_gaps 25 g48_h_gaps, kI cI h_bits 24 f_13, kI cI h_value 24 f_16, kI cI h_cutter 24 f_19, kI cI h_putter 24 g48_h_putter, kI cI h_sharers 24 g48_h_sharers, kI cI h_wholes 24 g48_h_wholes] H := ⟨hP, hD⟩
        refine lv_aload_n hx hb dX7_insert_102 rfl (lv_at hl 1 rfl) ?_
        refine va_get (D := D) (ci := 6) (v := .ref h_putter) (C := RX7) (T := TX7) (N := 8) hx hb hts u_X7 hown hE.1 hP 0 rfl rfl 4 (by decide) (hts _ w_174) (fun _ h9 => h9) rfl dX7_insert_103 ?_
        refine lv_iload hx hb dX7_insert_106 (lv_at hl 0 rfl) ?_
        refine lv_aload_n hx hb dX7_insert_108 rfl (lv_at hl 1 rfl) ?_
        refine va_get (D := D) (ci := 6) (v := .ref h_putter) (C := RX7) (T := TX7) (N := 8) hx hb hts u_X7 hown hE.1 hP 0 rfl rfl 4 (by decide) (hts _ w_174) (fun _ h9 => h9) rfl dX7_insert_109 ?_
        refine lv_iload hx hb dX7_insert_112 (lv_at hl 0 rfl) ?_
        refine lv_iconst (v := 1) hx hb dX7_insert_114 (by decide) ?_
        refine lv_isub hx hb dX7_insert_115 ?_
        refine lv_topi (fun v_20 e_20 => ?_)
        have t_20 : v_20.toInt = x48_l_4.toInt - 1 := kt_sub e_20 b_10 (kr_c 1 1 rfl) rfl
        have b_20 : kr 0 22 v_20 := kr_sub (x := x48_l_4) (y := 1) t_20 b_10 (kr_c 1 1 rfl) rfl
        refine va_iald hx hb hE.1 hP 5 1 rfl rfl (kr_in b_20 rfl) dX7_insert_116 ?_
        refine lv_topi (fun v_21 e_21 => ?_)
        refine va_iast hx hb hE.1 hP hD hS 5 1 rfl rfl (kr_in b_10 rfl) dX7_insert_117 (fun H locs hP hD hS => ?_)
        obtain ⟨f_22, ef_22⟩ : ∃ z, z = (upd g48_h_putter (Int32.toNatClampNeg x48_l_4) v_21) := ⟨_, rfl⟩
        rw [← ef_22] at hP hD
        obtain ⟨hP, hD⟩ : kPD D A [kO h 6 [.int n_h_size, .ref h_bits, .ref h_value, .ref h_cutter, .ref h_putter, .ref h_gaps, .ref h_sharers, .ref h_wholes], kI cI h_gaps 25 g48_h_gaps, kI cI h_bits 24 f_13, kI cI h_value 24 f_16, kI cI h_cutter 24 f_19, kI cI h_putter 24 f_22, kI cI h_sharers 24 g48_h_sharers, kI cI h_wholes 24 g48_h_wholes] H := ⟨hP, hD⟩
        refine lv_aload_n hx hb dX7_insert_118 rfl (lv_at hl 1 rfl) ?_
        refine va_get (D := D) (ci := 6) (v := .ref h_gaps) (C := RX7) (T := TX7) (N := 8) hx hb hts u_X7 hown hE.1 hP 0 rfl rfl 5 (by decide) (hts _ w_177) (fun _ h9 => h9) rfl dX7_insert_119 ?_
        refine lv_iload hx hb dX7_insert_122 (lv_at hl 0 rfl) ?_
        refine lv_aload_n hx hb dX7_insert_124 rfl (lv_at hl 1 rfl) ?_
        refine va_get (D := D) (ci := 6) (v := .ref h_gaps) (C := RX7) (T := TX7) (N := 8) hx hb hts u_X7 hown hE.1 hP 0 rfl rfl 5 (by decide) (hts _ w_177) (fun _ h9 => h9) rfl dX7_insert_125 ?_
        refine lv_iload hx hb dX7_insert_128 (lv_at hl 0 rfl) ?_
        refine lv_iconst (v := 1) hx hb dX7_insert_130 (by decide) ?_
        refine lv_isub hx hb dX7_insert_131 ?_
        refine lv_topi (fun v_23 e_23 => ?_)
        have t_23 : v_23.toInt = x48_l_4.toInt - 1 := kt_sub e_23 b_10 (kr_c 1 1 rfl) rfl
        have b_23 : kr 0 22 v_23 := kr_sub (x := x48_l_4) (y := 1) t_23 b_10 (kr_c 1 1 rfl) rfl
        refine va_iald hx hb hE.1 hP 1 1 rfl rfl (kr_in b_23 rfl) dX7_insert_132 ?_
        refine lv_topi (fun v_24 e_24 => ?_)
        refine va_iast hx hb hE.1 hP hD hS 1 1 rfl rfl (kr_in b_10 rfl) dX7_insert_133 (fun H locs hP hD hS => ?_)
        obtain ⟨f_25, ef_25⟩ : ∃ z, z = (upd g48_h_gaps (Int32.toNatClampNeg x48_l_4) v_24) := ⟨_, rfl⟩
        rw [← ef_25] at hP hD
        obtain ⟨hP, hD⟩ : kPD D A [kO h 6 [.int n_h_size, .ref h_bits, .ref h_value, .ref h_cutter, .ref h_putter, .ref h_gaps, .ref h_sharers, .ref h_wholes], kI cI h_gaps 25 f_25, kI cI h_bits 24 f_13, kI cI h_value 24 f_16, kI cI h_cutter 24 f_19, kI cI h_putter 24 f_22, kI cI h_sharers 24 g48_h_sharers, kI cI h_wholes 24 g48_h_wholes] H := ⟨hP, hD⟩
        refine lv_aload_n hx hb dX7_insert_134 rfl (lv_at hl 1 rfl) ?_
        refine va_get (D := D) (ci := 6) (v := .ref h_sharers) (C := RX7) (T := TX7) (N := 8) hx hb hts u_X7 hown hE.1 hP 0 rfl rfl 6 (by decide) (hts _ w_180) (fun _ h9 => h9) rfl dX7_insert_135 ?_
        refine lv_iload hx hb dX7_insert_138 (lv_at hl 0 rfl) ?_
        refine lv_aload_n hx hb dX7_insert_140 rfl (lv_at hl 1 rfl) ?_
        refine va_get (D := D) (ci := 6) (v := .ref h_sharers) (C := RX7) (T := TX7) (N := 8) hx hb hts u_X7 hown hE.1 hP 0 rfl rfl 6 (by decide) (hts _ w_180) (fun _ h9 => h9) rfl dX7_insert_141 ?_
        refine lv_iload hx hb dX7_insert_144 (lv_at hl 0 rfl) ?_
        refine lv_iconst (v := 1) hx hb dX7_insert_146 (by decide) ?_
        refine lv_isub hx hb dX7_insert_147 ?_
        refine lv_topi (fun v_26 e_26 => ?_)
        have t_26 : v_26.toInt = x48_l_4.toInt - 1 := kt_sub e_26 b_10 (kr_c 1 1 rfl) rfl
        have b_26 : kr 0 22 v_26 := kr_sub (x := x48_l_4) (y := 1) t_26 b_10 (kr_c 1 1 rfl) rfl
        refine va_iald hx hb hE.1 hP 6 1 rfl rfl (kr_in b_26 rfl) dX7_insert_148 ?_
        refine lv_topi (fun v_27 e_27 => ?_)
        refine va_iast hx hb hE.1 hP hD hS 6 1 rfl rfl (kr_in b_10 rfl) dX7_insert_149 (fun H locs hP hD hS => ?_)
        obtain ⟨f_28, ef_28⟩ : ∃ z, z = (upd g48_h_sharers (Int32.toNatClampNeg x48_l_4) v_27) := ⟨_, rfl⟩
        rw [← ef_28] at hP hD
        obtain ⟨hP, hD⟩ : kPD D A [kO h 6 [.int n_h_size, .ref h_bits, .ref h_value, .ref h_cutter, .ref h_putter, .ref h_gaps, .ref h_sharers, .ref h_wholes], kI cI h_gaps 25 f_25, kI cI h_bits 24 f_13, kI cI h_value 24 f_16, kI cI h_cutter 24 f_19, kI cI h_putter 24 f_22, kI cI h_sharers 24 f_28, kI cI h_wholes 24 g48_h_wholes] H := ⟨hP, hD⟩
        refine lv_aload_n hx hb dX7_insert_150 rfl (lv_at hl 1 rfl) ?_
        refine va_get (D := D) (ci := 6) (v := .ref h_wholes) (C := RX7) (T := TX7) (N := 8) hx hb hts u_X7 hown hE.1 hP 0 rfl rfl 7 (by decide) (hts _ w_182) (fun _ h9 => h9) rfl dX7_insert_151 ?_
        refine lv_iload hx hb dX7_insert_154 (lv_at hl 0 rfl) ?_
        refine lv_aload_n hx hb dX7_insert_156 rfl (lv_at hl 1 rfl) ?_
        refine va_get (D := D) (ci := 6) (v := .ref h_wholes) (C := RX7) (T := TX7) (N := 8) hx hb hts u_X7 hown hE.1 hP 0 rfl rfl 7 (by decide) (hts _ w_182) (fun _ h9 => h9) rfl dX7_insert_157 ?_
        refine lv_iload hx hb dX7_insert_160 (lv_at hl 0 rfl) ?_
        refine lv_iconst (v := 1) hx hb dX7_insert_162 (by decide) ?_
        refine lv_isub hx hb dX7_insert_163 ?_
        refine lv_topi (fun v_29 e_29 => ?_)
        have t_29 : v_29.toInt = x48_l_4.toInt - 1 := kt_sub e_29 b_10 (kr_c 1 1 rfl) rfl
        have b_29 : kr 0 22 v_29 := kr_sub (x := x48_l_4) (y := 1) t_29 b_10 (kr_c 1 1 rfl) rfl
        refine va_iald hx hb hE.1 hP 7 1 rfl rfl (kr_in b_29 rfl) dX7_insert_164 ?_
        refine lv_topi (fun v_30 e_30 => ?_)
        refine va_iast hx hb hE.1 hP hD hS 7 1 rfl rfl (kr_in b_10 rfl) dX7_insert_165 (fun H locs hP hD hS => ?_)
        obtain ⟨f_31, ef_31⟩ : ∃ z, z = (upd g48_h_wholes (Int32.toNatClampNeg x48_l_4) v_30) := ⟨_, rfl⟩
        rw [← ef_31] at hP hD
        obtain ⟨hP, hD⟩ : kPD D A [kO h 6 [.int n_h_size, .ref h_bits, .ref h_value, .ref h_cutter, .ref h_putter, .ref h_gaps, .ref h_sharers, .ref h_wholes], kI cI h_gaps 25 f_25, kI cI h_bits 24 f_13, kI cI h_value 24 f_16, kI cI h_cutter 24 f_19, kI cI h_putter 24 f_22, kI cI h_sharers 24 f_28, kI cI h_wholes 24 f_31] H := ⟨hP, hD⟩
        obtain ⟨v_32, e_32⟩ : ∃ y : Int32, y = x48_l_4 + (-1) := ⟨_, rfl⟩
        have t_32 : v_32.toInt = x48_l_4.toInt + (-1) := kt_add e_32 b_10 (kr_c (-1) (-1) rfl) rfl
        have b_32 : kr 0 22 v_32 := kr_add (x := x48_l_4) (y := (-1)) t_32 b_10 (kr_c (-1) (-1) rfl) rfl
        refine lv_iinc (v := v_32) (lv' := [(4, .int v_32), (0, .ref h), (1, .int p0), (2, .int p1), (3, .int p2)]) hx hb dX7_insert_166 hl (k := 0) rfl (by rw [e_32]; rfl) (by decide) rfl (fun ls hl => ?_)
        refine lv_goto (tgt := 48) hx hb dX7_insert_169 (by decide) ?_
        exact ih_48 v_32 f_25 f_13 f_16 f_19 f_22 f_28 f_31 _ _ _ (km_down hn_48 t_32 b_32 rfl) (kr_w b_32 rfl) (kr_w b_9 rfl) c48_n_h_size ⟨hP, hD⟩ hS (lv_sub hl [0, 1, 2, 3, 4] rfl)
  refine lv_aload_n hx hb dX7_insert_0 rfl (lv_at hl 0 rfl) ?_
  refine va_get (D := D) (ci := 6) (v := .int n_h_size) (C := RX7) (T := TX7) (N := 8) hx hb hts u_X7 hown hE.1 hP 0 rfl rfl 0 (by decide) (hts _ w_157) (fun _ h9 => h9) rfl dX7_insert_1 ?_
  refine lv_bipush (v := 24) hx hb dX7_insert_4 (by decide) ?_
  refine lv_icmp_ge (tgt := 21) hx hb dX7_insert_6 (by decide) (fun c_33 => ?_) (fun c_33 => ?_)
  · have i_33 : 24 ≤ n_h_size.toInt := (ki_le c_33)
    have b_34 : kr 24 24 n_h_size := kr_le_r (kr_c 24 24 rfl) b_h_size i_33 rfl
    subst hQQ
    exact kk_ret_v ((fun _ => 0), (fun i => [f_h_gaps, f_h_bits, f_h_value, f_h_cutter, f_h_putter, f_h_sharers, f_h_wholes].getD i (fun _ => 0)), (fun i => [].getD i (fun _ => 0)), (fun i => [n_h_size].getD i 0)) hx hb hr hlocks (kr_w b_34 rfl) (hP.sub [0, 1, 2, 3, 4, 5, 6, 7] rfl) (hD.sub [0, 1, 2, 3, 4, 5, 6, 7] (by decide +kernel) rfl) hS dX7_insert_21 (Nat.le_of_ble_eq_true rfl) (Nat.le_of_ble_eq_true rfl)
  · have i_33 : n_h_size.toInt < 24 := (ki_nle c_33)
    have b_35 : kr 0 23 n_h_size := kr_lt_l b_h_size (kr_c 24 24 rfl) i_33 rfl
    refine lv_iload_n hx hb dX7_insert_9 rfl (lv_at hl 1 rfl) ?_
    refine lv_if_lt (tgt := 21) hx hb dX7_insert_10 (by decide) (fun c_36 => ?_) (fun c_36 => ?_)
    · have i_36 : p0.toInt < 0 := (ki_lt c_36)
      have b_37 : kr (-2147483648) (-1) p0 := kr_lt_l (kr_all p0) (kr_c 0 0 rfl) i_36 rfl
      subst hQQ
      exact kk_ret_v ((fun _ => 0), (fun i => [f_h_gaps, f_h_bits, f_h_value, f_h_cutter, f_h_putter, f_h_sharers, f_h_wholes].getD i (fun _ => 0)), (fun i => [].getD i (fun _ => 0)), (fun i => [n_h_size].getD i 0)) hx hb hr hlocks (kr_w b_35 rfl) (hP.sub [0, 1, 2, 3, 4, 5, 6, 7] rfl) (hD.sub [0, 1, 2, 3, 4, 5, 6, 7] (by decide +kernel) rfl) hS dX7_insert_21 (Nat.le_of_ble_eq_true rfl) (Nat.le_of_ble_eq_true rfl)
    · have i_36 : 0 ≤ p0.toInt := (ki_nlt c_36)
      have b_38 : kr 0 2147483647 p0 := kr_le_r (kr_c 0 0 rfl) (kr_all p0) i_36 rfl
      refine lv_iload_n hx hb dX7_insert_13 rfl (lv_at hl 1 rfl) ?_
      refine lv_aload_n hx hb dX7_insert_14 rfl (lv_at hl 0 rfl) ?_
      refine va_get (D := D) (ci := 6) (v := .int n_h_size) (C := RX7) (T := TX7) (N := 8) hx hb hts u_X7 hown hE.1 hP 0 rfl rfl 0 (by decide) (hts _ w_157) (fun _ h9 => h9) rfl dX7_insert_15 ?_
      refine lv_icmp_le (tgt := 22) hx hb dX7_insert_18 (by decide) (fun c_39 => ?_) (fun c_39 => ?_)
      · have i_39 : p0.toInt ≤ n_h_size.toInt := (ki_le c_39)
        have b_40 : kr 0 23 p0 := kr_le_l b_38 b_35 i_39 rfl
        refine lv_aload_n hx hb dX7_insert_22 rfl (lv_at hl 0 rfl) ?_
        refine va_get (D := D) (ci := 6) (v := .ref h_gaps) (C := RX7) (T := TX7) (N := 8) hx hb hts u_X7 hown hE.1 hP 0 rfl rfl 5 (by decide) (hts _ w_177) (fun _ h9 => h9) rfl dX7_insert_23 ?_
        refine lv_aload_n hx hb dX7_insert_26 rfl (lv_at hl 0 rfl) ?_
        refine va_get (D := D) (ci := 6) (v := .int n_h_size) (C := RX7) (T := TX7) (N := 8) hx hb hts u_X7 hown hE.1 hP 0 rfl rfl 0 (by decide) (hts _ w_157) (fun _ h9 => h9) rfl dX7_insert_27 ?_
        refine lv_iconst (v := 1) hx hb dX7_insert_30 (by decide) ?_
        refine lv_iadd hx hb dX7_insert_31 ?_
        refine lv_topi (fun v_41 e_41 => ?_)
        have t_41 : v_41.toInt = n_h_size.toInt + 1 := kt_add e_41 b_35 (kr_c 1 1 rfl) rfl
        have b_41 : kr 1 24 v_41 := kr_add (x := n_h_size) (y := 1) t_41 b_35 (kr_c 1 1 rfl) rfl
        refine lv_aload_n hx hb dX7_insert_32 rfl (lv_at hl 0 rfl) ?_
        refine va_get (D := D) (ci := 6) (v := .ref h_gaps) (C := RX7) (T := TX7) (N := 8) hx hb hts u_X7 hown hE.1 hP 0 rfl rfl 5 (by decide) (hts _ w_177) (fun _ h9 => h9) rfl dX7_insert_33 ?_
        refine lv_aload_n hx hb dX7_insert_36 rfl (lv_at hl 0 rfl) ?_
        refine va_get (D := D) (ci := 6) (v := .int n_h_size) (C := RX7) (T := TX7) (N := 8) hx hb hts u_X7 hown hE.1 hP 0 rfl rfl 0 (by decide) (hts _ w_157) (fun _ h9 => h9) rfl dX7_insert_37 ?_
        refine va_iald hx hb hE.1 hP 1 1 rfl rfl (kr_in b_35 rfl) dX7_insert_40 ?_
        refine lv_topi (fun v_42 e_42 => ?_)
        refine va_iast hx hb hE.1 hP hD hS 1 1 rfl rfl (kr_in b_41 rfl) dX7_insert_41 (fun H locs hP hD hS => ?_)
        obtain ⟨f_43, ef_43⟩ : ∃ z, z = (upd f_h_gaps (Int32.toNatClampNeg v_41) v_42) := ⟨_, rfl⟩
        rw [← ef_43] at hP hD
        obtain ⟨hP, hD⟩ : kPD D A [kO h 6 [.int n_h_size, .ref h_bits, .ref h_value, .ref h_cutter, .ref h_putter, .ref h_gaps, .ref h_sharers, .ref h_wholes], kI cI h_gaps 25 f_43, kI cI h_bits 24 f_h_bits, kI cI h_value 24 f_h_value, kI cI h_cutter 24 f_h_cutter, kI cI h_putter 24 f_h_putter, kI cI h_sharers 24 f_h_sharers, kI cI h_wholes 24 f_h_wholes] H := ⟨hP, hD⟩
        refine lv_aload_n hx hb dX7_insert_42 rfl (lv_at hl 0 rfl) ?_
        refine va_get (D := D) (ci := 6) (v := .int n_h_size) (C := RX7) (T := TX7) (N := 8) hx hb hts u_X7 hown hE.1 hP 0 rfl rfl 0 (by decide) (hts _ w_157) (fun _ h9 => h9) rfl dX7_insert_43 ?_
        refine lv_istore (lv' := [(4, .int n_h_size), (0, .ref h), (1, .int p0), (2, .int p1), (3, .int p2)]) hx hb dX7_insert_46 hl (by decide) rfl (fun ls hl => ?_)
        exact J_48 _ n_h_size f_43 f_h_bits f_h_value f_h_cutter f_h_putter f_h_sharers f_h_wholes _ _ _ (Nat.lt_succ_self _) b_35 b_40 b_35 ⟨hP, hD⟩ hS (lv_sub hl [0, 1, 2, 3, 4] rfl)
      · have i_39 : n_h_size.toInt < p0.toInt := (ki_nle c_39)
        have b_44 : kr 1 2147483647 p0 := kr_lt_r b_35 b_38 i_39 rfl
        subst hQQ
        exact kk_ret_v ((fun _ => 0), (fun i => [f_h_gaps, f_h_bits, f_h_value, f_h_cutter, f_h_putter, f_h_sharers, f_h_wholes].getD i (fun _ => 0)), (fun i => [].getD i (fun _ => 0)), (fun i => [n_h_size].getD i 0)) hx hb hr hlocks (kr_w b_35 rfl) (hP.sub [0, 1, 2, 3, 4, 5, 6, 7] rfl) (hD.sub [0, 1, 2, 3, 4, 5, 6, 7] (by decide +kernel) rfl) hS dX7_insert_21 (Nat.le_of_ble_eq_true rfl) (Nat.le_of_ble_eq_true rfl)
set_option maxHeartbeats 4000000 in
set_option maxRecDepth 100000 in
theorem c_X9_bring (l : Launch) (D : va_G) (cB cI cJ cD : ClassId) (h : Nat) (h_crew : Nat) (h_crew_low : Nat) (h_shelf : Nat) (h_shelf_bits : Nat) (h_shelf_gaps : Nat) (h_shelf_cutter : Nat) (h_shelf_wholes : Nat) (h_shelf_sharers : Nat) (h_shelf_value : Nat) (h_diary : Nat) (h_diary_changes : Nat) (h_crew_value : Nat) (h_shelf_putter : Nat) (h_crew_state : Nat) (h_crew_outcome : Nat) (h_crew_deaths : Nat) (h_crew_kind : Nat) (h_crew_high : Nat) (h_crew_need : Nat) (h_crew_needKey : Nat) (h_crew_line : Nat) (n_h_gapless : Int32) (n_h_looseReads : Int32) (n_h_impatient : Int32) (n_h_need : Int32) (n_h_needKey : Int32) (n_h_crew_size : Int32) (n_h_crew_lineLength : Int32) (f_h_crew_low : Nat → Int32) (n_h_shelf_size : Int32) (f_h_shelf_bits : Nat → Int32) (f_h_shelf_gaps : Nat → Int32) (f_h_shelf_cutter : Nat → Int32) (f_h_shelf_wholes : Nat → Int32) (f_h_shelf_sharers : Nat → Int32) (f_h_shelf_value : Nat → Int32) (n_h_diary_length : Int32) (f_h_diary_changes : Nat → Int64) (f_h_crew_value : Nat → Int32) (f_h_shelf_putter : Nat → Int32) (p0 : Int32) (sz : Nat) (b_h_gapless : kr 0 1 n_h_gapless) (b_h_looseReads : kr 0 1 n_h_looseReads) (b_h_impatient : kr 0 1 n_h_impatient) (b_h_crew_size : kr 0 5 n_h_crew_size) (b_h_crew_lineLength : kr 0 5 n_h_crew_lineLength) (b_h_shelf_size : kr 0 24 n_h_shelf_size) (b_h_diary_length : kr 0 600 n_h_diary_length) (b_p0 : kr 0 4 p0) : Met l yX9_bring (kk_W yX9_bring cX9_bring 4 (some .int)) ({ frames := 1, cells := 0, slots := 0, locals := 24 }) (va_Pc [.ref h, .int p0] (kk_pre D cB cI cJ cD [kO h 8 [.ref h_shelf, .ref h_crew, .ref h_diary, .int n_h_gapless, .int n_h_looseReads, .int n_h_impatient, .int n_h_need, .int n_h_needKey], kO h_crew 1 [.int n_h_crew_size, .ref h_crew_state, .ref h_crew_outcome, .ref h_crew_deaths, .ref h_crew_kind, .ref h_crew_low, .ref h_crew_high, .ref h_crew_value, .ref h_crew_need, .ref h_crew_needKey, .ref h_crew_line, .int n_h_crew_lineLength], kI cI h_crew_low 5 f_h_crew_low, kO h_shelf 6 [.int n_h_shelf_size, .ref h_shelf_bits, .ref h_shelf_value, .ref h_shelf_cutter, .ref h_shelf_putter, .ref h_shelf_gaps, .ref h_shelf_sharers, .ref h_shelf_wholes], kI cI h_shelf_bits 24 f_h_shelf_bits, kI cI h_shelf_gaps 25 f_h_shelf_gaps, kI cI h_shelf_cutter 24 f_h_shelf_cutter, kI cI h_shelf_wholes 24 f_h_shelf_wholes, kI cI h_shelf_sharers 24 f_h_shelf_sharers, kI cI h_shelf_value 24 f_h_shelf_value, kO h_diary 3 [.int n_h_diary_length, .ref h_diary_changes], kJ cJ h_diary_changes 600 f_h_diary_changes, kI cI h_crew_value 5 f_h_crew_value, kI cI h_shelf_putter 24 f_h_shelf_putter] sz)) (kk_Qi D (fun (r : Int32) (u : (Nat → Nat) × (Nat → Nat → Int32) × (Nat → Nat → Int64) × (Nat → Int32)) => kr (-4) 24 r ∧ kr 0 24 (u.2.2.2 2) ∧ kr 0 600 (u.2.2.2 3)) (fun u => [kO h 8 [.ref h_shelf, .ref h_crew, .ref h_diary, .int n_h_gapless, .int n_h_looseReads, .int n_h_impatient, .int (u.2.2.2 0), .int (u.2.2.2 1)], kO h_crew 1 [.int n_h_crew_size, .ref h_crew_state, .ref h_crew_outcome, .ref h_crew_deaths, .ref h_crew_kind, .ref h_crew_low, .ref h_crew_high, .ref h_crew_value, .ref h_crew_need, .ref h_crew_needKey, .ref h_crew_line, .int n_h_crew_lineLength], kI cI h_crew_low 5 f_h_crew_low, kO h_shelf 6 [.int (u.2.2.2 2), .ref h_shelf_bits, .ref h_shelf_value, .ref h_shelf_cutter, .ref h_shelf_putter, .ref h_shelf_gaps, .ref h_shelf_sharers, .ref h_shelf_wholes], kI cI h_shelf_bits 24 (u.2.1 0), kI cI h_shelf_gaps 25 (u.2.1 1), kI cI h_shelf_cutter 24 (u.2.1 2), kI cI h_shelf_wholes 24 (u.2.1 3), kI cI h_shelf_sharers 24 (u.2.1 4), kI cI h_shelf_value 24 (u.2.1 5), kO h_diary 3 [.int (u.2.2.2 3), .ref h_diary_changes], kJ cJ h_diary_changes 600 (u.2.2.1 0), kI cI h_crew_value 5 f_h_crew_value, kI cI h_shelf_putter 24 (u.2.1 6)]) (va_A [kO h 8 [.ref h_shelf, .ref h_crew, .ref h_diary, .int n_h_gapless, .int n_h_looseReads, .int n_h_impatient, .int n_h_need, .int n_h_needKey], kO h_crew 1 [.int n_h_crew_size, .ref h_crew_state, .ref h_crew_outcome, .ref h_crew_deaths, .ref h_crew_kind, .ref h_crew_low, .ref h_crew_high, .ref h_crew_value, .ref h_crew_need, .ref h_crew_needKey, .ref h_crew_line, .int n_h_crew_lineLength], kI cI h_crew_low 5 f_h_crew_low, kO h_shelf 6 [.int n_h_shelf_size, .ref h_shelf_bits, .ref h_shelf_value, .ref h_shelf_cutter, .ref h_shelf_putter, .ref h_shelf_gaps, .ref h_shelf_sharers, .ref h_shelf_wholes], kI cI h_shelf_bits 24 f_h_shelf_bits, kI cI h_shelf_gaps 25 f_h_shelf_gaps, kI cI h_shelf_cutter 24 f_h_shelf_cutter, kI cI h_shelf_wholes 24 f_h_shelf_wholes, kI cI h_shelf_sharers 24 f_h_shelf_sharers, kI cI h_shelf_value 24 f_h_shelf_value, kO h_diary 3 [.int n_h_diary_length, .ref h_diary_changes], kJ cJ h_diary_changes 600 f_h_diary_changes, kI cI h_crew_value 5 f_h_crew_value, kI cI h_shelf_putter 24 f_h_shelf_putter] sz)) 0 0 (va_A [kO h 8 [.ref h_shelf, .ref h_crew, .ref h_diary, .int n_h_gapless, .int n_h_looseReads, .int n_h_impatient, .int n_h_need, .int n_h_needKey], kO h_crew 1 [.int n_h_crew_size, .ref h_crew_state, .ref h_crew_outcome, .ref h_crew_deaths, .ref h_crew_kind, .ref h_crew_low, .ref h_crew_high, .ref h_crew_value, .ref h_crew_need, .ref h_crew_needKey, .ref h_crew_line, .int n_h_crew_lineLength], kI cI h_crew_low 5 f_h_crew_low, kO h_shelf 6 [.int n_h_shelf_size, .ref h_shelf_bits, .ref h_shelf_value, .ref h_shelf_cutter, .ref h_shelf_putter, .ref h_shelf_gaps, .ref h_shelf_sharers, .ref h_shelf_wholes], kI cI h_shelf_bits 24 f_h_shelf_bits, kI cI h_shelf_gaps 25 f_h_shelf_gaps, kI cI h_shelf_cutter 24 f_h_shelf_cutter, kI cI h_shelf_wholes 24 f_h_shelf_wholes, kI cI h_shelf_sharers 24 f_h_shelf_sharers, kI cI h_shelf_value 24 f_h_shelf_value, kO h_diary 3 [.int n_h_diary_length, .ref h_diary_changes], kJ cJ h_diary_changes 600 f_h_diary_changes, kI cI h_crew_value 5 f_h_crew_value, kI cI h_shelf_putter 24 f_h_shelf_putter] sz) := by
  refine kk_start (y := yX9_bring) (maxL := 4) (av := [.ref h, .int p0]) (Qc := fun A => kk_Qi D (fun (r : Int32) (u : (Nat → Nat) × (Nat → Nat → Int32) × (Nat → Nat → Int64) × (Nat → Int32)) => kr (-4) 24 r ∧ kr 0 24 (u.2.2.2 2) ∧ kr 0 600 (u.2.2.2 3)) (fun u => [kO h 8 [.ref h_shelf, .ref h_crew, .ref h_diary, .int n_h_gapless, .int n_h_looseReads, .int n_h_impatient, .int (u.2.2.2 0), .int (u.2.2.2 1)], kO h_crew 1 [.int n_h_crew_size, .ref h_crew_state, .ref h_crew_outcome, .ref h_crew_deaths, .ref h_crew_kind, .ref h_crew_low, .ref h_crew_high, .ref h_crew_value, .ref h_crew_need, .ref h_crew_needKey, .ref h_crew_line, .int n_h_crew_lineLength], kI cI h_crew_low 5 f_h_crew_low, kO h_shelf 6 [.int (u.2.2.2 2), .ref h_shelf_bits, .ref h_shelf_value, .ref h_shelf_cutter, .ref h_shelf_putter, .ref h_shelf_gaps, .ref h_shelf_sharers, .ref h_shelf_wholes], kI cI h_shelf_bits 24 (u.2.1 0), kI cI h_shelf_gaps 25 (u.2.1 1), kI cI h_shelf_cutter 24 (u.2.1 2), kI cI h_shelf_wholes 24 (u.2.1 3), kI cI h_shelf_sharers 24 (u.2.1 4), kI cI h_shelf_value 24 (u.2.1 5), kO h_diary 3 [.int (u.2.2.2 3), .ref h_diary_changes], kJ cJ h_diary_changes 600 (u.2.2.1 0), kI cI h_crew_value 5 f_h_crew_value, kI cI h_shelf_putter 24 (u.2.1 6)]) A) (by decide) (Nat.le_of_ble_eq_true rfl) ?_
  intro p e s m below meth c ls A hx hb hr hml hown hts hE hlocks hin hsz hP hD hA hS hl
  have hown : s.vm.findClass RX9 = some m.cls := hown
  have hl : lv_has ls 4 [(0, .ref h), (1, .int p0)] := hl
  generalize hQQ : MQ below _ _ s _ _ _ = QQ
  have J_168 : ∀ (x168_l_3 : Int32) (x168_l_2 : Int32) (H : Heap) (locs : List Loc) (ls : Array Slot), kr 0 23 x168_l_3 → kr 0 23 n_h_shelf_size → kPD D A [kO h 8 [.ref h_shelf, .ref h_crew, .ref h_diary, .int n_h_gapless, .int n_h_looseReads, .int n_h_impatient, .int n_h_need, .int n_h_needKey], kO h_crew 1 [.int n_h_crew_size, .ref h_crew_state, .ref h_crew_outcome, .ref h_crew_deaths, .ref h_crew_kind, .ref h_crew_low, .ref h_crew_high, .ref h_crew_value, .ref h_crew_need, .ref h_crew_needKey, .ref h_crew_line, .int n_h_crew_lineLength], kI cI h_crew_low 5 f_h_crew_low, kO h_shelf 6 [.int n_h_shelf_size, .ref h_shelf_bits, .ref h_shelf_value, .ref h_shelf_cutter, .ref h_shelf_putter, .ref h_shelf_gaps, .ref h_shelf_sharers, .ref h_shelf_wholes], kI cI h_shelf_bits 24 f_h_shelf_bits, kI cI h_shelf_gaps 25 f_h_shelf_gaps, kI cI h_shelf_cutter 24 f_h_shelf_cutter, kI cI h_shelf_wholes 24 f_h_shelf_wholes, kI cI h_shelf_sharers 24 f_h_shelf_sharers, kI cI h_shelf_value 24 f_h_shelf_value, kO h_diary 3 [.int n_h_diary_length, .ref h_diary_changes], kJ cJ h_diary_changes 600 f_h_diary_changes, kI cI h_crew_value 5 f_h_crew_value, kI cI h_shelf_putter 24 f_h_shelf_putter] H → va_S A s.heap H locs → lv_has ls 4 [(3, .int x168_l_3), (2, .int x168_l_2), (0, .ref h), (1, .int p0)] → W p l e ({ frames := 1, cells := 0, slots := 0, locals := 24 }) s m ([.ref h, .int p0] : List Value).toArray below meth c H locs 0 0 QQ (F0 m 168 ls []) := by
    intro x168_l_3 x168_l_2 H locs ls bx168_l_3 c168_n_h_shelf_size hPD hS hl
    obtain ⟨hP, hD⟩ := hPD
    refine lv_aload_n hx hb dX9_bring_168 rfl (lv_at hl 2 rfl) ?_
    refine va_get (D := D) (ci := 8) (v := .ref h_diary) (C := RX9) (T := TX9) (N := 8) hx hb hts u_X9 hown hE.1 hP 0 rfl rfl 2 (by decide) (hts _ w_391) (fun _ h9 => h9) rfl dX9_bring_169 ?_
    refine lv_iload_n hx hb dX9_bring_172 rfl (lv_at hl 3 rfl) ?_
    refine lv_iconst (v := 2) hx hb dX9_bring_173 (by decide) ?_
    refine lv_iload_n hx hb dX9_bring_174 rfl (lv_at hl 1 rfl) ?_
    refine lv_iconst (v := 0) hx hb dX9_bring_175 (by decide) ?_
    refine kk_cv (wr := [kO h 8 [.ref h_shelf, .ref h_crew, .ref h_diary, .int n_h_gapless, .int n_h_looseReads, .int n_h_impatient, .int n_h_need, .int n_h_needKey], kO h_crew 1 [.int n_h_crew_size, .ref h_crew_state, .ref h_crew_outcome, .ref h_crew_deaths, .ref h_crew_kind, .ref h_crew_low, .ref h_crew_high, .ref h_crew_value, .ref h_crew_need, .ref h_crew_needKey, .ref h_crew_line, .int n_h_crew_lineLength], kI cI h_crew_low 5 f_h_crew_low, kO h_shelf 6 [.int n_h_shelf_size, .ref h_shelf_bits, .ref h_shelf_value, .ref h_shelf_cutter, .ref h_shelf_putter, .ref h_shelf_gaps, .ref h_shelf_sharers, .ref h_shelf_wholes], kI cI h_shelf_bits 24 f_h_shelf_bits, kI cI h_shelf_gaps 25 f_h_shelf_gaps, kI cI h_shelf_cutter 24 f_h_shelf_cutter, kI cI h_shelf_wholes 24 f_h_shelf_wholes, kI cI h_shelf_sharers 24 f_h_shelf_sharers, kI cI h_shelf_value 24 f_h_shelf_value, kI cI h_crew_value 5 f_h_crew_value, kI cI h_shelf_putter 24 f_h_shelf_putter]) (kk_runV (w1 := [kO h_diary 3 [.int n_h_diary_length, .ref h_diary_changes], kJ cJ h_diary_changes 600 f_h_diary_changes]) (As := [.int p0, .int 2, .int x168_l_2, .int 0]) (rest := []) hx hb hml hown hts hE (c_X3_note l D cB cI cJ cD h_diary h_diary_changes n_h_diary_length f_h_diary_changes p0 2 x168_l_2 0 H.size b_h_diary_length) m_X3_note w_836 ⟨rfl, rfl, Nat.le_of_ble_eq_true rfl, Nat.le_of_ble_eq_true rfl⟩ (hP.sub [10, 11] rfl) (hD.sub [10, 11] (by decide +kernel) rfl) 0 3 rfl rfl rfl hl.1 (Nat.le_of_ble_eq_true rfl) dX9_bring_176 ⟨Nat.le_of_ble_eq_true rfl, Nat.le_of_ble_eq_true rfl⟩) hP hD hS hA [10, 11] [0, 1, 2, 3, 4, 5, 6, 7, 8, 9, 12, 13] rfl rfl (by decide +kernel) (by decide +kernel) (fun u_1 H locs p_1 hP hD hS => ?_)
    obtain ⟨hP, hD⟩ : kPD D A [kO h 8 [.ref h_shelf, .ref h_crew, .ref h_diary, .int n_h_gapless, .int n_h_looseReads, .int n_h_impatient, .int n_h_need, .int n_h_needKey], kO h_crew 1 [.int n_h_crew_size, .ref h_crew_state, .ref h_crew_outcome, .ref h_crew_deaths, .ref h_crew_kind, .ref h_crew_low, .ref h_crew_high, .ref h_crew_value, .ref h_crew_need, .ref h_crew_needKey, .ref h_crew_line, .int n_h_crew_lineLength], kI cI h_crew_low 5 f_h_crew_low, kO h_shelf 6 [.int n_h_shelf_size, .ref h_shelf_bits, .ref h_shelf_value, .ref h_shelf_cutter, .ref h_shelf_putter, .ref h_shelf_gaps, .ref h_shelf_sharers, .ref h_shelf_wholes], kI cI h_shelf_bits 24 f_h_shelf_bits, kI cI h_shelf_gaps 25 f_h_shelf_gaps, kI cI h_shelf_cutter 24 f_h_shelf_cutter, kI cI h_shelf_wholes 24 f_h_shelf_wholes, kI cI h_shelf_sharers 24 f_h_shelf_sharers, kI cI h_shelf_value 24 f_h_shelf_value, kI cI h_crew_value 5 f_h_crew_value, kI cI h_shelf_putter 24 f_h_shelf_putter, kO h_diary 3 [.int (u_1.2.2.2 0), .ref h_diary_changes], kJ cJ h_diary_changes 600 (u_1.2.2.1 0)] H := ⟨hP, hD⟩
    refine lv_aload_n hx hb dX9_bring_179 rfl (lv_at hl 2 rfl) ?_
    refine va_get (D := D) (ci := 8) (v := .ref h_shelf) (C := RX9) (T := TX9) (N := 8) hx hb hts u_X9 hown hE.1 hP 0 rfl rfl 0 (by decide) (hts _ w_384) (fun _ h9 => h9) rfl dX9_bring_180 ?_
    refine lv_iload_n hx hb dX9_bring_183 rfl (lv_at hl 0 rfl) ?_
    refine lv_iload_n hx hb dX9_bring_184 rfl (lv_at hl 1 rfl) ?_
    refine lv_aload_n hx hb dX9_bring_185 rfl (lv_at hl 2 rfl) ?_
    refine va_get (D := D) (ci := 8) (v := .ref h_crew) (C := RX9) (T := TX9) (N := 8) hx hb hts u_X9 hown hE.1 hP 0 rfl rfl 1 (by decide) (hts _ w_387) (fun _ h9 => h9) rfl dX9_bring_186 ?_
    refine va_get (D := D) (ci := 1) (v := .ref h_crew_value) (C := RX1) (T := TX1) (N := 12) hx hb hts u_X1 hown hE.1 hP 1 rfl rfl 7 (by decide) (hts _ w_333) (fun _ h9 => h9) rfl dX9_bring_189 ?_
    refine lv_iload_n hx hb dX9_bring_192 rfl (lv_at hl 3 rfl) ?_
    refine va_iald hx hb hE.1 hP 10 1 rfl rfl (kr_in b_p0 rfl) dX9_bring_193 ?_
    refine lv_topi (fun v_2 e_2 => ?_)
    refine kk_cv (wr := [kO h 8 [.ref h_shelf, .ref h_crew, .ref h_diary, .int n_h_gapless, .int n_h_looseReads, .int n_h_impatient, .int n_h_need, .int n_h_needKey], kO h_crew 1 [.int n_h_crew_size, .ref h_crew_state, .ref h_crew_outcome, .ref h_crew_deaths, .ref h_crew_kind, .ref h_crew_low, .ref h_crew_high, .ref h_crew_value, .ref h_crew_need, .ref h_crew_needKey, .ref h_crew_line, .int n_h_crew_lineLength], kI cI h_crew_low 5 f_h_crew_low, kI cI h_crew_value 5 f_h_crew_value, kO h_diary 3 [.int (u_1.2.2.2 0), .ref h_diary_changes], kJ cJ h_diary_changes 600 (u_1.2.2.1 0)]) (kk_runV (w1 := [kO h_shelf 6 [.int n_h_shelf_size, .ref h_shelf_bits, .ref h_shelf_value, .ref h_shelf_cutter, .ref h_shelf_putter, .ref h_shelf_gaps, .ref h_shelf_sharers, .ref h_shelf_wholes], kI cI h_shelf_gaps 25 f_h_shelf_gaps, kI cI h_shelf_bits 24 f_h_shelf_bits, kI cI h_shelf_value 24 f_h_shelf_value, kI cI h_shelf_cutter 24 f_h_shelf_cutter, kI cI h_shelf_putter 24 f_h_shelf_putter, kI cI h_shelf_sharers 24 f_h_shelf_sharers, kI cI h_shelf_wholes 24 f_h_shelf_wholes]) (As := [.int x168_l_3, .int x168_l_2, .int v_2]) (rest := []) hx hb hml hown hts hE (c_X7_insert l D cB cI cJ cD h_shelf h_shelf_gaps h_shelf_bits h_shelf_value h_shelf_cutter h_shelf_putter h_shelf_sharers h_shelf_wholes n_h_shelf_size f_h_shelf_gaps f_h_shelf_bits f_h_shelf_value f_h_shelf_cutter f_h_shelf_putter f_h_shelf_sharers f_h_shelf_wholes x168_l_3 x168_l_2 v_2 H.size (kr_w c168_n_h_shelf_size rfl)) m_X7_insert w_844 ⟨rfl, rfl, Nat.le_of_ble_eq_true rfl, Nat.le_of_ble_eq_true rfl⟩ (hP.sub [3, 5, 4, 9, 6, 11, 8, 7] rfl) (hD.sub [3, 5, 4, 9, 6, 11, 8, 7] (by decide +kernel) rfl) 0 6 rfl rfl rfl hl.1 (Nat.le_of_ble_eq_true rfl) dX9_bring_194 ⟨Nat.le_of_ble_eq_true rfl, Nat.le_of_ble_eq_true rfl⟩) hP hD hS hA [3, 5, 4, 9, 6, 11, 8, 7] [0, 1, 2, 10, 12, 13] rfl rfl (by decide +kernel) (by decide +kernel) (fun u_3 H locs p_3 hP hD hS => ?_)
    obtain ⟨hP, hD⟩ : kPD D A [kO h 8 [.ref h_shelf, .ref h_crew, .ref h_diary, .int n_h_gapless, .int n_h_looseReads, .int n_h_impatient, .int n_h_need, .int n_h_needKey], kO h_crew 1 [.int n_h_crew_size, .ref h_crew_state, .ref h_crew_outcome, .ref h_crew_deaths, .ref h_crew_kind, .ref h_crew_low, .ref h_crew_high, .ref h_crew_value, .ref h_crew_need, .ref h_crew_needKey, .ref h_crew_line, .int n_h_crew_lineLength], kI cI h_crew_low 5 f_h_crew_low, kI cI h_crew_value 5 f_h_crew_value, kO h_diary 3 [.int (u_1.2.2.2 0), .ref h_diary_changes], kJ cJ h_diary_changes 600 (u_1.2.2.1 0), kO h_shelf 6 [.int (u_3.2.2.2 0), .ref h_shelf_bits, .ref h_shelf_value, .ref h_shelf_cutter, .ref h_shelf_putter, .ref h_shelf_gaps, .ref h_shelf_sharers, .ref h_shelf_wholes], kI cI h_shelf_gaps 25 (u_3.2.1 0), kI cI h_shelf_bits 24 (u_3.2.1 1), kI cI h_shelf_value 24 (u_3.2.1 2), kI cI h_shelf_cutter 24 (u_3.2.1 3), kI cI h_shelf_putter 24 (u_3.2.1 4), kI cI h_shelf_sharers 24 (u_3.2.1 5), kI cI h_shelf_wholes 24 (u_3.2.1 6)] H := ⟨hP, hD⟩
    refine lv_aload_n hx hb dX9_bring_197 rfl (lv_at hl 2 rfl) ?_
    refine va_get (D := D) (ci := 8) (v := .ref h_shelf) (C := RX9) (T := TX9) (N := 8) hx hb hts u_X9 hown hE.1 hP 0 rfl rfl 0 (by decide) (hts _ w_384) (fun _ h9 => h9) rfl dX9_bring_198 ?_
    refine va_get (D := D) (ci := 6) (v := .ref h_shelf_putter) (C := RX7) (T := TX7) (N := 8) hx hb hts u_X7 hown hE.1 hP 6 rfl rfl 4 (by decide) (hts _ w_176) (fun _ h9 => h9) rfl dX9_bring_201 ?_
    refine lv_iload_n hx hb dX9_bring_204 rfl (lv_at hl 0 rfl) ?_
    refine lv_iload_n hx hb dX9_bring_205 rfl (lv_at hl 3 rfl) ?_
    refine va_iast hx hb hE.1 hP hD hS 11 1 rfl rfl (kr_in bx168_l_3 rfl) dX9_bring_206 (fun H locs hP hD hS => ?_)
    obtain ⟨f_4, ef_4⟩ : ∃ z, z = (upd (u_3.2.1 4) (Int32.toNatClampNeg x168_l_3) p0) := ⟨_, rfl⟩
    rw [← ef_4] at hP hD
    obtain ⟨hP, hD⟩ : kPD D A [kO h 8 [.ref h_shelf, .ref h_crew, .ref h_diary, .int n_h_gapless, .int n_h_looseReads, .int n_h_impatient, .int n_h_need, .int n_h_needKey], kO h_crew 1 [.int n_h_crew_size, .ref h_crew_state, .ref h_crew_outcome, .ref h_crew_deaths, .ref h_crew_kind, .ref h_crew_low, .ref h_crew_high, .ref h_crew_value, .ref h_crew_need, .ref h_crew_needKey, .ref h_crew_line, .int n_h_crew_lineLength], kI cI h_crew_low 5 f_h_crew_low, kI cI h_crew_value 5 f_h_crew_value, kO h_diary 3 [.int (u_1.2.2.2 0), .ref h_diary_changes], kJ cJ h_diary_changes 600 (u_1.2.2.1 0), kO h_shelf 6 [.int (u_3.2.2.2 0), .ref h_shelf_bits, .ref h_shelf_value, .ref h_shelf_cutter, .ref h_shelf_putter, .ref h_shelf_gaps, .ref h_shelf_sharers, .ref h_shelf_wholes], kI cI h_shelf_gaps 25 (u_3.2.1 0), kI cI h_shelf_bits 24 (u_3.2.1 1), kI cI h_shelf_value 24 (u_3.2.1 2), kI cI h_shelf_cutter 24 (u_3.2.1 3), kI cI h_shelf_putter 24 f_4, kI cI h_shelf_sharers 24 (u_3.2.1 5), kI cI h_shelf_wholes 24 (u_3.2.1 6)] H := ⟨hP, hD⟩
    refine lv_aload_n hx hb dX9_bring_207 rfl (lv_at hl 2 rfl) ?_
    refine lv_iload_n hx hb dX9_bring_208 rfl (lv_at hl 3 rfl) ?_
    refine lv_iload_n hx hb dX9_bring_209 rfl (lv_at hl 0 rfl) ?_
    refine lv_iconst (v := 1) hx hb dX9_bring_210 (by decide) ?_
    refine kk_ci (wr := [kO h_crew 1 [.int n_h_crew_size, .ref h_crew_state, .ref h_crew_outcome, .ref h_crew_deaths, .ref h_crew_kind, .ref h_crew_low, .ref h_crew_high, .ref h_crew_value, .ref h_crew_need, .ref h_crew_needKey, .ref h_crew_line, .int n_h_crew_lineLength], kI cI h_crew_low 5 f_h_crew_low, kI cI h_crew_value 5 f_h_crew_value, kO h_diary 3 [.int (u_1.2.2.2 0), .ref h_diary_changes], kJ cJ h_diary_changes 600 (u_1.2.2.1 0), kI cI h_shelf_gaps 25 (u_3.2.1 0), kI cI h_shelf_bits 24 (u_3.2.1 1), kI cI h_shelf_value 24 (u_3.2.1 2), kI cI h_shelf_cutter 24 (u_3.2.1 3), kI cI h_shelf_putter 24 f_4]) (kk_runV (w1 := [kO h 8 [.ref h_shelf, .ref h_crew, .ref h_diary, .int n_h_gapless, .int n_h_looseReads, .int n_h_impatient, .int n_h_need, .int n_h_needKey], kO h_shelf 6 [.int (u_3.2.2.2 0), .ref h_shelf_bits, .ref h_shelf_value, .ref h_shelf_cutter, .ref h_shelf_putter, .ref h_shelf_gaps, .ref h_shelf_sharers, .ref h_shelf_wholes], kI cI h_shelf_wholes 24 (u_3.2.1 6), kI cI h_shelf_sharers 24 (u_3.2.1 5)]) (As := [.int p0, .int x168_l_3, .int 1]) (rest := []) hx hb hml hown hts hE (c_X9_locked l D cB cI cJ cD h h_shelf h_shelf_wholes h_shelf_sharers h_crew h_diary h_shelf_bits h_shelf_value h_shelf_cutter h_shelf_putter h_shelf_gaps n_h_gapless n_h_looseReads n_h_impatient n_h_need n_h_needKey (u_3.2.2.2 0) (u_3.2.1 6) (u_3.2.1 5) p0 x168_l_3 1 H.size b_h_gapless b_h_looseReads b_h_impatient p_3 bx168_l_3) m_X9_locked w_840 ⟨rfl, rfl, Nat.le_of_ble_eq_true rfl, Nat.le_of_ble_eq_true rfl⟩ (hP.sub [0, 6, 13, 12] rfl) (hD.sub [0, 6, 13, 12] (by decide +kernel) rfl) 0 8 rfl rfl rfl hl.1 (Nat.le_of_ble_eq_true rfl) dX9_bring_211 ⟨Nat.le_of_ble_eq_true rfl, Nat.le_of_ble_eq_true rfl⟩) hP hD hS hA [0, 6, 13, 12] [1, 2, 3, 4, 5, 7, 8, 9, 10, 11] rfl rfl (by decide +kernel) (by decide +kernel) (fun r_6 u_5 H locs p_5 hP hD hS => ?_)
    obtain ⟨hP, hD⟩ : kPD D A [kO h_crew 1 [.int n_h_crew_size, .ref h_crew_state, .ref h_crew_outcome, .ref h_crew_deaths, .ref h_crew_kind, .ref h_crew_low, .ref h_crew_high, .ref h_crew_value, .ref h_crew_need, .ref h_crew_needKey, .ref h_crew_line, .int n_h_crew_lineLength], kI cI h_crew_low 5 f_h_crew_low, kI cI h_crew_value 5 f_h_crew_value, kO h_diary 3 [.int (u_1.2.2.2 0), .ref h_diary_changes], kJ cJ h_diary_changes 600 (u_1.2.2.1 0), kI cI h_shelf_gaps 25 (u_3.2.1 0), kI cI h_shelf_bits 24 (u_3.2.1 1), kI cI h_shelf_value 24 (u_3.2.1 2), kI cI h_shelf_cutter 24 (u_3.2.1 3), kI cI h_shelf_putter 24 f_4, kO h 8 [.ref h_shelf, .ref h_crew, .ref h_diary, .int n_h_gapless, .int n_h_looseReads, .int n_h_impatient, .int n_h_need, .int n_h_needKey], kO h_shelf 6 [.int (u_3.2.2.2 0), .ref h_shelf_bits, .ref h_shelf_value, .ref h_shelf_cutter, .ref h_shelf_putter, .ref h_shelf_gaps, .ref h_shelf_sharers, .ref h_shelf_wholes], kI cI h_shelf_wholes 24 (u_5.2.1 0), kI cI h_shelf_sharers 24 (u_5.2.1 1)] H := ⟨hP, hD⟩
    have b_6 : kr 0 1 r_6 := p_5
    refine lv_pop hx hb dX9_bring_214 rfl ?_
    refine lv_aload_n hx hb dX9_bring_215 rfl (lv_at hl 2 rfl) ?_
    refine va_get (D := D) (ci := 8) (v := .ref h_shelf) (C := RX9) (T := TX9) (N := 8) hx hb hts u_X9 hown hE.1 hP 10 rfl rfl 0 (by decide) (hts _ w_384) (fun _ h9 => h9) rfl dX9_bring_216 ?_
    refine va_get (D := D) (ci := 6) (v := .int (u_3.2.2.2 0)) (C := RX7) (T := TX7) (N := 8) hx hb hts u_X7 hown hE.1 hP 11 rfl rfl 0 (by decide) (hts _ w_160) (fun _ h9 => h9) rfl dX9_bring_219 ?_
    subst hQQ
    exact kk_ret_i ((fun _ => 0), (fun i => [(u_3.2.1 1), (u_3.2.1 0), (u_3.2.1 3), (u_5.2.1 0), (u_5.2.1 1), (u_3.2.1 2), f_4].getD i (fun _ => 0)), (fun i => [(u_1.2.2.1 0)].getD i (fun _ => 0)), (fun i => [n_h_need, n_h_needKey, (u_3.2.2.2 0), (u_1.2.2.2 0)].getD i 0)) hx hb hr hlocks ⟨(kr_w p_3 rfl), p_3, (kr_w p_1 rfl)⟩ (hP.sub [10, 0, 1, 11, 6, 5, 8, 12, 13, 7, 3, 4, 2, 9] rfl) (hD.sub [10, 0, 1, 11, 6, 5, 8, 12, 13, 7, 3, 4, 2, 9] (by decide +kernel) rfl) hS dX9_bring_222 (Nat.le_of_ble_eq_true rfl) (Nat.le_of_ble_eq_true rfl)
  refine lv_aload_n hx hb dX9_bring_0 rfl (lv_at hl 0 rfl) ?_
  refine va_get (D := D) (ci := 8) (v := .ref h_crew) (C := RX9) (T := TX9) (N := 8) hx hb hts u_X9 hown hE.1 hP 0 rfl rfl 1 (by decide) (hts _ w_387) (fun _ h9 => h9) rfl dX9_bring_1 ?_
  refine va_get (D := D) (ci := 1) (v := .ref h_crew_low) (C := RX1) (T := TX1) (N := 12) hx hb hts u_X1 hown hE.1 hP 1 rfl rfl 5 (by decide) (hts _ w_329) (fun _ h9 => h9) rfl dX9_bring_4 ?_
  refine lv_iload_n hx hb dX9_bring_7 rfl (lv_at hl 1 rfl) ?_
  refine va_iald hx hb hE.1 hP 2 1 rfl rfl (kr_in b_p0 rfl) dX9_bring_8 ?_
  refine lv_topi (fun v_7 e_7 => ?_)
  refine lv_istore_n (lv' := [(2, .int v_7), (0, .ref h), (1, .int p0)]) hx hb dX9_bring_9 rfl hl (by decide) rfl (fun ls hl => ?_)
  refine lv_aload_n hx hb dX9_bring_10 rfl (lv_at hl 1 rfl) ?_
  refine va_get (D := D) (ci := 8) (v := .ref h_shelf) (C := RX9) (T := TX9) (N := 8) hx hb hts u_X9 hown hE.1 hP 0 rfl rfl 0 (by decide) (hts _ w_384) (fun _ h9 => h9) rfl dX9_bring_11 ?_
  refine lv_iload_n hx hb dX9_bring_14 rfl (lv_at hl 0 rfl) ?_
  refine kk_pi (kk_runV (w1 := [kO h_shelf 6 [.int n_h_shelf_size, .ref h_shelf_bits, .ref h_shelf_value, .ref h_shelf_cutter, .ref h_shelf_putter, .ref h_shelf_gaps, .ref h_shelf_sharers, .ref h_shelf_wholes], kI cI h_shelf_bits 24 f_h_shelf_bits]) (As := [.int v_7]) (rest := []) hx hb hml hown hts hE (c_X7_placeFrom l D cB cI cJ cD h_shelf h_shelf_bits h_shelf_value h_shelf_cutter h_shelf_putter h_shelf_gaps h_shelf_sharers h_shelf_wholes n_h_shelf_size f_h_shelf_bits v_7 s.heap.size b_h_shelf_size) m_X7_placeFrom w_804 ⟨rfl, rfl, Nat.le_of_ble_eq_true rfl, Nat.le_of_ble_eq_true rfl⟩ (hP.sub [3, 4] rfl) (hD.sub [3, 4] (by decide +kernel) rfl) 0 6 rfl rfl rfl hl.1 (Nat.le_of_ble_eq_true rfl) dX9_bring_15 ⟨Nat.le_of_ble_eq_true rfl, Nat.le_of_ble_eq_true rfl⟩) (fun r_8 p_8 => ?_)
  have b_8 : kr 0 24 r_8 := p_8.1
  have g_9 : r_8.toInt ≤ n_h_shelf_size.toInt := p_8.2
  refine lv_istore_n (lv' := [(3, .int r_8), (2, .int v_7), (0, .ref h), (1, .int p0)]) hx hb dX9_bring_18 rfl hl (by decide) rfl (fun ls hl => ?_)
  refine lv_aload_n hx hb dX9_bring_19 rfl (lv_at hl 2 rfl) ?_
  refine va_get (D := D) (ci := 8) (v := .ref h_shelf) (C := RX9) (T := TX9) (N := 8) hx hb hts u_X9 hown hE.1 hP 0 rfl rfl 0 (by decide) (hts _ w_384) (fun _ h9 => h9) rfl dX9_bring_20 ?_
  refine lv_iload_n hx hb dX9_bring_23 rfl (lv_at hl 0 rfl) ?_
  refine lv_iload_n hx hb dX9_bring_24 rfl (lv_at hl 1 rfl) ?_
  refine kk_pi (kk_runV (w1 := [kO h_shelf 6 [.int n_h_shelf_size, .ref h_shelf_bits, .ref h_shelf_value, .ref h_shelf_cutter, .ref h_shelf_putter, .ref h_shelf_gaps, .ref h_shelf_sharers, .ref h_shelf_wholes], kI cI h_shelf_bits 24 f_h_shelf_bits]) (As := [.int r_8, .int v_7]) (rest := []) hx hb hml hown hts hE (c_X7_hasAt l D cB cI cJ cD h_shelf h_shelf_bits h_shelf_value h_shelf_cutter h_shelf_putter h_shelf_gaps h_shelf_sharers h_shelf_wholes n_h_shelf_size f_h_shelf_bits r_8 v_7 s.heap.size b_h_shelf_size b_8) m_X7_hasAt w_806 ⟨rfl, rfl, Nat.le_of_ble_eq_true rfl, Nat.le_of_ble_eq_true rfl⟩ (hP.sub [3, 4] rfl) (hD.sub [3, 4] (by decide +kernel) rfl) 0 6 rfl rfl rfl hl.1 (Nat.le_of_ble_eq_true rfl) dX9_bring_25 ⟨Nat.le_of_ble_eq_true rfl, Nat.le_of_ble_eq_true rfl⟩) (fun r_10 p_10 => ?_)
  have b_10 : kr 0 1 r_10 := p_10.1
  refine lv_if_eq (tgt := 122) hx hb dX9_bring_28 (by decide) (fun c_11 => ?_) (fun c_11 => ?_)
  · have b_12 : kr 0 0 r_10 := kr_eq_l b_10 (kr_c 0 0 rfl) c_11 rfl
    refine lv_aload_n hx hb dX9_bring_122 rfl (lv_at hl 2 rfl) ?_
    refine va_get (D := D) (ci := 8) (v := .ref h_shelf) (C := RX9) (T := TX9) (N := 8) hx hb hts u_X9 hown hE.1 hP 0 rfl rfl 0 (by decide) (hts _ w_384) (fun _ h9 => h9) rfl dX9_bring_123 ?_
    refine va_get (D := D) (ci := 6) (v := .int n_h_shelf_size) (C := RX7) (T := TX7) (N := 8) hx hb hts u_X7 hown hE.1 hP 3 rfl rfl 0 (by decide) (hts _ w_160) (fun _ h9 => h9) rfl dX9_bring_126 ?_
    refine lv_bipush (v := 24) hx hb dX9_bring_129 (by decide) ?_
    refine lv_icmp_lt (tgt := 136) hx hb dX9_bring_131 (by decide) (fun c_13 => ?_) (fun c_13 => ?_)
    · have i_13 : n_h_shelf_size.toInt < 24 := (ki_lt c_13)
      have b_14 : kr 0 23 n_h_shelf_size := kr_lt_l b_h_shelf_size (kr_c 24 24 rfl) i_13 rfl
      have b_15 : kr 0 23 r_8 := kr_le_l b_8 b_14 g_9 rfl
      refine lv_aload_n hx hb dX9_bring_136 rfl (lv_at hl 2 rfl) ?_
      refine va_get (D := D) (ci := 8) (v := .int n_h_gapless) (C := RX9) (T := TX9) (N := 8) hx hb hts u_X9 hown hE.1 hP 0 rfl rfl 3 (by decide) (hts _ w_394) (fun _ h9 => h9) rfl dX9_bring_137 ?_
      refine lv_if_ne (tgt := 168) hx hb dX9_bring_140 (by decide) (fun c_16 => ?_) (fun c_16 => ?_)
      · have b_17 : kr 1 1 n_h_gapless := kr_ne_lo b_h_gapless c_16 rfl
        exact J_168 r_8 v_7 _ _ _ b_15 b_14 ⟨hP, hD⟩ hS (lv_sub hl [0, 1, 2, 3] rfl)
      · have b_18 : kr 0 0 n_h_gapless := kr_eq_l b_h_gapless (kr_c 0 0 rfl) c_16 rfl
        refine lv_aload_n hx hb dX9_bring_143 rfl (lv_at hl 2 rfl) ?_
        refine va_get (D := D) (ci := 8) (v := .ref h_shelf) (C := RX9) (T := TX9) (N := 8) hx hb hts u_X9 hown hE.1 hP 0 rfl rfl 0 (by decide) (hts _ w_384) (fun _ h9 => h9) rfl dX9_bring_144 ?_
        refine va_get (D := D) (ci := 6) (v := .ref h_shelf_gaps) (C := RX7) (T := TX7) (N := 8) hx hb hts u_X7 hown hE.1 hP 3 rfl rfl 5 (by decide) (hts _ w_178) (fun _ h9 => h9) rfl dX9_bring_147 ?_
        refine lv_iload_n hx hb dX9_bring_150 rfl (lv_at hl 0 rfl) ?_
        refine va_iald hx hb hE.1 hP 5 1 rfl rfl (kr_in b_15 rfl) dX9_bring_151 ?_
        refine lv_topi (fun v_19 e_19 => ?_)
        refine lv_iconst (v := 1) hx hb dX9_bring_152 (by decide) ?_
        refine lv_iload_n hx hb dX9_bring_153 rfl (lv_at hl 3 rfl) ?_
        refine lv_ishl hx hb dX9_bring_154 ?_
        refine lv_topi (fun v_20 e_20 => ?_)
        refine lv_iconst (v := (-1)) hx hb dX9_bring_155 (by decide) ?_
        refine lv_ixor hx hb dX9_bring_156 ?_
        refine lv_topi (fun v_21 e_21 => ?_)
        refine lv_iand hx hb dX9_bring_157 ?_
        refine lv_topi (fun v_22 e_22 => ?_)
        refine lv_if_eq (tgt := 168) hx hb dX9_bring_158 (by decide) (fun c_23 => ?_) (fun c_23 => ?_)
        · have b_24 : kr 0 0 v_22 := kr_eq_l (kr_all v_22) (kr_c 0 0 rfl) c_23 rfl
          exact J_168 r_8 v_7 _ _ _ b_15 b_14 ⟨hP, hD⟩ hS (lv_sub hl [0, 1, 2, 3] rfl)
        · refine lv_aload_n hx hb dX9_bring_161 rfl (lv_at hl 2 rfl) ?_
          refine lv_iconst (v := 3) hx hb dX9_bring_162 (by decide) ?_
          refine lv_iload_n hx hb dX9_bring_163 rfl (lv_at hl 1 rfl) ?_
          refine kk_ci (wr := [kO h_crew 1 [.int n_h_crew_size, .ref h_crew_state, .ref h_crew_outcome, .ref h_crew_deaths, .ref h_crew_kind, .ref h_crew_low, .ref h_crew_high, .ref h_crew_value, .ref h_crew_need, .ref h_crew_needKey, .ref h_crew_line, .int n_h_crew_lineLength], kI cI h_crew_low 5 f_h_crew_low, kO h_shelf 6 [.int n_h_shelf_size, .ref h_shelf_bits, .ref h_shelf_value, .ref h_shelf_cutter, .ref h_shelf_putter, .ref h_shelf_gaps, .ref h_shelf_sharers, .ref h_shelf_wholes], kI cI h_shelf_bits 24 f_h_shelf_bits, kI cI h_shelf_gaps 25 f_h_shelf_gaps, kI cI h_shelf_cutter 24 f_h_shelf_cutter, kI cI h_shelf_wholes 24 f_h_shelf_wholes, kI cI h_shelf_sharers 24 f_h_shelf_sharers, kI cI h_shelf_value 24 f_h_shelf_value, kO h_diary 3 [.int n_h_diary_length, .ref h_diary_changes], kJ cJ h_diary_changes 600 f_h_diary_changes, kI cI h_crew_value 5 f_h_crew_value, kI cI h_shelf_putter 24 f_h_shelf_putter]) (kk_runV (w1 := [kO h 8 [.ref h_shelf, .ref h_crew, .ref h_diary, .int n_h_gapless, .int n_h_looseReads, .int n_h_impatient, .int n_h_need, .int n_h_needKey]]) (As := [.int 3, .int v_7]) (rest := []) hx hb hml hown hts hE (c_X9_stoppedAt l D cB cI cJ cD h h_shelf h_crew h_diary n_h_gapless n_h_looseReads n_h_impatient n_h_need n_h_needKey 3 v_7 s.heap.size (kr_w b_18 rfl) b_h_looseReads b_h_impatient) m_X9_stoppedAt w_828 ⟨rfl, rfl, Nat.le_of_ble_eq_true rfl, Nat.le_of_ble_eq_true rfl⟩ (hP.sub [0] rfl) (hD.sub [0] (by decide +kernel) rfl) 0 8 rfl rfl rfl hl.1 (Nat.le_of_ble_eq_true rfl) dX9_bring_164 ⟨Nat.le_of_ble_eq_true rfl, Nat.le_of_ble_eq_true rfl⟩) hP hD hS hA [0] [1, 2, 3, 4, 5, 6, 7, 8, 9, 10, 11, 12, 13] rfl rfl (by decide +kernel) (by decide +kernel) (fun r_26 u_25 H locs p_25 hP hD hS => ?_)
          obtain ⟨hP, hD⟩ : kPD D A [kO h_crew 1 [.int n_h_crew_size, .ref h_crew_state, .ref h_crew_outcome, .ref h_crew_deaths, .ref h_crew_kind, .ref h_crew_low, .ref h_crew_high, .ref h_crew_value, .ref h_crew_need, .ref h_crew_needKey, .ref h_crew_line, .int n_h_crew_lineLength], kI cI h_crew_low 5 f_h_crew_low, kO h_shelf 6 [.int n_h_shelf_size, .ref h_shelf_bits, .ref h_shelf_value, .ref h_shelf_cutter, .ref h_shelf_putter, .ref h_shelf_gaps, .ref h_shelf_sharers, .ref h_shelf_wholes], kI cI h_shelf_bits 24 f_h_shelf_bits, kI cI h_shelf_gaps 25 f_h_shelf_gaps, kI cI h_shelf_cutter 24 f_h_shelf_cutter, kI cI h_shelf_wholes 24 f_h_shelf_wholes, kI cI h_shelf_sharers 24 f_h_shelf_sharers, kI cI h_shelf_value 24 f_h_shelf_value, kO h_diary 3 [.int n_h_diary_length, .ref h_diary_changes], kJ cJ h_diary_changes 600 f_h_diary_changes, kI cI h_crew_value 5 f_h_crew_value, kI cI h_shelf_putter 24 f_h_shelf_putter, kO h 8 [.ref h_shelf, .ref h_crew, .ref h_diary, .int n_h_gapless, .int n_h_looseReads, .int n_h_impatient, .int (u_25.2.2.2 0), .int (u_25.2.2.2 1)]] H := ⟨hP, hD⟩
          obtain rfl : r_26 = (-2) := kr_one p_25 rfl
          subst hQQ
          exact kk_ret_i ((fun _ => 0), (fun i => [f_h_shelf_bits, f_h_shelf_gaps, f_h_shelf_cutter, f_h_shelf_wholes, f_h_shelf_sharers, f_h_shelf_value, f_h_shelf_putter].getD i (fun _ => 0)), (fun i => [f_h_diary_changes].getD i (fun _ => 0)), (fun i => [(u_25.2.2.2 0), (u_25.2.2.2 1), n_h_shelf_size, n_h_diary_length].getD i 0)) hx hb hr hlocks ⟨(kr_w (kr_c (-2) (-2) rfl) rfl), (kr_w b_14 rfl), b_h_diary_length⟩ (hP.sub [13, 0, 1, 2, 3, 4, 5, 6, 7, 8, 9, 10, 11, 12] rfl) (hD.sub [13, 0, 1, 2, 3, 4, 5, 6, 7, 8, 9, 10, 11, 12] (by decide +kernel) rfl) hS dX9_bring_167 (Nat.le_of_ble_eq_true rfl) (Nat.le_of_ble_eq_true rfl)
    · have i_13 : 24 ≤ n_h_shelf_size.toInt := (ki_nlt c_13)
      have b_27 : kr 24 24 n_h_shelf_size := kr_le_r (kr_c 24 24 rfl) b_h_shelf_size i_13 rfl
      refine lv_iconst (v := (-1)) hx hb dX9_bring_134 (by decide) ?_
      subst hQQ
      exact kk_ret_i ((fun _ => 0), (fun i => [f_h_shelf_bits, f_h_shelf_gaps, f_h_shelf_cutter, f_h_shelf_wholes, f_h_shelf_sharers, f_h_shelf_value, f_h_shelf_putter].getD i (fun _ => 0)), (fun i => [f_h_diary_changes].getD i (fun _ => 0)), (fun i => [n_h_need, n_h_needKey, n_h_shelf_size, n_h_diary_length].getD i 0)) hx hb hr hlocks ⟨(kr_w (kr_c (-1) (-1) rfl) rfl), (kr_w b_27 rfl), b_h_diary_length⟩ (hP.sub [0, 1, 2, 3, 4, 5, 6, 7, 8, 9, 10, 11, 12, 13] rfl) (hD.sub [0, 1, 2, 3, 4, 5, 6, 7, 8, 9, 10, 11, 12, 13] (by decide +kernel) rfl) hS dX9_bring_135 (Nat.le_of_ble_eq_true rfl) (Nat.le_of_ble_eq_true rfl)
  · have b_28 : kr 1 1 r_10 := kr_ne_lo b_10 c_11 rfl
    have b_29 : kr 0 23 r_8 := p_10.2 c_11
    refine lv_aload_n hx hb dX9_bring_31 rfl (lv_at hl 2 rfl) ?_
    refine va_get (D := D) (ci := 8) (v := .ref h_shelf) (C := RX9) (T := TX9) (N := 8) hx hb hts u_X9 hown hE.1 hP 0 rfl rfl 0 (by decide) (hts _ w_384) (fun _ h9 => h9) rfl dX9_bring_32 ?_
    refine va_get (D := D) (ci := 6) (v := .ref h_shelf_cutter) (C := RX7) (T := TX7) (N := 8) hx hb hts u_X7 hown hE.1 hP 3 rfl rfl 3 (by decide) (hts _ w_173) (fun _ h9 => h9) rfl dX9_bring_35 ?_
    refine lv_iload_n hx hb dX9_bring_38 rfl (lv_at hl 0 rfl) ?_
    refine va_iald hx hb hE.1 hP 6 1 rfl rfl (kr_in b_29 rfl) dX9_bring_39 ?_
    refine lv_topi (fun v_30 e_30 => ?_)
    refine lv_iload_n hx hb dX9_bring_40 rfl (lv_at hl 3 rfl) ?_
    refine lv_icmp_ne (tgt := 100) hx hb dX9_bring_41 (by decide) (fun c_31 => ?_) (fun c_31 => ?_)
    · refine lv_aload_n hx hb dX9_bring_100 rfl (lv_at hl 2 rfl) ?_
      refine lv_iload_n hx hb dX9_bring_101 rfl (lv_at hl 3 rfl) ?_
      refine lv_iload_n hx hb dX9_bring_102 rfl (lv_at hl 0 rfl) ?_
      refine lv_iconst (v := 0) hx hb dX9_bring_103 (by decide) ?_
      refine kk_ci (wr := [kO h_crew 1 [.int n_h_crew_size, .ref h_crew_state, .ref h_crew_outcome, .ref h_crew_deaths, .ref h_crew_kind, .ref h_crew_low, .ref h_crew_high, .ref h_crew_value, .ref h_crew_need, .ref h_crew_needKey, .ref h_crew_line, .int n_h_crew_lineLength], kI cI h_crew_low 5 f_h_crew_low, kI cI h_shelf_bits 24 f_h_shelf_bits, kI cI h_shelf_gaps 25 f_h_shelf_gaps, kI cI h_shelf_cutter 24 f_h_shelf_cutter, kI cI h_shelf_value 24 f_h_shelf_value, kO h_diary 3 [.int n_h_diary_length, .ref h_diary_changes], kJ cJ h_diary_changes 600 f_h_diary_changes, kI cI h_crew_value 5 f_h_crew_value, kI cI h_shelf_putter 24 f_h_shelf_putter]) (kk_runV (w1 := [kO h 8 [.ref h_shelf, .ref h_crew, .ref h_diary, .int n_h_gapless, .int n_h_looseReads, .int n_h_impatient, .int n_h_need, .int n_h_needKey], kO h_shelf 6 [.int n_h_shelf_size, .ref h_shelf_bits, .ref h_shelf_value, .ref h_shelf_cutter, .ref h_shelf_putter, .ref h_shelf_gaps, .ref h_shelf_sharers, .ref h_shelf_wholes], kI cI h_shelf_wholes 24 f_h_shelf_wholes, kI cI h_shelf_sharers 24 f_h_shelf_sharers]) (As := [.int p0, .int r_8, .int 0]) (rest := []) hx hb hml hown hts hE (c_X9_locked l D cB cI cJ cD h h_shelf h_shelf_wholes h_shelf_sharers h_crew h_diary h_shelf_bits h_shelf_value h_shelf_cutter h_shelf_putter h_shelf_gaps n_h_gapless n_h_looseReads n_h_impatient n_h_need n_h_needKey n_h_shelf_size f_h_shelf_wholes f_h_shelf_sharers p0 r_8 0 s.heap.size b_h_gapless b_h_looseReads b_h_impatient b_h_shelf_size b_29) m_X9_locked w_840 ⟨rfl, rfl, Nat.le_of_ble_eq_true rfl, Nat.le_of_ble_eq_true rfl⟩ (hP.sub [0, 3, 7, 8] rfl) (hD.sub [0, 3, 7, 8] (by decide +kernel) rfl) 0 8 rfl rfl rfl hl.1 (Nat.le_of_ble_eq_true rfl) dX9_bring_104 ⟨Nat.le_of_ble_eq_true rfl, Nat.le_of_ble_eq_true rfl⟩) hP hD hS hA [0, 3, 7, 8] [1, 2, 4, 5, 6, 9, 10, 11, 12, 13] rfl rfl (by decide +kernel) (by decide +kernel) (fun r_33 u_32 H locs p_32 hP hD hS => ?_)
      obtain ⟨hP, hD⟩ : kPD D A [kO h_crew 1 [.int n_h_crew_size, .ref h_crew_state, .ref h_crew_outcome, .ref h_crew_deaths, .ref h_crew_kind, .ref h_crew_low, .ref h_crew_high, .ref h_crew_value, .ref h_crew_need, .ref h_crew_needKey, .ref h_crew_line, .int n_h_crew_lineLength], kI cI h_crew_low 5 f_h_crew_low, kI cI h_shelf_bits 24 f_h_shelf_bits, kI cI h_shelf_gaps 25 f_h_shelf_gaps, kI cI h_shelf_cutter 24 f_h_shelf_cutter, kI cI h_shelf_value 24 f_h_shelf_value, kO h_diary 3 [.int n_h_diary_length, .ref h_diary_changes], kJ cJ h_diary_changes 600 f_h_diary_changes, kI cI h_crew_value 5 f_h_crew_value, kI cI h_shelf_putter 24 f_h_shelf_putter, kO h 8 [.ref h_shelf, .ref h_crew, .ref h_diary, .int n_h_gapless, .int n_h_looseReads, .int n_h_impatient, .int n_h_need, .int n_h_needKey], kO h_shelf 6 [.int n_h_shelf_size, .ref h_shelf_bits, .ref h_shelf_value, .ref h_shelf_cutter, .ref h_shelf_putter, .ref h_shelf_gaps, .ref h_shelf_sharers, .ref h_shelf_wholes], kI cI h_shelf_wholes 24 (u_32.2.1 0), kI cI h_shelf_sharers 24 (u_32.2.1 1)] H := ⟨hP, hD⟩
      have b_33 : kr 0 1 r_33 := p_32
      refine lv_if_eq (tgt := 115) hx hb dX9_bring_107 (by decide) (fun c_34 => ?_) (fun c_34 => ?_)
      · have b_35 : kr 0 0 r_33 := kr_eq_l b_33 (kr_c 0 0 rfl) c_34 rfl
        refine lv_aload_n hx hb dX9_bring_115 rfl (lv_at hl 2 rfl) ?_
        refine lv_iconst (v := 1) hx hb dX9_bring_116 (by decide) ?_
        refine lv_iload_n hx hb dX9_bring_117 rfl (lv_at hl 1 rfl) ?_
        refine kk_ci (wr := [kO h_crew 1 [.int n_h_crew_size, .ref h_crew_state, .ref h_crew_outcome, .ref h_crew_deaths, .ref h_crew_kind, .ref h_crew_low, .ref h_crew_high, .ref h_crew_value, .ref h_crew_need, .ref h_crew_needKey, .ref h_crew_line, .int n_h_crew_lineLength], kI cI h_crew_low 5 f_h_crew_low, kI cI h_shelf_bits 24 f_h_shelf_bits, kI cI h_shelf_gaps 25 f_h_shelf_gaps, kI cI h_shelf_cutter 24 f_h_shelf_cutter, kI cI h_shelf_value 24 f_h_shelf_value, kO h_diary 3 [.int n_h_diary_length, .ref h_diary_changes], kJ cJ h_diary_changes 600 f_h_diary_changes, kI cI h_crew_value 5 f_h_crew_value, kI cI h_shelf_putter 24 f_h_shelf_putter, kO h_shelf 6 [.int n_h_shelf_size, .ref h_shelf_bits, .ref h_shelf_value, .ref h_shelf_cutter, .ref h_shelf_putter, .ref h_shelf_gaps, .ref h_shelf_sharers, .ref h_shelf_wholes], kI cI h_shelf_wholes 24 (u_32.2.1 0), kI cI h_shelf_sharers 24 (u_32.2.1 1)]) (kk_runV (w1 := [kO h 8 [.ref h_shelf, .ref h_crew, .ref h_diary, .int n_h_gapless, .int n_h_looseReads, .int n_h_impatient, .int n_h_need, .int n_h_needKey]]) (As := [.int 1, .int v_7]) (rest := []) hx hb hml hown hts hE (c_X9_stoppedAt l D cB cI cJ cD h h_shelf h_crew h_diary n_h_gapless n_h_looseReads n_h_impatient n_h_need n_h_needKey 1 v_7 H.size b_h_gapless b_h_looseReads b_h_impatient) m_X9_stoppedAt w_828 ⟨rfl, rfl, Nat.le_of_ble_eq_true rfl, Nat.le_of_ble_eq_true rfl⟩ (hP.sub [10] rfl) (hD.sub [10] (by decide +kernel) rfl) 0 8 rfl rfl rfl hl.1 (Nat.le_of_ble_eq_true rfl) dX9_bring_118 ⟨Nat.le_of_ble_eq_true rfl, Nat.le_of_ble_eq_true rfl⟩) hP hD hS hA [10] [0, 1, 2, 3, 4, 5, 6, 7, 8, 9, 11, 12, 13] rfl rfl (by decide +kernel) (by decide +kernel) (fun r_37 u_36 H locs p_36 hP hD hS => ?_)
        obtain ⟨hP, hD⟩ : kPD D A [kO h_crew 1 [.int n_h_crew_size, .ref h_crew_state, .ref h_crew_outcome, .ref h_crew_deaths, .ref h_crew_kind, .ref h_crew_low, .ref h_crew_high, .ref h_crew_value, .ref h_crew_need, .ref h_crew_needKey, .ref h_crew_line, .int n_h_crew_lineLength], kI cI h_crew_low 5 f_h_crew_low, kI cI h_shelf_bits 24 f_h_shelf_bits, kI cI h_shelf_gaps 25 f_h_shelf_gaps, kI cI h_shelf_cutter 24 f_h_shelf_cutter, kI cI h_shelf_value 24 f_h_shelf_value, kO h_diary 3 [.int n_h_diary_length, .ref h_diary_changes], kJ cJ h_diary_changes 600 f_h_diary_changes, kI cI h_crew_value 5 f_h_crew_value, kI cI h_shelf_putter 24 f_h_shelf_putter, kO h_shelf 6 [.int n_h_shelf_size, .ref h_shelf_bits, .ref h_shelf_value, .ref h_shelf_cutter, .ref h_shelf_putter, .ref h_shelf_gaps, .ref h_shelf_sharers, .ref h_shelf_wholes], kI cI h_shelf_wholes 24 (u_32.2.1 0), kI cI h_shelf_sharers 24 (u_32.2.1 1), kO h 8 [.ref h_shelf, .ref h_crew, .ref h_diary, .int n_h_gapless, .int n_h_looseReads, .int n_h_impatient, .int (u_36.2.2.2 0), .int (u_36.2.2.2 1)]] H := ⟨hP, hD⟩
        obtain rfl : r_37 = (-2) := kr_one p_36 rfl
        subst hQQ
        exact kk_ret_i ((fun _ => 0), (fun i => [f_h_shelf_bits, f_h_shelf_gaps, f_h_shelf_cutter, (u_32.2.1 0), (u_32.2.1 1), f_h_shelf_value, f_h_shelf_putter].getD i (fun _ => 0)), (fun i => [f_h_diary_changes].getD i (fun _ => 0)), (fun i => [(u_36.2.2.2 0), (u_36.2.2.2 1), n_h_shelf_size, n_h_diary_length].getD i 0)) hx hb hr hlocks ⟨(kr_w (kr_c (-2) (-2) rfl) rfl), b_h_shelf_size, b_h_diary_length⟩ (hP.sub [13, 0, 1, 10, 2, 3, 4, 11, 12, 5, 6, 7, 8, 9] rfl) (hD.sub [13, 0, 1, 10, 2, 3, 4, 11, 12, 5, 6, 7, 8, 9] (by decide +kernel) rfl) hS dX9_bring_121 (Nat.le_of_ble_eq_true rfl) (Nat.le_of_ble_eq_true rfl)
      · have b_38 : kr 1 1 r_33 := kr_ne_lo b_33 c_34 rfl
        refine lv_bipush (v := (-4)) hx hb dX9_bring_110 (by decide) ?_
        refine lv_goto (tgt := 121) hx hb dX9_bring_112 (by decide) ?_
        subst hQQ
        exact kk_ret_i ((fun _ => 0), (fun i => [f_h_shelf_bits, f_h_shelf_gaps, f_h_shelf_cutter, (u_32.2.1 0), (u_32.2.1 1), f_h_shelf_value, f_h_shelf_putter].getD i (fun _ => 0)), (fun i => [f_h_diary_changes].getD i (fun _ => 0)), (fun i => [n_h_need, n_h_needKey, n_h_shelf_size, n_h_diary_length].getD i 0)) hx hb hr hlocks ⟨(kr_w (kr_c (-4) (-4) rfl) rfl), b_h_shelf_size, b_h_diary_length⟩ (hP.sub [10, 0, 1, 11, 2, 3, 4, 12, 13, 5, 6, 7, 8, 9] rfl) (hD.sub [10, 0, 1, 11, 2, 3, 4, 12, 13, 5, 6, 7, 8, 9] (by decide +kernel) rfl) hS dX9_bring_121 (Nat.le_of_ble_eq_true rfl) (Nat.le_of_ble_eq_true rfl)
    · have b_39 : kr 0 4 v_30 := kr_eq_l (kr_all v_30) b_p0 c_31 rfl
      refine lv_aload_n hx hb dX9_bring_44 rfl (lv_at hl 2 rfl) ?_
      refine va_get (D := D) (ci := 8) (v := .ref h_diary) (C := RX9) (T := TX9) (N := 8) hx hb hts u_X9 hown hE.1 hP 0 rfl rfl 2 (by decide) (hts _ w_391) (fun _ h9 => h9) rfl dX9_bring_45 ?_
      refine lv_iload_n hx hb dX9_bring_48 rfl (lv_at hl 3 rfl) ?_
      refine lv_iconst (v := 3) hx hb dX9_bring_49 (by decide) ?_
      refine lv_iload_n hx hb dX9_bring_50 rfl (lv_at hl 1 rfl) ?_
      refine lv_aload_n hx hb dX9_bring_51 rfl (lv_at hl 2 rfl) ?_
      refine va_get (D := D) (ci := 8) (v := .ref h_shelf) (C := RX9) (T := TX9) (N := 8) hx hb hts u_X9 hown hE.1 hP 0 rfl rfl 0 (by decide) (hts _ w_384) (fun _ h9 => h9) rfl dX9_bring_52 ?_
      refine va_get (D := D) (ci := 6) (v := .ref h_shelf_value) (C := RX7) (T := TX7) (N := 8) hx hb hts u_X7 hown hE.1 hP 3 rfl rfl 2 (by decide) (hts _ w_169) (fun _ h9 => h9) rfl dX9_bring_55 ?_
      refine lv_iload_n hx hb dX9_bring_58 rfl (lv_at hl 0 rfl) ?_
      refine va_iald hx hb hE.1 hP 9 1 rfl rfl (kr_in b_29 rfl) dX9_bring_59 ?_
      refine lv_topi (fun v_40 e_40 => ?_)
      refine kk_cv (wr := [kO h 8 [.ref h_shelf, .ref h_crew, .ref h_diary, .int n_h_gapless, .int n_h_looseReads, .int n_h_impatient, .int n_h_need, .int n_h_needKey], kO h_crew 1 [.int n_h_crew_size, .ref h_crew_state, .ref h_crew_outcome, .ref h_crew_deaths, .ref h_crew_kind, .ref h_crew_low, .ref h_crew_high, .ref h_crew_value, .ref h_crew_need, .ref h_crew_needKey, .ref h_crew_line, .int n_h_crew_lineLength], kI cI h_crew_low 5 f_h_crew_low, kO h_shelf 6 [.int n_h_shelf_size, .ref h_shelf_bits, .ref h_shelf_value, .ref h_shelf_cutter, .ref h_shelf_putter, .ref h_shelf_gaps, .ref h_shelf_sharers, .ref h_shelf_wholes], kI cI h_shelf_bits 24 f_h_shelf_bits, kI cI h_shelf_gaps 25 f_h_shelf_gaps, kI cI h_shelf_cutter 24 f_h_shelf_cutter, kI cI h_shelf_wholes 24 f_h_shelf_wholes, kI cI h_shelf_sharers 24 f_h_shelf_sharers, kI cI h_shelf_value 24 f_h_shelf_value, kI cI h_crew_value 5 f_h_crew_value, kI cI h_shelf_putter 24 f_h_shelf_putter]) (kk_runV (w1 := [kO h_diary 3 [.int n_h_diary_length, .ref h_diary_changes], kJ cJ h_diary_changes 600 f_h_diary_changes]) (As := [.int p0, .int 3, .int v_7, .int v_40]) (rest := []) hx hb hml hown hts hE (c_X3_note l D cB cI cJ cD h_diary h_diary_changes n_h_diary_length f_h_diary_changes p0 3 v_7 v_40 s.heap.size b_h_diary_length) m_X3_note w_836 ⟨rfl, rfl, Nat.le_of_ble_eq_true rfl, Nat.le_of_ble_eq_true rfl⟩ (hP.sub [10, 11] rfl) (hD.sub [10, 11] (by decide +kernel) rfl) 0 3 rfl rfl rfl hl.1 (Nat.le_of_ble_eq_true rfl) dX9_bring_60 ⟨Nat.le_of_ble_eq_true rfl, Nat.le_of_ble_eq_true rfl⟩) hP hD hS hA [10, 11] [0, 1, 2, 3, 4, 5, 6, 7, 8, 9, 12, 13] rfl rfl (by decide +kernel) (by decide +kernel) (fun u_41 H locs p_41 hP hD hS => ?_)
      obtain ⟨hP, hD⟩ : kPD D A [kO h 8 [.ref h_shelf, .ref h_crew, .ref h_diary, .int n_h_gapless, .int n_h_looseReads, .int n_h_impatient, .int n_h_need, .int n_h_needKey], kO h_crew 1 [.int n_h_crew_size, .ref h_crew_state, .ref h_crew_outcome, .ref h_crew_deaths, .ref h_crew_kind, .ref h_crew_low, .ref h_crew_high, .ref h_crew_value, .ref h_crew_need, .ref h_crew_needKey, .ref h_crew_line, .int n_h_crew_lineLength], kI cI h_crew_low 5 f_h_crew_low, kO h_shelf 6 [.int n_h_shelf_size, .ref h_shelf_bits, .ref h_shelf_value, .ref h_shelf_cutter, .ref h_shelf_putter, .ref h_shelf_gaps, .ref h_shelf_sharers, .ref h_shelf_wholes], kI cI h_shelf_bits 24 f_h_shelf_bits, kI cI h_shelf_gaps 25 f_h_shelf_gaps, kI cI h_shelf_cutter 24 f_h_shelf_cutter, kI cI h_shelf_wholes 24 f_h_shelf_wholes, kI cI h_shelf_sharers 24 f_h_shelf_sharers, kI cI h_shelf_value 24 f_h_shelf_value, kI cI h_crew_value 5 f_h_crew_value, kI cI h_shelf_putter 24 f_h_shelf_putter, kO h_diary 3 [.int (u_41.2.2.2 0), .ref h_diary_changes], kJ cJ h_diary_changes 600 (u_41.2.2.1 0)] H := ⟨hP, hD⟩
      refine lv_aload_n hx hb dX9_bring_63 rfl (lv_at hl 2 rfl) ?_
      refine va_get (D := D) (ci := 8) (v := .ref h_shelf) (C := RX9) (T := TX9) (N := 8) hx hb hts u_X9 hown hE.1 hP 0 rfl rfl 0 (by decide) (hts _ w_384) (fun _ h9 => h9) rfl dX9_bring_64 ?_
      refine va_get (D := D) (ci := 6) (v := .ref h_shelf_cutter) (C := RX7) (T := TX7) (N := 8) hx hb hts u_X7 hown hE.1 hP 3 rfl rfl 3 (by decide) (hts _ w_173) (fun _ h9 => h9) rfl dX9_bring_67 ?_
      refine lv_iload_n hx hb dX9_bring_70 rfl (lv_at hl 0 rfl) ?_
      refine lv_bipush (v := (-2)) hx hb dX9_bring_71 (by decide) ?_
      refine va_iast hx hb hE.1 hP hD hS 6 1 rfl rfl (kr_in b_29 rfl) dX9_bring_73 (fun H locs hP hD hS => ?_)
      obtain ⟨f_42, ef_42⟩ : ∃ z, z = (upd f_h_shelf_cutter (Int32.toNatClampNeg r_8) (-2)) := ⟨_, rfl⟩
      rw [← ef_42] at hP hD
      obtain ⟨hP, hD⟩ : kPD D A [kO h 8 [.ref h_shelf, .ref h_crew, .ref h_diary, .int n_h_gapless, .int n_h_looseReads, .int n_h_impatient, .int n_h_need, .int n_h_needKey], kO h_crew 1 [.int n_h_crew_size, .ref h_crew_state, .ref h_crew_outcome, .ref h_crew_deaths, .ref h_crew_kind, .ref h_crew_low, .ref h_crew_high, .ref h_crew_value, .ref h_crew_need, .ref h_crew_needKey, .ref h_crew_line, .int n_h_crew_lineLength], kI cI h_crew_low 5 f_h_crew_low, kO h_shelf 6 [.int n_h_shelf_size, .ref h_shelf_bits, .ref h_shelf_value, .ref h_shelf_cutter, .ref h_shelf_putter, .ref h_shelf_gaps, .ref h_shelf_sharers, .ref h_shelf_wholes], kI cI h_shelf_bits 24 f_h_shelf_bits, kI cI h_shelf_gaps 25 f_h_shelf_gaps, kI cI h_shelf_cutter 24 f_42, kI cI h_shelf_wholes 24 f_h_shelf_wholes, kI cI h_shelf_sharers 24 f_h_shelf_sharers, kI cI h_shelf_value 24 f_h_shelf_value, kI cI h_crew_value 5 f_h_crew_value, kI cI h_shelf_putter 24 f_h_shelf_putter, kO h_diary 3 [.int (u_41.2.2.2 0), .ref h_diary_changes], kJ cJ h_diary_changes 600 (u_41.2.2.1 0)] H := ⟨hP, hD⟩
      refine lv_aload_n hx hb dX9_bring_74 rfl (lv_at hl 2 rfl) ?_
      refine va_get (D := D) (ci := 8) (v := .ref h_shelf) (C := RX9) (T := TX9) (N := 8) hx hb hts u_X9 hown hE.1 hP 0 rfl rfl 0 (by decide) (hts _ w_384) (fun _ h9 => h9) rfl dX9_bring_75 ?_
      refine va_get (D := D) (ci := 6) (v := .ref h_shelf_value) (C := RX7) (T := TX7) (N := 8) hx hb hts u_X7 hown hE.1 hP 3 rfl rfl 2 (by decide) (hts _ w_169) (fun _ h9 => h9) rfl dX9_bring_78 ?_
      refine lv_iload_n hx hb dX9_bring_81 rfl (lv_at hl 0 rfl) ?_
      refine lv_aload_n hx hb dX9_bring_82 rfl (lv_at hl 2 rfl) ?_
      refine va_get (D := D) (ci := 8) (v := .ref h_crew) (C := RX9) (T := TX9) (N := 8) hx hb hts u_X9 hown hE.1 hP 0 rfl rfl 1 (by decide) (hts _ w_387) (fun _ h9 => h9) rfl dX9_bring_83 ?_
      refine va_get (D := D) (ci := 1) (v := .ref h_crew_value) (C := RX1) (T := TX1) (N := 12) hx hb hts u_X1 hown hE.1 hP 1 rfl rfl 7 (by decide) (hts _ w_333) (fun _ h9 => h9) rfl dX9_bring_86 ?_
      refine lv_iload_n hx hb dX9_bring_89 rfl (lv_at hl 3 rfl) ?_
      refine va_iald hx hb hE.1 hP 10 1 rfl rfl (kr_in b_p0 rfl) dX9_bring_90 ?_
      refine lv_topi (fun v_43 e_43 => ?_)
      refine va_iast hx hb hE.1 hP hD hS 9 1 rfl rfl (kr_in b_29 rfl) dX9_bring_91 (fun H locs hP hD hS => ?_)
      obtain ⟨f_44, ef_44⟩ : ∃ z, z = (upd f_h_shelf_value (Int32.toNatClampNeg r_8) v_43) := ⟨_, rfl⟩
      rw [← ef_44] at hP hD
      obtain ⟨hP, hD⟩ : kPD D A [kO h 8 [.ref h_shelf, .ref h_crew, .ref h_diary, .int n_h_gapless, .int n_h_looseReads, .int n_h_impatient, .int n_h_need, .int n_h_needKey], kO h_crew 1 [.int n_h_crew_size, .ref h_crew_state, .ref h_crew_outcome, .ref h_crew_deaths, .ref h_crew_kind, .ref h_crew_low, .ref h_crew_high, .ref h_crew_value, .ref h_crew_need, .ref h_crew_needKey, .ref h_crew_line, .int n_h_crew_lineLength], kI cI h_crew_low 5 f_h_crew_low, kO h_shelf 6 [.int n_h_shelf_size, .ref h_shelf_bits, .ref h_shelf_value, .ref h_shelf_cutter, .ref h_shelf_putter, .ref h_shelf_gaps, .ref h_shelf_sharers, .ref h_shelf_wholes], kI cI h_shelf_bits 24 f_h_shelf_bits, kI cI h_shelf_gaps 25 f_h_shelf_gaps, kI cI h_shelf_cutter 24 f_42, kI cI h_shelf_wholes 24 f_h_shelf_wholes, kI cI h_shelf_sharers 24 f_h_shelf_sharers, kI cI h_shelf_value 24 f_44, kI cI h_crew_value 5 f_h_crew_value, kI cI h_shelf_putter 24 f_h_shelf_putter, kO h_diary 3 [.int (u_41.2.2.2 0), .ref h_diary_changes], kJ cJ h_diary_changes 600 (u_41.2.2.1 0)] H := ⟨hP, hD⟩
      refine lv_aload_n hx hb dX9_bring_92 rfl (lv_at hl 2 rfl) ?_
      refine va_get (D := D) (ci := 8) (v := .ref h_shelf) (C := RX9) (T := TX9) (N := 8) hx hb hts u_X9 hown hE.1 hP 0 rfl rfl 0 (by decide) (hts _ w_384) (fun _ h9 => h9) rfl dX9_bring_93 ?_
      refine va_get (D := D) (ci := 6) (v := .int n_h_shelf_size) (C := RX7) (T := TX7) (N := 8) hx hb hts u_X7 hown hE.1 hP 3 rfl rfl 0 (by decide) (hts _ w_160) (fun _ h9 => h9) rfl dX9_bring_96 ?_
      subst hQQ
      exact kk_ret_i ((fun _ => 0), (fun i => [f_h_shelf_bits, f_h_shelf_gaps, f_42, f_h_shelf_wholes, f_h_shelf_sharers, f_44, f_h_shelf_putter].getD i (fun _ => 0)), (fun i => [(u_41.2.2.1 0)].getD i (fun _ => 0)), (fun i => [n_h_need, n_h_needKey, n_h_shelf_size, (u_41.2.2.2 0)].getD i 0)) hx hb hr hlocks ⟨(kr_w b_h_shelf_size rfl), b_h_shelf_size, (kr_w p_41 rfl)⟩ (hP.sub [0, 1, 2, 3, 4, 5, 6, 7, 8, 9, 12, 13, 10, 11] rfl) (hD.sub [0, 1, 2, 3, 4, 5, 6, 7, 8, 9, 12, 13, 10, 11] (by decide +kernel) rfl) hS dX9_bring_99 (Nat.le_of_ble_eq_true rfl) (Nat.le_of_ble_eq_true rfl)
