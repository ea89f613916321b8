set_option maxHeartbeats 4000000 in
set_option maxRecDepth 100000 in
theorem c_X10_feed (l : Launch) (D : va_G) (cB cI cJ cD : ClassId) (h : Nat) (h_desk : Nat) (h_desk_tape : Nat) (h_reader : Nat) (h_trials : Nat) (h_kept : Nat) (h_script : Nat) (h_draft : Nat) (h_desk_course : Nat) (n_h_keptSize : Int32) (n_h_desk_tapeLength : Int32) (f_h_desk_tape : Nat → Int32) (p0 : Int32) (p1 : Int32) (p2 : Int32) (p3 : Int32) (p4 : Int32) (sz : Nat) (b_h_keptSize : kr 0 16 n_h_keptSize) (b_h_desk_tapeLength : kr 0 700 n_h_desk_tapeLength) (kf_h_desk_tape : ka (-128) 127 f_h_desk_tape) : Met l yX10_feed (kk_W yX10_feed cX10_feed 6 (some .int)) ({ frames := 1, cells := 0, slots := 0, locals := 22 }) (va_Pc [.ref h, .int p0, .int p1, .int p2, .int p3, .int p4] (kk_pre D cB cI cJ cD [kO h 9 [.ref h_reader, .ref h_trials, .ref h_desk, .ref h_kept, .int n_h_keptSize, .ref h_script, .ref h_draft], kO h_desk 2 [.ref h_desk_course, .ref h_desk_tape, .int n_h_desk_tapeLength], kI cB h_desk_tape 700 f_h_desk_tape] sz)) (kk_Qi D (fun (r : Int32) (u : (Nat → Nat) × (Nat → Nat → Int32) × (Nat → Nat → Int64) × (Nat → Int32)) => kr (-1) 700 r ∧ kr 0 700 (u.2.2.2 0) ∧ ka (-128) 127 (u.2.1 0)) (fun u => [kO h 9 [.ref h_reader, .ref h_trials, .ref h_desk, .ref h_kept, .int n_h_keptSize, .ref h_script, .ref h_draft], kO h_desk 2 [.ref h_desk_course, .ref h_desk_tape, .int (u.2.2.2 0)], kI cB h_desk_tape 700 (u.2.1 0)]) (va_A [kO h 9 [.ref h_reader, .ref h_trials, .ref h_desk, .ref h_kept, .int n_h_keptSize, .ref h_script, .ref h_draft], kO h_desk 2 [.ref h_desk_course, .ref h_desk_tape, .int n_h_desk_tapeLength], kI cB h_desk_tape 700 f_h_desk_tape] sz)) 0 0 (va_A [kO h 9 [.ref h_reader, .ref h_trials, .ref h_desk, .ref h_kept, .int n_h_keptSize, .ref h_script, .ref h_draft], kO h_desk 2 [.ref h_desk_course, .ref h_desk_tape, .int n_h_desk_tapeLength], kI cB h_desk_tape 700 f_h_desk_tape] sz) := by
  refine kk_start (y := yX10_feed) (maxL := 6) (av := [.ref h, .int p0, .int p1, .int p2, .int p3, .int p4]) (Qc := fun A => kk_Qi D (fun (r : Int32) (u : (Nat → Nat) × (Nat → Nat → Int32) × (Nat → Nat → Int64) × (Nat → Int32)) => kr (-1) 700 r ∧ kr 0 700 (u.2.2.2 0) ∧ ka (-128) 127 (u.2.1 0)) (fun u => [kO h 9 [.ref h_reader, .ref h_trials, .ref h_desk, .ref h_kept, .int n_h_keptSize, .ref h_script, .ref h_draft], kO h_desk 2 [.ref h_desk_course, .ref h_desk_tape, .int (u.2.2.2 0)], kI cB h_desk_tape 700 (u.2.1 0)]) A) (by decide) (Nat.le_of_ble_eq_true rfl) ?_
  intro p e s m below meth c ls A hx hb hr hml hown hts hE hlocks hin hsz hP hD hA hS hl
  have hown : s.vm.findClass RX10 = some m.cls := hown
  have hl : lv_has ls 6 [(0, .ref h), (1, .int p0), (2, .int p1), (3, .int p2), (4, .int p3), (5, .int p4)] := hl
  refine lv_aload_n hx hb dX10_feed_0 rfl (lv_at hl 0 rfl) ?_
  refine va_get (D := D) (ci := 9) (v := .ref h_desk) (C := RX10) (T := TX10) (N := 7) hx hb hts u_X10 hown hE.1 hP 0 rfl rfl 2 (by decide) (hts _ w_491) (fun _ h9 => h9) rfl dX10_feed_1 ?_
  refine va_get (D := D) (ci := 2) (v := .int n_h_desk_tapeLength) (C := RX2) (T := TX2) (N := 3) hx hb hts u_X2 hown hE.1 hP 1 rfl rfl 2 (by decide) (hts _ w_477) (fun _ h9 => h9) rfl dX10_feed_4 ?_
  refine lv_sipush (v := 680) hx hb dX10_feed_7 (by decide) ?_
  refine lv_icmp_le (tgt := 15) hx hb dX10_feed_10 (by decide) (fun c_1 => ?_) (fun c_1 => ?_)
  · have i_1 : n_h_desk_tapeLength.toInt ≤ 680 := (ki_le c_1)
    have b_2 : kr 0 680 n_h_desk_tapeLength := kr_le_l b_h_desk_tapeLength (kr_c 680 680 rfl) i_1 rfl
    refine lv_aload_n hx hb dX10_feed_15 rfl (lv_at hl 0 rfl) ?_
    refine va_get (D := D) (ci := 9) (v := .ref h_desk) (C := RX10) (T := TX10) (N := 7) hx hb hts u_X10 hown hE.1 hP 0 rfl rfl 2 (by decide) (hts _ w_491) (fun _ h9 => h9) rfl dX10_feed_16 ?_
    refine lv_iload_n hx hb dX10_feed_19 rfl (lv_at hl 1 rfl) ?_
    refine kk_cv (wr := [kO h 9 [.ref h_reader, .ref h_trials, .ref h_desk, .ref h_kept, .int n_h_keptSize, .ref h_script, .ref h_draft]]) (kk_runV (w1 := [kO h_desk 2 [.ref h_desk_course, .ref h_desk_tape, .int n_h_desk_tapeLength], kI cB h_desk_tape 700 f_h_desk_tape]) (As := [.int p0]) (rest := []) hx hb hml hown hts hE (c_X2_append l D cB cI cJ cD h_desk h_desk_tape h_desk_course n_h_desk_tapeLength f_h_desk_tape p0 s.heap.size (kr_w b_2 rfl) kf_h_desk_tape) m_X2_append w_515 ⟨rfl, rfl, Nat.le_of_ble_eq_true rfl, Nat.le_of_ble_eq_true rfl⟩ (hP.sub [1, 2] rfl) (hD.sub [1, 2] (by decide +kernel) rfl) 0 2 rfl rfl rfl hl.1 (Nat.le_of_ble_eq_true rfl) dX10_feed_20 ⟨Nat.le_of_ble_eq_true rfl, Nat.le_of_ble_eq_true rfl⟩) hP hD hS hA [1, 2] [0] rfl rfl (by decide +kernel) (by decide +kernel) (fun u_3 H locs p_3 hP hD hS => ?_)
    obtain ⟨hP, hD⟩ : kPD D A [kO h 9 [.ref h_reader, .ref h_trials, .ref h_desk, .ref h_kept, .int n_h_keptSize, .ref h_script, .ref h_draft], kO h_desk 2 [.ref h_desk_course, .ref h_desk_tape, .int (u_3.2.2.2 0)], kI cB h_desk_tape 700 (u_3.2.1 0)] H := ⟨hP, hD⟩
    refine lv_aload_n hx hb dX10_feed_23 rfl (lv_at hl 0 rfl) ?_
    refine va_get (D := D) (ci := 9) (v := .ref h_desk) (C := RX10) (T := TX10) (N := 7) hx hb hts u_X10 hown hE.1 hP 0 rfl rfl 2 (by decide) (hts _ w_491) (fun _ h9 => h9) rfl dX10_feed_24 ?_
    refine lv_iload_n hx hb dX10_feed_27 rfl (lv_at hl 2 rfl) ?_
    refine kk_cv (wr := [kO h 9 [.ref h_reader, .ref h_trials, .ref h_desk, .ref h_kept, .int n_h_keptSize, .ref h_script, .ref h_draft]]) (kk_runV (w1 := [kO h_desk 2 [.ref h_desk_course, .ref h_desk_tape, .int (u_3.2.2.2 0)], kI cB h_desk_tape 700 (u_3.2.1 0)]) (As := [.int p1]) (rest := []) hx hb hml hown hts hE (c_X2_append l D cB cI cJ cD h_desk h_desk_tape h_desk_course (u_3.2.2.2 0) (u_3.2.1 0) p1 H.size p_3.1 p_3.2) m_X2_append w_515 ⟨rfl, rfl, Nat.le_of_ble_eq_true rfl, Nat.le_of_ble_eq_true rfl⟩ (hP.sub [1, 2] rfl) (hD.sub [1, 2] (by decide +kernel) rfl) 0 2 rfl rfl rfl hl.1 (Nat.le_of_ble_eq_true rfl) dX10_feed_28 ⟨Nat.le_of_ble_eq_true rfl, Nat.le_of_ble_eq_true rfl⟩) hP hD hS hA [1, 2] [0] rfl rfl (by decide +kernel) (by decide +kernel) (fun u_4 H locs p_4 hP hD hS => ?_)
    obtain ⟨hP, hD⟩ : kPD D A [kO h 9 [.ref h_reader, .ref h_trials, .ref h_desk, .ref h_kept, .int n_h_keptSize, .ref h_script, .ref h_draft], kO h_desk 2 [.ref h_desk_course, .ref h_desk_tape, .int (u_4.2.2.2 0)], kI cB h_desk_tape 700 (u_4.2.1 0)] H := ⟨hP, hD⟩
    refine lv_aload_n hx hb dX10_feed_31 rfl (lv_at hl 0 rfl) ?_
    refine va_get (D := D) (ci := 9) (v := .ref h_desk) (C := RX10) (T := TX10) (N := 7) hx hb hts u_X10 hown hE.1 hP 0 rfl rfl 2 (by decide) (hts _ w_491) (fun _ h9 => h9) rfl dX10_feed_32 ?_
    refine lv_iload_n hx hb dX10_feed_35 rfl (lv_at hl 3 rfl) ?_
    refine kk_cv (wr := [kO h 9 [.ref h_reader, .ref h_trials, .ref h_desk, .ref h_kept, .int n_h_keptSize, .ref h_script, .ref h_draft]]) (kk_runV (w1 := [kO h_desk 2 [.ref h_desk_course, .ref h_desk_tape, .int (u_4.2.2.2 0)], kI cB h_desk_tape 700 (u_4.2.1 0)]) (As := [.int p2]) (rest := []) hx hb hml hown hts hE (c_X2_append l D cB cI cJ cD h_desk h_desk_tape h_desk_course (u_4.2.2.2 0) (u_4.2.1 0) p2 H.size p_4.1 p_4.2) m_X2_append w_515 ⟨rfl, rfl, Nat.le_of_ble_eq_true rfl, Nat.le_of_ble_eq_true rfl⟩ (hP.sub [1, 2] rfl) (hD.sub [1, 2] (by decide +kernel) rfl) 0 2 rfl rfl rfl hl.1 (Nat.le_of_ble_eq_true rfl) dX10_feed_36 ⟨Nat.le_of_ble_eq_true rfl, Nat.le_of_ble_eq_true rfl⟩) hP hD hS hA [1, 2] [0] rfl rfl (by decide +kernel) (by decide +kernel) (fun u_5 H locs p_5 hP hD hS => ?_)
    obtain ⟨hP, hD⟩ : kPD D A [kO h 9 [.ref h_reader, .ref h_trials, .ref h_desk, .ref h_kept, .int n_h_keptSize, .ref h_script, .ref h_draft], kO h_desk 2 [.ref h_desk_course, .ref h_desk_tape, .int (u_5.2.2.2 0)], kI cB h_desk_tape 700 (u_5.2.1 0)] H := ⟨hP, hD⟩
    refine lv_aload_n hx hb dX10_feed_39 rfl (lv_at hl 0 rfl) ?_
    refine va_get (D := D) (ci := 9) (v := .ref h_desk) (C := RX10) (T := TX10) (N := 7) hx hb hts u_X10 hown hE.1 hP 0 rfl rfl 2 (by decide) (hts _ w_491) (fun _ h9 => h9) rfl dX10_feed_40 ?_
    refine lv_iload hx hb dX10_feed_43 (lv_at hl 4 rfl) ?_
    refine kk_cv (wr := [kO h 9 [.ref h_reader, .ref h_trials, .ref h_desk, .ref h_kept, .int n_h_keptSize, .ref h_script, .ref h_draft]]) (kk_runV (w1 := [kO h_desk 2 [.ref h_desk_course, .ref h_desk_tape, .int (u_5.2.2.2 0)], kI cB h_desk_tape 700 (u_5.2.1 0)]) (As := [.int p3]) (rest := []) hx hb hml hown hts hE (c_X2_append l D cB cI cJ cD h_desk h_desk_tape h_desk_course (u_5.2.2.2 0) (u_5.2.1 0) p3 H.size p_5.1 p_5.2) m_X2_append w_515 ⟨rfl, rfl, Nat.le_of_ble_eq_true rfl, Nat.le_of_ble_eq_true rfl⟩ (hP.sub [1, 2] rfl) (hD.sub [1, 2] (by decide +kernel) rfl) 0 2 rfl rfl rfl hl.1 (Nat.le_of_ble_eq_true rfl) dX10_feed_45 ⟨Nat.le_of_ble_eq_true rfl, Nat.le_of_ble_eq_true rfl⟩) hP hD hS hA [1, 2] [0] rfl rfl (by decide +kernel) (by decide +kernel) (fun u_6 H locs p_6 hP hD hS => ?_)
    obtain ⟨hP, hD⟩ : kPD D A [kO h 9 [.ref h_reader, .ref h_trials, .ref h_desk, .ref h_kept, .int n_h_keptSize, .ref h_script, .ref h_draft], kO h_desk 2 [.ref h_desk_course, .ref h_desk_tape, .int (u_6.2.2.2 0)], kI cB h_desk_tape 700 (u_6.2.1 0)] H := ⟨hP, hD⟩
    refine lv_aload_n hx hb dX10_feed_48 rfl (lv_at hl 0 rfl) ?_
    refine va_get (D := D) (ci := 9) (v := .ref h_desk) (C := RX10) (T := TX10) (N := 7) hx hb hts u_X10 hown hE.1 hP 0 rfl rfl 2 (by decide) (hts _ w_491) (fun _ h9 => h9) rfl dX10_feed_49 ?_
    refine lv_iload hx hb dX10_feed_52 (lv_at hl 5 rfl) ?_
    refine kk_cv (wr := [kO h 9 [.ref h_reader, .ref h_trials, .ref h_desk, .ref h_kept, .int n_h_keptSize, .ref h_script, .ref h_draft]]) (kk_runV (w1 := [kO h_desk 2 [.ref h_desk_course, .ref h_desk_tape, .int (u_6.2.2.2 0)], kI cB h_desk_tape 700 (u_6.2.1 0)]) (As := [.int p4]) (rest := []) hx hb hml hown hts hE (c_X2_append l D cB cI cJ cD h_desk h_desk_tape h_desk_course (u_6.2.2.2 0) (u_6.2.1 0) p4 H.size p_6.1 p_6.2) m_X2_append w_515 ⟨rfl, rfl, Nat.le_of_ble_eq_true rfl, Nat.le_of_ble_eq_true rfl⟩ (hP.sub [1, 2] rfl) (hD.sub [1, 2] (by decide +kernel) rfl) 0 2 rfl rfl rfl hl.1 (Nat.le_of_ble_eq_true rfl) dX10_feed_54 ⟨Nat.le_of_ble_eq_true rfl, Nat.le_of_ble_eq_true rfl⟩) hP hD hS hA [1, 2] [0] rfl rfl (by decide +kernel) (by decide +kernel) (fun u_7 H locs p_7 hP hD hS => ?_)
    obtain ⟨hP, hD⟩ : kPD D A [kO h 9 [.ref h_reader, .ref h_trials, .ref h_desk, .ref h_kept, .int n_h_keptSize, .ref h_script, .ref h_draft], kO h_desk 2 [.ref h_desk_course, .ref h_desk_tape, .int (u_7.2.2.2 0)], kI cB h_desk_tape 700 (u_7.2.1 0)] H := ⟨hP, hD⟩
    refine lv_aload_n hx hb dX10_feed_57 rfl (lv_at hl 0 rfl) ?_
    refine va_get (D := D) (ci := 9) (v := .ref h_desk) (C := RX10) (T := TX10) (N := 7) hx hb hts u_X10 hown hE.1 hP 0 rfl rfl 2 (by decide) (hts _ w_491) (fun _ h9 => h9) rfl dX10_feed_58 ?_
    refine va_get (D := D) (ci := 2) (v := .int (u_7.2.2.2 0)) (C := RX2) (T := TX2) (N := 3) hx hb hts u_X2 hown hE.1 hP 1 rfl rfl 2 (by decide) (hts _ w_477) (fun _ h9 => h9) rfl dX10_feed_61 ?_
    exact kk_ret_i ((fun _ => 0), (fun i => [(u_7.2.1 0)].getD i (fun _ => 0)), (fun i => [].getD i (fun _ => 0)), (fun i => [(u_7.2.2.2 0)].getD i 0)) hx hb hr hlocks ⟨(kr_w p_7.1 rfl), p_7.1, p_7.2⟩ (hP.sub [0, 1, 2] rfl) (hD.sub [0, 1, 2] (by decide +kernel) rfl) hS dX10_feed_64 (Nat.le_of_ble_eq_true rfl) (Nat.le_of_ble_eq_true rfl)
  · have i_1 : 680 < n_h_desk_tapeLength.toInt := (ki_nle c_1)
    have b_8 : kr 681 700 n_h_desk_tapeLength := kr_lt_r (kr_c 680 680 rfl) b_h_desk_tapeLength i_1 rfl
    refine lv_iconst (v := (-1)) hx hb dX10_feed_13 (by decide) ?_
    exact kk_ret_i ((fun _ => 0), (fun i => [f_h_desk_tape].getD i (fun _ => 0)), (fun i => [].getD i (fun _ => 0)), (fun i => [n_h_desk_tapeLength].getD i 0)) hx hb hr hlocks ⟨(kr_w (kr_c (-1) (-1) rfl) rfl), (kr_w b_8 rfl), kf_h_desk_tape⟩ (hP.sub [0, 1, 2] rfl) (hD.sub [0, 1, 2] (by decide +kernel) rfl) hS dX10_feed_14 (Nat.le_of_ble_eq_true rfl) (Nat.le_of_ble_eq_true rfl)
set_option maxHeartbeats 4000000 in
set_option maxRecDepth 100000 in
theorem c_X10_fault (l : Launch) (D : va_G) (cB cI cJ cD : ClassId) (h : Nat) (h_reader : Nat) (h_trials : Nat) (h_desk : Nat) (h_kept : Nat) (h_script : Nat) (h_draft : Nat) (n_h_keptSize : Int32) (n_h_reader_faultCode : Int32) (n_h_reader_faultPlace : Int32) (o_h_reader_bytes : Value) (n_h_reader_length : Int32) (n_h_reader_at : Int32) (n_h_reader_token : Int32) (n_h_reader_tokenPlace : Int32) (n_h_reader_tokenWorth : Int32) (o_h_reader_script : Value) (p0 : Int32) (sz : Nat) (b_h_keptSize : kr 0 16 n_h_keptSize) (b_h_reader_length : kr 0 700 n_h_reader_length) (b_h_reader_at : kr 0 700 n_h_reader_at) : Met l yX10_fault (kk_W yX10_fault cX10_fault 2 (some .int)) ({ frames := 0, cells := 0, slots := 0, locals := 0 }) (va_Pc [.ref h, .int p0] (kk_pre D cB cI cJ cD [kO h 9 [.ref h_reader, .ref h_trials, .ref h_desk, .ref h_kept, .int n_h_keptSize, .ref h_script, .ref h_draft], kO h_reader 4 [.int n_h_reader_faultCode, .int n_h_reader_faultPlace, o_h_reader_bytes, .int n_h_reader_length, .int n_h_reader_at, .int n_h_reader_token, .int n_h_reader_tokenPlace, .int n_h_reader_tokenWorth, o_h_reader_script]] sz)) (vp_Si (fun r => True)) 0 0 (fun _ => False) := by
  refine kk_pstart (y := yX10_fault) (maxL := 2) (av := [.ref h, .int p0]) (by decide) (Nat.le_of_ble_eq_true rfl) ?_
  intro p e s m below meth c ls hx hb hr hml hown hts hE hlocks hsz hP hD hl
  have hown : s.vm.findClass RX10 = some m.cls := hown
  have hl : lv_has ls 2 [(0, .ref h), (1, .int p0)] := hl
  refine lv_iload_n hx hb dX10_fault_0 rfl (lv_at hl 1 rfl) ?_
  refine lv_if_ne (tgt := 12) hx hb dX10_fault_1 (by decide) (fun c_1 => ?_) (fun c_1 => ?_)
  · refine lv_iload_n hx hb dX10_fault_12 rfl (lv_at hl 1 rfl) ?_
    refine lv_iconst (v := 1) hx hb dX10_fault_13 (by decide) ?_
    refine lv_icmp_ne (tgt := 27) hx hb dX10_fault_14 (by decide) (fun c_2 => ?_) (fun c_2 => ?_)
    · refine lv_iconst (v := (-1)) hx hb dX10_fault_27 (by decide) ?_
      exact kk_pret_i hx hb hr hlocks trivial dX10_fault_28
    · have b_3 : kr 1 1 p0 := kr_eq_l (kr_all p0) (kr_c 1 1 rfl) c_2 rfl
      refine lv_aload_n hx hb dX10_fault_17 rfl (lv_at hl 0 rfl) ?_
      refine va_get (D := D) (ci := 9) (v := .ref h_reader) (C := RX10) (T := TX10) (N := 7) hx hb hts u_X10 hown hE.1 hP 0 rfl rfl 0 (by decide) (hts _ w_489) (fun _ h9 => h9) rfl dX10_fault_18 ?_
      refine va_get (D := D) (ci := 4) (v := .int n_h_reader_faultPlace) (C := RX5) (T := TX5) (N := 9) hx hb hts u_X5 hown hE.1 hP 1 rfl rfl 1 (by decide) (hts _ w_259) (fun _ h9 => h9) rfl dX10_fault_21 ?_
      refine lv_goto (tgt := 28) hx hb dX10_fault_24 (by decide) ?_
      exact kk_pret_i hx hb hr hlocks trivial dX10_fault_28
  · have b_4 : kr 0 0 p0 := kr_eq_l (kr_all p0) (kr_c 0 0 rfl) c_1 rfl
    refine lv_aload_n hx hb dX10_fault_4 rfl (lv_at hl 0 rfl) ?_
    refine va_get (D := D) (ci := 9) (v := .ref h_reader) (C := RX10) (T := TX10) (N := 7) hx hb hts u_X10 hown hE.1 hP 0 rfl rfl 0 (by decide) (hts _ w_489) (fun _ h9 => h9) rfl dX10_fault_5 ?_
    refine va_get (D := D) (ci := 4) (v := .int n_h_reader_faultCode) (C := RX5) (T := TX5) (N := 9) hx hb hts u_X5 hown hE.1 hP 1 rfl rfl 0 (by decide) (hts _ w_257) (fun _ h9 => h9) rfl dX10_fault_8 ?_
    exact kk_pret_i hx hb hr hlocks trivial dX10_fault_11
set_option maxHeartbeats 4000000 in
set_option maxRecDepth 100000 in
theorem c_X10_named (l : Launch) (D : va_G) (cB cI cJ cD : ClassId) (h : Nat) (h_script : Nat) (h_script_names : Nat) (h_reader : Nat) (h_trials : Nat) (h_desk : Nat) (h_kept : Nat) (h_draft : Nat) (h_script_told : Nat) (h_script_kind : Nat) (h_script_hand : Nat) (h_script_low : Nat) (h_script_high : Nat) (h_script_value : Nat) (n_h_keptSize : Int32) (n_h_script_lines : Int32) (n_h_script_hands : Int32) (n_h_script_steps : Int32) (f_h_script_names : Nat → Int32) (p0 : Int32) (sz : Nat) (b_h_keptSize : kr 0 16 n_h_keptSize) (b_h_script_hands : kr 0 5 n_h_script_hands) (b_h_script_steps : kr 0 24 n_h_script_steps) : Met l yX10_named (kk_W yX10_named cX10_named 2 (some .int)) ({ frames := 1, cells := 0, slots := 0, locals := 22 }) (va_Pc [.ref h, .int p0] (kk_pre D cB cI cJ cD [kO h 9 [.ref h_reader, .ref h_trials, .ref h_desk, .ref h_kept, .int n_h_keptSize, .ref h_script, .ref h_draft], kO h_script 5 [.int n_h_script_lines, .int n_h_script_hands, .int n_h_script_steps, .ref h_script_told, .ref h_script_names, .ref h_script_kind, .ref h_script_hand, .ref h_script_low, .ref h_script_high, .ref h_script_value], kI cI h_script_names 5 f_h_script_names] sz)) (vp_Si (fun r => kr (-1) 4 r)) 0 0 (fun _ => False) := by
  refine kk_pstart (y := yX10_named) (maxL := 2) (av := [.ref h, .int p0]) (by decide) (Nat.le_of_ble_eq_true rfl) ?_
  intro p e s m below meth c ls hx hb hr hml hown hts hE hlocks hsz hP hD hl
  have hown : s.vm.findClass RX10 = some m.cls := hown
  have hl : lv_has ls 2 [(0, .ref h), (1, .int p0)] := hl
  refine lv_aload_n hx hb dX10_named_0 rfl (lv_at hl 0 rfl) ?_
  refine va_get (D := D) (ci := 9) (v := .ref h_script) (C := RX10) (T := TX10) (N := 7) hx hb hts u_X10 hown hE.1 hP 0 rfl rfl 5 (by decide) (hts _ w_494) (fun _ h9 => h9) rfl dX10_named_1 ?_
  refine lv_iload_n hx hb dX10_named_4 rfl (lv_at hl 1 rfl) ?_
  refine kk_pi (kk_runV (w1 := [kO h_script 5 [.int n_h_script_lines, .int n_h_script_hands, .int n_h_script_steps, .ref h_script_told, .ref h_script_names, .ref h_script_kind, .ref h_script_hand, .ref h_script_low, .ref h_script_high, .ref h_script_value], kI cI h_script_names 5 f_h_script_names]) (As := [.int p0]) (rest := []) hx hb hml hown hts hE (c_X6_handNamed l D cB cI cJ cD h_script h_script_names h_script_told h_script_kind h_script_hand h_script_low h_script_high h_script_value n_h_script_lines n_h_script_hands n_h_script_steps f_h_script_names p0 s.heap.size b_h_script_hands b_h_script_steps) m_X6_handNamed w_660 ⟨rfl, rfl, Nat.le_of_ble_eq_true rfl, Nat.le_of_ble_eq_true rfl⟩ (hP.sub [1, 2] rfl) (hD.sub [1, 2] (by decide +kernel) rfl) 0 5 rfl rfl rfl hl.1 (Nat.le_of_ble_eq_true rfl) dX10_named_5 ⟨Nat.le_of_ble_eq_true rfl, Nat.le_of_ble_eq_true rfl⟩) (fun r_1 p_1 => ?_)
  have b_1 : kr (-1) 4 r_1 := p_1
  exact kk_pret_i hx hb hr hlocks b_1 dX10_named_8
set_option maxHeartbeats 4000000 in
set_option maxRecDepth 100000 in
theorem c_X10_bits (l : Launch) (D : va_G) (cB cI cJ cD : ClassId) (h : Nat) (h_reader : Nat) (h_trials : Nat) (h_desk : Nat) (h_kept : Nat) (h_script : Nat) (h_draft : Nat) (n_h_keptSize : Int32) (p0 : Int32) (p1 : Int32) (sz : Nat) (b_h_keptSize : kr 0 16 n_h_keptSize) : Met l yX10_bits (kk_W yX10_bits cX10_bits 3 (some .int)) ({ frames := 2, cells := 0, slots := 0, locals := 45 }) (va_Pc [.ref h, .int p0, .int p1] (kk_pre D cB cI cJ cD [kO h 9 [.ref h_reader, .ref h_trials, .ref h_desk, .ref h_kept, .int n_h_keptSize, .ref h_script, .ref h_draft]] sz)) (vp_Si (fun r => True)) 0 0 (fun _ => False) := by
  refine kk_pstart (y := yX10_bits) (maxL := 3) (av := [.ref h, .int p0, .int p1]) (by decide) (Nat.le_of_ble_eq_true rfl) ?_
  intro p e s m below meth c ls hx hb hr hml hown hts hE hlocks hsz hP hD hl
  have hown : s.vm.findClass RX10 = some m.cls := hown
  have hl : lv_has ls 3 [(0, .ref h), (1, .int p0), (2, .int p1)] := hl
  refine lv_iload_n hx hb dX10_bits_0 rfl (lv_at hl 1 rfl) ?_
  refine lv_iload_n hx hb dX10_bits_1 rfl (lv_at hl 2 rfl) ?_
  refine kk_pi (kk_runS (w1 := []) (As := [.int p0, .int p1]) (rest := []) hx hb hml hown hts hE (c_X4_keyBits l D cB cI cJ cD p0 p1 s.heap.size) m_X4_keyBits w_665 ⟨rfl, rfl, Nat.le_of_ble_eq_true rfl, Nat.le_of_ble_eq_true rfl⟩ (hP.sub [] rfl) (hD.sub [] (by decide +kernel) rfl) rfl hl.1 (Nat.le_of_ble_eq_true rfl) dX10_bits_2 ⟨Nat.le_of_ble_eq_true rfl, Nat.le_of_ble_eq_true rfl⟩) (fun r_1 p_1 => ?_)
  have g_2 : r_1 = kb p0 p1 := p_1
  exact kk_pret_i hx hb hr hlocks trivial dX10_bits_5
set_option maxHeartbeats 4000000 in
set_option maxRecDepth 100000 in
theorem c_X10_place (l : Launch) (D : va_G) (cB cI cJ cD : ClassId) (h : Nat) (h_desk : Nat) (h_desk_course : Nat) (h_desk_course_world : Nat) (h_desk_course_world_shelf : Nat) (h_desk_course_world_shelf_bits : Nat) (h_reader : Nat) (h_trials : Nat) (h_kept : Nat) (h_script : Nat) (h_draft : Nat) (h_desk_tape : Nat) (h_desk_course_mark : Nat) (h_desk_course_answer : Nat) (h_desk_course_world_crew : Nat) (h_desk_course_world_diary : Nat) (h_desk_course_world_shelf_value : Nat) (h_desk_course_world_shelf_cutter : Nat) (h_desk_course_world_shelf_putter : Nat) (h_desk_course_world_shelf_gaps : Nat) (h_desk_course_world_shelf_sharers : Nat) (h_desk_course_world_shelf_wholes : Nat) (n_h_keptSize : Int32) (n_h_desk_tapeLength : Int32) (n_h_desk_course_come : Int32) (n_h_desk_course_swapAt : Int32) (n_h_desk_course_world_gapless : Int32) (n_h_desk_course_world_looseReads : Int32) (n_h_desk_course_world_impatient : Int32) (n_h_desk_course_world_need : Int32) (n_h_desk_course_world_needKey : Int32) (n_h_desk_course_world_shelf_size : Int32) (f_h_desk_course_world_shelf_bits : Nat → Int32) (p0 : Int32) (p1 : Int32) (sz : Nat) (b_h_keptSize : kr 0 16 n_h_keptSize) (b_h_desk_tapeLength : kr 0 700 n_h_desk_tapeLength) (b_h_desk_course_come : kr 0 24 n_h_desk_course_come) (b_h_desk_course_swapAt : kr (-1) 22 n_h_desk_course_swapAt) (b_h_desk_course_world_gapless : kr 0 1 n_h_desk_course_world_gapless) (b_h_desk_course_world_looseReads : kr 0 1 n_h_desk_course_world_looseReads) (b_h_desk_course_world_impatient : kr 0 1 n_h_desk_course_world_impatient) (b_h_desk_course_world_shelf_size : kr 0 24 n_h_desk_course_world_shelf_size) : Met l yX10_place (kk_W yX10_place cX10_place 4 (some .int)) ({ frames := 2, cells := 0, slots := 0, locals := 45 }) (va_Pc [.ref h, .int p0, .int p1] (kk_pre D cB cI cJ cD [kO h 9 [.ref h_reader, .ref h_trials, .ref h_desk, .ref h_kept, .int n_h_keptSize, .ref h_script, .ref h_draft], kO h_desk 2 [.ref h_desk_course, .ref h_desk_tape, .int n_h_desk_tapeLength], kO h_desk_course 0 [.ref h_desk_course_world, .ref h_desk_course_mark, .ref h_desk_course_answer, .int n_h_desk_course_come, .int n_h_desk_course_swapAt], kO h_desk_course_world 8 [.ref h_desk_course_world_shelf, .ref h_desk_course_world_crew, .ref h_desk_course_world_diary, .int n_h_desk_course_world_gapless, .int n_h_desk_course_world_looseReads, .int n_h_desk_course_world_impatient, .int n_h_desk_course_world_need, .int n_h_desk_course_world_needKey], kO h_desk_course_world_shelf 6 [.int n_h_desk_course_world_shelf_size, .ref h_desk_course_world_shelf_bits, .ref h_desk_course_world_shelf_value, .ref h_desk_course_world_shelf_cutter, .ref h_desk_course_world_shelf_putter, .ref h_desk_course_world_shelf_gaps, .ref h_desk_course_world_shelf_sharers, .ref h_desk_course_world_shelf_wholes], kI cI h_desk_course_world_shelf_bits 24 f_h_desk_course_world_shelf_bits] sz)) (vp_Si (fun r => kr (-1) 24 r)) 0 0 (fun _ => False) := by
  refine kk_pstart (y := yX10_place) (maxL := 4) (av := [.ref h, .int p0, .int p1]) (by decide) (Nat.le_of_ble_eq_true rfl) ?_
  intro p e s m below meth c ls hx hb hr hml hown hts hE hlocks hsz hP hD hl
  have hown : s.vm.findClass RX10 = some m.cls := hown
  have hl : lv_has ls 4 [(0, .ref h), (1, .int p0), (2, .int p1)] := hl
  refine lv_iload_n hx hb dX10_place_0 rfl (lv_at hl 1 rfl) ?_
  refine lv_iload_n hx hb dX10_place_1 rfl (lv_at hl 2 rfl) ?_
  refine kk_pi (kk_runS (w1 := []) (As := [.int p0, .int p1]) (rest := []) hx hb hml hown hts hE (c_X4_keyBits l D cB cI cJ cD p0 p1 s.heap.size) m_X4_keyBits w_665 ⟨rfl, rfl, Nat.le_of_ble_eq_true rfl, Nat.le_of_ble_eq_true rfl⟩ (hP.sub [] rfl) (hD.sub [] (by decide +kernel) rfl) rfl hl.1 (Nat.le_of_ble_eq_true rfl) dX10_place_2 ⟨Nat.le_of_ble_eq_true rfl, Nat.le_of_ble_eq_true rfl⟩) (fun r_1 p_1 => ?_)
  have g_2 : r_1 = kb p0 p1 := p_1
  refine lv_istore_n (lv' := [(3, .int r_1), (0, .ref h), (1, .int p0), (2, .int p1)]) hx hb dX10_place_5 rfl hl (by decide) rfl (fun ls hl => ?_)
  refine lv_iload_n hx hb dX10_place_6 rfl (lv_at hl 0 rfl) ?_
  refine lv_iconst (v := (-1)) hx hb dX10_place_7 (by decide) ?_
  refine lv_icmp_ne (tgt := 15) hx hb dX10_place_8 (by decide) (fun c_3 => ?_) (fun c_3 => ?_)
  · refine lv_aload_n hx hb dX10_place_15 rfl (lv_at hl 1 rfl) ?_
    refine va_get (D := D) (ci := 9) (v := .ref h_desk) (C := RX10) (T := TX10) (N := 7) hx hb hts u_X10 hown hE.1 hP 0 rfl rfl 2 (by decide) (hts _ w_491) (fun _ h9 => h9) rfl dX10_place_16 ?_
    refine va_get (D := D) (ci := 2) (v := .ref h_desk_course) (C := RX2) (T := TX2) (N := 3) hx hb hts u_X2 hown hE.1 hP 1 rfl rfl 0 (by decide) (hts _ w_474) (fun _ h9 => h9) rfl dX10_place_19 ?_
    refine va_get (D := D) (ci := 0) (v := .ref h_desk_course_world) (C := RX0) (T := TX0) (N := 5) hx hb hts u_X0 hown hE.1 hP 2 rfl rfl 0 (by decide) (hts _ w_420) (fun _ h9 => h9) rfl dX10_place_22 ?_
    refine va_get (D := D) (ci := 8) (v := .ref h_desk_course_world_shelf) (C := RX9) (T := TX9) (N := 8) hx hb hts u_X9 hown hE.1 hP 3 rfl rfl 0 (by decide) (hts _ w_385) (fun _ h9 => h9) rfl dX10_place_25 ?_
    refine lv_iload_n hx hb dX10_place_28 rfl (lv_at hl 0 rfl) ?_
    refine kk_pi (kk_runV (w1 := [kO h_desk_course_world_shelf 6 [.int n_h_desk_course_world_shelf_size, .ref h_desk_course_world_shelf_bits, .ref h_desk_course_world_shelf_value, .ref h_desk_course_world_shelf_cutter, .ref h_desk_course_world_shelf_putter, .ref h_desk_course_world_shelf_gaps, .ref h_desk_course_world_shelf_sharers, .ref h_desk_course_world_shelf_wholes], kI cI h_desk_course_world_shelf_bits 24 f_h_desk_course_world_shelf_bits]) (As := [.int r_1]) (rest := []) hx hb hml hown hts hE (c_X7_placeFrom l D cB cI cJ cD h_desk_course_world_shelf h_desk_course_world_shelf_bits h_desk_course_world_shelf_value h_desk_course_world_shelf_cutter h_desk_course_world_shelf_putter h_desk_course_world_shelf_gaps h_desk_course_world_shelf_sharers h_desk_course_world_shelf_wholes n_h_desk_course_world_shelf_size f_h_desk_course_world_shelf_bits r_1 s.heap.size b_h_desk_course_world_shelf_size) m_X7_placeFrom w_670 ⟨rfl, rfl, Nat.le_of_ble_eq_true rfl, Nat.le_of_ble_eq_true rfl⟩ (hP.sub [4, 5] rfl) (hD.sub [4, 5] (by decide +kernel) rfl) 0 6 rfl rfl rfl hl.1 (Nat.le_of_ble_eq_true rfl) dX10_place_29 ⟨Nat.le_of_ble_eq_true rfl, Nat.le_of_ble_eq_true rfl⟩) (fun r_4 p_4 => ?_)
    have b_4 : kr 0 24 r_4 := p_4.1
    have g_5 : r_4.toInt ≤ n_h_desk_course_world_shelf_size.toInt := p_4.2
    exact kk_pret_i hx hb hr hlocks (kr_w b_4 rfl) dX10_place_32
  · have b_6 : kr (-1) (-1) r_1 := kr_eq_l (kr_all r_1) (kr_c (-1) (-1) rfl) c_3 rfl
    refine lv_iconst (v := (-1)) hx hb dX10_place_11 (by decide) ?_
    refine lv_goto (tgt := 32) hx hb dX10_place_12 (by decide) ?_
    exact kk_pret_i hx hb hr hlocks (kr_w (kr_c (-1) (-1) rfl) rfl) dX10_place_32
set_option maxHeartbeats 4000000 in
set_option maxRecDepth 100000 in
theorem c_X4_bitsOf_any (l : Launch) (D : va_G) (cB cI cJ cD : ClassId) (p0 : UInt32) (sz : Nat) : MetD lw_cs l yX4_bitsOf (kk_W yX4_bitsOf cX4_bitsOf 5 (some .int)) ({ frames := 0, cells := 0, slots := 0, locals := 0 }) (va_Pc [.float p0] (kk_pre D cB cI cJ cD [] sz)) (vp_Si (fun r => True)) 0 0 (fun _ => False) := by
  refine kk_pstartD (y := yX4_bitsOf) (maxL := 5) (av := [.float p0]) (by decide) (Nat.le_of_ble_eq_true rfl) ?_
  intro p e s m below meth c ls hx hb hr hml hown hts hE hlocks hsz hP hD hl hd
  have hts0 := hts
  have hE0 := hE
  have hts := dr_words hts0 s.drawn
  have hE := kk_E.warm (U := s.setDrawn s.drawn) (State.WarmedH.refl s) hE0
  have hown : s.vm.findClass RX4 = some m.cls := hown
  have hl : lv_has ls 5 [(0, .float p0)] := hl
  generalize hQQ : MQD lw_cs below _ _ s _ _ _ = QQ
  have J_116 : ∀ (n : Nat) (dd : Drawn) (x116_l_4 : Int32) (x116_l_3 : Int32) (x116_l_1 : UInt64) (ls : Array Slot), ((-127) - x116_l_4.toInt).toNat < n → s.drawn.sameBut dd lw_cs → kr (-149) (-127) x116_l_4 → kr (-2147483648) (-127) x116_l_3 → lv_has ls 5 [(4, .int x116_l_4), (3, .int x116_l_3), (1, .double x116_l_1)] → W p l e ({ frames := 0, cells := 0, slots := 0, locals := 0 }) (s.setDrawn dd) m ([.float p0] : List Value).toArray below meth c s.heap [] 0 0 QQ (F0 m 116 ls []) := by
    intro n
    induction n with
    | zero =>
      intro dd x116_l_4 x116_l_3 x116_l_1 ls hn_116 hd bx116_l_4 bx116_l_3 hl
      exact absurd hn_116 (Nat.not_lt_zero _)
    | succ n ih_116 =>
      intro dd x116_l_4 x116_l_3 x116_l_1 ls hn_116 hd bx116_l_4 bx116_l_3 hl
      have hts := dr_words hts0 dd
      have hE := kk_E.warm (U := s.setDrawn dd) (State.WarmedH.refl s) hE0
      refine lv_iload hx hb dX4_bitsOf_116 (lv_at hl 0 rfl) ?_
      refine lv_iload_n hx hb dX4_bitsOf_118 rfl (lv_at hl 1 rfl) ?_
      refine lv_icmp_ge (tgt := 134) hx hb dX4_bitsOf_119 (by decide) (fun c_1 => ?_) (fun c_1 => ?_)
      · have i_1 : x116_l_3.toInt ≤ x116_l_4.toInt := (ki_le c_1)
        refine lv_dload_n hx hb dX4_bitsOf_134 rfl (lv_at hl 2 rfl) ?_
        refine lv_d2i hx hb dX4_bitsOf_135 ?_
        refine lv_topi (fun v_2 e_2 => ?_)
        subst hQQ
        refine W.endD hd ?_
        exact kk_pret_i hx hb hr hlocks trivial dX4_bitsOf_136
      · have i_1 : x116_l_4.toInt < x116_l_3.toInt := (ki_nle c_1)
        have b_3 : kr (-149) (-128) x116_l_4 := kr_lt_l bx116_l_4 bx116_l_3 i_1 rfl
        have b_4 : kr (-148) (-127) x116_l_3 := kr_lt_r bx116_l_4 bx116_l_3 i_1 rfl
        refine lv_dload_n hx hb dX4_bitsOf_122 rfl (lv_at hl 2 rfl) ?_
        refine lv_ldc2d (v := 4611686018427387904) hx hb hown (hts _ w_598) dX4_bitsOf_123 ?_
        refine lv_dmul_any hd lw_bits hx hb dX4_bitsOf_126 (fun r_5 dd _ hd => ?_)
        have hts := dr_words hts0 dd
        have hE := kk_E.warm (U := s.setDrawn dd) (State.WarmedH.refl s) hE0
        refine lv_dstore_n (lv' := [(1, .double r_5), (4, .int x116_l_4), (3, .int x116_l_3)]) hx hb dX4_bitsOf_127 rfl hl (by decide) rfl (fun ls hl => ?_)
        obtain ⟨v_6, e_6⟩ : ∃ y : Int32, y = x116_l_4 + 1 := ⟨_, rfl⟩
        have t_6 : v_6.toInt = x116_l_4.toInt + 1 := kt_add e_6 b_3 (kr_c 1 1 rfl) rfl
        have b_6 : kr (-148) (-127) v_6 := kr_add (x := x116_l_4) (y := 1) t_6 b_3 (kr_c 1 1 rfl) rfl
        refine lv_iinc (v := v_6) (lv' := [(4, .int v_6), (1, .double r_5), (3, .int x116_l_3)]) hx hb dX4_bitsOf_128 hl (k := 1) rfl (by rw [e_6]; rfl) (by decide) rfl (fun ls hl => ?_)
        refine lv_goto (tgt := 116) hx hb dX4_bitsOf_131 (by decide) ?_
        exact ih_116 _ v_6 x116_l_3 r_5 _ (km_up hn_116 t_6 b_6 rfl) hd (kr_w b_6 rfl) (kr_w b_4 rfl) (lv_sub hl [0, 2, 1] rfl)
  have J_79 : ∀ (dd : Drawn) (x79_l_3 : Int32) (x79_l_1 : UInt64) (ls : Array Slot), s.drawn.sameBut dd lw_cs → lv_has ls 5 [(3, .int x79_l_3), (1, .double x79_l_1)] → W p l e ({ frames := 0, cells := 0, slots := 0, locals := 0 }) (s.setDrawn dd) m ([.float p0] : List Value).toArray below meth c s.heap [] 0 0 QQ (F0 m 79 ls []) := by
    intro dd x79_l_3 x79_l_1 ls hd hl
    have hts := dr_words hts0 dd
    have hE := kk_E.warm (U := s.setDrawn dd) (State.WarmedH.refl s) hE0
    refine lv_iload_n hx hb dX4_bitsOf_79 rfl (lv_at hl 0 rfl) ?_
    refine lv_bipush (v := 127) hx hb dX4_bitsOf_80 (by decide) ?_
    refine lv_icmp_le (tgt := 88) hx hb dX4_bitsOf_82 (by decide) (fun c_7 => ?_) (fun c_7 => ?_)
    · have i_7 : x79_l_3.toInt ≤ 127 := (ki_le c_7)
      have b_8 : kr (-2147483648) 127 x79_l_3 := kr_le_l (kr_all x79_l_3) (kr_c 127 127 rfl) i_7 rfl
      refine lv_iload_n hx hb dX4_bitsOf_88 rfl (lv_at hl 0 rfl) ?_
      refine lv_bipush (v := (-126)) hx hb dX4_bitsOf_89 (by decide) ?_
      refine lv_icmp_lt (tgt := 111) hx hb dX4_bitsOf_91 (by decide) (fun c_9 => ?_) (fun c_9 => ?_)
      · have i_9 : x79_l_3.toInt < (-126) := (ki_lt c_9)
        have b_10 : kr (-2147483648) (-127) x79_l_3 := kr_lt_l b_8 (kr_c (-126) (-126) rfl) i_9 rfl
        refine lv_sipush (v := (-149)) hx hb dX4_bitsOf_111 (by decide) ?_
        refine lv_istore (lv' := [(4, .int (-149)), (3, .int x79_l_3), (1, .double x79_l_1)]) hx hb dX4_bitsOf_114 hl (by decide) rfl (fun ls hl => ?_)
        exact J_116 _ _ (-149) x79_l_3 x79_l_1 _ (Nat.lt_succ_self _) hd (kr_w (kr_c (-149) (-149) rfl) rfl) b_10 (lv_sub hl [0, 1, 2] rfl)
      · have i_9 : (-126) ≤ x79_l_3.toInt := (ki_nlt c_9)
        have b_11 : kr (-126) 127 x79_l_3 := kr_le_r (kr_c (-126) (-126) rfl) b_8 i_9 rfl
        refine lv_iload_n hx hb dX4_bitsOf_94 rfl (lv_at hl 0 rfl) ?_
        refine lv_bipush (v := 127) hx hb dX4_bitsOf_95 (by decide) ?_
        refine lv_iadd hx hb dX4_bitsOf_97 ?_
        refine lv_topi (fun v_12 e_12 => ?_)
        have t_12 : v_12.toInt = x79_l_3.toInt + 127 := kt_add e_12 b_11 (kr_c 127 127 rfl) rfl
        have b_12 : kr 1 254 v_12 := kr_add (x := x79_l_3) (y := 127) t_12 b_11 (kr_c 127 127 rfl) rfl
        refine lv_bipush (v := 23) hx hb dX4_bitsOf_98 (by decide) ?_
        refine lv_ishl hx hb dX4_bitsOf_100 ?_
        refine lv_topi (fun v_13 e_13 => ?_)
        refine lv_dload_n hx hb dX4_bitsOf_101 rfl (lv_at hl 1 rfl) ?_
        refine lv_dconst1 hx hb dX4_bitsOf_102 ?_
        refine lv_topd (fun v_14 e_14 => ?_)
        refine lv_dsub_any hd lw_bits hx hb dX4_bitsOf_103 (fun r_15 dd _ hd => ?_)
        have hts := dr_words hts0 dd
        have hE := kk_E.warm (U := s.setDrawn dd) (State.WarmedH.refl s) hE0
        refine lv_ldc2d (v := 4710765210229538816) hx hb hown (hts _ w_600) dX4_bitsOf_104 ?_
        refine lv_dmul_any hd lw_bits hx hb dX4_bitsOf_107 (fun r_16 dd _ hd => ?_)
        have hts := dr_words hts0 dd
        have hE := kk_E.warm (U := s.setDrawn dd) (State.WarmedH.refl s) hE0
        refine lv_d2i hx hb dX4_bitsOf_108 ?_
        refine lv_topi (fun v_17 e_17 => ?_)
        refine lv_ior hx hb dX4_bitsOf_109 ?_
        refine lv_topi (fun v_18 e_18 => ?_)
        subst hQQ
        refine W.endD hd ?_
        exact kk_pret_i hx hb hr hlocks trivial dX4_bitsOf_110
    · have i_7 : 127 < x79_l_3.toInt := (ki_nle c_7)
      have b_19 : kr 128 2147483647 x79_l_3 := kr_lt_r (kr_c 127 127 rfl) (kr_all x79_l_3) i_7 rfl
      refine lv_ldc (v := 2139095040) hx hb hown (hts _ w_599) dX4_bitsOf_85 ?_
      subst hQQ
      refine W.endD hd ?_
      exact kk_pret_i hx hb hr hlocks trivial dX4_bitsOf_87
  have J_50 : ∀ (n : Nat) (dd : Drawn) (x50_l_4 : Int32) (x50_l_3 : Int32) (x50_l_1 : UInt64) (ls : Array Slot), (149 - x50_l_4.toInt).toNat < n → s.drawn.sameBut dd lw_cs → kr 0 149 x50_l_4 → lv_has ls 5 [(4, .int x50_l_4), (3, .int x50_l_3), (1, .double x50_l_1)] → W p l e ({ frames := 0, cells := 0, slots := 0, locals := 0 }) (s.setDrawn dd) m ([.float p0] : List Value).toArray below meth c s.heap [] 0 0 QQ (F0 m 50 ls []) := by
    intro n
    induction n with
    | zero =>
      intro dd x50_l_4 x50_l_3 x50_l_1 ls hn_50 hd bx50_l_4 hl
      exact absurd hn_50 (Nat.not_lt_zero _)
    | succ n ih_50 =>
      intro dd x50_l_4 x50_l_3 x50_l_1 ls hn_50 hd bx50_l_4 hl
      have hts := dr_words hts0 dd
      have hE := kk_E.warm (U := s.setDrawn dd) (State.WarmedH.refl s) hE0
      refine lv_iload hx hb dX4_bitsOf_50 (lv_at hl 0 rfl) ?_
      refine lv_sipush (v := 149) hx hb dX4_bitsOf_52 (by decide) ?_
      refine lv_icmp_ge (tgt := 79) hx hb dX4_bitsOf_55 (by decide) (fun c_20 => ?_) (fun c_20 => ?_)
      · have i_20 : 149 ≤ x50_l_4.toInt := (ki_le c_20)
        have b_21 : kr 149 149 x50_l_4 := kr_le_r (kr_c 149 149 rfl) bx50_l_4 i_20 rfl
        exact J_79 _ x50_l_3 x50_l_1 _ hd (lv_sub hl [1, 2] rfl)
      · have i_20 : x50_l_4.toInt < 149 := (ki_nle c_20)
        have b_22 : kr 0 148 x50_l_4 := kr_lt_l bx50_l_4 (kr_c 149 149 rfl) i_20 rfl
        refine lv_dload_n hx hb dX4_bitsOf_58 rfl (lv_at hl 2 rfl) ?_
        refine lv_dconst1 hx hb dX4_bitsOf_59 ?_
        refine lv_topd (fun v_23 e_23 => ?_)
        refine lv_dcmp hx hb dX4_bitsOf_60 ?_
        refine lv_topi (fun v_24 e_24 => ?_)
        refine lv_if_ge (tgt := 79) hx hb dX4_bitsOf_61 (by decide) (fun c_25 => ?_) (fun c_25 => ?_)
        · have i_25 : 0 ≤ v_24.toInt := (ki_le c_25)
          have b_26 : kr 0 2147483647 v_24 := kr_le_r (kr_c 0 0 rfl) (kr_all v_24) i_25 rfl
          exact J_79 _ x50_l_3 x50_l_1 _ hd (lv_sub hl [1, 2] rfl)
        · have i_25 : v_24.toInt < 0 := (ki_nle c_25)
          have b_27 : kr (-2147483648) (-1) v_24 := kr_lt_l (kr_all v_24) (kr_c 0 0 rfl) i_25 rfl
          refine lv_dload_n hx hb dX4_bitsOf_64 rfl (lv_at hl 2 rfl) ?_
          refine lv_ldc2d (v := 4611686018427387904) hx hb hown (hts _ w_598) dX4_bitsOf_65 ?_
          refine lv_dmul_any hd lw_bits hx hb dX4_bitsOf_68 (fun r_28 dd _ hd => ?_)
          have hts := dr_words hts0 dd
          have hE := kk_E.warm (U := s.setDrawn dd) (State.WarmedH.refl s) hE0
          refine lv_dstore_n (lv' := [(1, .double r_28), (4, .int x50_l_4), (3, .int x50_l_3)]) hx hb dX4_bitsOf_69 rfl hl (by decide) rfl (fun ls hl => ?_)
          obtain ⟨v_29, e_29⟩ : ∃ y : Int32, y = x50_l_3 + (-1) := ⟨_, rfl⟩
          refine lv_iinc (v := v_29) (lv' := [(3, .int v_29), (1, .double r_28), (4, .int x50_l_4)]) hx hb dX4_bitsOf_70 hl (k := 2) rfl (by rw [e_29]; rfl) (by decide) rfl (fun ls hl => ?_)
          obtain ⟨v_30, e_30⟩ : ∃ y : Int32, y = x50_l_4 + 1 := ⟨_, rfl⟩
          have t_30 : v_30.toInt = x50_l_4.toInt + 1 := kt_add e_30 b_22 (kr_c 1 1 rfl) rfl
          have b_30 : kr 1 149 v_30 := kr_add (x := x50_l_4) (y := 1) t_30 b_22 (kr_c 1 1 rfl) rfl
          refine lv_iinc (v := v_30) (lv' := [(4, .int v_30), (3, .int v_29), (1, .double r_28)]) hx hb dX4_bitsOf_73 hl (k := 2) rfl (by rw [e_30]; rfl) (by decide) rfl (fun ls hl => ?_)
          refine lv_goto (tgt := 50) hx hb dX4_bitsOf_76 (by decide) ?_
          exact ih_50 _ v_30 v_29 r_28 _ (km_up hn_50 t_30 b_30 rfl) hd (kr_w b_30 rfl) (lv_sub hl [0, 1, 2] rfl)
  have J_47 : ∀ (dd : Drawn) (x47_l_3 : Int32) (x47_l_1 : UInt64) (ls : Array Slot), s.drawn.sameBut dd lw_cs → lv_has ls 5 [(3, .int x47_l_3), (1, .double x47_l_1)] → W p l e ({ frames := 0, cells := 0, slots := 0, locals := 0 }) (s.setDrawn dd) m ([.float p0] : List Value).toArray below meth c s.heap [] 0 0 QQ (F0 m 47 ls []) := by
    intro dd x47_l_3 x47_l_1 ls hd hl
    have hts := dr_words hts0 dd
    have hE := kk_E.warm (U := s.setDrawn dd) (State.WarmedH.refl s) hE0
    refine lv_iconst (v := 0) hx hb dX4_bitsOf_47 (by decide) ?_
    refine lv_istore (lv' := [(4, .int 0), (3, .int x47_l_3), (1, .double x47_l_1)]) hx hb dX4_bitsOf_48 hl (by decide) rfl (fun ls hl => ?_)
    exact J_50 _ _ 0 x47_l_3 x47_l_1 _ (Nat.lt_succ_self _) hd (kr_w (kr_c 0 0 rfl) rfl) (lv_sub hl [0, 1, 2] rfl)
  have J_16 : ∀ (n : Nat) (dd : Drawn) (x16_l_4 : Int32) (x16_l_3 : Int32) (x16_l_1 : UInt64) (ls : Array Slot), (128 - x16_l_4.toInt).toNat < n → s.drawn.sameBut dd lw_cs → kr 0 128 x16_l_4 → lv_has ls 5 [(4, .int x16_l_4), (3, .int x16_l_3), (1, .double x16_l_1)] → W p l e ({ frames := 0, cells := 0, slots := 0, locals := 0 }) (s.setDrawn dd) m ([.float p0] : List Value).toArray below meth c s.heap [] 0 0 QQ (F0 m 16 ls []) := by
    intro n
    induction n with
    | zero =>
      intro dd x16_l_4 x16_l_3 x16_l_1 ls hn_16 hd bx16_l_4 hl
      exact absurd hn_16 (Nat.not_lt_zero _)
    | succ n ih_16 =>
      intro dd x16_l_4 x16_l_3 x16_l_1 ls hn_16 hd bx16_l_4 hl
      have hts := dr_words hts0 dd
      have hE := kk_E.warm (U := s.setDrawn dd) (State.WarmedH.refl s) hE0
      refine lv_iload hx hb dX4_bitsOf_16 (lv_at hl 0 rfl) ?_
      refine lv_sipush (v := 128) hx hb dX4_bitsOf_18 (by decide) ?_
      refine lv_icmp_ge (tgt := 47) hx hb dX4_bitsOf_21 (by decide) (fun c_31 => ?_) (fun c_31 => ?_)
      · have i_31 : 128 ≤ x16_l_4.toInt := (ki_le c_31)
        have b_32 : kr 128 128 x16_l_4 := kr_le_r (kr_c 128 128 rfl) bx16_l_4 i_31 rfl
        exact J_47 _ x16_l_3 x16_l_1 _ hd (lv_sub hl [1, 2] rfl)
      · have i_31 : x16_l_4.toInt < 128 := (ki_nle c_31)
        have b_33 : kr 0 127 x16_l_4 := kr_lt_l bx16_l_4 (kr_c 128 128 rfl) i_31 rfl
        refine lv_dload_n hx hb dX4_bitsOf_24 rfl (lv_at hl 2 rfl) ?_
        refine lv_ldc2d (v := 4611686018427387904) hx hb hown (hts _ w_598) dX4_bitsOf_25 ?_
        refine lv_dcmp hx hb dX4_bitsOf_28 ?_
        refine lv_topi (fun v_34 e_34 => ?_)
        refine lv_if_lt (tgt := 47) hx hb dX4_bitsOf_29 (by decide) (fun c_35 => ?_) (fun c_35 => ?_)
        · have i_35 : v_34.toInt < 0 := (ki_lt c_35)
          have b_36 : kr (-2147483648) (-1) v_34 := kr_lt_l (kr_all v_34) (kr_c 0 0 rfl) i_35 rfl
          exact J_47 _ x16_l_3 x16_l_1 _ hd (lv_sub hl [1, 2] rfl)
        · have i_35 : 0 ≤ v_34.toInt := (ki_nlt c_35)
          have b_37 : kr 0 2147483647 v_34 := kr_le_r (kr_c 0 0 rfl) (kr_all v_34) i_35 rfl
          refine lv_dload_n hx hb dX4_bitsOf_32 rfl (lv_at hl 2 rfl) ?_
          refine lv_ldc2d (v := 4611686018427387904) hx hb hown (hts _ w_598) dX4_bitsOf_33 ?_
          refine lv_ddiv_any hd lw_bits hx hb dX4_bitsOf_36 (fun r_38 dd _ hd => ?_)
          have hts := dr_words hts0 dd
          have hE := kk_E.warm (U := s.setDrawn dd) (State.WarmedH.refl s) hE0
          refine lv_dstore_n (lv' := [(1, .double r_38), (4, .int x16_l_4), (3, .int x16_l_3)]) hx hb dX4_bitsOf_37 rfl hl (by decide) rfl (fun ls hl => ?_)
          obtain ⟨v_39, e_39⟩ : ∃ y : Int32, y = x16_l_3 + 1 := ⟨_, rfl⟩
          refine lv_iinc (v := v_39) (lv' := [(3, .int v_39), (1, .double r_38), (4, .int x16_l_4)]) hx hb dX4_bitsOf_38 hl (k := 2) rfl (by rw [e_39]; rfl) (by decide) rfl (fun ls hl => ?_)
          obtain ⟨v_40, e_40⟩ : ∃ y : Int32, y = x16_l_4 + 1 := ⟨_, rfl⟩
          have t_40 : v_40.toInt = x16_l_4.toInt + 1 := kt_add e_40 b_33 (kr_c 1 1 rfl) rfl
          have b_40 : kr 1 128 v_40 := kr_add (x := x16_l_4) (y := 1) t_40 b_33 (kr_c 1 1 rfl) rfl
          refine lv_iinc (v := v_40) (lv' := [(4, .int v_40), (3, .int v_39), (1, .double r_38)]) hx hb dX4_bitsOf_41 hl (k := 2) rfl (by rw [e_40]; rfl) (by decide) rfl (fun ls hl => ?_)
          refine lv_goto (tgt := 16) hx hb dX4_bitsOf_44 (by decide) ?_
          exact ih_16 _ v_40 v_39 r_38 _ (km_up hn_16 t_40 b_40 rfl) hd (kr_w b_40 rfl) (lv_sub hl [0, 1, 2] rfl)
  refine lv_fload_n hx hb dX4_bitsOf_0 rfl (lv_at hl 0 rfl) ?_
  refine lv_fconst0 hx hb dX4_bitsOf_1 ?_
  refine lv_topf (fun v_41 e_41 => ?_)
  refine lv_fcmp hx hb dX4_bitsOf_2 ?_
  refine lv_topi (fun v_42 e_42 => ?_)
  refine lv_if_gt (tgt := 8) hx hb dX4_bitsOf_3 (by decide) (fun c_43 => ?_) (fun c_43 => ?_)
  · have i_43 : 0 < v_42.toInt := (ki_lt c_43)
    have b_44 : kr 1 2147483647 v_42 := kr_lt_r (kr_c 0 0 rfl) (kr_all v_42) i_43 rfl
    refine lv_fload_n hx hb dX4_bitsOf_8 rfl (lv_at hl 0 rfl) ?_
    refine lv_f2d_any hd lw_bits hx hb dX4_bitsOf_9 (fun r_45 dd _ hd => ?_)
    have hts := dr_words hts0 dd
    have hE := kk_E.warm (U := s.setDrawn dd) (State.WarmedH.refl s) hE0
    refine lv_dstore_n (lv' := [(1, .double r_45), (0, .float p0)]) hx hb dX4_bitsOf_10 rfl hl (by decide) rfl (fun ls hl => ?_)
    refine lv_iconst (v := 0) hx hb dX4_bitsOf_11 (by decide) ?_
    refine lv_istore_n (lv' := [(3, .int 0), (1, .double r_45), (0, .float p0)]) hx hb dX4_bitsOf_12 rfl hl (by decide) rfl (fun ls hl => ?_)
    refine lv_iconst (v := 0) hx hb dX4_bitsOf_13 (by decide) ?_
    refine lv_istore (lv' := [(4, .int 0), (3, .int 0), (1, .double r_45), (0, .float p0)]) hx hb dX4_bitsOf_14 hl (by decide) rfl (fun ls hl => ?_)
    exact J_16 _ _ 0 0 r_45 _ (Nat.lt_succ_self _) hd (kr_w (kr_c 0 0 rfl) rfl) (lv_sub hl [0, 1, 2] rfl)
  · have i_43 : v_42.toInt ≤ 0 := (ki_nlt c_43)
    have b_46 : kr (-2147483648) 0 v_42 := kr_le_l (kr_all v_42) (kr_c 0 0 rfl) i_43 rfl
    refine lv_iconst (v := 0) hx hb dX4_bitsOf_6 (by decide) ?_
    subst hQQ
    refine W.endD hd ?_
    exact kk_pret_i hx hb hr hlocks trivial dX4_bitsOf_7
set_option maxHeartbeats 4000000 in
set_option maxRecDepth 100000 in
theorem c_X10_width (l : Launch) (D : va_G) (cB cI cJ cD : ClassId) (h : Nat) (h_desk : Nat) (h_desk_course : Nat) (h_desk_course_world : Nat) (h_desk_course_world_shelf : Nat) (h_desk_course_world_shelf_bits : Nat) (h_reader : Nat) (h_trials : Nat) (h_kept : Nat) (h_script : Nat) (h_draft : Nat) (h_desk_tape : Nat) (h_desk_course_mark : Nat) (h_desk_course_answer : Nat) (h_desk_course_world_crew : Nat) (h_desk_course_world_diary : Nat) (h_desk_course_world_shelf_value : Nat) (h_desk_course_world_shelf_cutter : Nat) (h_desk_course_world_shelf_putter : Nat) (h_desk_course_world_shelf_gaps : Nat) (h_desk_course_world_shelf_sharers : Nat) (h_desk_course_world_shelf_wholes : Nat) (n_h_keptSize : Int32) (n_h_desk_tapeLength : Int32) (n_h_desk_course_come : Int32) (n_h_desk_course_swapAt : Int32) (n_h_desk_course_world_gapless : Int32) (n_h_desk_course_world_looseReads : Int32) (n_h_desk_course_world_impatient : Int32) (n_h_desk_course_world_need : Int32) (n_h_desk_course_world_needKey : Int32) (n_h_desk_course_world_shelf_size : Int32) (f_h_desk_course_world_shelf_bits : Nat → Int32) (p0 : Int32) (p1 : Int32) (sz : Nat) (b_h_keptSize : kr 0 16 n_h_keptSize) (b_h_desk_tapeLength : kr 0 700 n_h_desk_tapeLength) (b_h_desk_course_come : kr 0 24 n_h_desk_course_come) (b_h_desk_course_swapAt : kr (-1) 22 n_h_desk_course_swapAt) (b_h_desk_course_world_gapless : kr 0 1 n_h_desk_course_world_gapless) (b_h_desk_course_world_looseReads : kr 0 1 n_h_desk_course_world_looseReads) (b_h_desk_course_world_impatient : kr 0 1 n_h_desk_course_world_impatient) (b_h_desk_course_world_shelf_size : kr 0 24 n_h_desk_course_world_shelf_size) : MetD lw_cs l yX10_width (kk_W yX10_width cX10_width 4 (some .int)) ({ frames := 2, cells := 0, slots := 0, locals := 46 }) (va_Pc [.ref h, .int p0, .int p1] (kk_pre D cB cI cJ cD [kO h 9 [.ref h_reader, .ref h_trials, .ref h_desk, .ref h_kept, .int n_h_keptSize, .ref h_script, .ref h_draft], kO h_desk 2 [.ref h_desk_course, .ref h_desk_tape, .int n_h_desk_tapeLength], kO h_desk_course 0 [.ref h_desk_course_world, .ref h_desk_course_mark, .ref h_desk_course_answer, .int n_h_desk_course_come, .int n_h_desk_course_swapAt], kO h_desk_course_world 8 [.ref h_desk_course_world_shelf, .ref h_desk_course_world_crew, .ref h_desk_course_world_diary, .int n_h_desk_course_world_gapless, .int n_h_desk_course_world_looseReads, .int n_h_desk_course_world_impatient, .int n_h_desk_course_world_need, .int n_h_desk_course_world_needKey], kO h_desk_course_world_shelf 6 [.int n_h_desk_course_world_shelf_size, .ref h_desk_course_world_shelf_bits, .ref h_desk_course_world_shelf_value, .ref h_desk_course_world_shelf_cutter, .ref h_desk_course_world_shelf_putter, .ref h_desk_course_world_shelf_gaps, .ref h_desk_course_world_shelf_sharers, .ref h_desk_course_world_shelf_wholes], kI cI h_desk_course_world_shelf_bits 24 f_h_desk_course_world_shelf_bits] sz)) (vp_Si (fun r => True)) 0 0 (fun _ => False) := by
  refine kk_pstartD (y := yX10_width) (maxL := 4) (av := [.ref h, .int p0, .int p1]) (by decide) (Nat.le_of_ble_eq_true rfl) ?_
  intro p e s m below meth c ls hx hb hr hml hown hts hE hlocks hsz hP hD hl hd
  have hts0 := hts
  have hE0 := hE
  have hts := dr_words hts0 s.drawn
  have hE := kk_E.warm (U := s.setDrawn s.drawn) (State.WarmedH.refl s) hE0
  have hown : s.vm.findClass RX10 = some m.cls := hown
  have hl : lv_has ls 4 [(0, .ref h), (1, .int p0), (2, .int p1)] := hl
  generalize hQQ : MQD lw_cs below _ _ s _ _ _ = QQ
  have J_54 : ∀ (dd : Drawn) (x54_s_0 : UInt32) (ls : Array Slot), s.drawn.sameBut dd lw_cs → kr 1 24 n_h_desk_course_world_shelf_size → lv_has ls 4 [] → W p l e ({ frames := 2, cells := 0, slots := 0, locals := 46 }) (s.setDrawn dd) m ([.ref h, .int p0, .int p1] : List Value).toArray below meth c s.heap [] 0 0 QQ (F0 m 54 ls [.float x54_s_0]) := by
    intro dd x54_s_0 ls hd c54_n_h_desk_course_world_shelf_size hl
    have hts := dr_words hts0 dd
    have hE := kk_E.warm (U := s.setDrawn dd) (State.WarmedH.refl s) hE0
    refine kk_piD hd (kk_runSD (w1 := []) (As := [.float x54_s_0]) (rest := []) hx hb hml hown hts hE (c_X4_bitsOf_any l D cB cI cJ cD x54_s_0 s.heap.size) m_X4_bitsOf w_688 ⟨rfl, rfl, Nat.le_of_ble_eq_true rfl, Nat.le_of_ble_eq_true rfl⟩ (hP.sub [] rfl) (hD.sub [] (by decide +kernel) rfl) rfl hl.1 (Nat.le_of_ble_eq_true rfl) dX10_width_54 ⟨Nat.le_of_ble_eq_true rfl, Nat.le_of_ble_eq_true rfl⟩) (fun r_1 p_1 dd hd => ?_)
    have hts := dr_words hts0 dd
    have hE := kk_E.warm (U := s.setDrawn dd) (State.WarmedH.refl s) hE0
    subst hQQ
    refine W.endD hd ?_
    exact kk_pret_i hx hb hr hlocks trivial dX10_width_57
  refine lv_aload_n hx hb dX10_width_0 rfl (lv_at hl 0 rfl) ?_
  refine va_get (D := D) (ci := 9) (v := .ref h_desk) (C := RX10) (T := TX10) (N := 7) hx hb hts u_X10 hown hE.1 hP 0 rfl rfl 2 (by decide) (hts _ w_491) (fun _ h9 => h9) rfl dX10_width_1 ?_
  refine va_get (D := D) (ci := 2) (v := .ref h_desk_course) (C := RX2) (T := TX2) (N := 3) hx hb hts u_X2 hown hE.1 hP 1 rfl rfl 0 (by decide) (hts _ w_474) (fun _ h9 => h9) rfl dX10_width_4 ?_
  refine va_get (D := D) (ci := 0) (v := .ref h_desk_course_world) (C := RX0) (T := TX0) (N := 5) hx hb hts u_X0 hown hE.1 hP 2 rfl rfl 0 (by decide) (hts _ w_420) (fun _ h9 => h9) rfl dX10_width_7 ?_
  refine va_get (D := D) (ci := 8) (v := .ref h_desk_course_world_shelf) (C := RX9) (T := TX9) (N := 8) hx hb hts u_X9 hown hE.1 hP 3 rfl rfl 0 (by decide) (hts _ w_385) (fun _ h9 => h9) rfl dX10_width_10 ?_
  refine lv_astore_n (lv' := [(3, .ref h_desk_course_world_shelf), (0, .ref h), (1, .int p0), (2, .int p1)]) hx hb dX10_width_13 rfl hl (by decide) rfl (fun ls hl => ?_)
  refine lv_iload_n hx hb dX10_width_14 rfl (lv_at hl 2 rfl) ?_
  refine lv_if_lt (tgt := 35) hx hb dX10_width_15 (by decide) (fun c_2 => ?_) (fun c_2 => ?_)
  · have i_2 : p0.toInt < 0 := (ki_lt c_2)
    have b_3 : kr (-2147483648) (-1) p0 := kr_lt_l (kr_all p0) (kr_c 0 0 rfl) i_2 rfl
    refine lv_iconst (v := (-1)) hx hb dX10_width_35 (by decide) ?_
    subst hQQ
    refine W.endD hd ?_
    exact kk_pret_i hx hb hr hlocks trivial dX10_width_36
  · have i_2 : 0 ≤ p0.toInt := (ki_nlt c_2)
    have b_4 : kr 0 2147483647 p0 := kr_le_r (kr_c 0 0 rfl) (kr_all p0) i_2 rfl
    refine lv_iload_n hx hb dX10_width_18 rfl (lv_at hl 2 rfl) ?_
    refine lv_aload_n hx hb dX10_width_19 rfl (lv_at hl 0 rfl) ?_
    refine va_get (D := D) (ci := 6) (v := .int n_h_desk_course_world_shelf_size) (C := RX7) (T := TX7) (N := 8) hx hb hts u_X7 hown hE.1 hP 4 rfl rfl 0 (by decide) (hts _ w_159) (fun _ h9 => h9) rfl dX10_width_20 ?_
    refine lv_icmp_ge (tgt := 35) hx hb dX10_width_23 (by decide) (fun c_5 => ?_) (fun c_5 => ?_)
    · have i_5 : n_h_desk_course_world_shelf_size.toInt ≤ p0.toInt := (ki_le c_5)
      refine lv_iconst (v := (-1)) hx hb dX10_width_35 (by decide) ?_
      subst hQQ
      refine W.endD hd ?_
      exact kk_pret_i hx hb hr hlocks trivial dX10_width_36
    · have i_5 : p0.toInt < n_h_desk_course_world_shelf_size.toInt := (ki_nle c_5)
      have b_6 : kr 0 23 p0 := kr_lt_l b_4 b_h_desk_course_world_shelf_size i_5 rfl
      have b_7 : kr 1 24 n_h_desk_course_world_shelf_size := kr_lt_r b_4 b_h_desk_course_world_shelf_size i_5 rfl
      refine lv_iload_n hx hb dX10_width_26 rfl (lv_at hl 3 rfl) ?_
      refine lv_if_lt (tgt := 35) hx hb dX10_width_27 (by decide) (fun c_8 => ?_) (fun c_8 => ?_)
      · have i_8 : p1.toInt < 0 := (ki_lt c_8)
        have b_9 : kr (-2147483648) (-1) p1 := kr_lt_l (kr_all p1) (kr_c 0 0 rfl) i_8 rfl
        refine lv_iconst (v := (-1)) hx hb dX10_width_35 (by decide) ?_
        subst hQQ
        refine W.endD hd ?_
        exact kk_pret_i hx hb hr hlocks trivial dX10_width_36
      · have i_8 : 0 ≤ p1.toInt := (ki_nlt c_8)
        have b_10 : kr 0 2147483647 p1 := kr_le_r (kr_c 0 0 rfl) (kr_all p1) i_8 rfl
        refine lv_iload_n hx hb dX10_width_30 rfl (lv_at hl 3 rfl) ?_
        refine lv_iconst (v := 1) hx hb dX10_width_31 (by decide) ?_
        refine lv_icmp_le (tgt := 37) hx hb dX10_width_32 (by decide) (fun c_11 => ?_) (fun c_11 => ?_)
        · have i_11 : p1.toInt ≤ 1 := (ki_le c_11)
          have b_12 : kr 0 1 p1 := kr_le_l b_10 (kr_c 1 1 rfl) i_11 rfl
          refine lv_iload_n hx hb dX10_width_37 rfl (lv_at hl 3 rfl) ?_
          refine lv_if_ne (tgt := 49) hx hb dX10_width_38 (by decide) (fun c_13 => ?_) (fun c_13 => ?_)
          · have b_14 : kr 1 1 p1 := kr_ne_lo b_12 c_13 rfl
            refine lv_aload_n hx hb dX10_width_49 rfl (lv_at hl 0 rfl) ?_
            refine lv_iload_n hx hb dX10_width_50 rfl (lv_at hl 2 rfl) ?_
            refine kk_pfD hd (kk_runVD (w1 := [kO h_desk_course_world_shelf 6 [.int n_h_desk_course_world_shelf_size, .ref h_desk_course_world_shelf_bits, .ref h_desk_course_world_shelf_value, .ref h_desk_course_world_shelf_cutter, .ref h_desk_course_world_shelf_putter, .ref h_desk_course_world_shelf_gaps, .ref h_desk_course_world_shelf_sharers, .ref h_desk_course_world_shelf_wholes], kI cI h_desk_course_world_shelf_bits 24 f_h_desk_course_world_shelf_bits]) (As := [.int p0]) (rest := []) hx hb hml hown hts hE (c_X7_middleAt l D cB cI cJ cD h_desk_course_world_shelf h_desk_course_world_shelf_bits h_desk_course_world_shelf_value h_desk_course_world_shelf_cutter h_desk_course_world_shelf_putter h_desk_course_world_shelf_gaps h_desk_course_world_shelf_sharers h_desk_course_world_shelf_wholes n_h_desk_course_world_shelf_size f_h_desk_course_world_shelf_bits p0 s.heap.size (kr_w b_7 rfl) b_6) m_X7_middleAt w_684 ⟨rfl, rfl, Nat.le_of_ble_eq_true rfl, Nat.le_of_ble_eq_true rfl⟩ (hP.sub [4, 5] rfl) (hD.sub [4, 5] (by decide +kernel) rfl) 0 6 rfl rfl rfl hl.1 (Nat.le_of_ble_eq_true rfl) dX10_width_51 ⟨Nat.le_of_ble_eq_true rfl, Nat.le_of_ble_eq_true rfl⟩) (fun r_15 p_15 dd hd => ?_)
            have hts := dr_words hts0 dd
            have hE := kk_E.warm (U := s.setDrawn dd) (State.WarmedH.refl s) hE0
            exact J_54 _ r_15 _ hd b_7 (lv_sub hl [] rfl)
          · have b_16 : kr 0 0 p1 := kr_eq_l b_12 (kr_c 0 0 rfl) c_13 rfl
            refine lv_aload_n hx hb dX10_width_41 rfl (lv_at hl 0 rfl) ?_
            refine lv_iload_n hx hb dX10_width_42 rfl (lv_at hl 2 rfl) ?_
            refine kk_pfD hd (kk_runVD (w1 := [kO h_desk_course_world_shelf 6 [.int n_h_desk_course_world_shelf_size, .ref h_desk_course_world_shelf_bits, .ref h_desk_course_world_shelf_value, .ref h_desk_course_world_shelf_cutter, .ref h_desk_course_world_shelf_putter, .ref h_desk_course_world_shelf_gaps, .ref h_desk_course_world_shelf_sharers, .ref h_desk_course_world_shelf_wholes], kI cI h_desk_course_world_shelf_bits 24 f_h_desk_course_world_shelf_bits]) (As := [.int p0]) (rest := []) hx hb hml hown hts hE (c_X7_widthAt l D cB cI cJ cD h_desk_course_world_shelf h_desk_course_world_shelf_bits h_desk_course_world_shelf_value h_desk_course_world_shelf_cutter h_desk_course_world_shelf_putter h_desk_course_world_shelf_gaps h_desk_course_world_shelf_sharers h_desk_course_world_shelf_wholes n_h_desk_course_world_shelf_size f_h_desk_course_world_shelf_bits p0 s.heap.size (kr_w b_7 rfl) b_6) m_X7_widthAt w_675 ⟨rfl, rfl, Nat.le_of_ble_eq_true rfl, Nat.le_of_ble_eq_true rfl⟩ (hP.sub [4, 5] rfl) (hD.sub [4, 5] (by decide +kernel) rfl) 0 6 rfl rfl rfl hl.1 (Nat.le_of_ble_eq_true rfl) dX10_width_43 ⟨Nat.le_of_ble_eq_true rfl, Nat.le_of_ble_eq_true rfl⟩) (fun r_17 p_17 dd hd => ?_)
            have hts := dr_words hts0 dd
            have hE := kk_E.warm (U := s.setDrawn dd) (State.WarmedH.refl s) hE0
            refine lv_goto (tgt := 54) hx hb dX10_width_46 (by decide) ?_
            exact J_54 _ r_17 _ hd b_7 (lv_sub hl [] rfl)
        · have i_11 : 1 < p1.toInt := (ki_nle c_11)
          have b_18 : kr 2 2147483647 p1 := kr_lt_r (kr_c 1 1 rfl) b_10 i_11 rfl
          refine lv_iconst (v := (-1)) hx hb dX10_width_35 (by decide) ?_
          subst hQQ
          refine W.endD hd ?_
          exact kk_pret_i hx hb hr hlocks trivial dX10_width_36
set_option maxHeartbeats 4000000 in
set_option maxRecDepth 100000 in
theorem c_X10_sum (l : Launch) (D : va_G) (cB cI cJ cD : ClassId) (h : Nat) (h_desk : Nat) (h_desk_course : Nat) (h_desk_course_world : Nat) (h_desk_course_world_shelf : Nat) (h_desk_course_world_shelf_bits : Nat) (h_reader : Nat) (h_trials : Nat) (h_kept : Nat) (h_script : Nat) (h_draft : Nat) (h_desk_tape : Nat) (h_desk_course_mark : Nat) (h_desk_course_answer : Nat) (h_desk_course_world_crew : Nat) (h_desk_course_world_diary : Nat) (h_desk_course_world_shelf_value : Nat) (h_desk_course_world_shelf_cutter : Nat) (h_desk_course_world_shelf_putter : Nat) (h_desk_course_world_shelf_gaps : Nat) (h_desk_course_world_shelf_sharers : Nat) (h_desk_course_world_shelf_wholes : Nat) (n_h_keptSize : Int32) (n_h_desk_tapeLength : Int32) (n_h_desk_course_come : Int32) (n_h_desk_course_swapAt : Int32) (n_h_desk_course_world_gapless : Int32) (n_h_desk_course_world_looseReads : Int32) (n_h_desk_course_world_impatient : Int32) (n_h_desk_course_world_need : Int32) (n_h_desk_course_world_needKey : Int32) (n_h_desk_course_world_shelf_size : Int32) (f_h_desk_course_world_shelf_bits : Nat → Int32) (sz : Nat) (b_h_keptSize : kr 0 16 n_h_keptSize) (b_h_desk_tapeLength : kr 0 700 n_h_desk_tapeLength) (b_h_desk_course_come : kr 0 24 n_h_desk_course_come) (b_h_desk_course_swapAt : kr (-1) 22 n_h_desk_course_swapAt) (b_h_desk_course_world_gapless : kr 0 1 n_h_desk_course_world_gapless) (b_h_desk_course_world_looseReads : kr 0 1 n_h_desk_course_world_looseReads) (b_h_desk_course_world_impatient : kr 0 1 n_h_desk_course_world_impatient) (b_h_desk_course_world_shelf_size : kr 0 24 n_h_desk_course_world_shelf_size) : MetD lw_cs l yX10_sum (kk_W yX10_sum cX10_sum 1 (some .int)) ({ frames := 2, cells := 0, slots := 0, locals := 46 }) (va_Pc [.ref h] (kk_pre D cB cI cJ cD [kO h 9 [.ref h_reader, .ref h_trials, .ref h_desk, .ref h_kept, .int n_h_keptSize, .ref h_script, .ref h_draft], kO h_desk 2 [.ref h_desk_course, .ref h_desk_tape, .int n_h_desk_tapeLength], kO h_desk_course 0 [.ref h_desk_course_world, .ref h_desk_course_mark, .ref h_desk_course_answer, .int n_h_desk_course_come, .int n_h_desk_course_swapAt], kO h_desk_course_world 8 [.ref h_desk_course_world_shelf, .ref h_desk_course_world_crew, .ref h_desk_course_world_diary, .int n_h_desk_course_world_gapless, .int n_h_desk_course_world_looseReads, .int n_h_desk_course_world_impatient, .int n_h_desk_course_world_need, .int n_h_desk_course_world_needKey], kO h_desk_course_world_shelf 6 [.int n_h_desk_course_world_shelf_size, .ref h_desk_course_world_shelf_bits, .ref h_desk_course_world_shelf_value, .ref h_desk_course_world_shelf_cutter, .ref h_desk_course_world_shelf_putter, .ref h_desk_course_world_shelf_gaps, .ref h_desk_course_world_shelf_sharers, .ref h_desk_course_world_shelf_wholes], kI cI h_desk_course_world_shelf_bits 24 f_h_desk_course_world_shelf_bits] sz)) (vp_Si (fun r => True)) 0 0 (fun _ => False) := by
  refine kk_pstartD (y := yX10_sum) (maxL := 1) (av := [.ref h]) (by decide) (Nat.le_of_ble_eq_true rfl) ?_
  intro p e s m below meth c ls hx hb hr hml hown hts hE hlocks hsz hP hD hl hd
  have hts0 := hts
  have hE0 := hE
  have hts := dr_words hts0 s.drawn
  have hE := kk_E.warm (U := s.setDrawn s.drawn) (State.WarmedH.refl s) hE0
  have hown : s.vm.findClass RX10 = some m.cls := hown
  have hl : lv_has ls 1 [(0, .ref h)] := hl
  refine lv_aload_n hx hb dX10_sum_0 rfl (lv_at hl 0 rfl) ?_
  refine va_get (D := D) (ci := 9) (v := .ref h_desk) (C := RX10) (T := TX10) (N := 7) hx hb hts u_X10 hown hE.1 hP 0 rfl rfl 2 (by decide) (hts _ w_491) (fun _ h9 => h9) rfl dX10_sum_1 ?_
  refine va_get (D := D) (ci := 2) (v := .ref h_desk_course) (C := RX2) (T := TX2) (N := 3) hx hb hts u_X2 hown hE.1 hP 1 rfl rfl 0 (by decide) (hts _ w_474) (fun _ h9 => h9) rfl dX10_sum_4 ?_
  refine va_get (D := D) (ci := 0) (v := .ref h_desk_course_world) (C := RX0) (T := TX0) (N := 5) hx hb hts u_X0 hown hE.1 hP 2 rfl rfl 0 (by decide) (hts _ w_420) (fun _ h9 => h9) rfl dX10_sum_7 ?_
  refine va_get (D := D) (ci := 8) (v := .ref h_desk_course_world_shelf) (C := RX9) (T := TX9) (N := 8) hx hb hts u_X9 hown hE.1 hP 3 rfl rfl 0 (by decide) (hts _ w_385) (fun _ h9 => h9) rfl dX10_sum_10 ?_
  refine kk_pfD hd (kk_runVD (w1 := [kO h_desk_course_world_shelf 6 [.int n_h_desk_course_world_shelf_size, .ref h_desk_course_world_shelf_bits, .ref h_desk_course_world_shelf_value, .ref h_desk_course_world_shelf_cutter, .ref h_desk_course_world_shelf_putter, .ref h_desk_course_world_shelf_gaps, .ref h_desk_course_world_shelf_sharers, .ref h_desk_course_world_shelf_wholes], kI cI h_desk_course_world_shelf_bits 24 f_h_desk_course_world_shelf_bits]) (As := []) (rest := []) hx hb hml hown hts hE (c_X7_keySum l D cB cI cJ cD h_desk_course_world_shelf h_desk_course_world_shelf_bits h_desk_course_world_shelf_value h_desk_course_world_shelf_cutter h_desk_course_world_shelf_putter h_desk_course_world_shelf_gaps h_desk_course_world_shelf_sharers h_desk_course_world_shelf_wholes n_h_desk_course_world_shelf_size f_h_desk_course_world_shelf_bits s.heap.size b_h_desk_course_world_shelf_size) m_X7_keySum w_693 ⟨rfl, rfl, Nat.le_of_ble_eq_true rfl, Nat.le_of_ble_eq_true rfl⟩ (hP.sub [4, 5] rfl) (hD.sub [4, 5] (by decide +kernel) rfl) 0 6 rfl rfl rfl hl.1 (Nat.le_of_ble_eq_true rfl) dX10_sum_13 ⟨Nat.le_of_ble_eq_true rfl, Nat.le_of_ble_eq_true rfl⟩) (fun r_1 p_1 dd hd => ?_)
  have hts := dr_words hts0 dd
  have hE := kk_E.warm (U := s.setDrawn dd) (State.WarmedH.refl s) hE0
  refine kk_piD hd (kk_runSD (w1 := []) (As := [.float r_1]) (rest := []) hx hb hml hown hts hE (c_X4_bitsOf_any l D cB cI cJ cD r_1 s.heap.size) m_X4_bitsOf w_688 ⟨rfl, rfl, Nat.le_of_ble_eq_true rfl, Nat.le_of_ble_eq_true rfl⟩ (hP.sub [] rfl) (hD.sub [] (by decide +kernel) rfl) rfl hl.1 (Nat.le_of_ble_eq_true rfl) dX10_sum_16 ⟨Nat.le_of_ble_eq_true rfl, Nat.le_of_ble_eq_true rfl⟩) (fun r_2 p_2 dd hd => ?_)
  have hts := dr_words hts0 dd
  have hE := kk_E.warm (U := s.setDrawn dd) (State.WarmedH.refl s) hE0
  refine W.endD hd ?_
  exact kk_pret_i hx hb hr hlocks trivial dX10_sum_19
set_option maxHeartbeats 4000000 in
set_option maxRecDepth 100000 in
theorem c_X10_widest (l : Launch) (D : va_G) (cB cI cJ cD : ClassId) (h : Nat) (h_desk : Nat) (h_desk_course : Nat) (h_desk_course_world : Nat) (h_desk_course_world_shelf : Nat) (h_desk_course_world_shelf_bits : Nat) (h_reader : Nat) (h_trials : Nat) (h_kept : Nat) (h_script : Nat) (h_draft : Nat) (h_desk_tape : Nat) (h_desk_course_mark : Nat) (h_desk_course_answer : Nat) (h_desk_course_world_crew : Nat) (h_desk_course_world_diary : Nat) (h_desk_course_world_shelf_value : Nat) (h_desk_course_world_shelf_cutter : Nat) (h_desk_course_world_shelf_putter : Nat) (h_desk_course_world_shelf_gaps : Nat) (h_desk_course_world_shelf_sharers : Nat) (h_desk_course_world_shelf_wholes : Nat) (n_h_keptSize : Int32) (n_h_desk_tapeLength : Int32) (n_h_desk_course_come : Int32) (n_h_desk_course_swapAt : Int32) (n_h_desk_course_world_gapless : Int32) (n_h_desk_course_world_looseReads : Int32) (n_h_desk_course_world_impatient : Int32) (n_h_desk_course_world_need : Int32) (n_h_desk_course_world_needKey : Int32) (n_h_desk_course_world_shelf_size : Int32) (f_h_desk_course_world_shelf_bits : Nat → Int32) (sz : Nat) (b_h_keptSize : kr 0 16 n_h_keptSize) (b_h_desk_tapeLength : kr 0 700 n_h_desk_tapeLength) (b_h_desk_course_come : kr 0 24 n_h_desk_course_come) (b_h_desk_course_swapAt : kr (-1) 22 n_h_desk_course_swapAt) (b_h_desk_course_world_gapless : kr 0 1 n_h_desk_course_world_gapless) (b_h_desk_course_world_looseReads : kr 0 1 n_h_desk_course_world_looseReads) (b_h_desk_course_world_impatient : kr 0 1 n_h_desk_course_world_impatient) (b_h_desk_course_world_shelf_size : kr 0 24 n_h_desk_course_world_shelf_size) : MetD lw_cs l yX10_widest (kk_W yX10_widest cX10_widest 6 (some .int)) ({ frames := 2, cells := 0, slots := 0, locals := 46 }) (va_Pc [.ref h] (kk_pre D cB cI cJ cD [kO h 9 [.ref h_reader, .ref h_trials, .ref h_desk, .ref h_kept, .int n_h_keptSize, .ref h_script, .ref h_draft], kO h_desk 2 [.ref h_desk_course, .ref h_desk_tape, .int n_h_desk_tapeLength], kO h_desk_course 0 [.ref h_desk_course_world, .ref h_desk_course_mark, .ref h_desk_course_answer, .int n_h_desk_course_come, .int n_h_desk_course_swapAt], kO h_desk_course_world 8 [.ref h_desk_course_world_shelf, .ref h_desk_course_world_crew, .ref h_desk_course_world_diary, .int n_h_desk_course_world_gapless, .int n_h_desk_course_world_looseReads, .int n_h_desk_course_world_impatient, .int n_h_desk_course_world_need, .int n_h_desk_course_world_needKey], kO h_desk_course_world_shelf 6 [.int n_h_desk_course_world_shelf_size, .ref h_desk_course_world_shelf_bits, .ref h_desk_course_world_shelf_value, .ref h_desk_course_world_shelf_cutter, .ref h_desk_course_world_shelf_putter, .ref h_desk_course_world_shelf_gaps, .ref h_desk_course_world_shelf_sharers, .ref h_desk_course_world_shelf_wholes], kI cI h_desk_course_world_shelf_bits 24 f_h_desk_course_world_shelf_bits] sz)) (vp_Si (fun r => kr (-2) 23 r)) 0 0 (fun _ => False) := by
  refine kk_pstartD (y := yX10_widest) (maxL := 6) (av := [.ref h]) (by decide) (Nat.le_of_ble_eq_true rfl) ?_
  intro p e s m below meth c ls hx hb hr hml hown hts hE hlocks hsz hP hD hl hd
  have hts0 := hts
  have hE0 := hE
  have hts := dr_words hts0 s.drawn
  have hE := kk_E.warm (U := s.setDrawn s.drawn) (State.WarmedH.refl s) hE0
  have hown : s.vm.findClass RX10 = some m.cls := hown
  have hl : lv_has ls 6 [(0, .ref h)] := hl
  generalize hQQ : MQD lw_cs below _ _ s _ _ _ = QQ
  have J_22 : ∀ (n : Nat) (dd : Drawn) (x22_l_4 : Int32) (x22_l_3 : UInt32) (x22_l_2 : Int32) (ls : Array Slot), (24 - x22_l_4.toInt).toNat < n → s.drawn.sameBut dd lw_cs → kr 0 24 x22_l_4 → kr (-2) 23 x22_l_2 → lv_has ls 6 [(4, .int x22_l_4), (3, .float x22_l_3), (2, .int x22_l_2), (1, .ref h_desk_course_world_shelf)] → W p l e ({ frames := 2, cells := 0, slots := 0, locals := 46 }) (s.setDrawn dd) m ([.ref h] : List Value).toArray below meth c s.heap [] 0 0 QQ (F0 m 22 ls []) := by
    intro n
    induction n with
    | zero =>
      intro dd x22_l_4 x22_l_3 x22_l_2 ls hn_22 hd bx22_l_4 bx22_l_2 hl
      exact absurd hn_22 (Nat.not_lt_zero _)
    | succ n ih_22 =>
      intro dd x22_l_4 x22_l_3 x22_l_2 ls hn_22 hd bx22_l_4 bx22_l_2 hl
      have hts := dr_words hts0 dd
      have hE := kk_E.warm (U := s.setDrawn dd) (State.WarmedH.refl s) hE0
      have J_56 : ∀ (dd : Drawn) (x56_l_3 : UInt32) (x56_l_2 : Int32) (ls : Array Slot), s.drawn.sameBut dd lw_cs → kr 0 23 x22_l_4 → kr 0 23 x56_l_2 → kr 1 24 n_h_desk_course_world_shelf_size → lv_has ls 6 [(4, .int x22_l_4), (3, .float x56_l_3), (2, .int x56_l_2), (1, .ref h_desk_course_world_shelf)] → W p l e ({ frames := 2, cells := 0, slots := 0, locals := 46 }) (s.setDrawn dd) m ([.ref h] : List Value).toArray below meth c s.heap [] 0 0 QQ (F0 m 56 ls []) := by
        intro dd x56_l_3 x56_l_2 ls hd c56_x22_l_4 bx56_l_2 c56_n_h_desk_course_world_shelf_size hl
        have hts := dr_words hts0 dd
        have hE := kk_E.warm (U := s.setDrawn dd) (State.WarmedH.refl s) hE0
        obtain ⟨v_1, e_1⟩ : ∃ y : Int32, y = x22_l_4 + 1 := ⟨_, rfl⟩
        have t_1 : v_1.toInt = x22_l_4.toInt + 1 := kt_add e_1 c56_x22_l_4 (kr_c 1 1 rfl) rfl
        have b_1 : kr 1 24 v_1 := kr_add (x := x22_l_4) (y := 1) t_1 c56_x22_l_4 (kr_c 1 1 rfl) rfl
        refine lv_iinc (v := v_1) (lv' := [(4, .int v_1), (3, .float x56_l_3), (2, .int x56_l_2), (1, .ref h_desk_course_world_shelf)]) hx hb dX10_widest_56 hl (k := 0) rfl (by rw [e_1]; rfl) (by decide) rfl (fun ls hl => ?_)
        refine lv_goto (tgt := 22) hx hb dX10_widest_59 (by decide) ?_
        exact ih_22 _ v_1 x56_l_3 x56_l_2 _ (km_up hn_22 t_1 b_1 rfl) hd (kr_w b_1 rfl) (kr_w bx56_l_2 rfl) (lv_sub hl [0, 1, 2, 3] rfl)
      have J_50 : ∀ (dd : Drawn) (x50_l_5 : UInt32) (ls : Array Slot), s.drawn.sameBut dd lw_cs → kr 0 23 x22_l_4 → kr 1 24 n_h_desk_course_world_shelf_size → lv_has ls 6 [(5, .float x50_l_5), (4, .int x22_l_4), (1, .ref h_desk_course_world_shelf)] → W p l e ({ frames := 2, cells := 0, slots := 0, locals := 46 }) (s.setDrawn dd) m ([.ref h] : List Value).toArray below meth c s.heap [] 0 0 QQ (F0 m 50 ls []) := by
        intro dd x50_l_5 ls hd c50_x22_l_4 c50_n_h_desk_course_world_shelf_size hl
        have hts := dr_words hts0 dd
        have hE := kk_E.warm (U := s.setDrawn dd) (State.WarmedH.refl s) hE0
        refine lv_iload hx hb dX10_widest_50 (lv_at hl 1 rfl) ?_
        refine lv_istore_n (lv' := [(2, .int x22_l_4), (5, .float x50_l_5), (4, .int x22_l_4), (1, .ref h_desk_course_world_shelf)]) hx hb dX10_widest_52 rfl hl (by decide) rfl (fun ls hl => ?_)
        refine lv_fload hx hb dX10_widest_53 (lv_at hl 1 rfl) ?_
        refine lv_fstore_n (lv' := [(3, .float x50_l_5), (2, .int x22_l_4), (5, .float x50_l_5), (4, .int x22_l_4), (1, .ref h_desk_course_world_shelf)]) hx hb dX10_widest_55 rfl hl (by decide) rfl (fun ls hl => ?_)
        exact J_56 _ x50_l_5 x22_l_4 _ hd c50_x22_l_4 c50_x22_l_4 c50_n_h_desk_course_world_shelf_size (lv_sub hl [3, 0, 1, 4] rfl)
      refine lv_iload hx hb dX10_widest_22 (lv_at hl 0 rfl) ?_
      refine lv_aload_n hx hb dX10_widest_24 rfl (lv_at hl 3 rfl) ?_
      refine va_get (D := D) (ci := 6) (v := .int n_h_desk_course_world_shelf_size) (C := RX7) (T := TX7) (N := 8) hx hb hts u_X7 hown hE.1 hP 4 rfl rfl 0 (by decide) (hts _ w_159) (fun _ h9 => h9) rfl dX10_widest_25 ?_
      refine lv_icmp_ge (tgt := 62) hx hb dX10_widest_28 (by decide) (fun c_2 => ?_) (fun c_2 => ?_)
      · have i_2 : n_h_desk_course_world_shelf_size.toInt ≤ x22_l_4.toInt := (ki_le c_2)
        refine lv_iload_n hx hb dX10_widest_62 rfl (lv_at hl 2 rfl) ?_
        subst hQQ
        refine W.endD hd ?_
        exact kk_pret_i hx hb hr hlocks bx22_l_2 dX10_widest_63
      · have i_2 : x22_l_4.toInt < n_h_desk_course_world_shelf_size.toInt := (ki_nle c_2)
        have b_3 : kr 0 23 x22_l_4 := kr_lt_l bx22_l_4 b_h_desk_course_world_shelf_size i_2 rfl
        have b_4 : kr 1 24 n_h_desk_course_world_shelf_size := kr_lt_r bx22_l_4 b_h_desk_course_world_shelf_size i_2 rfl
        refine lv_aload_n hx hb dX10_widest_31 rfl (lv_at hl 3 rfl) ?_
        refine lv_iload hx hb dX10_widest_32 (lv_at hl 0 rfl) ?_
        refine kk_pfD hd (kk_runVD (w1 := [kO h_desk_course_world_shelf 6 [.int n_h_desk_course_world_shelf_size, .ref h_desk_course_world_shelf_bits, .ref h_desk_course_world_shelf_value, .ref h_desk_course_world_shelf_cutter, .ref h_desk_course_world_shelf_putter, .ref h_desk_course_world_shelf_gaps, .ref h_desk_course_world_shelf_sharers, .ref h_desk_course_world_shelf_wholes], kI cI h_desk_course_world_shelf_bits 24 f_h_desk_course_world_shelf_bits]) (As := [.int x22_l_4]) (rest := []) hx hb hml hown hts hE (c_X7_widthAt l D cB cI cJ cD h_desk_course_world_shelf h_desk_course_world_shelf_bits h_desk_course_world_shelf_value h_desk_course_world_shelf_cutter h_desk_course_world_shelf_putter h_desk_course_world_shelf_gaps h_desk_course_world_shelf_sharers h_desk_course_world_shelf_wholes n_h_desk_course_world_shelf_size f_h_desk_course_world_shelf_bits x22_l_4 s.heap.size (kr_w b_4 rfl) b_3) m_X7_widthAt w_675 ⟨rfl, rfl, Nat.le_of_ble_eq_true rfl, Nat.le_of_ble_eq_true rfl⟩ (hP.sub [4, 5] rfl) (hD.sub [4, 5] (by decide +kernel) rfl) 0 6 rfl rfl rfl hl.1 (Nat.le_of_ble_eq_true rfl) dX10_widest_34 ⟨Nat.le_of_ble_eq_true rfl, Nat.le_of_ble_eq_true rfl⟩) (fun r_5 p_5 dd hd => ?_)
        have hts := dr_words hts0 dd
        have hE := kk_E.warm (U := s.setDrawn dd) (State.WarmedH.refl s) hE0
        refine lv_fstore (lv' := [(5, .float r_5), (4, .int x22_l_4), (3, .float x22_l_3), (2, .int x22_l_2), (1, .ref h_desk_course_world_shelf)]) hx hb dX10_widest_37 hl (by decide) rfl (fun ls hl => ?_)
        refine lv_iload_n hx hb dX10_widest_39 rfl (lv_at hl 3 rfl) ?_
        refine lv_if_lt (tgt := 50) hx hb dX10_widest_40 (by decide) (fun c_6 => ?_) (fun c_6 => ?_)
        · have i_6 : x22_l_2.toInt < 0 := (ki_lt c_6)
          have b_7 : kr (-2) (-1) x22_l_2 := kr_lt_l bx22_l_2 (kr_c 0 0 rfl) i_6 rfl
          exact J_50 _ r_5 _ hd b_3 b_4 (lv_sub hl [0, 1, 4] rfl)
        · have i_6 : 0 ≤ x22_l_2.toInt := (ki_nlt c_6)
          have b_8 : kr 0 23 x22_l_2 := kr_le_r (kr_c 0 0 rfl) bx22_l_2 i_6 rfl
          refine lv_fload hx hb dX10_widest_43 (lv_at hl 0 rfl) ?_
          refine lv_fload_n hx hb dX10_widest_45 rfl (lv_at hl 2 rfl) ?_
          refine lv_fcmp hx hb dX10_widest_46 ?_
          refine lv_topi (fun v_9 e_9 => ?_)
          refine lv_if_le (tgt := 56) hx hb dX10_widest_47 (by decide) (fun c_10 => ?_) (fun c_10 => ?_)
          · have i_10 : v_9.toInt ≤ 0 := (ki_le c_10)
            have b_11 : kr (-2147483648) 0 v_9 := kr_le_l (kr_all v_9) (kr_c 0 0 rfl) i_10 rfl
            exact J_56 _ x22_l_3 x22_l_2 _ hd b_3 b_8 b_4 (lv_sub hl [1, 2, 3, 4] rfl)
          · have i_10 : 0 < v_9.toInt := (ki_nle c_10)
            have b_12 : kr 1 2147483647 v_9 := kr_lt_r (kr_c 0 0 rfl) (kr_all v_9) i_10 rfl
            exact J_50 _ r_5 _ hd b_3 b_4 (lv_sub hl [0, 1, 4] rfl)
  refine lv_aload_n hx hb dX10_widest_0 rfl (lv_at hl 0 rfl) ?_
  refine va_get (D := D) (ci := 9) (v := .ref h_desk) (C := RX10) (T := TX10) (N := 7) hx hb hts u_X10 hown hE.1 hP 0 rfl rfl 2 (by decide) (hts _ w_491) (fun _ h9 => h9) rfl dX10_widest_1 ?_
  refine va_get (D := D) (ci := 2) (v := .ref h_desk_course) (C := RX2) (T := TX2) (N := 3) hx hb hts u_X2 hown hE.1 hP 1 rfl rfl 0 (by decide) (hts _ w_474) (fun _ h9 => h9) rfl dX10_widest_4 ?_
  refine va_get (D := D) (ci := 0) (v := .ref h_desk_course_world) (C := RX0) (T := TX0) (N := 5) hx hb hts u_X0 hown hE.1 hP 2 rfl rfl 0 (by decide) (hts _ w_420) (fun _ h9 => h9) rfl dX10_widest_7 ?_
  refine va_get (D := D) (ci := 8) (v := .ref h_desk_course_world_shelf) (C := RX9) (T := TX9) (N := 8) hx hb hts u_X9 hown hE.1 hP 3 rfl rfl 0 (by decide) (hts _ w_385) (fun _ h9 => h9) rfl dX10_widest_10 ?_
  refine lv_astore_n (lv' := [(1, .ref h_desk_course_world_shelf), (0, .ref h)]) hx hb dX10_widest_13 rfl hl (by decide) rfl (fun ls hl => ?_)
  refine lv_bipush (v := (-2)) hx hb dX10_widest_14 (by decide) ?_
  refine lv_istore_n (lv' := [(2, .int (-2)), (1, .ref h_desk_course_world_shelf), (0, .ref h)]) hx hb dX10_widest_16 rfl hl (by decide) rfl (fun ls hl => ?_)
  refine lv_fconst0 hx hb dX10_widest_17 ?_
  refine lv_topf (fun v_13 e_13 => ?_)
  refine lv_fstore_n (lv' := [(3, .float v_13), (2, .int (-2)), (1, .ref h_desk_course_world_shelf), (0, .ref h)]) hx hb dX10_widest_18 rfl hl (by decide) rfl (fun ls hl => ?_)
  refine lv_iconst (v := 0) hx hb dX10_widest_19 (by decide) ?_
  refine lv_istore (lv' := [(4, .int 0), (3, .float v_13), (2, .int (-2)), (1, .ref h_desk_course_world_shelf), (0, .ref h)]) hx hb dX10_widest_20 hl (by decide) rfl (fun ls hl => ?_)
  exact J_22 _ _ 0 v_13 (-2) _ (Nat.lt_succ_self _) hd (kr_w (kr_c 0 0 rfl) rfl) (kr_w (kr_c (-2) (-2) rfl) rfl) (lv_sub hl [0, 1, 2, 3] rfl)
set_option maxHeartbeats 4000000 in
set_option maxRecDepth 100000 in
theorem c_X10_lock (l : Launch) (D : va_G) (cB cI cJ cD : ClassId) (h : Nat) (h_desk : Nat) (h_desk_course : Nat) (h_desk_course_world : Nat) (h_desk_course_world_crew : Nat) (h_desk_course_world_shelf : Nat) (h_desk_course_world_shelf_sharers : Nat) (h_desk_course_world_shelf_wholes : Nat) (h_desk_course_world_shelf_gaps : Nat) (h_reader : Nat) (h_trials : Nat) (h_kept : Nat) (h_script : Nat) (h_draft : Nat) (h_desk_tape : Nat) (h_desk_course_mark : Nat) (h_desk_course_answer : Nat) (h_desk_course_world_diary : Nat) (h_desk_course_world_crew_state : Nat) (h_desk_course_world_crew_outcome : Nat) (h_desk_course_world_crew_deaths : Nat) (h_desk_course_world_crew_kind : Nat) (h_desk_course_world_crew_low : Nat) (h_desk_course_world_crew_high : Nat) (h_desk_course_world_crew_value : Nat) (h_desk_course_world_crew_need : Nat) (h_desk_course_world_crew_needKey : Nat) (h_desk_course_world_crew_line : Nat) (h_desk_course_world_shelf_bits : Nat) (h_desk_course_world_shelf_value : Nat) (h_desk_course_world_shelf_cutter : Nat) (h_desk_course_world_shelf_putter : Nat) (n_h_keptSize : Int32) (n_h_desk_tapeLength : Int32) (n_h_desk_course_come : Int32) (n_h_desk_course_swapAt : Int32) (n_h_desk_course_world_gapless : Int32) (n_h_desk_course_world_looseReads : Int32) (n_h_desk_course_world_impatient : Int32) (n_h_desk_course_world_need : Int32) (n_h_desk_course_world_needKey : Int32) (n_h_desk_course_world_crew_size : Int32) (n_h_desk_course_world_crew_lineLength : Int32) (n_h_desk_course_world_shelf_size : Int32) (f_h_desk_course_world_shelf_sharers : Nat → Int32) (f_h_desk_course_world_shelf_wholes : Nat → Int32) (f_h_desk_course_world_shelf_gaps : Nat → Int32) (p0 : Int32) (p1 : Int32) (p2 : Int32) (sz : Nat) (b_h_keptSize : kr 0 16 n_h_keptSize) (b_h_desk_tapeLength : kr 0 700 n_h_desk_tapeLength) (b_h_desk_course_come : kr 0 24 n_h_desk_course_come) (b_h_desk_course_swapAt : kr (-1) 22 n_h_desk_course_swapAt) (b_h_desk_course_world_gapless : kr 0 1 n_h_desk_course_world_gapless) (b_h_desk_course_world_looseReads : kr 0 1 n_h_desk_course_world_looseReads) (b_h_desk_course_world_impatient : kr 0 1 n_h_desk_course_world_impatient) (b_h_desk_course_world_crew_size : kr 0 5 n_h_desk_course_world_crew_size) (b_h_desk_course_world_crew_lineLength : kr 0 5 n_h_desk_course_world_crew_lineLength) (b_h_desk_course_world_shelf_size : kr 0 24 n_h_desk_course_world_shelf_size) : Met l yX10_lock (kk_W yX10_lock cX10_lock 5 (some .int)) ({ frames := 1, cells := 0, slots := 0, locals := 22 }) (va_Pc [.ref h, .int p0, .int p1, .int p2] (kk_pre D cB cI cJ cD [kO h 9 [.ref h_reader, .ref h_trials, .ref h_desk, .ref h_kept, .int n_h_keptSize, .ref h_script, .ref h_draft], kO h_desk 2 [.ref h_desk_course, .ref h_desk_tape, .int n_h_desk_tapeLength], kO h_desk_course 0 [.ref h_desk_course_world, .ref h_desk_course_mark, .ref h_desk_course_answer, .int n_h_desk_course_come, .int n_h_desk_course_swapAt], kO h_desk_course_world 8 [.ref h_desk_course_world_shelf, .ref h_desk_course_world_crew, .ref h_desk_course_world_diary, .int n_h_desk_course_world_gapless, .int n_h_desk_course_world_looseReads, .int n_h_desk_course_world_impatient, .int n_h_desk_course_world_need, .int n_h_desk_course_world_needKey], kO h_desk_course_world_crew 1 [.int n_h_desk_course_world_crew_size, .ref h_desk_course_world_crew_state, .ref h_desk_course_world_crew_outcome, .ref h_desk_course_world_crew_deaths, .ref h_desk_course_world_crew_kind, .ref h_desk_course_world_crew_low, .ref h_desk_course_world_crew_high, .ref h_desk_course_world_crew_value, .ref h_desk_course_world_crew_need, .ref h_desk_course_world_crew_needKey, .ref h_desk_course_world_crew_line, .int n_h_desk_course_world_crew_lineLength], kO h_desk_course_world_shelf 6 [.int n_h_desk_course_world_shelf_size, .ref h_desk_course_world_shelf_bits, .ref h_desk_course_world_shelf_value, .ref h_desk_course_world_shelf_cutter, .ref h_desk_course_world_shelf_putter, .ref h_desk_course_world_shelf_gaps, .ref h_desk_course_world_shelf_sharers, .ref h_desk_course_world_shelf_wholes], kI cI h_desk_course_world_shelf_sharers 24 f_h_desk_course_world_shelf_sharers, kI cI h_desk_course_world_shelf_wholes 24 f_h_desk_course_world_shelf_wholes, kI cI h_desk_course_world_shelf_gaps 25 f_h_desk_course_world_shelf_gaps] sz)) (vp_Si (fun r => kr (-1) 2 r)) 0 0 (fun _ => False) := by
  refine kk_pstart (y := yX10_lock) (maxL := 5) (av := [.ref h, .int p0, .int p1, .int p2]) (by decide) (Nat.le_of_ble_eq_true rfl) ?_
  intro p e s m below meth c ls hx hb hr hml hown hts hE hlocks hsz hP hD hl
  have hown : s.vm.findClass RX10 = some m.cls := hown
  have hl : lv_has ls 5 [(0, .ref h), (1, .int p0), (2, .int p1), (3, .int p2)] := hl
  refine lv_aload_n hx hb dX10_lock_0 rfl (lv_at hl 0 rfl) ?_
  refine va_get (D := D) (ci := 9) (v := .ref h_desk) (C := RX10) (T := TX10) (N := 7) hx hb hts u_X10 hown hE.1 hP 0 rfl rfl 2 (by decide) (hts _ w_491) (fun _ h9 => h9) rfl dX10_lock_1 ?_
  refine va_get (D := D) (ci := 2) (v := .ref h_desk_course) (C := RX2) (T := TX2) (N := 3) hx hb hts u_X2 hown hE.1 hP 1 rfl rfl 0 (by decide) (hts _ w_474) (fun _ h9 => h9) rfl dX10_lock_4 ?_
  refine va_get (D := D) (ci := 0) (v := .ref h_desk_course_world) (C := RX0) (T := TX0) (N := 5) hx hb hts u_X0 hown hE.1 hP 2 rfl rfl 0 (by decide) (hts _ w_420) (fun _ h9 => h9) rfl dX10_lock_7 ?_
  refine lv_astore (lv' := [(4, .ref h_desk_course_world), (0, .ref h), (1, .int p0), (2, .int p1), (3, .int p2)]) hx hb dX10_lock_10 hl (by decide) rfl (fun ls hl => ?_)
  refine lv_aload hx hb dX10_lock_12 (lv_at hl 0 rfl) ?_
  refine va_get (D := D) (ci := 8) (v := .ref h_desk_course_world_crew) (C := RX9) (T := TX9) (N := 8) hx hb hts u_X9 hown hE.1 hP 3 rfl rfl 1 (by decide) (hts _ w_390) (fun _ h9 => h9) rfl dX10_lock_14 ?_
  refine lv_iload_n hx hb dX10_lock_17 rfl (lv_at hl 2 rfl) ?_
  refine kk_pi (kk_runV (w1 := [kO h_desk_course_world_crew 1 [.int n_h_desk_course_world_crew_size, .ref h_desk_course_world_crew_state, .ref h_desk_course_world_crew_outcome, .ref h_desk_course_world_crew_deaths, .ref h_desk_course_world_crew_kind, .ref h_desk_course_world_crew_low, .ref h_desk_course_world_crew_high, .ref h_desk_course_world_crew_value, .ref h_desk_course_world_crew_need, .ref h_desk_course_world_crew_needKey, .ref h_desk_course_world_crew_line, .int n_h_desk_course_world_crew_lineLength]]) (As := [.int p0]) (rest := []) hx hb hml hown hts hE (c_X1_has l D cB cI cJ cD h_desk_course_world_crew h_desk_course_world_crew_state h_desk_course_world_crew_outcome h_desk_course_world_crew_deaths h_desk_course_world_crew_kind h_desk_course_world_crew_low h_desk_course_world_crew_high h_desk_course_world_crew_value h_desk_course_world_crew_need h_desk_course_world_crew_needKey h_desk_course_world_crew_line n_h_desk_course_world_crew_size n_h_desk_course_world_crew_lineLength p0 s.heap.size b_h_desk_course_world_crew_size b_h_desk_course_world_crew_lineLength) m_X1_has w_705 ⟨rfl, rfl, Nat.le_of_ble_eq_true rfl, Nat.le_of_ble_eq_true rfl⟩ (hP.sub [4] rfl) (hD.sub [4] (by decide +kernel) rfl) 0 1 rfl rfl rfl hl.1 (Nat.le_of_ble_eq_true rfl) dX10_lock_18 ⟨Nat.le_of_ble_eq_true rfl, Nat.le_of_ble_eq_true rfl⟩) (fun r_1 p_1 => ?_)
  have b_1 : kr 0 1 r_1 := p_1.1
  refine lv_if_eq (tgt := 49) hx hb dX10_lock_21 (by decide) (fun c_2 => ?_) (fun c_2 => ?_)
  · have b_3 : kr 0 0 r_1 := kr_eq_l b_1 (kr_c 0 0 rfl) c_2 rfl
    refine lv_iconst (v := (-1)) hx hb dX10_lock_49 (by decide) ?_
    exact kk_pret_i hx hb hr hlocks (kr_w (kr_c (-1) (-1) rfl) rfl) dX10_lock_50
  · have b_4 : kr 1 1 r_1 := kr_ne_lo b_1 c_2 rfl
    have b_5 : kr 0 4 p0 := p_1.2 c_2
    refine lv_iload_n hx hb dX10_lock_24 rfl (lv_at hl 3 rfl) ?_
    refine lv_if_lt (tgt := 49) hx hb dX10_lock_25 (by decide) (fun c_6 => ?_) (fun c_6 => ?_)
    · have i_6 : p1.toInt < 0 := (ki_lt c_6)
      have b_7 : kr (-2147483648) (-1) p1 := kr_lt_l (kr_all p1) (kr_c 0 0 rfl) i_6 rfl
      refine lv_iconst (v := (-1)) hx hb dX10_lock_49 (by decide) ?_
      exact kk_pret_i hx hb hr hlocks (kr_w (kr_c (-1) (-1) rfl) rfl) dX10_lock_50
    · have i_6 : 0 ≤ p1.toInt := (ki_nlt c_6)
      have b_8 : kr 0 2147483647 p1 := kr_le_r (kr_c 0 0 rfl) (kr_all p1) i_6 rfl
      refine lv_iload_n hx hb dX10_lock_28 rfl (lv_at hl 3 rfl) ?_
      refine lv_aload hx hb dX10_lock_29 (lv_at hl 0 rfl) ?_
      refine va_get (D := D) (ci := 8) (v := .ref h_desk_course_world_shelf) (C := RX9) (T := TX9) (N := 8) hx hb hts u_X9 hown hE.1 hP 3 rfl rfl 0 (by decide) (hts _ w_385) (fun _ h9 => h9) rfl dX10_lock_31 ?_
      refine va_get (D := D) (ci := 6) (v := .int n_h_desk_course_world_shelf_size) (C := RX7) (T := TX7) (N := 8) hx hb hts u_X7 hown hE.1 hP 5 rfl rfl 0 (by decide) (hts _ w_159) (fun _ h9 => h9) rfl dX10_lock_34 ?_
      refine lv_icmp_gt (tgt := 49) hx hb dX10_lock_37 (by decide) (fun c_9 => ?_) (fun c_9 => ?_)
      · have i_9 : n_h_desk_course_world_shelf_size.toInt < p1.toInt := (ki_lt c_9)
        have b_10 : kr 1 2147483647 p1 := kr_lt_r b_h_desk_course_world_shelf_size b_8 i_9 rfl
        refine lv_iconst (v := (-1)) hx hb dX10_lock_49 (by decide) ?_
        exact kk_pret_i hx hb hr hlocks (kr_w (kr_c (-1) (-1) rfl) rfl) dX10_lock_50
      · have i_9 : p1.toInt ≤ n_h_desk_course_world_shelf_size.toInt := (ki_nlt c_9)
        have b_11 : kr 0 24 p1 := kr_le_l b_8 b_h_desk_course_world_shelf_size i_9 rfl
        refine lv_iload_n hx hb dX10_lock_40 rfl (lv_at hl 4 rfl) ?_
        refine lv_if_lt (tgt := 49) hx hb dX10_lock_41 (by decide) (fun c_12 => ?_) (fun c_12 => ?_)
        · have i_12 : p2.toInt < 0 := (ki_lt c_12)
          have b_13 : kr (-2147483648) (-1) p2 := kr_lt_l (kr_all p2) (kr_c 0 0 rfl) i_12 rfl
          refine lv_iconst (v := (-1)) hx hb dX10_lock_49 (by decide) ?_
          exact kk_pret_i hx hb hr hlocks (kr_w (kr_c (-1) (-1) rfl) rfl) dX10_lock_50
        · have i_12 : 0 ≤ p2.toInt := (ki_nlt c_12)
          have b_14 : kr 0 2147483647 p2 := kr_le_r (kr_c 0 0 rfl) (kr_all p2) i_12 rfl
          refine lv_iload_n hx hb dX10_lock_44 rfl (lv_at hl 4 rfl) ?_
          refine lv_iconst (v := 1) hx hb dX10_lock_45 (by decide) ?_
          refine lv_icmp_le (tgt := 51) hx hb dX10_lock_46 (by decide) (fun c_15 => ?_) (fun c_15 => ?_)
          · have i_15 : p2.toInt ≤ 1 := (ki_le c_15)
            have b_16 : kr 0 1 p2 := kr_le_l b_14 (kr_c 1 1 rfl) i_15 rfl
            refine lv_iload_n hx hb dX10_lock_51 rfl (lv_at hl 4 rfl) ?_
            refine lv_if_ne (tgt := 72) hx hb dX10_lock_52 (by decide) (fun c_17 => ?_) (fun c_17 => ?_)
            · have b_18 : kr 1 1 p2 := kr_ne_lo b_16 c_17 rfl
              refine lv_aload hx hb dX10_lock_72 (lv_at hl 0 rfl) ?_
              refine va_get (D := D) (ci := 8) (v := .ref h_desk_course_world_shelf) (C := RX9) (T := TX9) (N := 8) hx hb hts u_X9 hown hE.1 hP 3 rfl rfl 0 (by decide) (hts _ w_385) (fun _ h9 => h9) rfl dX10_lock_74 ?_
              refine lv_iload_n hx hb dX10_lock_77 rfl (lv_at hl 3 rfl) ?_
              refine lv_iload_n hx hb dX10_lock_78 rfl (lv_at hl 2 rfl) ?_
              refine kk_pi (kk_runV (w1 := [kO h_desk_course_world_shelf 6 [.int n_h_desk_course_world_shelf_size, .ref h_desk_course_world_shelf_bits, .ref h_desk_course_world_shelf_value, .ref h_desk_course_world_shelf_cutter, .ref h_desk_course_world_shelf_putter, .ref h_desk_course_world_shelf_gaps, .ref h_desk_course_world_shelf_sharers, .ref h_desk_course_world_shelf_wholes], kI cI h_desk_course_world_shelf_sharers 24 f_h_desk_course_world_shelf_sharers, kI cI h_desk_course_world_shelf_wholes 24 f_h_desk_course_world_shelf_wholes]) (As := [.int p1, .int p0]) (rest := []) hx hb hml hown hts hE (c_X7_levelAt l D cB cI cJ cD h_desk_course_world_shelf h_desk_course_world_shelf_sharers h_desk_course_world_shelf_wholes h_desk_course_world_shelf_bits h_desk_course_world_shelf_value h_desk_course_world_shelf_cutter h_desk_course_world_shelf_putter h_desk_course_world_shelf_gaps n_h_desk_course_world_shelf_size f_h_desk_course_world_shelf_sharers f_h_desk_course_world_shelf_wholes p1 p0 s.heap.size b_h_desk_course_world_shelf_size b_11) m_X7_levelAt w_709 ⟨rfl, rfl, Nat.le_of_ble_eq_true rfl, Nat.le_of_ble_eq_true rfl⟩ (hP.sub [5, 6, 7] rfl) (hD.sub [5, 6, 7] (by decide +kernel) rfl) 0 6 rfl rfl rfl hl.1 (Nat.le_of_ble_eq_true rfl) dX10_lock_79 ⟨Nat.le_of_ble_eq_true rfl, Nat.le_of_ble_eq_true rfl⟩) (fun r_19 p_19 => ?_)
              have b_19 : kr 0 2 r_19 := p_19
              exact kk_pret_i hx hb hr hlocks (kr_w b_19 rfl) dX10_lock_82
            · have b_20 : kr 0 0 p2 := kr_eq_l b_16 (kr_c 0 0 rfl) c_17 rfl
              refine lv_aload hx hb dX10_lock_55 (lv_at hl 0 rfl) ?_
              refine va_get (D := D) (ci := 8) (v := .ref h_desk_course_world_shelf) (C := RX9) (T := TX9) (N := 8) hx hb hts u_X9 hown hE.1 hP 3 rfl rfl 0 (by decide) (hts _ w_385) (fun _ h9 => h9) rfl dX10_lock_57 ?_
              refine va_get (D := D) (ci := 6) (v := .ref h_desk_course_world_shelf_gaps) (C := RX7) (T := TX7) (N := 8) hx hb hts u_X7 hown hE.1 hP 5 rfl rfl 5 (by decide) (hts _ w_179) (fun _ h9 => h9) rfl dX10_lock_60 ?_
              refine lv_iload_n hx hb dX10_lock_63 rfl (lv_at hl 3 rfl) ?_
              refine va_iald hx hb hE.1 hP 8 1 rfl rfl (kr_in b_11 rfl) dX10_lock_64 ?_
              refine lv_topi (fun v_21 e_21 => ?_)
              refine lv_iload_n hx hb dX10_lock_65 rfl (lv_at hl 2 rfl) ?_
              refine lv_ishr hx hb dX10_lock_66 ?_
              refine lv_topi (fun v_22 e_22 => ?_)
              refine lv_iconst (v := 1) hx hb dX10_lock_67 (by decide) ?_
              refine lv_iand hx hb dX10_lock_68 ?_
              refine lv_topi (fun v_23 e_23 => ?_)
              have b_23 : kr 0 1 v_23 := kr_and e_23 1 (by decide) rfl
              refine lv_goto (tgt := 82) hx hb dX10_lock_69 (by decide) ?_
              exact kk_pret_i hx hb hr hlocks (kr_w b_23 rfl) dX10_lock_82
          · have i_15 : 1 < p2.toInt := (ki_nle c_15)
            have b_24 : kr 2 2147483647 p2 := kr_lt_r (kr_c 1 1 rfl) b_14 i_15 rfl
            refine lv_iconst (v := (-1)) hx hb dX10_lock_49 (by decide) ?_
            exact kk_pret_i hx hb hr hlocks (kr_w (kr_c (-1) (-1) rfl) rfl) dX10_lock_50
set_option maxHeartbeats 4000000 in
set_option maxRecDepth 100000 in
theorem c_X10_hand (l : Launch) (D : va_G) (cB cI cJ cD : ClassId) (h : Nat) (h_desk : Nat) (h_desk_course : Nat) (h_desk_course_world : Nat) (h_desk_course_world_crew : Nat) (h_desk_course_world_crew_state : Nat) (h_desk_course_world_crew_need : Nat) (h_desk_course_world_crew_needKey : Nat) (h_desk_course_world_shelf : Nat) (h_desk_course_world_shelf_bits : Nat) (h_desk_course_world_shelf_wholes : Nat) (h_desk_course_world_shelf_sharers : Nat) (h_desk_course_world_shelf_gaps : Nat) (h_desk_course_world_crew_deaths : Nat) (h_desk_course_world_diary : Nat) (h_desk_course_world_diary_changes : Nat) (h_reader : Nat) (h_trials : Nat) (h_kept : Nat) (h_script : Nat) (h_draft : Nat) (h_desk_tape : Nat) (h_desk_course_mark : Nat) (h_desk_course_answer : Nat) (h_desk_course_world_crew_outcome : Nat) (h_desk_course_world_crew_kind : Nat) (h_desk_course_world_crew_low : Nat) (h_desk_course_world_crew_high : Nat) (h_desk_course_world_crew_value : Nat) (h_desk_course_world_crew_line : Nat) (h_desk_course_world_shelf_value : Nat) (h_desk_course_world_shelf_cutter : Nat) (h_desk_course_world_shelf_putter : Nat) (n_h_keptSize : Int32) (n_h_desk_tapeLength : Int32) (n_h_desk_course_come : Int32) (n_h_desk_course_swapAt : Int32) (n_h_desk_course_world_gapless : Int32) (n_h_desk_course_world_looseReads : Int32) (n_h_desk_course_world_impatient : Int32) (n_h_desk_course_world_need : Int32) (n_h_desk_course_world_needKey : Int32) (n_h_desk_course_world_crew_size : Int32) (n_h_desk_course_world_crew_lineLength : Int32) (f_h_desk_course_world_crew_state : Nat → Int32) (f_h_desk_course_world_crew_need : Nat → Int32) (f_h_desk_course_world_crew_needKey : Nat → Int32) (n_h_desk_course_world_shelf_size : Int32) (f_h_desk_course_world_shelf_bits : Nat → Int32) (f_h_desk_course_world_shelf_wholes : Nat → Int32) (f_h_desk_course_world_shelf_sharers : Nat → Int32) (f_h_desk_course_world_shelf_gaps : Nat → Int32) (f_h_desk_course_world_crew_deaths : Nat → Int32) (n_h_desk_course_world_diary_length : Int32) (f_h_desk_course_world_diary_changes : Nat → Int64) (p0 : Int32) (p1 : Int32) (sz : Nat) (b_h_keptSize : kr 0 16 n_h_keptSize) (b_h_desk_tapeLength : kr 0 700 n_h_desk_tapeLength) (b_h_desk_course_come : kr 0 24 n_h_desk_course_come) (b_h_desk_course_swapAt : kr (-1) 22 n_h_desk_course_swapAt) (b_h_desk_course_world_gapless : kr 0 1 n_h_desk_course_world_gapless) (b_h_desk_course_world_looseReads : kr 0 1 n_h_desk_course_world_looseReads) (b_h_desk_course_world_impatient : kr 0 1 n_h_desk_course_world_impatient) (b_h_desk_course_world_crew_size : kr 0 5 n_h_desk_course_world_crew_size) (b_h_desk_course_world_crew_lineLength : kr 0 5 n_h_desk_course_world_crew_lineLength) (b_h_desk_course_world_shelf_size : kr 0 24 n_h_desk_course_world_shelf_size) (b_h_desk_course_world_diary_length : kr 0 600 n_h_desk_course_world_diary_length) : Met l yX10_hand (kk_W yX10_hand cX10_hand 4 (some .int)) ({ frames := 2, cells := 0, slots := 0, locals := 46 }) (va_Pc [.ref h, .int p0, .int p1] (kk_pre D cB cI cJ cD [kO h 9 [.ref h_reader, .ref h_trials, .ref h_desk, .ref h_kept, .int n_h_keptSize, .ref h_script, .ref h_draft], kO h_desk 2 [.ref h_desk_course, .ref h_desk_tape, .int n_h_desk_tapeLength], kO h_desk_course 0 [.ref h_desk_course_world, .ref h_desk_course_mark, .ref h_desk_course_answer, .int n_h_desk_course_come, .int n_h_desk_course_swapAt], kO h_desk_course_world 8 [.ref h_desk_course_world_shelf, .ref h_desk_course_world_crew, .ref h_desk_course_world_diary, .int n_h_desk_course_world_gapless, .int n_h_desk_course_world_looseReads, .int n_h_desk_course_world_impatient, .int n_h_desk_course_world_need, .int n_h_desk_course_world_needKey], kO h_desk_course_world_crew 1 [.int n_h_desk_course_world_crew_size, .ref h_desk_course_world_crew_state, .ref h_desk_course_world_crew_outcome, .ref h_desk_course_world_crew_deaths, .ref h_desk_course_world_crew_kind, .ref h_desk_course_world_crew_low, .ref h_desk_course_world_crew_high, .ref h_desk_course_world_crew_value, .ref h_desk_course_world_crew_need, .ref h_desk_course_world_crew_needKey, .ref h_desk_course_world_crew_line, .int n_h_desk_course_world_crew_lineLength], kI cI h_desk_course_world_crew_state 5 f_h_desk_course_world_crew_state, kI cI h_desk_course_world_crew_need 5 f_h_desk_course_world_crew_need, kI cI h_desk_course_world_crew_needKey 5 f_h_desk_course_world_crew_needKey, kO h_desk_course_world_shelf 6 [.int n_h_desk_course_world_shelf_size, .ref h_desk_course_world_shelf_bits, .ref h_desk_course_world_shelf_value, .ref h_desk_course_world_shelf_cutter, .ref h_desk_course_world_shelf_putter, .ref h_desk_course_world_shelf_gaps, .ref h_desk_course_world_shelf_sharers, .ref h_desk_course_world_shelf_wholes], kI cI h_desk_course_world_shelf_bits 24 f_h_desk_course_world_shelf_bits, kI cI h_desk_course_world_shelf_wholes 24 f_h_desk_course_world_shelf_wholes, kI cI h_desk_course_world_shelf_sharers 24 f_h_desk_course_world_shelf_sharers, kI cI h_desk_course_world_shelf_gaps 25 f_h_desk_course_world_shelf_gaps, kI cI h_desk_course_world_crew_deaths 5 f_h_desk_course_world_crew_deaths, kO h_desk_course_world_diary 3 [.int n_h_desk_course_world_diary_length, .ref h_desk_course_world_diary_changes], kJ cJ h_desk_course_world_diary_changes 600 f_h_desk_course_world_diary_changes] sz)) (vp_Si (fun r => True)) 0 0 (fun _ => False) := by
  refine kk_pstart (y := yX10_hand) (maxL := 4) (av := [.ref h, .int p0, .int p1]) (by decide) (Nat.le_of_ble_eq_true rfl) ?_
  intro p e s m below meth c ls hx hb hr hml hown hts hE hlocks hsz hP hD hl
  have hown : s.vm.findClass RX10 = some m.cls := hown
  have hl : lv_has ls 4 [(0, .ref h), (1, .int p0), (2, .int p1)] := hl
  refine lv_aload_n hx hb dX10_hand_0 rfl (lv_at hl 0 rfl) ?_
  refine va_get (D := D) (ci := 9) (v := .ref h_desk) (C := RX10) (T := TX10) (N := 7) hx hb hts u_X10 hown hE.1 hP 0 rfl rfl 2 (by decide) (hts _ w_491) (fun _ h9 => h9) rfl dX10_hand_1 ?_
  refine va_get (D := D) (ci := 2) (v := .ref h_desk_course) (C := RX2) (T := TX2) (N := 3) hx hb hts u_X2 hown hE.1 hP 1 rfl rfl 0 (by decide) (hts _ w_474) (fun _ h9 => h9) rfl dX10_hand_4 ?_
  refine va_get (D := D) (ci := 0) (v := .ref h_desk_course_world) (C := RX0) (T := TX0) (N := 5) hx hb hts u_X0 hown hE.1 hP 2 rfl rfl 0 (by decide) (hts _ w_420) (fun _ h9 => h9) rfl dX10_hand_7 ?_
  refine lv_astore_n (lv' := [(3, .ref h_desk_course_world), (0, .ref h), (1, .int p0), (2, .int p1)]) hx hb dX10_hand_10 rfl hl (by decide) rfl (fun ls hl => ?_)
  refine lv_aload_n hx hb dX10_hand_11 rfl (lv_at hl 0 rfl) ?_
  refine va_get (D := D) (ci := 8) (v := .ref h_desk_course_world_crew) (C := RX9) (T := TX9) (N := 8) hx hb hts u_X9 hown hE.1 hP 3 rfl rfl 1 (by decide) (hts _ w_390) (fun _ h9 => h9) rfl dX10_hand_12 ?_
  refine lv_iload_n hx hb dX10_hand_15 rfl (lv_at hl 2 rfl) ?_
  refine kk_pi (kk_runV (w1 := [kO h_desk_course_world_crew 1 [.int n_h_desk_course_world_crew_size, .ref h_desk_course_world_crew_state, .ref h_desk_course_world_crew_outcome, .ref h_desk_course_world_crew_deaths, .ref h_desk_course_world_crew_kind, .ref h_desk_course_world_crew_low, .ref h_desk_course_world_crew_high, .ref h_desk_course_world_crew_value, .ref h_desk_course_world_crew_need, .ref h_desk_course_world_crew_needKey, .ref h_desk_course_world_crew_line, .int n_h_desk_course_world_crew_lineLength]]) (As := [.int p0]) (rest := []) hx hb hml hown hts hE (c_X1_has l D cB cI cJ cD h_desk_course_world_crew h_desk_course_world_crew_state h_desk_course_world_crew_outcome h_desk_course_world_crew_deaths h_desk_course_world_crew_kind h_desk_course_world_crew_low h_desk_course_world_crew_high h_desk_course_world_crew_value h_desk_course_world_crew_need h_desk_course_world_crew_needKey h_desk_course_world_crew_line n_h_desk_course_world_crew_size n_h_desk_course_world_crew_lineLength p0 s.heap.size b_h_desk_course_world_crew_size b_h_desk_course_world_crew_lineLength) m_X1_has w_705 ⟨rfl, rfl, Nat.le_of_ble_eq_true rfl, Nat.le_of_ble_eq_true rfl⟩ (hP.sub [4] rfl) (hD.sub [4] (by decide +kernel) rfl) 0 1 rfl rfl rfl hl.1 (Nat.le_of_ble_eq_true rfl) dX10_hand_16 ⟨Nat.le_of_ble_eq_true rfl, Nat.le_of_ble_eq_true rfl⟩) (fun r_1 p_1 => ?_)
  have b_1 : kr 0 1 r_1 := p_1.1
  refine lv_if_ne (tgt := 24) hx hb dX10_hand_19 (by decide) (fun c_2 => ?_) (fun c_2 => ?_)
  · have b_3 : kr 1 1 r_1 := kr_ne_lo b_1 c_2 rfl
    have b_4 : kr 0 4 p0 := p_1.2 c_2
    refine lv_iload_n hx hb dX10_hand_24 rfl (lv_at hl 3 rfl) ?_
    rcases kk_sw p1 0 4 with c_5 | c_5 | c_5
    · refine lv_tableOut (tgt := 104) hx hb dX10_hand_25 (Or.inl c_5) (by decide) ?_
      refine lv_iconst (v := (-1)) hx hb dX10_hand_104 (by decide) ?_
      exact kk_pret_i hx hb hr hlocks trivial dX10_hand_105
    · refine lv_tableOut (tgt := 104) hx hb dX10_hand_25 (Or.inr c_5) (by decide) ?_
      refine lv_iconst (v := (-1)) hx hb dX10_hand_104 (by decide) ?_
      exact kk_pret_i hx hb hr hlocks trivial dX10_hand_105
    · have q_6 : p1 = 0 ∨ p1 = 1 ∨ p1 = 2 ∨ p1 = 3 ∨ p1 = 4 := by simp only [kk_eq, Int32.reduceToInt]; omega
      rcases q_6 with q_6 | q_6 | q_6 | q_6 | q_6
      · obtain rfl : p1 = 0 := q_6
        refine lv_tableIn (tgt := 60) hx hb dX10_hand_25 (by decide) (by decide) rfl (by decide) ?_
        refine lv_aload_n hx hb dX10_hand_60 rfl (lv_at hl 0 rfl) ?_
        refine va_get (D := D) (ci := 8) (v := .ref h_desk_course_world_crew) (C := RX9) (T := TX9) (N := 8) hx hb hts u_X9 hown hE.1 hP 3 rfl rfl 1 (by decide) (hts _ w_390) (fun _ h9 => h9) rfl dX10_hand_61 ?_
        refine va_get (D := D) (ci := 1) (v := .ref h_desk_course_world_crew_state) (C := RX1) (T := TX1) (N := 12) hx hb hts u_X1 hown hE.1 hP 4 rfl rfl 1 (by decide) (hts _ w_319) (fun _ h9 => h9) rfl dX10_hand_64 ?_
        refine lv_iload_n hx hb dX10_hand_67 rfl (lv_at hl 2 rfl) ?_
        refine va_iald hx hb hE.1 hP 5 1 rfl rfl (kr_in b_4 rfl) dX10_hand_68 ?_
        refine lv_topi (fun v_7 e_7 => ?_)
        exact kk_pret_i hx hb hr hlocks trivial dX10_hand_69
      · obtain rfl : p1 = 1 := q_6
        refine lv_tableIn (tgt := 70) hx hb dX10_hand_25 (by decide) (by decide) rfl (by decide) ?_
        refine lv_aload_n hx hb dX10_hand_70 rfl (lv_at hl 0 rfl) ?_
        refine lv_iload_n hx hb dX10_hand_71 rfl (lv_at hl 2 rfl) ?_
        refine kk_pi (kk_runV (w1 := [kO h_desk_course_world 8 [.ref h_desk_course_world_shelf, .ref h_desk_course_world_crew, .ref h_desk_course_world_diary, .int n_h_desk_course_world_gapless, .int n_h_desk_course_world_looseReads, .int n_h_desk_course_world_impatient, .int n_h_desk_course_world_need, .int n_h_desk_course_world_needKey], kO h_desk_course_world_crew 1 [.int n_h_desk_course_world_crew_size, .ref h_desk_course_world_crew_state, .ref h_desk_course_world_crew_outcome, .ref h_desk_course_world_crew_deaths, .ref h_desk_course_world_crew_kind, .ref h_desk_course_world_crew_low, .ref h_desk_course_world_crew_high, .ref h_desk_course_world_crew_value, .ref h_desk_course_world_crew_need, .ref h_desk_course_world_crew_needKey, .ref h_desk_course_world_crew_line, .int n_h_desk_course_world_crew_lineLength], kI cI h_desk_course_world_crew_state 5 f_h_desk_course_world_crew_state, kI cI h_desk_course_world_crew_need 5 f_h_desk_course_world_crew_need, kI cI h_desk_course_world_crew_needKey 5 f_h_desk_course_world_crew_needKey, kO h_desk_course_world_shelf 6 [.int n_h_desk_course_world_shelf_size, .ref h_desk_course_world_shelf_bits, .ref h_desk_course_world_shelf_value, .ref h_desk_course_world_shelf_cutter, .ref h_desk_course_world_shelf_putter, .ref h_desk_course_world_shelf_gaps, .ref h_desk_course_world_shelf_sharers, .ref h_desk_course_world_shelf_wholes], kI cI h_desk_course_world_shelf_bits 24 f_h_desk_course_world_shelf_bits, kI cI h_desk_course_world_shelf_wholes 24 f_h_desk_course_world_shelf_wholes, kI cI h_desk_course_world_shelf_sharers 24 f_h_desk_course_world_shelf_sharers, kI cI h_desk_course_world_shelf_gaps 25 f_h_desk_course_world_shelf_gaps]) (As := [.int p0]) (rest := []) hx hb hml hown hts hE (c_X9_waitsFor l D cB cI cJ cD h_desk_course_world h_desk_course_world_crew h_desk_course_world_crew_state h_desk_course_world_crew_need h_desk_course_world_crew_needKey h_desk_course_world_shelf h_desk_course_world_shelf_bits h_desk_course_world_shelf_wholes h_desk_course_world_shelf_sharers h_desk_course_world_shelf_gaps h_desk_course_world_diary h_desk_course_world_crew_outcome h_desk_course_world_crew_deaths h_desk_course_world_crew_kind h_desk_course_world_crew_low h_desk_course_world_crew_high h_desk_course_world_crew_value h_desk_course_world_crew_line h_desk_course_world_shelf_value h_desk_course_world_shelf_cutter h_desk_course_world_shelf_putter n_h_desk_course_world_gapless n_h_desk_course_world_looseReads n_h_desk_course_world_impatient n_h_desk_course_world_need n_h_desk_course_world_needKey n_h_desk_course_world_crew_size n_h_desk_course_world_crew_lineLength f_h_desk_course_world_crew_state f_h_desk_course_world_crew_need f_h_desk_course_world_crew_needKey n_h_desk_course_world_shelf_size f_h_desk_course_world_shelf_bits f_h_desk_course_world_shelf_wholes f_h_desk_course_world_shelf_sharers f_h_desk_course_world_shelf_gaps p0 s.heap.size b_h_desk_course_world_gapless b_h_desk_course_world_looseReads b_h_desk_course_world_impatient b_h_desk_course_world_crew_size b_h_desk_course_world_crew_lineLength b_h_desk_course_world_shelf_size b_4) m_X9_waitsFor w_717 ⟨rfl, rfl, Nat.le_of_ble_eq_true rfl, Nat.le_of_ble_eq_true rfl⟩ (hP.sub [3, 4, 5, 6, 7, 8, 9, 10, 11, 12] rfl) (hD.sub [3, 4, 5, 6, 7, 8, 9, 10, 11, 12] (by decide +kernel) rfl) 0 8 rfl rfl rfl hl.1 (Nat.le_of_ble_eq_true rfl) dX10_hand_72 ⟨Nat.le_of_ble_eq_true rfl, Nat.le_of_ble_eq_true rfl⟩) (fun r_8 p_8 => ?_)
        exact kk_pret_i hx hb hr hlocks trivial dX10_hand_75
      · obtain rfl : p1 = 2 := q_6
        refine lv_tableIn (tgt := 76) hx hb dX10_hand_25 (by decide) (by decide) rfl (by decide) ?_
        refine lv_aload_n hx hb dX10_hand_76 rfl (lv_at hl 0 rfl) ?_
        refine va_get (D := D) (ci := 8) (v := .ref h_desk_course_world_shelf) (C := RX9) (T := TX9) (N := 8) hx hb hts u_X9 hown hE.1 hP 3 rfl rfl 0 (by decide) (hts _ w_385) (fun _ h9 => h9) rfl dX10_hand_77 ?_
        refine lv_iload_n hx hb dX10_hand_80 rfl (lv_at hl 2 rfl) ?_
        refine kk_pi (kk_runV (w1 := [kO h_desk_course_world_shelf 6 [.int n_h_desk_course_world_shelf_size, .ref h_desk_course_world_shelf_bits, .ref h_desk_course_world_shelf_value, .ref h_desk_course_world_shelf_cutter, .ref h_desk_course_world_shelf_putter, .ref h_desk_course_world_shelf_gaps, .ref h_desk_course_world_shelf_sharers, .ref h_desk_course_world_shelf_wholes], kI cI h_desk_course_world_shelf_gaps 25 f_h_desk_course_world_shelf_gaps, kI cI h_desk_course_world_shelf_sharers 24 f_h_desk_course_world_shelf_sharers]) (As := [.int p0]) (rest := []) hx hb hml hown hts hE (c_X7_locksOf l D cB cI cJ cD h_desk_course_world_shelf h_desk_course_world_shelf_gaps h_desk_course_world_shelf_sharers h_desk_course_world_shelf_bits h_desk_course_world_shelf_value h_desk_course_world_shelf_cutter h_desk_course_world_shelf_putter h_desk_course_world_shelf_wholes n_h_desk_course_world_shelf_size f_h_desk_course_world_shelf_gaps f_h_desk_course_world_shelf_sharers p0 s.heap.size b_h_desk_course_world_shelf_size) m_X7_locksOf w_725 ⟨rfl, rfl, Nat.le_of_ble_eq_true rfl, Nat.le_of_ble_eq_true rfl⟩ (hP.sub [8, 12, 11] rfl) (hD.sub [8, 12, 11] (by decide +kernel) rfl) 0 6 rfl rfl rfl hl.1 (Nat.le_of_ble_eq_true rfl) dX10_hand_81 ⟨Nat.le_of_ble_eq_true rfl, Nat.le_of_ble_eq_true rfl⟩) (fun r_9 p_9 => ?_)
        exact kk_pret_i hx hb hr hlocks trivial dX10_hand_84
      · obtain rfl : p1 = 3 := q_6
        refine lv_tableIn (tgt := 85) hx hb dX10_hand_25 (by decide) (by decide) rfl (by decide) ?_
        refine lv_aload_n hx hb dX10_hand_85 rfl (lv_at hl 0 rfl) ?_
        refine va_get (D := D) (ci := 8) (v := .ref h_desk_course_world_crew) (C := RX9) (T := TX9) (N := 8) hx hb hts u_X9 hown hE.1 hP 3 rfl rfl 1 (by decide) (hts _ w_390) (fun _ h9 => h9) rfl dX10_hand_86 ?_
        refine va_get (D := D) (ci := 1) (v := .ref h_desk_course_world_crew_deaths) (C := RX1) (T := TX1) (N := 12) hx hb hts u_X1 hown hE.1 hP 4 rfl rfl 3 (by decide) (hts _ w_325) (fun _ h9 => h9) rfl dX10_hand_89 ?_
        refine lv_iload_n hx hb dX10_hand_92 rfl (lv_at hl 2 rfl) ?_
        refine va_iald hx hb hE.1 hP 13 1 rfl rfl (kr_in b_4 rfl) dX10_hand_93 ?_
        refine lv_topi (fun v_10 e_10 => ?_)
        exact kk_pret_i hx hb hr hlocks trivial dX10_hand_94
      · obtain rfl : p1 = 4 := q_6
        refine lv_tableIn (tgt := 95) hx hb dX10_hand_25 (by decide) (by decide) rfl (by decide) ?_
        refine lv_aload_n hx hb dX10_hand_95 rfl (lv_at hl 0 rfl) ?_
        refine va_get (D := D) (ci := 8) (v := .ref h_desk_course_world_diary) (C := RX9) (T := TX9) (N := 8) hx hb hts u_X9 hown hE.1 hP 3 rfl rfl 2 (by decide) (hts _ w_392) (fun _ h9 => h9) rfl dX10_hand_96 ?_
        refine lv_iload_n hx hb dX10_hand_99 rfl (lv_at hl 2 rfl) ?_
        refine kk_pi (kk_runV (w1 := [kO h_desk_course_world_diary 3 [.int n_h_desk_course_world_diary_length, .ref h_desk_course_world_diary_changes], kJ cJ h_desk_course_world_diary_changes 600 f_h_desk_course_world_diary_changes]) (As := [.int p0]) (rest := []) hx hb hml hown hts hE (c_X3_changesBy l D cB cI cJ cD h_desk_course_world_diary h_desk_course_world_diary_changes n_h_desk_course_world_diary_length f_h_desk_course_world_diary_changes p0 s.heap.size b_h_desk_course_world_diary_length) m_X3_changesBy w_729 ⟨rfl, rfl, Nat.le_of_ble_eq_true rfl, Nat.le_of_ble_eq_true rfl⟩ (hP.sub [14, 15] rfl) (hD.sub [14, 15] (by decide +kernel) rfl) 0 3 rfl rfl rfl hl.1 (Nat.le_of_ble_eq_true rfl) dX10_hand_100 ⟨Nat.le_of_ble_eq_true rfl, Nat.le_of_ble_eq_true rfl⟩) (fun r_11 p_11 => ?_)
        exact kk_pret_i hx hb hr hlocks trivial dX10_hand_103
  · have b_12 : kr 0 0 r_1 := kr_eq_l b_1 (kr_c 0 0 rfl) c_2 rfl
    refine lv_iconst (v := (-1)) hx hb dX10_hand_22 (by decide) ?_
    exact kk_pret_i hx hb hr hlocks trivial dX10_hand_23
set_option maxHeartbeats 4000000 in
set_option maxRecDepth 100000 in
theorem c_X10_queue (l : Launch) (D : va_G) (cB cI cJ cD : ClassId) (h : Nat) (h_desk : Nat) (h_desk_course : Nat) (h_desk_course_world : Nat) (h_desk_course_world_crew : Nat) (h_desk_course_world_crew_line : Nat) (h_reader : Nat) (h_trials : Nat) (h_kept : Nat) (h_script : Nat) (h_draft : Nat) (h_desk_tape : Nat) (h_desk_course_mark : Nat) (h_desk_course_answer : Nat) (h_desk_course_world_shelf : Nat) (h_desk_course_world_diary : Nat) (h_desk_course_world_crew_state : Nat) (h_desk_course_world_crew_outcome : Nat) (h_desk_course_world_crew_deaths : Nat) (h_desk_course_world_crew_kind : Nat) (h_desk_course_world_crew_low : Nat) (h_desk_course_world_crew_high : Nat) (h_desk_course_world_crew_value : Nat) (h_desk_course_world_crew_need : Nat) (h_desk_course_world_crew_needKey : Nat) (n_h_keptSize : Int32) (n_h_desk_tapeLength : Int32) (n_h_desk_course_come : Int32) (n_h_desk_course_swapAt : Int32) (n_h_desk_course_world_gapless : Int32) (n_h_desk_course_world_looseReads : Int32) (n_h_desk_course_world_impatient : Int32) (n_h_desk_course_world_need : Int32) (n_h_desk_course_world_needKey : Int32) (n_h_desk_course_world_crew_size : Int32) (n_h_desk_course_world_crew_lineLength : Int32) (f_h_desk_course_world_crew_line : Nat → Int32) (p0 : Int32) (sz : Nat) (b_h_keptSize : kr 0 16 n_h_keptSize) (b_h_desk_tapeLength : kr 0 700 n_h_desk_tapeLength) (b_h_desk_course_come : kr 0 24 n_h_desk_course_come) (b_h_desk_course_swapAt : kr (-1) 22 n_h_desk_course_swapAt) (b_h_desk_course_world_gapless : kr 0 1 n_h_desk_course_world_gapless) (b_h_desk_course_world_looseReads : kr 0 1 n_h_desk_course_world_looseReads) (b_h_desk_course_world_impatient : kr 0 1 n_h_desk_course_world_impatient) (b_h_desk_course_world_crew_size : kr 0 5 n_h_desk_course_world_crew_size) (b_h_desk_course_world_crew_lineLength : kr 0 5 n_h_desk_course_world_crew_lineLength) (kf_h_desk_course_world_crew_line : ka 0 4 f_h_desk_course_world_crew_line) : Met l yX10_queue (kk_W yX10_queue cX10_queue 3 (some .int)) ({ frames := 0, cells := 0, slots := 0, locals := 0 }) (va_Pc [.ref h, .int p0] (kk_pre D cB cI cJ cD [kO h 9 [.ref h_reader, .ref h_trials, .ref h_desk, .ref h_kept, .int n_h_keptSize, .ref h_script, .ref h_draft], kO h_desk 2 [.ref h_desk_course, .ref h_desk_tape, .int n_h_desk_tapeLength], kO h_desk_course 0 [.ref h_desk_course_world, .ref h_desk_course_mark, .ref h_desk_course_answer, .int n_h_desk_course_come, .int n_h_desk_course_swapAt], kO h_desk_course_world 8 [.ref h_desk_course_world_shelf, .ref h_desk_course_world_crew, .ref h_desk_course_world_diary, .int n_h_desk_course_world_gapless, .int n_h_desk_course_world_looseReads, .int n_h_desk_course_world_impatient, .int n_h_desk_course_world_need, .int n_h_desk_course_world_needKey], kO h_desk_course_world_crew 1 [.int n_h_desk_course_world_crew_size, .ref h_desk_course_world_crew_state, .ref h_desk_course_world_crew_outcome, .ref h_desk_course_world_crew_deaths, .ref h_desk_course_world_crew_kind, .ref h_desk_course_world_crew_low, .ref h_desk_course_world_crew_high, .ref h_desk_course_world_crew_value, .ref h_desk_course_world_crew_need, .ref h_desk_course_world_crew_needKey, .ref h_desk_course_world_crew_line, .int n_h_desk_course_world_crew_lineLength], kI cI h_desk_course_world_crew_line 5 f_h_desk_course_world_crew_line] sz)) (vp_Si (fun r => kr (-2) 4 r)) 0 0 (fun _ => False) := by
  refine kk_pstart (y := yX10_queue) (maxL := 3) (av := [.ref h, .int p0]) (by decide) (Nat.le_of_ble_eq_true rfl) ?_
  intro p e s m below meth c ls hx hb hr hml hown hts hE hlocks hsz hP hD hl
  have hown : s.vm.findClass RX10 = some m.cls := hown
  have hl : lv_has ls 3 [(0, .ref h), (1, .int p0)] := hl
  refine lv_aload_n hx hb dX10_queue_0 rfl (lv_at hl 0 rfl) ?_
  refine va_get (D := D) (ci := 9) (v := .ref h_desk) (C := RX10) (T := TX10) (N := 7) hx hb hts u_X10 hown hE.1 hP 0 rfl rfl 2 (by decide) (hts _ w_491) (fun _ h9 => h9) rfl dX10_queue_1 ?_
  refine va_get (D := D) (ci := 2) (v := .ref h_desk_course) (C := RX2) (T := TX2) (N := 3) hx hb hts u_X2 hown hE.1 hP 1 rfl rfl 0 (by decide) (hts _ w_474) (fun _ h9 => h9) rfl dX10_queue_4 ?_
  refine va_get (D := D) (ci := 0) (v := .ref h_desk_course_world) (C := RX0) (T := TX0) (N := 5) hx hb hts u_X0 hown hE.1 hP 2 rfl rfl 0 (by decide) (hts _ w_420) (fun _ h9 => h9) rfl dX10_queue_7 ?_
  refine va_get (D := D) (ci := 8) (v := .ref h_desk_course_world_crew) (C := RX9) (T := TX9) (N := 8) hx hb hts u_X9 hown hE.1 hP 3 rfl rfl 1 (by decide) (hts _ w_390) (fun _ h9 => h9) rfl dX10_queue_10 ?_
  refine lv_astore_n (lv' := [(2, .ref h_desk_course_world_crew), (0, .ref h), (1, .int p0)]) hx hb dX10_queue_13 rfl hl (by decide) rfl (fun ls hl => ?_)
  refine lv_iload_n hx hb dX10_queue_14 rfl (lv_at hl 2 rfl) ?_
  refine lv_if_ge (tgt := 20) hx hb dX10_queue_15 (by decide) (fun c_1 => ?_) (fun c_1 => ?_)
  · have i_1 : 0 ≤ p0.toInt := (ki_le c_1)
    have b_2 : kr 0 2147483647 p0 := kr_le_r (kr_c 0 0 rfl) (kr_all p0) i_1 rfl
    refine lv_iload_n hx hb dX10_queue_20 rfl (lv_at hl 2 rfl) ?_
    refine lv_aload_n hx hb dX10_queue_21 rfl (lv_at hl 0 rfl) ?_
    refine va_get (D := D) (ci := 1) (v := .int n_h_desk_course_world_crew_lineLength) (C := RX1) (T := TX1) (N := 12) hx hb hts u_X1 hown hE.1 hP 4 rfl rfl 11 (by decide) (hts _ w_343) (fun _ h9 => h9) rfl dX10_queue_22 ?_
    refine lv_icmp_ge (tgt := 37) hx hb dX10_queue_25 (by decide) (fun c_3 => ?_) (fun c_3 => ?_)
    · have i_3 : n_h_desk_course_world_crew_lineLength.toInt ≤ p0.toInt := (ki_le c_3)
      refine lv_bipush (v := (-2)) hx hb dX10_queue_37 (by decide) ?_
      exact kk_pret_i hx hb hr hlocks (kr_w (kr_c (-2) (-2) rfl) rfl) dX10_queue_39
    · have i_3 : p0.toInt < n_h_desk_course_world_crew_lineLength.toInt := (ki_nle c_3)
      have b_4 : kr 0 4 p0 := kr_lt_l b_2 b_h_desk_course_world_crew_lineLength i_3 rfl
      have b_5 : kr 1 5 n_h_desk_course_world_crew_lineLength := kr_lt_r b_2 b_h_desk_course_world_crew_lineLength i_3 rfl
      refine lv_aload_n hx hb dX10_queue_28 rfl (lv_at hl 0 rfl) ?_
      refine va_get (D := D) (ci := 1) (v := .ref h_desk_course_world_crew_line) (C := RX1) (T := TX1) (N := 12) hx hb hts u_X1 hown hE.1 hP 4 rfl rfl 10 (by decide) (hts _ w_340) (fun _ h9 => h9) rfl dX10_queue_29 ?_
      refine lv_iload_n hx hb dX10_queue_32 rfl (lv_at hl 2 rfl) ?_
      refine va_iald hx hb hE.1 hP 5 1 rfl rfl (kr_in b_4 rfl) dX10_queue_33 ?_
      refine lv_topi (fun v_6 e_6 => ?_)
      have b_6 : kr 0 4 v_6 := (by rw [e_6]; exact kf_h_desk_course_world_crew_line _)
      refine lv_goto (tgt := 39) hx hb dX10_queue_34 (by decide) ?_
      exact kk_pret_i hx hb hr hlocks (kr_w b_6 rfl) dX10_queue_39
  · have i_1 : p0.toInt < 0 := (ki_nle c_1)
    have b_7 : kr (-2147483648) (-1) p0 := kr_lt_l (kr_all p0) (kr_c 0 0 rfl) i_1 rfl
    refine lv_iconst (v := (-1)) hx hb dX10_queue_18 (by decide) ?_
    exact kk_pret_i hx hb hr hlocks (kr_w (kr_c (-1) (-1) rfl) rfl) dX10_queue_19
set_option maxHeartbeats 4000000 in
set_option maxRecDepth 100000 in
theorem c_X10_stops (l : Launch) (D : va_G) (cB cI cJ cD : ClassId) (h : Nat) (h_desk : Nat) (h_desk_course : Nat) (h_desk_course_world : Nat) (h_desk_course_world_crew : Nat) (h_desk_course_world_shelf : Nat) (h_desk_course_world_shelf_bits : Nat) (h_desk_course_world_shelf_cutter : Nat) (h_desk_course_world_shelf_wholes : Nat) (h_desk_course_world_shelf_sharers : Nat) (h_desk_course_world_shelf_gaps : Nat) (h_reader : Nat) (h_trials : Nat) (h_kept : Nat) (h_script : Nat) (h_draft : Nat) (h_desk_tape : Nat) (h_desk_course_mark : Nat) (h_desk_course_answer : Nat) (h_desk_course_world_diary : Nat) (h_desk_course_world_crew_state : Nat) (h_desk_course_world_crew_outcome : Nat) (h_desk_course_world_crew_deaths : Nat) (h_desk_course_world_crew_kind : Nat) (h_desk_course_world_crew_low : Nat) (h_desk_course_world_crew_high : Nat) (h_desk_course_world_crew_value : Nat) (h_desk_course_world_crew_need : Nat) (h_desk_course_world_crew_needKey : Nat) (h_desk_course_world_crew_line : Nat) (h_desk_course_world_shelf_value : Nat) (h_desk_course_world_shelf_putter : Nat) (n_h_keptSize : Int32) (n_h_desk_tapeLength : Int32) (n_h_desk_course_come : Int32) (n_h_desk_course_swapAt : Int32) (n_h_desk_course_world_gapless : Int32) (n_h_desk_course_world_looseReads : Int32) (n_h_desk_course_world_impatient : Int32) (n_h_desk_course_world_need : Int32) (n_h_desk_course_world_needKey : Int32) (n_h_desk_course_world_crew_size : Int32) (n_h_desk_course_world_crew_lineLength : Int32) (n_h_desk_course_world_shelf_size : Int32) (f_h_desk_course_world_shelf_bits : Nat → Int32) (f_h_desk_course_world_shelf_cutter : Nat → Int32) (f_h_desk_course_world_shelf_wholes : Nat → Int32) (f_h_desk_course_world_shelf_sharers : Nat → Int32) (f_h_desk_course_world_shelf_gaps : Nat → Int32) (p0 : Int32) (p1 : Int32) (p2 : Int32) (p3 : Int32) (sz : Nat) (b_h_keptSize : kr 0 16 n_h_keptSize) (b_h_desk_tapeLength : kr 0 700 n_h_desk_tapeLength) (b_h_desk_course_come : kr 0 24 n_h_desk_course_come) (b_h_desk_course_swapAt : kr (-1) 22 n_h_desk_course_swapAt) (b_h_desk_course_world_gapless : kr 0 1 n_h_desk_course_world_gapless) (b_h_desk_course_world_looseReads : kr 0 1 n_h_desk_course_world_looseReads) (b_h_desk_course_world_impatient : kr 0 1 n_h_desk_course_world_impatient) (b_h_desk_course_world_crew_size : kr 0 5 n_h_desk_course_world_crew_size) (b_h_desk_course_world_crew_lineLength : kr 0 5 n_h_desk_course_world_crew_lineLength) (b_h_desk_course_world_shelf_size : kr 0 24 n_h_desk_course_world_shelf_size) : Met l yX10_stops (kk_W yX10_stops cX10_stops 11 (some .int)) ({ frames := 2, cells := 0, slots := 0, locals := 45 }) (va_Pc [.ref h, .int p0, .int p1, .int p2, .int p3] (kk_pre D cB cI cJ cD [kO h 9 [.ref h_reader, .ref h_trials, .ref h_desk, .ref h_kept, .int n_h_keptSize, .ref h_script, .ref h_draft], kO h_desk 2 [.ref h_desk_course, .ref h_desk_tape, .int n_h_desk_tapeLength], kO h_desk_course 0 [.ref h_desk_course_world, .ref h_desk_course_mark, .ref h_desk_course_answer, .int n_h_desk_course_come, .int n_h_desk_course_swapAt], kO h_desk_course_world 8 [.ref h_desk_course_world_shelf, .ref h_desk_course_world_crew, .ref h_desk_course_world_diary, .int n_h_desk_course_world_gapless, .int n_h_desk_course_world_looseReads, .int n_h_desk_course_world_impatient, .int n_h_desk_course_world_need, .int n_h_desk_course_world_needKey], kO h_desk_course_world_crew 1 [.int n_h_desk_course_world_crew_size, .ref h_desk_course_world_crew_state, .ref h_desk_course_world_crew_outcome, .ref h_desk_course_world_crew_deaths, .ref h_desk_course_world_crew_kind, .ref h_desk_course_world_crew_low, .ref h_desk_course_world_crew_high, .ref h_desk_course_world_crew_value, .ref h_desk_course_world_crew_need, .ref h_desk_course_world_crew_needKey, .ref h_desk_course_world_crew_line, .int n_h_desk_course_world_crew_lineLength], kO h_desk_course_world_shelf 6 [.int n_h_desk_course_world_shelf_size, .ref h_desk_course_world_shelf_bits, .ref h_desk_course_world_shelf_value, .ref h_desk_course_world_shelf_cutter, .ref h_desk_course_world_shelf_putter, .ref h_desk_course_world_shelf_gaps, .ref h_desk_course_world_shelf_sharers, .ref h_desk_course_world_shelf_wholes], kI cI h_desk_course_world_shelf_bits 24 f_h_desk_course_world_shelf_bits, kI cI h_desk_course_world_shelf_cutter 24 f_h_desk_course_world_shelf_cutter, kI cI h_desk_course_world_shelf_wholes 24 f_h_desk_course_world_shelf_wholes, kI cI h_desk_course_world_shelf_sharers 24 f_h_desk_course_world_shelf_sharers, kI cI h_desk_course_world_shelf_gaps 25 f_h_desk_course_world_shelf_gaps] sz)) (vp_Si (fun r => True)) 0 0 (fun _ => False) := by
  refine kk_pstart (y := yX10_stops) (maxL := 11) (av := [.ref h, .int p0, .int p1, .int p2, .int p3]) (by decide) (Nat.le_of_ble_eq_true rfl) ?_
  intro p e s m below meth c ls hx hb hr hml hown hts hE hlocks hsz hP hD hl
  have hown : s.vm.findClass RX10 = some m.cls := hown
  have hl : lv_has ls 11 [(0, .ref h), (1, .int p0), (2, .int p1), (3, .int p2), (4, .int p3)] := hl
  generalize hQQ : MQ below _ _ s _ _ _ = QQ
  have J_126 : ∀ (x126_l_9 : Int32) (x126_l_6 : Int32) (ls : Array Slot), kr 1 3 x126_l_9 → kr 0 4 p0 → lv_has ls 11 [(9, .int x126_l_9), (7, .ref h_desk_course_world_shelf), (6, .int x126_l_6), (1, .int p0)] → W p l e ({ frames := 2, cells := 0, slots := 0, locals := 45 }) s m ([.ref h, .int p0, .int p1, .int p2, .int p3] : List Value).toArray below meth c s.heap [] 0 0 QQ (F0 m 126 ls []) := by
    intro x126_l_9 x126_l_6 ls bx126_l_9 c126_p0 hl
    refine lv_aload hx hb dX10_stops_126 (lv_at hl 1 rfl) ?_
    refine lv_iload_n hx hb dX10_stops_128 rfl (lv_at hl 3 rfl) ?_
    refine lv_iload hx hb dX10_stops_129 (lv_at hl 0 rfl) ?_
    refine lv_iload hx hb dX10_stops_131 (lv_at hl 2 rfl) ?_
    refine kk_pi (kk_runV (w1 := [kO h_desk_course_world_shelf 6 [.int n_h_desk_course_world_shelf_size, .ref h_desk_course_world_shelf_bits, .ref h_desk_course_world_shelf_value, .ref h_desk_course_world_shelf_cutter, .ref h_desk_course_world_shelf_putter, .ref h_desk_course_world_shelf_gaps, .ref h_desk_course_world_shelf_sharers, .ref h_desk_course_world_shelf_wholes], kI cI h_desk_course_world_shelf_bits 24 f_h_desk_course_world_shelf_bits, kI cI h_desk_course_world_shelf_wholes 24 f_h_desk_course_world_shelf_wholes, kI cI h_desk_course_world_shelf_sharers 24 f_h_desk_course_world_shelf_sharers, kI cI h_desk_course_world_shelf_gaps 25 f_h_desk_course_world_shelf_gaps]) (As := [.int p0, .int x126_l_9, .int x126_l_6]) (rest := []) hx hb hml hown hts hE (c_X7_blockers l D cB cI cJ cD h_desk_course_world_shelf h_desk_course_world_shelf_bits h_desk_course_world_shelf_wholes h_desk_course_world_shelf_sharers h_desk_course_world_shelf_gaps h_desk_course_world_shelf_value h_desk_course_world_shelf_cutter h_desk_course_world_shelf_putter n_h_desk_course_world_shelf_size f_h_desk_course_world_shelf_bits f_h_desk_course_world_shelf_wholes f_h_desk_course_world_shelf_sharers f_h_desk_course_world_shelf_gaps p0 x126_l_9 x126_l_6 s.heap.size b_h_desk_course_world_shelf_size) m_X7_blockers w_746 ⟨rfl, rfl, Nat.le_of_ble_eq_true rfl, Nat.le_of_ble_eq_true rfl⟩ (hP.sub [5, 6, 8, 9, 10] rfl) (hD.sub [5, 6, 8, 9, 10] (by decide +kernel) rfl) 0 6 rfl rfl rfl hl.1 (Nat.le_of_ble_eq_true rfl) dX10_stops_133 ⟨Nat.le_of_ble_eq_true rfl, Nat.le_of_ble_eq_true rfl⟩) (fun r_1 p_1 => ?_)
    subst hQQ
    exact kk_pret_i hx hb hr hlocks trivial dX10_stops_136
  have J_124 : ∀ (x124_l_6 : Int32) (x124_s_0 : Int32) (ls : Array Slot), kr 0 4 p0 → kr 1 3 x124_s_0 → lv_has ls 11 [(7, .ref h_desk_course_world_shelf), (6, .int x124_l_6), (1, .int p0)] → W p l e ({ frames := 2, cells := 0, slots := 0, locals := 45 }) s m ([.ref h, .int p0, .int p1, .int p2, .int p3] : List Value).toArray below meth c s.heap [] 0 0 QQ (F0 m 124 ls [.int x124_s_0]) := by
    intro x124_l_6 x124_s_0 ls c124_p0 bx124_s_0 hl
    refine lv_istore (lv' := [(9, .int x124_s_0), (7, .ref h_desk_course_world_shelf), (6, .int x124_l_6), (1, .int p0)]) hx hb dX10_stops_124 hl (by decide) rfl (fun ls hl => ?_)
    exact J_126 x124_s_0 x124_l_6 _ bx124_s_0 c124_p0 (lv_sub hl [0, 1, 2, 3] rfl)
  have J_114 : ∀ (x114_l_10 : Int32) (x114_l_6 : Int32) (ls : Array Slot), kr 0 1 x114_l_10 → kr 0 4 p0 → lv_has ls 11 [(10, .int x114_l_10), (7, .ref h_desk_course_world_shelf), (6, .int x114_l_6), (1, .int p0)] → W p l e ({ frames := 2, cells := 0, slots := 0, locals := 45 }) s m ([.ref h, .int p0, .int p1, .int p2, .int p3] : List Value).toArray below meth c s.heap [] 0 0 QQ (F0 m 114 ls []) := by
    intro x114_l_10 x114_l_6 ls bx114_l_10 c114_p0 hl
    refine lv_iload hx hb dX10_stops_114 (lv_at hl 0 rfl) ?_
    refine lv_if_eq (tgt := 123) hx hb dX10_stops_116 (by decide) (fun c_2 => ?_) (fun c_2 => ?_)
    · have b_3 : kr 0 0 x114_l_10 := kr_eq_l bx114_l_10 (kr_c 0 0 rfl) c_2 rfl
      refine lv_iconst (v := 3) hx hb dX10_stops_123 (by decide) ?_
      exact J_124 x114_l_6 3 _ c114_p0 (kr_w (kr_c 3 3 rfl) rfl) (lv_sub hl [1, 2, 3] rfl)
    · have b_4 : kr 1 1 x114_l_10 := kr_ne_lo bx114_l_10 c_2 rfl
      refine lv_iconst (v := 1) hx hb dX10_stops_119 (by decide) ?_
      refine lv_goto (tgt := 124) hx hb dX10_stops_120 (by decide) ?_
      exact J_124 x114_l_6 1 _ c114_p0 (kr_w (kr_c 1 1 rfl) rfl) (lv_sub hl [1, 2, 3] rfl)
  have J_76 : ∀ (x76_l_8 : Int32) (x76_l_6 : Int32) (x76_s_0 : Int32) (ls : Array Slot), kr 0 24 x76_l_8 → kr 0 4 p0 → kr 0 2 p3 → kr 1 2 x76_s_0 → lv_has ls 11 [(8, .int x76_l_8), (7, .ref h_desk_course_world_shelf), (6, .int x76_l_6), (1, .int p0), (4, .int p3)] → W p l e ({ frames := 2, cells := 0, slots := 0, locals := 45 }) s m ([.ref h, .int p0, .int p1, .int p2, .int p3] : List Value).toArray below meth c s.heap [] 0 0 QQ (F0 m 76 ls [.int x76_s_0]) := by
    intro x76_l_8 x76_l_6 x76_s_0 ls bx76_l_8 c76_p0 c76_p3 bx76_s_0 hl
    refine lv_istore (lv' := [(9, .int x76_s_0), (8, .int x76_l_8), (7, .ref h_desk_course_world_shelf), (6, .int x76_l_6), (1, .int p0), (4, .int p3)]) hx hb dX10_stops_76 hl (by decide) rfl (fun ls hl => ?_)
    refine lv_iload hx hb dX10_stops_78 (lv_at hl 5 rfl) ?_
    refine lv_iconst (v := 2) hx hb dX10_stops_80 (by decide) ?_
    refine lv_icmp_ne (tgt := 126) hx hb dX10_stops_81 (by decide) (fun c_5 => ?_) (fun c_5 => ?_)
    · have b_6 : kr 0 1 p3 := kr_ne_hi c76_p3 c_5 rfl
      exact J_126 x76_s_0 x76_l_6 _ (kr_w bx76_s_0 rfl) c76_p0 (lv_sub hl [0, 2, 3, 4] rfl)
    · have b_7 : kr 2 2 p3 := kr_eq_l c76_p3 (kr_c 2 2 rfl) c_5 rfl
      refine lv_aload hx hb dX10_stops_84 (lv_at hl 2 rfl) ?_
      refine lv_iload hx hb dX10_stops_86 (lv_at hl 1 rfl) ?_
      refine lv_iload hx hb dX10_stops_88 (lv_at hl 3 rfl) ?_
      refine kk_pi (kk_runV (w1 := [kO h_desk_course_world_shelf 6 [.int n_h_desk_course_world_shelf_size, .ref h_desk_course_world_shelf_bits, .ref h_desk_course_world_shelf_value, .ref h_desk_course_world_shelf_cutter, .ref h_desk_course_world_shelf_putter, .ref h_desk_course_world_shelf_gaps, .ref h_desk_course_world_shelf_sharers, .ref h_desk_course_world_shelf_wholes], kI cI h_desk_course_world_shelf_bits 24 f_h_desk_course_world_shelf_bits]) (As := [.int x76_l_8, .int x76_l_6]) (rest := []) hx hb hml hown hts hE (c_X7_hasAt l D cB cI cJ cD h_desk_course_world_shelf h_desk_course_world_shelf_bits h_desk_course_world_shelf_value h_desk_course_world_shelf_cutter h_desk_course_world_shelf_putter h_desk_course_world_shelf_gaps h_desk_course_world_shelf_sharers h_desk_course_world_shelf_wholes n_h_desk_course_world_shelf_size f_h_desk_course_world_shelf_bits x76_l_8 x76_l_6 s.heap.size b_h_desk_course_world_shelf_size bx76_l_8) m_X7_hasAt w_745 ⟨rfl, rfl, Nat.le_of_ble_eq_true rfl, Nat.le_of_ble_eq_true rfl⟩ (hP.sub [5, 6] rfl) (hD.sub [5, 6] (by decide +kernel) rfl) 0 6 rfl rfl rfl hl.1 (Nat.le_of_ble_eq_true rfl) dX10_stops_90 ⟨Nat.le_of_ble_eq_true rfl, Nat.le_of_ble_eq_true rfl⟩) (fun r_8 p_8 => ?_)
      have b_8 : kr 0 1 r_8 := p_8.1
      refine lv_istore (lv' := [(10, .int r_8), (9, .int x76_s_0), (8, .int x76_l_8), (7, .ref h_desk_course_world_shelf), (6, .int x76_l_6), (1, .int p0), (4, .int p3)]) hx hb dX10_stops_93 hl (by decide) rfl (fun ls hl => ?_)
      refine lv_iload hx hb dX10_stops_95 (lv_at hl 0 rfl) ?_
      refine lv_if_eq (tgt := 114) hx hb dX10_stops_97 (by decide) (fun c_9 => ?_) (fun c_9 => ?_)
      · have b_10 : kr 0 0 r_8 := kr_eq_l b_8 (kr_c 0 0 rfl) c_9 rfl
        exact J_114 r_8 x76_l_6 _ (kr_w b_10 rfl) c76_p0 (lv_sub hl [0, 3, 4, 5] rfl)
      · have b_11 : kr 1 1 r_8 := kr_ne_lo b_8 c_9 rfl
        have b_12 : kr 0 23 x76_l_8 := p_8.2 c_9
        refine lv_aload hx hb dX10_stops_100 (lv_at hl 3 rfl) ?_
        refine va_get (D := D) (ci := 6) (v := .ref h_desk_course_world_shelf_cutter) (C := RX7) (T := TX7) (N := 8) hx hb hts u_X7 hown hE.1 hP 5 rfl rfl 3 (by decide) (hts _ w_172) (fun _ h9 => h9) rfl dX10_stops_102 ?_
        refine lv_iload hx hb dX10_stops_105 (lv_at hl 2 rfl) ?_
        refine va_iald hx hb hE.1 hP 7 1 rfl rfl (kr_in b_12 rfl) dX10_stops_107 ?_
        refine lv_topi (fun v_13 e_13 => ?_)
        refine lv_iload_n hx hb dX10_stops_108 rfl (lv_at hl 5 rfl) ?_
        refine lv_icmp_ne (tgt := 114) hx hb dX10_stops_109 (by decide) (fun c_14 => ?_) (fun c_14 => ?_)
        · exact J_114 r_8 x76_l_6 _ (kr_w b_11 rfl) c76_p0 (lv_sub hl [0, 3, 4, 5] rfl)
        · have b_15 : kr 0 4 v_13 := kr_eq_l (kr_all v_13) c76_p0 c_14 rfl
          refine lv_iconst (v := 0) hx hb dX10_stops_112 (by decide) ?_
          subst hQQ
          exact kk_pret_i hx hb hr hlocks trivial dX10_stops_113
  refine lv_aload_n hx hb dX10_stops_0 rfl (lv_at hl 0 rfl) ?_
  refine va_get (D := D) (ci := 9) (v := .ref h_desk) (C := RX10) (T := TX10) (N := 7) hx hb hts u_X10 hown hE.1 hP 0 rfl rfl 2 (by decide) (hts _ w_491) (fun _ h9 => h9) rfl dX10_stops_1 ?_
  refine va_get (D := D) (ci := 2) (v := .ref h_desk_course) (C := RX2) (T := TX2) (N := 3) hx hb hts u_X2 hown hE.1 hP 1 rfl rfl 0 (by decide) (hts _ w_474) (fun _ h9 => h9) rfl dX10_stops_4 ?_
  refine va_get (D := D) (ci := 0) (v := .ref h_desk_course_world) (C := RX0) (T := TX0) (N := 5) hx hb hts u_X0 hown hE.1 hP 2 rfl rfl 0 (by decide) (hts _ w_420) (fun _ h9 => h9) rfl dX10_stops_7 ?_
  refine lv_astore (lv' := [(5, .ref h_desk_course_world), (0, .ref h), (1, .int p0), (2, .int p1), (3, .int p2), (4, .int p3)]) hx hb dX10_stops_10 hl (by decide) rfl (fun ls hl => ?_)
  refine lv_iload_n hx hb dX10_stops_12 rfl (lv_at hl 3 rfl) ?_
  refine lv_iload_n hx hb dX10_stops_13 rfl (lv_at hl 4 rfl) ?_
  refine kk_pi (kk_runS (w1 := []) (As := [.int p1, .int p2]) (rest := []) hx hb hml hown hts hE (c_X4_keyBits l D cB cI cJ cD p1 p2 s.heap.size) m_X4_keyBits w_665 ⟨rfl, rfl, Nat.le_of_ble_eq_true rfl, Nat.le_of_ble_eq_true rfl⟩ (hP.sub [] rfl) (hD.sub [] (by decide +kernel) rfl) rfl hl.1 (Nat.le_of_ble_eq_true rfl) dX10_stops_14 ⟨Nat.le_of_ble_eq_true rfl, Nat.le_of_ble_eq_true rfl⟩) (fun r_16 p_16 => ?_)
  have g_17 : r_16 = kb p1 p2 := p_16
  refine lv_istore (lv' := [(6, .int r_16), (5, .ref h_desk_course_world), (0, .ref h), (1, .int p0), (2, .int p1), (3, .int p2), (4, .int p3)]) hx hb dX10_stops_17 hl (by decide) rfl (fun ls hl => ?_)
  refine lv_aload hx hb dX10_stops_19 (lv_at hl 1 rfl) ?_
  refine va_get (D := D) (ci := 8) (v := .ref h_desk_course_world_crew) (C := RX9) (T := TX9) (N := 8) hx hb hts u_X9 hown hE.1 hP 3 rfl rfl 1 (by decide) (hts _ w_390) (fun _ h9 => h9) rfl dX10_stops_21 ?_
  refine lv_iload_n hx hb dX10_stops_24 rfl (lv_at hl 3 rfl) ?_
  refine kk_pi (kk_runV (w1 := [kO h_desk_course_world_crew 1 [.int n_h_desk_course_world_crew_size, .ref h_desk_course_world_crew_state, .ref h_desk_course_world_crew_outcome, .ref h_desk_course_world_crew_deaths, .ref h_desk_course_world_crew_kind, .ref h_desk_course_world_crew_low, .ref h_desk_course_world_crew_high, .ref h_desk_course_world_crew_value, .ref h_desk_course_world_crew_need, .ref h_desk_course_world_crew_needKey, .ref h_desk_course_world_crew_line, .int n_h_desk_course_world_crew_lineLength]]) (As := [.int p0]) (rest := []) hx hb hml hown hts hE (c_X1_has l D cB cI cJ cD h_desk_course_world_crew h_desk_course_world_crew_state h_desk_course_world_crew_outcome h_desk_course_world_crew_deaths h_desk_course_world_crew_kind h_desk_course_world_crew_low h_desk_course_world_crew_high h_desk_course_world_crew_value h_desk_course_world_crew_need h_desk_course_world_crew_needKey h_desk_course_world_crew_line n_h_desk_course_world_crew_size n_h_desk_course_world_crew_lineLength p0 s.heap.size b_h_desk_course_world_crew_size b_h_desk_course_world_crew_lineLength) m_X1_has w_705 ⟨rfl, rfl, Nat.le_of_ble_eq_true rfl, Nat.le_of_ble_eq_true rfl⟩ (hP.sub [4] rfl) (hD.sub [4] (by decide +kernel) rfl) 0 1 rfl rfl rfl hl.1 (Nat.le_of_ble_eq_true rfl) dX10_stops_25 ⟨Nat.le_of_ble_eq_true rfl, Nat.le_of_ble_eq_true rfl⟩) (fun r_18 p_18 => ?_)
  have b_18 : kr 0 1 r_18 := p_18.1
  refine lv_if_eq (tgt := 48) hx hb dX10_stops_28 (by decide) (fun c_19 => ?_) (fun c_19 => ?_)
  · have b_20 : kr 0 0 r_18 := kr_eq_l b_18 (kr_c 0 0 rfl) c_19 rfl
    refine lv_iconst (v := (-1)) hx hb dX10_stops_48 (by decide) ?_
    subst hQQ
    exact kk_pret_i hx hb hr hlocks trivial dX10_stops_49
  · have b_21 : kr 1 1 r_18 := kr_ne_lo b_18 c_19 rfl
    have b_22 : kr 0 4 p0 := p_18.2 c_19
    refine lv_iload hx hb dX10_stops_31 (lv_at hl 0 rfl) ?_
    refine lv_iconst (v := (-1)) hx hb dX10_stops_33 (by decide) ?_
    refine lv_icmp_eq (tgt := 48) hx hb dX10_stops_34 (by decide) (fun c_23 => ?_) (fun c_23 => ?_)
    · have b_24 : kr (-1) (-1) r_16 := kr_eq_l (kr_all r_16) (kr_c (-1) (-1) rfl) c_23 rfl
      refine lv_iconst (v := (-1)) hx hb dX10_stops_48 (by decide) ?_
      subst hQQ
      exact kk_pret_i hx hb hr hlocks trivial dX10_stops_49
    · refine lv_iload hx hb dX10_stops_37 (lv_at hl 6 rfl) ?_
      refine lv_if_lt (tgt := 48) hx hb dX10_stops_39 (by decide) (fun c_25 => ?_) (fun c_25 => ?_)
      · have i_25 : p3.toInt < 0 := (ki_lt c_25)
        have b_26 : kr (-2147483648) (-1) p3 := kr_lt_l (kr_all p3) (kr_c 0 0 rfl) i_25 rfl
        refine lv_iconst (v := (-1)) hx hb dX10_stops_48 (by decide) ?_
        subst hQQ
        exact kk_pret_i hx hb hr hlocks trivial dX10_stops_49
      · have i_25 : 0 ≤ p3.toInt := (ki_nlt c_25)
        have b_27 : kr 0 2147483647 p3 := kr_le_r (kr_c 0 0 rfl) (kr_all p3) i_25 rfl
        refine lv_iload hx hb dX10_stops_42 (lv_at hl 6 rfl) ?_
        refine lv_iconst (v := 2) hx hb dX10_stops_44 (by decide) ?_
        refine lv_icmp_le (tgt := 50) hx hb dX10_stops_45 (by decide) (fun c_28 => ?_) (fun c_28 => ?_)
        · have i_28 : p3.toInt ≤ 2 := (ki_le c_28)
          have b_29 : kr 0 2 p3 := kr_le_l b_27 (kr_c 2 2 rfl) i_28 rfl
          refine lv_aload hx hb dX10_stops_50 (lv_at hl 1 rfl) ?_
          refine va_get (D := D) (ci := 8) (v := .ref h_desk_course_world_shelf) (C := RX9) (T := TX9) (N := 8) hx hb hts u_X9 hown hE.1 hP 3 rfl rfl 0 (by decide) (hts _ w_385) (fun _ h9 => h9) rfl dX10_stops_52 ?_
          refine lv_astore (lv' := [(7, .ref h_desk_course_world_shelf), (6, .int r_16), (5, .ref h_desk_course_world), (0, .ref h), (1, .int p0), (2, .int p1), (3, .int p2), (4, .int p3)]) hx hb dX10_stops_55 hl (by decide) rfl (fun ls hl => ?_)
          refine lv_aload hx hb dX10_stops_57 (lv_at hl 0 rfl) ?_
          refine lv_iload hx hb dX10_stops_59 (lv_at hl 1 rfl) ?_
          refine kk_pi (kk_runV (w1 := [kO h_desk_course_world_shelf 6 [.int n_h_desk_course_world_shelf_size, .ref h_desk_course_world_shelf_bits, .ref h_desk_course_world_shelf_value, .ref h_desk_course_world_shelf_cutter, .ref h_desk_course_world_shelf_putter, .ref h_desk_course_world_shelf_gaps, .ref h_desk_course_world_shelf_sharers, .ref h_desk_course_world_shelf_wholes], kI cI h_desk_course_world_shelf_bits 24 f_h_desk_course_world_shelf_bits]) (As := [.int r_16]) (rest := []) hx hb hml hown hts hE (c_X7_placeFrom l D cB cI cJ cD h_desk_course_world_shelf h_desk_course_world_shelf_bits h_desk_course_world_shelf_value h_desk_course_world_shelf_cutter h_desk_course_world_shelf_putter h_desk_course_world_shelf_gaps h_desk_course_world_shelf_sharers h_desk_course_world_shelf_wholes n_h_desk_course_world_shelf_size f_h_desk_course_world_shelf_bits r_16 s.heap.size b_h_desk_course_world_shelf_size) m_X7_placeFrom w_670 ⟨rfl, rfl, Nat.le_of_ble_eq_true rfl, Nat.le_of_ble_eq_true rfl⟩ (hP.sub [5, 6] rfl) (hD.sub [5, 6] (by decide +kernel) rfl) 0 6 rfl rfl rfl hl.1 (Nat.le_of_ble_eq_true rfl) dX10_stops_61 ⟨Nat.le_of_ble_eq_true rfl, Nat.le_of_ble_eq_true rfl⟩) (fun r_30 p_30 => ?_)
          have b_30 : kr 0 24 r_30 := p_30.1
          have g_31 : r_30.toInt ≤ n_h_desk_course_world_shelf_size.toInt := p_30.2
          refine lv_istore (lv' := [(8, .int r_30), (7, .ref h_desk_course_world_shelf), (6, .int r_16), (5, .ref h_desk_course_world), (0, .ref h), (1, .int p0), (2, .int p1), (3, .int p2), (4, .int p3)]) hx hb dX10_stops_64 hl (by decide) rfl (fun ls hl => ?_)
          refine lv_iload hx hb dX10_stops_66 (lv_at hl 8 rfl) ?_
          refine lv_if_ne (tgt := 75) hx hb dX10_stops_68 (by decide) (fun c_32 => ?_) (fun c_32 => ?_)
          · have b_33 : kr 1 2 p3 := kr_ne_lo b_29 c_32 rfl
            refine lv_iconst (v := 2) hx hb dX10_stops_75 (by decide) ?_
            exact J_76 r_30 r_16 2 _ b_30 b_22 (kr_w b_33 rfl) (kr_w (kr_c 2 2 rfl) rfl) (lv_sub hl [0, 1, 2, 5, 8] rfl)
          · have b_34 : kr 0 0 p3 := kr_eq_l b_29 (kr_c 0 0 rfl) c_32 rfl
            refine lv_iconst (v := 1) hx hb dX10_stops_71 (by decide) ?_
            refine lv_goto (tgt := 76) hx hb dX10_stops_72 (by decide) ?_
            exact J_76 r_30 r_16 1 _ b_30 b_22 (kr_w b_34 rfl) (kr_w (kr_c 1 1 rfl) rfl) (lv_sub hl [0, 1, 2, 5, 8] rfl)
        · have i_28 : 2 < p3.toInt := (ki_nle c_28)
          have b_35 : kr 3 2147483647 p3 := kr_lt_r (kr_c 2 2 rfl) b_27 i_28 rfl
          refine lv_iconst (v := (-1)) hx hb dX10_stops_48 (by decide) ?_
          subst hQQ
          exact kk_pret_i hx hb hr hlocks trivial dX10_stops_49
