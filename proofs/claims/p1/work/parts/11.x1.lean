set_option maxHeartbeats 4000000 in
set_option maxRecDepth 100000 in
theorem c_X2_append (l : Launch) (D : va_G) (cB cI cJ cD : ClassId) (h0 h1 : Nat) (z0 : Nat) (g0 : Nat → Int32) (p0 : Int32) (sz : Nat) : Met l yX2_append (kk_W yX2_append cX2_append 3 none) ({ frames := 0, cells := 0, slots := 0, locals := 0 }) (va_Pc [.ref h0, .int p0] (kk_pre D cB cI cJ cD [kO h0 2 [.ref z0, .ref h1, .int 0], kI cB h1 700 g0] sz)) (kk_Qv D (fun (u : (Nat → Nat) × (Nat → Nat → Int32) × (Nat → Nat → Int64) × (Nat → Int32)) => True) (fun u => [kO h0 2 [.ref z0, .ref h1, .int 4], kI cB h1 700 (u.2.1 0)]) (va_A [kO h0 2 [.ref z0, .ref h1, .int 0], kI cB h1 700 g0] sz)) 0 0 (va_A [kO h0 2 [.ref z0, .ref h1, .int 0], kI cB h1 700 g0] sz) := by
  refine kk_start (y := yX2_append) (maxL := 3) (av := [.ref h0, .int p0]) (Qc := fun A => kk_Qv D (fun (u : (Nat → Nat) × (Nat → Nat → Int32) × (Nat → Nat → Int64) × (Nat → Int32)) => True) (fun u => [kO h0 2 [.ref z0, .ref h1, .int 4], kI cB h1 700 (u.2.1 0)]) A) (by decide) (Nat.le_of_ble_eq_true rfl) ?_
  intro p e s m below meth c ls A hx hb hr hml hown hts hE hlocks hin hsz hP hD hA hS hl
  have hown : s.vm.findClass RX2 = some m.cls := hown
  have hl : lv_has ls 3 [(0, .ref h0), (1, .int p0)] := hl
  refine lv_bipush (v := 24) hx hb dX2_append_0 (by decide) ?_
  refine lv_istore_n (lv' := [(2, .int 24), (0, .ref h0), (1, .int p0)]) hx hb dX2_append_2 rfl hl (by decide) rfl (fun ls hl => ?_)
  refine lv_iload_n hx hb dX2_append_3 rfl (lv_at hl 0 rfl) ?_
  refine lv_if_lt (tgt := 46) hx hb dX2_append_4 (by decide) (fun c_1 => absurd c_1 (by decide)) (fun _ => ?_)
  refine lv_aload_n hx hb dX2_append_7 rfl (lv_at hl 1 rfl) ?_
  refine va_get (D := D) (ci := 2) (v := .int 0) (C := RX2) (T := TX2) (N := 3) hx hb hts u_X2 hown hE.1 hP 0 rfl rfl 2 (by decide) (hts _ w_478) (fun _ h9 => h9) rfl dX2_append_8 ?_
  refine lv_sipush (v := 700) hx hb dX2_append_11 (by decide) ?_
  refine lv_icmp_ge (tgt := 46) hx hb dX2_append_14 (by decide) (fun c_2 => absurd c_2 (by decide)) (fun _ => ?_)
  refine lv_aload_n hx hb dX2_append_17 rfl (lv_at hl 1 rfl) ?_
  refine va_get (D := D) (ci := 2) (v := .ref h1) (C := RX2) (T := TX2) (N := 3) hx hb hts u_X2 hown hE.1 hP 0 rfl rfl 1 (by decide) (hts _ w_475) (fun _ h9 => h9) rfl dX2_append_18 ?_
  refine lv_aload_n hx hb dX2_append_21 rfl (lv_at hl 1 rfl) ?_
  refine va_get (D := D) (ci := 2) (v := .int 0) (C := RX2) (T := TX2) (N := 3) hx hb hts u_X2 hown hE.1 hP 0 rfl rfl 2 (by decide) (hts _ w_478) (fun _ h9 => h9) rfl dX2_append_22 ?_
  refine lv_iload_n hx hb dX2_append_25 rfl (lv_at hl 2 rfl) ?_
  refine lv_iload_n hx hb dX2_append_26 rfl (lv_at hl 0 rfl) ?_
  refine lv_ishr hx hb dX2_append_27 ?_
  refine lv_topi (fun v_3 e_3 => ?_)
  refine lv_i2b hx hb dX2_append_28 rfl ?_
  refine lv_topi (fun v_4 e_4 => ?_)
  refine va_bast hx hb hE.1 hP hD hS 1 0 rfl rfl (kk_ix _ _ (by decide)) dX2_append_29 (fun H locs hP hD hS => ?_)
  have hP : va_P D vwCl [kO h0 2 [.ref z0, .ref h1, .int 0], kI cB h1 700 (upd g0 0 (vp_nar .byte v_4))] H := hP
  have hD : va_D A [kO h0 2 [.ref z0, .ref h1, .int 0], kI cB h1 700 (upd g0 0 (vp_nar .byte v_4))] := hD
  refine lv_aload_n hx hb dX2_append_30 rfl (lv_at hl 1 rfl) ?_
  refine lv_dup hx hb dX2_append_31 rfl ?_
  refine va_get (D := D) (ci := 2) (v := .int 0) (C := RX2) (T := TX2) (N := 3) hx hb hts u_X2 hown hE.1 hP 0 rfl rfl 2 (by decide) (hts _ w_478) (fun _ h9 => h9) rfl dX2_append_32 ?_
  refine lv_iconst (v := 1) hx hb dX2_append_35 (by decide) ?_
  refine lv_iadd hx hb dX2_append_36 ?_
  refine lv_topi (fun v_5 e_5 => ?_)
  obtain rfl : v_5 = 1 := e_5.trans (by decide)
  refine va_put (D := D) (ci := 2) (v := .int 1) (ty := .int) (C := RX2) (T := TX2) (N := 3) hx hb hts u_X2 tyX2 tyX2_ok nmX2 hown hE.1 hP hD hS 0 rfl rfl 2 (by decide) (hts _ w_478) (fun _ h9 => h9) rfl (by decide +kernel) rfl rfl (Nat.le_of_ble_eq_true rfl) dX2_append_37 (fun H locs hP hD hS => ?_)
  have hP : va_P D vwCl [kO h0 2 [.ref z0, .ref h1, .int 1], kI cB h1 700 (upd g0 0 (vp_nar .byte v_4))] H := hP
  have hD : va_D A [kO h0 2 [.ref z0, .ref h1, .int 1], kI cB h1 700 (upd g0 0 (vp_nar .byte v_4))] := hD
  refine lv_iinc (v := 16) (lv' := [(2, .int 16), (0, .ref h0), (1, .int p0)]) hx hb dX2_append_40 hl (k := 0) rfl (by decide) (by decide) rfl (fun ls hl => ?_)
  refine lv_goto (tgt := 3) hx hb dX2_append_43 (by decide) ?_
  refine lv_iload_n hx hb dX2_append_3 rfl (lv_at hl 0 rfl) ?_
  refine lv_if_lt (tgt := 46) hx hb dX2_append_4 (by decide) (fun c_6 => absurd c_6 (by decide)) (fun _ => ?_)
  refine lv_aload_n hx hb dX2_append_7 rfl (lv_at hl 1 rfl) ?_
  refine va_get (D := D) (ci := 2) (v := .int 1) (C := RX2) (T := TX2) (N := 3) hx hb hts u_X2 hown hE.1 hP 0 rfl rfl 2 (by decide) (hts _ w_478) (fun _ h9 => h9) rfl dX2_append_8 ?_
  refine lv_sipush (v := 700) hx hb dX2_append_11 (by decide) ?_
  refine lv_icmp_ge (tgt := 46) hx hb dX2_append_14 (by decide) (fun c_7 => absurd c_7 (by decide)) (fun _ => ?_)
  refine lv_aload_n hx hb dX2_append_17 rfl (lv_at hl 1 rfl) ?_
  refine va_get (D := D) (ci := 2) (v := .ref h1) (C := RX2) (T := TX2) (N := 3) hx hb hts u_X2 hown hE.1 hP 0 rfl rfl 1 (by decide) (hts _ w_475) (fun _ h9 => h9) rfl dX2_append_18 ?_
  refine lv_aload_n hx hb dX2_append_21 rfl (lv_at hl 1 rfl) ?_
  refine va_get (D := D) (ci := 2) (v := .int 1) (C := RX2) (T := TX2) (N := 3) hx hb hts u_X2 hown hE.1 hP 0 rfl rfl 2 (by decide) (hts _ w_478) (fun _ h9 => h9) rfl dX2_append_22 ?_
  refine lv_iload_n hx hb dX2_append_25 rfl (lv_at hl 2 rfl) ?_
  refine lv_iload_n hx hb dX2_append_26 rfl (lv_at hl 0 rfl) ?_
  refine lv_ishr hx hb dX2_append_27 ?_
  refine lv_topi (fun v_8 e_8 => ?_)
  refine lv_i2b hx hb dX2_append_28 rfl ?_
  refine lv_topi (fun v_9 e_9 => ?_)
  refine va_bast hx hb hE.1 hP hD hS 1 0 rfl rfl (kk_ix _ _ (by decide)) dX2_append_29 (fun H locs hP hD hS => ?_)
  obtain ⟨f_10, ef_10⟩ : ∃ z, z = (upd (upd g0 0 (vp_nar .byte v_4)) 1 (vp_nar .byte v_9)) := ⟨_, rfl⟩
  have hP : va_P D vwCl [kO h0 2 [.ref z0, .ref h1, .int 1], kI cB h1 700 f_10] H := by rw [ef_10]; exact hP
  have hD : va_D A [kO h0 2 [.ref z0, .ref h1, .int 1], kI cB h1 700 f_10] := by rw [ef_10]; exact hD
  refine lv_aload_n hx hb dX2_append_30 rfl (lv_at hl 1 rfl) ?_
  refine lv_dup hx hb dX2_append_31 rfl ?_
  refine va_get (D := D) (ci := 2) (v := .int 1) (C := RX2) (T := TX2) (N := 3) hx hb hts u_X2 hown hE.1 hP 0 rfl rfl 2 (by decide) (hts _ w_478) (fun _ h9 => h9) rfl dX2_append_32 ?_
  refine lv_iconst (v := 1) hx hb dX2_append_35 (by decide) ?_
  refine lv_iadd hx hb dX2_append_36 ?_
  refine lv_topi (fun v_11 e_11 => ?_)
  obtain rfl : v_11 = 2 := e_11.trans (by decide)
  refine va_put (D := D) (ci := 2) (v := .int 2) (ty := .int) (C := RX2) (T := TX2) (N := 3) hx hb hts u_X2 tyX2 tyX2_ok nmX2 hown hE.1 hP hD hS 0 rfl rfl 2 (by decide) (hts _ w_478) (fun _ h9 => h9) rfl (by decide +kernel) rfl rfl (Nat.le_of_ble_eq_true rfl) dX2_append_37 (fun H locs hP hD hS => ?_)
  have hP : va_P D vwCl [kO h0 2 [.ref z0, .ref h1, .int 2], kI cB h1 700 f_10] H := hP
  have hD : va_D A [kO h0 2 [.ref z0, .ref h1, .int 2], kI cB h1 700 f_10] := hD
  refine lv_iinc (v := 8) (lv' := [(2, .int 8), (0, .ref h0), (1, .int p0)]) hx hb dX2_append_40 hl (k := 0) rfl (by decide) (by decide) rfl (fun ls hl => ?_)
  refine lv_goto (tgt := 3) hx hb dX2_append_43 (by decide) ?_
  refine lv_iload_n hx hb dX2_append_3 rfl (lv_at hl 0 rfl) ?_
  refine lv_if_lt (tgt := 46) hx hb dX2_append_4 (by decide) (fun c_12 => absurd c_12 (by decide)) (fun _ => ?_)
  refine lv_aload_n hx hb dX2_append_7 rfl (lv_at hl 1 rfl) ?_
  refine va_get (D := D) (ci := 2) (v := .int 2) (C := RX2) (T := TX2) (N := 3) hx hb hts u_X2 hown hE.1 hP 0 rfl rfl 2 (by decide) (hts _ w_478) (fun _ h9 => h9) rfl dX2_append_8 ?_
  refine lv_sipush (v := 700) hx hb dX2_append_11 (by decide) ?_
  refine lv_icmp_ge (tgt := 46) hx hb dX2_append_14 (by decide) (fun c_13 => absurd c_13 (by decide)) (fun _ => ?_)
  refine lv_aload_n hx hb dX2_append_17 rfl (lv_at hl 1 rfl) ?_
  refine va_get (D := D) (ci := 2) (v := .ref h1) (C := RX2) (T := TX2) (N := 3) hx hb hts u_X2 hown hE.1 hP 0 rfl rfl 1 (by decide) (hts _ w_475) (fun _ h9 => h9) rfl dX2_append_18 ?_
  refine lv_aload_n hx hb dX2_append_21 rfl (lv_at hl 1 rfl) ?_
  refine va_get (D := D) (ci := 2) (v := .int 2) (C := RX2) (T := TX2) (N := 3) hx hb hts u_X2 hown hE.1 hP 0 rfl rfl 2 (by decide) (hts _ w_478) (fun _ h9 => h9) rfl dX2_append_22 ?_
  refine lv_iload_n hx hb dX2_append_25 rfl (lv_at hl 2 rfl) ?_
  refine lv_iload_n hx hb dX2_append_26 rfl (lv_at hl 0 rfl) ?_
  refine lv_ishr hx hb dX2_append_27 ?_
  refine lv_topi (fun v_14 e_14 => ?_)
  refine lv_i2b hx hb dX2_append_28 rfl ?_
  refine lv_topi (fun v_15 e_15 => ?_)
  refine va_bast hx hb hE.1 hP hD hS 1 0 rfl rfl (kk_ix _ _ (by decide)) dX2_append_29 (fun H locs hP hD hS => ?_)
  obtain ⟨f_16, ef_16⟩ : ∃ z, z = (upd f_10 2 (vp_nar .byte v_15)) := ⟨_, rfl⟩
  have hP : va_P D vwCl [kO h0 2 [.ref z0, .ref h1, .int 2], kI cB h1 700 f_16] H := by rw [ef_16]; exact hP
  have hD : va_D A [kO h0 2 [.ref z0, .ref h1, .int 2], kI cB h1 700 f_16] := by rw [ef_16]; exact hD
  refine lv_aload_n hx hb dX2_append_30 rfl (lv_at hl 1 rfl) ?_
  refine lv_dup hx hb dX2_append_31 rfl ?_
  refine va_get (D := D) (ci := 2) (v := .int 2) (C := RX2) (T := TX2) (N := 3) hx hb hts u_X2 hown hE.1 hP 0 rfl rfl 2 (by decide) (hts _ w_478) (fun _ h9 => h9) rfl dX2_append_32 ?_
  refine lv_iconst (v := 1) hx hb dX2_append_35 (by decide) ?_
  refine lv_iadd hx hb dX2_append_36 ?_
  refine lv_topi (fun v_17 e_17 => ?_)
  obtain rfl : v_17 = 3 := e_17.trans (by decide)
  refine va_put (D := D) (ci := 2) (v := .int 3) (ty := .int) (C := RX2) (T := TX2) (N := 3) hx hb hts u_X2 tyX2 tyX2_ok nmX2 hown hE.1 hP hD hS 0 rfl rfl 2 (by decide) (hts _ w_478) (fun _ h9 => h9) rfl (by decide +kernel) rfl rfl (Nat.le_of_ble_eq_true rfl) dX2_append_37 (fun H locs hP hD hS => ?_)
  have hP : va_P D vwCl [kO h0 2 [.ref z0, .ref h1, .int 3], kI cB h1 700 f_16] H := hP
  have hD : va_D A [kO h0 2 [.ref z0, .ref h1, .int 3], kI cB h1 700 f_16] := hD
  refine lv_iinc (v := 0) (lv' := [(2, .int 0), (0, .ref h0), (1, .int p0)]) hx hb dX2_append_40 hl (k := 0) rfl (by decide) (by decide) rfl (fun ls hl => ?_)
  refine lv_goto (tgt := 3) hx hb dX2_append_43 (by decide) ?_
  refine lv_iload_n hx hb dX2_append_3 rfl (lv_at hl 0 rfl) ?_
  refine lv_if_lt (tgt := 46) hx hb dX2_append_4 (by decide) (fun c_18 => absurd c_18 (by decide)) (fun _ => ?_)
  refine lv_aload_n hx hb dX2_append_7 rfl (lv_at hl 1 rfl) ?_
  refine va_get (D := D) (ci := 2) (v := .int 3) (C := RX2) (T := TX2) (N := 3) hx hb hts u_X2 hown hE.1 hP 0 rfl rfl 2 (by decide) (hts _ w_478) (fun _ h9 => h9) rfl dX2_append_8 ?_
  refine lv_sipush (v := 700) hx hb dX2_append_11 (by decide) ?_
  refine lv_icmp_ge (tgt := 46) hx hb dX2_append_14 (by decide) (fun c_19 => absurd c_19 (by decide)) (fun _ => ?_)
  refine lv_aload_n hx hb dX2_append_17 rfl (lv_at hl 1 rfl) ?_
  refine va_get (D := D) (ci := 2) (v := .ref h1) (C := RX2) (T := TX2) (N := 3) hx hb hts u_X2 hown hE.1 hP 0 rfl rfl 1 (by decide) (hts _ w_475) (fun _ h9 => h9) rfl dX2_append_18 ?_
  refine lv_aload_n hx hb dX2_append_21 rfl (lv_at hl 1 rfl) ?_
  refine va_get (D := D) (ci := 2) (v := .int 3) (C := RX2) (T := TX2) (N := 3) hx hb hts u_X2 hown hE.1 hP 0 rfl rfl 2 (by decide) (hts _ w_478) (fun _ h9 => h9) rfl dX2_append_22 ?_
  refine lv_iload_n hx hb dX2_append_25 rfl (lv_at hl 2 rfl) ?_
  refine lv_iload_n hx hb dX2_append_26 rfl (lv_at hl 0 rfl) ?_
  refine lv_ishr hx hb dX2_append_27 ?_
  refine lv_topi (fun v_20 e_20 => ?_)
  refine lv_i2b hx hb dX2_append_28 rfl ?_
  refine lv_topi (fun v_21 e_21 => ?_)
  refine va_bast hx hb hE.1 hP hD hS 1 0 rfl rfl (kk_ix _ _ (by decide)) dX2_append_29 (fun H locs hP hD hS => ?_)
  obtain ⟨f_22, ef_22⟩ : ∃ z, z = (upd f_16 3 (vp_nar .byte v_21)) := ⟨_, rfl⟩
  have hP : va_P D vwCl [kO h0 2 [.ref z0, .ref h1, .int 3], kI cB h1 700 f_22] H := by rw [ef_22]; exact hP
  have hD : va_D A [kO h0 2 [.ref z0, .ref h1, .int 3], kI cB h1 700 f_22] := by rw [ef_22]; exact hD
  refine lv_aload_n hx hb dX2_append_30 rfl (lv_at hl 1 rfl) ?_
  refine lv_dup hx hb dX2_append_31 rfl ?_
  refine va_get (D := D) (ci := 2) (v := .int 3) (C := RX2) (T := TX2) (N := 3) hx hb hts u_X2 hown hE.1 hP 0 rfl rfl 2 (by decide) (hts _ w_478) (fun _ h9 => h9) rfl dX2_append_32 ?_
  refine lv_iconst (v := 1) hx hb dX2_append_35 (by decide) ?_
  refine lv_iadd hx hb dX2_append_36 ?_
  refine lv_topi (fun v_23 e_23 => ?_)
  obtain rfl : v_23 = 4 := e_23.trans (by decide)
  refine va_put (D := D) (ci := 2) (v := .int 4) (ty := .int) (C := RX2) (T := TX2) (N := 3) hx hb hts u_X2 tyX2 tyX2_ok nmX2 hown hE.1 hP hD hS 0 rfl rfl 2 (by decide) (hts _ w_478) (fun _ h9 => h9) rfl (by decide +kernel) rfl rfl (Nat.le_of_ble_eq_true rfl) dX2_append_37 (fun H locs hP hD hS => ?_)
  have hP : va_P D vwCl [kO h0 2 [.ref z0, .ref h1, .int 4], kI cB h1 700 f_22] H := hP
  have hD : va_D A [kO h0 2 [.ref z0, .ref h1, .int 4], kI cB h1 700 f_22] := hD
  refine lv_iinc (v := (-8)) (lv' := [(2, .int (-8)), (0, .ref h0), (1, .int p0)]) hx hb dX2_append_40 hl (k := 0) rfl (by decide) (by decide) rfl (fun ls hl => ?_)
  refine lv_goto (tgt := 3) hx hb dX2_append_43 (by decide) ?_
  refine lv_iload_n hx hb dX2_append_3 rfl (lv_at hl 0 rfl) ?_
  refine lv_if_lt (tgt := 46) hx hb dX2_append_4 (by decide) (fun _ => ?_) (fun c_24 => absurd c_24 (by decide))
  exact kk_ret_v ((fun i => [].getD i 0), (fun i => [f_22].getD i (fun _ => 0)), (fun i => [].getD i (fun _ => 0)), (fun i => [].getD i 0)) hx hb hr hlocks trivial (hP.sub [0, 1] rfl) (hD.sub [0, 1] (by decide +kernel) rfl) hS dX2_append_46 (Nat.le_of_ble_eq_true rfl) (Nat.le_of_ble_eq_true rfl)
set_option maxHeartbeats 4000000 in
set_option maxRecDepth 100000 in
theorem c_X2_append_2 (l : Launch) (D : va_G) (cB cI cJ cD : ClassId) (h0 h1 : Nat) (z0 : Nat) (g0 : Nat → Int32) (p0 : Int32) (sz : Nat) : Met l yX2_append (kk_W yX2_append cX2_append 3 none) ({ frames := 0, cells := 0, slots := 0, locals := 0 }) (va_Pc [.ref h0, .int p0] (kk_pre D cB cI cJ cD [kO h0 2 [.ref z0, .ref h1, .int 4], kI cB h1 700 g0] sz)) (kk_Qv D (fun (u : (Nat → Nat) × (Nat → Nat → Int32) × (Nat → Nat → Int64) × (Nat → Int32)) => True) (fun u => [kO h0 2 [.ref z0, .ref h1, .int 8], kI cB h1 700 (u.2.1 0)]) (va_A [kO h0 2 [.ref z0, .ref h1, .int 4], kI cB h1 700 g0] sz)) 0 0 (va_A [kO h0 2 [.ref z0, .ref h1, .int 4], kI cB h1 700 g0] sz) := by
  refine kk_start (y := yX2_append) (maxL := 3) (av := [.ref h0, .int p0]) (Qc := fun A => kk_Qv D (fun (u : (Nat → Nat) × (Nat → Nat → Int32) × (Nat → Nat → Int64) × (Nat → Int32)) => True) (fun u => [kO h0 2 [.ref z0, .ref h1, .int 8], kI cB h1 700 (u.2.1 0)]) A) (by decide) (Nat.le_of_ble_eq_true rfl) ?_
  intro p e s m below meth c ls A hx hb hr hml hown hts hE hlocks hin hsz hP hD hA hS hl
  have hown : s.vm.findClass RX2 = some m.cls := hown
  have hl : lv_has ls 3 [(0, .ref h0), (1, .int p0)] := hl
  refine lv_bipush (v := 24) hx hb dX2_append_0 (by decide) ?_
  refine lv_istore_n (lv' := [(2, .int 24), (0, .ref h0), (1, .int p0)]) hx hb dX2_append_2 rfl hl (by decide) rfl (fun ls hl => ?_)
  refine lv_iload_n hx hb dX2_append_3 rfl (lv_at hl 0 rfl) ?_
  refine lv_if_lt (tgt := 46) hx hb dX2_append_4 (by decide) (fun c_1 => absurd c_1 (by decide)) (fun _ => ?_)
  refine lv_aload_n hx hb dX2_append_7 rfl (lv_at hl 1 rfl) ?_
  refine va_get (D := D) (ci := 2) (v := .int 4) (C := RX2) (T := TX2) (N := 3) hx hb hts u_X2 hown hE.1 hP 0 rfl rfl 2 (by decide) (hts _ w_478) (fun _ h9 => h9) rfl dX2_append_8 ?_
  refine lv_sipush (v := 700) hx hb dX2_append_11 (by decide) ?_
  refine lv_icmp_ge (tgt := 46) hx hb dX2_append_14 (by decide) (fun c_2 => absurd c_2 (by decide)) (fun _ => ?_)
  refine lv_aload_n hx hb dX2_append_17 rfl (lv_at hl 1 rfl) ?_
  refine va_get (D := D) (ci := 2) (v := .ref h1) (C := RX2) (T := TX2) (N := 3) hx hb hts u_X2 hown hE.1 hP 0 rfl rfl 1 (by decide) (hts _ w_475) (fun _ h9 => h9) rfl dX2_append_18 ?_
  refine lv_aload_n hx hb dX2_append_21 rfl (lv_at hl 1 rfl) ?_
  refine va_get (D := D) (ci := 2) (v := .int 4) (C := RX2) (T := TX2) (N := 3) hx hb hts u_X2 hown hE.1 hP 0 rfl rfl 2 (by decide) (hts _ w_478) (fun _ h9 => h9) rfl dX2_append_22 ?_
  refine lv_iload_n hx hb dX2_append_25 rfl (lv_at hl 2 rfl) ?_
  refine lv_iload_n hx hb dX2_append_26 rfl (lv_at hl 0 rfl) ?_
  refine lv_ishr hx hb dX2_append_27 ?_
  refine lv_topi (fun v_3 e_3 => ?_)
  refine lv_i2b hx hb dX2_append_28 rfl ?_
  refine lv_topi (fun v_4 e_4 => ?_)
  refine va_bast hx hb hE.1 hP hD hS 1 0 rfl rfl (kk_ix _ _ (by decide)) dX2_append_29 (fun H locs hP hD hS => ?_)
  have hP : va_P D vwCl [kO h0 2 [.ref z0, .ref h1, .int 4], kI cB h1 700 (upd g0 4 (vp_nar .byte v_4))] H := hP
  have hD : va_D A [kO h0 2 [.ref z0, .ref h1, .int 4], kI cB h1 700 (upd g0 4 (vp_nar .byte v_4))] := hD
  refine lv_aload_n hx hb dX2_append_30 rfl (lv_at hl 1 rfl) ?_
  refine lv_dup hx hb dX2_append_31 rfl ?_
  refine va_get (D := D) (ci := 2) (v := .int 4) (C := RX2) (T := TX2) (N := 3) hx hb hts u_X2 hown hE.1 hP 0 rfl rfl 2 (by decide) (hts _ w_478) (fun _ h9 => h9) rfl dX2_append_32 ?_
  refine lv_iconst (v := 1) hx hb dX2_append_35 (by decide) ?_
  refine lv_iadd hx hb dX2_append_36 ?_
  refine lv_topi (fun v_5 e_5 => ?_)
  obtain rfl : v_5 = 5 := e_5.trans (by decide)
  refine va_put (D := D) (ci := 2) (v := .int 5) (ty := .int) (C := RX2) (T := TX2) (N := 3) hx hb hts u_X2 tyX2 tyX2_ok nmX2 hown hE.1 hP hD hS 0 rfl rfl 2 (by decide) (hts _ w_478) (fun _ h9 => h9) rfl (by decide +kernel) rfl rfl (Nat.le_of_ble_eq_true rfl) dX2_append_37 (fun H locs hP hD hS => ?_)
  have hP : va_P D vwCl [kO h0 2 [.ref z0, .ref h1, .int 5], kI cB h1 700 (upd g0 4 (vp_nar .byte v_4))] H := hP
  have hD : va_D A [kO h0 2 [.ref z0, .ref h1, .int 5], kI cB h1 700 (upd g0 4 (vp_nar .byte v_4))] := hD
  refine lv_iinc (v := 16) (lv' := [(2, .int 16), (0, .ref h0), (1, .int p0)]) hx hb dX2_append_40 hl (k := 0) rfl (by decide) (by decide) rfl (fun ls hl => ?_)
  refine lv_goto (tgt := 3) hx hb dX2_append_43 (by decide) ?_
  refine lv_iload_n hx hb dX2_append_3 rfl (lv_at hl 0 rfl) ?_
  refine lv_if_lt (tgt := 46) hx hb dX2_append_4 (by decide) (fun c_6 => absurd c_6 (by decide)) (fun _ => ?_)
  refine lv_aload_n hx hb dX2_append_7 rfl (lv_at hl 1 rfl) ?_
  refine va_get (D := D) (ci := 2) (v := .int 5) (C := RX2) (T := TX2) (N := 3) hx hb hts u_X2 hown hE.1 hP 0 rfl rfl 2 (by decide) (hts _ w_478) (fun _ h9 => h9) rfl dX2_append_8 ?_
  refine lv_sipush (v := 700) hx hb dX2_append_11 (by decide) ?_
  refine lv_icmp_ge (tgt := 46) hx hb dX2_append_14 (by decide) (fun c_7 => absurd c_7 (by decide)) (fun _ => ?_)
  refine lv_aload_n hx hb dX2_append_17 rfl (lv_at hl 1 rfl) ?_
  refine va_get (D := D) (ci := 2) (v := .ref h1) (C := RX2) (T := TX2) (N := 3) hx hb hts u_X2 hown hE.1 hP 0 rfl rfl 1 (by decide) (hts _ w_475) (fun _ h9 => h9) rfl dX2_append_18 ?_
  refine lv_aload_n hx hb dX2_append_21 rfl (lv_at hl 1 rfl) ?_
  refine va_get (D := D) (ci := 2) (v := .int 5) (C := RX2) (T := TX2) (N := 3) hx hb hts u_X2 hown hE.1 hP 0 rfl rfl 2 (by decide) (hts _ w_478) (fun _ h9 => h9) rfl dX2_append_22 ?_
  refine lv_iload_n hx hb dX2_append_25 rfl (lv_at hl 2 rfl) ?_
  refine lv_iload_n hx hb dX2_append_26 rfl (lv_at hl 0 rfl) ?_
  refine lv_ishr hx hb dX2_append_27 ?_
  refine lv_topi (fun v_8 e_8 => ?_)
  refine lv_i2b hx hb dX2_append_28 rfl ?_
  refine lv_topi (fun v_9 e_9 => ?_)
  refine va_bast hx hb hE.1 hP hD hS 1 0 rfl rfl (kk_ix _ _ (by decide)) dX2_append_29 (fun H locs hP hD hS => ?_)
  obtain ⟨f_10, ef_10⟩ : ∃ z, z = (upd (upd g0 4 (vp_nar .byte v_4)) 5 (vp_nar .byte v_9)) := ⟨_, rfl⟩
  have hP : va_P D vwCl [kO h0 2 [.ref z0, .ref h1, .int 5], kI cB h1 700 f_10] H := by rw [ef_10]; exact hP
  have hD : va_D A [kO h0 2 [.ref z0, .ref h1, .int 5], kI cB h1 700 f_10] := by rw [ef_10]; exact hD
  refine lv_aload_n hx hb dX2_append_30 rfl (lv_at hl 1 rfl) ?_
  refine lv_dup hx hb dX2_append_31 rfl ?_
  refine va_get (D := D) (ci := 2) (v := .int 5) (C := RX2) (T := TX2) (N := 3) hx hb hts u_X2 hown hE.1 hP 0 rfl rfl 2 (by decide) (hts _ w_478) (fun _ h9 => h9) rfl dX2_append_32 ?_
  refine lv_iconst (v := 1) hx hb dX2_append_35 (by decide) ?_
  refine lv_iadd hx hb dX2_append_36 ?_
  refine lv_topi (fun v_11 e_11 => ?_)
  obtain rfl : v_11 = 6 := e_11.trans (by decide)
  refine va_put (D := D) (ci := 2) (v := .int 6) (ty := .int) (C := RX2) (T := TX2) (N := 3) hx hb hts u_X2 tyX2 tyX2_ok nmX2 hown hE.1 hP hD hS 0 rfl rfl 2 (by decide) (hts _ w_478) (fun _ h9 => h9) rfl (by decide +kernel) rfl rfl (Nat.le_of_ble_eq_true rfl) dX2_append_37 (fun H locs hP hD hS => ?_)
  have hP : va_P D vwCl [kO h0 2 [.ref z0, .ref h1, .int 6], kI cB h1 700 f_10] H := hP
  have hD : va_D A [kO h0 2 [.ref z0, .ref h1, .int 6], kI cB h1 700 f_10] := hD
  refine lv_iinc (v := 8) (lv' := [(2, .int 8), (0, .ref h0), (1, .int p0)]) hx hb dX2_append_40 hl (k := 0) rfl (by decide) (by decide) rfl (fun ls hl => ?_)
  refine lv_goto (tgt := 3) hx hb dX2_append_43 (by decide) ?_
  refine lv_iload_n hx hb dX2_append_3 rfl (lv_at hl 0 rfl) ?_
  refine lv_if_lt (tgt := 46) hx hb dX2_append_4 (by decide) (fun c_12 => absurd c_12 (by decide)) (fun _ => ?_)
  refine lv_aload_n hx hb dX2_append_7 rfl (lv_at hl 1 rfl) ?_
  refine va_get (D := D) (ci := 2) (v := .int 6) (C := RX2) (T := TX2) (N := 3) hx hb hts u_X2 hown hE.1 hP 0 rfl rfl 2 (by decide) (hts _ w_478) (fun _ h9 => h9) rfl dX2_append_8 ?_
  refine lv_sipush (v := 700) hx hb dX2_append_11 (by decide) ?_
  refine lv_icmp_ge (tgt := 46) hx hb dX2_append_14 (by decide) (fun c_13 => absurd c_13 (by decide)) (fun _ => ?_)
  refine lv_aload_n hx hb dX2_append_17 rfl (lv_at hl 1 rfl) ?_
  refine va_get (D := D) (ci := 2) (v := .ref h1) (C := RX2) (T := TX2) (N := 3) hx hb hts u_X2 hown hE.1 hP 0 rfl rfl 1 (by decide) (hts _ w_475) (fun _ h9 => h9) rfl dX2_append_18 ?_
  refine lv_aload_n hx hb dX2_append_21 rfl (lv_at hl 1 rfl) ?_
  refine va_get (D := D) (ci := 2) (v := .int 6) (C := RX2) (T := TX2) (N := 3) hx hb hts u_X2 hown hE.1 hP 0 rfl rfl 2 (by decide) (hts _ w_478) (fun _ h9 => h9) rfl dX2_append_22 ?_
  refine lv_iload_n hx hb dX2_append_25 rfl (lv_at hl 2 rfl) ?_
  refine lv_iload_n hx hb dX2_append_26 rfl (lv_at hl 0 rfl) ?_
  refine lv_ishr hx hb dX2_append_27 ?_
  refine lv_topi (fun v_14 e_14 => ?_)
  refine lv_i2b hx hb dX2_append_28 rfl ?_
  refine lv_topi (fun v_15 e_15 => ?_)
  refine va_bast hx hb hE.1 hP hD hS 1 0 rfl rfl (kk_ix _ _ (by decide)) dX2_append_29 (fun H locs hP hD hS => ?_)
  obtain ⟨f_16, ef_16⟩ : ∃ z, z = (upd f_10 6 (vp_nar .byte v_15)) := ⟨_, rfl⟩
  have hP : va_P D vwCl [kO h0 2 [.ref z0, .ref h1, .int 6], kI cB h1 700 f_16] H := by rw [ef_16]; exact hP
  have hD : va_D A [kO h0 2 [.ref z0, .ref h1, .int 6], kI cB h1 700 f_16] := by rw [ef_16]; exact hD
  refine lv_aload_n hx hb dX2_append_30 rfl (lv_at hl 1 rfl) ?_
  refine lv_dup hx hb dX2_append_31 rfl ?_
  refine va_get (D := D) (ci := 2) (v := .int 6) (C := RX2) (T := TX2) (N := 3) hx hb hts u_X2 hown hE.1 hP 0 rfl rfl 2 (by decide) (hts _ w_478) (fun _ h9 => h9) rfl dX2_append_32 ?_
  refine lv_iconst (v := 1) hx hb dX2_append_35 (by decide) ?_
  refine lv_iadd hx hb dX2_append_36 ?_
  refine lv_topi (fun v_17 e_17 => ?_)
  obtain rfl : v_17 = 7 := e_17.trans (by decide)
  refine va_put (D := D) (ci := 2) (v := .int 7) (ty := .int) (C := RX2) (T := TX2) (N := 3) hx hb hts u_X2 tyX2 tyX2_ok nmX2 hown hE.1 hP hD hS 0 rfl rfl 2 (by decide) (hts _ w_478) (fun _ h9 => h9) rfl (by decide +kernel) rfl rfl (Nat.le_of_ble_eq_true rfl) dX2_append_37 (fun H locs hP hD hS => ?_)
  have hP : va_P D vwCl [kO h0 2 [.ref z0, .ref h1, .int 7], kI cB h1 700 f_16] H := hP
  have hD : va_D A [kO h0 2 [.ref z0, .ref h1, .int 7], kI cB h1 700 f_16] := hD
  refine lv_iinc (v := 0) (lv' := [(2, .int 0), (0, .ref h0), (1, .int p0)]) hx hb dX2_append_40 hl (k := 0) rfl (by decide) (by decide) rfl (fun ls hl => ?_)
  refine lv_goto (tgt := 3) hx hb dX2_append_43 (by decide) ?_
  refine lv_iload_n hx hb dX2_append_3 rfl (lv_at hl 0 rfl) ?_
  refine lv_if_lt (tgt := 46) hx hb dX2_append_4 (by decide) (fun c_18 => absurd c_18 (by decide)) (fun _ => ?_)
  refine lv_aload_n hx hb dX2_append_7 rfl (lv_at hl 1 rfl) ?_
  refine va_get (D := D) (ci := 2) (v := .int 7) (C := RX2) (T := TX2) (N := 3) hx hb hts u_X2 hown hE.1 hP 0 rfl rfl 2 (by decide) (hts _ w_478) (fun _ h9 => h9) rfl dX2_append_8 ?_
  refine lv_sipush (v := 700) hx hb dX2_append_11 (by decide) ?_
  refine lv_icmp_ge (tgt := 46) hx hb dX2_append_14 (by decide) (fun c_19 => absurd c_19 (by decide)) (fun _ => ?_)
  refine lv_aload_n hx hb dX2_append_17 rfl (lv_at hl 1 rfl) ?_
  refine va_get (D := D) (ci := 2) (v := .ref h1) (C := RX2) (T := TX2) (N := 3) hx hb hts u_X2 hown hE.1 hP 0 rfl rfl 1 (by decide) (hts _ w_475) (fun _ h9 => h9) rfl dX2_append_18 ?_
  refine lv_aload_n hx hb dX2_append_21 rfl (lv_at hl 1 rfl) ?_
  refine va_get (D := D) (ci := 2) (v := .int 7) (C := RX2) (T := TX2) (N := 3) hx hb hts u_X2 hown hE.1 hP 0 rfl rfl 2 (by decide) (hts _ w_478) (fun _ h9 => h9) rfl dX2_append_22 ?_
  refine lv_iload_n hx hb dX2_append_25 rfl (lv_at hl 2 rfl) ?_
  refine lv_iload_n hx hb dX2_append_26 rfl (lv_at hl 0 rfl) ?_
  refine lv_ishr hx hb dX2_append_27 ?_
  refine lv_topi (fun v_20 e_20 => ?_)
  refine lv_i2b hx hb dX2_append_28 rfl ?_
  refine lv_topi (fun v_21 e_21 => ?_)
  refine va_bast hx hb hE.1 hP hD hS 1 0 rfl rfl (kk_ix _ _ (by decide)) dX2_append_29 (fun H locs hP hD hS => ?_)
  obtain ⟨f_22, ef_22⟩ : ∃ z, z = (upd f_16 7 (vp_nar .byte v_21)) := ⟨_, rfl⟩
  have hP : va_P D vwCl [kO h0 2 [.ref z0, .ref h1, .int 7], kI cB h1 700 f_22] H := by rw [ef_22]; exact hP
  have hD : va_D A [kO h0 2 [.ref z0, .ref h1, .int 7], kI cB h1 700 f_22] := by rw [ef_22]; exact hD
  refine lv_aload_n hx hb dX2_append_30 rfl (lv_at hl 1 rfl) ?_
  refine lv_dup hx hb dX2_append_31 rfl ?_
  refine va_get (D := D) (ci := 2) (v := .int 7) (C := RX2) (T := TX2) (N := 3) hx hb hts u_X2 hown hE.1 hP 0 rfl rfl 2 (by decide) (hts _ w_478) (fun _ h9 => h9) rfl dX2_append_32 ?_
  refine lv_iconst (v := 1) hx hb dX2_append_35 (by decide) ?_
  refine lv_iadd hx hb dX2_append_36 ?_
  refine lv_topi (fun v_23 e_23 => ?_)
  obtain rfl : v_23 = 8 := e_23.trans (by decide)
  refine va_put (D := D) (ci := 2) (v := .int 8) (ty := .int) (C := RX2) (T := TX2) (N := 3) hx hb hts u_X2 tyX2 tyX2_ok nmX2 hown hE.1 hP hD hS 0 rfl rfl 2 (by decide) (hts _ w_478) (fun _ h9 => h9) rfl (by decide +kernel) rfl rfl (Nat.le_of_ble_eq_true rfl) dX2_append_37 (fun H locs hP hD hS => ?_)
  have hP : va_P D vwCl [kO h0 2 [.ref z0, .ref h1, .int 8], kI cB h1 700 f_22] H := hP
  have hD : va_D A [kO h0 2 [.ref z0, .ref h1, .int 8], kI cB h1 700 f_22] := hD
  refine lv_iinc (v := (-8)) (lv' := [(2, .int (-8)), (0, .ref h0), (1, .int p0)]) hx hb dX2_append_40 hl (k := 0) rfl (by decide) (by decide) rfl (fun ls hl => ?_)
  refine lv_goto (tgt := 3) hx hb dX2_append_43 (by decide) ?_
  refine lv_iload_n hx hb dX2_append_3 rfl (lv_at hl 0 rfl) ?_
  refine lv_if_lt (tgt := 46) hx hb dX2_append_4 (by decide) (fun _ => ?_) (fun c_24 => absurd c_24 (by decide))
  exact kk_ret_v ((fun i => [].getD i 0), (fun i => [f_22].getD i (fun _ => 0)), (fun i => [].getD i (fun _ => 0)), (fun i => [].getD i 0)) hx hb hr hlocks trivial (hP.sub [0, 1] rfl) (hD.sub [0, 1] (by decide +kernel) rfl) hS dX2_append_46 (Nat.le_of_ble_eq_true rfl) (Nat.le_of_ble_eq_true rfl)
set_option maxHeartbeats 4000000 in
set_option maxRecDepth 100000 in
theorem c_X2_append_3 (l : Launch) (D : va_G) (cB cI cJ cD : ClassId) (h0 h1 : Nat) (z0 : Nat) (g0 : Nat → Int32) (p0 : Int32) (sz : Nat) : Met l yX2_append (kk_W yX2_append cX2_append 3 none) ({ frames := 0, cells := 0, slots := 0, locals := 0 }) (va_Pc [.ref h0, .int p0] (kk_pre D cB cI cJ cD [kO h0 2 [.ref z0, .ref h1, .int 8], kI cB h1 700 g0] sz)) (kk_Qv D (fun (u : (Nat → Nat) × (Nat → Nat → Int32) × (Nat → Nat → Int64) × (Nat → Int32)) => True) (fun u => [kO h0 2 [.ref z0, .ref h1, .int 12], kI cB h1 700 (u.2.1 0)]) (va_A [kO h0 2 [.ref z0, .ref h1, .int 8], kI cB h1 700 g0] sz)) 0 0 (va_A [kO h0 2 [.ref z0, .ref h1, .int 8], kI cB h1 700 g0] sz) := by
  refine kk_start (y := yX2_append) (maxL := 3) (av := [.ref h0, .int p0]) (Qc := fun A => kk_Qv D (fun (u : (Nat → Nat) × (Nat → Nat → Int32) × (Nat → Nat → Int64) × (Nat → Int32)) => True) (fun u => [kO h0 2 [.ref z0, .ref h1, .int 12], kI cB h1 700 (u.2.1 0)]) A) (by decide) (Nat.le_of_ble_eq_true rfl) ?_
  intro p e s m below meth c ls A hx hb hr hml hown hts hE hlocks hin hsz hP hD hA hS hl
  have hown : s.vm.findClass RX2 = some m.cls := hown
  have hl : lv_has ls 3 [(0, .ref h0), (1, .int p0)] := hl
  refine lv_bipush (v := 24) hx hb dX2_append_0 (by decide) ?_
  refine lv_istore_n (lv' := [(2, .int 24), (0, .ref h0), (1, .int p0)]) hx hb dX2_append_2 rfl hl (by decide) rfl (fun ls hl => ?_)
  refine lv_iload_n hx hb dX2_append_3 rfl (lv_at hl 0 rfl) ?_
  refine lv_if_lt (tgt := 46) hx hb dX2_append_4 (by decide) (fun c_1 => absurd c_1 (by decide)) (fun _ => ?_)
  refine lv_aload_n hx hb dX2_append_7 rfl (lv_at hl 1 rfl) ?_
  refine va_get (D := D) (ci := 2) (v := .int 8) (C := RX2) (T := TX2) (N := 3) hx hb hts u_X2 hown hE.1 hP 0 rfl rfl 2 (by decide) (hts _ w_478) (fun _ h9 => h9) rfl dX2_append_8 ?_
  refine lv_sipush (v := 700) hx hb dX2_append_11 (by decide) ?_
  refine lv_icmp_ge (tgt := 46) hx hb dX2_append_14 (by decide) (fun c_2 => absurd c_2 (by decide)) (fun _ => ?_)
  refine lv_aload_n hx hb dX2_append_17 rfl (lv_at hl 1 rfl) ?_
  refine va_get (D := D) (ci := 2) (v := .ref h1) (C := RX2) (T := TX2) (N := 3) hx hb hts u_X2 hown hE.1 hP 0 rfl rfl 1 (by decide) (hts _ w_475) (fun _ h9 => h9) rfl dX2_append_18 ?_
  refine lv_aload_n hx hb dX2_append_21 rfl (lv_at hl 1 rfl) ?_
  refine va_get (D := D) (ci := 2) (v := .int 8) (C := RX2) (T := TX2) (N := 3) hx hb hts u_X2 hown hE.1 hP 0 rfl rfl 2 (by decide) (hts _ w_478) (fun _ h9 => h9) rfl dX2_append_22 ?_
  refine lv_iload_n hx hb dX2_append_25 rfl (lv_at hl 2 rfl) ?_
  refine lv_iload_n hx hb dX2_append_26 rfl (lv_at hl 0 rfl) ?_
  refine lv_ishr hx hb dX2_append_27 ?_
  refine lv_topi (fun v_3 e_3 => ?_)
  refine lv_i2b hx hb dX2_append_28 rfl ?_
  refine lv_topi (fun v_4 e_4 => ?_)
  refine va_bast hx hb hE.1 hP hD hS 1 0 rfl rfl (kk_ix _ _ (by decide)) dX2_append_29 (fun H locs hP hD hS => ?_)
  have hP : va_P D vwCl [kO h0 2 [.ref z0, .ref h1, .int 8], kI cB h1 700 (upd g0 8 (vp_nar .byte v_4))] H := hP
  have hD : va_D A [kO h0 2 [.ref z0, .ref h1, .int 8], kI cB h1 700 (upd g0 8 (vp_nar .byte v_4))] := hD
  refine lv_aload_n hx hb dX2_append_30 rfl (lv_at hl 1 rfl) ?_
  refine lv_dup hx hb dX2_append_31 rfl ?_
  refine va_get (D := D) (ci := 2) (v := .int 8) (C := RX2) (T := TX2) (N := 3) hx hb hts u_X2 hown hE.1 hP 0 rfl rfl 2 (by decide) (hts _ w_478) (fun _ h9 => h9) rfl dX2_append_32 ?_
  refine lv_iconst (v := 1) hx hb dX2_append_35 (by decide) ?_
  refine lv_iadd hx hb dX2_append_36 ?_
  refine lv_topi (fun v_5 e_5 => ?_)
  obtain rfl : v_5 = 9 := e_5.trans (by decide)
  refine va_put (D := D) (ci := 2) (v := .int 9) (ty := .int) (C := RX2) (T := TX2) (N := 3) hx hb hts u_X2 tyX2 tyX2_ok nmX2 hown hE.1 hP hD hS 0 rfl rfl 2 (by decide) (hts _ w_478) (fun _ h9 => h9) rfl (by decide +kernel) rfl rfl (Nat.le_of_ble_eq_true rfl) dX2_append_37 (fun H locs hP hD hS => ?_)
  have hP : va_P D vwCl [kO h0 2 [.ref z0, .ref h1, .int 9], kI cB h1 700 (upd g0 8 (vp_nar .byte v_4))] H := hP
  have hD : va_D A [kO h0 2 [.ref z0, .ref h1, .int 9], kI cB h1 700 (upd g0 8 (vp_nar .byte v_4))] := hD
  refine lv_iinc (v := 16) (lv' := [(2, .int 16), (0, .ref h0), (1, .int p0)]) hx hb dX2_append_40 hl (k := 0) rfl (by decide) (by decide) rfl (fun ls hl => ?_)
  refine lv_goto (tgt := 3) hx hb dX2_append_43 (by decide) ?_
  refine lv_iload_n hx hb dX2_append_3 rfl (lv_at hl 0 rfl) ?_
  refine lv_if_lt (tgt := 46) hx hb dX2_append_4 (by decide) (fun c_6 => absurd c_6 (by decide)) (fun _ => ?_)
  refine lv_aload_n hx hb dX2_append_7 rfl (lv_at hl 1 rfl) ?_
  refine va_get (D := D) (ci := 2) (v := .int 9) (C := RX2) (T := TX2) (N := 3) hx hb hts u_X2 hown hE.1 hP 0 rfl rfl 2 (by decide) (hts _ w_478) (fun _ h9 => h9) rfl dX2_append_8 ?_
  refine lv_sipush (v := 700) hx hb dX2_append_11 (by decide) ?_
  refine lv_icmp_ge (tgt := 46) hx hb dX2_append_14 (by decide) (fun c_7 => absurd c_7 (by decide)) (fun _ => ?_)
  refine lv_aload_n hx hb dX2_append_17 rfl (lv_at hl 1 rfl) ?_
  refine va_get (D := D) (ci := 2) (v := .ref h1) (C := RX2) (T := TX2) (N := 3) hx hb hts u_X2 hown hE.1 hP 0 rfl rfl 1 (by decide) (hts _ w_475) (fun _ h9 => h9) rfl dX2_append_18 ?_
  refine lv_aload_n hx hb dX2_append_21 rfl (lv_at hl 1 rfl) ?_
  refine va_get (D := D) (ci := 2) (v := .int 9) (C := RX2) (T := TX2) (N := 3) hx hb hts u_X2 hown hE.1 hP 0 rfl rfl 2 (by decide) (hts _ w_478) (fun _ h9 => h9) rfl dX2_append_22 ?_
  refine lv_iload_n hx hb dX2_append_25 rfl (lv_at hl 2 rfl) ?_
  refine lv_iload_n hx hb dX2_append_26 rfl (lv_at hl 0 rfl) ?_
  refine lv_ishr hx hb dX2_append_27 ?_
  refine lv_topi (fun v_8 e_8 => ?_)
  refine lv_i2b hx hb dX2_append_28 rfl ?_
  refine lv_topi (fun v_9 e_9 => ?_)
  refine va_bast hx hb hE.1 hP hD hS 1 0 rfl rfl (kk_ix _ _ (by decide)) dX2_append_29 (fun H locs hP hD hS => ?_)
  obtain ⟨f_10, ef_10⟩ : ∃ z, z = (upd (upd g0 8 (vp_nar .byte v_4)) 9 (vp_nar .byte v_9)) := ⟨_, rfl⟩
  have hP : va_P D vwCl [kO h0 2 [.ref z0, .ref h1, .int 9], kI cB h1 700 f_10] H := by rw [ef_10]; exact hP
  have hD : va_D A [kO h0 2 [.ref z0, .ref h1, .int 9], kI cB h1 700 f_10] := by rw [ef_10]; exact hD
  refine lv_aload_n hx hb dX2_append_30 rfl (lv_at hl 1 rfl) ?_
  refine lv_dup hx hb dX2_append_31 rfl ?_
  refine va_get (D := D) (ci := 2) (v := .int 9) (C := RX2) (T := TX2) (N := 3) hx hb hts u_X2 hown hE.1 hP 0 rfl rfl 2 (by decide) (hts _ w_478) (fun _ h9 => h9) rfl dX2_append_32 ?_
  refine lv_iconst (v := 1) hx hb dX2_append_35 (by decide) ?_
  refine lv_iadd hx hb dX2_append_36 ?_
  refine lv_topi (fun v_11 e_11 => ?_)
  obtain rfl : v_11 = 10 := e_11.trans (by decide)
  refine va_put (D := D) (ci := 2) (v := .int 10) (ty := .int) (C := RX2) (T := TX2) (N := 3) hx hb hts u_X2 tyX2 tyX2_ok nmX2 hown hE.1 hP hD hS 0 rfl rfl 2 (by decide) (hts _ w_478) (fun _ h9 => h9) rfl (by decide +kernel) rfl rfl (Nat.le_of_ble_eq_true rfl) dX2_append_37 (fun H locs hP hD hS => ?_)
  have hP : va_P D vwCl [kO h0 2 [.ref z0, .ref h1, .int 10], kI cB h1 700 f_10] H := hP
  have hD : va_D A [kO h0 2 [.ref z0, .ref h1, .int 10], kI cB h1 700 f_10] := hD
  refine lv_iinc (v := 8) (lv' := [(2, .int 8), (0, .ref h0), (1, .int p0)]) hx hb dX2_append_40 hl (k := 0) rfl (by decide) (by decide) rfl (fun ls hl => ?_)
  refine lv_goto (tgt := 3) hx hb dX2_append_43 (by decide) ?_
  refine lv_iload_n hx hb dX2_append_3 rfl (lv_at hl 0 rfl) ?_
  refine lv_if_lt (tgt := 46) hx hb dX2_append_4 (by decide) (fun c_12 => absurd c_12 (by decide)) (fun _ => ?_)
  refine lv_aload_n hx hb dX2_append_7 rfl (lv_at hl 1 rfl) ?_
  refine va_get (D := D) (ci := 2) (v := .int 10) (C := RX2) (T := TX2) (N := 3) hx hb hts u_X2 hown hE.1 hP 0 rfl rfl 2 (by decide) (hts _ w_478) (fun _ h9 => h9) rfl dX2_append_8 ?_
  refine lv_sipush (v := 700) hx hb dX2_append_11 (by decide) ?_
  refine lv_icmp_ge (tgt := 46) hx hb dX2_append_14 (by decide) (fun c_13 => absurd c_13 (by decide)) (fun _ => ?_)
  refine lv_aload_n hx hb dX2_append_17 rfl (lv_at hl 1 rfl) ?_
  refine va_get (D := D) (ci := 2) (v := .ref h1) (C := RX2) (T := TX2) (N := 3) hx hb hts u_X2 hown hE.1 hP 0 rfl rfl 1 (by decide) (hts _ w_475) (fun _ h9 => h9) rfl dX2_append_18 ?_
  refine lv_aload_n hx hb dX2_append_21 rfl (lv_at hl 1 rfl) ?_
  refine va_get (D := D) (ci := 2) (v := .int 10) (C := RX2) (T := TX2) (N := 3) hx hb hts u_X2 hown hE.1 hP 0 rfl rfl 2 (by decide) (hts _ w_478) (fun _ h9 => h9) rfl dX2_append_22 ?_
  refine lv_iload_n hx hb dX2_append_25 rfl (lv_at hl 2 rfl) ?_
  refine lv_iload_n hx hb dX2_append_26 rfl (lv_at hl 0 rfl) ?_
  refine lv_ishr hx hb dX2_append_27 ?_
  refine lv_topi (fun v_14 e_14 => ?_)
  refine lv_i2b hx hb dX2_append_28 rfl ?_
  refine lv_topi (fun v_15 e_15 => ?_)
  refine va_bast hx hb hE.1 hP hD hS 1 0 rfl rfl (kk_ix _ _ (by decide)) dX2_append_29 (fun H locs hP hD hS => ?_)
  obtain ⟨f_16, ef_16⟩ : ∃ z, z = (upd f_10 10 (vp_nar .byte v_15)) := ⟨_, rfl⟩
  have hP : va_P D vwCl [kO h0 2 [.ref z0, .ref h1, .int 10], kI cB h1 700 f_16] H := by rw [ef_16]; exact hP
  have hD : va_D A [kO h0 2 [.ref z0, .ref h1, .int 10], kI cB h1 700 f_16] := by rw [ef_16]; exact hD
  refine lv_aload_n hx hb dX2_append_30 rfl (lv_at hl 1 rfl) ?_
  refine lv_dup hx hb dX2_append_31 rfl ?_
  refine va_get (D := D) (ci := 2) (v := .int 10) (C := RX2) (T := TX2) (N := 3) hx hb hts u_X2 hown hE.1 hP 0 rfl rfl 2 (by decide) (hts _ w_478) (fun _ h9 => h9) rfl dX2_append_32 ?_
  refine lv_iconst (v := 1) hx hb dX2_append_35 (by decide) ?_
  refine lv_iadd hx hb dX2_append_36 ?_
  refine lv_topi (fun v_17 e_17 => ?_)
  obtain rfl : v_17 = 11 := e_17.trans (by decide)
  refine va_put (D := D) (ci := 2) (v := .int 11) (ty := .int) (C := RX2) (T := TX2) (N := 3) hx hb hts u_X2 tyX2 tyX2_ok nmX2 hown hE.1 hP hD hS 0 rfl rfl 2 (by decide) (hts _ w_478) (fun _ h9 => h9) rfl (by decide +kernel) rfl rfl (Nat.le_of_ble_eq_true rfl) dX2_append_37 (fun H locs hP hD hS => ?_)
  have hP : va_P D vwCl [kO h0 2 [.ref z0, .ref h1, .int 11], kI cB h1 700 f_16] H := hP
  have hD : va_D A [kO h0 2 [.ref z0, .ref h1, .int 11], kI cB h1 700 f_16] := hD
  refine lv_iinc (v := 0) (lv' := [(2, .int 0), (0, .ref h0), (1, .int p0)]) hx hb dX2_append_40 hl (k := 0) rfl (by decide) (by decide) rfl (fun ls hl => ?_)
  refine lv_goto (tgt := 3) hx hb dX2_append_43 (by decide) ?_
  refine lv_iload_n hx hb dX2_append_3 rfl (lv_at hl 0 rfl) ?_
  refine lv_if_lt (tgt := 46) hx hb dX2_append_4 (by decide) (fun c_18 => absurd c_18 (by decide)) (fun _ => ?_)
  refine lv_aload_n hx hb dX2_append_7 rfl (lv_at hl 1 rfl) ?_
  refine va_get (D := D) (ci := 2) (v := .int 11) (C := RX2) (T := TX2) (N := 3) hx hb hts u_X2 hown hE.1 hP 0 rfl rfl 2 (by decide) (hts _ w_478) (fun _ h9 => h9) rfl dX2_append_8 ?_
  refine lv_sipush (v := 700) hx hb dX2_append_11 (by decide) ?_
  refine lv_icmp_ge (tgt := 46) hx hb dX2_append_14 (by decide) (fun c_19 => absurd c_19 (by decide)) (fun _ => ?_)
  refine lv_aload_n hx hb dX2_append_17 rfl (lv_at hl 1 rfl) ?_
  refine va_get (D := D) (ci := 2) (v := .ref h1) (C := RX2) (T := TX2) (N := 3) hx hb hts u_X2 hown hE.1 hP 0 rfl rfl 1 (by decide) (hts _ w_475) (fun _ h9 => h9) rfl dX2_append_18 ?_
  refine lv_aload_n hx hb dX2_append_21 rfl (lv_at hl 1 rfl) ?_
  refine va_get (D := D) (ci := 2) (v := .int 11) (C := RX2) (T := TX2) (N := 3) hx hb hts u_X2 hown hE.1 hP 0 rfl rfl 2 (by decide) (hts _ w_478) (fun _ h9 => h9) rfl dX2_append_22 ?_
  refine lv_iload_n hx hb dX2_append_25 rfl (lv_at hl 2 rfl) ?_
  refine lv_iload_n hx hb dX2_append_26 rfl (lv_at hl 0 rfl) ?_
  refine lv_ishr hx hb dX2_append_27 ?_
  refine lv_topi (fun v_20 e_20 => ?_)
  refine lv_i2b hx hb dX2_append_28 rfl ?_
  refine lv_topi (fun v_21 e_21 => ?_)
  refine va_bast hx hb hE.1 hP hD hS 1 0 rfl rfl (kk_ix _ _ (by decide)) dX2_append_29 (fun H locs hP hD hS => ?_)
  obtain ⟨f_22, ef_22⟩ : ∃ z, z = (upd f_16 11 (vp_nar .byte v_21)) := ⟨_, rfl⟩
  have hP : va_P D vwCl [kO h0 2 [.ref z0, .ref h1, .int 11], kI cB h1 700 f_22] H := by rw [ef_22]; exact hP
  have hD : va_D A [kO h0 2 [.ref z0, .ref h1, .int 11], kI cB h1 700 f_22] := by rw [ef_22]; exact hD
  refine lv_aload_n hx hb dX2_append_30 rfl (lv_at hl 1 rfl) ?_
  refine lv_dup hx hb dX2_append_31 rfl ?_
  refine va_get (D := D) (ci := 2) (v := .int 11) (C := RX2) (T := TX2) (N := 3) hx hb hts u_X2 hown hE.1 hP 0 rfl rfl 2 (by decide) (hts _ w_478) (fun _ h9 => h9) rfl dX2_append_32 ?_
  refine lv_iconst (v := 1) hx hb dX2_append_35 (by decide) ?_
  refine lv_iadd hx hb dX2_append_36 ?_
  refine lv_topi (fun v_23 e_23 => ?_)
  obtain rfl : v_23 = 12 := e_23.trans (by decide)
  refine va_put (D := D) (ci := 2) (v := .int 12) (ty := .int) (C := RX2) (T := TX2) (N := 3) hx hb hts u_X2 tyX2 tyX2_ok nmX2 hown hE.1 hP hD hS 0 rfl rfl 2 (by decide) (hts _ w_478) (fun _ h9 => h9) rfl (by decide +kernel) rfl rfl (Nat.le_of_ble_eq_true rfl) dX2_append_37 (fun H locs hP hD hS => ?_)
  have hP : va_P D vwCl [kO h0 2 [.ref z0, .ref h1, .int 12], kI cB h1 700 f_22] H := hP
  have hD : va_D A [kO h0 2 [.ref z0, .ref h1, .int 12], kI cB h1 700 f_22] := hD
  refine lv_iinc (v := (-8)) (lv' := [(2, .int (-8)), (0, .ref h0), (1, .int p0)]) hx hb dX2_append_40 hl (k := 0) rfl (by decide) (by decide) rfl (fun ls hl => ?_)
  refine lv_goto (tgt := 3) hx hb dX2_append_43 (by decide) ?_
  refine lv_iload_n hx hb dX2_append_3 rfl (lv_at hl 0 rfl) ?_
  refine lv_if_lt (tgt := 46) hx hb dX2_append_4 (by decide) (fun _ => ?_) (fun c_24 => absurd c_24 (by decide))
  exact kk_ret_v ((fun i => [].getD i 0), (fun i => [f_22].getD i (fun _ => 0)), (fun i => [].getD i (fun _ => 0)), (fun i => [].getD i 0)) hx hb hr hlocks trivial (hP.sub [0, 1] rfl) (hD.sub [0, 1] (by decide +kernel) rfl) hS dX2_append_46 (Nat.le_of_ble_eq_true rfl) (Nat.le_of_ble_eq_true rfl)
set_option maxHeartbeats 4000000 in
set_option maxRecDepth 100000 in
theorem c_X2_append_4 (l : Launch) (D : va_G) (cB cI cJ cD : ClassId) (h0 h1 : Nat) (z0 : Nat) (g0 : Nat → Int32) (p0 : Int32) (sz : Nat) : Met l yX2_append (kk_W yX2_append cX2_append 3 none) ({ frames := 0, cells := 0, slots := 0, locals := 0 }) (va_Pc [.ref h0, .int p0] (kk_pre D cB cI cJ cD [kO h0 2 [.ref z0, .ref h1, .int 12], kI cB h1 700 g0] sz)) (kk_Qv D (fun (u : (Nat → Nat) × (Nat → Nat → Int32) × (Nat → Nat → Int64) × (Nat → Int32)) => True) (fun u => [kO h0 2 [.ref z0, .ref h1, .int 16], kI cB h1 700 (u.2.1 0)]) (va_A [kO h0 2 [.ref z0, .ref h1, .int 12], kI cB h1 700 g0] sz)) 0 0 (va_A [kO h0 2 [.ref z0, .ref h1, .int 12], kI cB h1 700 g0] sz) := by
  refine kk_start (y := yX2_append) (maxL := 3) (av := [.ref h0, .int p0]) (Qc := fun A => kk_Qv D (fun (u : (Nat → Nat) × (Nat → Nat → Int32) × (Nat → Nat → Int64) × (Nat → Int32)) => True) (fun u => [kO h0 2 [.ref z0, .ref h1, .int 16], kI cB h1 700 (u.2.1 0)]) A) (by decide) (Nat.le_of_ble_eq_true rfl) ?_
  intro p e s m below meth c ls A hx hb hr hml hown hts hE hlocks hin hsz hP hD hA hS hl
  have hown : s.vm.findClass RX2 = some m.cls := hown
  have hl : lv_has ls 3 [(0, .ref h0), (1, .int p0)] := hl
  refine lv_bipush (v := 24) hx hb dX2_append_0 (by decide) ?_
  refine lv_istore_n (lv' := [(2, .int 24), (0, .ref h0), (1, .int p0)]) hx hb dX2_append_2 rfl hl (by decide) rfl (fun ls hl => ?_)
  refine lv_iload_n hx hb dX2_append_3 rfl (lv_at hl 0 rfl) ?_
  refine lv_if_lt (tgt := 46) hx hb dX2_append_4 (by decide) (fun c_1 => absurd c_1 (by decide)) (fun _ => ?_)
  refine lv_aload_n hx hb dX2_append_7 rfl (lv_at hl 1 rfl) ?_
  refine va_get (D := D) (ci := 2) (v := .int 12) (C := RX2) (T := TX2) (N := 3) hx hb hts u_X2 hown hE.1 hP 0 rfl rfl 2 (by decide) (hts _ w_478) (fun _ h9 => h9) rfl dX2_append_8 ?_
  refine lv_sipush (v := 700) hx hb dX2_append_11 (by decide) ?_
  refine lv_icmp_ge (tgt := 46) hx hb dX2_append_14 (by decide) (fun c_2 => absurd c_2 (by decide)) (fun _ => ?_)
  refine lv_aload_n hx hb dX2_append_17 rfl (lv_at hl 1 rfl) ?_
  refine va_get (D := D) (ci := 2) (v := .ref h1) (C := RX2) (T := TX2) (N := 3) hx hb hts u_X2 hown hE.1 hP 0 rfl rfl 1 (by decide) (hts _ w_475) (fun _ h9 => h9) rfl dX2_append_18 ?_
  refine lv_aload_n hx hb dX2_append_21 rfl (lv_at hl 1 rfl) ?_
  refine va_get (D := D) (ci := 2) (v := .int 12) (C := RX2) (T := TX2) (N := 3) hx hb hts u_X2 hown hE.1 hP 0 rfl rfl 2 (by decide) (hts _ w_478) (fun _ h9 => h9) rfl dX2_append_22 ?_
  refine lv_iload_n hx hb dX2_append_25 rfl (lv_at hl 2 rfl) ?_
  refine lv_iload_n hx hb dX2_append_26 rfl (lv_at hl 0 rfl) ?_
  refine lv_ishr hx hb dX2_append_27 ?_
  refine lv_topi (fun v_3 e_3 => ?_)
  refine lv_i2b hx hb dX2_append_28 rfl ?_
  refine lv_topi (fun v_4 e_4 => ?_)
  refine va_bast hx hb hE.1 hP hD hS 1 0 rfl rfl (kk_ix _ _ (by decide)) dX2_append_29 (fun H locs hP hD hS => ?_)
  have hP : va_P D vwCl [kO h0 2 [.ref z0, .ref h1, .int 12], kI cB h1 700 (upd g0 12 (vp_nar .byte v_4))] H := hP
  have hD : va_D A [kO h0 2 [.ref z0, .ref h1, .int 12], kI cB h1 700 (upd g0 12 (vp_nar .byte v_4))] := hD
  refine lv_aload_n hx hb dX2_append_30 rfl (lv_at hl 1 rfl) ?_
  refine lv_dup hx hb dX2_append_31 rfl ?_
  refine va_get (D := D) (ci := 2) (v := .int 12) (C := RX2) (T := TX2) (N := 3) hx hb hts u_X2 hown hE.1 hP 0 rfl rfl 2 (by decide) (hts _ w_478) (fun _ h9 => h9) rfl dX2_append_32 ?_
  refine lv_iconst (v := 1) hx hb dX2_append_35 (by decide) ?_
  refine lv_iadd hx hb dX2_append_36 ?_
  refine lv_topi (fun v_5 e_5 => ?_)
  obtain rfl : v_5 = 13 := e_5.trans (by decide)
  refine va_put (D := D) (ci := 2) (v := .int 13) (ty := .int) (C := RX2) (T := TX2) (N := 3) hx hb hts u_X2 tyX2 tyX2_ok nmX2 hown hE.1 hP hD hS 0 rfl rfl 2 (by decide) (hts _ w_478) (fun _ h9 => h9) rfl (by decide +kernel) rfl rfl (Nat.le_of_ble_eq_true rfl) dX2_append_37 (fun H locs hP hD hS => ?_)
  have hP : va_P D vwCl [kO h0 2 [.ref z0, .ref h1, .int 13], kI cB h1 700 (upd g0 12 (vp_nar .byte v_4))] H := hP
  have hD : va_D A [kO h0 2 [.ref z0, .ref h1, .int 13], kI cB h1 700 (upd g0 12 (vp_nar .byte v_4))] := hD
  refine lv_iinc (v := 16) (lv' := [(2, .int 16), (0, .ref h0), (1, .int p0)]) hx hb dX2_append_40 hl (k := 0) rfl (by decide) (by decide) rfl (fun ls hl => ?_)
  refine lv_goto (tgt := 3) hx hb dX2_append_43 (by decide) ?_
  refine lv_iload_n hx hb dX2_append_3 rfl (lv_at hl 0 rfl) ?_
  refine lv_if_lt (tgt := 46) hx hb dX2_append_4 (by decide) (fun c_6 => absurd c_6 (by decide)) (fun _ => ?_)
  refine lv_aload_n hx hb dX2_append_7 rfl (lv_at hl 1 rfl) ?_
  refine va_get (D := D) (ci := 2) (v := .int 13) (C := RX2) (T := TX2) (N := 3) hx hb hts u_X2 hown hE.1 hP 0 rfl rfl 2 (by decide) (hts _ w_478) (fun _ h9 => h9) rfl dX2_append_8 ?_
  refine lv_sipush (v := 700) hx hb dX2_append_11 (by decide) ?_
  refine lv_icmp_ge (tgt := 46) hx hb dX2_append_14 (by decide) (fun c_7 => absurd c_7 (by decide)) (fun _ => ?_)
  refine lv_aload_n hx hb dX2_append_17 rfl (lv_at hl 1 rfl) ?_
  refine va_get (D := D) (ci := 2) (v := .ref h1) (C := RX2) (T := TX2) (N := 3) hx hb hts u_X2 hown hE.1 hP 0 rfl rfl 1 (by decide) (hts _ w_475) (fun _ h9 => h9) rfl dX2_append_18 ?_
  refine lv_aload_n hx hb dX2_append_21 rfl (lv_at hl 1 rfl) ?_
  refine va_get (D := D) (ci := 2) (v := .int 13) (C := RX2) (T := TX2) (N := 3) hx hb hts u_X2 hown hE.1 hP 0 rfl rfl 2 (by decide) (hts _ w_478) (fun _ h9 => h9) rfl dX2_append_22 ?_
  refine lv_iload_n hx hb dX2_append_25 rfl (lv_at hl 2 rfl) ?_
  refine lv_iload_n hx hb dX2_append_26 rfl (lv_at hl 0 rfl) ?_
  refine lv_ishr hx hb dX2_append_27 ?_
  refine lv_topi (fun v_8 e_8 => ?_)
  refine lv_i2b hx hb dX2_append_28 rfl ?_
  refine lv_topi (fun v_9 e_9 => ?_)
  refine va_bast hx hb hE.1 hP hD hS 1 0 rfl rfl (kk_ix _ _ (by decide)) dX2_append_29 (fun H locs hP hD hS => ?_)
  obtain ⟨f_10, ef_10⟩ : ∃ z, z = (upd (upd g0 12 (vp_nar .byte v_4)) 13 (vp_nar .byte v_9)) := ⟨_, rfl⟩
  have hP : va_P D vwCl [kO h0 2 [.ref z0, .ref h1, .int 13], kI cB h1 700 f_10] H := by rw [ef_10]; exact hP
  have hD : va_D A [kO h0 2 [.ref z0, .ref h1, .int 13], kI cB h1 700 f_10] := by rw [ef_10]; exact hD
  refine lv_aload_n hx hb dX2_append_30 rfl (lv_at hl 1 rfl) ?_
  refine lv_dup hx hb dX2_append_31 rfl ?_
  refine va_get (D := D) (ci := 2) (v := .int 13) (C := RX2) (T := TX2) (N := 3) hx hb hts u_X2 hown hE.1 hP 0 rfl rfl 2 (by decide) (hts _ w_478) (fun _ h9 => h9) rfl dX2_append_32 ?_
  refine lv_iconst (v := 1) hx hb dX2_append_35 (by decide) ?_
  refine lv_iadd hx hb dX2_append_36 ?_
  refine lv_topi (fun v_11 e_11 => ?_)
  obtain rfl : v_11 = 14 := e_11.trans (by decide)
  refine va_put (D := D) (ci := 2) (v := .int 14) (ty := .int) (C := RX2) (T := TX2) (N := 3) hx hb hts u_X2 tyX2 tyX2_ok nmX2 hown hE.1 hP hD hS 0 rfl rfl 2 (by decide) (hts _ w_478) (fun _ h9 => h9) rfl (by decide +kernel) rfl rfl (Nat.le_of_ble_eq_true rfl) dX2_append_37 (fun H locs hP hD hS => ?_)
  have hP : va_P D vwCl [kO h0 2 [.ref z0, .ref h1, .int 14], kI cB h1 700 f_10] H := hP
  have hD : va_D A [kO h0 2 [.ref z0, .ref h1, .int 14], kI cB h1 700 f_10] := hD
  refine lv_iinc (v := 8) (lv' := [(2, .int 8), (0, .ref h0), (1, .int p0)]) hx hb dX2_append_40 hl (k := 0) rfl (by decide) (by decide) rfl (fun ls hl => ?_)
  refine lv_goto (tgt := 3) hx hb dX2_append_43 (by decide) ?_
  refine lv_iload_n hx hb dX2_append_3 rfl (lv_at hl 0 rfl) ?_
  refine lv_if_lt (tgt := 46) hx hb dX2_append_4 (by decide) (fun c_12 => absurd c_12 (by decide)) (fun _ => ?_)
  refine lv_aload_n hx hb dX2_append_7 rfl (lv_at hl 1 rfl) ?_
  refine va_get (D := D) (ci := 2) (v := .int 14) (C := RX2) (T := TX2) (N := 3) hx hb hts u_X2 hown hE.1 hP 0 rfl rfl 2 (by decide) (hts _ w_478) (fun _ h9 => h9) rfl dX2_append_8 ?_
  refine lv_sipush (v := 700) hx hb dX2_append_11 (by decide) ?_
  refine lv_icmp_ge (tgt := 46) hx hb dX2_append_14 (by decide) (fun c_13 => absurd c_13 (by decide)) (fun _ => ?_)
  refine lv_aload_n hx hb dX2_append_17 rfl (lv_at hl 1 rfl) ?_
  refine va_get (D := D) (ci := 2) (v := .ref h1) (C := RX2) (T := TX2) (N := 3) hx hb hts u_X2 hown hE.1 hP 0 rfl rfl 1 (by decide) (hts _ w_475) (fun _ h9 => h9) rfl dX2_append_18 ?_
  refine lv_aload_n hx hb dX2_append_21 rfl (lv_at hl 1 rfl) ?_
  refine va_get (D := D) (ci := 2) (v := .int 14) (C := RX2) (T := TX2) (N := 3) hx hb hts u_X2 hown hE.1 hP 0 rfl rfl 2 (by decide) (hts _ w_478) (fun _ h9 => h9) rfl dX2_append_22 ?_
  refine lv_iload_n hx hb dX2_append_25 rfl (lv_at hl 2 rfl) ?_
  refine lv_iload_n hx hb dX2_append_26 rfl (lv_at hl 0 rfl) ?_
  refine lv_ishr hx hb dX2_append_27 ?_
  refine lv_topi (fun v_14 e_14 => ?_)
  refine lv_i2b hx hb dX2_append_28 rfl ?_
  refine lv_topi (fun v_15 e_15 => ?_)
  refine va_bast hx hb hE.1 hP hD hS 1 0 rfl rfl (kk_ix _ _ (by decide)) dX2_append_29 (fun H locs hP hD hS => ?_)
  obtain ⟨f_16, ef_16⟩ : ∃ z, z = (upd f_10 14 (vp_nar .byte v_15)) := ⟨_, rfl⟩
  have hP : va_P D vwCl [kO h0 2 [.ref z0, .ref h1, .int 14], kI cB h1 700 f_16] H := by rw [ef_16]; exact hP
  have hD : va_D A [kO h0 2 [.ref z0, .ref h1, .int 14], kI cB h1 700 f_16] := by rw [ef_16]; exact hD
  refine lv_aload_n hx hb dX2_append_30 rfl (lv_at hl 1 rfl) ?_
  refine lv_dup hx hb dX2_append_31 rfl ?_
  refine va_get (D := D) (ci := 2) (v := .int 14) (C := RX2) (T := TX2) (N := 3) hx hb hts u_X2 hown hE.1 hP 0 rfl rfl 2 (by decide) (hts _ w_478) (fun _ h9 => h9) rfl dX2_append_32 ?_
  refine lv_iconst (v := 1) hx hb dX2_append_35 (by decide) ?_
  refine lv_iadd hx hb dX2_append_36 ?_
  refine lv_topi (fun v_17 e_17 => ?_)
  obtain rfl : v_17 = 15 := e_17.trans (by decide)
  refine va_put (D := D) (ci := 2) (v := .int 15) (ty := .int) (C := RX2) (T := TX2) (N := 3) hx hb hts u_X2 tyX2 tyX2_ok nmX2 hown hE.1 hP hD hS 0 rfl rfl 2 (by decide) (hts _ w_478) (fun _ h9 => h9) rfl (by decide +kernel) rfl rfl (Nat.le_of_ble_eq_true rfl) dX2_append_37 (fun H locs hP hD hS => ?_)
  have hP : va_P D vwCl [kO h0 2 [.ref z0, .ref h1, .int 15], kI cB h1 700 f_16] H := hP
  have hD : va_D A [kO h0 2 [.ref z0, .ref h1, .int 15], kI cB h1 700 f_16] := hD
  refine lv_iinc (v := 0) (lv' := [(2, .int 0), (0, .ref h0), (1, .int p0)]) hx hb dX2_append_40 hl (k := 0) rfl (by decide) (by decide) rfl (fun ls hl => ?_)
  refine lv_goto (tgt := 3) hx hb dX2_append_43 (by decide) ?_
  refine lv_iload_n hx hb dX2_append_3 rfl (lv_at hl 0 rfl) ?_
  refine lv_if_lt (tgt := 46) hx hb dX2_append_4 (by decide) (fun c_18 => absurd c_18 (by decide)) (fun _ => ?_)
  refine lv_aload_n hx hb dX2_append_7 rfl (lv_at hl 1 rfl) ?_
  refine va_get (D := D) (ci := 2) (v := .int 15) (C := RX2) (T := TX2) (N := 3) hx hb hts u_X2 hown hE.1 hP 0 rfl rfl 2 (by decide) (hts _ w_478) (fun _ h9 => h9) rfl dX2_append_8 ?_
  refine lv_sipush (v := 700) hx hb dX2_append_11 (by decide) ?_
  refine lv_icmp_ge (tgt := 46) hx hb dX2_append_14 (by decide) (fun c_19 => absurd c_19 (by decide)) (fun _ => ?_)
  refine lv_aload_n hx hb dX2_append_17 rfl (lv_at hl 1 rfl) ?_
  refine va_get (D := D) (ci := 2) (v := .ref h1) (C := RX2) (T := TX2) (N := 3) hx hb hts u_X2 hown hE.1 hP 0 rfl rfl 1 (by decide) (hts _ w_475) (fun _ h9 => h9) rfl dX2_append_18 ?_
  refine lv_aload_n hx hb dX2_append_21 rfl (lv_at hl 1 rfl) ?_
  refine va_get (D := D) (ci := 2) (v := .int 15) (C := RX2) (T := TX2) (N := 3) hx hb hts u_X2 hown hE.1 hP 0 rfl rfl 2 (by decide) (hts _ w_478) (fun _ h9 => h9) rfl dX2_append_22 ?_
  refine lv_iload_n hx hb dX2_append_25 rfl (lv_at hl 2 rfl) ?_
  refine lv_iload_n hx hb dX2_append_26 rfl (lv_at hl 0 rfl) ?_
  refine lv_ishr hx hb dX2_append_27 ?_
  refine lv_topi (fun v_20 e_20 => ?_)
  refine lv_i2b hx hb dX2_append_28 rfl ?_
  refine lv_topi (fun v_21 e_21 => ?_)
  refine va_bast hx hb hE.1 hP hD hS 1 0 rfl rfl (kk_ix _ _ (by decide)) dX2_append_29 (fun H locs hP hD hS => ?_)
  obtain ⟨f_22, ef_22⟩ : ∃ z, z = (upd f_16 15 (vp_nar .byte v_21)) := ⟨_, rfl⟩
  have hP : va_P D vwCl [kO h0 2 [.ref z0, .ref h1, .int 15], kI cB h1 700 f_22] H := by rw [ef_22]; exact hP
  have hD : va_D A [kO h0 2 [.ref z0, .ref h1, .int 15], kI cB h1 700 f_22] := by rw [ef_22]; exact hD
  refine lv_aload_n hx hb dX2_append_30 rfl (lv_at hl 1 rfl) ?_
  refine lv_dup hx hb dX2_append_31 rfl ?_
  refine va_get (D := D) (ci := 2) (v := .int 15) (C := RX2) (T := TX2) (N := 3) hx hb hts u_X2 hown hE.1 hP 0 rfl rfl 2 (by decide) (hts _ w_478) (fun _ h9 => h9) rfl dX2_append_32 ?_
  refine lv_iconst (v := 1) hx hb dX2_append_35 (by decide) ?_
  refine lv_iadd hx hb dX2_append_36 ?_
  refine lv_topi (fun v_23 e_23 => ?_)
  obtain rfl : v_23 = 16 := e_23.trans (by decide)
  refine va_put (D := D) (ci := 2) (v := .int 16) (ty := .int) (C := RX2) (T := TX2) (N := 3) hx hb hts u_X2 tyX2 tyX2_ok nmX2 hown hE.1 hP hD hS 0 rfl rfl 2 (by decide) (hts _ w_478) (fun _ h9 => h9) rfl (by decide +kernel) rfl rfl (Nat.le_of_ble_eq_true rfl) dX2_append_37 (fun H locs hP hD hS => ?_)
  have hP : va_P D vwCl [kO h0 2 [.ref z0, .ref h1, .int 16], kI cB h1 700 f_22] H := hP
  have hD : va_D A [kO h0 2 [.ref z0, .ref h1, .int 16], kI cB h1 700 f_22] := hD
  refine lv_iinc (v := (-8)) (lv' := [(2, .int (-8)), (0, .ref h0), (1, .int p0)]) hx hb dX2_append_40 hl (k := 0) rfl (by decide) (by decide) rfl (fun ls hl => ?_)
  refine lv_goto (tgt := 3) hx hb dX2_append_43 (by decide) ?_
  refine lv_iload_n hx hb dX2_append_3 rfl (lv_at hl 0 rfl) ?_
  refine lv_if_lt (tgt := 46) hx hb dX2_append_4 (by decide) (fun _ => ?_) (fun c_24 => absurd c_24 (by decide))
  exact kk_ret_v ((fun i => [].getD i 0), (fun i => [f_22].getD i (fun _ => 0)), (fun i => [].getD i (fun _ => 0)), (fun i => [].getD i 0)) hx hb hr hlocks trivial (hP.sub [0, 1] rfl) (hD.sub [0, 1] (by decide +kernel) rfl) hS dX2_append_46 (Nat.le_of_ble_eq_true rfl) (Nat.le_of_ble_eq_true rfl)
set_option maxHeartbeats 4000000 in
set_option maxRecDepth 100000 in
theorem c_X2_append_5 (l : Launch) (D : va_G) (cB cI cJ cD : ClassId) (h0 h1 : Nat) (z0 : Nat) (g0 : Nat → Int32) (p0 : Int32) (sz : Nat) : Met l yX2_append (kk_W yX2_append cX2_append 3 none) ({ frames := 0, cells := 0, slots := 0, locals := 0 }) (va_Pc [.ref h0, .int p0] (kk_pre D cB cI cJ cD [kO h0 2 [.ref z0, .ref h1, .int 16], kI cB h1 700 g0] sz)) (kk_Qv D (fun (u : (Nat → Nat) × (Nat → Nat → Int32) × (Nat → Nat → Int64) × (Nat → Int32)) => True) (fun u => [kO h0 2 [.ref z0, .ref h1, .int 20], kI cB h1 700 (u.2.1 0)]) (va_A [kO h0 2 [.ref z0, .ref h1, .int 16], kI cB h1 700 g0] sz)) 0 0 (va_A [kO h0 2 [.ref z0, .ref h1, .int 16], kI cB h1 700 g0] sz) := by
  refine kk_start (y := yX2_append) (maxL := 3) (av := [.ref h0, .int p0]) (Qc := fun A => kk_Qv D (fun (u : (Nat → Nat) × (Nat → Nat → Int32) × (Nat → Nat → Int64) × (Nat → Int32)) => True) (fun u => [kO h0 2 [.ref z0, .ref h1, .int 20], kI cB h1 700 (u.2.1 0)]) A) (by decide) (Nat.le_of_ble_eq_true rfl) ?_
  intro p e s m below meth c ls A hx hb hr hml hown hts hE hlocks hin hsz hP hD hA hS hl
  have hown : s.vm.findClass RX2 = some m.cls := hown
  have hl : lv_has ls 3 [(0, .ref h0), (1, .int p0)] := hl
  refine lv_bipush (v := 24) hx hb dX2_append_0 (by decide) ?_
  refine lv_istore_n (lv' := [(2, .int 24), (0, .ref h0), (1, .int p0)]) hx hb dX2_append_2 rfl hl (by decide) rfl (fun ls hl => ?_)
  refine lv_iload_n hx hb dX2_append_3 rfl (lv_at hl 0 rfl) ?_
  refine lv_if_lt (tgt := 46) hx hb dX2_append_4 (by decide) (fun c_1 => absurd c_1 (by decide)) (fun _ => ?_)
  refine lv_aload_n hx hb dX2_append_7 rfl (lv_at hl 1 rfl) ?_
  refine va_get (D := D) (ci := 2) (v := .int 16) (C := RX2) (T := TX2) (N := 3) hx hb hts u_X2 hown hE.1 hP 0 rfl rfl 2 (by decide) (hts _ w_478) (fun _ h9 => h9) rfl dX2_append_8 ?_
  refine lv_sipush (v := 700) hx hb dX2_append_11 (by decide) ?_
  refine lv_icmp_ge (tgt := 46) hx hb dX2_append_14 (by decide) (fun c_2 => absurd c_2 (by decide)) (fun _ => ?_)
  refine lv_aload_n hx hb dX2_append_17 rfl (lv_at hl 1 rfl) ?_
  refine va_get (D := D) (ci := 2) (v := .ref h1) (C := RX2) (T := TX2) (N := 3) hx hb hts u_X2 hown hE.1 hP 0 rfl rfl 1 (by decide) (hts _ w_475) (fun _ h9 => h9) rfl dX2_append_18 ?_
  refine lv_aload_n hx hb dX2_append_21 rfl (lv_at hl 1 rfl) ?_
  refine va_get (D := D) (ci := 2) (v := .int 16) (C := RX2) (T := TX2) (N := 3) hx hb hts u_X2 hown hE.1 hP 0 rfl rfl 2 (by decide) (hts _ w_478) (fun _ h9 => h9) rfl dX2_append_22 ?_
  refine lv_iload_n hx hb dX2_append_25 rfl (lv_at hl 2 rfl) ?_
  refine lv_iload_n hx hb dX2_append_26 rfl (lv_at hl 0 rfl) ?_
  refine lv_ishr hx hb dX2_append_27 ?_
  refine lv_topi (fun v_3 e_3 => ?_)
  refine lv_i2b hx hb dX2_append_28 rfl ?_
  refine lv_topi (fun v_4 e_4 => ?_)
  refine va_bast hx hb hE.1 hP hD hS 1 0 rfl rfl (kk_ix _ _ (by decide)) dX2_append_29 (fun H locs hP hD hS => ?_)
  have hP : va_P D vwCl [kO h0 2 [.ref z0, .ref h1, .int 16], kI cB h1 700 (upd g0 16 (vp_nar .byte v_4))] H := hP
  have hD : va_D A [kO h0 2 [.ref z0, .ref h1, .int 16], kI cB h1 700 (upd g0 16 (vp_nar .byte v_4))] := hD
  refine lv_aload_n hx hb dX2_append_30 rfl (lv_at hl 1 rfl) ?_
  refine lv_dup hx hb dX2_append_31 rfl ?_
  refine va_get (D := D) (ci := 2) (v := .int 16) (C := RX2) (T := TX2) (N := 3) hx hb hts u_X2 hown hE.1 hP 0 rfl rfl 2 (by decide) (hts _ w_478) (fun _ h9 => h9) rfl dX2_append_32 ?_
  refine lv_iconst (v := 1) hx hb dX2_append_35 (by decide) ?_
  refine lv_iadd hx hb dX2_append_36 ?_
  refine lv_topi (fun v_5 e_5 => ?_)
  obtain rfl : v_5 = 17 := e_5.trans (by decide)
  refine va_put (D := D) (ci := 2) (v := .int 17) (ty := .int) (C := RX2) (T := TX2) (N := 3) hx hb hts u_X2 tyX2 tyX2_ok nmX2 hown hE.1 hP hD hS 0 rfl rfl 2 (by decide) (hts _ w_478) (fun _ h9 => h9) rfl (by decide +kernel) rfl rfl (Nat.le_of_ble_eq_true rfl) dX2_append_37 (fun H locs hP hD hS => ?_)
  have hP : va_P D vwCl [kO h0 2 [.ref z0, .ref h1, .int 17], kI cB h1 700 (upd g0 16 (vp_nar .byte v_4))] H := hP
  have hD : va_D A [kO h0 2 [.ref z0, .ref h1, .int 17], kI cB h1 700 (upd g0 16 (vp_nar .byte v_4))] := hD
  refine lv_iinc (v := 16) (lv' := [(2, .int 16), (0, .ref h0), (1, .int p0)]) hx hb dX2_append_40 hl (k := 0) rfl (by decide) (by decide) rfl (fun ls hl => ?_)
  refine lv_goto (tgt := 3) hx hb dX2_append_43 (by decide) ?_
  refine lv_iload_n hx hb dX2_append_3 rfl (lv_at hl 0 rfl) ?_
  refine lv_if_lt (tgt := 46) hx hb dX2_append_4 (by decide) (fun c_6 => absurd c_6 (by decide)) (fun _ => ?_)
  refine lv_aload_n hx hb dX2_append_7 rfl (lv_at hl 1 rfl) ?_
  refine va_get (D := D) (ci := 2) (v := .int 17) (C := RX2) (T := TX2) (N := 3) hx hb hts u_X2 hown hE.1 hP 0 rfl rfl 2 (by decide) (hts _ w_478) (fun _ h9 => h9) rfl dX2_append_8 ?_
  refine lv_sipush (v := 700) hx hb dX2_append_11 (by decide) ?_
  refine lv_icmp_ge (tgt := 46) hx hb dX2_append_14 (by decide) (fun c_7 => absurd c_7 (by decide)) (fun _ => ?_)
  refine lv_aload_n hx hb dX2_append_17 rfl (lv_at hl 1 rfl) ?_
  refine va_get (D := D) (ci := 2) (v := .ref h1) (C := RX2) (T := TX2) (N := 3) hx hb hts u_X2 hown hE.1 hP 0 rfl rfl 1 (by decide) (hts _ w_475) (fun _ h9 => h9) rfl dX2_append_18 ?_
  refine lv_aload_n hx hb dX2_append_21 rfl (lv_at hl 1 rfl) ?_
  refine va_get (D := D) (ci := 2) (v := .int 17) (C := RX2) (T := TX2) (N := 3) hx hb hts u_X2 hown hE.1 hP 0 rfl rfl 2 (by decide) (hts _ w_478) (fun _ h9 => h9) rfl dX2_append_22 ?_
  refine lv_iload_n hx hb dX2_append_25 rfl (lv_at hl 2 rfl) ?_
  refine lv_iload_n hx hb dX2_append_26 rfl (lv_at hl 0 rfl) ?_
  refine lv_ishr hx hb dX2_append_27 ?_
  refine lv_topi (fun v_8 e_8 => ?_)
  refine lv_i2b hx hb dX2_append_28 rfl ?_
  refine lv_topi (fun v_9 e_9 => ?_)
  refine va_bast hx hb hE.1 hP hD hS 1 0 rfl rfl (kk_ix _ _ (by decide)) dX2_append_29 (fun H locs hP hD hS => ?_)
  obtain ⟨f_10, ef_10⟩ : ∃ z, z = (upd (upd g0 16 (vp_nar .byte v_4)) 17 (vp_nar .byte v_9)) := ⟨_, rfl⟩
  have hP : va_P D vwCl [kO h0 2 [.ref z0, .ref h1, .int 17], kI cB h1 700 f_10] H := by rw [ef_10]; exact hP
  have hD : va_D A [kO h0 2 [.ref z0, .ref h1, .int 17], kI cB h1 700 f_10] := by rw [ef_10]; exact hD
  refine lv_aload_n hx hb dX2_append_30 rfl (lv_at hl 1 rfl) ?_
  refine lv_dup hx hb dX2_append_31 rfl ?_
  refine va_get (D := D) (ci := 2) (v := .int 17) (C := RX2) (T := TX2) (N := 3) hx hb hts u_X2 hown hE.1 hP 0 rfl rfl 2 (by decide) (hts _ w_478) (fun _ h9 => h9) rfl dX2_append_32 ?_
  refine lv_iconst (v := 1) hx hb dX2_append_35 (by decide) ?_
  refine lv_iadd hx hb dX2_append_36 ?_
  refine lv_topi (fun v_11 e_11 => ?_)
  obtain rfl : v_11 = 18 := e_11.trans (by decide)
  refine va_put (D := D) (ci := 2) (v := .int 18) (ty := .int) (C := RX2) (T := TX2) (N := 3) hx hb hts u_X2 tyX2 tyX2_ok nmX2 hown hE.1 hP hD hS 0 rfl rfl 2 (by decide) (hts _ w_478) (fun _ h9 => h9) rfl (by decide +kernel) rfl rfl (Nat.le_of_ble_eq_true rfl) dX2_append_37 (fun H locs hP hD hS => ?_)
  have hP : va_P D vwCl [kO h0 2 [.ref z0, .ref h1, .int 18], kI cB h1 700 f_10] H := hP
  have hD : va_D A [kO h0 2 [.ref z0, .ref h1, .int 18], kI cB h1 700 f_10] := hD
  refine lv_iinc (v := 8) (lv' := [(2, .int 8), (0, .ref h0), (1, .int p0)]) hx hb dX2_append_40 hl (k := 0) rfl (by decide) (by decide) rfl (fun ls hl => ?_)
  refine lv_goto (tgt := 3) hx hb dX2_append_43 (by decide) ?_
  refine lv_iload_n hx hb dX2_append_3 rfl (lv_at hl 0 rfl) ?_
  refine lv_if_lt (tgt := 46) hx hb dX2_append_4 (by decide) (fun c_12 => absurd c_12 (by decide)) (fun _ => ?_)
  refine lv_aload_n hx hb dX2_append_7 rfl (lv_at hl 1 rfl) ?_
  refine va_get (D := D) (ci := 2) (v := .int 18) (C := RX2) (T := TX2) (N := 3) hx hb hts u_X2 hown hE.1 hP 0 rfl rfl 2 (by decide) (hts _ w_478) (fun _ h9 => h9) rfl dX2_append_8 ?_
  refine lv_sipush (v := 700) hx hb dX2_append_11 (by decide) ?_
  refine lv_icmp_ge (tgt := 46) hx hb dX2_append_14 (by decide) (fun c_13 => absurd c_13 (by decide)) (fun _ => ?_)
  refine lv_aload_n hx hb dX2_append_17 rfl (lv_at hl 1 rfl) ?_
  refine va_get (D := D) (ci := 2) (v := .ref h1) (C := RX2) (T := TX2) (N := 3) hx hb hts u_X2 hown hE.1 hP 0 rfl rfl 1 (by decide) (hts _ w_475) (fun _ h9 => h9) rfl dX2_append_18 ?_
  refine lv_aload_n hx hb dX2_append_21 rfl (lv_at hl 1 rfl) ?_
  refine va_get (D := D) (ci := 2) (v := .int 18) (C := RX2) (T := TX2) (N := 3) hx hb hts u_X2 hown hE.1 hP 0 rfl rfl 2 (by decide) (hts _ w_478) (fun _ h9 => h9) rfl dX2_append_22 ?_
  refine lv_iload_n hx hb dX2_append_25 rfl (lv_at hl 2 rfl) ?_
  refine lv_iload_n hx hb dX2_append_26 rfl (lv_at hl 0 rfl) ?_
  refine lv_ishr hx hb dX2_append_27 ?_
  refine lv_topi (fun v_14 e_14 => ?_)
  refine lv_i2b hx hb dX2_append_28 rfl ?_
  refine lv_topi (fun v_15 e_15 => ?_)
  refine va_bast hx hb hE.1 hP hD hS 1 0 rfl rfl (kk_ix _ _ (by decide)) dX2_append_29 (fun H locs hP hD hS => ?_)
  obtain ⟨f_16, ef_16⟩ : ∃ z, z = (upd f_10 18 (vp_nar .byte v_15)) := ⟨_, rfl⟩
  have hP : va_P D vwCl [kO h0 2 [.ref z0, .ref h1, .int 18], kI cB h1 700 f_16] H := by rw [ef_16]; exact hP
  have hD : va_D A [kO h0 2 [.ref z0, .ref h1, .int 18], kI cB h1 700 f_16] := by rw [ef_16]; exact hD
  refine lv_aload_n hx hb dX2_append_30 rfl (lv_at hl 1 rfl) ?_
  refine lv_dup hx hb dX2_append_31 rfl ?_
  refine va_get (D := D) (ci := 2) (v := .int 18) (C := RX2) (T := TX2) (N := 3) hx hb hts u_X2 hown hE.1 hP 0 rfl rfl 2 (by decide) (hts _ w_478) (fun _ h9 => h9) rfl dX2_append_32 ?_
  refine lv_iconst (v := 1) hx hb dX2_append_35 (by decide) ?_
  refine lv_iadd hx hb dX2_append_36 ?_
  refine lv_topi (fun v_17 e_17 => ?_)
  obtain rfl : v_17 = 19 := e_17.trans (by decide)
  refine va_put (D := D) (ci := 2) (v := .int 19) (ty := .int) (C := RX2) (T := TX2) (N := 3) hx hb hts u_X2 tyX2 tyX2_ok nmX2 hown hE.1 hP hD hS 0 rfl rfl 2 (by decide) (hts _ w_478) (fun _ h9 => h9) rfl (by decide +kernel) rfl rfl (Nat.le_of_ble_eq_true rfl) dX2_append_37 (fun H locs hP hD hS => ?_)
  have hP : va_P D vwCl [kO h0 2 [.ref z0, .ref h1, .int 19], kI cB h1 700 f_16] H := hP
  have hD : va_D A [kO h0 2 [.ref z0, .ref h1, .int 19], kI cB h1 700 f_16] := hD
  refine lv_iinc (v := 0) (lv' := [(2, .int 0), (0, .ref h0), (1, .int p0)]) hx hb dX2_append_40 hl (k := 0) rfl (by decide) (by decide) rfl (fun ls hl => ?_)
  refine lv_goto (tgt := 3) hx hb dX2_append_43 (by decide) ?_
  refine lv_iload_n hx hb dX2_append_3 rfl (lv_at hl 0 rfl) ?_
  refine lv_if_lt (tgt := 46) hx hb dX2_append_4 (by decide) (fun c_18 => absurd c_18 (by decide)) (fun _ => ?_)
  refine lv_aload_n hx hb dX2_append_7 rfl (lv_at hl 1 rfl) ?_
  refine va_get (D := D) (ci := 2) (v := .int 19) (C := RX2) (T := TX2) (N := 3) hx hb hts u_X2 hown hE.1 hP 0 rfl rfl 2 (by decide) (hts _ w_478) (fun _ h9 => h9) rfl dX2_append_8 ?_
  refine lv_sipush (v := 700) hx hb dX2_append_11 (by decide) ?_
  refine lv_icmp_ge (tgt := 46) hx hb dX2_append_14 (by decide) (fun c_19 => absurd c_19 (by decide)) (fun _ => ?_)
  refine lv_aload_n hx hb dX2_append_17 rfl (lv_at hl 1 rfl) ?_
  refine va_get (D := D) (ci := 2) (v := .ref h1) (C := RX2) (T := TX2) (N := 3) hx hb hts u_X2 hown hE.1 hP 0 rfl rfl 1 (by decide) (hts _ w_475) (fun _ h9 => h9) rfl dX2_append_18 ?_
  refine lv_aload_n hx hb dX2_append_21 rfl (lv_at hl 1 rfl) ?_
  refine va_get (D := D) (ci := 2) (v := .int 19) (C := RX2) (T := TX2) (N := 3) hx hb hts u_X2 hown hE.1 hP 0 rfl rfl 2 (by decide) (hts _ w_478) (fun _ h9 => h9) rfl dX2_append_22 ?_
  refine lv_iload_n hx hb dX2_append_25 rfl (lv_at hl 2 rfl) ?_
  refine lv_iload_n hx hb dX2_append_26 rfl (lv_at hl 0 rfl) ?_
  refine lv_ishr hx hb dX2_append_27 ?_
  refine lv_topi (fun v_20 e_20 => ?_)
  refine lv_i2b hx hb dX2_append_28 rfl ?_
  refine lv_topi (fun v_21 e_21 => ?_)
  refine va_bast hx hb hE.1 hP hD hS 1 0 rfl rfl (kk_ix _ _ (by decide)) dX2_append_29 (fun H locs hP hD hS => ?_)
  obtain ⟨f_22, ef_22⟩ : ∃ z, z = (upd f_16 19 (vp_nar .byte v_21)) := ⟨_, rfl⟩
  have hP : va_P D vwCl [kO h0 2 [.ref z0, .ref h1, .int 19], kI cB h1 700 f_22] H := by rw [ef_22]; exact hP
  have hD : va_D A [kO h0 2 [.ref z0, .ref h1, .int 19], kI cB h1 700 f_22] := by rw [ef_22]; exact hD
  refine lv_aload_n hx hb dX2_append_30 rfl (lv_at hl 1 rfl) ?_
  refine lv_dup hx hb dX2_append_31 rfl ?_
  refine va_get (D := D) (ci := 2) (v := .int 19) (C := RX2) (T := TX2) (N := 3) hx hb hts u_X2 hown hE.1 hP 0 rfl rfl 2 (by decide) (hts _ w_478) (fun _ h9 => h9) rfl dX2_append_32 ?_
  refine lv_iconst (v := 1) hx hb dX2_append_35 (by decide) ?_
  refine lv_iadd hx hb dX2_append_36 ?_
  refine lv_topi (fun v_23 e_23 => ?_)
  obtain rfl : v_23 = 20 := e_23.trans (by decide)
  refine va_put (D := D) (ci := 2) (v := .int 20) (ty := .int) (C := RX2) (T := TX2) (N := 3) hx hb hts u_X2 tyX2 tyX2_ok nmX2 hown hE.1 hP hD hS 0 rfl rfl 2 (by decide) (hts _ w_478) (fun _ h9 => h9) rfl (by decide +kernel) rfl rfl (Nat.le_of_ble_eq_true rfl) dX2_append_37 (fun H locs hP hD hS => ?_)
  have hP : va_P D vwCl [kO h0 2 [.ref z0, .ref h1, .int 20], kI cB h1 700 f_22] H := hP
  have hD : va_D A [kO h0 2 [.ref z0, .ref h1, .int 20], kI cB h1 700 f_22] := hD
  refine lv_iinc (v := (-8)) (lv' := [(2, .int (-8)), (0, .ref h0), (1, .int p0)]) hx hb dX2_append_40 hl (k := 0) rfl (by decide) (by decide) rfl (fun ls hl => ?_)
  refine lv_goto (tgt := 3) hx hb dX2_append_43 (by decide) ?_
  refine lv_iload_n hx hb dX2_append_3 rfl (lv_at hl 0 rfl) ?_
  refine lv_if_lt (tgt := 46) hx hb dX2_append_4 (by decide) (fun _ => ?_) (fun c_24 => absurd c_24 (by decide))
  exact kk_ret_v ((fun i => [].getD i 0), (fun i => [f_22].getD i (fun _ => 0)), (fun i => [].getD i (fun _ => 0)), (fun i => [].getD i 0)) hx hb hr hlocks trivial (hP.sub [0, 1] rfl) (hD.sub [0, 1] (by decide +kernel) rfl) hS dX2_append_46 (Nat.le_of_ble_eq_true rfl) (Nat.le_of_ble_eq_true rfl)
set_option maxHeartbeats 4000000 in
set_option maxRecDepth 100000 in
theorem c_X10_feed (l : Launch) (D : va_G) (cB cI cJ cD : ClassId) (h0 h1 h2 : Nat) (z0 : Nat) (z1 : Nat) (z2 : Nat) (z3 : Nat) (z4 : Nat) (z5 : Nat) (g0 : Nat → Int32) (p0 : Int32) (p1 : Int32) (p2 : Int32) (p3 : Int32) (p4 : Int32) (sz : Nat) : Met l yX10_feed (kk_W yX10_feed cX10_feed 6 (some .int)) ({ frames := 1, cells := 0, slots := 0, locals := 22 }) (va_Pc [.ref h0, .int p0, .int p1, .int p2, .int p3, .int p4] (kk_pre D cB cI cJ cD [kO h0 9 [.ref z0, .ref z1, .ref h1, .ref z2, .int 0, .ref z3, .ref z4], kO h1 2 [.ref z5, .ref h2, .int 0], kI cB h2 700 g0] sz)) (kk_Qi D (fun (r : Int32) (u : (Nat → Nat) × (Nat → Nat → Int32) × (Nat → Nat → Int64) × (Nat → Int32)) => r = 20) (fun u => []) (va_A [kO h0 9 [.ref z0, .ref z1, .ref h1, .ref z2, .int 0, .ref z3, .ref z4], kO h1 2 [.ref z5, .ref h2, .int 0], kI cB h2 700 g0] sz)) 0 0 (va_A [kO h0 9 [.ref z0, .ref z1, .ref h1, .ref z2, .int 0, .ref z3, .ref z4], kO h1 2 [.ref z5, .ref h2, .int 0], kI cB h2 700 g0] sz) := by
  refine kk_start (y := yX10_feed) (maxL := 6) (av := [.ref h0, .int p0, .int p1, .int p2, .int p3, .int p4]) (Qc := fun A => kk_Qi D (fun (r : Int32) (u : (Nat → Nat) × (Nat → Nat → Int32) × (Nat → Nat → Int64) × (Nat → Int32)) => r = 20) (fun u => []) A) (by decide) (Nat.le_of_ble_eq_true rfl) ?_
  intro p e s m below meth c ls A hx hb hr hml hown hts hE hlocks hin hsz hP hD hA hS hl
  have hown : s.vm.findClass RX10 = some m.cls := hown
  have hl : lv_has ls 6 [(0, .ref h0), (1, .int p0), (2, .int p1), (3, .int p2), (4, .int p3), (5, .int p4)] := hl
  refine lv_aload_n hx hb dX10_feed_0 rfl (lv_at hl 0 rfl) ?_
  refine va_get (D := D) (ci := 9) (v := .ref h1) (C := RX10) (T := TX10) (N := 7) hx hb hts u_X10 hown hE.1 hP 0 rfl rfl 2 (by decide) (hts _ w_491) (fun _ h9 => h9) rfl dX10_feed_1 ?_
  refine va_get (D := D) (ci := 2) (v := .int 0) (C := RX2) (T := TX2) (N := 3) hx hb hts u_X2 hown hE.1 hP 1 rfl rfl 2 (by decide) (hts _ w_477) (fun _ h9 => h9) rfl dX10_feed_4 ?_
  refine lv_sipush (v := 680) hx hb dX10_feed_7 (by decide) ?_
  refine lv_icmp_le (tgt := 15) hx hb dX10_feed_10 (by decide) (fun _ => ?_) (fun c_1 => absurd c_1 (by decide))
  refine lv_aload_n hx hb dX10_feed_15 rfl (lv_at hl 0 rfl) ?_
  refine va_get (D := D) (ci := 9) (v := .ref h1) (C := RX10) (T := TX10) (N := 7) hx hb hts u_X10 hown hE.1 hP 0 rfl rfl 2 (by decide) (hts _ w_491) (fun _ h9 => h9) rfl dX10_feed_16 ?_
  refine lv_iload_n hx hb dX10_feed_19 rfl (lv_at hl 1 rfl) ?_
  refine kk_cv (wr := [kO h0 9 [.ref z0, .ref z1, .ref h1, .ref z2, .int 0, .ref z3, .ref z4]]) (kk_runV (w1 := [kO h1 2 [.ref z5, .ref h2, .int 0], kI cB h2 700 g0]) (As := [.int p0]) (rest := []) hx hb hml hown hts hE (c_X2_append l D cB cI cJ cD h1 h2 z5 g0 p0 s.heap.size) m_X2_append w_515 ⟨rfl, rfl, Nat.le_of_ble_eq_true rfl, Nat.le_of_ble_eq_true rfl⟩ (hP.sub [1, 2] rfl) (hD.sub [1, 2] (by decide +kernel) rfl) 0 2 rfl rfl rfl hl.1 (Nat.le_of_ble_eq_true rfl) dX10_feed_20 ⟨Nat.le_of_ble_eq_true rfl, Nat.le_of_ble_eq_true rfl⟩) hP hD hS hA [1, 2] [0] rfl rfl (by decide +kernel) (by decide +kernel) (fun u_2 H locs p_2 hP hD hS => ?_)
  have hP : va_P D vwCl [kO h0 9 [.ref z0, .ref z1, .ref h1, .ref z2, .int 0, .ref z3, .ref z4], kO h1 2 [.ref z5, .ref h2, .int 4], kI cB h2 700 (u_2.2.1 0)] H := hP
  have hD : va_D A [kO h0 9 [.ref z0, .ref z1, .ref h1, .ref z2, .int 0, .ref z3, .ref z4], kO h1 2 [.ref z5, .ref h2, .int 4], kI cB h2 700 (u_2.2.1 0)] := hD
  refine lv_aload_n hx hb dX10_feed_23 rfl (lv_at hl 0 rfl) ?_
  refine va_get (D := D) (ci := 9) (v := .ref h1) (C := RX10) (T := TX10) (N := 7) hx hb hts u_X10 hown hE.1 hP 0 rfl rfl 2 (by decide) (hts _ w_491) (fun _ h9 => h9) rfl dX10_feed_24 ?_
  refine lv_iload_n hx hb dX10_feed_27 rfl (lv_at hl 2 rfl) ?_
  refine kk_cv (wr := [kO h0 9 [.ref z0, .ref z1, .ref h1, .ref z2, .int 0, .ref z3, .ref z4]]) (kk_runV (w1 := [kO h1 2 [.ref z5, .ref h2, .int 4], kI cB h2 700 (u_2.2.1 0)]) (As := [.int p1]) (rest := []) hx hb hml hown hts hE (c_X2_append_2 l D cB cI cJ cD h1 h2 z5 (u_2.2.1 0) p1 H.size) m_X2_append w_515 ⟨rfl, rfl, Nat.le_of_ble_eq_true rfl, Nat.le_of_ble_eq_true rfl⟩ (hP.sub [1, 2] rfl) (hD.sub [1, 2] (by decide +kernel) rfl) 0 2 rfl rfl rfl hl.1 (Nat.le_of_ble_eq_true rfl) dX10_feed_28 ⟨Nat.le_of_ble_eq_true rfl, Nat.le_of_ble_eq_true rfl⟩) hP hD hS hA [1, 2] [0] rfl rfl (by decide +kernel) (by decide +kernel) (fun u_3 H locs p_3 hP hD hS => ?_)
  have hP : va_P D vwCl [kO h0 9 [.ref z0, .ref z1, .ref h1, .ref z2, .int 0, .ref z3, .ref z4], kO h1 2 [.ref z5, .ref h2, .int 8], kI cB h2 700 (u_3.2.1 0)] H := hP
  have hD : va_D A [kO h0 9 [.ref z0, .ref z1, .ref h1, .ref z2, .int 0, .ref z3, .ref z4], kO h1 2 [.ref z5, .ref h2, .int 8], kI cB h2 700 (u_3.2.1 0)] := hD
  refine lv_aload_n hx hb dX10_feed_31 rfl (lv_at hl 0 rfl) ?_
  refine va_get (D := D) (ci := 9) (v := .ref h1) (C := RX10) (T := TX10) (N := 7) hx hb hts u_X10 hown hE.1 hP 0 rfl rfl 2 (by decide) (hts _ w_491) (fun _ h9 => h9) rfl dX10_feed_32 ?_
  refine lv_iload_n hx hb dX10_feed_35 rfl (lv_at hl 3 rfl) ?_
  refine kk_cv (wr := [kO h0 9 [.ref z0, .ref z1, .ref h1, .ref z2, .int 0, .ref z3, .ref z4]]) (kk_runV (w1 := [kO h1 2 [.ref z5, .ref h2, .int 8], kI cB h2 700 (u_3.2.1 0)]) (As := [.int p2]) (rest := []) hx hb hml hown hts hE (c_X2_append_3 l D cB cI cJ cD h1 h2 z5 (u_3.2.1 0) p2 H.size) m_X2_append w_515 ⟨rfl, rfl, Nat.le_of_ble_eq_true rfl, Nat.le_of_ble_eq_true rfl⟩ (hP.sub [1, 2] rfl) (hD.sub [1, 2] (by decide +kernel) rfl) 0 2 rfl rfl rfl hl.1 (Nat.le_of_ble_eq_true rfl) dX10_feed_36 ⟨Nat.le_of_ble_eq_true rfl, Nat.le_of_ble_eq_true rfl⟩) hP hD hS hA [1, 2] [0] rfl rfl (by decide +kernel) (by decide +kernel) (fun u_4 H locs p_4 hP hD hS => ?_)
  have hP : va_P D vwCl [kO h0 9 [.ref z0, .ref z1, .ref h1, .ref z2, .int 0, .ref z3, .ref z4], kO h1 2 [.ref z5, .ref h2, .int 12], kI cB h2 700 (u_4.2.1 0)] H := hP
  have hD : va_D A [kO h0 9 [.ref z0, .ref z1, .ref h1, .ref z2, .int 0, .ref z3, .ref z4], kO h1 2 [.ref z5, .ref h2, .int 12], kI cB h2 700 (u_4.2.1 0)] := hD
  refine lv_aload_n hx hb dX10_feed_39 rfl (lv_at hl 0 rfl) ?_
  refine va_get (D := D) (ci := 9) (v := .ref h1) (C := RX10) (T := TX10) (N := 7) hx hb hts u_X10 hown hE.1 hP 0 rfl rfl 2 (by decide) (hts _ w_491) (fun _ h9 => h9) rfl dX10_feed_40 ?_
  refine lv_iload hx hb dX10_feed_43 (lv_at hl 4 rfl) ?_
  refine kk_cv (wr := [kO h0 9 [.ref z0, .ref z1, .ref h1, .ref z2, .int 0, .ref z3, .ref z4]]) (kk_runV (w1 := [kO h1 2 [.ref z5, .ref h2, .int 12], kI cB h2 700 (u_4.2.1 0)]) (As := [.int p3]) (rest := []) hx hb hml hown hts hE (c_X2_append_4 l D cB cI cJ cD h1 h2 z5 (u_4.2.1 0) p3 H.size) m_X2_append w_515 ⟨rfl, rfl, Nat.le_of_ble_eq_true rfl, Nat.le_of_ble_eq_true rfl⟩ (hP.sub [1, 2] rfl) (hD.sub [1, 2] (by decide +kernel) rfl) 0 2 rfl rfl rfl hl.1 (Nat.le_of_ble_eq_true rfl) dX10_feed_45 ⟨Nat.le_of_ble_eq_true rfl, Nat.le_of_ble_eq_true rfl⟩) hP hD hS hA [1, 2] [0] rfl rfl (by decide +kernel) (by decide +kernel) (fun u_5 H locs p_5 hP hD hS => ?_)
  have hP : va_P D vwCl [kO h0 9 [.ref z0, .ref z1, .ref h1, .ref z2, .int 0, .ref z3, .ref z4], kO h1 2 [.ref z5, .ref h2, .int 16], kI cB h2 700 (u_5.2.1 0)] H := hP
  have hD : va_D A [kO h0 9 [.ref z0, .ref z1, .ref h1, .ref z2, .int 0, .ref z3, .ref z4], kO h1 2 [.ref z5, .ref h2, .int 16], kI cB h2 700 (u_5.2.1 0)] := hD
  refine lv_aload_n hx hb dX10_feed_48 rfl (lv_at hl 0 rfl) ?_
  refine va_get (D := D) (ci := 9) (v := .ref h1) (C := RX10) (T := TX10) (N := 7) hx hb hts u_X10 hown hE.1 hP 0 rfl rfl 2 (by decide) (hts _ w_491) (fun _ h9 => h9) rfl dX10_feed_49 ?_
  refine lv_iload hx hb dX10_feed_52 (lv_at hl 5 rfl) ?_
  refine kk_cv (wr := [kO h0 9 [.ref z0, .ref z1, .ref h1, .ref z2, .int 0, .ref z3, .ref z4]]) (kk_runV (w1 := [kO h1 2 [.ref z5, .ref h2, .int 16], kI cB h2 700 (u_5.2.1 0)]) (As := [.int p4]) (rest := []) hx hb hml hown hts hE (c_X2_append_5 l D cB cI cJ cD h1 h2 z5 (u_5.2.1 0) p4 H.size) m_X2_append w_515 ⟨rfl, rfl, Nat.le_of_ble_eq_true rfl, Nat.le_of_ble_eq_true rfl⟩ (hP.sub [1, 2] rfl) (hD.sub [1, 2] (by decide +kernel) rfl) 0 2 rfl rfl rfl hl.1 (Nat.le_of_ble_eq_true rfl) dX10_feed_54 ⟨Nat.le_of_ble_eq_true rfl, Nat.le_of_ble_eq_true rfl⟩) hP hD hS hA [1, 2] [0] rfl rfl (by decide +kernel) (by decide +kernel) (fun u_6 H locs p_6 hP hD hS => ?_)
  have hP : va_P D vwCl [kO h0 9 [.ref z0, .ref z1, .ref h1, .ref z2, .int 0, .ref z3, .ref z4], kO h1 2 [.ref z5, .ref h2, .int 20], kI cB h2 700 (u_6.2.1 0)] H := hP
  have hD : va_D A [kO h0 9 [.ref z0, .ref z1, .ref h1, .ref z2, .int 0, .ref z3, .ref z4], kO h1 2 [.ref z5, .ref h2, .int 20], kI cB h2 700 (u_6.2.1 0)] := hD
  refine lv_aload_n hx hb dX10_feed_57 rfl (lv_at hl 0 rfl) ?_
  refine va_get (D := D) (ci := 9) (v := .ref h1) (C := RX10) (T := TX10) (N := 7) hx hb hts u_X10 hown hE.1 hP 0 rfl rfl 2 (by decide) (hts _ w_491) (fun _ h9 => h9) rfl dX10_feed_58 ?_
  refine va_get (D := D) (ci := 2) (v := .int 20) (C := RX2) (T := TX2) (N := 3) hx hb hts u_X2 hown hE.1 hP 1 rfl rfl 2 (by decide) (hts _ w_477) (fun _ h9 => h9) rfl dX10_feed_61 ?_
  exact kk_ret_i ((fun _ => 0), (fun _ _ => 0), (fun _ _ => 0), (fun _ => 0)) hx hb hr hlocks rfl kk_P0 kk_D0 hS dX10_feed_64 (Nat.le_of_ble_eq_true rfl) (Nat.le_of_ble_eq_true rfl)
set_option maxHeartbeats 4000000 in
set_option maxRecDepth 100000 in
theorem c_X6_clear (l : Launch) (D : va_G) (cB cI cJ cD : ClassId) (h0 h1 : Nat) (z0 : Nat) (z1 : Nat) (z2 : Nat) (z3 : Nat) (z4 : Nat) (z5 : Nat) (z6 : Nat) (z7 : Nat) (z8 : Nat) (z9 : Nat) (z10 : Nat) (z11 : Nat) (z12 : Nat) (sz : Nat) : Met l yX6_clear (kk_W yX6_clear cX6_clear 1 none) ({ frames := 0, cells := 0, slots := 0, locals := 0 }) (va_Pc [.ref h0] (kk_pre D cB cI cJ cD [kO h0 5 [.int 0, .int 0, .int 0, .ref h1, .ref z0, .ref z1, .ref z2, .ref z3, .ref z4, .ref z5], kO h1 6 [.int 0, .ref z6, .ref z7, .ref z8, .ref z9, .ref z10, .ref z11, .ref z12]] sz)) (kk_Qv D (fun (u : (Nat → Nat) × (Nat → Nat → Int32) × (Nat → Nat → Int64) × (Nat → Int32)) => True) (fun u => [kO h0 5 [.int 0, .int 0, .int 0, .ref h1, .ref z0, .ref z1, .ref z2, .ref z3, .ref z4, .ref z5], kO h1 6 [.int 0, .ref z6, .ref z7, .ref z8, .ref z9, .ref z10, .ref z11, .ref z12]]) (va_A [kO h0 5 [.int 0, .int 0, .int 0, .ref h1, .ref z0, .ref z1, .ref z2, .ref z3, .ref z4, .ref z5], kO h1 6 [.int 0, .ref z6, .ref z7, .ref z8, .ref z9, .ref z10, .ref z11, .ref z12]] sz)) 0 0 (va_A [kO h0 5 [.int 0, .int 0, .int 0, .ref h1, .ref z0, .ref z1, .ref z2, .ref z3, .ref z4, .ref z5], kO h1 6 [.int 0, .ref z6, .ref z7, .ref z8, .ref z9, .ref z10, .ref z11, .ref z12]] sz) := by
  refine kk_start (y := yX6_clear) (maxL := 1) (av := [.ref h0]) (Qc := fun A => kk_Qv D (fun (u : (Nat → Nat) × (Nat → Nat → Int32) × (Nat → Nat → Int64) × (Nat → Int32)) => True) (fun u => [kO h0 5 [.int 0, .int 0, .int 0, .ref h1, .ref z0, .ref z1, .ref z2, .ref z3, .ref z4, .ref z5], kO h1 6 [.int 0, .ref z6, .ref z7, .ref z8, .ref z9, .ref z10, .ref z11, .ref z12]]) A) (by decide) (Nat.le_of_ble_eq_true rfl) ?_
  intro p e s m below meth c ls A hx hb hr hml hown hts hE hlocks hin hsz hP hD hA hS hl
  have hown : s.vm.findClass RX6 = some m.cls := hown
  have hl : lv_has ls 1 [(0, .ref h0)] := hl
  refine lv_aload_n hx hb dX6_clear_0 rfl (lv_at hl 0 rfl) ?_
  refine lv_iconst (v := 0) hx hb dX6_clear_1 (by decide) ?_
  refine va_put (D := D) (ci := 5) (v := .int 0) (ty := .int) (C := RX6) (T := TX6) (N := 10) hx hb hts u_X6 tyX6 tyX6_ok nmX6 hown hE.1 hP hD hS 0 rfl rfl 0 (by decide) (hts _ w_203) (fun _ h9 => h9) rfl (by decide +kernel) rfl rfl (Nat.le_of_ble_eq_true rfl) dX6_clear_2 (fun H locs hP hD hS => ?_)
  have hP : va_P D vwCl [kO h0 5 [.int 0, .int 0, .int 0, .ref h1, .ref z0, .ref z1, .ref z2, .ref z3, .ref z4, .ref z5], kO h1 6 [.int 0, .ref z6, .ref z7, .ref z8, .ref z9, .ref z10, .ref z11, .ref z12]] H := hP
  have hD : va_D A [kO h0 5 [.int 0, .int 0, .int 0, .ref h1, .ref z0, .ref z1, .ref z2, .ref z3, .ref z4, .ref z5], kO h1 6 [.int 0, .ref z6, .ref z7, .ref z8, .ref z9, .ref z10, .ref z11, .ref z12]] := hD
  refine lv_aload_n hx hb dX6_clear_5 rfl (lv_at hl 0 rfl) ?_
  refine lv_iconst (v := 0) hx hb dX6_clear_6 (by decide) ?_
  refine va_put (D := D) (ci := 5) (v := .int 0) (ty := .int) (C := RX6) (T := TX6) (N := 10) hx hb hts u_X6 tyX6 tyX6_ok nmX6 hown hE.1 hP hD hS 0 rfl rfl 1 (by decide) (hts _ w_206) (fun _ h9 => h9) rfl (by decide +kernel) rfl rfl (Nat.le_of_ble_eq_true rfl) dX6_clear_7 (fun H locs hP hD hS => ?_)
  have hP : va_P D vwCl [kO h0 5 [.int 0, .int 0, .int 0, .ref h1, .ref z0, .ref z1, .ref z2, .ref z3, .ref z4, .ref z5], kO h1 6 [.int 0, .ref z6, .ref z7, .ref z8, .ref z9, .ref z10, .ref z11, .ref z12]] H := hP
  have hD : va_D A [kO h0 5 [.int 0, .int 0, .int 0, .ref h1, .ref z0, .ref z1, .ref z2, .ref z3, .ref z4, .ref z5], kO h1 6 [.int 0, .ref z6, .ref z7, .ref z8, .ref z9, .ref z10, .ref z11, .ref z12]] := hD
  refine lv_aload_n hx hb dX6_clear_10 rfl (lv_at hl 0 rfl) ?_
  refine lv_iconst (v := 0) hx hb dX6_clear_11 (by decide) ?_
  refine va_put (D := D) (ci := 5) (v := .int 0) (ty := .int) (C := RX6) (T := TX6) (N := 10) hx hb hts u_X6 tyX6 tyX6_ok nmX6 hown hE.1 hP hD hS 0 rfl rfl 2 (by decide) (hts _ w_211) (fun _ h9 => h9) rfl (by decide +kernel) rfl rfl (Nat.le_of_ble_eq_true rfl) dX6_clear_12 (fun H locs hP hD hS => ?_)
  have hP : va_P D vwCl [kO h0 5 [.int 0, .int 0, .int 0, .ref h1, .ref z0, .ref z1, .ref z2, .ref z3, .ref z4, .ref z5], kO h1 6 [.int 0, .ref z6, .ref z7, .ref z8, .ref z9, .ref z10, .ref z11, .ref z12]] H := hP
  have hD : va_D A [kO h0 5 [.int 0, .int 0, .int 0, .ref h1, .ref z0, .ref z1, .ref z2, .ref z3, .ref z4, .ref z5], kO h1 6 [.int 0, .ref z6, .ref z7, .ref z8, .ref z9, .ref z10, .ref z11, .ref z12]] := hD
  refine lv_aload_n hx hb dX6_clear_15 rfl (lv_at hl 0 rfl) ?_
  refine va_get (D := D) (ci := 5) (v := .ref h1) (C := RX6) (T := TX6) (N := 10) hx hb hts u_X6 hown hE.1 hP 0 rfl rfl 3 (by decide) (hts _ w_216) (fun _ h9 => h9) rfl dX6_clear_16 ?_
  refine lv_iconst (v := 0) hx hb dX6_clear_19 (by decide) ?_
  refine va_put (D := D) (ci := 6) (v := .int 0) (ty := .int) (C := RX7) (T := TX7) (N := 8) hx hb hts u_X7 tyX7 tyX7_ok nmX7 hown hE.1 hP hD hS 1 rfl rfl 0 (by decide) (hts _ w_158) (fun _ h9 => h9) rfl (by decide +kernel) rfl rfl (Nat.le_of_ble_eq_true rfl) dX6_clear_20 (fun H locs hP hD hS => ?_)
  have hP : va_P D vwCl [kO h0 5 [.int 0, .int 0, .int 0, .ref h1, .ref z0, .ref z1, .ref z2, .ref z3, .ref z4, .ref z5], kO h1 6 [.int 0, .ref z6, .ref z7, .ref z8, .ref z9, .ref z10, .ref z11, .ref z12]] H := hP
  have hD : va_D A [kO h0 5 [.int 0, .int 0, .int 0, .ref h1, .ref z0, .ref z1, .ref z2, .ref z3, .ref z4, .ref z5], kO h1 6 [.int 0, .ref z6, .ref z7, .ref z8, .ref z9, .ref z10, .ref z11, .ref z12]] := hD
  exact kk_ret_v ((fun i => [].getD i 0), (fun i => [].getD i (fun _ => 0)), (fun i => [].getD i (fun _ => 0)), (fun i => [].getD i 0)) hx hb hr hlocks trivial (hP.sub [0, 1] rfl) (hD.sub [0, 1] (by decide +kernel) rfl) hS dX6_clear_23 (Nat.le_of_ble_eq_true rfl) (Nat.le_of_ble_eq_true rfl)
set_option maxHeartbeats 4000000 in
set_option maxRecDepth 100000 in
theorem c_X5_step (l : Launch) (D : va_G) (cB cI cJ cD : ClassId) (h0 : Nat) (z0 : Nat) (z1 : Nat) (sz : Nat) : Met l yX5_step (kk_W yX5_step cX5_step 1 none) ({ frames := 0, cells := 0, slots := 0, locals := 0 }) (va_Pc [.ref h0] (kk_pre D cB cI cJ cD [kO h0 4 [.int 0, .int (-1), .ref z0, .int 0, .int 0, .int 0, .int 0, .int 0, .ref z1]] sz)) (kk_Qv D (fun (u : (Nat → Nat) × (Nat → Nat → Int32) × (Nat → Nat → Int64) × (Nat → Int32)) => True) (fun u => [kO h0 4 [.int 0, .int (-1), .ref z0, .int 0, .int 0, .int 0, .int 0, .int 0, .ref z1]]) (va_A [kO h0 4 [.int 0, .int (-1), .ref z0, .int 0, .int 0, .int 0, .int 0, .int 0, .ref z1]] sz)) 0 0 (va_A [kO h0 4 [.int 0, .int (-1), .ref z0, .int 0, .int 0, .int 0, .int 0, .int 0, .ref z1]] sz) := by
  refine kk_start (y := yX5_step) (maxL := 1) (av := [.ref h0]) (Qc := fun A => kk_Qv D (fun (u : (Nat → Nat) × (Nat → Nat → Int32) × (Nat → Nat → Int64) × (Nat → Int32)) => True) (fun u => [kO h0 4 [.int 0, .int (-1), .ref z0, .int 0, .int 0, .int 0, .int 0, .int 0, .ref z1]]) A) (by decide) (Nat.le_of_ble_eq_true rfl) ?_
  intro p e s m below meth c ls A hx hb hr hml hown hts hE hlocks hin hsz hP hD hA hS hl
  have hown : s.vm.findClass RX5 = some m.cls := hown
  have hl : lv_has ls 1 [(0, .ref h0)] := hl
  refine lv_aload_n hx hb dX5_step_0 rfl (lv_at hl 0 rfl) ?_
  refine va_get (D := D) (ci := 4) (v := .int 0) (C := RX5) (T := TX5) (N := 9) hx hb hts u_X5 hown hE.1 hP 0 rfl rfl 4 (by decide) (hts _ w_262) (fun _ h9 => h9) rfl dX5_step_1 ?_
  refine lv_aload_n hx hb dX5_step_4 rfl (lv_at hl 0 rfl) ?_
  refine va_get (D := D) (ci := 4) (v := .int 0) (C := RX5) (T := TX5) (N := 9) hx hb hts u_X5 hown hE.1 hP 0 rfl rfl 3 (by decide) (hts _ w_261) (fun _ h9 => h9) rfl dX5_step_5 ?_
  refine lv_icmp_ge (tgt := 52) hx hb dX5_step_8 (by decide) (fun _ => ?_) (fun c_1 => absurd c_1 (by decide))
  refine lv_aload_n hx hb dX5_step_52 rfl (lv_at hl 0 rfl) ?_
  refine lv_aload_n hx hb dX5_step_53 rfl (lv_at hl 0 rfl) ?_
  refine va_get (D := D) (ci := 4) (v := .int 0) (C := RX5) (T := TX5) (N := 9) hx hb hts u_X5 hown hE.1 hP 0 rfl rfl 4 (by decide) (hts _ w_262) (fun _ h9 => h9) rfl dX5_step_54 ?_
  refine va_put (D := D) (ci := 4) (v := .int 0) (ty := .int) (C := RX5) (T := TX5) (N := 9) hx hb hts u_X5 tyX5 tyX5_ok nmX5 hown hE.1 hP hD hS 0 rfl rfl 6 (by decide) (hts _ w_264) (fun _ h9 => h9) rfl (by decide +kernel) rfl rfl (Nat.le_of_ble_eq_true rfl) dX5_step_57 (fun H locs hP hD hS => ?_)
  have hP : va_P D vwCl [kO h0 4 [.int 0, .int (-1), .ref z0, .int 0, .int 0, .int 0, .int 0, .int 0, .ref z1]] H := hP
  have hD : va_D A [kO h0 4 [.int 0, .int (-1), .ref z0, .int 0, .int 0, .int 0, .int 0, .int 0, .ref z1]] := hD
  refine lv_aload_n hx hb dX5_step_60 rfl (lv_at hl 0 rfl) ?_
  refine lv_iconst (v := 0) hx hb dX5_step_61 (by decide) ?_
  refine va_put (D := D) (ci := 4) (v := .int 0) (ty := .int) (C := RX5) (T := TX5) (N := 9) hx hb hts u_X5 tyX5 tyX5_ok nmX5 hown hE.1 hP hD hS 0 rfl rfl 7 (by decide) (hts _ w_265) (fun _ h9 => h9) rfl (by decide +kernel) rfl rfl (Nat.le_of_ble_eq_true rfl) dX5_step_62 (fun H locs hP hD hS => ?_)
  have hP : va_P D vwCl [kO h0 4 [.int 0, .int (-1), .ref z0, .int 0, .int 0, .int 0, .int 0, .int 0, .ref z1]] H := hP
  have hD : va_D A [kO h0 4 [.int 0, .int (-1), .ref z0, .int 0, .int 0, .int 0, .int 0, .int 0, .ref z1]] := hD
  refine lv_aload_n hx hb dX5_step_65 rfl (lv_at hl 0 rfl) ?_
  refine va_get (D := D) (ci := 4) (v := .int 0) (C := RX5) (T := TX5) (N := 9) hx hb hts u_X5 hown hE.1 hP 0 rfl rfl 4 (by decide) (hts _ w_262) (fun _ h9 => h9) rfl dX5_step_66 ?_
  refine lv_aload_n hx hb dX5_step_69 rfl (lv_at hl 0 rfl) ?_
  refine va_get (D := D) (ci := 4) (v := .int 0) (C := RX5) (T := TX5) (N := 9) hx hb hts u_X5 hown hE.1 hP 0 rfl rfl 3 (by decide) (hts _ w_261) (fun _ h9 => h9) rfl dX5_step_70 ?_
  refine lv_icmp_lt (tgt := 84) hx hb dX5_step_73 (by decide) (fun c_2 => absurd c_2 (by decide)) (fun _ => ?_)
  refine lv_aload_n hx hb dX5_step_76 rfl (lv_at hl 0 rfl) ?_
  refine lv_iconst (v := 0) hx hb dX5_step_77 (by decide) ?_
  refine va_put (D := D) (ci := 4) (v := .int 0) (ty := .int) (C := RX5) (T := TX5) (N := 9) hx hb hts u_X5 tyX5 tyX5_ok nmX5 hown hE.1 hP hD hS 0 rfl rfl 5 (by decide) (hts _ w_263) (fun _ h9 => h9) rfl (by decide +kernel) rfl rfl (Nat.le_of_ble_eq_true rfl) dX5_step_78 (fun H locs hP hD hS => ?_)
  have hP : va_P D vwCl [kO h0 4 [.int 0, .int (-1), .ref z0, .int 0, .int 0, .int 0, .int 0, .int 0, .ref z1]] H := hP
  have hD : va_D A [kO h0 4 [.int 0, .int (-1), .ref z0, .int 0, .int 0, .int 0, .int 0, .int 0, .ref z1]] := hD
  refine lv_goto (tgt := 187) hx hb dX5_step_81 (by decide) ?_
  exact kk_ret_v ((fun i => [].getD i 0), (fun i => [].getD i (fun _ => 0)), (fun i => [].getD i (fun _ => 0)), (fun i => [].getD i 0)) hx hb hr hlocks trivial (hP.sub [0] rfl) (hD.sub [0] (by decide +kernel) rfl) hS dX5_step_187 (Nat.le_of_ble_eq_true rfl) (Nat.le_of_ble_eq_true rfl)
set_option maxHeartbeats 4000000 in
set_option maxRecDepth 100000 in
theorem c_X5_readAll (l : Launch) (D : va_G) (cB cI cJ cD : ClassId) (h0 h1 h2 h3 : Nat) (z0 : Nat) (z1 : Nat) (z2 : Nat) (z3 : Nat) (z4 : Nat) (z5 : Nat) (z6 : Nat) (z7 : Nat) (z8 : Nat) (z9 : Nat) (z10 : Nat) (z11 : Nat) (z12 : Nat) (z13 : Nat) (z14 : Nat) (g0 : Nat → Int32) (sz : Nat) : Met l yX5_readAll (kk_W yX5_readAll cX5_readAll 5 (some .boolean)) ({ frames := 1, cells := 0, slots := 0, locals := 22 }) (va_Pc [.ref h0, .ref h1, .ref h3, .int 0] (kk_pre D cB cI cJ cD [kO h0 4 [.int 0, .int (-1), .ref z0, .int 0, .int 0, .int 0, .int 0, .int 0, .ref z1], kO h1 5 [.int 0, .int 0, .int 0, .ref h2, .ref z2, .ref z3, .ref z4, .ref z5, .ref z6, .ref z7], kO h2 6 [.int 0, .ref z8, .ref z9, .ref z10, .ref z11, .ref z12, .ref z13, .ref z14], kI cB h3 700 g0] sz)) (kk_Qi D (fun (r : Int32) (u : (Nat → Nat) × (Nat → Nat → Int32) × (Nat → Nat → Int64) × (Nat → Int32)) => r = 1) (fun u => [kO h0 4 [.int 0, .int (-1), .ref h3, .int 0, .int 0, .int 0, .int 0, .int 0, .ref h1], kO h1 5 [.int 0, .int 0, .int 0, .ref h2, .ref z2, .ref z3, .ref z4, .ref z5, .ref z6, .ref z7], kO h2 6 [.int 0, .ref z8, .ref z9, .ref z10, .ref z11, .ref z12, .ref z13, .ref z14], kI cB h3 700 g0]) (va_A [kO h0 4 [.int 0, .int (-1), .ref z0, .int 0, .int 0, .int 0, .int 0, .int 0, .ref z1], kO h1 5 [.int 0, .int 0, .int 0, .ref h2, .ref z2, .ref z3, .ref z4, .ref z5, .ref z6, .ref z7], kO h2 6 [.int 0, .ref z8, .ref z9, .ref z10, .ref z11, .ref z12, .ref z13, .ref z14], kI cB h3 700 g0] sz)) 0 0 (va_A [kO h0 4 [.int 0, .int (-1), .ref z0, .int 0, .int 0, .int 0, .int 0, .int 0, .ref z1], kO h1 5 [.int 0, .int 0, .int 0, .ref h2, .ref z2, .ref z3, .ref z4, .ref z5, .ref z6, .ref z7], kO h2 6 [.int 0, .ref z8, .ref z9, .ref z10, .ref z11, .ref z12, .ref z13, .ref z14], kI cB h3 700 g0] sz) := by
  refine kk_start (y := yX5_readAll) (maxL := 5) (av := [.ref h0, .ref h1, .ref h3, .int 0]) (Qc := fun A => kk_Qi D (fun (r : Int32) (u : (Nat → Nat) × (Nat → Nat → Int32) × (Nat → Nat → Int64) × (Nat → Int32)) => r = 1) (fun u => [kO h0 4 [.int 0, .int (-1), .ref h3, .int 0, .int 0, .int 0, .int 0, .int 0, .ref h1], kO h1 5 [.int 0, .int 0, .int 0, .ref h2, .ref z2, .ref z3, .ref z4, .ref z5, .ref z6, .ref z7], kO h2 6 [.int 0, .ref z8, .ref z9, .ref z10, .ref z11, .ref z12, .ref z13, .ref z14], kI cB h3 700 g0]) A) (by decide) (Nat.le_of_ble_eq_true rfl) ?_
  intro p e s m below meth c ls A hx hb hr hml hown hts hE hlocks hin hsz hP hD hA hS hl
  have hown : s.vm.findClass RX5 = some m.cls := hown
  have hl : lv_has ls 5 [(0, .ref h0), (1, .ref h1), (2, .ref h3), (3, .int 0)] := hl
  refine lv_aload_n hx hb dX5_readAll_0 rfl (lv_at hl 0 rfl) ?_
  refine lv_aload_n hx hb dX5_readAll_1 rfl (lv_at hl 1 rfl) ?_
  refine va_put (D := D) (ci := 4) (v := .ref h1) (ty := (.object "GapLocks$Script")) (C := RX5) (T := TX5) (N := 9) hx hb hts u_X5 tyX5 tyX5_ok nmX5 hown hE.1 hP hD hS 0 rfl rfl 8 (by decide) (hts _ w_266) (fun _ h9 => h9) rfl (by decide +kernel) rfl rfl (Nat.le_of_ble_eq_true rfl) dX5_readAll_2 (fun H locs hP hD hS => ?_)
  have hP : va_P D vwCl [kO h0 4 [.int 0, .int (-1), .ref z0, .int 0, .int 0, .int 0, .int 0, .int 0, .ref h1], kO h1 5 [.int 0, .int 0, .int 0, .ref h2, .ref z2, .ref z3, .ref z4, .ref z5, .ref z6, .ref z7], kO h2 6 [.int 0, .ref z8, .ref z9, .ref z10, .ref z11, .ref z12, .ref z13, .ref z14], kI cB h3 700 g0] H := hP
  have hD : va_D A [kO h0 4 [.int 0, .int (-1), .ref z0, .int 0, .int 0, .int 0, .int 0, .int 0, .ref h1], kO h1 5 [.int 0, .int 0, .int 0, .ref h2, .ref z2, .ref z3, .ref z4, .ref z5, .ref z6, .ref z7], kO h2 6 [.int 0, .ref z8, .ref z9, .ref z10, .ref z11, .ref z12, .ref z13, .ref z14], kI cB h3 700 g0] := hD
  refine lv_aload_n hx hb dX5_readAll_5 rfl (lv_at hl 0 rfl) ?_
  refine va_get (D := D) (ci := 4) (v := .ref h1) (C := RX5) (T := TX5) (N := 9) hx hb hts u_X5 hown hE.1 hP 0 rfl rfl 8 (by decide) (hts _ w_266) (fun _ h9 => h9) rfl dX5_readAll_6 ?_
  refine kk_cv (wr := [kO h0 4 [.int 0, .int (-1), .ref z0, .int 0, .int 0, .int 0, .int 0, .int 0, .ref h1], kI cB h3 700 g0]) (kk_runV (w1 := [kO h1 5 [.int 0, .int 0, .int 0, .ref h2, .ref z2, .ref z3, .ref z4, .ref z5, .ref z6, .ref z7], kO h2 6 [.int 0, .ref z8, .ref z9, .ref z10, .ref z11, .ref z12, .ref z13, .ref z14]]) (As := []) (rest := []) hx hb hml hown hts hE (c_X6_clear l D cB cI cJ cD h1 h2 z2 z3 z4 z5 z6 z7 z8 z9 z10 z11 z12 z13 z14 H.size) m_X6_clear w_527 ⟨rfl, rfl, Nat.le_of_ble_eq_true rfl, Nat.le_of_ble_eq_true rfl⟩ (hP.sub [1, 2] rfl) (hD.sub [1, 2] (by decide +kernel) rfl) 0 5 rfl rfl rfl hl.1 (Nat.le_of_ble_eq_true rfl) dX5_readAll_9 ⟨Nat.le_of_ble_eq_true rfl, Nat.le_of_ble_eq_true rfl⟩) hP hD hS hA [1, 2] [0, 3] rfl rfl (by decide +kernel) (by decide +kernel) (fun u_1 H locs p_1 hP hD hS => ?_)
  have hP : va_P D vwCl [kO h0 4 [.int 0, .int (-1), .ref z0, .int 0, .int 0, .int 0, .int 0, .int 0, .ref h1], kI cB h3 700 g0, kO h1 5 [.int 0, .int 0, .int 0, .ref h2, .ref z2, .ref z3, .ref z4, .ref z5, .ref z6, .ref z7], kO h2 6 [.int 0, .ref z8, .ref z9, .ref z10, .ref z11, .ref z12, .ref z13, .ref z14]] H := hP
  have hD : va_D A [kO h0 4 [.int 0, .int (-1), .ref z0, .int 0, .int 0, .int 0, .int 0, .int 0, .ref h1], kI cB h3 700 g0, kO h1 5 [.int 0, .int 0, .int 0, .ref h2, .ref z2, .ref z3, .ref z4, .ref z5, .ref z6, .ref z7], kO h2 6 [.int 0, .ref z8, .ref z9, .ref z10, .ref z11, .ref z12, .ref z13, .ref z14]] := hD
  refine lv_aload_n hx hb dX5_readAll_12 rfl (lv_at hl 0 rfl) ?_
  refine lv_aload_n hx hb dX5_readAll_13 rfl (lv_at hl 2 rfl) ?_
  refine va_put (D := D) (ci := 4) (v := .ref h3) (ty := (.array .byte)) (C := RX5) (T := TX5) (N := 9) hx hb hts u_X5 tyX5 tyX5_ok nmX5 hown hE.1 hP hD hS 0 rfl rfl 2 (by decide) (hts _ w_260) (fun _ h9 => h9) rfl (by decide +kernel) rfl rfl (Nat.le_of_ble_eq_true rfl) dX5_readAll_14 (fun H locs hP hD hS => ?_)
  have hP : va_P D vwCl [kO h0 4 [.int 0, .int (-1), .ref h3, .int 0, .int 0, .int 0, .int 0, .int 0, .ref h1], kI cB h3 700 g0, kO h1 5 [.int 0, .int 0, .int 0, .ref h2, .ref z2, .ref z3, .ref z4, .ref z5, .ref z6, .ref z7], kO h2 6 [.int 0, .ref z8, .ref z9, .ref z10, .ref z11, .ref z12, .ref z13, .ref z14]] H := hP
  have hD : va_D A [kO h0 4 [.int 0, .int (-1), .ref h3, .int 0, .int 0, .int 0, .int 0, .int 0, .ref h1], kI cB h3 700 g0, kO h1 5 [.int 0, .int 0, .int 0, .ref h2, .ref z2, .ref z3, .ref z4, .ref z5, .ref z6, .ref z7], kO h2 6 [.int 0, .ref z8, .ref z9, .ref z10, .ref z11, .ref z12, .ref z13, .ref z14]] := hD
  refine lv_aload_n hx hb dX5_readAll_17 rfl (lv_at hl 0 rfl) ?_
  refine lv_iload_n hx hb dX5_readAll_18 rfl (lv_at hl 3 rfl) ?_
  refine lv_aload_n hx hb dX5_readAll_19 rfl (lv_at hl 2 rfl) ?_
  refine va_alen (v := 700) hx hb hE.1 hP 1 0 rfl rfl rfl dX5_readAll_20 ?_
  refine va_mmin hx hb (hml.trans hl.1.symm) hown (hts _ w_531) (hts _ w_532) (hts _ w_121) (hts _ w_533) (Nat.le_of_ble_eq_true rfl) (Nat.le_of_ble_eq_true rfl) (Nat.le_of_ble_eq_true rfl) (Nat.le_of_ble_eq_true rfl) dX5_readAll_21 ?_
  refine lv_topi (fun v_2 e_2 => ?_)
  obtain rfl : v_2 = 0 := e_2.trans (by decide)
  refine va_put (D := D) (ci := 4) (v := .int 0) (ty := .int) (C := RX5) (T := TX5) (N := 9) hx hb hts u_X5 tyX5 tyX5_ok nmX5 hown hE.1 hP hD hS 0 rfl rfl 3 (by decide) (hts _ w_261) (fun _ h9 => h9) rfl (by decide +kernel) rfl rfl (Nat.le_of_ble_eq_true rfl) dX5_readAll_24 (fun H locs hP hD hS => ?_)
  have hP : va_P D vwCl [kO h0 4 [.int 0, .int (-1), .ref h3, .int 0, .int 0, .int 0, .int 0, .int 0, .ref h1], kI cB h3 700 g0, kO h1 5 [.int 0, .int 0, .int 0, .ref h2, .ref z2, .ref z3, .ref z4, .ref z5, .ref z6, .ref z7], kO h2 6 [.int 0, .ref z8, .ref z9, .ref z10, .ref z11, .ref z12, .ref z13, .ref z14]] H := hP
  have hD : va_D A [kO h0 4 [.int 0, .int (-1), .ref h3, .int 0, .int 0, .int 0, .int 0, .int 0, .ref h1], kI cB h3 700 g0, kO h1 5 [.int 0, .int 0, .int 0, .ref h2, .ref z2, .ref z3, .ref z4, .ref z5, .ref z6, .ref z7], kO h2 6 [.int 0, .ref z8, .ref z9, .ref z10, .ref z11, .ref z12, .ref z13, .ref z14]] := hD
  refine lv_aload_n hx hb dX5_readAll_27 rfl (lv_at hl 0 rfl) ?_
  refine lv_iconst (v := 0) hx hb dX5_readAll_28 (by decide) ?_
  refine va_put (D := D) (ci := 4) (v := .int 0) (ty := .int) (C := RX5) (T := TX5) (N := 9) hx hb hts u_X5 tyX5 tyX5_ok nmX5 hown hE.1 hP hD hS 0 rfl rfl 4 (by decide) (hts _ w_262) (fun _ h9 => h9) rfl (by decide +kernel) rfl rfl (Nat.le_of_ble_eq_true rfl) dX5_readAll_29 (fun H locs hP hD hS => ?_)
  have hP : va_P D vwCl [kO h0 4 [.int 0, .int (-1), .ref h3, .int 0, .int 0, .int 0, .int 0, .int 0, .ref h1], kI cB h3 700 g0, kO h1 5 [.int 0, .int 0, .int 0, .ref h2, .ref z2, .ref z3, .ref z4, .ref z5, .ref z6, .ref z7], kO h2 6 [.int 0, .ref z8, .ref z9, .ref z10, .ref z11, .ref z12, .ref z13, .ref z14]] H := hP
  have hD : va_D A [kO h0 4 [.int 0, .int (-1), .ref h3, .int 0, .int 0, .int 0, .int 0, .int 0, .ref h1], kI cB h3 700 g0, kO h1 5 [.int 0, .int 0, .int 0, .ref h2, .ref z2, .ref z3, .ref z4, .ref z5, .ref z6, .ref z7], kO h2 6 [.int 0, .ref z8, .ref z9, .ref z10, .ref z11, .ref z12, .ref z13, .ref z14]] := hD
  refine lv_aload_n hx hb dX5_readAll_32 rfl (lv_at hl 0 rfl) ?_
  refine lv_iconst (v := 0) hx hb dX5_readAll_33 (by decide) ?_
  refine va_put (D := D) (ci := 4) (v := .int 0) (ty := .int) (C := RX5) (T := TX5) (N := 9) hx hb hts u_X5 tyX5 tyX5_ok nmX5 hown hE.1 hP hD hS 0 rfl rfl 0 (by decide) (hts _ w_256) (fun _ h9 => h9) rfl (by decide +kernel) rfl rfl (Nat.le_of_ble_eq_true rfl) dX5_readAll_34 (fun H locs hP hD hS => ?_)
  have hP : va_P D vwCl [kO h0 4 [.int 0, .int (-1), .ref h3, .int 0, .int 0, .int 0, .int 0, .int 0, .ref h1], kI cB h3 700 g0, kO h1 5 [.int 0, .int 0, .int 0, .ref h2, .ref z2, .ref z3, .ref z4, .ref z5, .ref z6, .ref z7], kO h2 6 [.int 0, .ref z8, .ref z9, .ref z10, .ref z11, .ref z12, .ref z13, .ref z14]] H := hP
  have hD : va_D A [kO h0 4 [.int 0, .int (-1), .ref h3, .int 0, .int 0, .int 0, .int 0, .int 0, .ref h1], kI cB h3 700 g0, kO h1 5 [.int 0, .int 0, .int 0, .ref h2, .ref z2, .ref z3, .ref z4, .ref z5, .ref z6, .ref z7], kO h2 6 [.int 0, .ref z8, .ref z9, .ref z10, .ref z11, .ref z12, .ref z13, .ref z14]] := hD
  refine lv_aload_n hx hb dX5_readAll_37 rfl (lv_at hl 0 rfl) ?_
  refine lv_iconst (v := (-1)) hx hb dX5_readAll_38 (by decide) ?_
  refine va_put (D := D) (ci := 4) (v := .int (-1)) (ty := .int) (C := RX5) (T := TX5) (N := 9) hx hb hts u_X5 tyX5 tyX5_ok nmX5 hown hE.1 hP hD hS 0 rfl rfl 1 (by decide) (hts _ w_258) (fun _ h9 => h9) rfl (by decide +kernel) rfl rfl (Nat.le_of_ble_eq_true rfl) dX5_readAll_39 (fun H locs hP hD hS => ?_)
  have hP : va_P D vwCl [kO h0 4 [.int 0, .int (-1), .ref h3, .int 0, .int 0, .int 0, .int 0, .int 0, .ref h1], kI cB h3 700 g0, kO h1 5 [.int 0, .int 0, .int 0, .ref h2, .ref z2, .ref z3, .ref z4, .ref z5, .ref z6, .ref z7], kO h2 6 [.int 0, .ref z8, .ref z9, .ref z10, .ref z11, .ref z12, .ref z13, .ref z14]] H := hP
  have hD : va_D A [kO h0 4 [.int 0, .int (-1), .ref h3, .int 0, .int 0, .int 0, .int 0, .int 0, .ref h1], kI cB h3 700 g0, kO h1 5 [.int 0, .int 0, .int 0, .ref h2, .ref z2, .ref z3, .ref z4, .ref z5, .ref z6, .ref z7], kO h2 6 [.int 0, .ref z8, .ref z9, .ref z10, .ref z11, .ref z12, .ref z13, .ref z14]] := hD
  refine lv_iconst (v := 0) hx hb dX5_readAll_42 (by decide) ?_
  refine lv_istore (lv' := [(4, .int 0), (0, .ref h0), (1, .ref h1), (2, .ref h3), (3, .int 0)]) hx hb dX5_readAll_43 hl (by decide) rfl (fun ls hl => ?_)
  refine lv_iload hx hb dX5_readAll_45 (lv_at hl 0 rfl) ?_
  refine lv_aload_n hx hb dX5_readAll_47 rfl (lv_at hl 1 rfl) ?_
  refine va_get (D := D) (ci := 4) (v := .int 0) (C := RX5) (T := TX5) (N := 9) hx hb hts u_X5 hown hE.1 hP 0 rfl rfl 3 (by decide) (hts _ w_261) (fun _ h9 => h9) rfl dX5_readAll_48 ?_
  refine lv_icmp_gt (tgt := 95) hx hb dX5_readAll_51 (by decide) (fun c_3 => absurd c_3 (by decide)) (fun _ => ?_)
  refine lv_aload_n hx hb dX5_readAll_54 rfl (lv_at hl 1 rfl) ?_
  refine kk_cv (wr := [kI cB h3 700 g0, kO h1 5 [.int 0, .int 0, .int 0, .ref h2, .ref z2, .ref z3, .ref z4, .ref z5, .ref z6, .ref z7], kO h2 6 [.int 0, .ref z8, .ref z9, .ref z10, .ref z11, .ref z12, .ref z13, .ref z14]]) (kk_runV (w1 := [kO h0 4 [.int 0, .int (-1), .ref h3, .int 0, .int 0, .int 0, .int 0, .int 0, .ref h1]]) (As := []) (rest := []) hx hb hml hown hts hE (c_X5_step l D cB cI cJ cD h0 h3 h1 H.size) m_X5_step w_534 ⟨rfl, rfl, Nat.le_of_ble_eq_true rfl, Nat.le_of_ble_eq_true rfl⟩ (hP.sub [0] rfl) (hD.sub [0] (by decide +kernel) rfl) 0 4 rfl rfl rfl hl.1 (Nat.le_of_ble_eq_true rfl) dX5_readAll_55 ⟨Nat.le_of_ble_eq_true rfl, Nat.le_of_ble_eq_true rfl⟩) hP hD hS hA [0] [1, 2, 3] rfl rfl (by decide +kernel) (by decide +kernel) (fun u_4 H locs p_4 hP hD hS => ?_)
  have hP : va_P D vwCl [kI cB h3 700 g0, kO h1 5 [.int 0, .int 0, .int 0, .ref h2, .ref z2, .ref z3, .ref z4, .ref z5, .ref z6, .ref z7], kO h2 6 [.int 0, .ref z8, .ref z9, .ref z10, .ref z11, .ref z12, .ref z13, .ref z14], kO h0 4 [.int 0, .int (-1), .ref h3, .int 0, .int 0, .int 0, .int 0, .int 0, .ref h1]] H := hP
  have hD : va_D A [kI cB h3 700 g0, kO h1 5 [.int 0, .int 0, .int 0, .ref h2, .ref z2, .ref z3, .ref z4, .ref z5, .ref z6, .ref z7], kO h2 6 [.int 0, .ref z8, .ref z9, .ref z10, .ref z11, .ref z12, .ref z13, .ref z14], kO h0 4 [.int 0, .int (-1), .ref h3, .int 0, .int 0, .int 0, .int 0, .int 0, .ref h1]] := hD
  refine lv_aload_n hx hb dX5_readAll_58 rfl (lv_at hl 1 rfl) ?_
  refine va_get (D := D) (ci := 4) (v := .int 0) (C := RX5) (T := TX5) (N := 9) hx hb hts u_X5 hown hE.1 hP 3 rfl rfl 5 (by decide) (hts _ w_263) (fun _ h9 => h9) rfl dX5_readAll_59 ?_
  refine lv_if_ne (tgt := 67) hx hb dX5_readAll_62 (by decide) (fun c_5 => absurd c_5 (by decide)) (fun _ => ?_)
  refine lv_iconst (v := 1) hx hb dX5_readAll_65 (by decide) ?_
  exact kk_ret_z ((fun i => [].getD i 0), (fun i => [].getD i (fun _ => 0)), (fun i => [].getD i (fun _ => 0)), (fun i => [].getD i 0)) hx hb hr hlocks (by decide) rfl (hP.sub [3, 1, 2, 0] rfl) (hD.sub [3, 1, 2, 0] (by decide +kernel) rfl) hS dX5_readAll_66 (Nat.le_of_ble_eq_true rfl) (Nat.le_of_ble_eq_true rfl)
set_option maxHeartbeats 4000000 in
set_option maxRecDepth 100000 in
theorem c_X7_copyFrom (l : Launch) (D : va_G) (cB cI cJ cD : ClassId) (h0 h1 h2 h3 h4 h5 h6 h7 h8 h9 h10 h11 h12 h13 h14 h15 : Nat) (g0 : Nat → Int32) (g1 : Nat → Int32) (g2 : Nat → Int32) (g3 : Nat → Int32) (g4 : Nat → Int32) (g5 : Nat → Int32) (g6 : Nat → Int32) (g7 : Nat → Int32) (g8 : Nat → Int32) (g9 : Nat → Int32) (g10 : Nat → Int32) (g11 : Nat → Int32) (g12 : Nat → Int32) (g13 : Nat → Int32) (sz : Nat) : Met l yX7_copyFrom (kk_W yX7_copyFrom cX7_copyFrom 2 none) ({ frames := 1, cells := 0, slots := 0, locals := 40 }) (va_Pc [.ref h0, .ref h1] (kk_pre D cB cI cJ cD [kO h0 6 [.int 0, .ref h3, .ref h5, .ref h7, .ref h9, .ref h11, .ref h13, .ref h15], kO h1 6 [.int 0, .ref h2, .ref h4, .ref h6, .ref h8, .ref h10, .ref h12, .ref h14], kI cI h2 24 g0, kI cI h3 24 g1, kI cI h4 24 g2, kI cI h5 24 g3, kI cI h6 24 g4, kI cI h7 24 g5, kI cI h8 24 g6, kI cI h9 24 g7, kI cI h10 25 g8, kI cI h11 25 g9, kI cI h12 24 g10, kI cI h13 24 g11, kI cI h14 24 g12, kI cI h15 24 g13] sz)) (kk_Qv D (fun (u : (Nat → Nat) × (Nat → Nat → Int32) × (Nat → Nat → Int64) × (Nat → Int32)) => True) (fun u => [kO h0 6 [.int 0, .ref h3, .ref h5, .ref h7, .ref h9, .ref h11, .ref h13, .ref h15], kO h1 6 [.int 0, .ref h2, .ref h4, .ref h6, .ref h8, .ref h10, .ref h12, .ref h14], kI cI h2 24 g0, kI cI h3 24 (u.2.1 0), kI cI h4 24 g2, kI cI h5 24 (u.2.1 1), kI cI h6 24 g4, kI cI h7 24 (u.2.1 2), kI cI h8 24 g6, kI cI h9 24 (u.2.1 3), kI cI h10 25 g8, kI cI h11 25 (u.2.1 4), kI cI h12 24 g10, kI cI h13 24 (u.2.1 5), kI cI h14 24 g12, kI cI h15 24 (u.2.1 6)]) (va_A [kO h0 6 [.int 0, .ref h3, .ref h5, .ref h7, .ref h9, .ref h11, .ref h13, .ref h15], kO h1 6 [.int 0, .ref h2, .ref h4, .ref h6, .ref h8, .ref h10, .ref h12, .ref h14], kI cI h2 24 g0, kI cI h3 24 g1, kI cI h4 24 g2, kI cI h5 24 g3, kI cI h6 24 g4, kI cI h7 24 g5, kI cI h8 24 g6, kI cI h9 24 g7, kI cI h10 25 g8, kI cI h11 25 g9, kI cI h12 24 g10, kI cI h13 24 g11, kI cI h14 24 g12, kI cI h15 24 g13] sz)) 0 0 (va_A [kO h0 6 [.int 0, .ref h3, .ref h5, .ref h7, .ref h9, .ref h11, .ref h13, .ref h15], kO h1 6 [.int 0, .ref h2, .ref h4, .ref h6, .ref h8, .ref h10, .ref h12, .ref h14], kI cI h2 24 g0, kI cI h3 24 g1, kI cI h4 24 g2, kI cI h5 24 g3, kI cI h6 24 g4, kI cI h7 24 g5, kI cI h8 24 g6, kI cI h9 24 g7, kI cI h10 25 g8, kI cI h11 25 g9, kI cI h12 24 g10, kI cI h13 24 g11, kI cI h14 24 g12, kI cI h15 24 g13] sz) := by
  refine kk_start (y := yX7_copyFrom) (maxL := 2) (av := [.ref h0, .ref h1]) (Qc := fun A => kk_Qv D (fun (u : (Nat → Nat) × (Nat → Nat → Int32) × (Nat → Nat → Int64) × (Nat → Int32)) => True) (fun u => [kO h0 6 [.int 0, .ref h3, .ref h5, .ref h7, .ref h9, .ref h11, .ref h13, .ref h15], kO h1 6 [.int 0, .ref h2, .ref h4, .ref h6, .ref h8, .ref h10, .ref h12, .ref h14], kI cI h2 24 g0, kI cI h3 24 (u.2.1 0), kI cI h4 24 g2, kI cI h5 24 (u.2.1 1), kI cI h6 24 g4, kI cI h7 24 (u.2.1 2), kI cI h8 24 g6, kI cI h9 24 (u.2.1 3), kI cI h10 25 g8, kI cI h11 25 (u.2.1 4), kI cI h12 24 g10, kI cI h13 24 (u.2.1 5), kI cI h14 24 g12, kI cI h15 24 (u.2.1 6)]) A) (by decide) (Nat.le_of_ble_eq_true rfl) ?_
  intro p e s m below meth c ls A hx hb hr hml hown hts hE hlocks hin hsz hP hD hA hS hl
  have hown : s.vm.findClass RX7 = some m.cls := hown
  have hl : lv_has ls 2 [(0, .ref h0), (1, .ref h1)] := hl
  refine lv_aload_n hx hb dX7_copyFrom_0 rfl (lv_at hl 0 rfl) ?_
  refine lv_aload_n hx hb dX7_copyFrom_1 rfl (lv_at hl 1 rfl) ?_
  refine va_get (D := D) (ci := 6) (v := .int 0) (C := RX7) (T := TX7) (N := 8) hx hb hts u_X7 hown hE.1 hP 1 rfl rfl 0 (by decide) (hts _ w_157) (fun _ h9 => h9) rfl dX7_copyFrom_2 ?_
  refine va_put (D := D) (ci := 6) (v := .int 0) (ty := .int) (C := RX7) (T := TX7) (N := 8) hx hb hts u_X7 tyX7 tyX7_ok nmX7 hown hE.1 hP hD hS 0 rfl rfl 0 (by decide) (hts _ w_157) (fun _ h9 => h9) rfl (by decide +kernel) rfl rfl (Nat.le_of_ble_eq_true rfl) dX7_copyFrom_5 (fun H locs hP hD hS => ?_)
  have hP : va_P D vwCl [kO h0 6 [.int 0, .ref h3, .ref h5, .ref h7, .ref h9, .ref h11, .ref h13, .ref h15], kO h1 6 [.int 0, .ref h2, .ref h4, .ref h6, .ref h8, .ref h10, .ref h12, .ref h14], kI cI h2 24 g0, kI cI h3 24 g1, kI cI h4 24 g2, kI cI h5 24 g3, kI cI h6 24 g4, kI cI h7 24 g5, kI cI h8 24 g6, kI cI h9 24 g7, kI cI h10 25 g8, kI cI h11 25 g9, kI cI h12 24 g10, kI cI h13 24 g11, kI cI h14 24 g12, kI cI h15 24 g13] H := hP
  have hD : va_D A [kO h0 6 [.int 0, .ref h3, .ref h5, .ref h7, .ref h9, .ref h11, .ref h13, .ref h15], kO h1 6 [.int 0, .ref h2, .ref h4, .ref h6, .ref h8, .ref h10, .ref h12, .ref h14], kI cI h2 24 g0, kI cI h3 24 g1, kI cI h4 24 g2, kI cI h5 24 g3, kI cI h6 24 g4, kI cI h7 24 g5, kI cI h8 24 g6, kI cI h9 24 g7, kI cI h10 25 g8, kI cI h11 25 g9, kI cI h12 24 g10, kI cI h13 24 g11, kI cI h14 24 g12, kI cI h15 24 g13] := hD
  refine lv_aload_n hx hb dX7_copyFrom_8 rfl (lv_at hl 1 rfl) ?_
  refine va_get (D := D) (ci := 6) (v := .ref h2) (C := RX7) (T := TX7) (N := 8) hx hb hts u_X7 hown hE.1 hP 1 rfl rfl 1 (by decide) (hts _ w_163) (fun _ h9 => h9) rfl dX7_copyFrom_9 ?_
  refine lv_iconst (v := 0) hx hb dX7_copyFrom_12 (by decide) ?_
  refine lv_aload_n hx hb dX7_copyFrom_13 rfl (lv_at hl 0 rfl) ?_
  refine va_get (D := D) (ci := 6) (v := .ref h3) (C := RX7) (T := TX7) (N := 8) hx hb hts u_X7 hown hE.1 hP 0 rfl rfl 1 (by decide) (hts _ w_163) (fun _ h9 => h9) rfl dX7_copyFrom_14 ?_
  refine lv_iconst (v := 0) hx hb dX7_copyFrom_17 (by decide) ?_
  refine lv_bipush (v := 24) hx hb dX7_copyFrom_18 (by decide) ?_
  refine va_copyi hx hb (hml.trans hl.1.symm) hown (hts _ w_641) (hts _ w_643) (hts _ w_642) (hts _ w_123) hE.1 hP hD hS 2 3 1 1 rfl rfl rfl rfl (by decide) (by decide) (by decide) (by decide) (by decide) (by decide) (fun _ _ => rfl) (Nat.le_of_ble_eq_true rfl) (Nat.le_of_ble_eq_true rfl) dX7_copyFrom_20 (fun H locs hP hD hS => ?_)
  obtain ⟨f_1, ef_1⟩ : ∃ z, z = va_cpy g0 g1 0 0 24 := ⟨_, rfl⟩
  have hP : va_P D vwCl [kO h0 6 [.int 0, .ref h3, .ref h5, .ref h7, .ref h9, .ref h11, .ref h13, .ref h15], kO h1 6 [.int 0, .ref h2, .ref h4, .ref h6, .ref h8, .ref h10, .ref h12, .ref h14], kI cI h2 24 g0, kI cI h3 24 f_1, kI cI h4 24 g2, kI cI h5 24 g3, kI cI h6 24 g4, kI cI h7 24 g5, kI cI h8 24 g6, kI cI h9 24 g7, kI cI h10 25 g8, kI cI h11 25 g9, kI cI h12 24 g10, kI cI h13 24 g11, kI cI h14 24 g12, kI cI h15 24 g13] H := by rw [ef_1]; exact hP
  have hD : va_D A [kO h0 6 [.int 0, .ref h3, .ref h5, .ref h7, .ref h9, .ref h11, .ref h13, .ref h15], kO h1 6 [.int 0, .ref h2, .ref h4, .ref h6, .ref h8, .ref h10, .ref h12, .ref h14], kI cI h2 24 g0, kI cI h3 24 f_1, kI cI h4 24 g2, kI cI h5 24 g3, kI cI h6 24 g4, kI cI h7 24 g5, kI cI h8 24 g6, kI cI h9 24 g7, kI cI h10 25 g8, kI cI h11 25 g9, kI cI h12 24 g10, kI cI h13 24 g11, kI cI h14 24 g12, kI cI h15 24 g13] := by rw [ef_1]; exact hD
  refine lv_aload_n hx hb dX7_copyFrom_23 rfl (lv_at hl 1 rfl) ?_
  refine va_get (D := D) (ci := 6) (v := .ref h4) (C := RX7) (T := TX7) (N := 8) hx hb hts u_X7 hown hE.1 hP 1 rfl rfl 2 (by decide) (hts _ w_167) (fun _ h9 => h9) rfl dX7_copyFrom_24 ?_
  refine lv_iconst (v := 0) hx hb dX7_copyFrom_27 (by decide) ?_
  refine lv_aload_n hx hb dX7_copyFrom_28 rfl (lv_at hl 0 rfl) ?_
  refine va_get (D := D) (ci := 6) (v := .ref h5) (C := RX7) (T := TX7) (N := 8) hx hb hts u_X7 hown hE.1 hP 0 rfl rfl 2 (by decide) (hts _ w_167) (fun _ h9 => h9) rfl dX7_copyFrom_29 ?_
  refine lv_iconst (v := 0) hx hb dX7_copyFrom_32 (by decide) ?_
  refine lv_bipush (v := 24) hx hb dX7_copyFrom_33 (by decide) ?_
  refine va_copyi hx hb (hml.trans hl.1.symm) hown (hts _ w_641) (hts _ w_643) (hts _ w_642) (hts _ w_123) hE.1 hP hD hS 4 5 1 1 rfl rfl rfl rfl (by decide) (by decide) (by decide) (by decide) (by decide) (by decide) (fun _ _ => rfl) (Nat.le_of_ble_eq_true rfl) (Nat.le_of_ble_eq_true rfl) dX7_copyFrom_35 (fun H locs hP hD hS => ?_)
  obtain ⟨f_2, ef_2⟩ : ∃ z, z = va_cpy g2 g3 0 0 24 := ⟨_, rfl⟩
  have hP : va_P D vwCl [kO h0 6 [.int 0, .ref h3, .ref h5, .ref h7, .ref h9, .ref h11, .ref h13, .ref h15], kO h1 6 [.int 0, .ref h2, .ref h4, .ref h6, .ref h8, .ref h10, .ref h12, .ref h14], kI cI h2 24 g0, kI cI h3 24 f_1, kI cI h4 24 g2, kI cI h5 24 f_2, kI cI h6 24 g4, kI cI h7 24 g5, kI cI h8 24 g6, kI cI h9 24 g7, kI cI h10 25 g8, kI cI h11 25 g9, kI cI h12 24 g10, kI cI h13 24 g11, kI cI h14 24 g12, kI cI h15 24 g13] H := by rw [ef_2]; exact hP
  have hD : va_D A [kO h0 6 [.int 0, .ref h3, .ref h5, .ref h7, .ref h9, .ref h11, .ref h13, .ref h15], kO h1 6 [.int 0, .ref h2, .ref h4, .ref h6, .ref h8, .ref h10, .ref h12, .ref h14], kI cI h2 24 g0, kI cI h3 24 f_1, kI cI h4 24 g2, kI cI h5 24 f_2, kI cI h6 24 g4, kI cI h7 24 g5, kI cI h8 24 g6, kI cI h9 24 g7, kI cI h10 25 g8, kI cI h11 25 g9, kI cI h12 24 g10, kI cI h13 24 g11, kI cI h14 24 g12, kI cI h15 24 g13] := by rw [ef_2]; exact hD
  refine lv_aload_n hx hb dX7_copyFrom_38 rfl (lv_at hl 1 rfl) ?_
  refine va_get (D := D) (ci := 6) (v := .ref h6) (C := RX7) (T := TX7) (N := 8) hx hb hts u_X7 hown hE.1 hP 1 rfl rfl 3 (by decide) (hts _ w_171) (fun _ h9 => h9) rfl dX7_copyFrom_39 ?_
  refine lv_iconst (v := 0) hx hb dX7_copyFrom_42 (by decide) ?_
  refine lv_aload_n hx hb dX7_copyFrom_43 rfl (lv_at hl 0 rfl) ?_
  refine va_get (D := D) (ci := 6) (v := .ref h7) (C := RX7) (T := TX7) (N := 8) hx hb hts u_X7 hown hE.1 hP 0 rfl rfl 3 (by decide) (hts _ w_171) (fun _ h9 => h9) rfl dX7_copyFrom_44 ?_
  refine lv_iconst (v := 0) hx hb dX7_copyFrom_47 (by decide) ?_
  refine lv_bipush (v := 24) hx hb dX7_copyFrom_48 (by decide) ?_
  refine va_copyi hx hb (hml.trans hl.1.symm) hown (hts _ w_641) (hts _ w_643) (hts _ w_642) (hts _ w_123) hE.1 hP hD hS 6 7 1 1 rfl rfl rfl rfl (by decide) (by decide) (by decide) (by decide) (by decide) (by decide) (fun _ _ => rfl) (Nat.le_of_ble_eq_true rfl) (Nat.le_of_ble_eq_true rfl) dX7_copyFrom_50 (fun H locs hP hD hS => ?_)
  obtain ⟨f_3, ef_3⟩ : ∃ z, z = va_cpy g4 g5 0 0 24 := ⟨_, rfl⟩
  have hP : va_P D vwCl [kO h0 6 [.int 0, .ref h3, .ref h5, .ref h7, .ref h9, .ref h11, .ref h13, .ref h15], kO h1 6 [.int 0, .ref h2, .ref h4, .ref h6, .ref h8, .ref h10, .ref h12, .ref h14], kI cI h2 24 g0, kI cI h3 24 f_1, kI cI h4 24 g2, kI cI h5 24 f_2, kI cI h6 24 g4, kI cI h7 24 f_3, kI cI h8 24 g6, kI cI h9 24 g7, kI cI h10 25 g8, kI cI h11 25 g9, kI cI h12 24 g10, kI cI h13 24 g11, kI cI h14 24 g12, kI cI h15 24 g13] H := by rw [ef_3]; exact hP
  have hD : va_D A [kO h0 6 [.int 0, .ref h3, .ref h5, .ref h7, .ref h9, .ref h11, .ref h13, .ref h15], kO h1 6 [.int 0, .ref h2, .ref h4, .ref h6, .ref h8, .ref h10, .ref h12, .ref h14], kI cI h2 24 g0, kI cI h3 24 f_1, kI cI h4 24 g2, kI cI h5 24 f_2, kI cI h6 24 g4, kI cI h7 24 f_3, kI cI h8 24 g6, kI cI h9 24 g7, kI cI h10 25 g8, kI cI h11 25 g9, kI cI h12 24 g10, kI cI h13 24 g11, kI cI h14 24 g12, kI cI h15 24 g13] := by rw [ef_3]; exact hD
  refine lv_aload_n hx hb dX7_copyFrom_53 rfl (lv_at hl 1 rfl) ?_
  refine va_get (D := D) (ci := 6) (v := .ref h8) (C := RX7) (T := TX7) (N := 8) hx hb hts u_X7 hown hE.1 hP 1 rfl rfl 4 (by decide) (hts _ w_174) (fun _ h9 => h9) rfl dX7_copyFrom_54 ?_
  refine lv_iconst (v := 0) hx hb dX7_copyFrom_57 (by decide) ?_
  refine lv_aload_n hx hb dX7_copyFrom_58 rfl (lv_at hl 0 rfl) ?_
  refine va_get (D := D) (ci := 6) (v := .ref h9) (C := RX7) (T := TX7) (N := 8) hx hb hts u_X7 hown hE.1 hP 0 rfl rfl 4 (by decide) (hts _ w_174) (fun _ h9 => h9) rfl dX7_copyFrom_59 ?_
  refine lv_iconst (v := 0) hx hb dX7_copyFrom_62 (by decide) ?_
  refine lv_bipush (v := 24) hx hb dX7_copyFrom_63 (by decide) ?_
  refine va_copyi hx hb (hml.trans hl.1.symm) hown (hts _ w_641) (hts _ w_643) (hts _ w_642) (hts _ w_123) hE.1 hP hD hS 8 9 1 1 rfl rfl rfl rfl (by decide) (by decide) (by decide) (by decide) (by decide) (by decide) (fun _ _ => rfl) (Nat.le_of_ble_eq_true rfl) (Nat.le_of_ble_eq_true rfl) dX7_copyFrom_65 (fun H locs hP hD hS => ?_)
  obtain ⟨f_4, ef_4⟩ : ∃ z, z = va_cpy g6 g7 0 0 24 := ⟨_, rfl⟩
  have hP : va_P D vwCl [kO h0 6 [.int 0, .ref h3, .ref h5, .ref h7, .ref h9, .ref h11, .ref h13, .ref h15], kO h1 6 [.int 0, .ref h2, .ref h4, .ref h6, .ref h8, .ref h10, .ref h12, .ref h14], kI cI h2 24 g0, kI cI h3 24 f_1, kI cI h4 24 g2, kI cI h5 24 f_2, kI cI h6 24 g4, kI cI h7 24 f_3, kI cI h8 24 g6, kI cI h9 24 f_4, kI cI h10 25 g8, kI cI h11 25 g9, kI cI h12 24 g10, kI cI h13 24 g11, kI cI h14 24 g12, kI cI h15 24 g13] H := by rw [ef_4]; exact hP
  have hD : va_D A [kO h0 6 [.int 0, .ref h3, .ref h5, .ref h7, .ref h9, .ref h11, .ref h13, .ref h15], kO h1 6 [.int 0, .ref h2, .ref h4, .ref h6, .ref h8, .ref h10, .ref h12, .ref h14], kI cI h2 24 g0, kI cI h3 24 f_1, kI cI h4 24 g2, kI cI h5 24 f_2, kI cI h6 24 g4, kI cI h7 24 f_3, kI cI h8 24 g6, kI cI h9 24 f_4, kI cI h10 25 g8, kI cI h11 25 g9, kI cI h12 24 g10, kI cI h13 24 g11, kI cI h14 24 g12, kI cI h15 24 g13] := by rw [ef_4]; exact hD
  refine lv_aload_n hx hb dX7_copyFrom_68 rfl (lv_at hl 1 rfl) ?_
  refine va_get (D := D) (ci := 6) (v := .ref h10) (C := RX7) (T := TX7) (N := 8) hx hb hts u_X7 hown hE.1 hP 1 rfl rfl 5 (by decide) (hts _ w_177) (fun _ h9 => h9) rfl dX7_copyFrom_69 ?_
  refine lv_iconst (v := 0) hx hb dX7_copyFrom_72 (by decide) ?_
  refine lv_aload_n hx hb dX7_copyFrom_73 rfl (lv_at hl 0 rfl) ?_
  refine va_get (D := D) (ci := 6) (v := .ref h11) (C := RX7) (T := TX7) (N := 8) hx hb hts u_X7 hown hE.1 hP 0 rfl rfl 5 (by decide) (hts _ w_177) (fun _ h9 => h9) rfl dX7_copyFrom_74 ?_
  refine lv_iconst (v := 0) hx hb dX7_copyFrom_77 (by decide) ?_
  refine lv_bipush (v := 25) hx hb dX7_copyFrom_78 (by decide) ?_
  refine va_copyi hx hb (hml.trans hl.1.symm) hown (hts _ w_641) (hts _ w_643) (hts _ w_642) (hts _ w_123) hE.1 hP hD hS 10 11 1 1 rfl rfl rfl rfl (by decide) (by decide) (by decide) (by decide) (by decide) (by decide) (fun _ _ => rfl) (Nat.le_of_ble_eq_true rfl) (Nat.le_of_ble_eq_true rfl) dX7_copyFrom_80 (fun H locs hP hD hS => ?_)
  obtain ⟨f_5, ef_5⟩ : ∃ z, z = va_cpy g8 g9 0 0 25 := ⟨_, rfl⟩
  have hP : va_P D vwCl [kO h0 6 [.int 0, .ref h3, .ref h5, .ref h7, .ref h9, .ref h11, .ref h13, .ref h15], kO h1 6 [.int 0, .ref h2, .ref h4, .ref h6, .ref h8, .ref h10, .ref h12, .ref h14], kI cI h2 24 g0, kI cI h3 24 f_1, kI cI h4 24 g2, kI cI h5 24 f_2, kI cI h6 24 g4, kI cI h7 24 f_3, kI cI h8 24 g6, kI cI h9 24 f_4, kI cI h10 25 g8, kI cI h11 25 f_5, kI cI h12 24 g10, kI cI h13 24 g11, kI cI h14 24 g12, kI cI h15 24 g13] H := by rw [ef_5]; exact hP
  have hD : va_D A [kO h0 6 [.int 0, .ref h3, .ref h5, .ref h7, .ref h9, .ref h11, .ref h13, .ref h15], kO h1 6 [.int 0, .ref h2, .ref h4, .ref h6, .ref h8, .ref h10, .ref h12, .ref h14], kI cI h2 24 g0, kI cI h3 24 f_1, kI cI h4 24 g2, kI cI h5 24 f_2, kI cI h6 24 g4, kI cI h7 24 f_3, kI cI h8 24 g6, kI cI h9 24 f_4, kI cI h10 25 g8, kI cI h11 25 f_5, kI cI h12 24 g10, kI cI h13 24 g11, kI cI h14 24 g12, kI cI h15 24 g13] := by rw [ef_5]; exact hD
  refine lv_aload_n hx hb dX7_copyFrom_83 rfl (lv_at hl 1 rfl) ?_
  refine va_get (D := D) (ci := 6) (v := .ref h12) (C := RX7) (T := TX7) (N := 8) hx hb hts u_X7 hown hE.1 hP 1 rfl rfl 6 (by decide) (hts _ w_180) (fun _ h9 => h9) rfl dX7_copyFrom_84 ?_
  refine lv_iconst (v := 0) hx hb dX7_copyFrom_87 (by decide) ?_
  refine lv_aload_n hx hb dX7_copyFrom_88 rfl (lv_at hl 0 rfl) ?_
  refine va_get (D := D) (ci := 6) (v := .ref h13) (C := RX7) (T := TX7) (N := 8) hx hb hts u_X7 hown hE.1 hP 0 rfl rfl 6 (by decide) (hts _ w_180) (fun _ h9 => h9) rfl dX7_copyFrom_89 ?_
  refine lv_iconst (v := 0) hx hb dX7_copyFrom_92 (by decide) ?_
  refine lv_bipush (v := 24) hx hb dX7_copyFrom_93 (by decide) ?_
  refine va_copyi hx hb (hml.trans hl.1.symm) hown (hts _ w_641) (hts _ w_643) (hts _ w_642) (hts _ w_123) hE.1 hP hD hS 12 13 1 1 rfl rfl rfl rfl (by decide) (by decide) (by decide) (by decide) (by decide) (by decide) (fun _ _ => rfl) (Nat.le_of_ble_eq_true rfl) (Nat.le_of_ble_eq_true rfl) dX7_copyFrom_95 (fun H locs hP hD hS => ?_)
  obtain ⟨f_6, ef_6⟩ : ∃ z, z = va_cpy g10 g11 0 0 24 := ⟨_, rfl⟩
  have hP : va_P D vwCl [kO h0 6 [.int 0, .ref h3, .ref h5, .ref h7, .ref h9, .ref h11, .ref h13, .ref h15], kO h1 6 [.int 0, .ref h2, .ref h4, .ref h6, .ref h8, .ref h10, .ref h12, .ref h14], kI cI h2 24 g0, kI cI h3 24 f_1, kI cI h4 24 g2, kI cI h5 24 f_2, kI cI h6 24 g4, kI cI h7 24 f_3, kI cI h8 24 g6, kI cI h9 24 f_4, kI cI h10 25 g8, kI cI h11 25 f_5, kI cI h12 24 g10, kI cI h13 24 f_6, kI cI h14 24 g12, kI cI h15 24 g13] H := by rw [ef_6]; exact hP
  have hD : va_D A [kO h0 6 [.int 0, .ref h3, .ref h5, .ref h7, .ref h9, .ref h11, .ref h13, .ref h15], kO h1 6 [.int 0, .ref h2, .ref h4, .ref h6, .ref h8, .ref h10, .ref h12, .ref h14], kI cI h2 24 g0, kI cI h3 24 f_1, kI cI h4 24 g2, kI cI h5 24 f_2, kI cI h6 24 g4, kI cI h7 24 f_3, kI cI h8 24 g6, kI cI h9 24 f_4, kI cI h10 25 g8, kI cI h11 25 f_5, kI cI h12 24 g10, kI cI h13 24 f_6, kI cI h14 24 g12, kI cI h15 24 g13] := by rw [ef_6]; exact hD
  refine lv_aload_n hx hb dX7_copyFrom_98 rfl (lv_at hl 1 rfl) ?_
  refine va_get (D := D) (ci := 6) (v := .ref h14) (C := RX7) (T := TX7) (N := 8) hx hb hts u_X7 hown hE.1 hP 1 rfl rfl 7 (by decide) (hts _ w_182) (fun _ h9 => h9) rfl dX7_copyFrom_99 ?_
  refine lv_iconst (v := 0) hx hb dX7_copyFrom_102 (by decide) ?_
  refine lv_aload_n hx hb dX7_copyFrom_103 rfl (lv_at hl 0 rfl) ?_
  refine va_get (D := D) (ci := 6) (v := .ref h15) (C := RX7) (T := TX7) (N := 8) hx hb hts u_X7 hown hE.1 hP 0 rfl rfl 7 (by decide) (hts _ w_182) (fun _ h9 => h9) rfl dX7_copyFrom_104 ?_
  refine lv_iconst (v := 0) hx hb dX7_copyFrom_107 (by decide) ?_
  refine lv_bipush (v := 24) hx hb dX7_copyFrom_108 (by decide) ?_
  refine va_copyi hx hb (hml.trans hl.1.symm) hown (hts _ w_641) (hts _ w_643) (hts _ w_642) (hts _ w_123) hE.1 hP hD hS 14 15 1 1 rfl rfl rfl rfl (by decide) (by decide) (by decide) (by decide) (by decide) (by decide) (fun _ _ => rfl) (Nat.le_of_ble_eq_true rfl) (Nat.le_of_ble_eq_true rfl) dX7_copyFrom_110 (fun H locs hP hD hS => ?_)
  obtain ⟨f_7, ef_7⟩ : ∃ z, z = va_cpy g12 g13 0 0 24 := ⟨_, rfl⟩
  have hP : va_P D vwCl [kO h0 6 [.int 0, .ref h3, .ref h5, .ref h7, .ref h9, .ref h11, .ref h13, .ref h15], kO h1 6 [.int 0, .ref h2, .ref h4, .ref h6, .ref h8, .ref h10, .ref h12, .ref h14], kI cI h2 24 g0, kI cI h3 24 f_1, kI cI h4 24 g2, kI cI h5 24 f_2, kI cI h6 24 g4, kI cI h7 24 f_3, kI cI h8 24 g6, kI cI h9 24 f_4, kI cI h10 25 g8, kI cI h11 25 f_5, kI cI h12 24 g10, kI cI h13 24 f_6, kI cI h14 24 g12, kI cI h15 24 f_7] H := by rw [ef_7]; exact hP
  have hD : va_D A [kO h0 6 [.int 0, .ref h3, .ref h5, .ref h7, .ref h9, .ref h11, .ref h13, .ref h15], kO h1 6 [.int 0, .ref h2, .ref h4, .ref h6, .ref h8, .ref h10, .ref h12, .ref h14], kI cI h2 24 g0, kI cI h3 24 f_1, kI cI h4 24 g2, kI cI h5 24 f_2, kI cI h6 24 g4, kI cI h7 24 f_3, kI cI h8 24 g6, kI cI h9 24 f_4, kI cI h10 25 g8, kI cI h11 25 f_5, kI cI h12 24 g10, kI cI h13 24 f_6, kI cI h14 24 g12, kI cI h15 24 f_7] := by rw [ef_7]; exact hD
  exact kk_ret_v ((fun i => [].getD i 0), (fun i => [f_1, f_2, f_3, f_4, f_5, f_6, f_7].getD i (fun _ => 0)), (fun i => [].getD i (fun _ => 0)), (fun i => [].getD i 0)) hx hb hr hlocks trivial (hP.sub [0, 1, 2, 3, 4, 5, 6, 7, 8, 9, 10, 11, 12, 13, 14, 15] rfl) (hD.sub [0, 1, 2, 3, 4, 5, 6, 7, 8, 9, 10, 11, 12, 13, 14, 15] (by decide +kernel) rfl) hS dX7_copyFrom_113 (Nat.le_of_ble_eq_true rfl) (Nat.le_of_ble_eq_true rfl)
set_option maxHeartbeats 4000000 in
set_option maxRecDepth 100000 in
theorem c_J7_fill_53178 (l : Launch) (D : va_G) (cB cI cJ cD : ClassId) (h0 : Nat) (g0 : Nat → Int32) (sz : Nat) : Met l yJ7_fill_53178 (kk_W yJ7_fill_53178 cJ7_fill_53178 4 none) ({ frames := 0, cells := 0, slots := 0, locals := 0 }) (va_Pc [.ref h0, .int 0] (kk_pre D cB cI cJ cD [kI cI h0 5 g0] sz)) (kk_Qv D (fun (u : (Nat → Nat) × (Nat → Nat → Int32) × (Nat → Nat → Int64) × (Nat → Int32)) => True) (fun u => [kI cI h0 5 (u.2.1 0)]) (va_A [kI cI h0 5 g0] sz)) 0 0 (va_A [kI cI h0 5 g0] sz) := by
  refine kk_start (y := yJ7_fill_53178) (maxL := 4) (av := [.ref h0, .int 0]) (Qc := fun A => kk_Qv D (fun (u : (Nat → Nat) × (Nat → Nat → Int32) × (Nat → Nat → Int64) × (Nat → Int32)) => True) (fun u => [kI cI h0 5 (u.2.1 0)]) A) (by decide) (Nat.le_of_ble_eq_true rfl) ?_
  intro p e s m below meth c ls A hx hb hr hml hown hts hE hlocks hin hsz hP hD hA hS hl
  have hown : s.vm.findClass RJ7 = some m.cls := hown
  have hl : lv_has ls 4 [(0, .ref h0), (1, .int 0)] := hl
  refine lv_iconst (v := 0) hx hb dJ7_fill_53178_0 (by decide) ?_
  refine lv_istore_n (lv' := [(2, .int 0), (0, .ref h0), (1, .int 0)]) hx hb dJ7_fill_53178_1 rfl hl (by decide) rfl (fun ls hl => ?_)
  refine lv_aload_n hx hb dJ7_fill_53178_2 rfl (lv_at hl 1 rfl) ?_
  refine va_alen (v := 5) hx hb hE.1 hP 0 1 rfl rfl rfl dJ7_fill_53178_3 ?_
  refine lv_istore_n (lv' := [(3, .int 5), (2, .int 0), (0, .ref h0), (1, .int 0)]) hx hb dJ7_fill_53178_4 rfl hl (by decide) rfl (fun ls hl => ?_)
  refine lv_iload_n hx hb dJ7_fill_53178_5 rfl (lv_at hl 1 rfl) ?_
  refine lv_iload_n hx hb dJ7_fill_53178_6 rfl (lv_at hl 0 rfl) ?_
  refine lv_icmp_ge (tgt := 20) hx hb dJ7_fill_53178_7 (by decide) (fun c_1 => absurd c_1 (by decide)) (fun _ => ?_)
  refine lv_aload_n hx hb dJ7_fill_53178_10 rfl (lv_at hl 2 rfl) ?_
  refine lv_iload_n hx hb dJ7_fill_53178_11 rfl (lv_at hl 1 rfl) ?_
  refine lv_iload_n hx hb dJ7_fill_53178_12 rfl (lv_at hl 3 rfl) ?_
  refine va_iast hx hb hE.1 hP hD hS 0 1 rfl rfl (kk_ix _ _ (by decide)) dJ7_fill_53178_13 (fun H locs hP hD hS => ?_)
  have hP : va_P D vwCl [kI cI h0 5 (upd g0 0 0)] H := hP
  have hD : va_D A [kI cI h0 5 (upd g0 0 0)] := hD
  refine lv_iinc (v := 1) (lv' := [(2, .int 1), (3, .int 5), (0, .ref h0), (1, .int 0)]) hx hb dJ7_fill_53178_14 hl (k := 1) rfl (by decide) (by decide) rfl (fun ls hl => ?_)
  refine lv_goto (tgt := 5) hx hb dJ7_fill_53178_17 (by decide) ?_
  refine lv_iload_n hx hb dJ7_fill_53178_5 rfl (lv_at hl 0 rfl) ?_
  refine lv_iload_n hx hb dJ7_fill_53178_6 rfl (lv_at hl 1 rfl) ?_
  refine lv_icmp_ge (tgt := 20) hx hb dJ7_fill_53178_7 (by decide) (fun c_2 => absurd c_2 (by decide)) (fun _ => ?_)
  refine lv_aload_n hx hb dJ7_fill_53178_10 rfl (lv_at hl 2 rfl) ?_
  refine lv_iload_n hx hb dJ7_fill_53178_11 rfl (lv_at hl 0 rfl) ?_
  refine lv_iload_n hx hb dJ7_fill_53178_12 rfl (lv_at hl 3 rfl) ?_
  refine va_iast hx hb hE.1 hP hD hS 0 1 rfl rfl (kk_ix _ _ (by decide)) dJ7_fill_53178_13 (fun H locs hP hD hS => ?_)
  have hP : va_P D vwCl [kI cI h0 5 (upd (upd g0 0 0) 1 0)] H := hP
  have hD : va_D A [kI cI h0 5 (upd (upd g0 0 0) 1 0)] := hD
  refine lv_iinc (v := 2) (lv' := [(2, .int 2), (3, .int 5), (0, .ref h0), (1, .int 0)]) hx hb dJ7_fill_53178_14 hl (k := 0) rfl (by decide) (by decide) rfl (fun ls hl => ?_)
  refine lv_goto (tgt := 5) hx hb dJ7_fill_53178_17 (by decide) ?_
  refine lv_iload_n hx hb dJ7_fill_53178_5 rfl (lv_at hl 0 rfl) ?_
  refine lv_iload_n hx hb dJ7_fill_53178_6 rfl (lv_at hl 1 rfl) ?_
  refine lv_icmp_ge (tgt := 20) hx hb dJ7_fill_53178_7 (by decide) (fun c_3 => absurd c_3 (by decide)) (fun _ => ?_)
  refine lv_aload_n hx hb dJ7_fill_53178_10 rfl (lv_at hl 2 rfl) ?_
  refine lv_iload_n hx hb dJ7_fill_53178_11 rfl (lv_at hl 0 rfl) ?_
  refine lv_iload_n hx hb dJ7_fill_53178_12 rfl (lv_at hl 3 rfl) ?_
  refine va_iast hx hb hE.1 hP hD hS 0 1 rfl rfl (kk_ix _ _ (by decide)) dJ7_fill_53178_13 (fun H locs hP hD hS => ?_)
  obtain ⟨f_4, ef_4⟩ : ∃ z, z = (upd (upd (upd g0 0 0) 1 0) 2 0) := ⟨_, rfl⟩
  have hP : va_P D vwCl [kI cI h0 5 f_4] H := by rw [ef_4]; exact hP
  have hD : va_D A [kI cI h0 5 f_4] := by rw [ef_4]; exact hD
  refine lv_iinc (v := 3) (lv' := [(2, .int 3), (3, .int 5), (0, .ref h0), (1, .int 0)]) hx hb dJ7_fill_53178_14 hl (k := 0) rfl (by decide) (by decide) rfl (fun ls hl => ?_)
  refine lv_goto (tgt := 5) hx hb dJ7_fill_53178_17 (by decide) ?_
  refine lv_iload_n hx hb dJ7_fill_53178_5 rfl (lv_at hl 0 rfl) ?_
  refine lv_iload_n hx hb dJ7_fill_53178_6 rfl (lv_at hl 1 rfl) ?_
  refine lv_icmp_ge (tgt := 20) hx hb dJ7_fill_53178_7 (by decide) (fun c_5 => absurd c_5 (by decide)) (fun _ => ?_)
  refine lv_aload_n hx hb dJ7_fill_53178_10 rfl (lv_at hl 2 rfl) ?_
  refine lv_iload_n hx hb dJ7_fill_53178_11 rfl (lv_at hl 0 rfl) ?_
  refine lv_iload_n hx hb dJ7_fill_53178_12 rfl (lv_at hl 3 rfl) ?_
  refine va_iast hx hb hE.1 hP hD hS 0 1 rfl rfl (kk_ix _ _ (by decide)) dJ7_fill_53178_13 (fun H locs hP hD hS => ?_)
  have hP : va_P D vwCl [kI cI h0 5 (upd f_4 3 0)] H := hP
  have hD : va_D A [kI cI h0 5 (upd f_4 3 0)] := hD
  refine lv_iinc (v := 4) (lv' := [(2, .int 4), (3, .int 5), (0, .ref h0), (1, .int 0)]) hx hb dJ7_fill_53178_14 hl (k := 0) rfl (by decide) (by decide) rfl (fun ls hl => ?_)
  refine lv_goto (tgt := 5) hx hb dJ7_fill_53178_17 (by decide) ?_
  refine lv_iload_n hx hb dJ7_fill_53178_5 rfl (lv_at hl 0 rfl) ?_
  refine lv_iload_n hx hb dJ7_fill_53178_6 rfl (lv_at hl 1 rfl) ?_
  refine lv_icmp_ge (tgt := 20) hx hb dJ7_fill_53178_7 (by decide) (fun c_6 => absurd c_6 (by decide)) (fun _ => ?_)
  refine lv_aload_n hx hb dJ7_fill_53178_10 rfl (lv_at hl 2 rfl) ?_
  refine lv_iload_n hx hb dJ7_fill_53178_11 rfl (lv_at hl 0 rfl) ?_
  refine lv_iload_n hx hb dJ7_fill_53178_12 rfl (lv_at hl 3 rfl) ?_
  refine va_iast hx hb hE.1 hP hD hS 0 1 rfl rfl (kk_ix _ _ (by decide)) dJ7_fill_53178_13 (fun H locs hP hD hS => ?_)
  have hP : va_P D vwCl [kI cI h0 5 (upd (upd f_4 3 0) 4 0)] H := hP
  have hD : va_D A [kI cI h0 5 (upd (upd f_4 3 0) 4 0)] := hD
  refine lv_iinc (v := 5) (lv' := [(2, .int 5), (3, .int 5), (0, .ref h0), (1, .int 0)]) hx hb dJ7_fill_53178_14 hl (k := 0) rfl (by decide) (by decide) rfl (fun ls hl => ?_)
  refine lv_goto (tgt := 5) hx hb dJ7_fill_53178_17 (by decide) ?_
  refine lv_iload_n hx hb dJ7_fill_53178_5 rfl (lv_at hl 0 rfl) ?_
  refine lv_iload_n hx hb dJ7_fill_53178_6 rfl (lv_at hl 1 rfl) ?_
  refine lv_icmp_ge (tgt := 20) hx hb dJ7_fill_53178_7 (by decide) (fun _ => ?_) (fun c_7 => absurd c_7 (by decide))
  exact kk_ret_v ((fun i => [].getD i 0), (fun i => [(upd (upd f_4 3 0) 4 0)].getD i (fun _ => 0)), (fun i => [].getD i (fun _ => 0)), (fun i => [].getD i 0)) hx hb hr hlocks trivial (hP.sub [0] rfl) (hD.sub [0] (by decide +kernel) rfl) hS dJ7_fill_53178_20 (Nat.le_of_ble_eq_true rfl) (Nat.le_of_ble_eq_true rfl)
set_option maxHeartbeats 4000000 in
set_option maxRecDepth 100000 in
theorem c_J7_fill_53178_2 (l : Launch) (D : va_G) (cB cI cJ cD : ClassId) (h0 : Nat) (g0 : Nat → Int32) (sz : Nat) : Met l yJ7_fill_53178 (kk_W yJ7_fill_53178 cJ7_fill_53178 4 none) ({ frames := 0, cells := 0, slots := 0, locals := 0 }) (va_Pc [.ref h0, .int (-1)] (kk_pre D cB cI cJ cD [kI cI h0 5 g0] sz)) (kk_Qv D (fun (u : (Nat → Nat) × (Nat → Nat → Int32) × (Nat → Nat → Int64) × (Nat → Int32)) => True) (fun u => [kI cI h0 5 (u.2.1 0)]) (va_A [kI cI h0 5 g0] sz)) 0 0 (va_A [kI cI h0 5 g0] sz) := by
  refine kk_start (y := yJ7_fill_53178) (maxL := 4) (av := [.ref h0, .int (-1)]) (Qc := fun A => kk_Qv D (fun (u : (Nat → Nat) × (Nat → Nat → Int32) × (Nat → Nat → Int64) × (Nat → Int32)) => True) (fun u => [kI cI h0 5 (u.2.1 0)]) A) (by decide) (Nat.le_of_ble_eq_true rfl) ?_
  intro p e s m below meth c ls A hx hb hr hml hown hts hE hlocks hin hsz hP hD hA hS hl
  have hown : s.vm.findClass RJ7 = some m.cls := hown
  have hl : lv_has ls 4 [(0, .ref h0), (1, .int (-1))] := hl
  refine lv_iconst (v := 0) hx hb dJ7_fill_53178_0 (by decide) ?_
  refine lv_istore_n (lv' := [(2, .int 0), (0, .ref h0), (1, .int (-1))]) hx hb dJ7_fill_53178_1 rfl hl (by decide) rfl (fun ls hl => ?_)
  refine lv_aload_n hx hb dJ7_fill_53178_2 rfl (lv_at hl 1 rfl) ?_
  refine va_alen (v := 5) hx hb hE.1 hP 0 1 rfl rfl rfl dJ7_fill_53178_3 ?_
  refine lv_istore_n (lv' := [(3, .int 5), (2, .int 0), (0, .ref h0), (1, .int (-1))]) hx hb dJ7_fill_53178_4 rfl hl (by decide) rfl (fun ls hl => ?_)
  refine lv_iload_n hx hb dJ7_fill_53178_5 rfl (lv_at hl 1 rfl) ?_
  refine lv_iload_n hx hb dJ7_fill_53178_6 rfl (lv_at hl 0 rfl) ?_
  refine lv_icmp_ge (tgt := 20) hx hb dJ7_fill_53178_7 (by decide) (fun c_1 => absurd c_1 (by decide)) (fun _ => ?_)
  refine lv_aload_n hx hb dJ7_fill_53178_10 rfl (lv_at hl 2 rfl) ?_
  refine lv_iload_n hx hb dJ7_fill_53178_11 rfl (lv_at hl 1 rfl) ?_
  refine lv_iload_n hx hb dJ7_fill_53178_12 rfl (lv_at hl 3 rfl) ?_
  refine va_iast hx hb hE.1 hP hD hS 0 1 rfl rfl (kk_ix _ _ (by decide)) dJ7_fill_53178_13 (fun H locs hP hD hS => ?_)
  have hP : va_P D vwCl [kI cI h0 5 (upd g0 0 (-1))] H := hP
  have hD : va_D A [kI cI h0 5 (upd g0 0 (-1))] := hD
  refine lv_iinc (v := 1) (lv' := [(2, .int 1), (3, .int 5), (0, .ref h0), (1, .int (-1))]) hx hb dJ7_fill_53178_14 hl (k := 1) rfl (by decide) (by decide) rfl (fun ls hl => ?_)
  refine lv_goto (tgt := 5) hx hb dJ7_fill_53178_17 (by decide) ?_
  refine lv_iload_n hx hb dJ7_fill_53178_5 rfl (lv_at hl 0 rfl) ?_
  refine lv_iload_n hx hb dJ7_fill_53178_6 rfl (lv_at hl 1 rfl) ?_
  refine lv_icmp_ge (tgt := 20) hx hb dJ7_fill_53178_7 (by decide) (fun c_2 => absurd c_2 (by decide)) (fun _ => ?_)
  refine lv_aload_n hx hb dJ7_fill_53178_10 rfl (lv_at hl 2 rfl) ?_
  refine lv_iload_n hx hb dJ7_fill_53178_11 rfl (lv_at hl 0 rfl) ?_
  refine lv_iload_n hx hb dJ7_fill_53178_12 rfl (lv_at hl 3 rfl) ?_
  refine va_iast hx hb hE.1 hP hD hS 0 1 rfl rfl (kk_ix _ _ (by decide)) dJ7_fill_53178_13 (fun H locs hP hD hS => ?_)
  have hP : va_P D vwCl [kI cI h0 5 (upd (upd g0 0 (-1)) 1 (-1))] H := hP
  have hD : va_D A [kI cI h0 5 (upd (upd g0 0 (-1)) 1 (-1))] := hD
  refine lv_iinc (v := 2) (lv' := [(2, .int 2), (3, .int 5), (0, .ref h0), (1, .int (-1))]) hx hb dJ7_fill_53178_14 hl (k := 0) rfl (by decide) (by decide) rfl (fun ls hl => ?_)
  refine lv_goto (tgt := 5) hx hb dJ7_fill_53178_17 (by decide) ?_
  refine lv_iload_n hx hb dJ7_fill_53178_5 rfl (lv_at hl 0 rfl) ?_
  refine lv_iload_n hx hb dJ7_fill_53178_6 rfl (lv_at hl 1 rfl) ?_
  refine lv_icmp_ge (tgt := 20) hx hb dJ7_fill_53178_7 (by decide) (fun c_3 => absurd c_3 (by decide)) (fun _ => ?_)
  refine lv_aload_n hx hb dJ7_fill_53178_10 rfl (lv_at hl 2 rfl) ?_
  refine lv_iload_n hx hb dJ7_fill_53178_11 rfl (lv_at hl 0 rfl) ?_
  refine lv_iload_n hx hb dJ7_fill_53178_12 rfl (lv_at hl 3 rfl) ?_
  refine va_iast hx hb hE.1 hP hD hS 0 1 rfl rfl (kk_ix _ _ (by decide)) dJ7_fill_53178_13 (fun H locs hP hD hS => ?_)
  obtain ⟨f_4, ef_4⟩ : ∃ z, z = (upd (upd (upd g0 0 (-1)) 1 (-1)) 2 (-1)) := ⟨_, rfl⟩
  have hP : va_P D vwCl [kI cI h0 5 f_4] H := by rw [ef_4]; exact hP
  have hD : va_D A [kI cI h0 5 f_4] := by rw [ef_4]; exact hD
  refine lv_iinc (v := 3) (lv' := [(2, .int 3), (3, .int 5), (0, .ref h0), (1, .int (-1))]) hx hb dJ7_fill_53178_14 hl (k := 0) rfl (by decide) (by decide) rfl (fun ls hl => ?_)
  refine lv_goto (tgt := 5) hx hb dJ7_fill_53178_17 (by decide) ?_
  refine lv_iload_n hx hb dJ7_fill_53178_5 rfl (lv_at hl 0 rfl) ?_
  refine lv_iload_n hx hb dJ7_fill_53178_6 rfl (lv_at hl 1 rfl) ?_
  refine lv_icmp_ge (tgt := 20) hx hb dJ7_fill_53178_7 (by decide) (fun c_5 => absurd c_5 (by decide)) (fun _ => ?_)
  refine lv_aload_n hx hb dJ7_fill_53178_10 rfl (lv_at hl 2 rfl) ?_
  refine lv_iload_n hx hb dJ7_fill_53178_11 rfl (lv_at hl 0 rfl) ?_
  refine lv_iload_n hx hb dJ7_fill_53178_12 rfl (lv_at hl 3 rfl) ?_
  refine va_iast hx hb hE.1 hP hD hS 0 1 rfl rfl (kk_ix _ _ (by decide)) dJ7_fill_53178_13 (fun H locs hP hD hS => ?_)
  have hP : va_P D vwCl [kI cI h0 5 (upd f_4 3 (-1))] H := hP
  have hD : va_D A [kI cI h0 5 (upd f_4 3 (-1))] := hD
  refine lv_iinc (v := 4) (lv' := [(2, .int 4), (3, .int 5), (0, .ref h0), (1, .int (-1))]) hx hb dJ7_fill_53178_14 hl (k := 0) rfl (by decide) (by decide) rfl (fun ls hl => ?_)
  refine lv_goto (tgt := 5) hx hb dJ7_fill_53178_17 (by decide) ?_
  refine lv_iload_n hx hb dJ7_fill_53178_5 rfl (lv_at hl 0 rfl) ?_
  refine lv_iload_n hx hb dJ7_fill_53178_6 rfl (lv_at hl 1 rfl) ?_
  refine lv_icmp_ge (tgt := 20) hx hb dJ7_fill_53178_7 (by decide) (fun c_6 => absurd c_6 (by decide)) (fun _ => ?_)
  refine lv_aload_n hx hb dJ7_fill_53178_10 rfl (lv_at hl 2 rfl) ?_
  refine lv_iload_n hx hb dJ7_fill_53178_11 rfl (lv_at hl 0 rfl) ?_
  refine lv_iload_n hx hb dJ7_fill_53178_12 rfl (lv_at hl 3 rfl) ?_
  refine va_iast hx hb hE.1 hP hD hS 0 1 rfl rfl (kk_ix _ _ (by decide)) dJ7_fill_53178_13 (fun H locs hP hD hS => ?_)
  have hP : va_P D vwCl [kI cI h0 5 (upd (upd f_4 3 (-1)) 4 (-1))] H := hP
  have hD : va_D A [kI cI h0 5 (upd (upd f_4 3 (-1)) 4 (-1))] := hD
  refine lv_iinc (v := 5) (lv' := [(2, .int 5), (3, .int 5), (0, .ref h0), (1, .int (-1))]) hx hb dJ7_fill_53178_14 hl (k := 0) rfl (by decide) (by decide) rfl (fun ls hl => ?_)
  refine lv_goto (tgt := 5) hx hb dJ7_fill_53178_17 (by decide) ?_
  refine lv_iload_n hx hb dJ7_fill_53178_5 rfl (lv_at hl 0 rfl) ?_
  refine lv_iload_n hx hb dJ7_fill_53178_6 rfl (lv_at hl 1 rfl) ?_
  refine lv_icmp_ge (tgt := 20) hx hb dJ7_fill_53178_7 (by decide) (fun _ => ?_) (fun c_7 => absurd c_7 (by decide))
  exact kk_ret_v ((fun i => [].getD i 0), (fun i => [(upd (upd f_4 3 (-1)) 4 (-1))].getD i (fun _ => 0)), (fun i => [].getD i (fun _ => 0)), (fun i => [].getD i 0)) hx hb hr hlocks trivial (hP.sub [0] rfl) (hD.sub [0] (by decide +kernel) rfl) hS dJ7_fill_53178_20 (Nat.le_of_ble_eq_true rfl) (Nat.le_of_ble_eq_true rfl)
set_option maxHeartbeats 4000000 in
set_option maxRecDepth 100000 in
theorem c_X1_begin (l : Launch) (D : va_G) (cB cI cJ cD : ClassId) (h0 h1 h2 h3 : Nat) (z0 : Nat) (z1 : Nat) (z2 : Nat) (z3 : Nat) (z4 : Nat) (z5 : Nat) (z6 : Nat) (g0 : Nat → Int32) (g1 : Nat → Int32) (g2 : Nat → Int32) (sz : Nat) : Met l yX1_begin (kk_W yX1_begin cX1_begin 2 none) ({ frames := 1, cells := 0, slots := 0, locals := 23 }) (va_Pc [.ref h0, .int 0] (kk_pre D cB cI cJ cD [kO h0 1 [.int 0, .ref h1, .ref h2, .ref h3, .ref z0, .ref z1, .ref z2, .ref z3, .ref z4, .ref z5, .ref z6, .int 0], kI cI h1 5 g0, kI cI h2 5 g1, kI cI h3 5 g2] sz)) (kk_Qv D (fun (u : (Nat → Nat) × (Nat → Nat → Int32) × (Nat → Nat → Int64) × (Nat → Int32)) => True) (fun u => [kO h0 1 [.int 0, .ref h1, .ref h2, .ref h3, .ref z0, .ref z1, .ref z2, .ref z3, .ref z4, .ref z5, .ref z6, .int 0], kI cI h1 5 (u.2.1 0), kI cI h2 5 (u.2.1 1), kI cI h3 5 (u.2.1 2)]) (va_A [kO h0 1 [.int 0, .ref h1, .ref h2, .ref h3, .ref z0, .ref z1, .ref z2, .ref z3, .ref z4, .ref z5, .ref z6, .int 0], kI cI h1 5 g0, kI cI h2 5 g1, kI cI h3 5 g2] sz)) 0 0 (va_A [kO h0 1 [.int 0, .ref h1, .ref h2, .ref h3, .ref z0, .ref z1, .ref z2, .ref z3, .ref z4, .ref z5, .ref z6, .int 0], kI cI h1 5 g0, kI cI h2 5 g1, kI cI h3 5 g2] sz) := by
  refine kk_start (y := yX1_begin) (maxL := 2) (av := [.ref h0, .int 0]) (Qc := fun A => kk_Qv D (fun (u : (Nat → Nat) × (Nat → Nat → Int32) × (Nat → Nat → Int64) × (Nat → Int32)) => True) (fun u => [kO h0 1 [.int 0, .ref h1, .ref h2, .ref h3, .ref z0, .ref z1, .ref z2, .ref z3, .ref z4, .ref z5, .ref z6, .int 0], kI cI h1 5 (u.2.1 0), kI cI h2 5 (u.2.1 1), kI cI h3 5 (u.2.1 2)]) A) (by decide) (Nat.le_of_ble_eq_true rfl) ?_
  intro p e s m below meth c ls A hx hb hr hml hown hts hE hlocks hin hsz hP hD hA hS hl
  have hown : s.vm.findClass RX1 = some m.cls := hown
  have hl : lv_has ls 2 [(0, .ref h0), (1, .int 0)] := hl
  refine lv_aload_n hx hb dX1_begin_0 rfl (lv_at hl 0 rfl) ?_
  refine lv_iload_n hx hb dX1_begin_1 rfl (lv_at hl 1 rfl) ?_
  refine va_put (D := D) (ci := 1) (v := .int 0) (ty := .int) (C := RX1) (T := TX1) (N := 12) hx hb hts u_X1 tyX1 tyX1_ok nmX1 hown hE.1 hP hD hS 0 rfl rfl 0 (by decide) (hts _ w_312) (fun _ h9 => h9) rfl (by decide +kernel) rfl rfl (Nat.le_of_ble_eq_true rfl) dX1_begin_2 (fun H locs hP hD hS => ?_)
  have hP : va_P D vwCl [kO h0 1 [.int 0, .ref h1, .ref h2, .ref h3, .ref z0, .ref z1, .ref z2, .ref z3, .ref z4, .ref z5, .ref z6, .int 0], kI cI h1 5 g0, kI cI h2 5 g1, kI cI h3 5 g2] H := hP
  have hD : va_D A [kO h0 1 [.int 0, .ref h1, .ref h2, .ref h3, .ref z0, .ref z1, .ref z2, .ref z3, .ref z4, .ref z5, .ref z6, .int 0], kI cI h1 5 g0, kI cI h2 5 g1, kI cI h3 5 g2] := hD
  refine lv_aload_n hx hb dX1_begin_5 rfl (lv_at hl 0 rfl) ?_
  refine lv_iconst (v := 0) hx hb dX1_begin_6 (by decide) ?_
  refine va_put (D := D) (ci := 1) (v := .int 0) (ty := .int) (C := RX1) (T := TX1) (N := 12) hx hb hts u_X1 tyX1 tyX1_ok nmX1 hown hE.1 hP hD hS 0 rfl rfl 11 (by decide) (hts _ w_341) (fun _ h9 => h9) rfl (by decide +kernel) rfl rfl (Nat.le_of_ble_eq_true rfl) dX1_begin_7 (fun H locs hP hD hS => ?_)
  have hP : va_P D vwCl [kO h0 1 [.int 0, .ref h1, .ref h2, .ref h3, .ref z0, .ref z1, .ref z2, .ref z3, .ref z4, .ref z5, .ref z6, .int 0], kI cI h1 5 g0, kI cI h2 5 g1, kI cI h3 5 g2] H := hP
  have hD : va_D A [kO h0 1 [.int 0, .ref h1, .ref h2, .ref h3, .ref z0, .ref z1, .ref z2, .ref z3, .ref z4, .ref z5, .ref z6, .int 0], kI cI h1 5 g0, kI cI h2 5 g1, kI cI h3 5 g2] := hD
  refine lv_aload_n hx hb dX1_begin_10 rfl (lv_at hl 0 rfl) ?_
  refine va_get (D := D) (ci := 1) (v := .ref h1) (C := RX1) (T := TX1) (N := 12) hx hb hts u_X1 hown hE.1 hP 0 rfl rfl 1 (by decide) (hts _ w_315) (fun _ h9 => h9) rfl dX1_begin_11 ?_
  refine lv_iconst (v := 0) hx hb dX1_begin_14 (by decide) ?_
  refine kk_cv (wr := [kO h0 1 [.int 0, .ref h1, .ref h2, .ref h3, .ref z0, .ref z1, .ref z2, .ref z3, .ref z4, .ref z5, .ref z6, .int 0], kI cI h2 5 g1, kI cI h3 5 g2]) (kk_runS (w1 := [kI cI h1 5 g0]) (As := [.ref h1, .int 0]) (rest := []) hx hb hml hown hts hE (c_J7_fill_53178 l D cB cI cJ cD h1 g0 H.size) m_J7_fill_53178 w_648 ⟨rfl, rfl, Nat.le_of_ble_eq_true rfl, Nat.le_of_ble_eq_true rfl⟩ (hP.sub [1] rfl) (hD.sub [1] (by decide +kernel) rfl) rfl hl.1 (Nat.le_of_ble_eq_true rfl) dX1_begin_15 ⟨Nat.le_of_ble_eq_true rfl, Nat.le_of_ble_eq_true rfl⟩) hP hD hS hA [1] [0, 2, 3] rfl rfl (by decide +kernel) (by decide +kernel) (fun u_1 H locs p_1 hP hD hS => ?_)
  have hP : va_P D vwCl [kO h0 1 [.int 0, .ref h1, .ref h2, .ref h3, .ref z0, .ref z1, .ref z2, .ref z3, .ref z4, .ref z5, .ref z6, .int 0], kI cI h2 5 g1, kI cI h3 5 g2, kI cI h1 5 (u_1.2.1 0)] H := hP
  have hD : va_D A [kO h0 1 [.int 0, .ref h1, .ref h2, .ref h3, .ref z0, .ref z1, .ref z2, .ref z3, .ref z4, .ref z5, .ref z6, .int 0], kI cI h2 5 g1, kI cI h3 5 g2, kI cI h1 5 (u_1.2.1 0)] := hD
  refine lv_aload_n hx hb dX1_begin_18 rfl (lv_at hl 0 rfl) ?_
  refine va_get (D := D) (ci := 1) (v := .ref h2) (C := RX1) (T := TX1) (N := 12) hx hb hts u_X1 hown hE.1 hP 0 rfl rfl 2 (by decide) (hts _ w_320) (fun _ h9 => h9) rfl dX1_begin_19 ?_
  refine lv_iconst (v := (-1)) hx hb dX1_begin_22 (by decide) ?_
  refine kk_cv (wr := [kO h0 1 [.int 0, .ref h1, .ref h2, .ref h3, .ref z0, .ref z1, .ref z2, .ref z3, .ref z4, .ref z5, .ref z6, .int 0], kI cI h3 5 g2, kI cI h1 5 (u_1.2.1 0)]) (kk_runS (w1 := [kI cI h2 5 g1]) (As := [.ref h2, .int (-1)]) (rest := []) hx hb hml hown hts hE (c_J7_fill_53178_2 l D cB cI cJ cD h2 g1 H.size) m_J7_fill_53178 w_648 ⟨rfl, rfl, Nat.le_of_ble_eq_true rfl, Nat.le_of_ble_eq_true rfl⟩ (hP.sub [1] rfl) (hD.sub [1] (by decide +kernel) rfl) rfl hl.1 (Nat.le_of_ble_eq_true rfl) dX1_begin_23 ⟨Nat.le_of_ble_eq_true rfl, Nat.le_of_ble_eq_true rfl⟩) hP hD hS hA [1] [0, 2, 3] rfl rfl (by decide +kernel) (by decide +kernel) (fun u_2 H locs p_2 hP hD hS => ?_)
  have hP : va_P D vwCl [kO h0 1 [.int 0, .ref h1, .ref h2, .ref h3, .ref z0, .ref z1, .ref z2, .ref z3, .ref z4, .ref z5, .ref z6, .int 0], kI cI h3 5 g2, kI cI h1 5 (u_1.2.1 0), kI cI h2 5 (u_2.2.1 0)] H := hP
  have hD : va_D A [kO h0 1 [.int 0, .ref h1, .ref h2, .ref h3, .ref z0, .ref z1, .ref z2, .ref z3, .ref z4, .ref z5, .ref z6, .int 0], kI cI h3 5 g2, kI cI h1 5 (u_1.2.1 0), kI cI h2 5 (u_2.2.1 0)] := hD
  refine lv_aload_n hx hb dX1_begin_26 rfl (lv_at hl 0 rfl) ?_
  refine va_get (D := D) (ci := 1) (v := .ref h3) (C := RX1) (T := TX1) (N := 12) hx hb hts u_X1 hown hE.1 hP 0 rfl rfl 3 (by decide) (hts _ w_323) (fun _ h9 => h9) rfl dX1_begin_27 ?_
  refine lv_iconst (v := 0) hx hb dX1_begin_30 (by decide) ?_
  refine kk_cv (wr := [kO h0 1 [.int 0, .ref h1, .ref h2, .ref h3, .ref z0, .ref z1, .ref z2, .ref z3, .ref z4, .ref z5, .ref z6, .int 0], kI cI h1 5 (u_1.2.1 0), kI cI h2 5 (u_2.2.1 0)]) (kk_runS (w1 := [kI cI h3 5 g2]) (As := [.ref h3, .int 0]) (rest := []) hx hb hml hown hts hE (c_J7_fill_53178 l D cB cI cJ cD h3 g2 H.size) m_J7_fill_53178 w_648 ⟨rfl, rfl, Nat.le_of_ble_eq_true rfl, Nat.le_of_ble_eq_true rfl⟩ (hP.sub [1] rfl) (hD.sub [1] (by decide +kernel) rfl) rfl hl.1 (Nat.le_of_ble_eq_true rfl) dX1_begin_31 ⟨Nat.le_of_ble_eq_true rfl, Nat.le_of_ble_eq_true rfl⟩) hP hD hS hA [1] [0, 2, 3] rfl rfl (by decide +kernel) (by decide +kernel) (fun u_3 H locs p_3 hP hD hS => ?_)
  have hP : va_P D vwCl [kO h0 1 [.int 0, .ref h1, .ref h2, .ref h3, .ref z0, .ref z1, .ref z2, .ref z3, .ref z4, .ref z5, .ref z6, .int 0], kI cI h1 5 (u_1.2.1 0), kI cI h2 5 (u_2.2.1 0), kI cI h3 5 (u_3.2.1 0)] H := hP
  have hD : va_D A [kO h0 1 [.int 0, .ref h1, .ref h2, .ref h3, .ref z0, .ref z1, .ref z2, .ref z3, .ref z4, .ref z5, .ref z6, .int 0], kI cI h1 5 (u_1.2.1 0), kI cI h2 5 (u_2.2.1 0), kI cI h3 5 (u_3.2.1 0)] := hD
  exact kk_ret_v ((fun i => [].getD i 0), (fun i => [(u_1.2.1 0), (u_2.2.1 0), (u_3.2.1 0)].getD i (fun _ => 0)), (fun i => [].getD i (fun _ => 0)), (fun i => [].getD i 0)) hx hb hr hlocks trivial (hP.sub [0, 1, 2, 3] rfl) (hD.sub [0, 1, 2, 3] (by decide +kernel) rfl) hS dX1_begin_34 (Nat.le_of_ble_eq_true rfl) (Nat.le_of_ble_eq_true rfl)
set_option maxHeartbeats 4000000 in
set_option maxRecDepth 100000 in
theorem c_X9_begin (l : Launch) (D : va_G) (cB cI cJ cD : ClassId) (h0 h1 h2 h3 h4 h5 h6 h7 h8 h9 h10 h11 h12 h13 h14 h15 h16 h17 h18 h19 h20 h21 h22 : Nat) (z0 : Nat) (z1 : Nat) (z2 : Nat) (z3 : Nat) (z4 : Nat) (z5 : Nat) (g0 : Nat → Int32) (g1 : Nat → Int32) (g2 : Nat → Int32) (g3 : Nat → Int32) (g4 : Nat → Int32) (g5 : Nat → Int32) (g6 : Nat → Int32) (g7 : Nat → Int32) (g8 : Nat → Int32) (g9 : Nat → Int32) (g10 : Nat → Int32) (g11 : Nat → Int32) (g12 : Nat → Int32) (g13 : Nat → Int32) (z6 : Nat) (z7 : Nat) (z8 : Nat) (z9 : Nat) (z10 : Nat) (z11 : Nat) (z12 : Nat) (g14 : Nat → Int32) (g15 : Nat → Int32) (g16 : Nat → Int32) (z13 : Nat) (sz : Nat) : Met l yX9_begin (kk_W yX9_begin cX9_begin 2 none) ({ frames := 2, cells := 0, slots := 0, locals := 61 }) (va_Pc [.ref h0, .ref h1] (kk_pre D cB cI cJ cD [kO h0 8 [.ref h2, .ref h18, .ref h22, .int 0, .int 0, .int 0, .int 0, .int 0], kO h1 5 [.int 0, .int 0, .int 0, .ref h3, .ref z0, .ref z1, .ref z2, .ref z3, .ref z4, .ref z5], kO h2 6 [.int 0, .ref h5, .ref h7, .ref h9, .ref h11, .ref h13, .ref h15, .ref h17], kO h3 6 [.int 0, .ref h4, .ref h6, .ref h8, .ref h10, .ref h12, .ref h14, .ref h16], kI cI h4 24 g0, kI cI h5 24 g1, kI cI h6 24 g2, kI cI h7 24 g3, kI cI h8 24 g4, kI cI h9 24 g5, kI cI h10 24 g6, kI cI h11 24 g7, kI cI h12 25 g8, kI cI h13 25 g9, kI cI h14 24 g10, kI cI h15 24 g11, kI cI h16 24 g12, kI cI h17 24 g13, kO h18 1 [.int 0, .ref h19, .ref h20, .ref h21, .ref z6, .ref z7, .ref z8, .ref z9, .ref z10, .ref z11, .ref z12, .int 0], kI cI h19 5 g14, kI cI h20 5 g15, kI cI h21 5 g16, kO h22 3 [.int 0, .ref z13]] sz)) (kk_Qv D (fun (u : (Nat → Nat) × (Nat → Nat → Int32) × (Nat → Nat → Int64) × (Nat → Int32)) => True) (fun u => [kO h0 8 [.ref h2, .ref h18, .ref h22, .int 0, .int 0, .int 0, .int 0, .int 0], kO h1 5 [.int 0, .int 0, .int 0, .ref h3, .ref z0, .ref z1, .ref z2, .ref z3, .ref z4, .ref z5], kO h2 6 [.int 0, .ref h5, .ref h7, .ref h9, .ref h11, .ref h13, .ref h15, .ref h17], kO h3 6 [.int 0, .ref h4, .ref h6, .ref h8, .ref h10, .ref h12, .ref h14, .ref h16], kI cI h4 24 g0, kI cI h5 24 (u.2.1 0), kI cI h6 24 g2, kI cI h7 24 (u.2.1 1), kI cI h8 24 g4, kI cI h9 24 (u.2.1 2), kI cI h10 24 g6, kI cI h11 24 (u.2.1 3), kI cI h12 25 g8, kI cI h13 25 (u.2.1 4), kI cI h14 24 g10, kI cI h15 24 (u.2.1 5), kI cI h16 24 g12, kI cI h17 24 (u.2.1 6), kO h18 1 [.int 0, .ref h19, .ref h20, .ref h21, .ref z6, .ref z7, .ref z8, .ref z9, .ref z10, .ref z11, .ref z12, .int 0], kI cI h19 5 (u.2.1 7), kI cI h20 5 (u.2.1 8), kI cI h21 5 (u.2.1 9), kO h22 3 [.int 0, .ref z13]]) (va_A [kO h0 8 [.ref h2, .ref h18, .ref h22, .int 0, .int 0, .int 0, .int 0, .int 0], kO h1 5 [.int 0, .int 0, .int 0, .ref h3, .ref z0, .ref z1, .ref z2, .ref z3, .ref z4, .ref z5], kO h2 6 [.int 0, .ref h5, .ref h7, .ref h9, .ref h11, .ref h13, .ref h15, .ref h17], kO h3 6 [.int 0, .ref h4, .ref h6, .ref h8, .ref h10, .ref h12, .ref h14, .ref h16], kI cI h4 24 g0, kI cI h5 24 g1, kI cI h6 24 g2, kI cI h7 24 g3, kI cI h8 24 g4, kI cI h9 24 g5, kI cI h10 24 g6, kI cI h11 24 g7, kI cI h12 25 g8, kI cI h13 25 g9, kI cI h14 24 g10, kI cI h15 24 g11, kI cI h16 24 g12, kI cI h17 24 g13, kO h18 1 [.int 0, .ref h19, .ref h20, .ref h21, .ref z6, .ref z7, .ref z8, .ref z9, .ref z10, .ref z11, .ref z12, .int 0], kI cI h19 5 g14, kI cI h20 5 g15, kI cI h21 5 g16, kO h22 3 [.int 0, .ref z13]] sz)) 0 0 (va_A [kO h0 8 [.ref h2, .ref h18, .ref h22, .int 0, .int 0, .int 0, .int 0, .int 0], kO h1 5 [.int 0, .int 0, .int 0, .ref h3, .ref z0, .ref z1, .ref z2, .ref z3, .ref z4, .ref z5], kO h2 6 [.int 0, .ref h5, .ref h7, .ref h9, .ref h11, .ref h13, .ref h15, .ref h17], kO h3 6 [.int 0, .ref h4, .ref h6, .ref h8, .ref h10, .ref h12, .ref h14, .ref h16], kI cI h4 24 g0, kI cI h5 24 g1, kI cI h6 24 g2, kI cI h7 24 g3, kI cI h8 24 g4, kI cI h9 24 g5, kI cI h10 24 g6, kI cI h11 24 g7, kI cI h12 25 g8, kI cI h13 25 g9, kI cI h14 24 g10, kI cI h15 24 g11, kI cI h16 24 g12, kI cI h17 24 g13, kO h18 1 [.int 0, .ref h19, .ref h20, .ref h21, .ref z6, .ref z7, .ref z8, .ref z9, .ref z10, .ref z11, .ref z12, .int 0], kI cI h19 5 g14, kI cI h20 5 g15, kI cI h21 5 g16, kO h22 3 [.int 0, .ref z13]] sz) := by
  refine kk_start (y := yX9_begin) (maxL := 2) (av := [.ref h0, .ref h1]) (Qc := fun A => kk_Qv D (fun (u : (Nat → Nat) × (Nat → Nat → Int32) × (Nat → Nat → Int64) × (Nat → Int32)) => True) (fun u => [kO h0 8 [.ref h2, .ref h18, .ref h22, .int 0, .int 0, .int 0, .int 0, .int 0], kO h1 5 [.int 0, .int 0, .int 0, .ref h3, .ref z0, .ref z1, .ref z2, .ref z3, .ref z4, .ref z5], kO h2 6 [.int 0, .ref h5, .ref h7, .ref h9, .ref h11, .ref h13, .ref h15, .ref h17], kO h3 6 [.int 0, .ref h4, .ref h6, .ref h8, .ref h10, .ref h12, .ref h14, .ref h16], kI cI h4 24 g0, kI cI h5 24 (u.2.1 0), kI cI h6 24 g2, kI cI h7 24 (u.2.1 1), kI cI h8 24 g4, kI cI h9 24 (u.2.1 2), kI cI h10 24 g6, kI cI h11 24 (u.2.1 3), kI cI h12 25 g8, kI cI h13 25 (u.2.1 4), kI cI h14 24 g10, kI cI h15 24 (u.2.1 5), kI cI h16 24 g12, kI cI h17 24 (u.2.1 6), kO h18 1 [.int 0, .ref h19, .ref h20, .ref h21, .ref z6, .ref z7, .ref z8, .ref z9, .ref z10, .ref z11, .ref z12, .int 0], kI cI h19 5 (u.2.1 7), kI cI h20 5 (u.2.1 8), kI cI h21 5 (u.2.1 9), kO h22 3 [.int 0, .ref z13]]) A) (by decide) (Nat.le_of_ble_eq_true rfl) ?_
  intro p e s m below meth c ls A hx hb hr hml hown hts hE hlocks hin hsz hP hD hA hS hl
  have hown : s.vm.findClass RX9 = some m.cls := hown
  have hl : lv_has ls 2 [(0, .ref h0), (1, .ref h1)] := hl
  refine lv_aload_n hx hb dX9_begin_0 rfl (lv_at hl 0 rfl) ?_
  refine va_get (D := D) (ci := 8) (v := .ref h2) (C := RX9) (T := TX9) (N := 8) hx hb hts u_X9 hown hE.1 hP 0 rfl rfl 0 (by decide) (hts _ w_384) (fun _ h9 => h9) rfl dX9_begin_1 ?_
  refine lv_aload_n hx hb dX9_begin_4 rfl (lv_at hl 1 rfl) ?_
  refine va_get (D := D) (ci := 5) (v := .ref h3) (C := RX6) (T := TX6) (N := 10) hx hb hts u_X6 hown hE.1 hP 1 rfl rfl 3 (by decide) (hts _ w_217) (fun _ h9 => h9) rfl dX9_begin_5 ?_
  refine kk_cv (wr := [kO h0 8 [.ref h2, .ref h18, .ref h22, .int 0, .int 0, .int 0, .int 0, .int 0], kO h1 5 [.int 0, .int 0, .int 0, .ref h3, .ref z0, .ref z1, .ref z2, .ref z3, .ref z4, .ref z5], kO h18 1 [.int 0, .ref h19, .ref h20, .ref h21, .ref z6, .ref z7, .ref z8, .ref z9, .ref z10, .ref z11, .ref z12, .int 0], kI cI h19 5 g14, kI cI h20 5 g15, kI cI h21 5 g16, kO h22 3 [.int 0, .ref z13]]) (kk_runV (w1 := [kO h2 6 [.int 0, .ref h5, .ref h7, .ref h9, .ref h11, .ref h13, .ref h15, .ref h17], kO h3 6 [.int 0, .ref h4, .ref h6, .ref h8, .ref h10, .ref h12, .ref h14, .ref h16], kI cI h4 24 g0, kI cI h5 24 g1, kI cI h6 24 g2, kI cI h7 24 g3, kI cI h8 24 g4, kI cI h9 24 g5, kI cI h10 24 g6, kI cI h11 24 g7, kI cI h12 25 g8, kI cI h13 25 g9, kI cI h14 24 g10, kI cI h15 24 g11, kI cI h16 24 g12, kI cI h17 24 g13]) (As := [.ref h3]) (rest := []) hx hb hml hown hts hE (c_X7_copyFrom l D cB cI cJ cD h2 h3 h4 h5 h6 h7 h8 h9 h10 h11 h12 h13 h14 h15 h16 h17 g0 g1 g2 g3 g4 g5 g6 g7 g8 g9 g10 g11 g12 g13 s.heap.size) m_X7_copyFrom w_637 ⟨rfl, rfl, Nat.le_of_ble_eq_true rfl, Nat.le_of_ble_eq_true rfl⟩ (hP.sub [2, 3, 4, 5, 6, 7, 8, 9, 10, 11, 12, 13, 14, 15, 16, 17] rfl) (hD.sub [2, 3, 4, 5, 6, 7, 8, 9, 10, 11, 12, 13, 14, 15, 16, 17] (by decide +kernel) rfl) 0 6 rfl rfl rfl hl.1 (Nat.le_of_ble_eq_true rfl) dX9_begin_8 ⟨Nat.le_of_ble_eq_true rfl, Nat.le_of_ble_eq_true rfl⟩) hP hD hS hA [2, 3, 4, 5, 6, 7, 8, 9, 10, 11, 12, 13, 14, 15, 16, 17] [0, 1, 18, 19, 20, 21, 22] rfl rfl (by decide +kernel) (by decide +kernel) (fun u_1 H locs p_1 hP hD hS => ?_)
  have hP : va_P D vwCl [kO h0 8 [.ref h2, .ref h18, .ref h22, .int 0, .int 0, .int 0, .int 0, .int 0], kO h1 5 [.int 0, .int 0, .int 0, .ref h3, .ref z0, .ref z1, .ref z2, .ref z3, .ref z4, .ref z5], kO h18 1 [.int 0, .ref h19, .ref h20, .ref h21, .ref z6, .ref z7, .ref z8, .ref z9, .ref z10, .ref z11, .ref z12, .int 0], kI cI h19 5 g14, kI cI h20 5 g15, kI cI h21 5 g16, kO h22 3 [.int 0, .ref z13], kO h2 6 [.int 0, .ref h5, .ref h7, .ref h9, .ref h11, .ref h13, .ref h15, .ref h17], kO h3 6 [.int 0, .ref h4, .ref h6, .ref h8, .ref h10, .ref h12, .ref h14, .ref h16], kI cI h4 24 g0, kI cI h5 24 (u_1.2.1 0), kI cI h6 24 g2, kI cI h7 24 (u_1.2.1 1), kI cI h8 24 g4, kI cI h9 24 (u_1.2.1 2), kI cI h10 24 g6, kI cI h11 24 (u_1.2.1 3), kI cI h12 25 g8, kI cI h13 25 (u_1.2.1 4), kI cI h14 24 g10, kI cI h15 24 (u_1.2.1 5), kI cI h16 24 g12, kI cI h17 24 (u_1.2.1 6)] H := hP
  have hD : va_D A [kO h0 8 [.ref h2, .ref h18, .ref h22, .int 0, .int 0, .int 0, .int 0, .int 0], kO h1 5 [.int 0, .int 0, .int 0, .ref h3, .ref z0, .ref z1, .ref z2, .ref z3, .ref z4, .ref z5], kO h18 1 [.int 0, .ref h19, .ref h20, .ref h21, .ref z6, .ref z7, .ref z8, .ref z9, .ref z10, .ref z11, .ref z12, .int 0], kI cI h19 5 g14, kI cI h20 5 g15, kI cI h21 5 g16, kO h22 3 [.int 0, .ref z13], kO h2 6 [.int 0, .ref h5, .ref h7, .ref h9, .ref h11, .ref h13, .ref h15, .ref h17], kO h3 6 [.int 0, .ref h4, .ref h6, .ref h8, .ref h10, .ref h12, .ref h14, .ref h16], kI cI h4 24 g0, kI cI h5 24 (u_1.2.1 0), kI cI h6 24 g2, kI cI h7 24 (u_1.2.1 1), kI cI h8 24 g4, kI cI h9 24 (u_1.2.1 2), kI cI h10 24 g6, kI cI h11 24 (u_1.2.1 3), kI cI h12 25 g8, kI cI h13 25 (u_1.2.1 4), kI cI h14 24 g10, kI cI h15 24 (u_1.2.1 5), kI cI h16 24 g12, kI cI h17 24 (u_1.2.1 6)] := hD
  refine lv_aload_n hx hb dX9_begin_11 rfl (lv_at hl 0 rfl) ?_
  refine va_get (D := D) (ci := 8) (v := .ref h18) (C := RX9) (T := TX9) (N := 8) hx hb hts u_X9 hown hE.1 hP 0 rfl rfl 1 (by decide) (hts _ w_387) (fun _ h9 => h9) rfl dX9_begin_12 ?_
  refine lv_aload_n hx hb dX9_begin_15 rfl (lv_at hl 1 rfl) ?_
  refine va_get (D := D) (ci := 5) (v := .int 0) (C := RX6) (T := TX6) (N := 10) hx hb hts u_X6 hown hE.1 hP 1 rfl rfl 1 (by decide) (hts _ w_207) (fun _ h9 => h9) rfl dX9_begin_16 ?_
  refine kk_cv (wr := [kO h0 8 [.ref h2, .ref h18, .ref h22, .int 0, .int 0, .int 0, .int 0, .int 0], kO h1 5 [.int 0, .int 0, .int 0, .ref h3, .ref z0, .ref z1, .ref z2, .ref z3, .ref z4, .ref z5], kO h22 3 [.int 0, .ref z13], kO h2 6 [.int 0, .ref h5, .ref h7, .ref h9, .ref h11, .ref h13, .ref h15, .ref h17], kO h3 6 [.int 0, .ref h4, .ref h6, .ref h8, .ref h10, .ref h12, .ref h14, .ref h16], kI cI h4 24 g0, kI cI h5 24 (u_1.2.1 0), kI cI h6 24 g2, kI cI h7 24 (u_1.2.1 1), kI cI h8 24 g4, kI cI h9 24 (u_1.2.1 2), kI cI h10 24 g6, kI cI h11 24 (u_1.2.1 3), kI cI h12 25 g8, kI cI h13 25 (u_1.2.1 4), kI cI h14 24 g10, kI cI h15 24 (u_1.2.1 5), kI cI h16 24 g12, kI cI h17 24 (u_1.2.1 6)]) (kk_runV (w1 := [kO h18 1 [.int 0, .ref h19, .ref h20, .ref h21, .ref z6, .ref z7, .ref z8, .ref z9, .ref z10, .ref z11, .ref z12, .int 0], kI cI h19 5 g14, kI cI h20 5 g15, kI cI h21 5 g16]) (As := [.int 0]) (rest := []) hx hb hml hown hts hE (c_X1_begin l D cB cI cJ cD h18 h19 h20 h21 z6 z7 z8 z9 z10 z11 z12 g14 g15 g16 H.size) m_X1_begin w_644 ⟨rfl, rfl, Nat.le_of_ble_eq_true rfl, Nat.le_of_ble_eq_true rfl⟩ (hP.sub [2, 3, 4, 5] rfl) (hD.sub [2, 3, 4, 5] (by decide +kernel) rfl) 0 1 rfl rfl rfl hl.1 (Nat.le_of_ble_eq_true rfl) dX9_begin_19 ⟨Nat.le_of_ble_eq_true rfl, Nat.le_of_ble_eq_true rfl⟩) hP hD hS hA [2, 3, 4, 5] [0, 1, 6, 7, 8, 9, 10, 11, 12, 13, 14, 15, 16, 17, 18, 19, 20, 21, 22] rfl rfl (by decide +kernel) (by decide +kernel) (fun u_2 H locs p_2 hP hD hS => ?_)
  have hP : va_P D vwCl [kO h0 8 [.ref h2, .ref h18, .ref h22, .int 0, .int 0, .int 0, .int 0, .int 0], kO h1 5 [.int 0, .int 0, .int 0, .ref h3, .ref z0, .ref z1, .ref z2, .ref z3, .ref z4, .ref z5], kO h22 3 [.int 0, .ref z13], kO h2 6 [.int 0, .ref h5, .ref h7, .ref h9, .ref h11, .ref h13, .ref h15, .ref h17], kO h3 6 [.int 0, .ref h4, .ref h6, .ref h8, .ref h10, .ref h12, .ref h14, .ref h16], kI cI h4 24 g0, kI cI h5 24 (u_1.2.1 0), kI cI h6 24 g2, kI cI h7 24 (u_1.2.1 1), kI cI h8 24 g4, kI cI h9 24 (u_1.2.1 2), kI cI h10 24 g6, kI cI h11 24 (u_1.2.1 3), kI cI h12 25 g8, kI cI h13 25 (u_1.2.1 4), kI cI h14 24 g10, kI cI h15 24 (u_1.2.1 5), kI cI h16 24 g12, kI cI h17 24 (u_1.2.1 6), kO h18 1 [.int 0, .ref h19, .ref h20, .ref h21, .ref z6, .ref z7, .ref z8, .ref z9, .ref z10, .ref z11, .ref z12, .int 0], kI cI h19 5 (u_2.2.1 0), kI cI h20 5 (u_2.2.1 1), kI cI h21 5 (u_2.2.1 2)] H := hP
  have hD : va_D A [kO h0 8 [.ref h2, .ref h18, .ref h22, .int 0, .int 0, .int 0, .int 0, .int 0], kO h1 5 [.int 0, .int 0, .int 0, .ref h3, .ref z0, .ref z1, .ref z2, .ref z3, .ref z4, .ref z5], kO h22 3 [.int 0, .ref z13], kO h2 6 [.int 0, .ref h5, .ref h7, .ref h9, .ref h11, .ref h13, .ref h15, .ref h17], kO h3 6 [.int 0, .ref h4, .ref h6, .ref h8, .ref h10, .ref h12, .ref h14, .ref h16], kI cI h4 24 g0, kI cI h5 24 (u_1.2.1 0), kI cI h6 24 g2, kI cI h7 24 (u_1.2.1 1), kI cI h8 24 g4, kI cI h9 24 (u_1.2.1 2), kI cI h10 24 g6, kI cI h11 24 (u_1.2.1 3), kI cI h12 25 g8, kI cI h13 25 (u_1.2.1 4), kI cI h14 24 g10, kI cI h15 24 (u_1.2.1 5), kI cI h16 24 g12, kI cI h17 24 (u_1.2.1 6), kO h18 1 [.int 0, .ref h19, .ref h20, .ref h21, .ref z6, .ref z7, .ref z8, .ref z9, .ref z10, .ref z11, .ref z12, .int 0], kI cI h19 5 (u_2.2.1 0), kI cI h20 5 (u_2.2.1 1), kI cI h21 5 (u_2.2.1 2)] := hD
  refine lv_aload_n hx hb dX9_begin_22 rfl (lv_at hl 0 rfl) ?_
  refine va_get (D := D) (ci := 8) (v := .ref h22) (C := RX9) (T := TX9) (N := 8) hx hb hts u_X9 hown hE.1 hP 0 rfl rfl 2 (by decide) (hts _ w_391) (fun _ h9 => h9) rfl dX9_begin_23 ?_
  refine lv_iconst (v := 0) hx hb dX9_begin_26 (by decide) ?_
  refine va_put (D := D) (ci := 3) (v := .int 0) (ty := .int) (C := RX3) (T := TX3) (N := 2) hx hb hts u_X3 tyX3 tyX3_ok nmX3 hown hE.1 hP hD hS 2 rfl rfl 0 (by decide) (hts _ w_376) (fun _ h9 => h9) rfl (by decide +kernel) rfl rfl (Nat.le_of_ble_eq_true rfl) dX9_begin_27 (fun H locs hP hD hS => ?_)
  have hP : va_P D vwCl [kO h0 8 [.ref h2, .ref h18, .ref h22, .int 0, .int 0, .int 0, .int 0, .int 0], kO h1 5 [.int 0, .int 0, .int 0, .ref h3, .ref z0, .ref z1, .ref z2, .ref z3, .ref z4, .ref z5], kO h22 3 [.int 0, .ref z13], kO h2 6 [.int 0, .ref h5, .ref h7, .ref h9, .ref h11, .ref h13, .ref h15, .ref h17], kO h3 6 [.int 0, .ref h4, .ref h6, .ref h8, .ref h10, .ref h12, .ref h14, .ref h16], kI cI h4 24 g0, kI cI h5 24 (u_1.2.1 0), kI cI h6 24 g2, kI cI h7 24 (u_1.2.1 1), kI cI h8 24 g4, kI cI h9 24 (u_1.2.1 2), kI cI h10 24 g6, kI cI h11 24 (u_1.2.1 3), kI cI h12 25 g8, kI cI h13 25 (u_1.2.1 4), kI cI h14 24 g10, kI cI h15 24 (u_1.2.1 5), kI cI h16 24 g12, kI cI h17 24 (u_1.2.1 6), kO h18 1 [.int 0, .ref h19, .ref h20, .ref h21, .ref z6, .ref z7, .ref z8, .ref z9, .ref z10, .ref z11, .ref z12, .int 0], kI cI h19 5 (u_2.2.1 0), kI cI h20 5 (u_2.2.1 1), kI cI h21 5 (u_2.2.1 2)] H := hP
  have hD : va_D A [kO h0 8 [.ref h2, .ref h18, .ref h22, .int 0, .int 0, .int 0, .int 0, .int 0], kO h1 5 [.int 0, .int 0, .int 0, .ref h3, .ref z0, .ref z1, .ref z2, .ref z3, .ref z4, .ref z5], kO h22 3 [.int 0, .ref z13], kO h2 6 [.int 0, .ref h5, .ref h7, .ref h9, .ref h11, .ref h13, .ref h15, .ref h17], kO h3 6 [.int 0, .ref h4, .ref h6, .ref h8, .ref h10, .ref h12, .ref h14, .ref h16], kI cI h4 24 g0, kI cI h5 24 (u_1.2.1 0), kI cI h6 24 g2, kI cI h7 24 (u_1.2.1 1), kI cI h8 24 g4, kI cI h9 24 (u_1.2.1 2), kI cI h10 24 g6, kI cI h11 24 (u_1.2.1 3), kI cI h12 25 g8, kI cI h13 25 (u_1.2.1 4), kI cI h14 24 g10, kI cI h15 24 (u_1.2.1 5), kI cI h16 24 g12, kI cI h17 24 (u_1.2.1 6), kO h18 1 [.int 0, .ref h19, .ref h20, .ref h21, .ref z6, .ref z7, .ref z8, .ref z9, .ref z10, .ref z11, .ref z12, .int 0], kI cI h19 5 (u_2.2.1 0), kI cI h20 5 (u_2.2.1 1), kI cI h21 5 (u_2.2.1 2)] := hD
  refine lv_aload_n hx hb dX9_begin_30 rfl (lv_at hl 0 rfl) ?_
  refine lv_iconst (v := 0) hx hb dX9_begin_31 (by decide) ?_
  refine va_put (D := D) (ci := 8) (v := .int 0) (ty := .boolean) (C := RX9) (T := TX9) (N := 8) hx hb hts u_X9 tyX9 tyX9_ok nmX9 hown hE.1 hP hD hS 0 rfl rfl 3 (by decide) (hts _ w_394) (fun _ h9 => h9) rfl (by decide +kernel) rfl rfl (Nat.le_of_ble_eq_true rfl) dX9_begin_32 (fun H locs hP hD hS => ?_)
  have hP : va_P D vwCl [kO h0 8 [.ref h2, .ref h18, .ref h22, .int 0, .int 0, .int 0, .int 0, .int 0], kO h1 5 [.int 0, .int 0, .int 0, .ref h3, .ref z0, .ref z1, .ref z2, .ref z3, .ref z4, .ref z5], kO h22 3 [.int 0, .ref z13], kO h2 6 [.int 0, .ref h5, .ref h7, .ref h9, .ref h11, .ref h13, .ref h15, .ref h17], kO h3 6 [.int 0, .ref h4, .ref h6, .ref h8, .ref h10, .ref h12, .ref h14, .ref h16], kI cI h4 24 g0, kI cI h5 24 (u_1.2.1 0), kI cI h6 24 g2, kI cI h7 24 (u_1.2.1 1), kI cI h8 24 g4, kI cI h9 24 (u_1.2.1 2), kI cI h10 24 g6, kI cI h11 24 (u_1.2.1 3), kI cI h12 25 g8, kI cI h13 25 (u_1.2.1 4), kI cI h14 24 g10, kI cI h15 24 (u_1.2.1 5), kI cI h16 24 g12, kI cI h17 24 (u_1.2.1 6), kO h18 1 [.int 0, .ref h19, .ref h20, .ref h21, .ref z6, .ref z7, .ref z8, .ref z9, .ref z10, .ref z11, .ref z12, .int 0], kI cI h19 5 (u_2.2.1 0), kI cI h20 5 (u_2.2.1 1), kI cI h21 5 (u_2.2.1 2)] H := hP
  have hD : va_D A [kO h0 8 [.ref h2, .ref h18, .ref h22, .int 0, .int 0, .int 0, .int 0, .int 0], kO h1 5 [.int 0, .int 0, .int 0, .ref h3, .ref z0, .ref z1, .ref z2, .ref z3, .ref z4, .ref z5], kO h22 3 [.int 0, .ref z13], kO h2 6 [.int 0, .ref h5, .ref h7, .ref h9, .ref h11, .ref h13, .ref h15, .ref h17], kO h3 6 [.int 0, .ref h4, .ref h6, .ref h8, .ref h10, .ref h12, .ref h14, .ref h16], kI cI h4 24 g0, kI cI h5 24 (u_1.2.1 0), kI cI h6 24 g2, kI cI h7 24 (u_1.2.1 1), kI cI h8 24 g4, kI cI h9 24 (u_1.2.1 2), kI cI h10 24 g6, kI cI h11 24 (u_1.2.1 3), kI cI h12 25 g8, kI cI h13 25 (u_1.2.1 4), kI cI h14 24 g10, kI cI h15 24 (u_1.2.1 5), kI cI h16 24 g12, kI cI h17 24 (u_1.2.1 6), kO h18 1 [.int 0, .ref h19, .ref h20, .ref h21, .ref z6, .ref z7, .ref z8, .ref z9, .ref z10, .ref z11, .ref z12, .int 0], kI cI h19 5 (u_2.2.1 0), kI cI h20 5 (u_2.2.1 1), kI cI h21 5 (u_2.2.1 2)] := hD
  refine lv_aload_n hx hb dX9_begin_35 rfl (lv_at hl 0 rfl) ?_
  refine lv_iconst (v := 0) hx hb dX9_begin_36 (by decide) ?_
  refine va_put (D := D) (ci := 8) (v := .int 0) (ty := .boolean) (C := RX9) (T := TX9) (N := 8) hx hb hts u_X9 tyX9 tyX9_ok nmX9 hown hE.1 hP hD hS 0 rfl rfl 4 (by decide) (hts _ w_395) (fun _ h9 => h9) rfl (by decide +kernel) rfl rfl (Nat.le_of_ble_eq_true rfl) dX9_begin_37 (fun H locs hP hD hS => ?_)
  have hP : va_P D vwCl [kO h0 8 [.ref h2, .ref h18, .ref h22, .int 0, .int 0, .int 0, .int 0, .int 0], kO h1 5 [.int 0, .int 0, .int 0, .ref h3, .ref z0, .ref z1, .ref z2, .ref z3, .ref z4, .ref z5], kO h22 3 [.int 0, .ref z13], kO h2 6 [.int 0, .ref h5, .ref h7, .ref h9, .ref h11, .ref h13, .ref h15, .ref h17], kO h3 6 [.int 0, .ref h4, .ref h6, .ref h8, .ref h10, .ref h12, .ref h14, .ref h16], kI cI h4 24 g0, kI cI h5 24 (u_1.2.1 0), kI cI h6 24 g2, kI cI h7 24 (u_1.2.1 1), kI cI h8 24 g4, kI cI h9 24 (u_1.2.1 2), kI cI h10 24 g6, kI cI h11 24 (u_1.2.1 3), kI cI h12 25 g8, kI cI h13 25 (u_1.2.1 4), kI cI h14 24 g10, kI cI h15 24 (u_1.2.1 5), kI cI h16 24 g12, kI cI h17 24 (u_1.2.1 6), kO h18 1 [.int 0, .ref h19, .ref h20, .ref h21, .ref z6, .ref z7, .ref z8, .ref z9, .ref z10, .ref z11, .ref z12, .int 0], kI cI h19 5 (u_2.2.1 0), kI cI h20 5 (u_2.2.1 1), kI cI h21 5 (u_2.2.1 2)] H := hP
  have hD : va_D A [kO h0 8 [.ref h2, .ref h18, .ref h22, .int 0, .int 0, .int 0, .int 0, .int 0], kO h1 5 [.int 0, .int 0, .int 0, .ref h3, .ref z0, .ref z1, .ref z2, .ref z3, .ref z4, .ref z5], kO h22 3 [.int 0, .ref z13], kO h2 6 [.int 0, .ref h5, .ref h7, .ref h9, .ref h11, .ref h13, .ref h15, .ref h17], kO h3 6 [.int 0, .ref h4, .ref h6, .ref h8, .ref h10, .ref h12, .ref h14, .ref h16], kI cI h4 24 g0, kI cI h5 24 (u_1.2.1 0), kI cI h6 24 g2, kI cI h7 24 (u_1.2.1 1), kI cI h8 24 g4, kI cI h9 24 (u_1.2.1 2), kI cI h10 24 g6, kI cI h11 24 (u_1.2.1 3), kI cI h12 25 g8, kI cI h13 25 (u_1.2.1 4), kI cI h14 24 g10, kI cI h15 24 (u_1.2.1 5), kI cI h16 24 g12, kI cI h17 24 (u_1.2.1 6), kO h18 1 [.int 0, .ref h19, .ref h20, .ref h21, .ref z6, .ref z7, .ref z8, .ref z9, .ref z10, .ref z11, .ref z12, .int 0], kI cI h19 5 (u_2.2.1 0), kI cI h20 5 (u_2.2.1 1), kI cI h21 5 (u_2.2.1 2)] := hD
  refine lv_aload_n hx hb dX9_begin_40 rfl (lv_at hl 0 rfl) ?_
  refine lv_iconst (v := 0) hx hb dX9_begin_41 (by decide) ?_
  refine va_put (D := D) (ci := 8) (v := .int 0) (ty := .boolean) (C := RX9) (T := TX9) (N := 8) hx hb hts u_X9 tyX9 tyX9_ok nmX9 hown hE.1 hP hD hS 0 rfl rfl 5 (by decide) (hts _ w_397) (fun _ h9 => h9) rfl (by decide +kernel) rfl rfl (Nat.le_of_ble_eq_true rfl) dX9_begin_42 (fun H locs hP hD hS => ?_)
  have hP : va_P D vwCl [kO h0 8 [.ref h2, .ref h18, .ref h22, .int 0, .int 0, .int 0, .int 0, .int 0], kO h1 5 [.int 0, .int 0, .int 0, .ref h3, .ref z0, .ref z1, .ref z2, .ref z3, .ref z4, .ref z5], kO h22 3 [.int 0, .ref z13], kO h2 6 [.int 0, .ref h5, .ref h7, .ref h9, .ref h11, .ref h13, .ref h15, .ref h17], kO h3 6 [.int 0, .ref h4, .ref h6, .ref h8, .ref h10, .ref h12, .ref h14, .ref h16], kI cI h4 24 g0, kI cI h5 24 (u_1.2.1 0), kI cI h6 24 g2, kI cI h7 24 (u_1.2.1 1), kI cI h8 24 g4, kI cI h9 24 (u_1.2.1 2), kI cI h10 24 g6, kI cI h11 24 (u_1.2.1 3), kI cI h12 25 g8, kI cI h13 25 (u_1.2.1 4), kI cI h14 24 g10, kI cI h15 24 (u_1.2.1 5), kI cI h16 24 g12, kI cI h17 24 (u_1.2.1 6), kO h18 1 [.int 0, .ref h19, .ref h20, .ref h21, .ref z6, .ref z7, .ref z8, .ref z9, .ref z10, .ref z11, .ref z12, .int 0], kI cI h19 5 (u_2.2.1 0), kI cI h20 5 (u_2.2.1 1), kI cI h21 5 (u_2.2.1 2)] H := hP
  have hD : va_D A [kO h0 8 [.ref h2, .ref h18, .ref h22, .int 0, .int 0, .int 0, .int 0, .int 0], kO h1 5 [.int 0, .int 0, .int 0, .ref h3, .ref z0, .ref z1, .ref z2, .ref z3, .ref z4, .ref z5], kO h22 3 [.int 0, .ref z13], kO h2 6 [.int 0, .ref h5, .ref h7, .ref h9, .ref h11, .ref h13, .ref h15, .ref h17], kO h3 6 [.int 0, .ref h4, .ref h6, .ref h8, .ref h10, .ref h12, .ref h14, .ref h16], kI cI h4 24 g0, kI cI h5 24 (u_1.2.1 0), kI cI h6 24 g2, kI cI h7 24 (u_1.2.1 1), kI cI h8 24 g4, kI cI h9 24 (u_1.2.1 2), kI cI h10 24 g6, kI cI h11 24 (u_1.2.1 3), kI cI h12 25 g8, kI cI h13 25 (u_1.2.1 4), kI cI h14 24 g10, kI cI h15 24 (u_1.2.1 5), kI cI h16 24 g12, kI cI h17 24 (u_1.2.1 6), kO h18 1 [.int 0, .ref h19, .ref h20, .ref h21, .ref z6, .ref z7, .ref z8, .ref z9, .ref z10, .ref z11, .ref z12, .int 0], kI cI h19 5 (u_2.2.1 0), kI cI h20 5 (u_2.2.1 1), kI cI h21 5 (u_2.2.1 2)] := hD
  exact kk_ret_v ((fun i => [].getD i 0), (fun i => [(u_1.2.1 0), (u_1.2.1 1), (u_1.2.1 2), (u_1.2.1 3), (u_1.2.1 4), (u_1.2.1 5), (u_1.2.1 6), (u_2.2.1 0), (u_2.2.1 1), (u_2.2.1 2)].getD i (fun _ => 0)), (fun i => [].getD i (fun _ => 0)), (fun i => [].getD i 0)) hx hb hr hlocks trivial (hP.sub [0, 1, 3, 4, 5, 6, 7, 8, 9, 10, 11, 12, 13, 14, 15, 16, 17, 18, 19, 20, 21, 22, 2] rfl) (hD.sub [0, 1, 3, 4, 5, 6, 7, 8, 9, 10, 11, 12, 13, 14, 15, 16, 17, 18, 19, 20, 21, 22, 2] (by decide +kernel) rfl) hS dX9_begin_45 (Nat.le_of_ble_eq_true rfl) (Nat.le_of_ble_eq_true rfl)
set_option maxHeartbeats 4000000 in
set_option maxRecDepth 100000 in
theorem c_J7_fill_53178_3 (l : Launch) (D : va_G) (cB cI cJ cD : ClassId) (h0 : Nat) (g0 : Nat → Int32) (sz : Nat) : Met l yJ7_fill_53178 (kk_W yJ7_fill_53178 cJ7_fill_53178 4 none) ({ frames := 0, cells := 0, slots := 0, locals := 0 }) (va_Pc [.ref h0, .int 0] (kk_pre D cB cI cJ cD [kI cI h0 24 g0] sz)) (kk_Qv D (fun (u : (Nat → Nat) × (Nat → Nat → Int32) × (Nat → Nat → Int64) × (Nat → Int32)) => True) (fun u => [kI cI h0 24 (u.2.1 0)]) (va_A [kI cI h0 24 g0] sz)) 0 0 (va_A [kI cI h0 24 g0] sz) := by
  refine kk_start (y := yJ7_fill_53178) (maxL := 4) (av := [.ref h0, .int 0]) (Qc := fun A => kk_Qv D (fun (u : (Nat → Nat) × (Nat → Nat → Int32) × (Nat → Nat → Int64) × (Nat → Int32)) => True) (fun u => [kI cI h0 24 (u.2.1 0)]) A) (by decide) (Nat.le_of_ble_eq_true rfl) ?_
  intro p e s m below meth c ls A hx hb hr hml hown hts hE hlocks hin hsz hP hD hA hS hl
  have hown : s.vm.findClass RJ7 = some m.cls := hown
  have hl : lv_has ls 4 [(0, .ref h0), (1, .int 0)] := hl
  refine lv_iconst (v := 0) hx hb dJ7_fill_53178_0 (by decide) ?_
  refine lv_istore_n (lv' := [(2, .int 0), (0, .ref h0), (1, .int 0)]) hx hb dJ7_fill_53178_1 rfl hl (by decide) rfl (fun ls hl => ?_)
  refine lv_aload_n hx hb dJ7_fill_53178_2 rfl (lv_at hl 1 rfl) ?_
  refine va_alen (v := 24) hx hb hE.1 hP 0 1 rfl rfl rfl dJ7_fill_53178_3 ?_
  refine lv_istore_n (lv' := [(3, .int 24), (2, .int 0), (0, .ref h0), (1, .int 0)]) hx hb dJ7_fill_53178_4 rfl hl (by decide) rfl (fun ls hl => ?_)
  refine lv_iload_n hx hb dJ7_fill_53178_5 rfl (lv_at hl 1 rfl) ?_
  refine lv_iload_n hx hb dJ7_fill_53178_6 rfl (lv_at hl 0 rfl) ?_
  refine lv_icmp_ge (tgt := 20) hx hb dJ7_fill_53178_7 (by decide) (fun c_1 => absurd c_1 (by decide)) (fun _ => ?_)
  refine lv_aload_n hx hb dJ7_fill_53178_10 rfl (lv_at hl 2 rfl) ?_
  refine lv_iload_n hx hb dJ7_fill_53178_11 rfl (lv_at hl 1 rfl) ?_
  refine lv_iload_n hx hb dJ7_fill_53178_12 rfl (lv_at hl 3 rfl) ?_
  refine va_iast hx hb hE.1 hP hD hS 0 1 rfl rfl (kk_ix _ _ (by decide)) dJ7_fill_53178_13 (fun H locs hP hD hS => ?_)
  have hP : va_P D vwCl [kI cI h0 24 (upd g0 0 0)] H := hP
  have hD : va_D A [kI cI h0 24 (upd g0 0 0)] := hD
  refine lv_iinc (v := 1) (lv' := [(2, .int 1), (3, .int 24), (0, .ref h0), (1, .int 0)]) hx hb dJ7_fill_53178_14 hl (k := 1) rfl (by decide) (by decide) rfl (fun ls hl => ?_)
  refine lv_goto (tgt := 5) hx hb dJ7_fill_53178_17 (by decide) ?_
  refine lv_iload_n hx hb dJ7_fill_53178_5 rfl (lv_at hl 0 rfl) ?_
  refine lv_iload_n hx hb dJ7_fill_53178_6 rfl (lv_at hl 1 rfl) ?_
  refine lv_icmp_ge (tgt := 20) hx hb dJ7_fill_53178_7 (by decide) (fun c_2 => absurd c_2 (by decide)) (fun _ => ?_)
  refine lv_aload_n hx hb dJ7_fill_53178_10 rfl (lv_at hl 2 rfl) ?_
  refine lv_iload_n hx hb dJ7_fill_53178_11 rfl (lv_at hl 0 rfl) ?_
  refine lv_iload_n hx hb dJ7_fill_53178_12 rfl (lv_at hl 3 rfl) ?_
  refine va_iast hx hb hE.1 hP hD hS 0 1 rfl rfl (kk_ix _ _ (by decide)) dJ7_fill_53178_13 (fun H locs hP hD hS => ?_)
  have hP : va_P D vwCl [kI cI h0 24 (upd (upd g0 0 0) 1 0)] H := hP
  have hD : va_D A [kI cI h0 24 (upd (upd g0 0 0) 1 0)] := hD
  refine lv_iinc (v := 2) (lv' := [(2, .int 2), (3, .int 24), (0, .ref h0), (1, .int 0)]) hx hb dJ7_fill_53178_14 hl (k := 0) rfl (by decide) (by decide) rfl (fun ls hl => ?_)
  refine lv_goto (tgt := 5) hx hb dJ7_fill_53178_17 (by decide) ?_
  refine lv_iload_n hx hb dJ7_fill_53178_5 rfl (lv_at hl 0 rfl) ?_
  refine lv_iload_n hx hb dJ7_fill_53178_6 rfl (lv_at hl 1 rfl) ?_
  refine lv_icmp_ge (tgt := 20) hx hb dJ7_fill_53178_7 (by decide) (fun c_3 => absurd c_3 (by decide)) (fun _ => ?_)
  refine lv_aload_n hx hb dJ7_fill_53178_10 rfl (lv_at hl 2 rfl) ?_
  refine lv_iload_n hx hb dJ7_fill_53178_11 rfl (lv_at hl 0 rfl) ?_
  refine lv_iload_n hx hb dJ7_fill_53178_12 rfl (lv_at hl 3 rfl) ?_
  refine va_iast hx hb hE.1 hP hD hS 0 1 rfl rfl (kk_ix _ _ (by decide)) dJ7_fill_53178_13 (fun H locs hP hD hS => ?_)
  obtain ⟨f_4, ef_4⟩ : ∃ z, z = (upd (upd (upd g0 0 0) 1 0) 2 0) := ⟨_, rfl⟩
  have hP : va_P D vwCl [kI cI h0 24 f_4] H := by rw [ef_4]; exact hP
  have hD : va_D A [kI cI h0 24 f_4] := by rw [ef_4]; exact hD
  refine lv_iinc (v := 3) (lv' := [(2, .int 3), (3, .int 24), (0, .ref h0), (1, .int 0)]) hx hb dJ7_fill_53178_14 hl (k := 0) rfl (by decide) (by decide) rfl (fun ls hl => ?_)
  refine lv_goto (tgt := 5) hx hb dJ7_fill_53178_17 (by decide) ?_
  refine lv_iload_n hx hb dJ7_fill_53178_5 rfl (lv_at hl 0 rfl) ?_
  refine lv_iload_n hx hb dJ7_fill_53178_6 rfl (lv_at hl 1 rfl) ?_
  refine lv_icmp_ge (tgt := 20) hx hb dJ7_fill_53178_7 (by decide) (fun c_5 => absurd c_5 (by decide)) (fun _ => ?_)
  refine lv_aload_n hx hb dJ7_fill_53178_10 rfl (lv_at hl 2 rfl) ?_
  refine lv_iload_n hx hb dJ7_fill_53178_11 rfl (lv_at hl 0 rfl) ?_
  refine lv_iload_n hx hb dJ7_fill_53178_12 rfl (lv_at hl 3 rfl) ?_
  refine va_iast hx hb hE.1 hP hD hS 0 1 rfl rfl (kk_ix _ _ (by decide)) dJ7_fill_53178_13 (fun H locs hP hD hS => ?_)
  have hP : va_P D vwCl [kI cI h0 24 (upd f_4 3 0)] H := hP
  have hD : va_D A [kI cI h0 24 (upd f_4 3 0)] := hD
  refine lv_iinc (v := 4) (lv' := [(2, .int 4), (3, .int 24), (0, .ref h0), (1, .int 0)]) hx hb dJ7_fill_53178_14 hl (k := 0) rfl (by decide) (by decide) rfl (fun ls hl => ?_)
  refine lv_goto (tgt := 5) hx hb dJ7_fill_53178_17 (by decide) ?_
  refine lv_iload_n hx hb dJ7_fill_53178_5 rfl (lv_at hl 0 rfl) ?_
  refine lv_iload_n hx hb dJ7_fill_53178_6 rfl (lv_at hl 1 rfl) ?_
  refine lv_icmp_ge (tgt := 20) hx hb dJ7_fill_53178_7 (by decide) (fun c_6 => absurd c_6 (by decide)) (fun _ => ?_)
  refine lv_aload_n hx hb dJ7_fill_53178_10 rfl (lv_at hl 2 rfl) ?_
  refine lv_iload_n hx hb dJ7_fill_53178_11 rfl (lv_at hl 0 rfl) ?_
  refine lv_iload_n hx hb dJ7_fill_53178_12 rfl (lv_at hl 3 rfl) ?_
  refine va_iast hx hb hE.1 hP hD hS 0 1 rfl rfl (kk_ix _ _ (by decide)) dJ7_fill_53178_13 (fun H locs hP hD hS => ?_)
  have hP : va_P D vwCl [kI cI h0 24 (upd (upd f_4 3 0) 4 0)] H := hP
  have hD : va_D A [kI cI h0 24 (upd (upd f_4 3 0) 4 0)] := hD
  refine lv_iinc (v := 5) (lv' := [(2, .int 5), (3, .int 24), (0, .ref h0), (1, .int 0)]) hx hb dJ7_fill_53178_14 hl (k := 0) rfl (by decide) (by decide) rfl (fun ls hl => ?_)
  refine lv_goto (tgt := 5) hx hb dJ7_fill_53178_17 (by decide) ?_
  refine lv_iload_n hx hb dJ7_fill_53178_5 rfl (lv_at hl 0 rfl) ?_
  refine lv_iload_n hx hb dJ7_fill_53178_6 rfl (lv_at hl 1 rfl) ?_
  refine lv_icmp_ge (tgt := 20) hx hb dJ7_fill_53178_7 (by decide) (fun c_7 => absurd c_7 (by decide)) (fun _ => ?_)
  refine lv_aload_n hx hb dJ7_fill_53178_10 rfl (lv_at hl 2 rfl) ?_
  refine lv_iload_n hx hb dJ7_fill_53178_11 rfl (lv_at hl 0 rfl) ?_
  refine lv_iload_n hx hb dJ7_fill_53178_12 rfl (lv_at hl 3 rfl) ?_
  refine va_iast hx hb hE.1 hP hD hS 0 1 rfl rfl (kk_ix _ _ (by decide)) dJ7_fill_53178_13 (fun H locs hP hD hS => ?_)
  obtain ⟨f_8, ef_8⟩ : ∃ z, z = (upd (upd (upd f_4 3 0) 4 0) 5 0) := ⟨_, rfl⟩
  have hP : va_P D vwCl [kI cI h0 24 f_8] H := by rw [ef_8]; exact hP
  have hD : va_D A [kI cI h0 24 f_8] := by rw [ef_8]; exact hD
  refine lv_iinc (v := 6) (lv' := [(2, .int 6), (3, .int 24), (0, .ref h0), (1, .int 0)]) hx hb dJ7_fill_53178_14 hl (k := 0) rfl (by decide) (by decide) rfl (fun ls hl => ?_)
  refine lv_goto (tgt := 5) hx hb dJ7_fill_53178_17 (by decide) ?_
  refine lv_iload_n hx hb dJ7_fill_53178_5 rfl (lv_at hl 0 rfl) ?_
  refine lv_iload_n hx hb dJ7_fill_53178_6 rfl (lv_at hl 1 rfl) ?_
  refine lv_icmp_ge (tgt := 20) hx hb dJ7_fill_53178_7 (by decide) (fun c_9 => absurd c_9 (by decide)) (fun _ => ?_)
  refine lv_aload_n hx hb dJ7_fill_53178_10 rfl (lv_at hl 2 rfl) ?_
  refine lv_iload_n hx hb dJ7_fill_53178_11 rfl (lv_at hl 0 rfl) ?_
  refine lv_iload_n hx hb dJ7_fill_53178_12 rfl (lv_at hl 3 rfl) ?_
  refine va_iast hx hb hE.1 hP hD hS 0 1 rfl rfl (kk_ix _ _ (by decide)) dJ7_fill_53178_13 (fun H locs hP hD hS => ?_)
  have hP : va_P D vwCl [kI cI h0 24 (upd f_8 6 0)] H := hP
  have hD : va_D A [kI cI h0 24 (upd f_8 6 0)] := hD
  refine lv_iinc (v := 7) (lv' := [(2, .int 7), (3, .int 24), (0, .ref h0), (1, .int 0)]) hx hb dJ7_fill_53178_14 hl (k := 0) rfl (by decide) (by decide) rfl (fun ls hl => ?_)
  refine lv_goto (tgt := 5) hx hb dJ7_fill_53178_17 (by decide) ?_
  refine lv_iload_n hx hb dJ7_fill_53178_5 rfl (lv_at hl 0 rfl) ?_
  refine lv_iload_n hx hb dJ7_fill_53178_6 rfl (lv_at hl 1 rfl) ?_
  refine lv_icmp_ge (tgt := 20) hx hb dJ7_fill_53178_7 (by decide) (fun c_10 => absurd c_10 (by decide)) (fun _ => ?_)
  refine lv_aload_n hx hb dJ7_fill_53178_10 rfl (lv_at hl 2 rfl) ?_
  refine lv_iload_n hx hb dJ7_fill_53178_11 rfl (lv_at hl 0 rfl) ?_
  refine lv_iload_n hx hb dJ7_fill_53178_12 rfl (lv_at hl 3 rfl) ?_
  refine va_iast hx hb hE.1 hP hD hS 0 1 rfl rfl (kk_ix _ _ (by decide)) dJ7_fill_53178_13 (fun H locs hP hD hS => ?_)
  have hP : va_P D vwCl [kI cI h0 24 (upd (upd f_8 6 0) 7 0)] H := hP
  have hD : va_D A [kI cI h0 24 (upd (upd f_8 6 0) 7 0)] := hD
  refine lv_iinc (v := 8) (lv' := [(2, .int 8), (3, .int 24), (0, .ref h0), (1, .int 0)]) hx hb dJ7_fill_53178_14 hl (k := 0) rfl (by decide) (by decide) rfl (fun ls hl => ?_)
  refine lv_goto (tgt := 5) hx hb dJ7_fill_53178_17 (by decide) ?_
  refine lv_iload_n hx hb dJ7_fill_53178_5 rfl (lv_at hl 0 rfl) ?_
  refine lv_iload_n hx hb dJ7_fill_53178_6 rfl (lv_at hl 1 rfl) ?_
  refine lv_icmp_ge (tgt := 20) hx hb dJ7_fill_53178_7 (by decide) (fun c_11 => absurd c_11 (by decide)) (fun _ => ?_)
  refine lv_aload_n hx hb dJ7_fill_53178_10 rfl (lv_at hl 2 rfl) ?_
  refine lv_iload_n hx hb dJ7_fill_53178_11 rfl (lv_at hl 0 rfl) ?_
  refine lv_iload_n hx hb dJ7_fill_53178_12 rfl (lv_at hl 3 rfl) ?_
  refine va_iast hx hb hE.1 hP hD hS 0 1 rfl rfl (kk_ix _ _ (by decide)) dJ7_fill_53178_13 (fun H locs hP hD hS => ?_)
  obtain ⟨f_12, ef_12⟩ : ∃ z, z = (upd (upd (upd f_8 6 0) 7 0) 8 0) := ⟨_, rfl⟩
  have hP : va_P D vwCl [kI cI h0 24 f_12] H := by rw [ef_12]; exact hP
  have hD : va_D A [kI cI h0 24 f_12] := by rw [ef_12]; exact hD
  refine lv_iinc (v := 9) (lv' := [(2, .int 9), (3, .int 24), (0, .ref h0), (1, .int 0)]) hx hb dJ7_fill_53178_14 hl (k := 0) rfl (by decide) (by decide) rfl (fun ls hl => ?_)
  refine lv_goto (tgt := 5) hx hb dJ7_fill_53178_17 (by decide) ?_
  refine lv_iload_n hx hb dJ7_fill_53178_5 rfl (lv_at hl 0 rfl) ?_
  refine lv_iload_n hx hb dJ7_fill_53178_6 rfl (lv_at hl 1 rfl) ?_
  refine lv_icmp_ge (tgt := 20) hx hb dJ7_fill_53178_7 (by decide) (fun c_13 => absurd c_13 (by decide)) (fun _ => ?_)
  refine lv_aload_n hx hb dJ7_fill_53178_10 rfl (lv_at hl 2 rfl) ?_
  refine lv_iload_n hx hb dJ7_fill_53178_11 rfl (lv_at hl 0 rfl) ?_
  refine lv_iload_n hx hb dJ7_fill_53178_12 rfl (lv_at hl 3 rfl) ?_
  refine va_iast hx hb hE.1 hP hD hS 0 1 rfl rfl (kk_ix _ _ (by decide)) dJ7_fill_53178_13 (fun H locs hP hD hS => ?_)
  have hP : va_P D vwCl [kI cI h0 24 (upd f_12 9 0)] H := hP
  have hD : va_D A [kI cI h0 24 (upd f_12 9 0)] := hD
  refine lv_iinc (v := 10) (lv' := [(2, .int 10), (3, .int 24), (0, .ref h0), (1, .int 0)]) hx hb dJ7_fill_53178_14 hl (k := 0) rfl (by decide) (by decide) rfl (fun ls hl => ?_)
  refine lv_goto (tgt := 5) hx hb dJ7_fill_53178_17 (by decide) ?_
  refine lv_iload_n hx hb dJ7_fill_53178_5 rfl (lv_at hl 0 rfl) ?_
  refine lv_iload_n hx hb dJ7_fill_53178_6 rfl (lv_at hl 1 rfl) ?_
  refine lv_icmp_ge (tgt := 20) hx hb dJ7_fill_53178_7 (by decide) (fun c_14 => absurd c_14 (by decide)) (fun _ => ?_)
  refine lv_aload_n hx hb dJ7_fill_53178_10 rfl (lv_at hl 2 rfl) ?_
  refine lv_iload_n hx hb dJ7_fill_53178_11 rfl (lv_at hl 0 rfl) ?_
  refine lv_iload_n hx hb dJ7_fill_53178_12 rfl (lv_at hl 3 rfl) ?_
  refine va_iast hx hb hE.1 hP hD hS 0 1 rfl rfl (kk_ix _ _ (by decide)) dJ7_fill_53178_13 (fun H locs hP hD hS => ?_)
  have hP : va_P D vwCl [kI cI h0 24 (upd (upd f_12 9 0) 10 0)] H := hP
  have hD : va_D A [kI cI h0 24 (upd (upd f_12 9 0) 10 0)] := hD
  refine lv_iinc (v := 11) (lv' := [(2, .int 11), (3, .int 24), (0, .ref h0), (1, .int 0)]) hx hb dJ7_fill_53178_14 hl (k := 0) rfl (by decide) (by decide) rfl (fun ls hl => ?_)
  refine lv_goto (tgt := 5) hx hb dJ7_fill_53178_17 (by decide) ?_
  refine lv_iload_n hx hb dJ7_fill_53178_5 rfl (lv_at hl 0 rfl) ?_
  refine lv_iload_n hx hb dJ7_fill_53178_6 rfl (lv_at hl 1 rfl) ?_
  refine lv_icmp_ge (tgt := 20) hx hb dJ7_fill_53178_7 (by decide) (fun c_15 => absurd c_15 (by decide)) (fun _ => ?_)
  refine lv_aload_n hx hb dJ7_fill_53178_10 rfl (lv_at hl 2 rfl) ?_
  refine lv_iload_n hx hb dJ7_fill_53178_11 rfl (lv_at hl 0 rfl) ?_
  refine lv_iload_n hx hb dJ7_fill_53178_12 rfl (lv_at hl 3 rfl) ?_
  refine va_iast hx hb hE.1 hP hD hS 0 1 rfl rfl (kk_ix _ _ (by decide)) dJ7_fill_53178_13 (fun H locs hP hD hS => ?_)
  obtain ⟨f_16, ef_16⟩ : ∃ z, z = (upd (upd (upd f_12 9 0) 10 0) 11 0) := ⟨_, rfl⟩
  have hP : va_P D vwCl [kI cI h0 24 f_16] H := by rw [ef_16]; exact hP
  have hD : va_D A [kI cI h0 24 f_16] := by rw [ef_16]; exact hD
  refine lv_iinc (v := 12) (lv' := [(2, .int 12), (3, .int 24), (0, .ref h0), (1, .int 0)]) hx hb dJ7_fill_53178_14 hl (k := 0) rfl (by decide) (by decide) rfl (fun ls hl => ?_)
  refine lv_goto (tgt := 5) hx hb dJ7_fill_53178_17 (by decide) ?_
  refine lv_iload_n hx hb dJ7_fill_53178_5 rfl (lv_at hl 0 rfl) ?_
  refine lv_iload_n hx hb dJ7_fill_53178_6 rfl (lv_at hl 1 rfl) ?_
  refine lv_icmp_ge (tgt := 20) hx hb dJ7_fill_53178_7 (by decide) (fun c_17 => absurd c_17 (by decide)) (fun _ => ?_)
  refine lv_aload_n hx hb dJ7_fill_53178_10 rfl (lv_at hl 2 rfl) ?_
  refine lv_iload_n hx hb dJ7_fill_53178_11 rfl (lv_at hl 0 rfl) ?_
  refine lv_iload_n hx hb dJ7_fill_53178_12 rfl (lv_at hl 3 rfl) ?_
  refine va_iast hx hb hE.1 hP hD hS 0 1 rfl rfl (kk_ix _ _ (by decide)) dJ7_fill_53178_13 (fun H locs hP hD hS => ?_)
  have hP : va_P D vwCl [kI cI h0 24 (upd f_16 12 0)] H := hP
  have hD : va_D A [kI cI h0 24 (upd f_16 12 0)] := hD
  refine lv_iinc (v := 13) (lv' := [(2, .int 13), (3, .int 24), (0, .ref h0), (1, .int 0)]) hx hb dJ7_fill_53178_14 hl (k := 0) rfl (by decide) (by decide) rfl (fun ls hl => ?_)
  refine lv_goto (tgt := 5) hx hb dJ7_fill_53178_17 (by decide) ?_
  refine lv_iload_n hx hb dJ7_fill_53178_5 rfl (lv_at hl 0 rfl) ?_
  refine lv_iload_n hx hb dJ7_fill_53178_6 rfl (lv_at hl 1 rfl) ?_
  refine lv_icmp_ge (tgt := 20) hx hb dJ7_fill_53178_7 (by decide) (fun c_18 => absurd c_18 (by decide)) (fun _ => ?_)
  refine lv_aload_n hx hb dJ7_fill_53178_10 rfl (lv_at hl 2 rfl) ?_
  refine lv_iload_n hx hb dJ7_fill_53178_11 rfl (lv_at hl 0 rfl) ?_
  refine lv_iload_n hx hb dJ7_fill_53178_12 rfl (lv_at hl 3 rfl) ?_
  refine va_iast hx hb hE.1 hP hD hS 0 1 rfl rfl (kk_ix _ _ (by decide)) dJ7_fill_53178_13 (fun H locs hP hD hS => ?_)
  have hP : va_P D vwCl [kI cI h0 24 (upd (upd f_16 12 0) 13 0)] H := hP
  have hD : va_D A [kI cI h0 24 (upd (upd f_16 12 0) 13 0)] := hD
  refine lv_iinc (v := 14) (lv' := [(2, .int 14), (3, .int 24), (0, .ref h0), (1, .int 0)]) hx hb dJ7_fill_53178_14 hl (k := 0) rfl (by decide) (by decide) rfl (fun ls hl => ?_)
  refine lv_goto (tgt := 5) hx hb dJ7_fill_53178_17 (by decide) ?_
  refine lv_iload_n hx hb dJ7_fill_53178_5 rfl (lv_at hl 0 rfl) ?_
  refine lv_iload_n hx hb dJ7_fill_53178_6 rfl (lv_at hl 1 rfl) ?_
  refine lv_icmp_ge (tgt := 20) hx hb dJ7_fill_53178_7 (by decide) (fun c_19 => absurd c_19 (by decide)) (fun _ => ?_)
  refine lv_aload_n hx hb dJ7_fill_53178_10 rfl (lv_at hl 2 rfl) ?_
  refine lv_iload_n hx hb dJ7_fill_53178_11 rfl (lv_at hl 0 rfl) ?_
  refine lv_iload_n hx hb dJ7_fill_53178_12 rfl (lv_at hl 3 rfl) ?_
  refine va_iast hx hb hE.1 hP hD hS 0 1 rfl rfl (kk_ix _ _ (by decide)) dJ7_fill_53178_13 (fun H locs hP hD hS => ?_)
  obtain ⟨f_20, ef_20⟩ : ∃ z, z = (upd (upd (upd f_16 12 0) 13 0) 14 0) := ⟨_, rfl⟩
  have hP : va_P D vwCl [kI cI h0 24 f_20] H := by rw [ef_20]; exact hP
  have hD : va_D A [kI cI h0 24 f_20] := by rw [ef_20]; exact hD
  refine lv_iinc (v := 15) (lv' := [(2, .int 15), (3, .int 24), (0, .ref h0), (1, .int 0)]) hx hb dJ7_fill_53178_14 hl (k := 0) rfl (by decide) (by decide) rfl (fun ls hl => ?_)
  refine lv_goto (tgt := 5) hx hb dJ7_fill_53178_17 (by decide) ?_
  refine lv_iload_n hx hb dJ7_fill_53178_5 rfl (lv_at hl 0 rfl) ?_
  refine lv_iload_n hx hb dJ7_fill_53178_6 rfl (lv_at hl 1 rfl) ?_
  refine lv_icmp_ge (tgt := 20) hx hb dJ7_fill_53178_7 (by decide) (fun c_21 => absurd c_21 (by decide)) (fun _ => ?_)
  refine lv_aload_n hx hb dJ7_fill_53178_10 rfl (lv_at hl 2 rfl) ?_
  refine lv_iload_n hx hb dJ7_fill_53178_11 rfl (lv_at hl 0 rfl) ?_
  refine lv_iload_n hx hb dJ7_fill_53178_12 rfl (lv_at hl 3 rfl) ?_
  refine va_iast hx hb hE.1 hP hD hS 0 1 rfl rfl (kk_ix _ _ (by decide)) dJ7_fill_53178_13 (fun H locs hP hD hS => ?_)
  have hP : va_P D vwCl [kI cI h0 24 (upd f_20 15 0)] H := hP
  have hD : va_D A [kI cI h0 24 (upd f_20 15 0)] := hD
  refine lv_iinc (v := 16) (lv' := [(2, .int 16), (3, .int 24), (0, .ref h0), (1, .int 0)]) hx hb dJ7_fill_53178_14 hl (k := 0) rfl (by decide) (by decide) rfl (fun ls hl => ?_)
  refine lv_goto (tgt := 5) hx hb dJ7_fill_53178_17 (by decide) ?_
  refine lv_iload_n hx hb dJ7_fill_53178_5 rfl (lv_at hl 0 rfl) ?_
  refine lv_iload_n hx hb dJ7_fill_53178_6 rfl (lv_at hl 1 rfl) ?_
  refine lv_icmp_ge (tgt := 20) hx hb dJ7_fill_53178_7 (by decide) (fun c_22 => absurd c_22 (by decide)) (fun _ => ?_)
  refine lv_aload_n hx hb dJ7_fill_53178_10 rfl (lv_at hl 2 rfl) ?_
  refine lv_iload_n hx hb dJ7_fill_53178_11 rfl (lv_at hl 0 rfl) ?_
  refine lv_iload_n hx hb dJ7_fill_53178_12 rfl (lv_at hl 3 rfl) ?_
  refine va_iast hx hb hE.1 hP hD hS 0 1 rfl rfl (kk_ix _ _ (by decide)) dJ7_fill_53178_13 (fun H locs hP hD hS => ?_)
  have hP : va_P D vwCl [kI cI h0 24 (upd (upd f_20 15 0) 16 0)] H := hP
  have hD : va_D A [kI cI h0 24 (upd (upd f_20 15 0) 16 0)] := hD
  refine lv_iinc (v := 17) (lv' := [(2, .int 17), (3, .int 24), (0, .ref h0), (1, .int 0)]) hx hb dJ7_fill_53178_14 hl (k := 0) rfl (by decide) (by decide) rfl (fun ls hl => ?_)
  refine lv_goto (tgt := 5) hx hb dJ7_fill_53178_17 (by decide) ?_
  refine lv_iload_n hx hb dJ7_fill_53178_5 rfl (lv_at hl 0 rfl) ?_
  refine lv_iload_n hx hb dJ7_fill_53178_6 rfl (lv_at hl 1 rfl) ?_
  refine lv_icmp_ge (tgt := 20) hx hb dJ7_fill_53178_7 (by decide) (fun c_23 => absurd c_23 (by decide)) (fun _ => ?_)
  refine lv_aload_n hx hb dJ7_fill_53178_10 rfl (lv_at hl 2 rfl) ?_
  refine lv_iload_n hx hb dJ7_fill_53178_11 rfl (lv_at hl 0 rfl) ?_
  refine lv_iload_n hx hb dJ7_fill_53178_12 rfl (lv_at hl 3 rfl) ?_
  refine va_iast hx hb hE.1 hP hD hS 0 1 rfl rfl (kk_ix _ _ (by decide)) dJ7_fill_53178_13 (fun H locs hP hD hS => ?_)
  obtain ⟨f_24, ef_24⟩ : ∃ z, z = (upd (upd (upd f_20 15 0) 16 0) 17 0) := ⟨_, rfl⟩
  have hP : va_P D vwCl [kI cI h0 24 f_24] H := by rw [ef_24]; exact hP
  have hD : va_D A [kI cI h0 24 f_24] := by rw [ef_24]; exact hD
  refine lv_iinc (v := 18) (lv' := [(2, .int 18), (3, .int 24), (0, .ref h0), (1, .int 0)]) hx hb dJ7_fill_53178_14 hl (k := 0) rfl (by decide) (by decide) rfl (fun ls hl => ?_)
  refine lv_goto (tgt := 5) hx hb dJ7_fill_53178_17 (by decide) ?_
  refine lv_iload_n hx hb dJ7_fill_53178_5 rfl (lv_at hl 0 rfl) ?_
  refine lv_iload_n hx hb dJ7_fill_53178_6 rfl (lv_at hl 1 rfl) ?_
  refine lv_icmp_ge (tgt := 20) hx hb dJ7_fill_53178_7 (by decide) (fun c_25 => absurd c_25 (by decide)) (fun _ => ?_)
  refine lv_aload_n hx hb dJ7_fill_53178_10 rfl (lv_at hl 2 rfl) ?_
  refine lv_iload_n hx hb dJ7_fill_53178_11 rfl (lv_at hl 0 rfl) ?_
  refine lv_iload_n hx hb dJ7_fill_53178_12 rfl (lv_at hl 3 rfl) ?_
  refine va_iast hx hb hE.1 hP hD hS 0 1 rfl rfl (kk_ix _ _ (by decide)) dJ7_fill_53178_13 (fun H locs hP hD hS => ?_)
  have hP : va_P D vwCl [kI cI h0 24 (upd f_24 18 0)] H := hP
  have hD : va_D A [kI cI h0 24 (upd f_24 18 0)] := hD
  refine lv_iinc (v := 19) (lv' := [(2, .int 19), (3, .int 24), (0, .ref h0), (1, .int 0)]) hx hb dJ7_fill_53178_14 hl (k := 0) rfl (by decide) (by decide) rfl (fun ls hl => ?_)
  refine lv_goto (tgt := 5) hx hb dJ7_fill_53178_17 (by decide) ?_
  refine lv_iload_n hx hb dJ7_fill_53178_5 rfl (lv_at hl 0 rfl) ?_
  refine lv_iload_n hx hb dJ7_fill_53178_6 rfl (lv_at hl 1 rfl) ?_
  refine lv_icmp_ge (tgt := 20) hx hb dJ7_fill_53178_7 (by decide) (fun c_26 => absurd c_26 (by decide)) (fun _ => ?_)
  refine lv_aload_n hx hb dJ7_fill_53178_10 rfl (lv_at hl 2 rfl) ?_
  refine lv_iload_n hx hb dJ7_fill_53178_11 rfl (lv_at hl 0 rfl) ?_
  refine lv_iload_n hx hb dJ7_fill_53178_12 rfl (lv_at hl 3 rfl) ?_
  refine va_iast hx hb hE.1 hP hD hS 0 1 rfl rfl (kk_ix _ _ (by decide)) dJ7_fill_53178_13 (fun H locs hP hD hS => ?_)
  have hP : va_P D vwCl [kI cI h0 24 (upd (upd f_24 18 0) 19 0)] H := hP
  have hD : va_D A [kI cI h0 24 (upd (upd f_24 18 0) 19 0)] := hD
  refine lv_iinc (v := 20) (lv' := [(2, .int 20), (3, .int 24), (0, .ref h0), (1, .int 0)]) hx hb dJ7_fill_53178_14 hl (k := 0) rfl (by decide) (by decide) rfl (fun ls hl => ?_)
  refine lv_goto (tgt := 5) hx hb dJ7_fill_53178_17 (by decide) ?_
  refine lv_iload_n hx hb dJ7_fill_53178_5 rfl (lv_at hl 0 rfl) ?_
  refine lv_iload_n hx hb dJ7_fill_53178_6 rfl (lv_at hl 1 rfl) ?_
  refine lv_icmp_ge (tgt := 20) hx hb dJ7_fill_53178_7 (by decide) (fun c_27 => absurd c_27 (by decide)) (fun _ => ?_)
  refine lv_aload_n hx hb dJ7_fill_53178_10 rfl (lv_at hl 2 rfl) ?_
  refine lv_iload_n hx hb dJ7_fill_53178_11 rfl (lv_at hl 0 rfl) ?_
  refine lv_iload_n hx hb dJ7_fill_53178_12 rfl (lv_at hl 3 rfl) ?_
  refine va_iast hx hb hE.1 hP hD hS 0 1 rfl rfl (kk_ix _ _ (by decide)) dJ7_fill_53178_13 (fun H locs hP hD hS => ?_)
  obtain ⟨f_28, ef_28⟩ : ∃ z, z = (upd (upd (upd f_24 18 0) 19 0) 20 0) := ⟨_, rfl⟩
  have hP : va_P D vwCl [kI cI h0 24 f_28] H := by rw [ef_28]; exact hP
  have hD : va_D A [kI cI h0 24 f_28] := by rw [ef_28]; exact hD
  refine lv_iinc (v := 21) (lv' := [(2, .int 21), (3, .int 24), (0, .ref h0), (1, .int 0)]) hx hb dJ7_fill_53178_14 hl (k := 0) rfl (by decide) (by decide) rfl (fun ls hl => ?_)
  refine lv_goto (tgt := 5) hx hb dJ7_fill_53178_17 (by decide) ?_
  refine lv_iload_n hx hb dJ7_fill_53178_5 rfl (lv_at hl 0 rfl) ?_
  refine lv_iload_n hx hb dJ7_fill_53178_6 rfl (lv_at hl 1 rfl) ?_
  refine lv_icmp_ge (tgt := 20) hx hb dJ7_fill_53178_7 (by decide) (fun c_29 => absurd c_29 (by decide)) (fun _ => ?_)
  refine lv_aload_n hx hb dJ7_fill_53178_10 rfl (lv_at hl 2 rfl) ?_
  refine lv_iload_n hx hb dJ7_fill_53178_11 rfl (lv_at hl 0 rfl) ?_
  refine lv_iload_n hx hb dJ7_fill_53178_12 rfl (lv_at hl 3 rfl) ?_
  refine va_iast hx hb hE.1 hP hD hS 0 1 rfl rfl (kk_ix _ _ (by decide)) dJ7_fill_53178_13 (fun H locs hP hD hS => ?_)
  have hP : va_P D vwCl [kI cI h0 24 (upd f_28 21 0)] H := hP
  have hD : va_D A [kI cI h0 24 (upd f_28 21 0)] := hD
  refine lv_iinc (v := 22) (lv' := [(2, .int 22), (3, .int 24), (0, .ref h0), (1, .int 0)]) hx hb dJ7_fill_53178_14 hl (k := 0) rfl (by decide) (by decide) rfl (fun ls hl => ?_)
  refine lv_goto (tgt := 5) hx hb dJ7_fill_53178_17 (by decide) ?_
  refine lv_iload_n hx hb dJ7_fill_53178_5 rfl (lv_at hl 0 rfl) ?_
  refine lv_iload_n hx hb dJ7_fill_53178_6 rfl (lv_at hl 1 rfl) ?_
  refine lv_icmp_ge (tgt := 20) hx hb dJ7_fill_53178_7 (by decide) (fun c_30 => absurd c_30 (by decide)) (fun _ => ?_)
  refine lv_aload_n hx hb dJ7_fill_53178_10 rfl (lv_at hl 2 rfl) ?_
  refine lv_iload_n hx hb dJ7_fill_53178_11 rfl (lv_at hl 0 rfl) ?_
  refine lv_iload_n hx hb dJ7_fill_53178_12 rfl (lv_at hl 3 rfl) ?_
  refine va_iast hx hb hE.1 hP hD hS 0 1 rfl rfl (kk_ix _ _ (by decide)) dJ7_fill_53178_13 (fun H locs hP hD hS => ?_)
  have hP : va_P D vwCl [kI cI h0 24 (upd (upd f_28 21 0) 22 0)] H := hP
  have hD : va_D A [kI cI h0 24 (upd (upd f_28 21 0) 22 0)] := hD
  refine lv_iinc (v := 23) (lv' := [(2, .int 23), (3, .int 24), (0, .ref h0), (1, .int 0)]) hx hb dJ7_fill_53178_14 hl (k := 0) rfl (by decide) (by decide) rfl (fun ls hl => ?_)
  refine lv_goto (tgt := 5) hx hb dJ7_fill_53178_17 (by decide) ?_
  refine lv_iload_n hx hb dJ7_fill_53178_5 rfl (lv_at hl 0 rfl) ?_
  refine lv_iload_n hx hb dJ7_fill_53178_6 rfl (lv_at hl 1 rfl) ?_
  refine lv_icmp_ge (tgt := 20) hx hb dJ7_fill_53178_7 (by decide) (fun c_31 => absurd c_31 (by decide)) (fun _ => ?_)
  refine lv_aload_n hx hb dJ7_fill_53178_10 rfl (lv_at hl 2 rfl) ?_
  refine lv_iload_n hx hb dJ7_fill_53178_11 rfl (lv_at hl 0 rfl) ?_
  refine lv_iload_n hx hb dJ7_fill_53178_12 rfl (lv_at hl 3 rfl) ?_
  refine va_iast hx hb hE.1 hP hD hS 0 1 rfl rfl (kk_ix _ _ (by decide)) dJ7_fill_53178_13 (fun H locs hP hD hS => ?_)
  obtain ⟨f_32, ef_32⟩ : ∃ z, z = (upd (upd (upd f_28 21 0) 22 0) 23 0) := ⟨_, rfl⟩
  have hP : va_P D vwCl [kI cI h0 24 f_32] H := by rw [ef_32]; exact hP
  have hD : va_D A [kI cI h0 24 f_32] := by rw [ef_32]; exact hD
  refine lv_iinc (v := 24) (lv' := [(2, .int 24), (3, .int 24), (0, .ref h0), (1, .int 0)]) hx hb dJ7_fill_53178_14 hl (k := 0) rfl (by decide) (by decide) rfl (fun ls hl => ?_)
  refine lv_goto (tgt := 5) hx hb dJ7_fill_53178_17 (by decide) ?_
  refine lv_iload_n hx hb dJ7_fill_53178_5 rfl (lv_at hl 0 rfl) ?_
  refine lv_iload_n hx hb dJ7_fill_53178_6 rfl (lv_at hl 1 rfl) ?_
  refine lv_icmp_ge (tgt := 20) hx hb dJ7_fill_53178_7 (by decide) (fun _ => ?_) (fun c_33 => absurd c_33 (by decide))
  exact kk_ret_v ((fun i => [].getD i 0), (fun i => [f_32].getD i (fun _ => 0)), (fun i => [].getD i (fun _ => 0)), (fun i => [].getD i 0)) hx hb hr hlocks trivial (hP.sub [0] rfl) (hD.sub [0] (by decide +kernel) rfl) hS dJ7_fill_53178_20 (Nat.le_of_ble_eq_true rfl) (Nat.le_of_ble_eq_true rfl)
set_option maxHeartbeats 4000000 in
set_option maxRecDepth 100000 in
theorem c_J7_fill_53178_4 (l : Launch) (D : va_G) (cB cI cJ cD : ClassId) (h0 : Nat) (g0 : Nat → Int32) (sz : Nat) : Met l yJ7_fill_53178 (kk_W yJ7_fill_53178 cJ7_fill_53178 4 none) ({ frames := 0, cells := 0, slots := 0, locals := 0 }) (va_Pc [.ref h0, .int (-5)] (kk_pre D cB cI cJ cD [kI cI h0 24 g0] sz)) (kk_Qv D (fun (u : (Nat → Nat) × (Nat → Nat → Int32) × (Nat → Nat → Int64) × (Nat → Int32)) => True) (fun u => [kI cI h0 24 (u.2.1 0)]) (va_A [kI cI h0 24 g0] sz)) 0 0 (va_A [kI cI h0 24 g0] sz) := by
  refine kk_start (y := yJ7_fill_53178) (maxL := 4) (av := [.ref h0, .int (-5)]) (Qc := fun A => kk_Qv D (fun (u : (Nat → Nat) × (Nat → Nat → Int32) × (Nat → Nat → Int64) × (Nat → Int32)) => True) (fun u => [kI cI h0 24 (u.2.1 0)]) A) (by decide) (Nat.le_of_ble_eq_true rfl) ?_
  intro p e s m below meth c ls A hx hb hr hml hown hts hE hlocks hin hsz hP hD hA hS hl
  have hown : s.vm.findClass RJ7 = some m.cls := hown
  have hl : lv_has ls 4 [(0, .ref h0), (1, .int (-5))] := hl
  refine lv_iconst (v := 0) hx hb dJ7_fill_53178_0 (by decide) ?_
  refine lv_istore_n (lv' := [(2, .int 0), (0, .ref h0), (1, .int (-5))]) hx hb dJ7_fill_53178_1 rfl hl (by decide) rfl (fun ls hl => ?_)
  refine lv_aload_n hx hb dJ7_fill_53178_2 rfl (lv_at hl 1 rfl) ?_
  refine va_alen (v := 24) hx hb hE.1 hP 0 1 rfl rfl rfl dJ7_fill_53178_3 ?_
  refine lv_istore_n (lv' := [(3, .int 24), (2, .int 0), (0, .ref h0), (1, .int (-5))]) hx hb dJ7_fill_53178_4 rfl hl (by decide) rfl (fun ls hl => ?_)
  refine lv_iload_n hx hb dJ7_fill_53178_5 rfl (lv_at hl 1 rfl) ?_
  refine lv_iload_n hx hb dJ7_fill_53178_6 rfl (lv_at hl 0 rfl) ?_
  refine lv_icmp_ge (tgt := 20) hx hb dJ7_fill_53178_7 (by decide) (fun c_1 => absurd c_1 (by decide)) (fun _ => ?_)
  refine lv_aload_n hx hb dJ7_fill_53178_10 rfl (lv_at hl 2 rfl) ?_
  refine lv_iload_n hx hb dJ7_fill_53178_11 rfl (lv_at hl 1 rfl) ?_
  refine lv_iload_n hx hb dJ7_fill_53178_12 rfl (lv_at hl 3 rfl) ?_
  refine va_iast hx hb hE.1 hP hD hS 0 1 rfl rfl (kk_ix _ _ (by decide)) dJ7_fill_53178_13 (fun H locs hP hD hS => ?_)
  have hP : va_P D vwCl [kI cI h0 24 (upd g0 0 (-5))] H := hP
  have hD : va_D A [kI cI h0 24 (upd g0 0 (-5))] := hD
  refine lv_iinc (v := 1) (lv' := [(2, .int 1), (3, .int 24), (0, .ref h0), (1, .int (-5))]) hx hb dJ7_fill_53178_14 hl (k := 1) rfl (by decide) (by decide) rfl (fun ls hl => ?_)
  refine lv_goto (tgt := 5) hx hb dJ7_fill_53178_17 (by decide) ?_
  refine lv_iload_n hx hb dJ7_fill_53178_5 rfl (lv_at hl 0 rfl) ?_
  refine lv_iload_n hx hb dJ7_fill_53178_6 rfl (lv_at hl 1 rfl) ?_
  refine lv_icmp_ge (tgt := 20) hx hb dJ7_fill_53178_7 (by decide) (fun c_2 => absurd c_2 (by decide)) (fun _ => ?_)
  refine lv_aload_n hx hb dJ7_fill_53178_10 rfl (lv_at hl 2 rfl) ?_
  refine lv_iload_n hx hb dJ7_fill_53178_11 rfl (lv_at hl 0 rfl) ?_
  refine lv_iload_n hx hb dJ7_fill_53178_12 rfl (lv_at hl 3 rfl) ?_
  refine va_iast hx hb hE.1 hP hD hS 0 1 rfl rfl (kk_ix _ _ (by decide)) dJ7_fill_53178_13 (fun H locs hP hD hS => ?_)
  have hP : va_P D vwCl [kI cI h0 24 (upd (upd g0 0 (-5)) 1 (-5))] H := hP
  have hD : va_D A [kI cI h0 24 (upd (upd g0 0 (-5)) 1 (-5))] := hD
  refine lv_iinc (v := 2) (lv' := [(2, .int 2), (3, .int 24), (0, .ref h0), (1, .int (-5))]) hx hb dJ7_fill_53178_14 hl (k := 0) rfl (by decide) (by decide) rfl (fun ls hl => ?_)
  refine lv_goto (tgt := 5) hx hb dJ7_fill_53178_17 (by decide) ?_
  refine lv_iload_n hx hb dJ7_fill_53178_5 rfl (lv_at hl 0 rfl) ?_
  refine lv_iload_n hx hb dJ7_fill_53178_6 rfl (lv_at hl 1 rfl) ?_
  refine lv_icmp_ge (tgt := 20) hx hb dJ7_fill_53178_7 (by decide) (fun c_3 => absurd c_3 (by decide)) (fun _ => ?_)
  refine lv_aload_n hx hb dJ7_fill_53178_10 rfl (lv_at hl 2 rfl) ?_
  refine lv_iload_n hx hb dJ7_fill_53178_11 rfl (lv_at hl 0 rfl) ?_
  refine lv_iload_n hx hb dJ7_fill_53178_12 rfl (lv_at hl 3 rfl) ?_
  refine va_iast hx hb hE.1 hP hD hS 0 1 rfl rfl (kk_ix _ _ (by decide)) dJ7_fill_53178_13 (fun H locs hP hD hS => ?_)
  obtain ⟨f_4, ef_4⟩ : ∃ z, z = (upd (upd (upd g0 0 (-5)) 1 (-5)) 2 (-5)) := ⟨_, rfl⟩
  have hP : va_P D vwCl [kI cI h0 24 f_4] H := by rw [ef_4]; exact hP
  have hD : va_D A [kI cI h0 24 f_4] := by rw [ef_4]; exact hD
  refine lv_iinc (v := 3) (lv' := [(2, .int 3), (3, .int 24), (0, .ref h0), (1, .int (-5))]) hx hb dJ7_fill_53178_14 hl (k := 0) rfl (by decide) (by decide) rfl (fun ls hl => ?_)
  refine lv_goto (tgt := 5) hx hb dJ7_fill_53178_17 (by decide) ?_
  refine lv_iload_n hx hb dJ7_fill_53178_5 rfl (lv_at hl 0 rfl) ?_
  refine lv_iload_n hx hb dJ7_fill_53178_6 rfl (lv_at hl 1 rfl) ?_
  refine lv_icmp_ge (tgt := 20) hx hb dJ7_fill_53178_7 (by decide) (fun c_5 => absurd c_5 (by decide)) (fun _ => ?_)
  refine lv_aload_n hx hb dJ7_fill_53178_10 rfl (lv_at hl 2 rfl) ?_
  refine lv_iload_n hx hb dJ7_fill_53178_11 rfl (lv_at hl 0 rfl) ?_
  refine lv_iload_n hx hb dJ7_fill_53178_12 rfl (lv_at hl 3 rfl) ?_
  refine va_iast hx hb hE.1 hP hD hS 0 1 rfl rfl (kk_ix _ _ (by decide)) dJ7_fill_53178_13 (fun H locs hP hD hS => ?_)
  have hP : va_P D vwCl [kI cI h0 24 (upd f_4 3 (-5))] H := hP
  have hD : va_D A [kI cI h0 24 (upd f_4 3 (-5))] := hD
  refine lv_iinc (v := 4) (lv' := [(2, .int 4), (3, .int 24), (0, .ref h0), (1, .int (-5))]) hx hb dJ7_fill_53178_14 hl (k := 0) rfl (by decide) (by decide) rfl (fun ls hl => ?_)
  refine lv_goto (tgt := 5) hx hb dJ7_fill_53178_17 (by decide) ?_
  refine lv_iload_n hx hb dJ7_fill_53178_5 rfl (lv_at hl 0 rfl) ?_
  refine lv_iload_n hx hb dJ7_fill_53178_6 rfl (lv_at hl 1 rfl) ?_
  refine lv_icmp_ge (tgt := 20) hx hb dJ7_fill_53178_7 (by decide) (fun c_6 => absurd c_6 (by decide)) (fun _ => ?_)
  refine lv_aload_n hx hb dJ7_fill_53178_10 rfl (lv_at hl 2 rfl) ?_
  refine lv_iload_n hx hb dJ7_fill_53178_11 rfl (lv_at hl 0 rfl) ?_
  refine lv_iload_n hx hb dJ7_fill_53178_12 rfl (lv_at hl 3 rfl) ?_
  refine va_iast hx hb hE.1 hP hD hS 0 1 rfl rfl (kk_ix _ _ (by decide)) dJ7_fill_53178_13 (fun H locs hP hD hS => ?_)
  have hP : va_P D vwCl [kI cI h0 24 (upd (upd f_4 3 (-5)) 4 (-5))] H := hP
  have hD : va_D A [kI cI h0 24 (upd (upd f_4 3 (-5)) 4 (-5))] := hD
  refine lv_iinc (v := 5) (lv' := [(2, .int 5), (3, .int 24), (0, .ref h0), (1, .int (-5))]) hx hb dJ7_fill_53178_14 hl (k := 0) rfl (by decide) (by decide) rfl (fun ls hl => ?_)
  refine lv_goto (tgt := 5) hx hb dJ7_fill_53178_17 (by decide) ?_
  refine lv_iload_n hx hb dJ7_fill_53178_5 rfl (lv_at hl 0 rfl) ?_
  refine lv_iload_n hx hb dJ7_fill_53178_6 rfl (lv_at hl 1 rfl) ?_
  refine lv_icmp_ge (tgt := 20) hx hb dJ7_fill_53178_7 (by decide) (fun c_7 => absurd c_7 (by decide)) (fun _ => ?_)
  refine lv_aload_n hx hb dJ7_fill_53178_10 rfl (lv_at hl 2 rfl) ?_
  refine lv_iload_n hx hb dJ7_fill_53178_11 rfl (lv_at hl 0 rfl) ?_
  refine lv_iload_n hx hb dJ7_fill_53178_12 rfl (lv_at hl 3 rfl) ?_
  refine va_iast hx hb hE.1 hP hD hS 0 1 rfl rfl (kk_ix _ _ (by decide)) dJ7_fill_53178_13 (fun H locs hP hD hS => ?_)
  obtain ⟨f_8, ef_8⟩ : ∃ z, z = (upd (upd (upd f_4 3 (-5)) 4 (-5)) 5 (-5)) := ⟨_, rfl⟩
  have hP : va_P D vwCl [kI cI h0 24 f_8] H := by rw [ef_8]; exact hP
  have hD : va_D A [kI cI h0 24 f_8] := by rw [ef_8]; exact hD
  refine lv_iinc (v := 6) (lv' := [(2, .int 6), (3, .int 24), (0, .ref h0), (1, .int (-5))]) hx hb dJ7_fill_53178_14 hl (k := 0) rfl (by decide) (by decide) rfl (fun ls hl => ?_)
  refine lv_goto (tgt := 5) hx hb dJ7_fill_53178_17 (by decide) ?_
  refine lv_iload_n hx hb dJ7_fill_53178_5 rfl (lv_at hl 0 rfl) ?_
  refine lv_iload_n hx hb dJ7_fill_53178_6 rfl (lv_at hl 1 rfl) ?_
  refine lv_icmp_ge (tgt := 20) hx hb dJ7_fill_53178_7 (by decide) (fun c_9 => absurd c_9 (by decide)) (fun _ => ?_)
  refine lv_aload_n hx hb dJ7_fill_53178_10 rfl (lv_at hl 2 rfl) ?_
  refine lv_iload_n hx hb dJ7_fill_53178_11 rfl (lv_at hl 0 rfl) ?_
  refine lv_iload_n hx hb dJ7_fill_53178_12 rfl (lv_at hl 3 rfl) ?_
  refine va_iast hx hb hE.1 hP hD hS 0 1 rfl rfl (kk_ix _ _ (by decide)) dJ7_fill_53178_13 (fun H locs hP hD hS => ?_)
  have hP : va_P D vwCl [kI cI h0 24 (upd f_8 6 (-5))] H := hP
  have hD : va_D A [kI cI h0 24 (upd f_8 6 (-5))] := hD
  refine lv_iinc (v := 7) (lv' := [(2, .int 7), (3, .int 24), (0, .ref h0), (1, .int (-5))]) hx hb dJ7_fill_53178_14 hl (k := 0) rfl (by decide) (by decide) rfl (fun ls hl => ?_)
  refine lv_goto (tgt := 5) hx hb dJ7_fill_53178_17 (by decide) ?_
  refine lv_iload_n hx hb dJ7_fill_53178_5 rfl (lv_at hl 0 rfl) ?_
  refine lv_iload_n hx hb dJ7_fill_53178_6 rfl (lv_at hl 1 rfl) ?_
  refine lv_icmp_ge (tgt := 20) hx hb dJ7_fill_53178_7 (by decide) (fun c_10 => absurd c_10 (by decide)) (fun _ => ?_)
  refine lv_aload_n hx hb dJ7_fill_53178_10 rfl (lv_at hl 2 rfl) ?_
  refine lv_iload_n hx hb dJ7_fill_53178_11 rfl (lv_at hl 0 rfl) ?_
  refine lv_iload_n hx hb dJ7_fill_53178_12 rfl (lv_at hl 3 rfl) ?_
  refine va_iast hx hb hE.1 hP hD hS 0 1 rfl rfl (kk_ix _ _ (by decide)) dJ7_fill_53178_13 (fun H locs hP hD hS => ?_)
  have hP : va_P D vwCl [kI cI h0 24 (upd (upd f_8 6 (-5)) 7 (-5))] H := hP
  have hD : va_D A [kI cI h0 24 (upd (upd f_8 6 (-5)) 7 (-5))] := hD
  refine lv_iinc (v := 8) (lv' := [(2, .int 8), (3, .int 24), (0, .ref h0), (1, .int (-5))]) hx hb dJ7_fill_53178_14 hl (k := 0) rfl (by decide) (by decide) rfl (fun ls hl => ?_)
  refine lv_goto (tgt := 5) hx hb dJ7_fill_53178_17 (by decide) ?_
  refine lv_iload_n hx hb dJ7_fill_53178_5 rfl (lv_at hl 0 rfl) ?_
  refine lv_iload_n hx hb dJ7_fill_53178_6 rfl (lv_at hl 1 rfl) ?_
  refine lv_icmp_ge (tgt := 20) hx hb dJ7_fill_53178_7 (by decide) (fun c_11 => absurd c_11 (by decide)) (fun _ => ?_)
  refine lv_aload_n hx hb dJ7_fill_53178_10 rfl (lv_at hl 2 rfl) ?_
  refine lv_iload_n hx hb dJ7_fill_53178_11 rfl (lv_at hl 0 rfl) ?_
  refine lv_iload_n hx hb dJ7_fill_53178_12 rfl (lv_at hl 3 rfl) ?_
  refine va_iast hx hb hE.1 hP hD hS 0 1 rfl rfl (kk_ix _ _ (by decide)) dJ7_fill_53178_13 (fun H locs hP hD hS => ?_)
  obtain ⟨f_12, ef_12⟩ : ∃ z, z = (upd (upd (upd f_8 6 (-5)) 7 (-5)) 8 (-5)) := ⟨_, rfl⟩
  have hP : va_P D vwCl [kI cI h0 24 f_12] H := by rw [ef_12]; exact hP
  have hD : va_D A [kI cI h0 24 f_12] := by rw [ef_12]; exact hD
  refine lv_iinc (v := 9) (lv' := [(2, .int 9), (3, .int 24), (0, .ref h0), (1, .int (-5))]) hx hb dJ7_fill_53178_14 hl (k := 0) rfl (by decide) (by decide) rfl (fun ls hl => ?_)
  refine lv_goto (tgt := 5) hx hb dJ7_fill_53178_17 (by decide) ?_
  refine lv_iload_n hx hb dJ7_fill_53178_5 rfl (lv_at hl 0 rfl) ?_
  refine lv_iload_n hx hb dJ7_fill_53178_6 rfl (lv_at hl 1 rfl) ?_
  refine lv_icmp_ge (tgt := 20) hx hb dJ7_fill_53178_7 (by decide) (fun c_13 => absurd c_13 (by decide)) (fun _ => ?_)
  refine lv_aload_n hx hb dJ7_fill_53178_10 rfl (lv_at hl 2 rfl) ?_
  refine lv_iload_n hx hb dJ7_fill_53178_11 rfl (lv_at hl 0 rfl) ?_
  refine lv_iload_n hx hb dJ7_fill_53178_12 rfl (lv_at hl 3 rfl) ?_
  refine va_iast hx hb hE.1 hP hD hS 0 1 rfl rfl (kk_ix _ _ (by decide)) dJ7_fill_53178_13 (fun H locs hP hD hS => ?_)
  have hP : va_P D vwCl [kI cI h0 24 (upd f_12 9 (-5))] H := hP
  have hD : va_D A [kI cI h0 24 (upd f_12 9 (-5))] := hD
  refine lv_iinc (v := 10) (lv' := [(2, .int 10), (3, .int 24), (0, .ref h0), (1, .int (-5))]) hx hb dJ7_fill_53178_14 hl (k := 0) rfl (by decide) (by decide) rfl (fun ls hl => ?_)
  refine lv_goto (tgt := 5) hx hb dJ7_fill_53178_17 (by decide) ?_
  refine lv_iload_n hx hb dJ7_fill_53178_5 rfl (lv_at hl 0 rfl) ?_
  refine lv_iload_n hx hb dJ7_fill_53178_6 rfl (lv_at hl 1 rfl) ?_
  refine lv_icmp_ge (tgt := 20) hx hb dJ7_fill_53178_7 (by decide) (fun c_14 => absurd c_14 (by decide)) (fun _ => ?_)
  refine lv_aload_n hx hb dJ7_fill_53178_10 rfl (lv_at hl 2 rfl) ?_
  refine lv_iload_n hx hb dJ7_fill_53178_11 rfl (lv_at hl 0 rfl) ?_
  refine lv_iload_n hx hb dJ7_fill_53178_12 rfl (lv_at hl 3 rfl) ?_
  refine va_iast hx hb hE.1 hP hD hS 0 1 rfl rfl (kk_ix _ _ (by decide)) dJ7_fill_53178_13 (fun H locs hP hD hS => ?_)
  obtain ⟨f_15, ef_15⟩ : ∃ z, z = (upd (upd f_12 9 (-5)) 10 (-5)) := ⟨_, rfl⟩
  have hP : va_P D vwCl [kI cI h0 24 f_15] H := by rw [ef_15]; exact hP
  have hD : va_D A [kI cI h0 24 f_15] := by rw [ef_15]; exact hD
  refine lv_iinc (v := 11) (lv' := [(2, .int 11), (3, .int 24), (0, .ref h0), (1, .int (-5))]) hx hb dJ7_fill_53178_14 hl (k := 0) rfl (by decide) (by decide) rfl (fun ls hl => ?_)
  refine lv_goto (tgt := 5) hx hb dJ7_fill_53178_17 (by decide) ?_
  refine lv_iload_n hx hb dJ7_fill_53178_5 rfl (lv_at hl 0 rfl) ?_
  refine lv_iload_n hx hb dJ7_fill_53178_6 rfl (lv_at hl 1 rfl) ?_
  refine lv_icmp_ge (tgt := 20) hx hb dJ7_fill_53178_7 (by decide) (fun c_16 => absurd c_16 (by decide)) (fun _ => ?_)
  refine lv_aload_n hx hb dJ7_fill_53178_10 rfl (lv_at hl 2 rfl) ?_
  refine lv_iload_n hx hb dJ7_fill_53178_11 rfl (lv_at hl 0 rfl) ?_
  refine lv_iload_n hx hb dJ7_fill_53178_12 rfl (lv_at hl 3 rfl) ?_
  refine va_iast hx hb hE.1 hP hD hS 0 1 rfl rfl (kk_ix _ _ (by decide)) dJ7_fill_53178_13 (fun H locs hP hD hS => ?_)
  have hP : va_P D vwCl [kI cI h0 24 (upd f_15 11 (-5))] H := hP
  have hD : va_D A [kI cI h0 24 (upd f_15 11 (-5))] := hD
  refine lv_iinc (v := 12) (lv' := [(2, .int 12), (3, .int 24), (0, .ref h0), (1, .int (-5))]) hx hb dJ7_fill_53178_14 hl (k := 0) rfl (by decide) (by decide) rfl (fun ls hl => ?_)
  refine lv_goto (tgt := 5) hx hb dJ7_fill_53178_17 (by decide) ?_
  refine lv_iload_n hx hb dJ7_fill_53178_5 rfl (lv_at hl 0 rfl) ?_
  refine lv_iload_n hx hb dJ7_fill_53178_6 rfl (lv_at hl 1 rfl) ?_
  refine lv_icmp_ge (tgt := 20) hx hb dJ7_fill_53178_7 (by decide) (fun c_17 => absurd c_17 (by decide)) (fun _ => ?_)
  refine lv_aload_n hx hb dJ7_fill_53178_10 rfl (lv_at hl 2 rfl) ?_
  refine lv_iload_n hx hb dJ7_fill_53178_11 rfl (lv_at hl 0 rfl) ?_
  refine lv_iload_n hx hb dJ7_fill_53178_12 rfl (lv_at hl 3 rfl) ?_
  refine va_iast hx hb hE.1 hP hD hS 0 1 rfl rfl (kk_ix _ _ (by decide)) dJ7_fill_53178_13 (fun H locs hP hD hS => ?_)
  obtain ⟨f_18, ef_18⟩ : ∃ z, z = (upd (upd f_15 11 (-5)) 12 (-5)) := ⟨_, rfl⟩
  have hP : va_P D vwCl [kI cI h0 24 f_18] H := by rw [ef_18]; exact hP
  have hD : va_D A [kI cI h0 24 f_18] := by rw [ef_18]; exact hD
  refine lv_iinc (v := 13) (lv' := [(2, .int 13), (3, .int 24), (0, .ref h0), (1, .int (-5))]) hx hb dJ7_fill_53178_14 hl (k := 0) rfl (by decide) (by decide) rfl (fun ls hl => ?_)
  refine lv_goto (tgt := 5) hx hb dJ7_fill_53178_17 (by decide) ?_
  refine lv_iload_n hx hb dJ7_fill_53178_5 rfl (lv_at hl 0 rfl) ?_
  refine lv_iload_n hx hb dJ7_fill_53178_6 rfl (lv_at hl 1 rfl) ?_
  refine lv_icmp_ge (tgt := 20) hx hb dJ7_fill_53178_7 (by decide) (fun c_19 => absurd c_19 (by decide)) (fun _ => ?_)
  refine lv_aload_n hx hb dJ7_fill_53178_10 rfl (lv_at hl 2 rfl) ?_
  refine lv_iload_n hx hb dJ7_fill_53178_11 rfl (lv_at hl 0 rfl) ?_
  refine lv_iload_n hx hb dJ7_fill_53178_12 rfl (lv_at hl 3 rfl) ?_
  refine va_iast hx hb hE.1 hP hD hS 0 1 rfl rfl (kk_ix _ _ (by decide)) dJ7_fill_53178_13 (fun H locs hP hD hS => ?_)
  have hP : va_P D vwCl [kI cI h0 24 (upd f_18 13 (-5))] H := hP
  have hD : va_D A [kI cI h0 24 (upd f_18 13 (-5))] := hD
  refine lv_iinc (v := 14) (lv' := [(2, .int 14), (3, .int 24), (0, .ref h0), (1, .int (-5))]) hx hb dJ7_fill_53178_14 hl (k := 0) rfl (by decide) (by decide) rfl (fun ls hl => ?_)
  refine lv_goto (tgt := 5) hx hb dJ7_fill_53178_17 (by decide) ?_
  refine lv_iload_n hx hb dJ7_fill_53178_5 rfl (lv_at hl 0 rfl) ?_
  refine lv_iload_n hx hb dJ7_fill_53178_6 rfl (lv_at hl 1 rfl) ?_
  refine lv_icmp_ge (tgt := 20) hx hb dJ7_fill_53178_7 (by decide) (fun c_20 => absurd c_20 (by decide)) (fun _ => ?_)
  refine lv_aload_n hx hb dJ7_fill_53178_10 rfl (lv_at hl 2 rfl) ?_
  refine lv_iload_n hx hb dJ7_fill_53178_11 rfl (lv_at hl 0 rfl) ?_
  refine lv_iload_n hx hb dJ7_fill_53178_12 rfl (lv_at hl 3 rfl) ?_
  refine va_iast hx hb hE.1 hP hD hS 0 1 rfl rfl (kk_ix _ _ (by decide)) dJ7_fill_53178_13 (fun H locs hP hD hS => ?_)
  obtain ⟨f_21, ef_21⟩ : ∃ z, z = (upd (upd f_18 13 (-5)) 14 (-5)) := ⟨_, rfl⟩
  have hP : va_P D vwCl [kI cI h0 24 f_21] H := by rw [ef_21]; exact hP
  have hD : va_D A [kI cI h0 24 f_21] := by rw [ef_21]; exact hD
  refine lv_iinc (v := 15) (lv' := [(2, .int 15), (3, .int 24), (0, .ref h0), (1, .int (-5))]) hx hb dJ7_fill_53178_14 hl (k := 0) rfl (by decide) (by decide) rfl (fun ls hl => ?_)
  refine lv_goto (tgt := 5) hx hb dJ7_fill_53178_17 (by decide) ?_
  refine lv_iload_n hx hb dJ7_fill_53178_5 rfl (lv_at hl 0 rfl) ?_
  refine lv_iload_n hx hb dJ7_fill_53178_6 rfl (lv_at hl 1 rfl) ?_
  refine lv_icmp_ge (tgt := 20) hx hb dJ7_fill_53178_7 (by decide) (fun c_22 => absurd c_22 (by decide)) (fun _ => ?_)
  refine lv_aload_n hx hb dJ7_fill_53178_10 rfl (lv_at hl 2 rfl) ?_
  refine lv_iload_n hx hb dJ7_fill_53178_11 rfl (lv_at hl 0 rfl) ?_
  refine lv_iload_n hx hb dJ7_fill_53178_12 rfl (lv_at hl 3 rfl) ?_
  refine va_iast hx hb hE.1 hP hD hS 0 1 rfl rfl (kk_ix _ _ (by decide)) dJ7_fill_53178_13 (fun H locs hP hD hS => ?_)
  have hP : va_P D vwCl [kI cI h0 24 (upd f_21 15 (-5))] H := hP
  have hD : va_D A [kI cI h0 24 (upd f_21 15 (-5))] := hD
  refine lv_iinc (v := 16) (lv' := [(2, .int 16), (3, .int 24), (0, .ref h0), (1, .int (-5))]) hx hb dJ7_fill_53178_14 hl (k := 0) rfl (by decide) (by decide) rfl (fun ls hl => ?_)
  refine lv_goto (tgt := 5) hx hb dJ7_fill_53178_17 (by decide) ?_
  refine lv_iload_n hx hb dJ7_fill_53178_5 rfl (lv_at hl 0 rfl) ?_
  refine lv_iload_n hx hb dJ7_fill_53178_6 rfl (lv_at hl 1 rfl) ?_
  refine lv_icmp_ge (tgt := 20) hx hb dJ7_fill_53178_7 (by decide) (fun c_23 => absurd c_23 (by decide)) (fun _ => ?_)
  refine lv_aload_n hx hb dJ7_fill_53178_10 rfl (lv_at hl 2 rfl) ?_
  refine lv_iload_n hx hb dJ7_fill_53178_11 rfl (lv_at hl 0 rfl) ?_
  refine lv_iload_n hx hb dJ7_fill_53178_12 rfl (lv_at hl 3 rfl) ?_
  refine va_iast hx hb hE.1 hP hD hS 0 1 rfl rfl (kk_ix _ _ (by decide)) dJ7_fill_53178_13 (fun H locs hP hD hS => ?_)
  obtain ⟨f_24, ef_24⟩ : ∃ z, z = (upd (upd f_21 15 (-5)) 16 (-5)) := ⟨_, rfl⟩
  have hP : va_P D vwCl [kI cI h0 24 f_24] H := by rw [ef_24]; exact hP
  have hD : va_D A [kI cI h0 24 f_24] := by rw [ef_24]; exact hD
  refine lv_iinc (v := 17) (lv' := [(2, .int 17), (3, .int 24), (0, .ref h0), (1, .int (-5))]) hx hb dJ7_fill_53178_14 hl (k := 0) rfl (by decide) (by decide) rfl (fun ls hl => ?_)
  refine lv_goto (tgt := 5) hx hb dJ7_fill_53178_17 (by decide) ?_
  refine lv_iload_n hx hb dJ7_fill_53178_5 rfl (lv_at hl 0 rfl) ?_
  refine lv_iload_n hx hb dJ7_fill_53178_6 rfl (lv_at hl 1 rfl) ?_
  refine lv_icmp_ge (tgt := 20) hx hb dJ7_fill_53178_7 (by decide) (fun c_25 => absurd c_25 (by decide)) (fun _ => ?_)
  refine lv_aload_n hx hb dJ7_fill_53178_10 rfl (lv_at hl 2 rfl) ?_
  refine lv_iload_n hx hb dJ7_fill_53178_11 rfl (lv_at hl 0 rfl) ?_
  refine lv_iload_n hx hb dJ7_fill_53178_12 rfl (lv_at hl 3 rfl) ?_
  refine va_iast hx hb hE.1 hP hD hS 0 1 rfl rfl (kk_ix _ _ (by decide)) dJ7_fill_53178_13 (fun H locs hP hD hS => ?_)
  have hP : va_P D vwCl [kI cI h0 24 (upd f_24 17 (-5))] H := hP
  have hD : va_D A [kI cI h0 24 (upd f_24 17 (-5))] := hD
  refine lv_iinc (v := 18) (lv' := [(2, .int 18), (3, .int 24), (0, .ref h0), (1, .int (-5))]) hx hb dJ7_fill_53178_14 hl (k := 0) rfl (by decide) (by decide) rfl (fun ls hl => ?_)
  refine lv_goto (tgt := 5) hx hb dJ7_fill_53178_17 (by decide) ?_
  refine lv_iload_n hx hb dJ7_fill_53178_5 rfl (lv_at hl 0 rfl) ?_
  refine lv_iload_n hx hb dJ7_fill_53178_6 rfl (lv_at hl 1 rfl) ?_
  refine lv_icmp_ge (tgt := 20) hx hb dJ7_fill_53178_7 (by decide) (fun c_26 => absurd c_26 (by decide)) (fun _ => ?_)
  refine lv_aload_n hx hb dJ7_fill_53178_10 rfl (lv_at hl 2 rfl) ?_
  refine lv_iload_n hx hb dJ7_fill_53178_11 rfl (lv_at hl 0 rfl) ?_
  refine lv_iload_n hx hb dJ7_fill_53178_12 rfl (lv_at hl 3 rfl) ?_
  refine va_iast hx hb hE.1 hP hD hS 0 1 rfl rfl (kk_ix _ _ (by decide)) dJ7_fill_53178_13 (fun H locs hP hD hS => ?_)
  obtain ⟨f_27, ef_27⟩ : ∃ z, z = (upd (upd f_24 17 (-5)) 18 (-5)) := ⟨_, rfl⟩
  have hP : va_P D vwCl [kI cI h0 24 f_27] H := by rw [ef_27]; exact hP
  have hD : va_D A [kI cI h0 24 f_27] := by rw [ef_27]; exact hD
  refine lv_iinc (v := 19) (lv' := [(2, .int 19), (3, .int 24), (0, .ref h0), (1, .int (-5))]) hx hb dJ7_fill_53178_14 hl (k := 0) rfl (by decide) (by decide) rfl (fun ls hl => ?_)
  refine lv_goto (tgt := 5) hx hb dJ7_fill_53178_17 (by decide) ?_
  refine lv_iload_n hx hb dJ7_fill_53178_5 rfl (lv_at hl 0 rfl) ?_
  refine lv_iload_n hx hb dJ7_fill_53178_6 rfl (lv_at hl 1 rfl) ?_
  refine lv_icmp_ge (tgt := 20) hx hb dJ7_fill_53178_7 (by decide) (fun c_28 => absurd c_28 (by decide)) (fun _ => ?_)
  refine lv_aload_n hx hb dJ7_fill_53178_10 rfl (lv_at hl 2 rfl) ?_
  refine lv_iload_n hx hb dJ7_fill_53178_11 rfl (lv_at hl 0 rfl) ?_
  refine lv_iload_n hx hb dJ7_fill_53178_12 rfl (lv_at hl 3 rfl) ?_
  refine va_iast hx hb hE.1 hP hD hS 0 1 rfl rfl (kk_ix _ _ (by decide)) dJ7_fill_53178_13 (fun H locs hP hD hS => ?_)
  have hP : va_P D vwCl [kI cI h0 24 (upd f_27 19 (-5))] H := hP
  have hD : va_D A [kI cI h0 24 (upd f_27 19 (-5))] := hD
  refine lv_iinc (v := 20) (lv' := [(2, .int 20), (3, .int 24), (0, .ref h0), (1, .int (-5))]) hx hb dJ7_fill_53178_14 hl (k := 0) rfl (by decide) (by decide) rfl (fun ls hl => ?_)
  refine lv_goto (tgt := 5) hx hb dJ7_fill_53178_17 (by decide) ?_
  refine lv_iload_n hx hb dJ7_fill_53178_5 rfl (lv_at hl 0 rfl) ?_
  refine lv_iload_n hx hb dJ7_fill_53178_6 rfl (lv_at hl 1 rfl) ?_
  refine lv_icmp_ge (tgt := 20) hx hb dJ7_fill_53178_7 (by decide) (fun c_29 => absurd c_29 (by decide)) (fun _ => ?_)
  refine lv_aload_n hx hb dJ7_fill_53178_10 rfl (lv_at hl 2 rfl) ?_
  refine lv_iload_n hx hb dJ7_fill_53178_11 rfl (lv_at hl 0 rfl) ?_
  refine lv_iload_n hx hb dJ7_fill_53178_12 rfl (lv_at hl 3 rfl) ?_
  refine va_iast hx hb hE.1 hP hD hS 0 1 rfl rfl (kk_ix _ _ (by decide)) dJ7_fill_53178_13 (fun H locs hP hD hS => ?_)
  obtain ⟨f_30, ef_30⟩ : ∃ z, z = (upd (upd f_27 19 (-5)) 20 (-5)) := ⟨_, rfl⟩
  have hP : va_P D vwCl [kI cI h0 24 f_30] H := by rw [ef_30]; exact hP
  have hD : va_D A [kI cI h0 24 f_30] := by rw [ef_30]; exact hD
  refine lv_iinc (v := 21) (lv' := [(2, .int 21), (3, .int 24), (0, .ref h0), (1, .int (-5))]) hx hb dJ7_fill_53178_14 hl (k := 0) rfl (by decide) (by decide) rfl (fun ls hl => ?_)
  refine lv_goto (tgt := 5) hx hb dJ7_fill_53178_17 (by decide) ?_
  refine lv_iload_n hx hb dJ7_fill_53178_5 rfl (lv_at hl 0 rfl) ?_
  refine lv_iload_n hx hb dJ7_fill_53178_6 rfl (lv_at hl 1 rfl) ?_
  refine lv_icmp_ge (tgt := 20) hx hb dJ7_fill_53178_7 (by decide) (fun c_31 => absurd c_31 (by decide)) (fun _ => ?_)
  refine lv_aload_n hx hb dJ7_fill_53178_10 rfl (lv_at hl 2 rfl) ?_
  refine lv_iload_n hx hb dJ7_fill_53178_11 rfl (lv_at hl 0 rfl) ?_
  refine lv_iload_n hx hb dJ7_fill_53178_12 rfl (lv_at hl 3 rfl) ?_
  refine va_iast hx hb hE.1 hP hD hS 0 1 rfl rfl (kk_ix _ _ (by decide)) dJ7_fill_53178_13 (fun H locs hP hD hS => ?_)
  have hP : va_P D vwCl [kI cI h0 24 (upd f_30 21 (-5))] H := hP
  have hD : va_D A [kI cI h0 24 (upd f_30 21 (-5))] := hD
  refine lv_iinc (v := 22) (lv' := [(2, .int 22), (3, .int 24), (0, .ref h0), (1, .int (-5))]) hx hb dJ7_fill_53178_14 hl (k := 0) rfl (by decide) (by decide) rfl (fun ls hl => ?_)
  refine lv_goto (tgt := 5) hx hb dJ7_fill_53178_17 (by decide) ?_
  refine lv_iload_n hx hb dJ7_fill_53178_5 rfl (lv_at hl 0 rfl) ?_
  refine lv_iload_n hx hb dJ7_fill_53178_6 rfl (lv_at hl 1 rfl) ?_
  refine lv_icmp_ge (tgt := 20) hx hb dJ7_fill_53178_7 (by decide) (fun c_32 => absurd c_32 (by decide)) (fun _ => ?_)
  refine lv_aload_n hx hb dJ7_fill_53178_10 rfl (lv_at hl 2 rfl) ?_
  refine lv_iload_n hx hb dJ7_fill_53178_11 rfl (lv_at hl 0 rfl) ?_
  refine lv_iload_n hx hb dJ7_fill_53178_12 rfl (lv_at hl 3 rfl) ?_
  refine va_iast hx hb hE.1 hP hD hS 0 1 rfl rfl (kk_ix _ _ (by decide)) dJ7_fill_53178_13 (fun H locs hP hD hS => ?_)
  obtain ⟨f_33, ef_33⟩ : ∃ z, z = (upd (upd f_30 21 (-5)) 22 (-5)) := ⟨_, rfl⟩
  have hP : va_P D vwCl [kI cI h0 24 f_33] H := by rw [ef_33]; exact hP
  have hD : va_D A [kI cI h0 24 f_33] := by rw [ef_33]; exact hD
  refine lv_iinc (v := 23) (lv' := [(2, .int 23), (3, .int 24), (0, .ref h0), (1, .int (-5))]) hx hb dJ7_fill_53178_14 hl (k := 0) rfl (by decide) (by decide) rfl (fun ls hl => ?_)
  refine lv_goto (tgt := 5) hx hb dJ7_fill_53178_17 (by decide) ?_
  refine lv_iload_n hx hb dJ7_fill_53178_5 rfl (lv_at hl 0 rfl) ?_
  refine lv_iload_n hx hb dJ7_fill_53178_6 rfl (lv_at hl 1 rfl) ?_
  refine lv_icmp_ge (tgt := 20) hx hb dJ7_fill_53178_7 (by decide) (fun c_34 => absurd c_34 (by decide)) (fun _ => ?_)
  refine lv_aload_n hx hb dJ7_fill_53178_10 rfl (lv_at hl 2 rfl) ?_
  refine lv_iload_n hx hb dJ7_fill_53178_11 rfl (lv_at hl 0 rfl) ?_
  refine lv_iload_n hx hb dJ7_fill_53178_12 rfl (lv_at hl 3 rfl) ?_
  refine va_iast hx hb hE.1 hP hD hS 0 1 rfl rfl (kk_ix _ _ (by decide)) dJ7_fill_53178_13 (fun H locs hP hD hS => ?_)
  have hP : va_P D vwCl [kI cI h0 24 (upd f_33 23 (-5))] H := hP
  have hD : va_D A [kI cI h0 24 (upd f_33 23 (-5))] := hD
  refine lv_iinc (v := 24) (lv' := [(2, .int 24), (3, .int 24), (0, .ref h0), (1, .int (-5))]) hx hb dJ7_fill_53178_14 hl (k := 0) rfl (by decide) (by decide) rfl (fun ls hl => ?_)
  refine lv_goto (tgt := 5) hx hb dJ7_fill_53178_17 (by decide) ?_
  refine lv_iload_n hx hb dJ7_fill_53178_5 rfl (lv_at hl 0 rfl) ?_
  refine lv_iload_n hx hb dJ7_fill_53178_6 rfl (lv_at hl 1 rfl) ?_
  refine lv_icmp_ge (tgt := 20) hx hb dJ7_fill_53178_7 (by decide) (fun _ => ?_) (fun c_35 => absurd c_35 (by decide))
  exact kk_ret_v ((fun i => [].getD i 0), (fun i => [(upd f_33 23 (-5))].getD i (fun _ => 0)), (fun i => [].getD i (fun _ => 0)), (fun i => [].getD i 0)) hx hb hr hlocks trivial (hP.sub [0] rfl) (hD.sub [0] (by decide +kernel) rfl) hS dJ7_fill_53178_20 (Nat.le_of_ble_eq_true rfl) (Nat.le_of_ble_eq_true rfl)
