set_option maxHeartbeats 4000000 in
set_option maxRecDepth 100000 in
theorem c_X11_plain (l : Launch) (D : va_G) (cB cI cJ cD : ClassId) (h0 : Nat) (y0 : Value) (i0 : Int32) (i1 : Int32) (y1 : Value) (i2 : Int32) (i3 : Int32) (i4 : Int32) (i5 : Int32) (i6 : Int32) (i7 : Int32) (i8 : Int32) (i9 : Int32) (i10 : Int32) (i11 : Int32) (i12 : Int32) (i13 : Int32) (i14 : Int32) (i15 : Int32) (y2 : Value) (y3 : Value) (y4 : Value) (y5 : Value) (y6 : Value) (y7 : Value) (y8 : Value) (y9 : Value) (i16 : Int32) (y10 : Value) (i17 : Int32) (i18 : Int32) (y11 : Value) (y12 : Value) (y13 : Value) (y14 : Value) (i19 : Int32) (i20 : Int32) (i21 : Int32) (y15 : Value) (i22 : Int32) (i23 : Int32) (i24 : Int32) (i25 : Int32) (y16 : Value) (y17 : Value) (i26 : Int64) (y18 : Value) (sz : Nat) : Met l yX11_plain (kk_W yX11_plain cX11_plain 1 none) ({ frames := 0, cells := 0, slots := 0, locals := 0 }) (va_Pc [.ref h0] (kk_pre D cB cI cJ cD [kO h0 10 [y0, .int i0, .int i1, y1, .int i2, .int i3, .int i4, .int i5, .int i6, .int i7, .int i8, .int i9, .int i10, .int i11, .int i12, .int i13, .int i14, .int i15, y2, y3, y4, y5, y6, y7, y8, y9, .int i16, y10, .int i17, .int i18, y11, y12, y13, y14, .int i19, .int i20, .int i21, y15, .int i22, .int i23, .int i24, .int i25, y16, y17, .long i26, y18]] sz)) (kk_Qv D (fun (u : (Nat → Nat) × (Nat → Nat → Int32) × (Nat → Nat → Int64) × (Nat → Int32)) => True) (fun u => [kO h0 10 [y0, .int i0, .int i1, y1, .int i2, .int i3, .int i4, .int i5, .int i6, .int i7, .int i8, .int i9, .int i10, .int i11, .int i12, .int 0, .int 0, .int 0, y2, y3, y4, y5, y6, y7, y8, y9, .int i16, y10, .int i17, .int i18, y11, y12, y13, y14, .int i19, .int i20, .int i21, y15, .int i22, .int i23, .int i24, .int i25, y16, y17, .long i26, y18]]) (va_A [kO h0 10 [y0, .int i0, .int i1, y1, .int i2, .int i3, .int i4, .int i5, .int i6, .int i7, .int i8, .int i9, .int i10, .int i11, .int i12, .int i13, .int i14, .int i15, y2, y3, y4, y5, y6, y7, y8, y9, .int i16, y10, .int i17, .int i18, y11, y12, y13, y14, .int i19, .int i20, .int i21, y15, .int i22, .int i23, .int i24, .int i25, y16, y17, .long i26, y18]] sz)) 0 0 (va_A [kO h0 10 [y0, .int i0, .int i1, y1, .int i2, .int i3, .int i4, .int i5, .int i6, .int i7, .int i8, .int i9, .int i10, .int i11, .int i12, .int i13, .int i14, .int i15, y2, y3, y4, y5, y6, y7, y8, y9, .int i16, y10, .int i17, .int i18, y11, y12, y13, y14, .int i19, .int i20, .int i21, y15, .int i22, .int i23, .int i24, .int i25, y16, y17, .long i26, y18]] sz) := by
  refine kk_start (y := yX11_plain) (maxL := 1) (av := [.ref h0]) (Qc := fun A => kk_Qv D (fun (u : (Nat → Nat) × (Nat → Nat → Int32) × (Nat → Nat → Int64) × (Nat → Int32)) => True) (fun u => [kO h0 10 [y0, .int i0, .int i1, y1, .int i2, .int i3, .int i4, .int i5, .int i6, .int i7, .int i8, .int i9, .int i10, .int i11, .int i12, .int 0, .int 0, .int 0, y2, y3, y4, y5, y6, y7, y8, y9, .int i16, y10, .int i17, .int i18, y11, y12, y13, y14, .int i19, .int i20, .int i21, y15, .int i22, .int i23, .int i24, .int i25, y16, y17, .long i26, y18]]) A) (by decide) (Nat.le_of_ble_eq_true rfl) ?_
  intro p e s m below meth c ls A hx hb hr hml hown hts hE hlocks hin hsz hP hD hA hS hl
  have hown : s.vm.findClass RX11 = some m.cls := hown
  have hl : lv_has ls 1 [(0, .ref h0)] := hl
  refine lv_aload_n hx hb dX11_plain_0 rfl (lv_at hl 0 rfl) ?_
  refine lv_iconst (v := 0) hx hb dX11_plain_1 (by decide) ?_
  refine va_put (D := D) (ci := 10) (v := .int 0) (ty := .int) (C := RX11) (T := TX11) (N := 46) hx hb hts u_X11 tyX11 tyX11_ok nmX11 hown hE.1 hP hD hS 0 rfl rfl 15 (by decide) (hts _ w_1316) (fun _ h9 => h9) rfl (by decide +kernel) rfl rfl (Nat.le_of_ble_eq_true rfl) dX11_plain_2 (fun H locs hP hD hS => ?_)
  have hP : va_P D vwCl [kO h0 10 [y0, .int i0, .int i1, y1, .int i2, .int i3, .int i4, .int i5, .int i6, .int i7, .int i8, .int i9, .int i10, .int i11, .int i12, .int 0, .int i14, .int i15, y2, y3, y4, y5, y6, y7, y8, y9, .int i16, y10, .int i17, .int i18, y11, y12, y13, y14, .int i19, .int i20, .int i21, y15, .int i22, .int i23, .int i24, .int i25, y16, y17, .long i26, y18]] H := hP
  have hD : va_D A [kO h0 10 [y0, .int i0, .int i1, y1, .int i2, .int i3, .int i4, .int i5, .int i6, .int i7, .int i8, .int i9, .int i10, .int i11, .int i12, .int 0, .int i14, .int i15, y2, y3, y4, y5, y6, y7, y8, y9, .int i16, y10, .int i17, .int i18, y11, y12, y13, y14, .int i19, .int i20, .int i21, y15, .int i22, .int i23, .int i24, .int i25, y16, y17, .long i26, y18]] := hD
  refine lv_aload_n hx hb dX11_plain_5 rfl (lv_at hl 0 rfl) ?_
  refine lv_iconst (v := 0) hx hb dX11_plain_6 (by decide) ?_
  refine va_put (D := D) (ci := 10) (v := .int 0) (ty := .int) (C := RX11) (T := TX11) (N := 46) hx hb hts u_X11 tyX11 tyX11_ok nmX11 hown hE.1 hP hD hS 0 rfl rfl 16 (by decide) (hts _ w_1317) (fun _ h9 => h9) rfl (by decide +kernel) rfl rfl (Nat.le_of_ble_eq_true rfl) dX11_plain_7 (fun H locs hP hD hS => ?_)
  have hP : va_P D vwCl [kO h0 10 [y0, .int i0, .int i1, y1, .int i2, .int i3, .int i4, .int i5, .int i6, .int i7, .int i8, .int i9, .int i10, .int i11, .int i12, .int 0, .int 0, .int i15, y2, y3, y4, y5, y6, y7, y8, y9, .int i16, y10, .int i17, .int i18, y11, y12, y13, y14, .int i19, .int i20, .int i21, y15, .int i22, .int i23, .int i24, .int i25, y16, y17, .long i26, y18]] H := hP
  have hD : va_D A [kO h0 10 [y0, .int i0, .int i1, y1, .int i2, .int i3, .int i4, .int i5, .int i6, .int i7, .int i8, .int i9, .int i10, .int i11, .int i12, .int 0, .int 0, .int i15, y2, y3, y4, y5, y6, y7, y8, y9, .int i16, y10, .int i17, .int i18, y11, y12, y13, y14, .int i19, .int i20, .int i21, y15, .int i22, .int i23, .int i24, .int i25, y16, y17, .long i26, y18]] := hD
  refine lv_aload_n hx hb dX11_plain_10 rfl (lv_at hl 0 rfl) ?_
  refine lv_iconst (v := 0) hx hb dX11_plain_11 (by decide) ?_
  refine va_put (D := D) (ci := 10) (v := .int 0) (ty := .int) (C := RX11) (T := TX11) (N := 46) hx hb hts u_X11 tyX11 tyX11_ok nmX11 hown hE.1 hP hD hS 0 rfl rfl 17 (by decide) (hts _ w_1318) (fun _ h9 => h9) rfl (by decide +kernel) rfl rfl (Nat.le_of_ble_eq_true rfl) dX11_plain_12 (fun H locs hP hD hS => ?_)
  have hP : va_P D vwCl [kO h0 10 [y0, .int i0, .int i1, y1, .int i2, .int i3, .int i4, .int i5, .int i6, .int i7, .int i8, .int i9, .int i10, .int i11, .int i12, .int 0, .int 0, .int 0, y2, y3, y4, y5, y6, y7, y8, y9, .int i16, y10, .int i17, .int i18, y11, y12, y13, y14, .int i19, .int i20, .int i21, y15, .int i22, .int i23, .int i24, .int i25, y16, y17, .long i26, y18]] H := hP
  have hD : va_D A [kO h0 10 [y0, .int i0, .int i1, y1, .int i2, .int i3, .int i4, .int i5, .int i6, .int i7, .int i8, .int i9, .int i10, .int i11, .int i12, .int 0, .int 0, .int 0, y2, y3, y4, y5, y6, y7, y8, y9, .int i16, y10, .int i17, .int i18, y11, y12, y13, y14, .int i19, .int i20, .int i21, y15, .int i22, .int i23, .int i24, .int i25, y16, y17, .long i26, y18]] := hD
  exact kk_ret_v ((fun i => [].getD i 0), (fun i => [].getD i (fun _ => 0)), (fun i => [].getD i (fun _ => 0)), (fun i => [].getD i 0)) hx hb hr hlocks trivial (hP.sub [0] rfl) (hD.sub [0] (by decide +kernel) rfl) hS dX11_plain_15 (Nat.le_of_ble_eq_true rfl) (Nat.le_of_ble_eq_true rfl)
set_option maxHeartbeats 4000000 in
set_option maxRecDepth 100000 in
theorem c_X11_copies (l : Launch) (D : va_G) (cB cI cJ cD : ClassId) (h0 : Nat) (g0 : Nat → Int32) (sz : Nat) : Met l yX11_copies (kk_W yX11_copies cX11_copies 3 none) ({ frames := 0, cells := 0, slots := 0, locals := 0 }) (va_Pc [.ref h0, .int 5] (kk_pre D cB cI cJ cD [kI cI h0 10 g0] sz)) (kk_Qv D (fun (u : (Nat → Nat) × (Nat → Nat → Int32) × (Nat → Nat → Int64) × (Nat → Int32)) => True) (fun u => [kI cI h0 10 (u.2.1 0)]) (va_A [kI cI h0 10 g0] sz)) 0 0 (va_A [kI cI h0 10 g0] sz) := by
  refine kk_start (y := yX11_copies) (maxL := 3) (av := [.ref h0, .int 5]) (Qc := fun A => kk_Qv D (fun (u : (Nat → Nat) × (Nat → Nat → Int32) × (Nat → Nat → Int64) × (Nat → Int32)) => True) (fun u => [kI cI h0 10 (u.2.1 0)]) A) (by decide) (Nat.le_of_ble_eq_true rfl) ?_
  intro p e s m below meth c ls A hx hb hr hml hown hts hE hlocks hin hsz hP hD hA hS hl
  have hown : s.vm.findClass RX11 = some m.cls := hown
  have hl : lv_has ls 3 [(0, .ref h0), (1, .int 5)] := hl
  refine lv_iconst (v := 0) hx hb dX11_copies_0 (by decide) ?_
  refine lv_istore_n (lv' := [(2, .int 0), (0, .ref h0), (1, .int 5)]) hx hb dX11_copies_1 rfl hl (by decide) rfl (fun ls hl => ?_)
  refine lv_iload_n hx hb dX11_copies_2 rfl (lv_at hl 0 rfl) ?_
  refine lv_iload_n hx hb dX11_copies_3 rfl (lv_at hl 2 rfl) ?_
  refine lv_icmp_ge (tgt := 21) hx hb dX11_copies_4 (by decide) (fun c_1 => absurd c_1 (by decide)) (fun _ => ?_)
  refine lv_aload_n hx hb dX11_copies_7 rfl (lv_at hl 1 rfl) ?_
  refine lv_iload_n hx hb dX11_copies_8 rfl (lv_at hl 0 rfl) ?_
  refine lv_aload_n hx hb dX11_copies_9 rfl (lv_at hl 1 rfl) ?_
  refine lv_iload_n hx hb dX11_copies_10 rfl (lv_at hl 2 rfl) ?_
  refine lv_iload_n hx hb dX11_copies_11 rfl (lv_at hl 0 rfl) ?_
  refine lv_iadd hx hb dX11_copies_12 ?_
  refine lv_topi (fun v_2 e_2 => ?_)
  obtain rfl : v_2 = 5 := e_2.trans (by decide)
  refine va_iald hx hb hE.1 hP 0 1 rfl rfl (kk_ix _ _ (by decide)) dX11_copies_13 ?_
  refine lv_topi (fun v_3 e_3 => ?_)
  refine va_iast hx hb hE.1 hP hD hS 0 1 rfl rfl (kk_ix _ _ (by decide)) dX11_copies_14 (fun H locs hP hD hS => ?_)
  have hP : va_P D vwCl [kI cI h0 10 (upd g0 0 v_3)] H := hP
  have hD : va_D A [kI cI h0 10 (upd g0 0 v_3)] := hD
  refine lv_iinc (v := 1) (lv' := [(2, .int 1), (0, .ref h0), (1, .int 5)]) hx hb dX11_copies_15 hl (k := 0) rfl (by decide) (by decide) rfl (fun ls hl => ?_)
  refine lv_goto (tgt := 2) hx hb dX11_copies_18 (by decide) ?_
  refine lv_iload_n hx hb dX11_copies_2 rfl (lv_at hl 0 rfl) ?_
  refine lv_iload_n hx hb dX11_copies_3 rfl (lv_at hl 2 rfl) ?_
  refine lv_icmp_ge (tgt := 21) hx hb dX11_copies_4 (by decide) (fun c_4 => absurd c_4 (by decide)) (fun _ => ?_)
  refine lv_aload_n hx hb dX11_copies_7 rfl (lv_at hl 1 rfl) ?_
  refine lv_iload_n hx hb dX11_copies_8 rfl (lv_at hl 0 rfl) ?_
  refine lv_aload_n hx hb dX11_copies_9 rfl (lv_at hl 1 rfl) ?_
  refine lv_iload_n hx hb dX11_copies_10 rfl (lv_at hl 2 rfl) ?_
  refine lv_iload_n hx hb dX11_copies_11 rfl (lv_at hl 0 rfl) ?_
  refine lv_iadd hx hb dX11_copies_12 ?_
  refine lv_topi (fun v_5 e_5 => ?_)
  obtain rfl : v_5 = 6 := e_5.trans (by decide)
  refine va_iald hx hb hE.1 hP 0 1 rfl rfl (kk_ix _ _ (by decide)) dX11_copies_13 ?_
  refine lv_topi (fun v_6 e_6 => ?_)
  refine va_iast hx hb hE.1 hP hD hS 0 1 rfl rfl (kk_ix _ _ (by decide)) dX11_copies_14 (fun H locs hP hD hS => ?_)
  have hP : va_P D vwCl [kI cI h0 10 (upd (upd g0 0 v_3) 1 v_6)] H := hP
  have hD : va_D A [kI cI h0 10 (upd (upd g0 0 v_3) 1 v_6)] := hD
  refine lv_iinc (v := 2) (lv' := [(2, .int 2), (0, .ref h0), (1, .int 5)]) hx hb dX11_copies_15 hl (k := 0) rfl (by decide) (by decide) rfl (fun ls hl => ?_)
  refine lv_goto (tgt := 2) hx hb dX11_copies_18 (by decide) ?_
  refine lv_iload_n hx hb dX11_copies_2 rfl (lv_at hl 0 rfl) ?_
  refine lv_iload_n hx hb dX11_copies_3 rfl (lv_at hl 2 rfl) ?_
  refine lv_icmp_ge (tgt := 21) hx hb dX11_copies_4 (by decide) (fun c_7 => absurd c_7 (by decide)) (fun _ => ?_)
  refine lv_aload_n hx hb dX11_copies_7 rfl (lv_at hl 1 rfl) ?_
  refine lv_iload_n hx hb dX11_copies_8 rfl (lv_at hl 0 rfl) ?_
  refine lv_aload_n hx hb dX11_copies_9 rfl (lv_at hl 1 rfl) ?_
  refine lv_iload_n hx hb dX11_copies_10 rfl (lv_at hl 2 rfl) ?_
  refine lv_iload_n hx hb dX11_copies_11 rfl (lv_at hl 0 rfl) ?_
  refine lv_iadd hx hb dX11_copies_12 ?_
  refine lv_topi (fun v_8 e_8 => ?_)
  obtain rfl : v_8 = 7 := e_8.trans (by decide)
  refine va_iald hx hb hE.1 hP 0 1 rfl rfl (kk_ix _ _ (by decide)) dX11_copies_13 ?_
  refine lv_topi (fun v_9 e_9 => ?_)
  refine va_iast hx hb hE.1 hP hD hS 0 1 rfl rfl (kk_ix _ _ (by decide)) dX11_copies_14 (fun H locs hP hD hS => ?_)
  obtain ⟨f_10, ef_10⟩ : ∃ z, z = (upd (upd (upd g0 0 v_3) 1 v_6) 2 v_9) := ⟨_, rfl⟩
  have hP : va_P D vwCl [kI cI h0 10 f_10] H := by rw [ef_10]; exact hP
  have hD : va_D A [kI cI h0 10 f_10] := by rw [ef_10]; exact hD
  refine lv_iinc (v := 3) (lv' := [(2, .int 3), (0, .ref h0), (1, .int 5)]) hx hb dX11_copies_15 hl (k := 0) rfl (by decide) (by decide) rfl (fun ls hl => ?_)
  refine lv_goto (tgt := 2) hx hb dX11_copies_18 (by decide) ?_
  refine lv_iload_n hx hb dX11_copies_2 rfl (lv_at hl 0 rfl) ?_
  refine lv_iload_n hx hb dX11_copies_3 rfl (lv_at hl 2 rfl) ?_
  refine lv_icmp_ge (tgt := 21) hx hb dX11_copies_4 (by decide) (fun c_11 => absurd c_11 (by decide)) (fun _ => ?_)
  refine lv_aload_n hx hb dX11_copies_7 rfl (lv_at hl 1 rfl) ?_
  refine lv_iload_n hx hb dX11_copies_8 rfl (lv_at hl 0 rfl) ?_
  refine lv_aload_n hx hb dX11_copies_9 rfl (lv_at hl 1 rfl) ?_
  refine lv_iload_n hx hb dX11_copies_10 rfl (lv_at hl 2 rfl) ?_
  refine lv_iload_n hx hb dX11_copies_11 rfl (lv_at hl 0 rfl) ?_
  refine lv_iadd hx hb dX11_copies_12 ?_
  refine lv_topi (fun v_12 e_12 => ?_)
  obtain rfl : v_12 = 8 := e_12.trans (by decide)
  refine va_iald hx hb hE.1 hP 0 1 rfl rfl (kk_ix _ _ (by decide)) dX11_copies_13 ?_
  refine lv_topi (fun v_13 e_13 => ?_)
  refine va_iast hx hb hE.1 hP hD hS 0 1 rfl rfl (kk_ix _ _ (by decide)) dX11_copies_14 (fun H locs hP hD hS => ?_)
  have hP : va_P D vwCl [kI cI h0 10 (upd f_10 3 v_13)] H := hP
  have hD : va_D A [kI cI h0 10 (upd f_10 3 v_13)] := hD
  refine lv_iinc (v := 4) (lv' := [(2, .int 4), (0, .ref h0), (1, .int 5)]) hx hb dX11_copies_15 hl (k := 0) rfl (by decide) (by decide) rfl (fun ls hl => ?_)
  refine lv_goto (tgt := 2) hx hb dX11_copies_18 (by decide) ?_
  refine lv_iload_n hx hb dX11_copies_2 rfl (lv_at hl 0 rfl) ?_
  refine lv_iload_n hx hb dX11_copies_3 rfl (lv_at hl 2 rfl) ?_
  refine lv_icmp_ge (tgt := 21) hx hb dX11_copies_4 (by decide) (fun c_14 => absurd c_14 (by decide)) (fun _ => ?_)
  refine lv_aload_n hx hb dX11_copies_7 rfl (lv_at hl 1 rfl) ?_
  refine lv_iload_n hx hb dX11_copies_8 rfl (lv_at hl 0 rfl) ?_
  refine lv_aload_n hx hb dX11_copies_9 rfl (lv_at hl 1 rfl) ?_
  refine lv_iload_n hx hb dX11_copies_10 rfl (lv_at hl 2 rfl) ?_
  refine lv_iload_n hx hb dX11_copies_11 rfl (lv_at hl 0 rfl) ?_
  refine lv_iadd hx hb dX11_copies_12 ?_
  refine lv_topi (fun v_15 e_15 => ?_)
  obtain rfl : v_15 = 9 := e_15.trans (by decide)
  refine va_iald hx hb hE.1 hP 0 1 rfl rfl (kk_ix _ _ (by decide)) dX11_copies_13 ?_
  refine lv_topi (fun v_16 e_16 => ?_)
  refine va_iast hx hb hE.1 hP hD hS 0 1 rfl rfl (kk_ix _ _ (by decide)) dX11_copies_14 (fun H locs hP hD hS => ?_)
  have hP : va_P D vwCl [kI cI h0 10 (upd (upd f_10 3 v_13) 4 v_16)] H := hP
  have hD : va_D A [kI cI h0 10 (upd (upd f_10 3 v_13) 4 v_16)] := hD
  refine lv_iinc (v := 5) (lv' := [(2, .int 5), (0, .ref h0), (1, .int 5)]) hx hb dX11_copies_15 hl (k := 0) rfl (by decide) (by decide) rfl (fun ls hl => ?_)
  refine lv_goto (tgt := 2) hx hb dX11_copies_18 (by decide) ?_
  refine lv_iload_n hx hb dX11_copies_2 rfl (lv_at hl 0 rfl) ?_
  refine lv_iload_n hx hb dX11_copies_3 rfl (lv_at hl 2 rfl) ?_
  refine lv_icmp_ge (tgt := 21) hx hb dX11_copies_4 (by decide) (fun _ => ?_) (fun c_17 => absurd c_17 (by decide))
  exact kk_ret_v ((fun i => [].getD i 0), (fun i => [(upd (upd f_10 3 v_13) 4 v_16)].getD i (fun _ => 0)), (fun i => [].getD i (fun _ => 0)), (fun i => [].getD i 0)) hx hb hr hlocks trivial (hP.sub [0] rfl) (hD.sub [0] (by decide +kernel) rfl) hS dX11_copies_21 (Nat.le_of_ble_eq_true rfl) (Nat.le_of_ble_eq_true rfl)
set_option maxHeartbeats 4000000 in
set_option maxRecDepth 100000 in
theorem c_X11_copies_2 (l : Launch) (D : va_G) (cB cI cJ cD : ClassId) (h0 : Nat) (g0 : Nat → Int32) (sz : Nat) : Met l yX11_copies (kk_W yX11_copies cX11_copies 3 none) ({ frames := 0, cells := 0, slots := 0, locals := 0 }) (va_Pc [.ref h0, .int 16] (kk_pre D cB cI cJ cD [kI cI h0 32 g0] sz)) (kk_Qv D (fun (u : (Nat → Nat) × (Nat → Nat → Int32) × (Nat → Nat → Int64) × (Nat → Int32)) => True) (fun u => [kI cI h0 32 (u.2.1 0)]) (va_A [kI cI h0 32 g0] sz)) 0 0 (va_A [kI cI h0 32 g0] sz) := by
  refine kk_start (y := yX11_copies) (maxL := 3) (av := [.ref h0, .int 16]) (Qc := fun A => kk_Qv D (fun (u : (Nat → Nat) × (Nat → Nat → Int32) × (Nat → Nat → Int64) × (Nat → Int32)) => True) (fun u => [kI cI h0 32 (u.2.1 0)]) A) (by decide) (Nat.le_of_ble_eq_true rfl) ?_
  intro p e s m below meth c ls A hx hb hr hml hown hts hE hlocks hin hsz hP hD hA hS hl
  have hown : s.vm.findClass RX11 = some m.cls := hown
  have hl : lv_has ls 3 [(0, .ref h0), (1, .int 16)] := hl
  refine lv_iconst (v := 0) hx hb dX11_copies_0 (by decide) ?_
  refine lv_istore_n (lv' := [(2, .int 0), (0, .ref h0), (1, .int 16)]) hx hb dX11_copies_1 rfl hl (by decide) rfl (fun ls hl => ?_)
  refine lv_iload_n hx hb dX11_copies_2 rfl (lv_at hl 0 rfl) ?_
  refine lv_iload_n hx hb dX11_copies_3 rfl (lv_at hl 2 rfl) ?_
  refine lv_icmp_ge (tgt := 21) hx hb dX11_copies_4 (by decide) (fun c_1 => absurd c_1 (by decide)) (fun _ => ?_)
  refine lv_aload_n hx hb dX11_copies_7 rfl (lv_at hl 1 rfl) ?_
  refine lv_iload_n hx hb dX11_copies_8 rfl (lv_at hl 0 rfl) ?_
  refine lv_aload_n hx hb dX11_copies_9 rfl (lv_at hl 1 rfl) ?_
  refine lv_iload_n hx hb dX11_copies_10 rfl (lv_at hl 2 rfl) ?_
  refine lv_iload_n hx hb dX11_copies_11 rfl (lv_at hl 0 rfl) ?_
  refine lv_iadd hx hb dX11_copies_12 ?_
  refine lv_topi (fun v_2 e_2 => ?_)
  obtain rfl : v_2 = 16 := e_2.trans (by decide)
  refine va_iald hx hb hE.1 hP 0 1 rfl rfl (kk_ix _ _ (by decide)) dX11_copies_13 ?_
  refine lv_topi (fun v_3 e_3 => ?_)
  refine va_iast hx hb hE.1 hP hD hS 0 1 rfl rfl (kk_ix _ _ (by decide)) dX11_copies_14 (fun H locs hP hD hS => ?_)
  have hP : va_P D vwCl [kI cI h0 32 (upd g0 0 v_3)] H := hP
  have hD : va_D A [kI cI h0 32 (upd g0 0 v_3)] := hD
  refine lv_iinc (v := 1) (lv' := [(2, .int 1), (0, .ref h0), (1, .int 16)]) hx hb dX11_copies_15 hl (k := 0) rfl (by decide) (by decide) rfl (fun ls hl => ?_)
  refine lv_goto (tgt := 2) hx hb dX11_copies_18 (by decide) ?_
  refine lv_iload_n hx hb dX11_copies_2 rfl (lv_at hl 0 rfl) ?_
  refine lv_iload_n hx hb dX11_copies_3 rfl (lv_at hl 2 rfl) ?_
  refine lv_icmp_ge (tgt := 21) hx hb dX11_copies_4 (by decide) (fun c_4 => absurd c_4 (by decide)) (fun _ => ?_)
  refine lv_aload_n hx hb dX11_copies_7 rfl (lv_at hl 1 rfl) ?_
  refine lv_iload_n hx hb dX11_copies_8 rfl (lv_at hl 0 rfl) ?_
  refine lv_aload_n hx hb dX11_copies_9 rfl (lv_at hl 1 rfl) ?_
  refine lv_iload_n hx hb dX11_copies_10 rfl (lv_at hl 2 rfl) ?_
  refine lv_iload_n hx hb dX11_copies_11 rfl (lv_at hl 0 rfl) ?_
  refine lv_iadd hx hb dX11_copies_12 ?_
  refine lv_topi (fun v_5 e_5 => ?_)
  obtain rfl : v_5 = 17 := e_5.trans (by decide)
  refine va_iald hx hb hE.1 hP 0 1 rfl rfl (kk_ix _ _ (by decide)) dX11_copies_13 ?_
  refine lv_topi (fun v_6 e_6 => ?_)
  refine va_iast hx hb hE.1 hP hD hS 0 1 rfl rfl (kk_ix _ _ (by decide)) dX11_copies_14 (fun H locs hP hD hS => ?_)
  have hP : va_P D vwCl [kI cI h0 32 (upd (upd g0 0 v_3) 1 v_6)] H := hP
  have hD : va_D A [kI cI h0 32 (upd (upd g0 0 v_3) 1 v_6)] := hD
  refine lv_iinc (v := 2) (lv' := [(2, .int 2), (0, .ref h0), (1, .int 16)]) hx hb dX11_copies_15 hl (k := 0) rfl (by decide) (by decide) rfl (fun ls hl => ?_)
  refine lv_goto (tgt := 2) hx hb dX11_copies_18 (by decide) ?_
  refine lv_iload_n hx hb dX11_copies_2 rfl (lv_at hl 0 rfl) ?_
  refine lv_iload_n hx hb dX11_copies_3 rfl (lv_at hl 2 rfl) ?_
  refine lv_icmp_ge (tgt := 21) hx hb dX11_copies_4 (by decide) (fun c_7 => absurd c_7 (by decide)) (fun _ => ?_)
  refine lv_aload_n hx hb dX11_copies_7 rfl (lv_at hl 1 rfl) ?_
  refine lv_iload_n hx hb dX11_copies_8 rfl (lv_at hl 0 rfl) ?_
  refine lv_aload_n hx hb dX11_copies_9 rfl (lv_at hl 1 rfl) ?_
  refine lv_iload_n hx hb dX11_copies_10 rfl (lv_at hl 2 rfl) ?_
  refine lv_iload_n hx hb dX11_copies_11 rfl (lv_at hl 0 rfl) ?_
  refine lv_iadd hx hb dX11_copies_12 ?_
  refine lv_topi (fun v_8 e_8 => ?_)
  obtain rfl : v_8 = 18 := e_8.trans (by decide)
  refine va_iald hx hb hE.1 hP 0 1 rfl rfl (kk_ix _ _ (by decide)) dX11_copies_13 ?_
  refine lv_topi (fun v_9 e_9 => ?_)
  refine va_iast hx hb hE.1 hP hD hS 0 1 rfl rfl (kk_ix _ _ (by decide)) dX11_copies_14 (fun H locs hP hD hS => ?_)
  obtain ⟨f_10, ef_10⟩ : ∃ z, z = (upd (upd (upd g0 0 v_3) 1 v_6) 2 v_9) := ⟨_, rfl⟩
  have hP : va_P D vwCl [kI cI h0 32 f_10] H := by rw [ef_10]; exact hP
  have hD : va_D A [kI cI h0 32 f_10] := by rw [ef_10]; exact hD
  refine lv_iinc (v := 3) (lv' := [(2, .int 3), (0, .ref h0), (1, .int 16)]) hx hb dX11_copies_15 hl (k := 0) rfl (by decide) (by decide) rfl (fun ls hl => ?_)
  refine lv_goto (tgt := 2) hx hb dX11_copies_18 (by decide) ?_
  refine lv_iload_n hx hb dX11_copies_2 rfl (lv_at hl 0 rfl) ?_
  refine lv_iload_n hx hb dX11_copies_3 rfl (lv_at hl 2 rfl) ?_
  refine lv_icmp_ge (tgt := 21) hx hb dX11_copies_4 (by decide) (fun c_11 => absurd c_11 (by decide)) (fun _ => ?_)
  refine lv_aload_n hx hb dX11_copies_7 rfl (lv_at hl 1 rfl) ?_
  refine lv_iload_n hx hb dX11_copies_8 rfl (lv_at hl 0 rfl) ?_
  refine lv_aload_n hx hb dX11_copies_9 rfl (lv_at hl 1 rfl) ?_
  refine lv_iload_n hx hb dX11_copies_10 rfl (lv_at hl 2 rfl) ?_
  refine lv_iload_n hx hb dX11_copies_11 rfl (lv_at hl 0 rfl) ?_
  refine lv_iadd hx hb dX11_copies_12 ?_
  refine lv_topi (fun v_12 e_12 => ?_)
  obtain rfl : v_12 = 19 := e_12.trans (by decide)
  refine va_iald hx hb hE.1 hP 0 1 rfl rfl (kk_ix _ _ (by decide)) dX11_copies_13 ?_
  refine lv_topi (fun v_13 e_13 => ?_)
  refine va_iast hx hb hE.1 hP hD hS 0 1 rfl rfl (kk_ix _ _ (by decide)) dX11_copies_14 (fun H locs hP hD hS => ?_)
  have hP : va_P D vwCl [kI cI h0 32 (upd f_10 3 v_13)] H := hP
  have hD : va_D A [kI cI h0 32 (upd f_10 3 v_13)] := hD
  refine lv_iinc (v := 4) (lv' := [(2, .int 4), (0, .ref h0), (1, .int 16)]) hx hb dX11_copies_15 hl (k := 0) rfl (by decide) (by decide) rfl (fun ls hl => ?_)
  refine lv_goto (tgt := 2) hx hb dX11_copies_18 (by decide) ?_
  refine lv_iload_n hx hb dX11_copies_2 rfl (lv_at hl 0 rfl) ?_
  refine lv_iload_n hx hb dX11_copies_3 rfl (lv_at hl 2 rfl) ?_
  refine lv_icmp_ge (tgt := 21) hx hb dX11_copies_4 (by decide) (fun c_14 => absurd c_14 (by decide)) (fun _ => ?_)
  refine lv_aload_n hx hb dX11_copies_7 rfl (lv_at hl 1 rfl) ?_
  refine lv_iload_n hx hb dX11_copies_8 rfl (lv_at hl 0 rfl) ?_
  refine lv_aload_n hx hb dX11_copies_9 rfl (lv_at hl 1 rfl) ?_
  refine lv_iload_n hx hb dX11_copies_10 rfl (lv_at hl 2 rfl) ?_
  refine lv_iload_n hx hb dX11_copies_11 rfl (lv_at hl 0 rfl) ?_
  refine lv_iadd hx hb dX11_copies_12 ?_
  refine lv_topi (fun v_15 e_15 => ?_)
  obtain rfl : v_15 = 20 := e_15.trans (by decide)
  refine va_iald hx hb hE.1 hP 0 1 rfl rfl (kk_ix _ _ (by decide)) dX11_copies_13 ?_
  refine lv_topi (fun v_16 e_16 => ?_)
  refine va_iast hx hb hE.1 hP hD hS 0 1 rfl rfl (kk_ix _ _ (by decide)) dX11_copies_14 (fun H locs hP hD hS => ?_)
  have hP : va_P D vwCl [kI cI h0 32 (upd (upd f_10 3 v_13) 4 v_16)] H := hP
  have hD : va_D A [kI cI h0 32 (upd (upd f_10 3 v_13) 4 v_16)] := hD
  refine lv_iinc (v := 5) (lv' := [(2, .int 5), (0, .ref h0), (1, .int 16)]) hx hb dX11_copies_15 hl (k := 0) rfl (by decide) (by decide) rfl (fun ls hl => ?_)
  refine lv_goto (tgt := 2) hx hb dX11_copies_18 (by decide) ?_
  refine lv_iload_n hx hb dX11_copies_2 rfl (lv_at hl 0 rfl) ?_
  refine lv_iload_n hx hb dX11_copies_3 rfl (lv_at hl 2 rfl) ?_
  refine lv_icmp_ge (tgt := 21) hx hb dX11_copies_4 (by decide) (fun c_17 => absurd c_17 (by decide)) (fun _ => ?_)
  refine lv_aload_n hx hb dX11_copies_7 rfl (lv_at hl 1 rfl) ?_
  refine lv_iload_n hx hb dX11_copies_8 rfl (lv_at hl 0 rfl) ?_
  refine lv_aload_n hx hb dX11_copies_9 rfl (lv_at hl 1 rfl) ?_
  refine lv_iload_n hx hb dX11_copies_10 rfl (lv_at hl 2 rfl) ?_
  refine lv_iload_n hx hb dX11_copies_11 rfl (lv_at hl 0 rfl) ?_
  refine lv_iadd hx hb dX11_copies_12 ?_
  refine lv_topi (fun v_18 e_18 => ?_)
  obtain rfl : v_18 = 21 := e_18.trans (by decide)
  refine va_iald hx hb hE.1 hP 0 1 rfl rfl (kk_ix _ _ (by decide)) dX11_copies_13 ?_
  refine lv_topi (fun v_19 e_19 => ?_)
  refine va_iast hx hb hE.1 hP hD hS 0 1 rfl rfl (kk_ix _ _ (by decide)) dX11_copies_14 (fun H locs hP hD hS => ?_)
  obtain ⟨f_20, ef_20⟩ : ∃ z, z = (upd (upd (upd f_10 3 v_13) 4 v_16) 5 v_19) := ⟨_, rfl⟩
  have hP : va_P D vwCl [kI cI h0 32 f_20] H := by rw [ef_20]; exact hP
  have hD : va_D A [kI cI h0 32 f_20] := by rw [ef_20]; exact hD
  refine lv_iinc (v := 6) (lv' := [(2, .int 6), (0, .ref h0), (1, .int 16)]) hx hb dX11_copies_15 hl (k := 0) rfl (by decide) (by decide) rfl (fun ls hl => ?_)
  refine lv_goto (tgt := 2) hx hb dX11_copies_18 (by decide) ?_
  refine lv_iload_n hx hb dX11_copies_2 rfl (lv_at hl 0 rfl) ?_
  refine lv_iload_n hx hb dX11_copies_3 rfl (lv_at hl 2 rfl) ?_
  refine lv_icmp_ge (tgt := 21) hx hb dX11_copies_4 (by decide) (fun c_21 => absurd c_21 (by decide)) (fun _ => ?_)
  refine lv_aload_n hx hb dX11_copies_7 rfl (lv_at hl 1 rfl) ?_
  refine lv_iload_n hx hb dX11_copies_8 rfl (lv_at hl 0 rfl) ?_
  refine lv_aload_n hx hb dX11_copies_9 rfl (lv_at hl 1 rfl) ?_
  refine lv_iload_n hx hb dX11_copies_10 rfl (lv_at hl 2 rfl) ?_
  refine lv_iload_n hx hb dX11_copies_11 rfl (lv_at hl 0 rfl) ?_
  refine lv_iadd hx hb dX11_copies_12 ?_
  refine lv_topi (fun v_22 e_22 => ?_)
  obtain rfl : v_22 = 22 := e_22.trans (by decide)
  refine va_iald hx hb hE.1 hP 0 1 rfl rfl (kk_ix _ _ (by decide)) dX11_copies_13 ?_
  refine lv_topi (fun v_23 e_23 => ?_)
  refine va_iast hx hb hE.1 hP hD hS 0 1 rfl rfl (kk_ix _ _ (by decide)) dX11_copies_14 (fun H locs hP hD hS => ?_)
  have hP : va_P D vwCl [kI cI h0 32 (upd f_20 6 v_23)] H := hP
  have hD : va_D A [kI cI h0 32 (upd f_20 6 v_23)] := hD
  refine lv_iinc (v := 7) (lv' := [(2, .int 7), (0, .ref h0), (1, .int 16)]) hx hb dX11_copies_15 hl (k := 0) rfl (by decide) (by decide) rfl (fun ls hl => ?_)
  refine lv_goto (tgt := 2) hx hb dX11_copies_18 (by decide) ?_
  refine lv_iload_n hx hb dX11_copies_2 rfl (lv_at hl 0 rfl) ?_
  refine lv_iload_n hx hb dX11_copies_3 rfl (lv_at hl 2 rfl) ?_
  refine lv_icmp_ge (tgt := 21) hx hb dX11_copies_4 (by decide) (fun c_24 => absurd c_24 (by decide)) (fun _ => ?_)
  refine lv_aload_n hx hb dX11_copies_7 rfl (lv_at hl 1 rfl) ?_
  refine lv_iload_n hx hb dX11_copies_8 rfl (lv_at hl 0 rfl) ?_
  refine lv_aload_n hx hb dX11_copies_9 rfl (lv_at hl 1 rfl) ?_
  refine lv_iload_n hx hb dX11_copies_10 rfl (lv_at hl 2 rfl) ?_
  refine lv_iload_n hx hb dX11_copies_11 rfl (lv_at hl 0 rfl) ?_
  refine lv_iadd hx hb dX11_copies_12 ?_
  refine lv_topi (fun v_25 e_25 => ?_)
  obtain rfl : v_25 = 23 := e_25.trans (by decide)
  refine va_iald hx hb hE.1 hP 0 1 rfl rfl (kk_ix _ _ (by decide)) dX11_copies_13 ?_
  refine lv_topi (fun v_26 e_26 => ?_)
  refine va_iast hx hb hE.1 hP hD hS 0 1 rfl rfl (kk_ix _ _ (by decide)) dX11_copies_14 (fun H locs hP hD hS => ?_)
  have hP : va_P D vwCl [kI cI h0 32 (upd (upd f_20 6 v_23) 7 v_26)] H := hP
  have hD : va_D A [kI cI h0 32 (upd (upd f_20 6 v_23) 7 v_26)] := hD
  refine lv_iinc (v := 8) (lv' := [(2, .int 8), (0, .ref h0), (1, .int 16)]) hx hb dX11_copies_15 hl (k := 0) rfl (by decide) (by decide) rfl (fun ls hl => ?_)
  refine lv_goto (tgt := 2) hx hb dX11_copies_18 (by decide) ?_
  refine lv_iload_n hx hb dX11_copies_2 rfl (lv_at hl 0 rfl) ?_
  refine lv_iload_n hx hb dX11_copies_3 rfl (lv_at hl 2 rfl) ?_
  refine lv_icmp_ge (tgt := 21) hx hb dX11_copies_4 (by decide) (fun c_27 => absurd c_27 (by decide)) (fun _ => ?_)
  refine lv_aload_n hx hb dX11_copies_7 rfl (lv_at hl 1 rfl) ?_
  refine lv_iload_n hx hb dX11_copies_8 rfl (lv_at hl 0 rfl) ?_
  refine lv_aload_n hx hb dX11_copies_9 rfl (lv_at hl 1 rfl) ?_
  refine lv_iload_n hx hb dX11_copies_10 rfl (lv_at hl 2 rfl) ?_
  refine lv_iload_n hx hb dX11_copies_11 rfl (lv_at hl 0 rfl) ?_
  refine lv_iadd hx hb dX11_copies_12 ?_
  refine lv_topi (fun v_28 e_28 => ?_)
  obtain rfl : v_28 = 24 := e_28.trans (by decide)
  refine va_iald hx hb hE.1 hP 0 1 rfl rfl (kk_ix _ _ (by decide)) dX11_copies_13 ?_
  refine lv_topi (fun v_29 e_29 => ?_)
  refine va_iast hx hb hE.1 hP hD hS 0 1 rfl rfl (kk_ix _ _ (by decide)) dX11_copies_14 (fun H locs hP hD hS => ?_)
  obtain ⟨f_30, ef_30⟩ : ∃ z, z = (upd (upd (upd f_20 6 v_23) 7 v_26) 8 v_29) := ⟨_, rfl⟩
  have hP : va_P D vwCl [kI cI h0 32 f_30] H := by rw [ef_30]; exact hP
  have hD : va_D A [kI cI h0 32 f_30] := by rw [ef_30]; exact hD
  refine lv_iinc (v := 9) (lv' := [(2, .int 9), (0, .ref h0), (1, .int 16)]) hx hb dX11_copies_15 hl (k := 0) rfl (by decide) (by decide) rfl (fun ls hl => ?_)
  refine lv_goto (tgt := 2) hx hb dX11_copies_18 (by decide) ?_
  refine lv_iload_n hx hb dX11_copies_2 rfl (lv_at hl 0 rfl) ?_
  refine lv_iload_n hx hb dX11_copies_3 rfl (lv_at hl 2 rfl) ?_
  refine lv_icmp_ge (tgt := 21) hx hb dX11_copies_4 (by decide) (fun c_31 => absurd c_31 (by decide)) (fun _ => ?_)
  refine lv_aload_n hx hb dX11_copies_7 rfl (lv_at hl 1 rfl) ?_
  refine lv_iload_n hx hb dX11_copies_8 rfl (lv_at hl 0 rfl) ?_
  refine lv_aload_n hx hb dX11_copies_9 rfl (lv_at hl 1 rfl) ?_
  refine lv_iload_n hx hb dX11_copies_10 rfl (lv_at hl 2 rfl) ?_
  refine lv_iload_n hx hb dX11_copies_11 rfl (lv_at hl 0 rfl) ?_
  refine lv_iadd hx hb dX11_copies_12 ?_
  refine lv_topi (fun v_32 e_32 => ?_)
  obtain rfl : v_32 = 25 := e_32.trans (by decide)
  refine va_iald hx hb hE.1 hP 0 1 rfl rfl (kk_ix _ _ (by decide)) dX11_copies_13 ?_
  refine lv_topi (fun v_33 e_33 => ?_)
  refine va_iast hx hb hE.1 hP hD hS 0 1 rfl rfl (kk_ix _ _ (by decide)) dX11_copies_14 (fun H locs hP hD hS => ?_)
  have hP : va_P D vwCl [kI cI h0 32 (upd f_30 9 v_33)] H := hP
  have hD : va_D A [kI cI h0 32 (upd f_30 9 v_33)] := hD
  refine lv_iinc (v := 10) (lv' := [(2, .int 10), (0, .ref h0), (1, .int 16)]) hx hb dX11_copies_15 hl (k := 0) rfl (by decide) (by decide) rfl (fun ls hl => ?_)
  refine lv_goto (tgt := 2) hx hb dX11_copies_18 (by decide) ?_
  refine lv_iload_n hx hb dX11_copies_2 rfl (lv_at hl 0 rfl) ?_
  refine lv_iload_n hx hb dX11_copies_3 rfl (lv_at hl 2 rfl) ?_
  refine lv_icmp_ge (tgt := 21) hx hb dX11_copies_4 (by decide) (fun c_34 => absurd c_34 (by decide)) (fun _ => ?_)
  refine lv_aload_n hx hb dX11_copies_7 rfl (lv_at hl 1 rfl) ?_
  refine lv_iload_n hx hb dX11_copies_8 rfl (lv_at hl 0 rfl) ?_
  refine lv_aload_n hx hb dX11_copies_9 rfl (lv_at hl 1 rfl) ?_
  refine lv_iload_n hx hb dX11_copies_10 rfl (lv_at hl 2 rfl) ?_
  refine lv_iload_n hx hb dX11_copies_11 rfl (lv_at hl 0 rfl) ?_
  refine lv_iadd hx hb dX11_copies_12 ?_
  refine lv_topi (fun v_35 e_35 => ?_)
  obtain rfl : v_35 = 26 := e_35.trans (by decide)
  refine va_iald hx hb hE.1 hP 0 1 rfl rfl (kk_ix _ _ (by decide)) dX11_copies_13 ?_
  refine lv_topi (fun v_36 e_36 => ?_)
  refine va_iast hx hb hE.1 hP hD hS 0 1 rfl rfl (kk_ix _ _ (by decide)) dX11_copies_14 (fun H locs hP hD hS => ?_)
  obtain ⟨f_37, ef_37⟩ : ∃ z, z = (upd (upd f_30 9 v_33) 10 v_36) := ⟨_, rfl⟩
  have hP : va_P D vwCl [kI cI h0 32 f_37] H := by rw [ef_37]; exact hP
  have hD : va_D A [kI cI h0 32 f_37] := by rw [ef_37]; exact hD
  refine lv_iinc (v := 11) (lv' := [(2, .int 11), (0, .ref h0), (1, .int 16)]) hx hb dX11_copies_15 hl (k := 0) rfl (by decide) (by decide) rfl (fun ls hl => ?_)
  refine lv_goto (tgt := 2) hx hb dX11_copies_18 (by decide) ?_
  refine lv_iload_n hx hb dX11_copies_2 rfl (lv_at hl 0 rfl) ?_
  refine lv_iload_n hx hb dX11_copies_3 rfl (lv_at hl 2 rfl) ?_
  refine lv_icmp_ge (tgt := 21) hx hb dX11_copies_4 (by decide) (fun c_38 => absurd c_38 (by decide)) (fun _ => ?_)
  refine lv_aload_n hx hb dX11_copies_7 rfl (lv_at hl 1 rfl) ?_
  refine lv_iload_n hx hb dX11_copies_8 rfl (lv_at hl 0 rfl) ?_
  refine lv_aload_n hx hb dX11_copies_9 rfl (lv_at hl 1 rfl) ?_
  refine lv_iload_n hx hb dX11_copies_10 rfl (lv_at hl 2 rfl) ?_
  refine lv_iload_n hx hb dX11_copies_11 rfl (lv_at hl 0 rfl) ?_
  refine lv_iadd hx hb dX11_copies_12 ?_
  refine lv_topi (fun v_39 e_39 => ?_)
  obtain rfl : v_39 = 27 := e_39.trans (by decide)
  refine va_iald hx hb hE.1 hP 0 1 rfl rfl (kk_ix _ _ (by decide)) dX11_copies_13 ?_
  refine lv_topi (fun v_40 e_40 => ?_)
  refine va_iast hx hb hE.1 hP hD hS 0 1 rfl rfl (kk_ix _ _ (by decide)) dX11_copies_14 (fun H locs hP hD hS => ?_)
  have hP : va_P D vwCl [kI cI h0 32 (upd f_37 11 v_40)] H := hP
  have hD : va_D A [kI cI h0 32 (upd f_37 11 v_40)] := hD
  refine lv_iinc (v := 12) (lv' := [(2, .int 12), (0, .ref h0), (1, .int 16)]) hx hb dX11_copies_15 hl (k := 0) rfl (by decide) (by decide) rfl (fun ls hl => ?_)
  refine lv_goto (tgt := 2) hx hb dX11_copies_18 (by decide) ?_
  refine lv_iload_n hx hb dX11_copies_2 rfl (lv_at hl 0 rfl) ?_
  refine lv_iload_n hx hb dX11_copies_3 rfl (lv_at hl 2 rfl) ?_
  refine lv_icmp_ge (tgt := 21) hx hb dX11_copies_4 (by decide) (fun c_41 => absurd c_41 (by decide)) (fun _ => ?_)
  refine lv_aload_n hx hb dX11_copies_7 rfl (lv_at hl 1 rfl) ?_
  refine lv_iload_n hx hb dX11_copies_8 rfl (lv_at hl 0 rfl) ?_
  refine lv_aload_n hx hb dX11_copies_9 rfl (lv_at hl 1 rfl) ?_
  refine lv_iload_n hx hb dX11_copies_10 rfl (lv_at hl 2 rfl) ?_
  refine lv_iload_n hx hb dX11_copies_11 rfl (lv_at hl 0 rfl) ?_
  refine lv_iadd hx hb dX11_copies_12 ?_
  refine lv_topi (fun v_42 e_42 => ?_)
  obtain rfl : v_42 = 28 := e_42.trans (by decide)
  refine va_iald hx hb hE.1 hP 0 1 rfl rfl (kk_ix _ _ (by decide)) dX11_copies_13 ?_
  refine lv_topi (fun v_43 e_43 => ?_)
  refine va_iast hx hb hE.1 hP hD hS 0 1 rfl rfl (kk_ix _ _ (by decide)) dX11_copies_14 (fun H locs hP hD hS => ?_)
  obtain ⟨f_44, ef_44⟩ : ∃ z, z = (upd (upd f_37 11 v_40) 12 v_43) := ⟨_, rfl⟩
  have hP : va_P D vwCl [kI cI h0 32 f_44] H := by rw [ef_44]; exact hP
  have hD : va_D A [kI cI h0 32 f_44] := by rw [ef_44]; exact hD
  refine lv_iinc (v := 13) (lv' := [(2, .int 13), (0, .ref h0), (1, .int 16)]) hx hb dX11_copies_15 hl (k := 0) rfl (by decide) (by decide) rfl (fun ls hl => ?_)
  refine lv_goto (tgt := 2) hx hb dX11_copies_18 (by decide) ?_
  refine lv_iload_n hx hb dX11_copies_2 rfl (lv_at hl 0 rfl) ?_
  refine lv_iload_n hx hb dX11_copies_3 rfl (lv_at hl 2 rfl) ?_
  refine lv_icmp_ge (tgt := 21) hx hb dX11_copies_4 (by decide) (fun c_45 => absurd c_45 (by decide)) (fun _ => ?_)
  refine lv_aload_n hx hb dX11_copies_7 rfl (lv_at hl 1 rfl) ?_
  refine lv_iload_n hx hb dX11_copies_8 rfl (lv_at hl 0 rfl) ?_
  refine lv_aload_n hx hb dX11_copies_9 rfl (lv_at hl 1 rfl) ?_
  refine lv_iload_n hx hb dX11_copies_10 rfl (lv_at hl 2 rfl) ?_
  refine lv_iload_n hx hb dX11_copies_11 rfl (lv_at hl 0 rfl) ?_
  refine lv_iadd hx hb dX11_copies_12 ?_
  refine lv_topi (fun v_46 e_46 => ?_)
  obtain rfl : v_46 = 29 := e_46.trans (by decide)
  refine va_iald hx hb hE.1 hP 0 1 rfl rfl (kk_ix _ _ (by decide)) dX11_copies_13 ?_
  refine lv_topi (fun v_47 e_47 => ?_)
  refine va_iast hx hb hE.1 hP hD hS 0 1 rfl rfl (kk_ix _ _ (by decide)) dX11_copies_14 (fun H locs hP hD hS => ?_)
  have hP : va_P D vwCl [kI cI h0 32 (upd f_44 13 v_47)] H := hP
  have hD : va_D A [kI cI h0 32 (upd f_44 13 v_47)] := hD
  refine lv_iinc (v := 14) (lv' := [(2, .int 14), (0, .ref h0), (1, .int 16)]) hx hb dX11_copies_15 hl (k := 0) rfl (by decide) (by decide) rfl (fun ls hl => ?_)
  refine lv_goto (tgt := 2) hx hb dX11_copies_18 (by decide) ?_
  refine lv_iload_n hx hb dX11_copies_2 rfl (lv_at hl 0 rfl) ?_
  refine lv_iload_n hx hb dX11_copies_3 rfl (lv_at hl 2 rfl) ?_
  refine lv_icmp_ge (tgt := 21) hx hb dX11_copies_4 (by decide) (fun c_48 => absurd c_48 (by decide)) (fun _ => ?_)
  refine lv_aload_n hx hb dX11_copies_7 rfl (lv_at hl 1 rfl) ?_
  refine lv_iload_n hx hb dX11_copies_8 rfl (lv_at hl 0 rfl) ?_
  refine lv_aload_n hx hb dX11_copies_9 rfl (lv_at hl 1 rfl) ?_
  refine lv_iload_n hx hb dX11_copies_10 rfl (lv_at hl 2 rfl) ?_
  refine lv_iload_n hx hb dX11_copies_11 rfl (lv_at hl 0 rfl) ?_
  refine lv_iadd hx hb dX11_copies_12 ?_
  refine lv_topi (fun v_49 e_49 => ?_)
  obtain rfl : v_49 = 30 := e_49.trans (by decide)
  refine va_iald hx hb hE.1 hP 0 1 rfl rfl (kk_ix _ _ (by decide)) dX11_copies_13 ?_
  refine lv_topi (fun v_50 e_50 => ?_)
  refine va_iast hx hb hE.1 hP hD hS 0 1 rfl rfl (kk_ix _ _ (by decide)) dX11_copies_14 (fun H locs hP hD hS => ?_)
  obtain ⟨f_51, ef_51⟩ : ∃ z, z = (upd (upd f_44 13 v_47) 14 v_50) := ⟨_, rfl⟩
  have hP : va_P D vwCl [kI cI h0 32 f_51] H := by rw [ef_51]; exact hP
  have hD : va_D A [kI cI h0 32 f_51] := by rw [ef_51]; exact hD
  refine lv_iinc (v := 15) (lv' := [(2, .int 15), (0, .ref h0), (1, .int 16)]) hx hb dX11_copies_15 hl (k := 0) rfl (by decide) (by decide) rfl (fun ls hl => ?_)
  refine lv_goto (tgt := 2) hx hb dX11_copies_18 (by decide) ?_
  refine lv_iload_n hx hb dX11_copies_2 rfl (lv_at hl 0 rfl) ?_
  refine lv_iload_n hx hb dX11_copies_3 rfl (lv_at hl 2 rfl) ?_
  refine lv_icmp_ge (tgt := 21) hx hb dX11_copies_4 (by decide) (fun c_52 => absurd c_52 (by decide)) (fun _ => ?_)
  refine lv_aload_n hx hb dX11_copies_7 rfl (lv_at hl 1 rfl) ?_
  refine lv_iload_n hx hb dX11_copies_8 rfl (lv_at hl 0 rfl) ?_
  refine lv_aload_n hx hb dX11_copies_9 rfl (lv_at hl 1 rfl) ?_
  refine lv_iload_n hx hb dX11_copies_10 rfl (lv_at hl 2 rfl) ?_
  refine lv_iload_n hx hb dX11_copies_11 rfl (lv_at hl 0 rfl) ?_
  refine lv_iadd hx hb dX11_copies_12 ?_
  refine lv_topi (fun v_53 e_53 => ?_)
  obtain rfl : v_53 = 31 := e_53.trans (by decide)
  refine va_iald hx hb hE.1 hP 0 1 rfl rfl (kk_ix _ _ (by decide)) dX11_copies_13 ?_
  refine lv_topi (fun v_54 e_54 => ?_)
  refine va_iast hx hb hE.1 hP hD hS 0 1 rfl rfl (kk_ix _ _ (by decide)) dX11_copies_14 (fun H locs hP hD hS => ?_)
  have hP : va_P D vwCl [kI cI h0 32 (upd f_51 15 v_54)] H := hP
  have hD : va_D A [kI cI h0 32 (upd f_51 15 v_54)] := hD
  refine lv_iinc (v := 16) (lv' := [(2, .int 16), (0, .ref h0), (1, .int 16)]) hx hb dX11_copies_15 hl (k := 0) rfl (by decide) (by decide) rfl (fun ls hl => ?_)
  refine lv_goto (tgt := 2) hx hb dX11_copies_18 (by decide) ?_
  refine lv_iload_n hx hb dX11_copies_2 rfl (lv_at hl 0 rfl) ?_
  refine lv_iload_n hx hb dX11_copies_3 rfl (lv_at hl 2 rfl) ?_
  refine lv_icmp_ge (tgt := 21) hx hb dX11_copies_4 (by decide) (fun _ => ?_) (fun c_55 => absurd c_55 (by decide))
  exact kk_ret_v ((fun i => [].getD i 0), (fun i => [(upd f_51 15 v_54)].getD i (fun _ => 0)), (fun i => [].getD i (fun _ => 0)), (fun i => [].getD i 0)) hx hb hr hlocks trivial (hP.sub [0] rfl) (hD.sub [0] (by decide +kernel) rfl) hS dX11_copies_21 (Nat.le_of_ble_eq_true rfl) (Nat.le_of_ble_eq_true rfl)
set_option maxHeartbeats 4000000 in
set_option maxRecDepth 100000 in
theorem c_X11_copies_3 (l : Launch) (D : va_G) (cB cI cJ cD : ClassId) (h0 : Nat) (g0 : Nat → Int32) (sz : Nat) : Met l yX11_copies (kk_W yX11_copies cX11_copies 3 none) ({ frames := 0, cells := 0, slots := 0, locals := 0 }) (va_Pc [.ref h0, .int 24] (kk_pre D cB cI cJ cD [kI cI h0 48 g0] sz)) (kk_Qv D (fun (u : (Nat → Nat) × (Nat → Nat → Int32) × (Nat → Nat → Int64) × (Nat → Int32)) => True) (fun u => [kI cI h0 48 (u.2.1 0)]) (va_A [kI cI h0 48 g0] sz)) 0 0 (va_A [kI cI h0 48 g0] sz) := by
  refine kk_start (y := yX11_copies) (maxL := 3) (av := [.ref h0, .int 24]) (Qc := fun A => kk_Qv D (fun (u : (Nat → Nat) × (Nat → Nat → Int32) × (Nat → Nat → Int64) × (Nat → Int32)) => True) (fun u => [kI cI h0 48 (u.2.1 0)]) A) (by decide) (Nat.le_of_ble_eq_true rfl) ?_
  intro p e s m below meth c ls A hx hb hr hml hown hts hE hlocks hin hsz hP hD hA hS hl
  have hown : s.vm.findClass RX11 = some m.cls := hown
  have hl : lv_has ls 3 [(0, .ref h0), (1, .int 24)] := hl
  refine lv_iconst (v := 0) hx hb dX11_copies_0 (by decide) ?_
  refine lv_istore_n (lv' := [(2, .int 0), (0, .ref h0), (1, .int 24)]) hx hb dX11_copies_1 rfl hl (by decide) rfl (fun ls hl => ?_)
  refine lv_iload_n hx hb dX11_copies_2 rfl (lv_at hl 0 rfl) ?_
  refine lv_iload_n hx hb dX11_copies_3 rfl (lv_at hl 2 rfl) ?_
  refine lv_icmp_ge (tgt := 21) hx hb dX11_copies_4 (by decide) (fun c_1 => absurd c_1 (by decide)) (fun _ => ?_)
  refine lv_aload_n hx hb dX11_copies_7 rfl (lv_at hl 1 rfl) ?_
  refine lv_iload_n hx hb dX11_copies_8 rfl (lv_at hl 0 rfl) ?_
  refine lv_aload_n hx hb dX11_copies_9 rfl (lv_at hl 1 rfl) ?_
  refine lv_iload_n hx hb dX11_copies_10 rfl (lv_at hl 2 rfl) ?_
  refine lv_iload_n hx hb dX11_copies_11 rfl (lv_at hl 0 rfl) ?_
  refine lv_iadd hx hb dX11_copies_12 ?_
  refine lv_topi (fun v_2 e_2 => ?_)
  obtain rfl : v_2 = 24 := e_2.trans (by decide)
  refine va_iald hx hb hE.1 hP 0 1 rfl rfl (kk_ix _ _ (by decide)) dX11_copies_13 ?_
  refine lv_topi (fun v_3 e_3 => ?_)
  refine va_iast hx hb hE.1 hP hD hS 0 1 rfl rfl (kk_ix _ _ (by decide)) dX11_copies_14 (fun H locs hP hD hS => ?_)
  have hP : va_P D vwCl [kI cI h0 48 (upd g0 0 v_3)] H := hP
  have hD : va_D A [kI cI h0 48 (upd g0 0 v_3)] := hD
  refine lv_iinc (v := 1) (lv' := [(2, .int 1), (0, .ref h0), (1, .int 24)]) hx hb dX11_copies_15 hl (k := 0) rfl (by decide) (by decide) rfl (fun ls hl => ?_)
  refine lv_goto (tgt := 2) hx hb dX11_copies_18 (by decide) ?_
  refine lv_iload_n hx hb dX11_copies_2 rfl (lv_at hl 0 rfl) ?_
  refine lv_iload_n hx hb dX11_copies_3 rfl (lv_at hl 2 rfl) ?_
  refine lv_icmp_ge (tgt := 21) hx hb dX11_copies_4 (by decide) (fun c_4 => absurd c_4 (by decide)) (fun _ => ?_)
  refine lv_aload_n hx hb dX11_copies_7 rfl (lv_at hl 1 rfl) ?_
  refine lv_iload_n hx hb dX11_copies_8 rfl (lv_at hl 0 rfl) ?_
  refine lv_aload_n hx hb dX11_copies_9 rfl (lv_at hl 1 rfl) ?_
  refine lv_iload_n hx hb dX11_copies_10 rfl (lv_at hl 2 rfl) ?_
  refine lv_iload_n hx hb dX11_copies_11 rfl (lv_at hl 0 rfl) ?_
  refine lv_iadd hx hb dX11_copies_12 ?_
  refine lv_topi (fun v_5 e_5 => ?_)
  obtain rfl : v_5 = 25 := e_5.trans (by decide)
  refine va_iald hx hb hE.1 hP 0 1 rfl rfl (kk_ix _ _ (by decide)) dX11_copies_13 ?_
  refine lv_topi (fun v_6 e_6 => ?_)
  refine va_iast hx hb hE.1 hP hD hS 0 1 rfl rfl (kk_ix _ _ (by decide)) dX11_copies_14 (fun H locs hP hD hS => ?_)
  have hP : va_P D vwCl [kI cI h0 48 (upd (upd g0 0 v_3) 1 v_6)] H := hP
  have hD : va_D A [kI cI h0 48 (upd (upd g0 0 v_3) 1 v_6)] := hD
  refine lv_iinc (v := 2) (lv' := [(2, .int 2), (0, .ref h0), (1, .int 24)]) hx hb dX11_copies_15 hl (k := 0) rfl (by decide) (by decide) rfl (fun ls hl => ?_)
  refine lv_goto (tgt := 2) hx hb dX11_copies_18 (by decide) ?_
  refine lv_iload_n hx hb dX11_copies_2 rfl (lv_at hl 0 rfl) ?_
  refine lv_iload_n hx hb dX11_copies_3 rfl (lv_at hl 2 rfl) ?_
  refine lv_icmp_ge (tgt := 21) hx hb dX11_copies_4 (by decide) (fun c_7 => absurd c_7 (by decide)) (fun _ => ?_)
  refine lv_aload_n hx hb dX11_copies_7 rfl (lv_at hl 1 rfl) ?_
  refine lv_iload_n hx hb dX11_copies_8 rfl (lv_at hl 0 rfl) ?_
  refine lv_aload_n hx hb dX11_copies_9 rfl (lv_at hl 1 rfl) ?_
  refine lv_iload_n hx hb dX11_copies_10 rfl (lv_at hl 2 rfl) ?_
  refine lv_iload_n hx hb dX11_copies_11 rfl (lv_at hl 0 rfl) ?_
  refine lv_iadd hx hb dX11_copies_12 ?_
  refine lv_topi (fun v_8 e_8 => ?_)
  obtain rfl : v_8 = 26 := e_8.trans (by decide)
  refine va_iald hx hb hE.1 hP 0 1 rfl rfl (kk_ix _ _ (by decide)) dX11_copies_13 ?_
  refine lv_topi (fun v_9 e_9 => ?_)
  refine va_iast hx hb hE.1 hP hD hS 0 1 rfl rfl (kk_ix _ _ (by decide)) dX11_copies_14 (fun H locs hP hD hS => ?_)
  obtain ⟨f_10, ef_10⟩ : ∃ z, z = (upd (upd (upd g0 0 v_3) 1 v_6) 2 v_9) := ⟨_, rfl⟩
  have hP : va_P D vwCl [kI cI h0 48 f_10] H := by rw [ef_10]; exact hP
  have hD : va_D A [kI cI h0 48 f_10] := by rw [ef_10]; exact hD
  refine lv_iinc (v := 3) (lv' := [(2, .int 3), (0, .ref h0), (1, .int 24)]) hx hb dX11_copies_15 hl (k := 0) rfl (by decide) (by decide) rfl (fun ls hl => ?_)
  refine lv_goto (tgt := 2) hx hb dX11_copies_18 (by decide) ?_
  refine lv_iload_n hx hb dX11_copies_2 rfl (lv_at hl 0 rfl) ?_
  refine lv_iload_n hx hb dX11_copies_3 rfl (lv_at hl 2 rfl) ?_
  refine lv_icmp_ge (tgt := 21) hx hb dX11_copies_4 (by decide) (fun c_11 => absurd c_11 (by decide)) (fun _ => ?_)
  refine lv_aload_n hx hb dX11_copies_7 rfl (lv_at hl 1 rfl) ?_
  refine lv_iload_n hx hb dX11_copies_8 rfl (lv_at hl 0 rfl) ?_
  refine lv_aload_n hx hb dX11_copies_9 rfl (lv_at hl 1 rfl) ?_
  refine lv_iload_n hx hb dX11_copies_10 rfl (lv_at hl 2 rfl) ?_
  refine lv_iload_n hx hb dX11_copies_11 rfl (lv_at hl 0 rfl) ?_
  refine lv_iadd hx hb dX11_copies_12 ?_
  refine lv_topi (fun v_12 e_12 => ?_)
  obtain rfl : v_12 = 27 := e_12.trans (by decide)
  refine va_iald hx hb hE.1 hP 0 1 rfl rfl (kk_ix _ _ (by decide)) dX11_copies_13 ?_
  refine lv_topi (fun v_13 e_13 => ?_)
  refine va_iast hx hb hE.1 hP hD hS 0 1 rfl rfl (kk_ix _ _ (by decide)) dX11_copies_14 (fun H locs hP hD hS => ?_)
  have hP : va_P D vwCl [kI cI h0 48 (upd f_10 3 v_13)] H := hP
  have hD : va_D A [kI cI h0 48 (upd f_10 3 v_13)] := hD
  refine lv_iinc (v := 4) (lv' := [(2, .int 4), (0, .ref h0), (1, .int 24)]) hx hb dX11_copies_15 hl (k := 0) rfl (by decide) (by decide) rfl (fun ls hl => ?_)
  refine lv_goto (tgt := 2) hx hb dX11_copies_18 (by decide) ?_
  refine lv_iload_n hx hb dX11_copies_2 rfl (lv_at hl 0 rfl) ?_
  refine lv_iload_n hx hb dX11_copies_3 rfl (lv_at hl 2 rfl) ?_
  refine lv_icmp_ge (tgt := 21) hx hb dX11_copies_4 (by decide) (fun c_14 => absurd c_14 (by decide)) (fun _ => ?_)
  refine lv_aload_n hx hb dX11_copies_7 rfl (lv_at hl 1 rfl) ?_
  refine lv_iload_n hx hb dX11_copies_8 rfl (lv_at hl 0 rfl) ?_
  refine lv_aload_n hx hb dX11_copies_9 rfl (lv_at hl 1 rfl) ?_
  refine lv_iload_n hx hb dX11_copies_10 rfl (lv_at hl 2 rfl) ?_
  refine lv_iload_n hx hb dX11_copies_11 rfl (lv_at hl 0 rfl) ?_
  refine lv_iadd hx hb dX11_copies_12 ?_
  refine lv_topi (fun v_15 e_15 => ?_)
  obtain rfl : v_15 = 28 := e_15.trans (by decide)
  refine va_iald hx hb hE.1 hP 0 1 rfl rfl (kk_ix _ _ (by decide)) dX11_copies_13 ?_
  refine lv_topi (fun v_16 e_16 => ?_)
  refine va_iast hx hb hE.1 hP hD hS 0 1 rfl rfl (kk_ix _ _ (by decide)) dX11_copies_14 (fun H locs hP hD hS => ?_)
  have hP : va_P D vwCl [kI cI h0 48 (upd (upd f_10 3 v_13) 4 v_16)] H := hP
  have hD : va_D A [kI cI h0 48 (upd (upd f_10 3 v_13) 4 v_16)] := hD
  refine lv_iinc (v := 5) (lv' := [(2, .int 5), (0, .ref h0), (1, .int 24)]) hx hb dX11_copies_15 hl (k := 0) rfl (by decide) (by decide) rfl (fun ls hl => ?_)
  refine lv_goto (tgt := 2) hx hb dX11_copies_18 (by decide) ?_
  refine lv_iload_n hx hb dX11_copies_2 rfl (lv_at hl 0 rfl) ?_
  refine lv_iload_n hx hb dX11_copies_3 rfl (lv_at hl 2 rfl) ?_
  refine lv_icmp_ge (tgt := 21) hx hb dX11_copies_4 (by decide) (fun c_17 => absurd c_17 (by decide)) (fun _ => ?_)
  refine lv_aload_n hx hb dX11_copies_7 rfl (lv_at hl 1 rfl) ?_
  refine lv_iload_n hx hb dX11_copies_8 rfl (lv_at hl 0 rfl) ?_
  refine lv_aload_n hx hb dX11_copies_9 rfl (lv_at hl 1 rfl) ?_
  refine lv_iload_n hx hb dX11_copies_10 rfl (lv_at hl 2 rfl) ?_
  refine lv_iload_n hx hb dX11_copies_11 rfl (lv_at hl 0 rfl) ?_
  refine lv_iadd hx hb dX11_copies_12 ?_
  refine lv_topi (fun v_18 e_18 => ?_)
  obtain rfl : v_18 = 29 := e_18.trans (by decide)
  refine va_iald hx hb hE.1 hP 0 1 rfl rfl (kk_ix _ _ (by decide)) dX11_copies_13 ?_
  refine lv_topi (fun v_19 e_19 => ?_)
  refine va_iast hx hb hE.1 hP hD hS 0 1 rfl rfl (kk_ix _ _ (by decide)) dX11_copies_14 (fun H locs hP hD hS => ?_)
  obtain ⟨f_20, ef_20⟩ : ∃ z, z = (upd (upd (upd f_10 3 v_13) 4 v_16) 5 v_19) := ⟨_, rfl⟩
  have hP : va_P D vwCl [kI cI h0 48 f_20] H := by rw [ef_20]; exact hP
  have hD : va_D A [kI cI h0 48 f_20] := by rw [ef_20]; exact hD
  refine lv_iinc (v := 6) (lv' := [(2, .int 6), (0, .ref h0), (1, .int 24)]) hx hb dX11_copies_15 hl (k := 0) rfl (by decide) (by decide) rfl (fun ls hl => ?_)
  refine lv_goto (tgt := 2) hx hb dX11_copies_18 (by decide) ?_
  refine lv_iload_n hx hb dX11_copies_2 rfl (lv_at hl 0 rfl) ?_
  refine lv_iload_n hx hb dX11_copies_3 rfl (lv_at hl 2 rfl) ?_
  refine lv_icmp_ge (tgt := 21) hx hb dX11_copies_4 (by decide) (fun c_21 => absurd c_21 (by decide)) (fun _ => ?_)
  refine lv_aload_n hx hb dX11_copies_7 rfl (lv_at hl 1 rfl) ?_
  refine lv_iload_n hx hb dX11_copies_8 rfl (lv_at hl 0 rfl) ?_
  refine lv_aload_n hx hb dX11_copies_9 rfl (lv_at hl 1 rfl) ?_
  refine lv_iload_n hx hb dX11_copies_10 rfl (lv_at hl 2 rfl) ?_
  refine lv_iload_n hx hb dX11_copies_11 rfl (lv_at hl 0 rfl) ?_
  refine lv_iadd hx hb dX11_copies_12 ?_
  refine lv_topi (fun v_22 e_22 => ?_)
  obtain rfl : v_22 = 30 := e_22.trans (by decide)
  refine va_iald hx hb hE.1 hP 0 1 rfl rfl (kk_ix _ _ (by decide)) dX11_copies_13 ?_
  refine lv_topi (fun v_23 e_23 => ?_)
  refine va_iast hx hb hE.1 hP hD hS 0 1 rfl rfl (kk_ix _ _ (by decide)) dX11_copies_14 (fun H locs hP hD hS => ?_)
  have hP : va_P D vwCl [kI cI h0 48 (upd f_20 6 v_23)] H := hP
  have hD : va_D A [kI cI h0 48 (upd f_20 6 v_23)] := hD
  refine lv_iinc (v := 7) (lv' := [(2, .int 7), (0, .ref h0), (1, .int 24)]) hx hb dX11_copies_15 hl (k := 0) rfl (by decide) (by decide) rfl (fun ls hl => ?_)
  refine lv_goto (tgt := 2) hx hb dX11_copies_18 (by decide) ?_
  refine lv_iload_n hx hb dX11_copies_2 rfl (lv_at hl 0 rfl) ?_
  refine lv_iload_n hx hb dX11_copies_3 rfl (lv_at hl 2 rfl) ?_
  refine lv_icmp_ge (tgt := 21) hx hb dX11_copies_4 (by decide) (fun c_24 => absurd c_24 (by decide)) (fun _ => ?_)
  refine lv_aload_n hx hb dX11_copies_7 rfl (lv_at hl 1 rfl) ?_
  refine lv_iload_n hx hb dX11_copies_8 rfl (lv_at hl 0 rfl) ?_
  refine lv_aload_n hx hb dX11_copies_9 rfl (lv_at hl 1 rfl) ?_
  refine lv_iload_n hx hb dX11_copies_10 rfl (lv_at hl 2 rfl) ?_
  refine lv_iload_n hx hb dX11_copies_11 rfl (lv_at hl 0 rfl) ?_
  refine lv_iadd hx hb dX11_copies_12 ?_
  refine lv_topi (fun v_25 e_25 => ?_)
  obtain rfl : v_25 = 31 := e_25.trans (by decide)
  refine va_iald hx hb hE.1 hP 0 1 rfl rfl (kk_ix _ _ (by decide)) dX11_copies_13 ?_
  refine lv_topi (fun v_26 e_26 => ?_)
  refine va_iast hx hb hE.1 hP hD hS 0 1 rfl rfl (kk_ix _ _ (by decide)) dX11_copies_14 (fun H locs hP hD hS => ?_)
  have hP : va_P D vwCl [kI cI h0 48 (upd (upd f_20 6 v_23) 7 v_26)] H := hP
  have hD : va_D A [kI cI h0 48 (upd (upd f_20 6 v_23) 7 v_26)] := hD
  refine lv_iinc (v := 8) (lv' := [(2, .int 8), (0, .ref h0), (1, .int 24)]) hx hb dX11_copies_15 hl (k := 0) rfl (by decide) (by decide) rfl (fun ls hl => ?_)
  refine lv_goto (tgt := 2) hx hb dX11_copies_18 (by decide) ?_
  refine lv_iload_n hx hb dX11_copies_2 rfl (lv_at hl 0 rfl) ?_
  refine lv_iload_n hx hb dX11_copies_3 rfl (lv_at hl 2 rfl) ?_
  refine lv_icmp_ge (tgt := 21) hx hb dX11_copies_4 (by decide) (fun c_27 => absurd c_27 (by decide)) (fun _ => ?_)
  refine lv_aload_n hx hb dX11_copies_7 rfl (lv_at hl 1 rfl) ?_
  refine lv_iload_n hx hb dX11_copies_8 rfl (lv_at hl 0 rfl) ?_
  refine lv_aload_n hx hb dX11_copies_9 rfl (lv_at hl 1 rfl) ?_
  refine lv_iload_n hx hb dX11_copies_10 rfl (lv_at hl 2 rfl) ?_
  refine lv_iload_n hx hb dX11_copies_11 rfl (lv_at hl 0 rfl) ?_
  refine lv_iadd hx hb dX11_copies_12 ?_
  refine lv_topi (fun v_28 e_28 => ?_)
  obtain rfl : v_28 = 32 := e_28.trans (by decide)
  refine va_iald hx hb hE.1 hP 0 1 rfl rfl (kk_ix _ _ (by decide)) dX11_copies_13 ?_
  refine lv_topi (fun v_29 e_29 => ?_)
  refine va_iast hx hb hE.1 hP hD hS 0 1 rfl rfl (kk_ix _ _ (by decide)) dX11_copies_14 (fun H locs hP hD hS => ?_)
  obtain ⟨f_30, ef_30⟩ : ∃ z, z = (upd (upd (upd f_20 6 v_23) 7 v_26) 8 v_29) := ⟨_, rfl⟩
  have hP : va_P D vwCl [kI cI h0 48 f_30] H := by rw [ef_30]; exact hP
  have hD : va_D A [kI cI h0 48 f_30] := by rw [ef_30]; exact hD
  refine lv_iinc (v := 9) (lv' := [(2, .int 9), (0, .ref h0), (1, .int 24)]) hx hb dX11_copies_15 hl (k := 0) rfl (by decide) (by decide) rfl (fun ls hl => ?_)
  refine lv_goto (tgt := 2) hx hb dX11_copies_18 (by decide) ?_
  refine lv_iload_n hx hb dX11_copies_2 rfl (lv_at hl 0 rfl) ?_
  refine lv_iload_n hx hb dX11_copies_3 rfl (lv_at hl 2 rfl) ?_
  refine lv_icmp_ge (tgt := 21) hx hb dX11_copies_4 (by decide) (fun c_31 => absurd c_31 (by decide)) (fun _ => ?_)
  refine lv_aload_n hx hb dX11_copies_7 rfl (lv_at hl 1 rfl) ?_
  refine lv_iload_n hx hb dX11_copies_8 rfl (lv_at hl 0 rfl) ?_
  refine lv_aload_n hx hb dX11_copies_9 rfl (lv_at hl 1 rfl) ?_
  refine lv_iload_n hx hb dX11_copies_10 rfl (lv_at hl 2 rfl) ?_
  refine lv_iload_n hx hb dX11_copies_11 rfl (lv_at hl 0 rfl) ?_
  refine lv_iadd hx hb dX11_copies_12 ?_
  refine lv_topi (fun v_32 e_32 => ?_)
  obtain rfl : v_32 = 33 := e_32.trans (by decide)
  refine va_iald hx hb hE.1 hP 0 1 rfl rfl (kk_ix _ _ (by decide)) dX11_copies_13 ?_
  refine lv_topi (fun v_33 e_33 => ?_)
  refine va_iast hx hb hE.1 hP hD hS 0 1 rfl rfl (kk_ix _ _ (by decide)) dX11_copies_14 (fun H locs hP hD hS => ?_)
  have hP : va_P D vwCl [kI cI h0 48 (upd f_30 9 v_33)] H := hP
  have hD : va_D A [kI cI h0 48 (upd f_30 9 v_33)] := hD
  refine lv_iinc (v := 10) (lv' := [(2, .int 10), (0, .ref h0), (1, .int 24)]) hx hb dX11_copies_15 hl (k := 0) rfl (by decide) (by decide) rfl (fun ls hl => ?_)
  refine lv_goto (tgt := 2) hx hb dX11_copies_18 (by decide) ?_
  refine lv_iload_n hx hb dX11_copies_2 rfl (lv_at hl 0 rfl) ?_
  refine lv_iload_n hx hb dX11_copies_3 rfl (lv_at hl 2 rfl) ?_
  refine lv_icmp_ge (tgt := 21) hx hb dX11_copies_4 (by decide) (fun c_34 => absurd c_34 (by decide)) (fun _ => ?_)
  refine lv_aload_n hx hb dX11_copies_7 rfl (lv_at hl 1 rfl) ?_
  refine lv_iload_n hx hb dX11_copies_8 rfl (lv_at hl 0 rfl) ?_
  refine lv_aload_n hx hb dX11_copies_9 rfl (lv_at hl 1 rfl) ?_
  refine lv_iload_n hx hb dX11_copies_10 rfl (lv_at hl 2 rfl) ?_
  refine lv_iload_n hx hb dX11_copies_11 rfl (lv_at hl 0 rfl) ?_
  refine lv_iadd hx hb dX11_copies_12 ?_
  refine lv_topi (fun v_35 e_35 => ?_)
  obtain rfl : v_35 = 34 := e_35.trans (by decide)
  refine va_iald hx hb hE.1 hP 0 1 rfl rfl (kk_ix _ _ (by decide)) dX11_copies_13 ?_
  refine lv_topi (fun v_36 e_36 => ?_)
  refine va_iast hx hb hE.1 hP hD hS 0 1 rfl rfl (kk_ix _ _ (by decide)) dX11_copies_14 (fun H locs hP hD hS => ?_)
  obtain ⟨f_37, ef_37⟩ : ∃ z, z = (upd (upd f_30 9 v_33) 10 v_36) := ⟨_, rfl⟩
  have hP : va_P D vwCl [kI cI h0 48 f_37] H := by rw [ef_37]; exact hP
  have hD : va_D A [kI cI h0 48 f_37] := by rw [ef_37]; exact hD
  refine lv_iinc (v := 11) (lv' := [(2, .int 11), (0, .ref h0), (1, .int 24)]) hx hb dX11_copies_15 hl (k := 0) rfl (by decide) (by decide) rfl (fun ls hl => ?_)
  refine lv_goto (tgt := 2) hx hb dX11_copies_18 (by decide) ?_
  refine lv_iload_n hx hb dX11_copies_2 rfl (lv_at hl 0 rfl) ?_
  refine lv_iload_n hx hb dX11_copies_3 rfl (lv_at hl 2 rfl) ?_
  refine lv_icmp_ge (tgt := 21) hx hb dX11_copies_4 (by decide) (fun c_38 => absurd c_38 (by decide)) (fun _ => ?_)
  refine lv_aload_n hx hb dX11_copies_7 rfl (lv_at hl 1 rfl) ?_
  refine lv_iload_n hx hb dX11_copies_8 rfl (lv_at hl 0 rfl) ?_
  refine lv_aload_n hx hb dX11_copies_9 rfl (lv_at hl 1 rfl) ?_
  refine lv_iload_n hx hb dX11_copies_10 rfl (lv_at hl 2 rfl) ?_
  refine lv_iload_n hx hb dX11_copies_11 rfl (lv_at hl 0 rfl) ?_
  refine lv_iadd hx hb dX11_copies_12 ?_
  refine lv_topi (fun v_39 e_39 => ?_)
  obtain rfl : v_39 = 35 := e_39.trans (by decide)
  refine va_iald hx hb hE.1 hP 0 1 rfl rfl (kk_ix _ _ (by decide)) dX11_copies_13 ?_
  refine lv_topi (fun v_40 e_40 => ?_)
  refine va_iast hx hb hE.1 hP hD hS 0 1 rfl rfl (kk_ix _ _ (by decide)) dX11_copies_14 (fun H locs hP hD hS => ?_)
  have hP : va_P D vwCl [kI cI h0 48 (upd f_37 11 v_40)] H := hP
  have hD : va_D A [kI cI h0 48 (upd f_37 11 v_40)] := hD
  refine lv_iinc (v := 12) (lv' := [(2, .int 12), (0, .ref h0), (1, .int 24)]) hx hb dX11_copies_15 hl (k := 0) rfl (by decide) (by decide) rfl (fun ls hl => ?_)
  refine lv_goto (tgt := 2) hx hb dX11_copies_18 (by decide) ?_
  refine lv_iload_n hx hb dX11_copies_2 rfl (lv_at hl 0 rfl) ?_
  refine lv_iload_n hx hb dX11_copies_3 rfl (lv_at hl 2 rfl) ?_
  refine lv_icmp_ge (tgt := 21) hx hb dX11_copies_4 (by decide) (fun c_41 => absurd c_41 (by decide)) (fun _ => ?_)
  refine lv_aload_n hx hb dX11_copies_7 rfl (lv_at hl 1 rfl) ?_
  refine lv_iload_n hx hb dX11_copies_8 rfl (lv_at hl 0 rfl) ?_
  refine lv_aload_n hx hb dX11_copies_9 rfl (lv_at hl 1 rfl) ?_
  refine lv_iload_n hx hb dX11_copies_10 rfl (lv_at hl 2 rfl) ?_
  refine lv_iload_n hx hb dX11_copies_11 rfl (lv_at hl 0 rfl) ?_
  refine lv_iadd hx hb dX11_copies_12 ?_
  refine lv_topi (fun v_42 e_42 => ?_)
  obtain rfl : v_42 = 36 := e_42.trans (by decide)
  refine va_iald hx hb hE.1 hP 0 1 rfl rfl (kk_ix _ _ (by decide)) dX11_copies_13 ?_
  refine lv_topi (fun v_43 e_43 => ?_)
  refine va_iast hx hb hE.1 hP hD hS 0 1 rfl rfl (kk_ix _ _ (by decide)) dX11_copies_14 (fun H locs hP hD hS => ?_)
  obtain ⟨f_44, ef_44⟩ : ∃ z, z = (upd (upd f_37 11 v_40) 12 v_43) := ⟨_, rfl⟩
  have hP : va_P D vwCl [kI cI h0 48 f_44] H := by rw [ef_44]; exact hP
  have hD : va_D A [kI cI h0 48 f_44] := by rw [ef_44]; exact hD
  refine lv_iinc (v := 13) (lv' := [(2, .int 13), (0, .ref h0), (1, .int 24)]) hx hb dX11_copies_15 hl (k := 0) rfl (by decide) (by decide) rfl (fun ls hl => ?_)
  refine lv_goto (tgt := 2) hx hb dX11_copies_18 (by decide) ?_
  refine lv_iload_n hx hb dX11_copies_2 rfl (lv_at hl 0 rfl) ?_
  refine lv_iload_n hx hb dX11_copies_3 rfl (lv_at hl 2 rfl) ?_
  refine lv_icmp_ge (tgt := 21) hx hb dX11_copies_4 (by decide) (fun c_45 => absurd c_45 (by decide)) (fun _ => ?_)
  refine lv_aload_n hx hb dX11_copies_7 rfl (lv_at hl 1 rfl) ?_
  refine lv_iload_n hx hb dX11_copies_8 rfl (lv_at hl 0 rfl) ?_
  refine lv_aload_n hx hb dX11_copies_9 rfl (lv_at hl 1 rfl) ?_
  refine lv_iload_n hx hb dX11_copies_10 rfl (lv_at hl 2 rfl) ?_
  refine lv_iload_n hx hb dX11_copies_11 rfl (lv_at hl 0 rfl) ?_
  refine lv_iadd hx hb dX11_copies_12 ?_
  refine lv_topi (fun v_46 e_46 => ?_)
  obtain rfl : v_46 = 37 := e_46.trans (by decide)
  refine va_iald hx hb hE.1 hP 0 1 rfl rfl (kk_ix _ _ (by decide)) dX11_copies_13 ?_
  refine lv_topi (fun v_47 e_47 => ?_)
  refine va_iast hx hb hE.1 hP hD hS 0 1 rfl rfl (kk_ix _ _ (by decide)) dX11_copies_14 (fun H locs hP hD hS => ?_)
  have hP : va_P D vwCl [kI cI h0 48 (upd f_44 13 v_47)] H := hP
  have hD : va_D A [kI cI h0 48 (upd f_44 13 v_47)] := hD
  refine lv_iinc (v := 14) (lv' := [(2, .int 14), (0, .ref h0), (1, .int 24)]) hx hb dX11_copies_15 hl (k := 0) rfl (by decide) (by decide) rfl (fun ls hl => ?_)
  refine lv_goto (tgt := 2) hx hb dX11_copies_18 (by decide) ?_
  refine lv_iload_n hx hb dX11_copies_2 rfl (lv_at hl 0 rfl) ?_
  refine lv_iload_n hx hb dX11_copies_3 rfl (lv_at hl 2 rfl) ?_
  refine lv_icmp_ge (tgt := 21) hx hb dX11_copies_4 (by decide) (fun c_48 => absurd c_48 (by decide)) (fun _ => ?_)
  refine lv_aload_n hx hb dX11_copies_7 rfl (lv_at hl 1 rfl) ?_
  refine lv_iload_n hx hb dX11_copies_8 rfl (lv_at hl 0 rfl) ?_
  refine lv_aload_n hx hb dX11_copies_9 rfl (lv_at hl 1 rfl) ?_
  refine lv_iload_n hx hb dX11_copies_10 rfl (lv_at hl 2 rfl) ?_
  refine lv_iload_n hx hb dX11_copies_11 rfl (lv_at hl 0 rfl) ?_
  refine lv_iadd hx hb dX11_copies_12 ?_
  refine lv_topi (fun v_49 e_49 => ?_)
  obtain rfl : v_49 = 38 := e_49.trans (by decide)
  refine va_iald hx hb hE.1 hP 0 1 rfl rfl (kk_ix _ _ (by decide)) dX11_copies_13 ?_
  refine lv_topi (fun v_50 e_50 => ?_)
  refine va_iast hx hb hE.1 hP hD hS 0 1 rfl rfl (kk_ix _ _ (by decide)) dX11_copies_14 (fun H locs hP hD hS => ?_)
  obtain ⟨f_51, ef_51⟩ : ∃ z, z = (upd (upd f_44 13 v_47) 14 v_50) := ⟨_, rfl⟩
  have hP : va_P D vwCl [kI cI h0 48 f_51] H := by rw [ef_51]; exact hP
  have hD : va_D A [kI cI h0 48 f_51] := by rw [ef_51]; exact hD
  refine lv_iinc (v := 15) (lv' := [(2, .int 15), (0, .ref h0), (1, .int 24)]) hx hb dX11_copies_15 hl (k := 0) rfl (by decide) (by decide) rfl (fun ls hl => ?_)
  refine lv_goto (tgt := 2) hx hb dX11_copies_18 (by decide) ?_
  refine lv_iload_n hx hb dX11_copies_2 rfl (lv_at hl 0 rfl) ?_
  refine lv_iload_n hx hb dX11_copies_3 rfl (lv_at hl 2 rfl) ?_
  refine lv_icmp_ge (tgt := 21) hx hb dX11_copies_4 (by decide) (fun c_52 => absurd c_52 (by decide)) (fun _ => ?_)
  refine lv_aload_n hx hb dX11_copies_7 rfl (lv_at hl 1 rfl) ?_
  refine lv_iload_n hx hb dX11_copies_8 rfl (lv_at hl 0 rfl) ?_
  refine lv_aload_n hx hb dX11_copies_9 rfl (lv_at hl 1 rfl) ?_
  refine lv_iload_n hx hb dX11_copies_10 rfl (lv_at hl 2 rfl) ?_
  refine lv_iload_n hx hb dX11_copies_11 rfl (lv_at hl 0 rfl) ?_
  refine lv_iadd hx hb dX11_copies_12 ?_
  refine lv_topi (fun v_53 e_53 => ?_)
  obtain rfl : v_53 = 39 := e_53.trans (by decide)
  refine va_iald hx hb hE.1 hP 0 1 rfl rfl (kk_ix _ _ (by decide)) dX11_copies_13 ?_
  refine lv_topi (fun v_54 e_54 => ?_)
  refine va_iast hx hb hE.1 hP hD hS 0 1 rfl rfl (kk_ix _ _ (by decide)) dX11_copies_14 (fun H locs hP hD hS => ?_)
  have hP : va_P D vwCl [kI cI h0 48 (upd f_51 15 v_54)] H := hP
  have hD : va_D A [kI cI h0 48 (upd f_51 15 v_54)] := hD
  refine lv_iinc (v := 16) (lv' := [(2, .int 16), (0, .ref h0), (1, .int 24)]) hx hb dX11_copies_15 hl (k := 0) rfl (by decide) (by decide) rfl (fun ls hl => ?_)
  refine lv_goto (tgt := 2) hx hb dX11_copies_18 (by decide) ?_
  refine lv_iload_n hx hb dX11_copies_2 rfl (lv_at hl 0 rfl) ?_
  refine lv_iload_n hx hb dX11_copies_3 rfl (lv_at hl 2 rfl) ?_
  refine lv_icmp_ge (tgt := 21) hx hb dX11_copies_4 (by decide) (fun c_55 => absurd c_55 (by decide)) (fun _ => ?_)
  refine lv_aload_n hx hb dX11_copies_7 rfl (lv_at hl 1 rfl) ?_
  refine lv_iload_n hx hb dX11_copies_8 rfl (lv_at hl 0 rfl) ?_
  refine lv_aload_n hx hb dX11_copies_9 rfl (lv_at hl 1 rfl) ?_
  refine lv_iload_n hx hb dX11_copies_10 rfl (lv_at hl 2 rfl) ?_
  refine lv_iload_n hx hb dX11_copies_11 rfl (lv_at hl 0 rfl) ?_
  refine lv_iadd hx hb dX11_copies_12 ?_
  refine lv_topi (fun v_56 e_56 => ?_)
  obtain rfl : v_56 = 40 := e_56.trans (by decide)
  refine va_iald hx hb hE.1 hP 0 1 rfl rfl (kk_ix _ _ (by decide)) dX11_copies_13 ?_
  refine lv_topi (fun v_57 e_57 => ?_)
  refine va_iast hx hb hE.1 hP hD hS 0 1 rfl rfl (kk_ix _ _ (by decide)) dX11_copies_14 (fun H locs hP hD hS => ?_)
  obtain ⟨f_58, ef_58⟩ : ∃ z, z = (upd (upd f_51 15 v_54) 16 v_57) := ⟨_, rfl⟩
  have hP : va_P D vwCl [kI cI h0 48 f_58] H := by rw [ef_58]; exact hP
  have hD : va_D A [kI cI h0 48 f_58] := by rw [ef_58]; exact hD
  refine lv_iinc (v := 17) (lv' := [(2, .int 17), (0, .ref h0), (1, .int 24)]) hx hb dX11_copies_15 hl (k := 0) rfl (by decide) (by decide) rfl (fun ls hl => ?_)
  refine lv_goto (tgt := 2) hx hb dX11_copies_18 (by decide) ?_
  refine lv_iload_n hx hb dX11_copies_2 rfl (lv_at hl 0 rfl) ?_
  refine lv_iload_n hx hb dX11_copies_3 rfl (lv_at hl 2 rfl) ?_
  refine lv_icmp_ge (tgt := 21) hx hb dX11_copies_4 (by decide) (fun c_59 => absurd c_59 (by decide)) (fun _ => ?_)
  refine lv_aload_n hx hb dX11_copies_7 rfl (lv_at hl 1 rfl) ?_
  refine lv_iload_n hx hb dX11_copies_8 rfl (lv_at hl 0 rfl) ?_
  refine lv_aload_n hx hb dX11_copies_9 rfl (lv_at hl 1 rfl) ?_
  refine lv_iload_n hx hb dX11_copies_10 rfl (lv_at hl 2 rfl) ?_
  refine lv_iload_n hx hb dX11_copies_11 rfl (lv_at hl 0 rfl) ?_
  refine lv_iadd hx hb dX11_copies_12 ?_
  refine lv_topi (fun v_60 e_60 => ?_)
  obtain rfl : v_60 = 41 := e_60.trans (by decide)
  refine va_iald hx hb hE.1 hP 0 1 rfl rfl (kk_ix _ _ (by decide)) dX11_copies_13 ?_
  refine lv_topi (fun v_61 e_61 => ?_)
  refine va_iast hx hb hE.1 hP hD hS 0 1 rfl rfl (kk_ix _ _ (by decide)) dX11_copies_14 (fun H locs hP hD hS => ?_)
  have hP : va_P D vwCl [kI cI h0 48 (upd f_58 17 v_61)] H := hP
  have hD : va_D A [kI cI h0 48 (upd f_58 17 v_61)] := hD
  refine lv_iinc (v := 18) (lv' := [(2, .int 18), (0, .ref h0), (1, .int 24)]) hx hb dX11_copies_15 hl (k := 0) rfl (by decide) (by decide) rfl (fun ls hl => ?_)
  refine lv_goto (tgt := 2) hx hb dX11_copies_18 (by decide) ?_
  refine lv_iload_n hx hb dX11_copies_2 rfl (lv_at hl 0 rfl) ?_
  refine lv_iload_n hx hb dX11_copies_3 rfl (lv_at hl 2 rfl) ?_
  refine lv_icmp_ge (tgt := 21) hx hb dX11_copies_4 (by decide) (fun c_62 => absurd c_62 (by decide)) (fun _ => ?_)
  refine lv_aload_n hx hb dX11_copies_7 rfl (lv_at hl 1 rfl) ?_
  refine lv_iload_n hx hb dX11_copies_8 rfl (lv_at hl 0 rfl) ?_
  refine lv_aload_n hx hb dX11_copies_9 rfl (lv_at hl 1 rfl) ?_
  refine lv_iload_n hx hb dX11_copies_10 rfl (lv_at hl 2 rfl) ?_
  refine lv_iload_n hx hb dX11_copies_11 rfl (lv_at hl 0 rfl) ?_
  refine lv_iadd hx hb dX11_copies_12 ?_
  refine lv_topi (fun v_63 e_63 => ?_)
  obtain rfl : v_63 = 42 := e_63.trans (by decide)
  refine va_iald hx hb hE.1 hP 0 1 rfl rfl (kk_ix _ _ (by decide)) dX11_copies_13 ?_
  refine lv_topi (fun v_64 e_64 => ?_)
  refine va_iast hx hb hE.1 hP hD hS 0 1 rfl rfl (kk_ix _ _ (by decide)) dX11_copies_14 (fun H locs hP hD hS => ?_)
  obtain ⟨f_65, ef_65⟩ : ∃ z, z = (upd (upd f_58 17 v_61) 18 v_64) := ⟨_, rfl⟩
  have hP : va_P D vwCl [kI cI h0 48 f_65] H := by rw [ef_65]; exact hP
  have hD : va_D A [kI cI h0 48 f_65] := by rw [ef_65]; exact hD
  refine lv_iinc (v := 19) (lv' := [(2, .int 19), (0, .ref h0), (1, .int 24)]) hx hb dX11_copies_15 hl (k := 0) rfl (by decide) (by decide) rfl (fun ls hl => ?_)
  refine lv_goto (tgt := 2) hx hb dX11_copies_18 (by decide) ?_
  refine lv_iload_n hx hb dX11_copies_2 rfl (lv_at hl 0 rfl) ?_
  refine lv_iload_n hx hb dX11_copies_3 rfl (lv_at hl 2 rfl) ?_
  refine lv_icmp_ge (tgt := 21) hx hb dX11_copies_4 (by decide) (fun c_66 => absurd c_66 (by decide)) (fun _ => ?_)
  refine lv_aload_n hx hb dX11_copies_7 rfl (lv_at hl 1 rfl) ?_
  refine lv_iload_n hx hb dX11_copies_8 rfl (lv_at hl 0 rfl) ?_
  refine lv_aload_n hx hb dX11_copies_9 rfl (lv_at hl 1 rfl) ?_
  refine lv_iload_n hx hb dX11_copies_10 rfl (lv_at hl 2 rfl) ?_
  refine lv_iload_n hx hb dX11_copies_11 rfl (lv_at hl 0 rfl) ?_
  refine lv_iadd hx hb dX11_copies_12 ?_
  refine lv_topi (fun v_67 e_67 => ?_)
  obtain rfl : v_67 = 43 := e_67.trans (by decide)
  refine va_iald hx hb hE.1 hP 0 1 rfl rfl (kk_ix _ _ (by decide)) dX11_copies_13 ?_
  refine lv_topi (fun v_68 e_68 => ?_)
  refine va_iast hx hb hE.1 hP hD hS 0 1 rfl rfl (kk_ix _ _ (by decide)) dX11_copies_14 (fun H locs hP hD hS => ?_)
  have hP : va_P D vwCl [kI cI h0 48 (upd f_65 19 v_68)] H := hP
  have hD : va_D A [kI cI h0 48 (upd f_65 19 v_68)] := hD
  refine lv_iinc (v := 20) (lv' := [(2, .int 20), (0, .ref h0), (1, .int 24)]) hx hb dX11_copies_15 hl (k := 0) rfl (by decide) (by decide) rfl (fun ls hl => ?_)
  refine lv_goto (tgt := 2) hx hb dX11_copies_18 (by decide) ?_
  refine lv_iload_n hx hb dX11_copies_2 rfl (lv_at hl 0 rfl) ?_
  refine lv_iload_n hx hb dX11_copies_3 rfl (lv_at hl 2 rfl) ?_
  refine lv_icmp_ge (tgt := 21) hx hb dX11_copies_4 (by decide) (fun c_69 => absurd c_69 (by decide)) (fun _ => ?_)
  refine lv_aload_n hx hb dX11_copies_7 rfl (lv_at hl 1 rfl) ?_
  refine lv_iload_n hx hb dX11_copies_8 rfl (lv_at hl 0 rfl) ?_
  refine lv_aload_n hx hb dX11_copies_9 rfl (lv_at hl 1 rfl) ?_
  refine lv_iload_n hx hb dX11_copies_10 rfl (lv_at hl 2 rfl) ?_
  refine lv_iload_n hx hb dX11_copies_11 rfl (lv_at hl 0 rfl) ?_
  refine lv_iadd hx hb dX11_copies_12 ?_
  refine lv_topi (fun v_70 e_70 => ?_)
  obtain rfl : v_70 = 44 := e_70.trans (by decide)
  refine va_iald hx hb hE.1 hP 0 1 rfl rfl (kk_ix _ _ (by decide)) dX11_copies_13 ?_
  refine lv_topi (fun v_71 e_71 => ?_)
  refine va_iast hx hb hE.1 hP hD hS 0 1 rfl rfl (kk_ix _ _ (by decide)) dX11_copies_14 (fun H locs hP hD hS => ?_)
  obtain ⟨f_72, ef_72⟩ : ∃ z, z = (upd (upd f_65 19 v_68) 20 v_71) := ⟨_, rfl⟩
  have hP : va_P D vwCl [kI cI h0 48 f_72] H := by rw [ef_72]; exact hP
  have hD : va_D A [kI cI h0 48 f_72] := by rw [ef_72]; exact hD
  refine lv_iinc (v := 21) (lv' := [(2, .int 21), (0, .ref h0), (1, .int 24)]) hx hb dX11_copies_15 hl (k := 0) rfl (by decide) (by decide) rfl (fun ls hl => ?_)
  refine lv_goto (tgt := 2) hx hb dX11_copies_18 (by decide) ?_
  refine lv_iload_n hx hb dX11_copies_2 rfl (lv_at hl 0 rfl) ?_
  refine lv_iload_n hx hb dX11_copies_3 rfl (lv_at hl 2 rfl) ?_
  refine lv_icmp_ge (tgt := 21) hx hb dX11_copies_4 (by decide) (fun c_73 => absurd c_73 (by decide)) (fun _ => ?_)
  refine lv_aload_n hx hb dX11_copies_7 rfl (lv_at hl 1 rfl) ?_
  refine lv_iload_n hx hb dX11_copies_8 rfl (lv_at hl 0 rfl) ?_
  refine lv_aload_n hx hb dX11_copies_9 rfl (lv_at hl 1 rfl) ?_
  refine lv_iload_n hx hb dX11_copies_10 rfl (lv_at hl 2 rfl) ?_
  refine lv_iload_n hx hb dX11_copies_11 rfl (lv_at hl 0 rfl) ?_
  refine lv_iadd hx hb dX11_copies_12 ?_
  refine lv_topi (fun v_74 e_74 => ?_)
  obtain rfl : v_74 = 45 := e_74.trans (by decide)
  refine va_iald hx hb hE.1 hP 0 1 rfl rfl (kk_ix _ _ (by decide)) dX11_copies_13 ?_
  refine lv_topi (fun v_75 e_75 => ?_)
  refine va_iast hx hb hE.1 hP hD hS 0 1 rfl rfl (kk_ix _ _ (by decide)) dX11_copies_14 (fun H locs hP hD hS => ?_)
  have hP : va_P D vwCl [kI cI h0 48 (upd f_72 21 v_75)] H := hP
  have hD : va_D A [kI cI h0 48 (upd f_72 21 v_75)] := hD
  refine lv_iinc (v := 22) (lv' := [(2, .int 22), (0, .ref h0), (1, .int 24)]) hx hb dX11_copies_15 hl (k := 0) rfl (by decide) (by decide) rfl (fun ls hl => ?_)
  refine lv_goto (tgt := 2) hx hb dX11_copies_18 (by decide) ?_
  refine lv_iload_n hx hb dX11_copies_2 rfl (lv_at hl 0 rfl) ?_
  refine lv_iload_n hx hb dX11_copies_3 rfl (lv_at hl 2 rfl) ?_
  refine lv_icmp_ge (tgt := 21) hx hb dX11_copies_4 (by decide) (fun c_76 => absurd c_76 (by decide)) (fun _ => ?_)
  refine lv_aload_n hx hb dX11_copies_7 rfl (lv_at hl 1 rfl) ?_
  refine lv_iload_n hx hb dX11_copies_8 rfl (lv_at hl 0 rfl) ?_
  refine lv_aload_n hx hb dX11_copies_9 rfl (lv_at hl 1 rfl) ?_
  refine lv_iload_n hx hb dX11_copies_10 rfl (lv_at hl 2 rfl) ?_
  refine lv_iload_n hx hb dX11_copies_11 rfl (lv_at hl 0 rfl) ?_
  refine lv_iadd hx hb dX11_copies_12 ?_
  refine lv_topi (fun v_77 e_77 => ?_)
  obtain rfl : v_77 = 46 := e_77.trans (by decide)
  refine va_iald hx hb hE.1 hP 0 1 rfl rfl (kk_ix _ _ (by decide)) dX11_copies_13 ?_
  refine lv_topi (fun v_78 e_78 => ?_)
  refine va_iast hx hb hE.1 hP hD hS 0 1 rfl rfl (kk_ix _ _ (by decide)) dX11_copies_14 (fun H locs hP hD hS => ?_)
  obtain ⟨f_79, ef_79⟩ : ∃ z, z = (upd (upd f_72 21 v_75) 22 v_78) := ⟨_, rfl⟩
  have hP : va_P D vwCl [kI cI h0 48 f_79] H := by rw [ef_79]; exact hP
  have hD : va_D A [kI cI h0 48 f_79] := by rw [ef_79]; exact hD
  refine lv_iinc (v := 23) (lv' := [(2, .int 23), (0, .ref h0), (1, .int 24)]) hx hb dX11_copies_15 hl (k := 0) rfl (by decide) (by decide) rfl (fun ls hl => ?_)
  refine lv_goto (tgt := 2) hx hb dX11_copies_18 (by decide) ?_
  refine lv_iload_n hx hb dX11_copies_2 rfl (lv_at hl 0 rfl) ?_
  refine lv_iload_n hx hb dX11_copies_3 rfl (lv_at hl 2 rfl) ?_
  refine lv_icmp_ge (tgt := 21) hx hb dX11_copies_4 (by decide) (fun c_80 => absurd c_80 (by decide)) (fun _ => ?_)
  refine lv_aload_n hx hb dX11_copies_7 rfl (lv_at hl 1 rfl) ?_
  refine lv_iload_n hx hb dX11_copies_8 rfl (lv_at hl 0 rfl) ?_
  refine lv_aload_n hx hb dX11_copies_9 rfl (lv_at hl 1 rfl) ?_
  refine lv_iload_n hx hb dX11_copies_10 rfl (lv_at hl 2 rfl) ?_
  refine lv_iload_n hx hb dX11_copies_11 rfl (lv_at hl 0 rfl) ?_
  refine lv_iadd hx hb dX11_copies_12 ?_
  refine lv_topi (fun v_81 e_81 => ?_)
  obtain rfl : v_81 = 47 := e_81.trans (by decide)
  refine va_iald hx hb hE.1 hP 0 1 rfl rfl (kk_ix _ _ (by decide)) dX11_copies_13 ?_
  refine lv_topi (fun v_82 e_82 => ?_)
  refine va_iast hx hb hE.1 hP hD hS 0 1 rfl rfl (kk_ix _ _ (by decide)) dX11_copies_14 (fun H locs hP hD hS => ?_)
  have hP : va_P D vwCl [kI cI h0 48 (upd f_79 23 v_82)] H := hP
  have hD : va_D A [kI cI h0 48 (upd f_79 23 v_82)] := hD
  refine lv_iinc (v := 24) (lv' := [(2, .int 24), (0, .ref h0), (1, .int 24)]) hx hb dX11_copies_15 hl (k := 0) rfl (by decide) (by decide) rfl (fun ls hl => ?_)
  refine lv_goto (tgt := 2) hx hb dX11_copies_18 (by decide) ?_
  refine lv_iload_n hx hb dX11_copies_2 rfl (lv_at hl 0 rfl) ?_
  refine lv_iload_n hx hb dX11_copies_3 rfl (lv_at hl 2 rfl) ?_
  refine lv_icmp_ge (tgt := 21) hx hb dX11_copies_4 (by decide) (fun _ => ?_) (fun c_83 => absurd c_83 (by decide))
  exact kk_ret_v ((fun i => [].getD i 0), (fun i => [(upd f_79 23 v_82)].getD i (fun _ => 0)), (fun i => [].getD i (fun _ => 0)), (fun i => [].getD i 0)) hx hb hr hlocks trivial (hP.sub [0] rfl) (hD.sub [0] (by decide +kernel) rfl) hS dX11_copies_21 (Nat.le_of_ble_eq_true rfl) (Nat.le_of_ble_eq_true rfl)
set_option maxHeartbeats 4000000 in
set_option maxRecDepth 100000 in
theorem c_X11_lay (l : Launch) (D : va_G) (cB cI cJ cD : ClassId) (h0 h1 : Nat) (y0 : Value) (i0 : Int32) (i1 : Int32) (y1 : Value) (i2 : Int32) (i3 : Int32) (i4 : Int32) (i5 : Int32) (i6 : Int32) (i7 : Int32) (i8 : Int32) (i9 : Int32) (i10 : Int32) (i11 : Int32) (i12 : Int32) (i13 : Int32) (i14 : Int32) (i15 : Int32) (y2 : Value) (y3 : Value) (y4 : Value) (y5 : Value) (y6 : Value) (y7 : Value) (y8 : Value) (y9 : Value) (i16 : Int32) (i17 : Int32) (y10 : Value) (y11 : Value) (y12 : Value) (y13 : Value) (i18 : Int32) (i19 : Int32) (i20 : Int32) (y14 : Value) (i21 : Int32) (i22 : Int32) (i23 : Int32) (i24 : Int32) (y15 : Value) (y16 : Value) (i25 : Int64) (y17 : Value) (g0 : Nat → Int32) (p0 : Int32) (p1 : Int32) (sz : Nat) (hj : vp_in (0 + p0) 5760) : Met l yX11_lay (kk_W yX11_lay cX11_lay 3 none) ({ frames := 0, cells := 0, slots := 0, locals := 0 }) (va_Pc [.ref h0, .int p0, .int p1] (kk_pre D cB cI cJ cD [kO h0 10 [y0, .int i0, .int i1, y1, .int i2, .int i3, .int i4, .int i5, .int i6, .int i7, .int i8, .int i9, .int i10, .int i11, .int i12, .int i13, .int i14, .int i15, y2, y3, y4, y5, y6, y7, y8, y9, .int i16, .ref h1, .int 0, .int i17, y10, y11, y12, y13, .int i18, .int i19, .int i20, y14, .int i21, .int i22, .int i23, .int i24, y15, y16, .long i25, y17], kI cI h1 5760 g0] sz)) (kk_Qv D (fun (u : (Nat → Nat) × (Nat → Nat → Int32) × (Nat → Nat → Int64) × (Nat → Int32)) => True) (fun u => [kO h0 10 [y0, .int i0, .int i1, y1, .int i2, .int i3, .int i4, .int i5, .int i6, .int i7, .int i8, .int i9, .int i10, .int i11, .int i12, .int i13, .int i14, .int i15, y2, y3, y4, y5, y6, y7, y8, y9, .int i16, .ref h1, .int 0, .int i17, y10, y11, y12, y13, .int i18, .int i19, .int i20, y14, .int i21, .int i22, .int i23, .int i24, y15, y16, .long i25, y17], kI cI h1 5760 (upd g0 (Int32.toNatClampNeg (0 + p0)) p1)]) (va_A [kO h0 10 [y0, .int i0, .int i1, y1, .int i2, .int i3, .int i4, .int i5, .int i6, .int i7, .int i8, .int i9, .int i10, .int i11, .int i12, .int i13, .int i14, .int i15, y2, y3, y4, y5, y6, y7, y8, y9, .int i16, .ref h1, .int 0, .int i17, y10, y11, y12, y13, .int i18, .int i19, .int i20, y14, .int i21, .int i22, .int i23, .int i24, y15, y16, .long i25, y17], kI cI h1 5760 g0] sz)) 0 0 (va_A [kO h0 10 [y0, .int i0, .int i1, y1, .int i2, .int i3, .int i4, .int i5, .int i6, .int i7, .int i8, .int i9, .int i10, .int i11, .int i12, .int i13, .int i14, .int i15, y2, y3, y4, y5, y6, y7, y8, y9, .int i16, .ref h1, .int 0, .int i17, y10, y11, y12, y13, .int i18, .int i19, .int i20, y14, .int i21, .int i22, .int i23, .int i24, y15, y16, .long i25, y17], kI cI h1 5760 g0] sz) := by
  refine kk_start (y := yX11_lay) (maxL := 3) (av := [.ref h0, .int p0, .int p1]) (Qc := fun A => kk_Qv D (fun (u : (Nat → Nat) × (Nat → Nat → Int32) × (Nat → Nat → Int64) × (Nat → Int32)) => True) (fun u => [kO h0 10 [y0, .int i0, .int i1, y1, .int i2, .int i3, .int i4, .int i5, .int i6, .int i7, .int i8, .int i9, .int i10, .int i11, .int i12, .int i13, .int i14, .int i15, y2, y3, y4, y5, y6, y7, y8, y9, .int i16, .ref h1, .int 0, .int i17, y10, y11, y12, y13, .int i18, .int i19, .int i20, y14, .int i21, .int i22, .int i23, .int i24, y15, y16, .long i25, y17], kI cI h1 5760 (upd g0 (Int32.toNatClampNeg (0 + p0)) p1)]) A) (by decide) (Nat.le_of_ble_eq_true rfl) ?_
  intro p e s m below meth c ls A hx hb hr hml hown hts hE hlocks hin hsz hP hD hA hS hl
  have hown : s.vm.findClass RX11 = some m.cls := hown
  have hl : lv_has ls 3 [(0, .ref h0), (1, .int p0), (2, .int p1)] := hl
  refine lv_aload_n hx hb dX11_lay_0 rfl (lv_at hl 0 rfl) ?_
  refine va_get (D := D) (ci := 10) (v := .ref h1) (C := RX11) (T := TX11) (N := 46) hx hb hts u_X11 hown hE.1 hP 0 rfl rfl 27 (by decide) (hts _ w_1328) (fun _ h9 => h9) rfl dX11_lay_1 ?_
  refine lv_sipush (v := 320) hx hb dX11_lay_4 (by decide) ?_
  refine lv_aload_n hx hb dX11_lay_7 rfl (lv_at hl 0 rfl) ?_
  refine va_get (D := D) (ci := 10) (v := .int 0) (C := RX11) (T := TX11) (N := 46) hx hb hts u_X11 hown hE.1 hP 0 rfl rfl 28 (by decide) (hts _ w_1329) (fun _ h9 => h9) rfl dX11_lay_8 ?_
  refine lv_imul hx hb dX11_lay_11 ?_
  refine lv_topi (fun v_1 e_1 => ?_)
  obtain rfl : v_1 = 0 := e_1.trans (by decide)
  refine lv_iload_n hx hb dX11_lay_12 rfl (lv_at hl 1 rfl) ?_
  refine lv_iadd hx hb dX11_lay_13 ?_
  refine lv_iload_n hx hb dX11_lay_14 rfl (lv_at hl 2 rfl) ?_
  refine va_iast hx hb hE.1 hP hD hS 1 1 rfl rfl hj dX11_lay_15 (fun H locs hP hD hS => ?_)
  have hP : va_P D vwCl [kO h0 10 [y0, .int i0, .int i1, y1, .int i2, .int i3, .int i4, .int i5, .int i6, .int i7, .int i8, .int i9, .int i10, .int i11, .int i12, .int i13, .int i14, .int i15, y2, y3, y4, y5, y6, y7, y8, y9, .int i16, .ref h1, .int 0, .int i17, y10, y11, y12, y13, .int i18, .int i19, .int i20, y14, .int i21, .int i22, .int i23, .int i24, y15, y16, .long i25, y17], kI cI h1 5760 (upd g0 (Int32.toNatClampNeg (0 + p0)) p1)] H := hP
  have hD : va_D A [kO h0 10 [y0, .int i0, .int i1, y1, .int i2, .int i3, .int i4, .int i5, .int i6, .int i7, .int i8, .int i9, .int i10, .int i11, .int i12, .int i13, .int i14, .int i15, y2, y3, y4, y5, y6, y7, y8, y9, .int i16, .ref h1, .int 0, .int i17, y10, y11, y12, y13, .int i18, .int i19, .int i20, y14, .int i21, .int i22, .int i23, .int i24, y15, y16, .long i25, y17], kI cI h1 5760 (upd g0 (Int32.toNatClampNeg (0 + p0)) p1)] := hD
  exact kk_ret_v ((fun i => [].getD i 0), (fun i => [].getD i (fun _ => 0)), (fun i => [].getD i (fun _ => 0)), (fun i => [].getD i 0)) hx hb hr hlocks trivial (hP.sub [0, 1] rfl) (hD.sub [0, 1] (by decide +kernel) rfl) hS dX11_lay_16 (Nat.le_of_ble_eq_true rfl) (Nat.le_of_ble_eq_true rfl)
set_option maxHeartbeats 4000000 in
set_option maxRecDepth 100000 in
theorem c_X11_lay_2 (l : Launch) (D : va_G) (cB cI cJ cD : ClassId) (h0 h1 : Nat) (y0 : Value) (i0 : Int32) (i1 : Int32) (y1 : Value) (i2 : Int32) (i3 : Int32) (i4 : Int32) (i5 : Int32) (i6 : Int32) (i7 : Int32) (i8 : Int32) (i9 : Int32) (i10 : Int32) (i11 : Int32) (i12 : Int32) (i13 : Int32) (i14 : Int32) (i15 : Int32) (y2 : Value) (y3 : Value) (y4 : Value) (y5 : Value) (y6 : Value) (y7 : Value) (y8 : Value) (y9 : Value) (i16 : Int32) (i17 : Int32) (y10 : Value) (y11 : Value) (y12 : Value) (y13 : Value) (i18 : Int32) (i19 : Int32) (i20 : Int32) (y14 : Value) (i21 : Int32) (i22 : Int32) (i23 : Int32) (i24 : Int32) (y15 : Value) (y16 : Value) (i25 : Int64) (y17 : Value) (g0 : Nat → Int32) (p0 : Int32) (p1 : Int32) (sz : Nat) (hz0 : kz 0 g0) (hj : vp_in (0 + p0) 5760) : Met l yX11_lay (kk_W yX11_lay cX11_lay 3 none) ({ frames := 0, cells := 0, slots := 0, locals := 0 }) (va_Pc [.ref h0, .int p0, .int p1] (kk_pre D cB cI cJ cD [kO h0 10 [y0, .int i0, .int i1, y1, .int i2, .int i3, .int i4, .int i5, .int i6, .int i7, .int i8, .int i9, .int i10, .int i11, .int i12, .int i13, .int i14, .int i15, y2, y3, y4, y5, y6, y7, y8, y9, .int i16, .ref h1, .int 0, .int i17, y10, y11, y12, y13, .int i18, .int i19, .int i20, y14, .int i21, .int i22, .int i23, .int i24, y15, y16, .long i25, y17], kI cI h1 5760 g0] sz)) (kk_Qv D (fun (u : (Nat → Nat) × (Nat → Nat → Int32) × (Nat → Nat → Int64) × (Nat → Int32)) => True) (fun u => [kO h0 10 [y0, .int i0, .int i1, y1, .int i2, .int i3, .int i4, .int i5, .int i6, .int i7, .int i8, .int i9, .int i10, .int i11, .int i12, .int i13, .int i14, .int i15, y2, y3, y4, y5, y6, y7, y8, y9, .int i16, .ref h1, .int 0, .int i17, y10, y11, y12, y13, .int i18, .int i19, .int i20, y14, .int i21, .int i22, .int i23, .int i24, y15, y16, .long i25, y17], kI cI h1 5760 (upd g0 (Int32.toNatClampNeg (0 + p0)) p1)]) (va_A [kO h0 10 [y0, .int i0, .int i1, y1, .int i2, .int i3, .int i4, .int i5, .int i6, .int i7, .int i8, .int i9, .int i10, .int i11, .int i12, .int i13, .int i14, .int i15, y2, y3, y4, y5, y6, y7, y8, y9, .int i16, .ref h1, .int 0, .int i17, y10, y11, y12, y13, .int i18, .int i19, .int i20, y14, .int i21, .int i22, .int i23, .int i24, y15, y16, .long i25, y17], kI cI h1 5760 g0] sz)) 0 0 (va_A [kO h0 10 [y0, .int i0, .int i1, y1, .int i2, .int i3, .int i4, .int i5, .int i6, .int i7, .int i8, .int i9, .int i10, .int i11, .int i12, .int i13, .int i14, .int i15, y2, y3, y4, y5, y6, y7, y8, y9, .int i16, .ref h1, .int 0, .int i17, y10, y11, y12, y13, .int i18, .int i19, .int i20, y14, .int i21, .int i22, .int i23, .int i24, y15, y16, .long i25, y17], kI cI h1 5760 g0] sz) := by
  refine kk_start (y := yX11_lay) (maxL := 3) (av := [.ref h0, .int p0, .int p1]) (Qc := fun A => kk_Qv D (fun (u : (Nat → Nat) × (Nat → Nat → Int32) × (Nat → Nat → Int64) × (Nat → Int32)) => True) (fun u => [kO h0 10 [y0, .int i0, .int i1, y1, .int i2, .int i3, .int i4, .int i5, .int i6, .int i7, .int i8, .int i9, .int i10, .int i11, .int i12, .int i13, .int i14, .int i15, y2, y3, y4, y5, y6, y7, y8, y9, .int i16, .ref h1, .int 0, .int i17, y10, y11, y12, y13, .int i18, .int i19, .int i20, y14, .int i21, .int i22, .int i23, .int i24, y15, y16, .long i25, y17], kI cI h1 5760 (upd g0 (Int32.toNatClampNeg (0 + p0)) p1)]) A) (by decide) (Nat.le_of_ble_eq_true rfl) ?_
  intro p e s m below meth c ls A hx hb hr hml hown hts hE hlocks hin hsz hP hD hA hS hl
  have hown : s.vm.findClass RX11 = some m.cls := hown
  have hl : lv_has ls 3 [(0, .ref h0), (1, .int p0), (2, .int p1)] := hl
  refine lv_aload_n hx hb dX11_lay_0 rfl (lv_at hl 0 rfl) ?_
  refine va_get (D := D) (ci := 10) (v := .ref h1) (C := RX11) (T := TX11) (N := 46) hx hb hts u_X11 hown hE.1 hP 0 rfl rfl 27 (by decide) (hts _ w_1328) (fun _ h9 => h9) rfl dX11_lay_1 ?_
  refine lv_sipush (v := 320) hx hb dX11_lay_4 (by decide) ?_
  refine lv_aload_n hx hb dX11_lay_7 rfl (lv_at hl 0 rfl) ?_
  refine va_get (D := D) (ci := 10) (v := .int 0) (C := RX11) (T := TX11) (N := 46) hx hb hts u_X11 hown hE.1 hP 0 rfl rfl 28 (by decide) (hts _ w_1329) (fun _ h9 => h9) rfl dX11_lay_8 ?_
  refine lv_imul hx hb dX11_lay_11 ?_
  refine lv_topi (fun v_1 e_1 => ?_)
  obtain rfl : v_1 = 0 := e_1.trans (by decide)
  refine lv_iload_n hx hb dX11_lay_12 rfl (lv_at hl 1 rfl) ?_
  refine lv_iadd hx hb dX11_lay_13 ?_
  refine lv_iload_n hx hb dX11_lay_14 rfl (lv_at hl 2 rfl) ?_
  refine va_iast hx hb hE.1 hP hD hS 1 1 rfl rfl hj dX11_lay_15 (fun H locs hP hD hS => ?_)
  have hP : va_P D vwCl [kO h0 10 [y0, .int i0, .int i1, y1, .int i2, .int i3, .int i4, .int i5, .int i6, .int i7, .int i8, .int i9, .int i10, .int i11, .int i12, .int i13, .int i14, .int i15, y2, y3, y4, y5, y6, y7, y8, y9, .int i16, .ref h1, .int 0, .int i17, y10, y11, y12, y13, .int i18, .int i19, .int i20, y14, .int i21, .int i22, .int i23, .int i24, y15, y16, .long i25, y17], kI cI h1 5760 (upd g0 (Int32.toNatClampNeg (0 + p0)) p1)] H := hP
  have hD : va_D A [kO h0 10 [y0, .int i0, .int i1, y1, .int i2, .int i3, .int i4, .int i5, .int i6, .int i7, .int i8, .int i9, .int i10, .int i11, .int i12, .int i13, .int i14, .int i15, y2, y3, y4, y5, y6, y7, y8, y9, .int i16, .ref h1, .int 0, .int i17, y10, y11, y12, y13, .int i18, .int i19, .int i20, y14, .int i21, .int i22, .int i23, .int i24, y15, y16, .long i25, y17], kI cI h1 5760 (upd g0 (Int32.toNatClampNeg (0 + p0)) p1)] := hD
  exact kk_ret_v ((fun i => [].getD i 0), (fun i => [].getD i (fun _ => 0)), (fun i => [].getD i (fun _ => 0)), (fun i => [].getD i 0)) hx hb hr hlocks trivial (hP.sub [0, 1] rfl) (hD.sub [0, 1] (by decide +kernel) rfl) hS dX11_lay_16 (Nat.le_of_ble_eq_true rfl) (Nat.le_of_ble_eq_true rfl)
set_option maxHeartbeats 4000000 in
set_option maxRecDepth 100000 in
theorem c_X11_byText (l : Launch) (D : va_G) (cB cI cJ cD : ClassId) (h0 h1 : Nat) (y0 : Value) (i0 : Int32) (i1 : Int32) (y1 : Value) (i2 : Int32) (i3 : Int32) (i4 : Int32) (i5 : Int32) (i6 : Int32) (i7 : Int32) (i8 : Int32) (i9 : Int32) (i10 : Int32) (i11 : Int32) (i12 : Int32) (i13 : Int32) (i14 : Int32) (y2 : Value) (y3 : Value) (y4 : Value) (y5 : Value) (y6 : Value) (y7 : Value) (y8 : Value) (y9 : Value) (i15 : Int32) (y10 : Value) (i16 : Int32) (i17 : Int32) (y11 : Value) (y12 : Value) (y13 : Value) (y14 : Value) (i18 : Int32) (i19 : Int32) (i20 : Int32) (i21 : Int32) (i22 : Int32) (i23 : Int32) (i24 : Int32) (y15 : Value) (y16 : Value) (i25 : Int64) (y17 : Value) (g0 : Nat → Int32) (sz : Nat) : Met l yX11_byText (kk_W yX11_byText cX11_byText 2 none) ({ frames := 0, cells := 0, slots := 0, locals := 0 }) (va_Pc [.ref h0] (kk_pre D cB cI cJ cD [kO h0 10 [y0, .int i0, .int i1, y1, .int i2, .int i3, .int i4, .int i5, .int i6, .int i7, .int i8, .int i9, .int i10, .int i11, .int 0, .int i12, .int i13, .int i14, y2, y3, y4, y5, y6, y7, y8, y9, .int i15, y10, .int i16, .int i17, y11, y12, y13, y14, .int i18, .int i19, .int i20, .ref h1, .int i21, .int i22, .int i23, .int i24, y15, y16, .long i25, y17], kI cI h1 24 g0] sz)) (kk_Qv D (fun (u : (Nat → Nat) × (Nat → Nat → Int32) × (Nat → Nat → Int64) × (Nat → Int32)) => True) (fun u => [kO h0 10 [y0, .int i0, .int i1, y1, .int i2, .int i3, .int i4, .int i5, .int i6, .int i7, .int i8, .int i9, .int i10, .int i11, .int 0, .int i12, .int i13, .int i14, y2, y3, y4, y5, y6, y7, y8, y9, .int i15, y10, .int i16, .int i17, y11, y12, y13, y14, .int 0, .int 0, .int 0, .ref h1, .int 0, .int i22, .int i23, .int i24, y15, y16, .long i25, y17], kI cI h1 24 (u.2.1 0)]) (va_A [kO h0 10 [y0, .int i0, .int i1, y1, .int i2, .int i3, .int i4, .int i5, .int i6, .int i7, .int i8, .int i9, .int i10, .int i11, .int 0, .int i12, .int i13, .int i14, y2, y3, y4, y5, y6, y7, y8, y9, .int i15, y10, .int i16, .int i17, y11, y12, y13, y14, .int i18, .int i19, .int i20, .ref h1, .int i21, .int i22, .int i23, .int i24, y15, y16, .long i25, y17], kI cI h1 24 g0] sz)) 0 0 (va_A [kO h0 10 [y0, .int i0, .int i1, y1, .int i2, .int i3, .int i4, .int i5, .int i6, .int i7, .int i8, .int i9, .int i10, .int i11, .int 0, .int i12, .int i13, .int i14, y2, y3, y4, y5, y6, y7, y8, y9, .int i15, y10, .int i16, .int i17, y11, y12, y13, y14, .int i18, .int i19, .int i20, .ref h1, .int i21, .int i22, .int i23, .int i24, y15, y16, .long i25, y17], kI cI h1 24 g0] sz) := by
  refine kk_start (y := yX11_byText) (maxL := 2) (av := [.ref h0]) (Qc := fun A => kk_Qv D (fun (u : (Nat → Nat) × (Nat → Nat → Int32) × (Nat → Nat → Int64) × (Nat → Int32)) => True) (fun u => [kO h0 10 [y0, .int i0, .int i1, y1, .int i2, .int i3, .int i4, .int i5, .int i6, .int i7, .int i8, .int i9, .int i10, .int i11, .int 0, .int i12, .int i13, .int i14, y2, y3, y4, y5, y6, y7, y8, y9, .int i15, y10, .int i16, .int i17, y11, y12, y13, y14, .int 0, .int 0, .int 0, .ref h1, .int 0, .int i22, .int i23, .int i24, y15, y16, .long i25, y17], kI cI h1 24 (u.2.1 0)]) A) (by decide) (Nat.le_of_ble_eq_true rfl) ?_
  intro p e s m below meth c ls A hx hb hr hml hown hts hE hlocks hin hsz hP hD hA hS hl
  have hown : s.vm.findClass RX11 = some m.cls := hown
  have hl : lv_has ls 2 [(0, .ref h0)] := hl
  refine lv_aload_n hx hb dX11_byText_0 rfl (lv_at hl 0 rfl) ?_
  refine lv_iconst (v := 0) hx hb dX11_byText_1 (by decide) ?_
  refine va_put (D := D) (ci := 10) (v := .int 0) (ty := .boolean) (C := RX11) (T := TX11) (N := 46) hx hb hts u_X11 tyX11 tyX11_ok nmX11 hown hE.1 hP hD hS 0 rfl rfl 34 (by decide) (hts _ w_1335) (fun _ h9 => h9) rfl (by decide +kernel) rfl rfl (Nat.le_of_ble_eq_true rfl) dX11_byText_2 (fun H locs hP hD hS => ?_)
  have hP : va_P D vwCl [kO h0 10 [y0, .int i0, .int i1, y1, .int i2, .int i3, .int i4, .int i5, .int i6, .int i7, .int i8, .int i9, .int i10, .int i11, .int 0, .int i12, .int i13, .int i14, y2, y3, y4, y5, y6, y7, y8, y9, .int i15, y10, .int i16, .int i17, y11, y12, y13, y14, .int 0, .int i19, .int i20, .ref h1, .int i21, .int i22, .int i23, .int i24, y15, y16, .long i25, y17], kI cI h1 24 g0] H := hP
  have hD : va_D A [kO h0 10 [y0, .int i0, .int i1, y1, .int i2, .int i3, .int i4, .int i5, .int i6, .int i7, .int i8, .int i9, .int i10, .int i11, .int 0, .int i12, .int i13, .int i14, y2, y3, y4, y5, y6, y7, y8, y9, .int i15, y10, .int i16, .int i17, y11, y12, y13, y14, .int 0, .int i19, .int i20, .ref h1, .int i21, .int i22, .int i23, .int i24, y15, y16, .long i25, y17], kI cI h1 24 g0] := hD
  refine lv_aload_n hx hb dX11_byText_5 rfl (lv_at hl 0 rfl) ?_
  refine lv_iconst (v := 0) hx hb dX11_byText_6 (by decide) ?_
  refine va_put (D := D) (ci := 10) (v := .int 0) (ty := .boolean) (C := RX11) (T := TX11) (N := 46) hx hb hts u_X11 tyX11 tyX11_ok nmX11 hown hE.1 hP hD hS 0 rfl rfl 35 (by decide) (hts _ w_1336) (fun _ h9 => h9) rfl (by decide +kernel) rfl rfl (Nat.le_of_ble_eq_true rfl) dX11_byText_7 (fun H locs hP hD hS => ?_)
  have hP : va_P D vwCl [kO h0 10 [y0, .int i0, .int i1, y1, .int i2, .int i3, .int i4, .int i5, .int i6, .int i7, .int i8, .int i9, .int i10, .int i11, .int 0, .int i12, .int i13, .int i14, y2, y3, y4, y5, y6, y7, y8, y9, .int i15, y10, .int i16, .int i17, y11, y12, y13, y14, .int 0, .int 0, .int i20, .ref h1, .int i21, .int i22, .int i23, .int i24, y15, y16, .long i25, y17], kI cI h1 24 g0] H := hP
  have hD : va_D A [kO h0 10 [y0, .int i0, .int i1, y1, .int i2, .int i3, .int i4, .int i5, .int i6, .int i7, .int i8, .int i9, .int i10, .int i11, .int 0, .int i12, .int i13, .int i14, y2, y3, y4, y5, y6, y7, y8, y9, .int i15, y10, .int i16, .int i17, y11, y12, y13, y14, .int 0, .int 0, .int i20, .ref h1, .int i21, .int i22, .int i23, .int i24, y15, y16, .long i25, y17], kI cI h1 24 g0] := hD
  refine lv_aload_n hx hb dX11_byText_10 rfl (lv_at hl 0 rfl) ?_
  refine lv_iconst (v := 0) hx hb dX11_byText_11 (by decide) ?_
  refine va_put (D := D) (ci := 10) (v := .int 0) (ty := .boolean) (C := RX11) (T := TX11) (N := 46) hx hb hts u_X11 tyX11 tyX11_ok nmX11 hown hE.1 hP hD hS 0 rfl rfl 36 (by decide) (hts _ w_1337) (fun _ h9 => h9) rfl (by decide +kernel) rfl rfl (Nat.le_of_ble_eq_true rfl) dX11_byText_12 (fun H locs hP hD hS => ?_)
  have hP : va_P D vwCl [kO h0 10 [y0, .int i0, .int i1, y1, .int i2, .int i3, .int i4, .int i5, .int i6, .int i7, .int i8, .int i9, .int i10, .int i11, .int 0, .int i12, .int i13, .int i14, y2, y3, y4, y5, y6, y7, y8, y9, .int i15, y10, .int i16, .int i17, y11, y12, y13, y14, .int 0, .int 0, .int 0, .ref h1, .int i21, .int i22, .int i23, .int i24, y15, y16, .long i25, y17], kI cI h1 24 g0] H := hP
  have hD : va_D A [kO h0 10 [y0, .int i0, .int i1, y1, .int i2, .int i3, .int i4, .int i5, .int i6, .int i7, .int i8, .int i9, .int i10, .int i11, .int 0, .int i12, .int i13, .int i14, y2, y3, y4, y5, y6, y7, y8, y9, .int i15, y10, .int i16, .int i17, y11, y12, y13, y14, .int 0, .int 0, .int 0, .ref h1, .int i21, .int i22, .int i23, .int i24, y15, y16, .long i25, y17], kI cI h1 24 g0] := hD
  refine lv_aload_n hx hb dX11_byText_15 rfl (lv_at hl 0 rfl) ?_
  refine lv_aload_n hx hb dX11_byText_16 rfl (lv_at hl 0 rfl) ?_
  refine va_get (D := D) (ci := 10) (v := .int 0) (C := RX11) (T := TX11) (N := 46) hx hb hts u_X11 hown hE.1 hP 0 rfl rfl 14 (by decide) (hts _ w_1315) (fun _ h9 => h9) rfl dX11_byText_17 ?_
  refine va_put (D := D) (ci := 10) (v := .int 0) (ty := .int) (C := RX11) (T := TX11) (N := 46) hx hb hts u_X11 tyX11 tyX11_ok nmX11 hown hE.1 hP hD hS 0 rfl rfl 38 (by decide) (hts _ w_1339) (fun _ h9 => h9) rfl (by decide +kernel) rfl rfl (Nat.le_of_ble_eq_true rfl) dX11_byText_20 (fun H locs hP hD hS => ?_)
  have hP : va_P D vwCl [kO h0 10 [y0, .int i0, .int i1, y1, .int i2, .int i3, .int i4, .int i5, .int i6, .int i7, .int i8, .int i9, .int i10, .int i11, .int 0, .int i12, .int i13, .int i14, y2, y3, y4, y5, y6, y7, y8, y9, .int i15, y10, .int i16, .int i17, y11, y12, y13, y14, .int 0, .int 0, .int 0, .ref h1, .int 0, .int i22, .int i23, .int i24, y15, y16, .long i25, y17], kI cI h1 24 g0] H := hP
  have hD : va_D A [kO h0 10 [y0, .int i0, .int i1, y1, .int i2, .int i3, .int i4, .int i5, .int i6, .int i7, .int i8, .int i9, .int i10, .int i11, .int 0, .int i12, .int i13, .int i14, y2, y3, y4, y5, y6, y7, y8, y9, .int i15, y10, .int i16, .int i17, y11, y12, y13, y14, .int 0, .int 0, .int 0, .ref h1, .int 0, .int i22, .int i23, .int i24, y15, y16, .long i25, y17], kI cI h1 24 g0] := hD
  refine lv_iconst (v := 0) hx hb dX11_byText_23 (by decide) ?_
  refine lv_istore_n (lv' := [(1, .int 0), (0, .ref h0)]) hx hb dX11_byText_24 rfl hl (by decide) rfl (fun ls hl => ?_)
  refine lv_iload_n hx hb dX11_byText_25 rfl (lv_at hl 0 rfl) ?_
  refine lv_bipush (v := 24) hx hb dX11_byText_26 (by decide) ?_
  refine lv_icmp_ge (tgt := 44) hx hb dX11_byText_28 (by decide) (fun c_1 => absurd c_1 (by decide)) (fun _ => ?_)
  refine lv_aload_n hx hb dX11_byText_31 rfl (lv_at hl 1 rfl) ?_
  refine va_get (D := D) (ci := 10) (v := .ref h1) (C := RX11) (T := TX11) (N := 46) hx hb hts u_X11 hown hE.1 hP 0 rfl rfl 37 (by decide) (hts _ w_1338) (fun _ h9 => h9) rfl dX11_byText_32 ?_
  refine lv_iload_n hx hb dX11_byText_35 rfl (lv_at hl 0 rfl) ?_
  refine lv_iload_n hx hb dX11_byText_36 rfl (lv_at hl 0 rfl) ?_
  refine va_iast hx hb hE.1 hP hD hS 1 1 rfl rfl (kk_ix _ _ (by decide)) dX11_byText_37 (fun H locs hP hD hS => ?_)
  have hP : va_P D vwCl [kO h0 10 [y0, .int i0, .int i1, y1, .int i2, .int i3, .int i4, .int i5, .int i6, .int i7, .int i8, .int i9, .int i10, .int i11, .int 0, .int i12, .int i13, .int i14, y2, y3, y4, y5, y6, y7, y8, y9, .int i15, y10, .int i16, .int i17, y11, y12, y13, y14, .int 0, .int 0, .int 0, .ref h1, .int 0, .int i22, .int i23, .int i24, y15, y16, .long i25, y17], kI cI h1 24 (upd g0 0 0)] H := hP
  have hD : va_D A [kO h0 10 [y0, .int i0, .int i1, y1, .int i2, .int i3, .int i4, .int i5, .int i6, .int i7, .int i8, .int i9, .int i10, .int i11, .int 0, .int i12, .int i13, .int i14, y2, y3, y4, y5, y6, y7, y8, y9, .int i15, y10, .int i16, .int i17, y11, y12, y13, y14, .int 0, .int 0, .int 0, .ref h1, .int 0, .int i22, .int i23, .int i24, y15, y16, .long i25, y17], kI cI h1 24 (upd g0 0 0)] := hD
  refine lv_iinc (v := 1) (lv' := [(1, .int 1), (0, .ref h0)]) hx hb dX11_byText_38 hl (k := 0) rfl (by decide) (by decide) rfl (fun ls hl => ?_)
  refine lv_goto (tgt := 25) hx hb dX11_byText_41 (by decide) ?_
  refine lv_iload_n hx hb dX11_byText_25 rfl (lv_at hl 0 rfl) ?_
  refine lv_bipush (v := 24) hx hb dX11_byText_26 (by decide) ?_
  refine lv_icmp_ge (tgt := 44) hx hb dX11_byText_28 (by decide) (fun c_2 => absurd c_2 (by decide)) (fun _ => ?_)
  refine lv_aload_n hx hb dX11_byText_31 rfl (lv_at hl 1 rfl) ?_
  refine va_get (D := D) (ci := 10) (v := .ref h1) (C := RX11) (T := TX11) (N := 46) hx hb hts u_X11 hown hE.1 hP 0 rfl rfl 37 (by decide) (hts _ w_1338) (fun _ h9 => h9) rfl dX11_byText_32 ?_
  refine lv_iload_n hx hb dX11_byText_35 rfl (lv_at hl 0 rfl) ?_
  refine lv_iload_n hx hb dX11_byText_36 rfl (lv_at hl 0 rfl) ?_
  refine va_iast hx hb hE.1 hP hD hS 1 1 rfl rfl (kk_ix _ _ (by decide)) dX11_byText_37 (fun H locs hP hD hS => ?_)
  have hP : va_P D vwCl [kO h0 10 [y0, .int i0, .int i1, y1, .int i2, .int i3, .int i4, .int i5, .int i6, .int i7, .int i8, .int i9, .int i10, .int i11, .int 0, .int i12, .int i13, .int i14, y2, y3, y4, y5, y6, y7, y8, y9, .int i15, y10, .int i16, .int i17, y11, y12, y13, y14, .int 0, .int 0, .int 0, .ref h1, .int 0, .int i22, .int i23, .int i24, y15, y16, .long i25, y17], kI cI h1 24 (upd (upd g0 0 0) 1 1)] H := hP
  have hD : va_D A [kO h0 10 [y0, .int i0, .int i1, y1, .int i2, .int i3, .int i4, .int i5, .int i6, .int i7, .int i8, .int i9, .int i10, .int i11, .int 0, .int i12, .int i13, .int i14, y2, y3, y4, y5, y6, y7, y8, y9, .int i15, y10, .int i16, .int i17, y11, y12, y13, y14, .int 0, .int 0, .int 0, .ref h1, .int 0, .int i22, .int i23, .int i24, y15, y16, .long i25, y17], kI cI h1 24 (upd (upd g0 0 0) 1 1)] := hD
  refine lv_iinc (v := 2) (lv' := [(1, .int 2), (0, .ref h0)]) hx hb dX11_byText_38 hl (k := 0) rfl (by decide) (by decide) rfl (fun ls hl => ?_)
  refine lv_goto (tgt := 25) hx hb dX11_byText_41 (by decide) ?_
  refine lv_iload_n hx hb dX11_byText_25 rfl (lv_at hl 0 rfl) ?_
  refine lv_bipush (v := 24) hx hb dX11_byText_26 (by decide) ?_
  refine lv_icmp_ge (tgt := 44) hx hb dX11_byText_28 (by decide) (fun c_3 => absurd c_3 (by decide)) (fun _ => ?_)
  refine lv_aload_n hx hb dX11_byText_31 rfl (lv_at hl 1 rfl) ?_
  refine va_get (D := D) (ci := 10) (v := .ref h1) (C := RX11) (T := TX11) (N := 46) hx hb hts u_X11 hown hE.1 hP 0 rfl rfl 37 (by decide) (hts _ w_1338) (fun _ h9 => h9) rfl dX11_byText_32 ?_
  refine lv_iload_n hx hb dX11_byText_35 rfl (lv_at hl 0 rfl) ?_
  refine lv_iload_n hx hb dX11_byText_36 rfl (lv_at hl 0 rfl) ?_
  refine va_iast hx hb hE.1 hP hD hS 1 1 rfl rfl (kk_ix _ _ (by decide)) dX11_byText_37 (fun H locs hP hD hS => ?_)
  obtain ⟨f_4, ef_4⟩ : ∃ z, z = (upd (upd (upd g0 0 0) 1 1) 2 2) := ⟨_, rfl⟩
  have hP : va_P D vwCl [kO h0 10 [y0, .int i0, .int i1, y1, .int i2, .int i3, .int i4, .int i5, .int i6, .int i7, .int i8, .int i9, .int i10, .int i11, .int 0, .int i12, .int i13, .int i14, y2, y3, y4, y5, y6, y7, y8, y9, .int i15, y10, .int i16, .int i17, y11, y12, y13, y14, .int 0, .int 0, .int 0, .ref h1, .int 0, .int i22, .int i23, .int i24, y15, y16, .long i25, y17], kI cI h1 24 f_4] H := by rw [ef_4]; exact hP
  have hD : va_D A [kO h0 10 [y0, .int i0, .int i1, y1, .int i2, .int i3, .int i4, .int i5, .int i6, .int i7, .int i8, .int i9, .int i10, .int i11, .int 0, .int i12, .int i13, .int i14, y2, y3, y4, y5, y6, y7, y8, y9, .int i15, y10, .int i16, .int i17, y11, y12, y13, y14, .int 0, .int 0, .int 0, .ref h1, .int 0, .int i22, .int i23, .int i24, y15, y16, .long i25, y17], kI cI h1 24 f_4] := by rw [ef_4]; exact hD
  refine lv_iinc (v := 3) (lv' := [(1, .int 3), (0, .ref h0)]) hx hb dX11_byText_38 hl (k := 0) rfl (by decide) (by decide) rfl (fun ls hl => ?_)
  refine lv_goto (tgt := 25) hx hb dX11_byText_41 (by decide) ?_
  refine lv_iload_n hx hb dX11_byText_25 rfl (lv_at hl 0 rfl) ?_
  refine lv_bipush (v := 24) hx hb dX11_byText_26 (by decide) ?_
  refine lv_icmp_ge (tgt := 44) hx hb dX11_byText_28 (by decide) (fun c_5 => absurd c_5 (by decide)) (fun _ => ?_)
  refine lv_aload_n hx hb dX11_byText_31 rfl (lv_at hl 1 rfl) ?_
  refine va_get (D := D) (ci := 10) (v := .ref h1) (C := RX11) (T := TX11) (N := 46) hx hb hts u_X11 hown hE.1 hP 0 rfl rfl 37 (by decide) (hts _ w_1338) (fun _ h9 => h9) rfl dX11_byText_32 ?_
  refine lv_iload_n hx hb dX11_byText_35 rfl (lv_at hl 0 rfl) ?_
  refine lv_iload_n hx hb dX11_byText_36 rfl (lv_at hl 0 rfl) ?_
  refine va_iast hx hb hE.1 hP hD hS 1 1 rfl rfl (kk_ix _ _ (by decide)) dX11_byText_37 (fun H locs hP hD hS => ?_)
  have hP : va_P D vwCl [kO h0 10 [y0, .int i0, .int i1, y1, .int i2, .int i3, .int i4, .int i5, .int i6, .int i7, .int i8, .int i9, .int i10, .int i11, .int 0, .int i12, .int i13, .int i14, y2, y3, y4, y5, y6, y7, y8, y9, .int i15, y10, .int i16, .int i17, y11, y12, y13, y14, .int 0, .int 0, .int 0, .ref h1, .int 0, .int i22, .int i23, .int i24, y15, y16, .long i25, y17], kI cI h1 24 (upd f_4 3 3)] H := hP
  have hD : va_D A [kO h0 10 [y0, .int i0, .int i1, y1, .int i2, .int i3, .int i4, .int i5, .int i6, .int i7, .int i8, .int i9, .int i10, .int i11, .int 0, .int i12, .int i13, .int i14, y2, y3, y4, y5, y6, y7, y8, y9, .int i15, y10, .int i16, .int i17, y11, y12, y13, y14, .int 0, .int 0, .int 0, .ref h1, .int 0, .int i22, .int i23, .int i24, y15, y16, .long i25, y17], kI cI h1 24 (upd f_4 3 3)] := hD
  refine lv_iinc (v := 4) (lv' := [(1, .int 4), (0, .ref h0)]) hx hb dX11_byText_38 hl (k := 0) rfl (by decide) (by decide) rfl (fun ls hl => ?_)
  refine lv_goto (tgt := 25) hx hb dX11_byText_41 (by decide) ?_
  refine lv_iload_n hx hb dX11_byText_25 rfl (lv_at hl 0 rfl) ?_
  refine lv_bipush (v := 24) hx hb dX11_byText_26 (by decide) ?_
  refine lv_icmp_ge (tgt := 44) hx hb dX11_byText_28 (by decide) (fun c_6 => absurd c_6 (by decide)) (fun _ => ?_)
  refine lv_aload_n hx hb dX11_byText_31 rfl (lv_at hl 1 rfl) ?_
  refine va_get (D := D) (ci := 10) (v := .ref h1) (C := RX11) (T := TX11) (N := 46) hx hb hts u_X11 hown hE.1 hP 0 rfl rfl 37 (by decide) (hts _ w_1338) (fun _ h9 => h9) rfl dX11_byText_32 ?_
  refine lv_iload_n hx hb dX11_byText_35 rfl (lv_at hl 0 rfl) ?_
  refine lv_iload_n hx hb dX11_byText_36 rfl (lv_at hl 0 rfl) ?_
  refine va_iast hx hb hE.1 hP hD hS 1 1 rfl rfl (kk_ix _ _ (by decide)) dX11_byText_37 (fun H locs hP hD hS => ?_)
  have hP : va_P D vwCl [kO h0 10 [y0, .int i0, .int i1, y1, .int i2, .int i3, .int i4, .int i5, .int i6, .int i7, .int i8, .int i9, .int i10, .int i11, .int 0, .int i12, .int i13, .int i14, y2, y3, y4, y5, y6, y7, y8, y9, .int i15, y10, .int i16, .int i17, y11, y12, y13, y14, .int 0, .int 0, .int 0, .ref h1, .int 0, .int i22, .int i23, .int i24, y15, y16, .long i25, y17], kI cI h1 24 (upd (upd f_4 3 3) 4 4)] H := hP
  have hD : va_D A [kO h0 10 [y0, .int i0, .int i1, y1, .int i2, .int i3, .int i4, .int i5, .int i6, .int i7, .int i8, .int i9, .int i10, .int i11, .int 0, .int i12, .int i13, .int i14, y2, y3, y4, y5, y6, y7, y8, y9, .int i15, y10, .int i16, .int i17, y11, y12, y13, y14, .int 0, .int 0, .int 0, .ref h1, .int 0, .int i22, .int i23, .int i24, y15, y16, .long i25, y17], kI cI h1 24 (upd (upd f_4 3 3) 4 4)] := hD
  refine lv_iinc (v := 5) (lv' := [(1, .int 5), (0, .ref h0)]) hx hb dX11_byText_38 hl (k := 0) rfl (by decide) (by decide) rfl (fun ls hl => ?_)
  refine lv_goto (tgt := 25) hx hb dX11_byText_41 (by decide) ?_
  refine lv_iload_n hx hb dX11_byText_25 rfl (lv_at hl 0 rfl) ?_
  refine lv_bipush (v := 24) hx hb dX11_byText_26 (by decide) ?_
  refine lv_icmp_ge (tgt := 44) hx hb dX11_byText_28 (by decide) (fun c_7 => absurd c_7 (by decide)) (fun _ => ?_)
  refine lv_aload_n hx hb dX11_byText_31 rfl (lv_at hl 1 rfl) ?_
  refine va_get (D := D) (ci := 10) (v := .ref h1) (C := RX11) (T := TX11) (N := 46) hx hb hts u_X11 hown hE.1 hP 0 rfl rfl 37 (by decide) (hts _ w_1338) (fun _ h9 => h9) rfl dX11_byText_32 ?_
  refine lv_iload_n hx hb dX11_byText_35 rfl (lv_at hl 0 rfl) ?_
  refine lv_iload_n hx hb dX11_byText_36 rfl (lv_at hl 0 rfl) ?_
  refine va_iast hx hb hE.1 hP hD hS 1 1 rfl rfl (kk_ix _ _ (by decide)) dX11_byText_37 (fun H locs hP hD hS => ?_)
  obtain ⟨f_8, ef_8⟩ : ∃ z, z = (upd (upd (upd f_4 3 3) 4 4) 5 5) := ⟨_, rfl⟩
  have hP : va_P D vwCl [kO h0 10 [y0, .int i0, .int i1, y1, .int i2, .int i3, .int i4, .int i5, .int i6, .int i7, .int i8, .int i9, .int i10, .int i11, .int 0, .int i12, .int i13, .int i14, y2, y3, y4, y5, y6, y7, y8, y9, .int i15, y10, .int i16, .int i17, y11, y12, y13, y14, .int 0, .int 0, .int 0, .ref h1, .int 0, .int i22, .int i23, .int i24, y15, y16, .long i25, y17], kI cI h1 24 f_8] H := by rw [ef_8]; exact hP
  have hD : va_D A [kO h0 10 [y0, .int i0, .int i1, y1, .int i2, .int i3, .int i4, .int i5, .int i6, .int i7, .int i8, .int i9, .int i10, .int i11, .int 0, .int i12, .int i13, .int i14, y2, y3, y4, y5, y6, y7, y8, y9, .int i15, y10, .int i16, .int i17, y11, y12, y13, y14, .int 0, .int 0, .int 0, .ref h1, .int 0, .int i22, .int i23, .int i24, y15, y16, .long i25, y17], kI cI h1 24 f_8] := by rw [ef_8]; exact hD
  refine lv_iinc (v := 6) (lv' := [(1, .int 6), (0, .ref h0)]) hx hb dX11_byText_38 hl (k := 0) rfl (by decide) (by decide) rfl (fun ls hl => ?_)
  refine lv_goto (tgt := 25) hx hb dX11_byText_41 (by decide) ?_
  refine lv_iload_n hx hb dX11_byText_25 rfl (lv_at hl 0 rfl) ?_
  refine lv_bipush (v := 24) hx hb dX11_byText_26 (by decide) ?_
  refine lv_icmp_ge (tgt := 44) hx hb dX11_byText_28 (by decide) (fun c_9 => absurd c_9 (by decide)) (fun _ => ?_)
  refine lv_aload_n hx hb dX11_byText_31 rfl (lv_at hl 1 rfl) ?_
  refine va_get (D := D) (ci := 10) (v := .ref h1) (C := RX11) (T := TX11) (N := 46) hx hb hts u_X11 hown hE.1 hP 0 rfl rfl 37 (by decide) (hts _ w_1338) (fun _ h9 => h9) rfl dX11_byText_32 ?_
  refine lv_iload_n hx hb dX11_byText_35 rfl (lv_at hl 0 rfl) ?_
  refine lv_iload_n hx hb dX11_byText_36 rfl (lv_at hl 0 rfl) ?_
  refine va_iast hx hb hE.1 hP hD hS 1 1 rfl rfl (kk_ix _ _ (by decide)) dX11_byText_37 (fun H locs hP hD hS => ?_)
  have hP : va_P D vwCl [kO h0 10 [y0, .int i0, .int i1, y1, .int i2, .int i3, .int i4, .int i5, .int i6, .int i7, .int i8, .int i9, .int i10, .int i11, .int 0, .int i12, .int i13, .int i14, y2, y3, y4, y5, y6, y7, y8, y9, .int i15, y10, .int i16, .int i17, y11, y12, y13, y14, .int 0, .int 0, .int 0, .ref h1, .int 0, .int i22, .int i23, .int i24, y15, y16, .long i25, y17], kI cI h1 24 (upd f_8 6 6)] H := hP
  have hD : va_D A [kO h0 10 [y0, .int i0, .int i1, y1, .int i2, .int i3, .int i4, .int i5, .int i6, .int i7, .int i8, .int i9, .int i10, .int i11, .int 0, .int i12, .int i13, .int i14, y2, y3, y4, y5, y6, y7, y8, y9, .int i15, y10, .int i16, .int i17, y11, y12, y13, y14, .int 0, .int 0, .int 0, .ref h1, .int 0, .int i22, .int i23, .int i24, y15, y16, .long i25, y17], kI cI h1 24 (upd f_8 6 6)] := hD
  refine lv_iinc (v := 7) (lv' := [(1, .int 7), (0, .ref h0)]) hx hb dX11_byText_38 hl (k := 0) rfl (by decide) (by decide) rfl (fun ls hl => ?_)
  refine lv_goto (tgt := 25) hx hb dX11_byText_41 (by decide) ?_
  refine lv_iload_n hx hb dX11_byText_25 rfl (lv_at hl 0 rfl) ?_
  refine lv_bipush (v := 24) hx hb dX11_byText_26 (by decide) ?_
  refine lv_icmp_ge (tgt := 44) hx hb dX11_byText_28 (by decide) (fun c_10 => absurd c_10 (by decide)) (fun _ => ?_)
  refine lv_aload_n hx hb dX11_byText_31 rfl (lv_at hl 1 rfl) ?_
  refine va_get (D := D) (ci := 10) (v := .ref h1) (C := RX11) (T := TX11) (N := 46) hx hb hts u_X11 hown hE.1 hP 0 rfl rfl 37 (by decide) (hts _ w_1338) (fun _ h9 => h9) rfl dX11_byText_32 ?_
  refine lv_iload_n hx hb dX11_byText_35 rfl (lv_at hl 0 rfl) ?_
  refine lv_iload_n hx hb dX11_byText_36 rfl (lv_at hl 0 rfl) ?_
  refine va_iast hx hb hE.1 hP hD hS 1 1 rfl rfl (kk_ix _ _ (by decide)) dX11_byText_37 (fun H locs hP hD hS => ?_)
  have hP : va_P D vwCl [kO h0 10 [y0, .int i0, .int i1, y1, .int i2, .int i3, .int i4, .int i5, .int i6, .int i7, .int i8, .int i9, .int i10, .int i11, .int 0, .int i12, .int i13, .int i14, y2, y3, y4, y5, y6, y7, y8, y9, .int i15, y10, .int i16, .int i17, y11, y12, y13, y14, .int 0, .int 0, .int 0, .ref h1, .int 0, .int i22, .int i23, .int i24, y15, y16, .long i25, y17], kI cI h1 24 (upd (upd f_8 6 6) 7 7)] H := hP
  have hD : va_D A [kO h0 10 [y0, .int i0, .int i1, y1, .int i2, .int i3, .int i4, .int i5, .int i6, .int i7, .int i8, .int i9, .int i10, .int i11, .int 0, .int i12, .int i13, .int i14, y2, y3, y4, y5, y6, y7, y8, y9, .int i15, y10, .int i16, .int i17, y11, y12, y13, y14, .int 0, .int 0, .int 0, .ref h1, .int 0, .int i22, .int i23, .int i24, y15, y16, .long i25, y17], kI cI h1 24 (upd (upd f_8 6 6) 7 7)] := hD
  refine lv_iinc (v := 8) (lv' := [(1, .int 8), (0, .ref h0)]) hx hb dX11_byText_38 hl (k := 0) rfl (by decide) (by decide) rfl (fun ls hl => ?_)
  refine lv_goto (tgt := 25) hx hb dX11_byText_41 (by decide) ?_
  refine lv_iload_n hx hb dX11_byText_25 rfl (lv_at hl 0 rfl) ?_
  refine lv_bipush (v := 24) hx hb dX11_byText_26 (by decide) ?_
  refine lv_icmp_ge (tgt := 44) hx hb dX11_byText_28 (by decide) (fun c_11 => absurd c_11 (by decide)) (fun _ => ?_)
  refine lv_aload_n hx hb dX11_byText_31 rfl (lv_at hl 1 rfl) ?_
  refine va_get (D := D) (ci := 10) (v := .ref h1) (C := RX11) (T := TX11) (N := 46) hx hb hts u_X11 hown hE.1 hP 0 rfl rfl 37 (by decide) (hts _ w_1338) (fun _ h9 => h9) rfl dX11_byText_32 ?_
  refine lv_iload_n hx hb dX11_byText_35 rfl (lv_at hl 0 rfl) ?_
  refine lv_iload_n hx hb dX11_byText_36 rfl (lv_at hl 0 rfl) ?_
  refine va_iast hx hb hE.1 hP hD hS 1 1 rfl rfl (kk_ix _ _ (by decide)) dX11_byText_37 (fun H locs hP hD hS => ?_)
  obtain ⟨f_12, ef_12⟩ : ∃ z, z = (upd (upd (upd f_8 6 6) 7 7) 8 8) := ⟨_, rfl⟩
  have hP : va_P D vwCl [kO h0 10 [y0, .int i0, .int i1, y1, .int i2, .int i3, .int i4, .int i5, .int i6, .int i7, .int i8, .int i9, .int i10, .int i11, .int 0, .int i12, .int i13, .int i14, y2, y3, y4, y5, y6, y7, y8, y9, .int i15, y10, .int i16, .int i17, y11, y12, y13, y14, .int 0, .int 0, .int 0, .ref h1, .int 0, .int i22, .int i23, .int i24, y15, y16, .long i25, y17], kI cI h1 24 f_12] H := by rw [ef_12]; exact hP
  have hD : va_D A [kO h0 10 [y0, .int i0, .int i1, y1, .int i2, .int i3, .int i4, .int i5, .int i6, .int i7, .int i8, .int i9, .int i10, .int i11, .int 0, .int i12, .int i13, .int i14, y2, y3, y4, y5, y6, y7, y8, y9, .int i15, y10, .int i16, .int i17, y11, y12, y13, y14, .int 0, .int 0, .int 0, .ref h1, .int 0, .int i22, .int i23, .int i24, y15, y16, .long i25, y17], kI cI h1 24 f_12] := by rw [ef_12]; exact hD
  refine lv_iinc (v := 9) (lv' := [(1, .int 9), (0, .ref h0)]) hx hb dX11_byText_38 hl (k := 0) rfl (by decide) (by decide) rfl (fun ls hl => ?_)
  refine lv_goto (tgt := 25) hx hb dX11_byText_41 (by decide) ?_
  refine lv_iload_n hx hb dX11_byText_25 rfl (lv_at hl 0 rfl) ?_
  refine lv_bipush (v := 24) hx hb dX11_byText_26 (by decide) ?_
  refine lv_icmp_ge (tgt := 44) hx hb dX11_byText_28 (by decide) (fun c_13 => absurd c_13 (by decide)) (fun _ => ?_)
  refine lv_aload_n hx hb dX11_byText_31 rfl (lv_at hl 1 rfl) ?_
  refine va_get (D := D) (ci := 10) (v := .ref h1) (C := RX11) (T := TX11) (N := 46) hx hb hts u_X11 hown hE.1 hP 0 rfl rfl 37 (by decide) (hts _ w_1338) (fun _ h9 => h9) rfl dX11_byText_32 ?_
  refine lv_iload_n hx hb dX11_byText_35 rfl (lv_at hl 0 rfl) ?_
  refine lv_iload_n hx hb dX11_byText_36 rfl (lv_at hl 0 rfl) ?_
  refine va_iast hx hb hE.1 hP hD hS 1 1 rfl rfl (kk_ix _ _ (by decide)) dX11_byText_37 (fun H locs hP hD hS => ?_)
  have hP : va_P D vwCl [kO h0 10 [y0, .int i0, .int i1, y1, .int i2, .int i3, .int i4, .int i5, .int i6, .int i7, .int i8, .int i9, .int i10, .int i11, .int 0, .int i12, .int i13, .int i14, y2, y3, y4, y5, y6, y7, y8, y9, .int i15, y10, .int i16, .int i17, y11, y12, y13, y14, .int 0, .int 0, .int 0, .ref h1, .int 0, .int i22, .int i23, .int i24, y15, y16, .long i25, y17], kI cI h1 24 (upd f_12 9 9)] H := hP
  have hD : va_D A [kO h0 10 [y0, .int i0, .int i1, y1, .int i2, .int i3, .int i4, .int i5, .int i6, .int i7, .int i8, .int i9, .int i10, .int i11, .int 0, .int i12, .int i13, .int i14, y2, y3, y4, y5, y6, y7, y8, y9, .int i15, y10, .int i16, .int i17, y11, y12, y13, y14, .int 0, .int 0, .int 0, .ref h1, .int 0, .int i22, .int i23, .int i24, y15, y16, .long i25, y17], kI cI h1 24 (upd f_12 9 9)] := hD
  refine lv_iinc (v := 10) (lv' := [(1, .int 10), (0, .ref h0)]) hx hb dX11_byText_38 hl (k := 0) rfl (by decide) (by decide) rfl (fun ls hl => ?_)
  refine lv_goto (tgt := 25) hx hb dX11_byText_41 (by decide) ?_
  refine lv_iload_n hx hb dX11_byText_25 rfl (lv_at hl 0 rfl) ?_
  refine lv_bipush (v := 24) hx hb dX11_byText_26 (by decide) ?_
  refine lv_icmp_ge (tgt := 44) hx hb dX11_byText_28 (by decide) (fun c_14 => absurd c_14 (by decide)) (fun _ => ?_)
  refine lv_aload_n hx hb dX11_byText_31 rfl (lv_at hl 1 rfl) ?_
  refine va_get (D := D) (ci := 10) (v := .ref h1) (C := RX11) (T := TX11) (N := 46) hx hb hts u_X11 hown hE.1 hP 0 rfl rfl 37 (by decide) (hts _ w_1338) (fun _ h9 => h9) rfl dX11_byText_32 ?_
  refine lv_iload_n hx hb dX11_byText_35 rfl (lv_at hl 0 rfl) ?_
  refine lv_iload_n hx hb dX11_byText_36 rfl (lv_at hl 0 rfl) ?_
  refine va_iast hx hb hE.1 hP hD hS 1 1 rfl rfl (kk_ix _ _ (by decide)) dX11_byText_37 (fun H locs hP hD hS => ?_)
  have hP : va_P D vwCl [kO h0 10 [y0, .int i0, .int i1, y1, .int i2, .int i3, .int i4, .int i5, .int i6, .int i7, .int i8, .int i9, .int i10, .int i11, .int 0, .int i12, .int i13, .int i14, y2, y3, y4, y5, y6, y7, y8, y9, .int i15, y10, .int i16, .int i17, y11, y12, y13, y14, .int 0, .int 0, .int 0, .ref h1, .int 0, .int i22, .int i23, .int i24, y15, y16, .long i25, y17], kI cI h1 24 (upd (upd f_12 9 9) 10 10)] H := hP
  have hD : va_D A [kO h0 10 [y0, .int i0, .int i1, y1, .int i2, .int i3, .int i4, .int i5, .int i6, .int i7, .int i8, .int i9, .int i10, .int i11, .int 0, .int i12, .int i13, .int i14, y2, y3, y4, y5, y6, y7, y8, y9, .int i15, y10, .int i16, .int i17, y11, y12, y13, y14, .int 0, .int 0, .int 0, .ref h1, .int 0, .int i22, .int i23, .int i24, y15, y16, .long i25, y17], kI cI h1 24 (upd (upd f_12 9 9) 10 10)] := hD
  refine lv_iinc (v := 11) (lv' := [(1, .int 11), (0, .ref h0)]) hx hb dX11_byText_38 hl (k := 0) rfl (by decide) (by decide) rfl (fun ls hl => ?_)
  refine lv_goto (tgt := 25) hx hb dX11_byText_41 (by decide) ?_
  refine lv_iload_n hx hb dX11_byText_25 rfl (lv_at hl 0 rfl) ?_
  refine lv_bipush (v := 24) hx hb dX11_byText_26 (by decide) ?_
  refine lv_icmp_ge (tgt := 44) hx hb dX11_byText_28 (by decide) (fun c_15 => absurd c_15 (by decide)) (fun _ => ?_)
  refine lv_aload_n hx hb dX11_byText_31 rfl (lv_at hl 1 rfl) ?_
  refine va_get (D := D) (ci := 10) (v := .ref h1) (C := RX11) (T := TX11) (N := 46) hx hb hts u_X11 hown hE.1 hP 0 rfl rfl 37 (by decide) (hts _ w_1338) (fun _ h9 => h9) rfl dX11_byText_32 ?_
  refine lv_iload_n hx hb dX11_byText_35 rfl (lv_at hl 0 rfl) ?_
  refine lv_iload_n hx hb dX11_byText_36 rfl (lv_at hl 0 rfl) ?_
  refine va_iast hx hb hE.1 hP hD hS 1 1 rfl rfl (kk_ix _ _ (by decide)) dX11_byText_37 (fun H locs hP hD hS => ?_)
  obtain ⟨f_16, ef_16⟩ : ∃ z, z = (upd (upd (upd f_12 9 9) 10 10) 11 11) := ⟨_, rfl⟩
  have hP : va_P D vwCl [kO h0 10 [y0, .int i0, .int i1, y1, .int i2, .int i3, .int i4, .int i5, .int i6, .int i7, .int i8, .int i9, .int i10, .int i11, .int 0, .int i12, .int i13, .int i14, y2, y3, y4, y5, y6, y7, y8, y9, .int i15, y10, .int i16, .int i17, y11, y12, y13, y14, .int 0, .int 0, .int 0, .ref h1, .int 0, .int i22, .int i23, .int i24, y15, y16, .long i25, y17], kI cI h1 24 f_16] H := by rw [ef_16]; exact hP
  have hD : va_D A [kO h0 10 [y0, .int i0, .int i1, y1, .int i2, .int i3, .int i4, .int i5, .int i6, .int i7, .int i8, .int i9, .int i10, .int i11, .int 0, .int i12, .int i13, .int i14, y2, y3, y4, y5, y6, y7, y8, y9, .int i15, y10, .int i16, .int i17, y11, y12, y13, y14, .int 0, .int 0, .int 0, .ref h1, .int 0, .int i22, .int i23, .int i24, y15, y16, .long i25, y17], kI cI h1 24 f_16] := by rw [ef_16]; exact hD
  refine lv_iinc (v := 12) (lv' := [(1, .int 12), (0, .ref h0)]) hx hb dX11_byText_38 hl (k := 0) rfl (by decide) (by decide) rfl (fun ls hl => ?_)
  refine lv_goto (tgt := 25) hx hb dX11_byText_41 (by decide) ?_
  refine lv_iload_n hx hb dX11_byText_25 rfl (lv_at hl 0 rfl) ?_
  refine lv_bipush (v := 24) hx hb dX11_byText_26 (by decide) ?_
  refine lv_icmp_ge (tgt := 44) hx hb dX11_byText_28 (by decide) (fun c_17 => absurd c_17 (by decide)) (fun _ => ?_)
  refine lv_aload_n hx hb dX11_byText_31 rfl (lv_at hl 1 rfl) ?_
  refine va_get (D := D) (ci := 10) (v := .ref h1) (C := RX11) (T := TX11) (N := 46) hx hb hts u_X11 hown hE.1 hP 0 rfl rfl 37 (by decide) (hts _ w_1338) (fun _ h9 => h9) rfl dX11_byText_32 ?_
  refine lv_iload_n hx hb dX11_byText_35 rfl (lv_at hl 0 rfl) ?_
  refine lv_iload_n hx hb dX11_byText_36 rfl (lv_at hl 0 rfl) ?_
  refine va_iast hx hb hE.1 hP hD hS 1 1 rfl rfl (kk_ix _ _ (by decide)) dX11_byText_37 (fun H locs hP hD hS => ?_)
  have hP : va_P D vwCl [kO h0 10 [y0, .int i0, .int i1, y1, .int i2, .int i3, .int i4, .int i5, .int i6, .int i7, .int i8, .int i9, .int i10, .int i11, .int 0, .int i12, .int i13, .int i14, y2, y3, y4, y5, y6, y7, y8, y9, .int i15, y10, .int i16, .int i17, y11, y12, y13, y14, .int 0, .int 0, .int 0, .ref h1, .int 0, .int i22, .int i23, .int i24, y15, y16, .long i25, y17], kI cI h1 24 (upd f_16 12 12)] H := hP
  have hD : va_D A [kO h0 10 [y0, .int i0, .int i1, y1, .int i2, .int i3, .int i4, .int i5, .int i6, .int i7, .int i8, .int i9, .int i10, .int i11, .int 0, .int i12, .int i13, .int i14, y2, y3, y4, y5, y6, y7, y8, y9, .int i15, y10, .int i16, .int i17, y11, y12, y13, y14, .int 0, .int 0, .int 0, .ref h1, .int 0, .int i22, .int i23, .int i24, y15, y16, .long i25, y17], kI cI h1 24 (upd f_16 12 12)] := hD
  refine lv_iinc (v := 13) (lv' := [(1, .int 13), (0, .ref h0)]) hx hb dX11_byText_38 hl (k := 0) rfl (by decide) (by decide) rfl (fun ls hl => ?_)
  refine lv_goto (tgt := 25) hx hb dX11_byText_41 (by decide) ?_
  refine lv_iload_n hx hb dX11_byText_25 rfl (lv_at hl 0 rfl) ?_
  refine lv_bipush (v := 24) hx hb dX11_byText_26 (by decide) ?_
  refine lv_icmp_ge (tgt := 44) hx hb dX11_byText_28 (by decide) (fun c_18 => absurd c_18 (by decide)) (fun _ => ?_)
  refine lv_aload_n hx hb dX11_byText_31 rfl (lv_at hl 1 rfl) ?_
  refine va_get (D := D) (ci := 10) (v := .ref h1) (C := RX11) (T := TX11) (N := 46) hx hb hts u_X11 hown hE.1 hP 0 rfl rfl 37 (by decide) (hts _ w_1338) (fun _ h9 => h9) rfl dX11_byText_32 ?_
  refine lv_iload_n hx hb dX11_byText_35 rfl (lv_at hl 0 rfl) ?_
  refine lv_iload_n hx hb dX11_byText_36 rfl (lv_at hl 0 rfl) ?_
  refine va_iast hx hb hE.1 hP hD hS 1 1 rfl rfl (kk_ix _ _ (by decide)) dX11_byText_37 (fun H locs hP hD hS => ?_)
  have hP : va_P D vwCl [kO h0 10 [y0, .int i0, .int i1, y1, .int i2, .int i3, .int i4, .int i5, .int i6, .int i7, .int i8, .int i9, .int i10, .int i11, .int 0, .int i12, .int i13, .int i14, y2, y3, y4, y5, y6, y7, y8, y9, .int i15, y10, .int i16, .int i17, y11, y12, y13, y14, .int 0, .int 0, .int 0, .ref h1, .int 0, .int i22, .int i23, .int i24, y15, y16, .long i25, y17], kI cI h1 24 (upd (upd f_16 12 12) 13 13)] H := hP
  have hD : va_D A [kO h0 10 [y0, .int i0, .int i1, y1, .int i2, .int i3, .int i4, .int i5, .int i6, .int i7, .int i8, .int i9, .int i10, .int i11, .int 0, .int i12, .int i13, .int i14, y2, y3, y4, y5, y6, y7, y8, y9, .int i15, y10, .int i16, .int i17, y11, y12, y13, y14, .int 0, .int 0, .int 0, .ref h1, .int 0, .int i22, .int i23, .int i24, y15, y16, .long i25, y17], kI cI h1 24 (upd (upd f_16 12 12) 13 13)] := hD
  refine lv_iinc (v := 14) (lv' := [(1, .int 14), (0, .ref h0)]) hx hb dX11_byText_38 hl (k := 0) rfl (by decide) (by decide) rfl (fun ls hl => ?_)
  refine lv_goto (tgt := 25) hx hb dX11_byText_41 (by decide) ?_
  refine lv_iload_n hx hb dX11_byText_25 rfl (lv_at hl 0 rfl) ?_
  refine lv_bipush (v := 24) hx hb dX11_byText_26 (by decide) ?_
  refine lv_icmp_ge (tgt := 44) hx hb dX11_byText_28 (by decide) (fun c_19 => absurd c_19 (by decide)) (fun _ => ?_)
  refine lv_aload_n hx hb dX11_byText_31 rfl (lv_at hl 1 rfl) ?_
  refine va_get (D := D) (ci := 10) (v := .ref h1) (C := RX11) (T := TX11) (N := 46) hx hb hts u_X11 hown hE.1 hP 0 rfl rfl 37 (by decide) (hts _ w_1338) (fun _ h9 => h9) rfl dX11_byText_32 ?_
  refine lv_iload_n hx hb dX11_byText_35 rfl (lv_at hl 0 rfl) ?_
  refine lv_iload_n hx hb dX11_byText_36 rfl (lv_at hl 0 rfl) ?_
  refine va_iast hx hb hE.1 hP hD hS 1 1 rfl rfl (kk_ix _ _ (by decide)) dX11_byText_37 (fun H locs hP hD hS => ?_)
  obtain ⟨f_20, ef_20⟩ : ∃ z, z = (upd (upd (upd f_16 12 12) 13 13) 14 14) := ⟨_, rfl⟩
  have hP : va_P D vwCl [kO h0 10 [y0, .int i0, .int i1, y1, .int i2, .int i3, .int i4, .int i5, .int i6, .int i7, .int i8, .int i9, .int i10, .int i11, .int 0, .int i12, .int i13, .int i14, y2, y3, y4, y5, y6, y7, y8, y9, .int i15, y10, .int i16, .int i17, y11, y12, y13, y14, .int 0, .int 0, .int 0, .ref h1, .int 0, .int i22, .int i23, .int i24, y15, y16, .long i25, y17], kI cI h1 24 f_20] H := by rw [ef_20]; exact hP
  have hD : va_D A [kO h0 10 [y0, .int i0, .int i1, y1, .int i2, .int i3, .int i4, .int i5, .int i6, .int i7, .int i8, .int i9, .int i10, .int i11, .int 0, .int i12, .int i13, .int i14, y2, y3, y4, y5, y6, y7, y8, y9, .int i15, y10, .int i16, .int i17, y11, y12, y13, y14, .int 0, .int 0, .int 0, .ref h1, .int 0, .int i22, .int i23, .int i24, y15, y16, .long i25, y17], kI cI h1 24 f_20] := by rw [ef_20]; exact hD
  refine lv_iinc (v := 15) (lv' := [(1, .int 15), (0, .ref h0)]) hx hb dX11_byText_38 hl (k := 0) rfl (by decide) (by decide) rfl (fun ls hl => ?_)
  refine lv_goto (tgt := 25) hx hb dX11_byText_41 (by decide) ?_
  refine lv_iload_n hx hb dX11_byText_25 rfl (lv_at hl 0 rfl) ?_
  refine lv_bipush (v := 24) hx hb dX11_byText_26 (by decide) ?_
  refine lv_icmp_ge (tgt := 44) hx hb dX11_byText_28 (by decide) (fun c_21 => absurd c_21 (by decide)) (fun _ => ?_)
  refine lv_aload_n hx hb dX11_byText_31 rfl (lv_at hl 1 rfl) ?_
  refine va_get (D := D) (ci := 10) (v := .ref h1) (C := RX11) (T := TX11) (N := 46) hx hb hts u_X11 hown hE.1 hP 0 rfl rfl 37 (by decide) (hts _ w_1338) (fun _ h9 => h9) rfl dX11_byText_32 ?_
  refine lv_iload_n hx hb dX11_byText_35 rfl (lv_at hl 0 rfl) ?_
  refine lv_iload_n hx hb dX11_byText_36 rfl (lv_at hl 0 rfl) ?_
  refine va_iast hx hb hE.1 hP hD hS 1 1 rfl rfl (kk_ix _ _ (by decide)) dX11_byText_37 (fun H locs hP hD hS => ?_)
  have hP : va_P D vwCl [kO h0 10 [y0, .int i0, .int i1, y1, .int i2, .int i3, .int i4, .int i5, .int i6, .int i7, .int i8, .int i9, .int i10, .int i11, .int 0, .int i12, .int i13, .int i14, y2, y3, y4, y5, y6, y7, y8, y9, .int i15, y10, .int i16, .int i17, y11, y12, y13, y14, .int 0, .int 0, .int 0, .ref h1, .int 0, .int i22, .int i23, .int i24, y15, y16, .long i25, y17], kI cI h1 24 (upd f_20 15 15)] H := hP
  have hD : va_D A [kO h0 10 [y0, .int i0, .int i1, y1, .int i2, .int i3, .int i4, .int i5, .int i6, .int i7, .int i8, .int i9, .int i10, .int i11, .int 0, .int i12, .int i13, .int i14, y2, y3, y4, y5, y6, y7, y8, y9, .int i15, y10, .int i16, .int i17, y11, y12, y13, y14, .int 0, .int 0, .int 0, .ref h1, .int 0, .int i22, .int i23, .int i24, y15, y16, .long i25, y17], kI cI h1 24 (upd f_20 15 15)] := hD
  refine lv_iinc (v := 16) (lv' := [(1, .int 16), (0, .ref h0)]) hx hb dX11_byText_38 hl (k := 0) rfl (by decide) (by decide) rfl (fun ls hl => ?_)
  refine lv_goto (tgt := 25) hx hb dX11_byText_41 (by decide) ?_
  refine lv_iload_n hx hb dX11_byText_25 rfl (lv_at hl 0 rfl) ?_
  refine lv_bipush (v := 24) hx hb dX11_byText_26 (by decide) ?_
  refine lv_icmp_ge (tgt := 44) hx hb dX11_byText_28 (by decide) (fun c_22 => absurd c_22 (by decide)) (fun _ => ?_)
  refine lv_aload_n hx hb dX11_byText_31 rfl (lv_at hl 1 rfl) ?_
  refine va_get (D := D) (ci := 10) (v := .ref h1) (C := RX11) (T := TX11) (N := 46) hx hb hts u_X11 hown hE.1 hP 0 rfl rfl 37 (by decide) (hts _ w_1338) (fun _ h9 => h9) rfl dX11_byText_32 ?_
  refine lv_iload_n hx hb dX11_byText_35 rfl (lv_at hl 0 rfl) ?_
  refine lv_iload_n hx hb dX11_byText_36 rfl (lv_at hl 0 rfl) ?_
  refine va_iast hx hb hE.1 hP hD hS 1 1 rfl rfl (kk_ix _ _ (by decide)) dX11_byText_37 (fun H locs hP hD hS => ?_)
  have hP : va_P D vwCl [kO h0 10 [y0, .int i0, .int i1, y1, .int i2, .int i3, .int i4, .int i5, .int i6, .int i7, .int i8, .int i9, .int i10, .int i11, .int 0, .int i12, .int i13, .int i14, y2, y3, y4, y5, y6, y7, y8, y9, .int i15, y10, .int i16, .int i17, y11, y12, y13, y14, .int 0, .int 0, .int 0, .ref h1, .int 0, .int i22, .int i23, .int i24, y15, y16, .long i25, y17], kI cI h1 24 (upd (upd f_20 15 15) 16 16)] H := hP
  have hD : va_D A [kO h0 10 [y0, .int i0, .int i1, y1, .int i2, .int i3, .int i4, .int i5, .int i6, .int i7, .int i8, .int i9, .int i10, .int i11, .int 0, .int i12, .int i13, .int i14, y2, y3, y4, y5, y6, y7, y8, y9, .int i15, y10, .int i16, .int i17, y11, y12, y13, y14, .int 0, .int 0, .int 0, .ref h1, .int 0, .int i22, .int i23, .int i24, y15, y16, .long i25, y17], kI cI h1 24 (upd (upd f_20 15 15) 16 16)] := hD
  refine lv_iinc (v := 17) (lv' := [(1, .int 17), (0, .ref h0)]) hx hb dX11_byText_38 hl (k := 0) rfl (by decide) (by decide) rfl (fun ls hl => ?_)
  refine lv_goto (tgt := 25) hx hb dX11_byText_41 (by decide) ?_
  refine lv_iload_n hx hb dX11_byText_25 rfl (lv_at hl 0 rfl) ?_
  refine lv_bipush (v := 24) hx hb dX11_byText_26 (by decide) ?_
  refine lv_icmp_ge (tgt := 44) hx hb dX11_byText_28 (by decide) (fun c_23 => absurd c_23 (by decide)) (fun _ => ?_)
  refine lv_aload_n hx hb dX11_byText_31 rfl (lv_at hl 1 rfl) ?_
  refine va_get (D := D) (ci := 10) (v := .ref h1) (C := RX11) (T := TX11) (N := 46) hx hb hts u_X11 hown hE.1 hP 0 rfl rfl 37 (by decide) (hts _ w_1338) (fun _ h9 => h9) rfl dX11_byText_32 ?_
  refine lv_iload_n hx hb dX11_byText_35 rfl (lv_at hl 0 rfl) ?_
  refine lv_iload_n hx hb dX11_byText_36 rfl (lv_at hl 0 rfl) ?_
  refine va_iast hx hb hE.1 hP hD hS 1 1 rfl rfl (kk_ix _ _ (by decide)) dX11_byText_37 (fun H locs hP hD hS => ?_)
  obtain ⟨f_24, ef_24⟩ : ∃ z, z = (upd (upd (upd f_20 15 15) 16 16) 17 17) := ⟨_, rfl⟩
  have hP : va_P D vwCl [kO h0 10 [y0, .int i0, .int i1, y1, .int i2, .int i3, .int i4, .int i5, .int i6, .int i7, .int i8, .int i9, .int i10, .int i11, .int 0, .int i12, .int i13, .int i14, y2, y3, y4, y5, y6, y7, y8, y9, .int i15, y10, .int i16, .int i17, y11, y12, y13, y14, .int 0, .int 0, .int 0, .ref h1, .int 0, .int i22, .int i23, .int i24, y15, y16, .long i25, y17], kI cI h1 24 f_24] H := by rw [ef_24]; exact hP
  have hD : va_D A [kO h0 10 [y0, .int i0, .int i1, y1, .int i2, .int i3, .int i4, .int i5, .int i6, .int i7, .int i8, .int i9, .int i10, .int i11, .int 0, .int i12, .int i13, .int i14, y2, y3, y4, y5, y6, y7, y8, y9, .int i15, y10, .int i16, .int i17, y11, y12, y13, y14, .int 0, .int 0, .int 0, .ref h1, .int 0, .int i22, .int i23, .int i24, y15, y16, .long i25, y17], kI cI h1 24 f_24] := by rw [ef_24]; exact hD
  refine lv_iinc (v := 18) (lv' := [(1, .int 18), (0, .ref h0)]) hx hb dX11_byText_38 hl (k := 0) rfl (by decide) (by decide) rfl (fun ls hl => ?_)
  refine lv_goto (tgt := 25) hx hb dX11_byText_41 (by decide) ?_
  refine lv_iload_n hx hb dX11_byText_25 rfl (lv_at hl 0 rfl) ?_
  refine lv_bipush (v := 24) hx hb dX11_byText_26 (by decide) ?_
  refine lv_icmp_ge (tgt := 44) hx hb dX11_byText_28 (by decide) (fun c_25 => absurd c_25 (by decide)) (fun _ => ?_)
  refine lv_aload_n hx hb dX11_byText_31 rfl (lv_at hl 1 rfl) ?_
  refine va_get (D := D) (ci := 10) (v := .ref h1) (C := RX11) (T := TX11) (N := 46) hx hb hts u_X11 hown hE.1 hP 0 rfl rfl 37 (by decide) (hts _ w_1338) (fun _ h9 => h9) rfl dX11_byText_32 ?_
  refine lv_iload_n hx hb dX11_byText_35 rfl (lv_at hl 0 rfl) ?_
  refine lv_iload_n hx hb dX11_byText_36 rfl (lv_at hl 0 rfl) ?_
  refine va_iast hx hb hE.1 hP hD hS 1 1 rfl rfl (kk_ix _ _ (by decide)) dX11_byText_37 (fun H locs hP hD hS => ?_)
  have hP : va_P D vwCl [kO h0 10 [y0, .int i0, .int i1, y1, .int i2, .int i3, .int i4, .int i5, .int i6, .int i7, .int i8, .int i9, .int i10, .int i11, .int 0, .int i12, .int i13, .int i14, y2, y3, y4, y5, y6, y7, y8, y9, .int i15, y10, .int i16, .int i17, y11, y12, y13, y14, .int 0, .int 0, .int 0, .ref h1, .int 0, .int i22, .int i23, .int i24, y15, y16, .long i25, y17], kI cI h1 24 (upd f_24 18 18)] H := hP
  have hD : va_D A [kO h0 10 [y0, .int i0, .int i1, y1, .int i2, .int i3, .int i4, .int i5, .int i6, .int i7, .int i8, .int i9, .int i10, .int i11, .int 0, .int i12, .int i13, .int i14, y2, y3, y4, y5, y6, y7, y8, y9, .int i15, y10, .int i16, .int i17, y11, y12, y13, y14, .int 0, .int 0, .int 0, .ref h1, .int 0, .int i22, .int i23, .int i24, y15, y16, .long i25, y17], kI cI h1 24 (upd f_24 18 18)] := hD
  refine lv_iinc (v := 19) (lv' := [(1, .int 19), (0, .ref h0)]) hx hb dX11_byText_38 hl (k := 0) rfl (by decide) (by decide) rfl (fun ls hl => ?_)
  refine lv_goto (tgt := 25) hx hb dX11_byText_41 (by decide) ?_
  refine lv_iload_n hx hb dX11_byText_25 rfl (lv_at hl 0 rfl) ?_
  refine lv_bipush (v := 24) hx hb dX11_byText_26 (by decide) ?_
  refine lv_icmp_ge (tgt := 44) hx hb dX11_byText_28 (by decide) (fun c_26 => absurd c_26 (by decide)) (fun _ => ?_)
  refine lv_aload_n hx hb dX11_byText_31 rfl (lv_at hl 1 rfl) ?_
  refine va_get (D := D) (ci := 10) (v := .ref h1) (C := RX11) (T := TX11) (N := 46) hx hb hts u_X11 hown hE.1 hP 0 rfl rfl 37 (by decide) (hts _ w_1338) (fun _ h9 => h9) rfl dX11_byText_32 ?_
  refine lv_iload_n hx hb dX11_byText_35 rfl (lv_at hl 0 rfl) ?_
  refine lv_iload_n hx hb dX11_byText_36 rfl (lv_at hl 0 rfl) ?_
  refine va_iast hx hb hE.1 hP hD hS 1 1 rfl rfl (kk_ix _ _ (by decide)) dX11_byText_37 (fun H locs hP hD hS => ?_)
  have hP : va_P D vwCl [kO h0 10 [y0, .int i0, .int i1, y1, .int i2, .int i3, .int i4, .int i5, .int i6, .int i7, .int i8, .int i9, .int i10, .int i11, .int 0, .int i12, .int i13, .int i14, y2, y3, y4, y5, y6, y7, y8, y9, .int i15, y10, .int i16, .int i17, y11, y12, y13, y14, .int 0, .int 0, .int 0, .ref h1, .int 0, .int i22, .int i23, .int i24, y15, y16, .long i25, y17], kI cI h1 24 (upd (upd f_24 18 18) 19 19)] H := hP
  have hD : va_D A [kO h0 10 [y0, .int i0, .int i1, y1, .int i2, .int i3, .int i4, .int i5, .int i6, .int i7, .int i8, .int i9, .int i10, .int i11, .int 0, .int i12, .int i13, .int i14, y2, y3, y4, y5, y6, y7, y8, y9, .int i15, y10, .int i16, .int i17, y11, y12, y13, y14, .int 0, .int 0, .int 0, .ref h1, .int 0, .int i22, .int i23, .int i24, y15, y16, .long i25, y17], kI cI h1 24 (upd (upd f_24 18 18) 19 19)] := hD
  refine lv_iinc (v := 20) (lv' := [(1, .int 20), (0, .ref h0)]) hx hb dX11_byText_38 hl (k := 0) rfl (by decide) (by decide) rfl (fun ls hl => ?_)
  refine lv_goto (tgt := 25) hx hb dX11_byText_41 (by decide) ?_
  refine lv_iload_n hx hb dX11_byText_25 rfl (lv_at hl 0 rfl) ?_
  refine lv_bipush (v := 24) hx hb dX11_byText_26 (by decide) ?_
  refine lv_icmp_ge (tgt := 44) hx hb dX11_byText_28 (by decide) (fun c_27 => absurd c_27 (by decide)) (fun _ => ?_)
  refine lv_aload_n hx hb dX11_byText_31 rfl (lv_at hl 1 rfl) ?_
  refine va_get (D := D) (ci := 10) (v := .ref h1) (C := RX11) (T := TX11) (N := 46) hx hb hts u_X11 hown hE.1 hP 0 rfl rfl 37 (by decide) (hts _ w_1338) (fun _ h9 => h9) rfl dX11_byText_32 ?_
  refine lv_iload_n hx hb dX11_byText_35 rfl (lv_at hl 0 rfl) ?_
  refine lv_iload_n hx hb dX11_byText_36 rfl (lv_at hl 0 rfl) ?_
  refine va_iast hx hb hE.1 hP hD hS 1 1 rfl rfl (kk_ix _ _ (by decide)) dX11_byText_37 (fun H locs hP hD hS => ?_)
  obtain ⟨f_28, ef_28⟩ : ∃ z, z = (upd (upd (upd f_24 18 18) 19 19) 20 20) := ⟨_, rfl⟩
  have hP : va_P D vwCl [kO h0 10 [y0, .int i0, .int i1, y1, .int i2, .int i3, .int i4, .int i5, .int i6, .int i7, .int i8, .int i9, .int i10, .int i11, .int 0, .int i12, .int i13, .int i14, y2, y3, y4, y5, y6, y7, y8, y9, .int i15, y10, .int i16, .int i17, y11, y12, y13, y14, .int 0, .int 0, .int 0, .ref h1, .int 0, .int i22, .int i23, .int i24, y15, y16, .long i25, y17], kI cI h1 24 f_28] H := by rw [ef_28]; exact hP
  have hD : va_D A [kO h0 10 [y0, .int i0, .int i1, y1, .int i2, .int i3, .int i4, .int i5, .int i6, .int i7, .int i8, .int i9, .int i10, .int i11, .int 0, .int i12, .int i13, .int i14, y2, y3, y4, y5, y6, y7, y8, y9, .int i15, y10, .int i16, .int i17, y11, y12, y13, y14, .int 0, .int 0, .int 0, .ref h1, .int 0, .int i22, .int i23, .int i24, y15, y16, .long i25, y17], kI cI h1 24 f_28] := by rw [ef_28]; exact hD
  refine lv_iinc (v := 21) (lv' := [(1, .int 21), (0, .ref h0)]) hx hb dX11_byText_38 hl (k := 0) rfl (by decide) (by decide) rfl (fun ls hl => ?_)
  refine lv_goto (tgt := 25) hx hb dX11_byText_41 (by decide) ?_
  refine lv_iload_n hx hb dX11_byText_25 rfl (lv_at hl 0 rfl) ?_
  refine lv_bipush (v := 24) hx hb dX11_byText_26 (by decide) ?_
  refine lv_icmp_ge (tgt := 44) hx hb dX11_byText_28 (by decide) (fun c_29 => absurd c_29 (by decide)) (fun _ => ?_)
  refine lv_aload_n hx hb dX11_byText_31 rfl (lv_at hl 1 rfl) ?_
  refine va_get (D := D) (ci := 10) (v := .ref h1) (C := RX11) (T := TX11) (N := 46) hx hb hts u_X11 hown hE.1 hP 0 rfl rfl 37 (by decide) (hts _ w_1338) (fun _ h9 => h9) rfl dX11_byText_32 ?_
  refine lv_iload_n hx hb dX11_byText_35 rfl (lv_at hl 0 rfl) ?_
  refine lv_iload_n hx hb dX11_byText_36 rfl (lv_at hl 0 rfl) ?_
  refine va_iast hx hb hE.1 hP hD hS 1 1 rfl rfl (kk_ix _ _ (by decide)) dX11_byText_37 (fun H locs hP hD hS => ?_)
  have hP : va_P D vwCl [kO h0 10 [y0, .int i0, .int i1, y1, .int i2, .int i3, .int i4, .int i5, .int i6, .int i7, .int i8, .int i9, .int i10, .int i11, .int 0, .int i12, .int i13, .int i14, y2, y3, y4, y5, y6, y7, y8, y9, .int i15, y10, .int i16, .int i17, y11, y12, y13, y14, .int 0, .int 0, .int 0, .ref h1, .int 0, .int i22, .int i23, .int i24, y15, y16, .long i25, y17], kI cI h1 24 (upd f_28 21 21)] H := hP
  have hD : va_D A [kO h0 10 [y0, .int i0, .int i1, y1, .int i2, .int i3, .int i4, .int i5, .int i6, .int i7, .int i8, .int i9, .int i10, .int i11, .int 0, .int i12, .int i13, .int i14, y2, y3, y4, y5, y6, y7, y8, y9, .int i15, y10, .int i16, .int i17, y11, y12, y13, y14, .int 0, .int 0, .int 0, .ref h1, .int 0, .int i22, .int i23, .int i24, y15, y16, .long i25, y17], kI cI h1 24 (upd f_28 21 21)] := hD
  refine lv_iinc (v := 22) (lv' := [(1, .int 22), (0, .ref h0)]) hx hb dX11_byText_38 hl (k := 0) rfl (by decide) (by decide) rfl (fun ls hl => ?_)
  refine lv_goto (tgt := 25) hx hb dX11_byText_41 (by decide) ?_
  refine lv_iload_n hx hb dX11_byText_25 rfl (lv_at hl 0 rfl) ?_
  refine lv_bipush (v := 24) hx hb dX11_byText_26 (by decide) ?_
  refine lv_icmp_ge (tgt := 44) hx hb dX11_byText_28 (by decide) (fun c_30 => absurd c_30 (by decide)) (fun _ => ?_)
  refine lv_aload_n hx hb dX11_byText_31 rfl (lv_at hl 1 rfl) ?_
  refine va_get (D := D) (ci := 10) (v := .ref h1) (C := RX11) (T := TX11) (N := 46) hx hb hts u_X11 hown hE.1 hP 0 rfl rfl 37 (by decide) (hts _ w_1338) (fun _ h9 => h9) rfl dX11_byText_32 ?_
  refine lv_iload_n hx hb dX11_byText_35 rfl (lv_at hl 0 rfl) ?_
  refine lv_iload_n hx hb dX11_byText_36 rfl (lv_at hl 0 rfl) ?_
  refine va_iast hx hb hE.1 hP hD hS 1 1 rfl rfl (kk_ix _ _ (by decide)) dX11_byText_37 (fun H locs hP hD hS => ?_)
  have hP : va_P D vwCl [kO h0 10 [y0, .int i0, .int i1, y1, .int i2, .int i3, .int i4, .int i5, .int i6, .int i7, .int i8, .int i9, .int i10, .int i11, .int 0, .int i12, .int i13, .int i14, y2, y3, y4, y5, y6, y7, y8, y9, .int i15, y10, .int i16, .int i17, y11, y12, y13, y14, .int 0, .int 0, .int 0, .ref h1, .int 0, .int i22, .int i23, .int i24, y15, y16, .long i25, y17], kI cI h1 24 (upd (upd f_28 21 21) 22 22)] H := hP
  have hD : va_D A [kO h0 10 [y0, .int i0, .int i1, y1, .int i2, .int i3, .int i4, .int i5, .int i6, .int i7, .int i8, .int i9, .int i10, .int i11, .int 0, .int i12, .int i13, .int i14, y2, y3, y4, y5, y6, y7, y8, y9, .int i15, y10, .int i16, .int i17, y11, y12, y13, y14, .int 0, .int 0, .int 0, .ref h1, .int 0, .int i22, .int i23, .int i24, y15, y16, .long i25, y17], kI cI h1 24 (upd (upd f_28 21 21) 22 22)] := hD
  refine lv_iinc (v := 23) (lv' := [(1, .int 23), (0, .ref h0)]) hx hb dX11_byText_38 hl (k := 0) rfl (by decide) (by decide) rfl (fun ls hl => ?_)
  refine lv_goto (tgt := 25) hx hb dX11_byText_41 (by decide) ?_
  refine lv_iload_n hx hb dX11_byText_25 rfl (lv_at hl 0 rfl) ?_
  refine lv_bipush (v := 24) hx hb dX11_byText_26 (by decide) ?_
  refine lv_icmp_ge (tgt := 44) hx hb dX11_byText_28 (by decide) (fun c_31 => absurd c_31 (by decide)) (fun _ => ?_)
  refine lv_aload_n hx hb dX11_byText_31 rfl (lv_at hl 1 rfl) ?_
  refine va_get (D := D) (ci := 10) (v := .ref h1) (C := RX11) (T := TX11) (N := 46) hx hb hts u_X11 hown hE.1 hP 0 rfl rfl 37 (by decide) (hts _ w_1338) (fun _ h9 => h9) rfl dX11_byText_32 ?_
  refine lv_iload_n hx hb dX11_byText_35 rfl (lv_at hl 0 rfl) ?_
  refine lv_iload_n hx hb dX11_byText_36 rfl (lv_at hl 0 rfl) ?_
  refine va_iast hx hb hE.1 hP hD hS 1 1 rfl rfl (kk_ix _ _ (by decide)) dX11_byText_37 (fun H locs hP hD hS => ?_)
  obtain ⟨f_32, ef_32⟩ : ∃ z, z = (upd (upd (upd f_28 21 21) 22 22) 23 23) := ⟨_, rfl⟩
  have hP : va_P D vwCl [kO h0 10 [y0, .int i0, .int i1, y1, .int i2, .int i3, .int i4, .int i5, .int i6, .int i7, .int i8, .int i9, .int i10, .int i11, .int 0, .int i12, .int i13, .int i14, y2, y3, y4, y5, y6, y7, y8, y9, .int i15, y10, .int i16, .int i17, y11, y12, y13, y14, .int 0, .int 0, .int 0, .ref h1, .int 0, .int i22, .int i23, .int i24, y15, y16, .long i25, y17], kI cI h1 24 f_32] H := by rw [ef_32]; exact hP
  have hD : va_D A [kO h0 10 [y0, .int i0, .int i1, y1, .int i2, .int i3, .int i4, .int i5, .int i6, .int i7, .int i8, .int i9, .int i10, .int i11, .int 0, .int i12, .int i13, .int i14, y2, y3, y4, y5, y6, y7, y8, y9, .int i15, y10, .int i16, .int i17, y11, y12, y13, y14, .int 0, .int 0, .int 0, .ref h1, .int 0, .int i22, .int i23, .int i24, y15, y16, .long i25, y17], kI cI h1 24 f_32] := by rw [ef_32]; exact hD
  refine lv_iinc (v := 24) (lv' := [(1, .int 24), (0, .ref h0)]) hx hb dX11_byText_38 hl (k := 0) rfl (by decide) (by decide) rfl (fun ls hl => ?_)
  refine lv_goto (tgt := 25) hx hb dX11_byText_41 (by decide) ?_
  refine lv_iload_n hx hb dX11_byText_25 rfl (lv_at hl 0 rfl) ?_
  refine lv_bipush (v := 24) hx hb dX11_byText_26 (by decide) ?_
  refine lv_icmp_ge (tgt := 44) hx hb dX11_byText_28 (by decide) (fun _ => ?_) (fun c_33 => absurd c_33 (by decide))
  exact kk_ret_v ((fun i => [].getD i 0), (fun i => [f_32].getD i (fun _ => 0)), (fun i => [].getD i (fun _ => 0)), (fun i => [].getD i 0)) hx hb hr hlocks trivial (hP.sub [0, 1] rfl) (hD.sub [0, 1] (by decide +kernel) rfl) hS dX11_byText_44 (Nat.le_of_ble_eq_true rfl) (Nat.le_of_ble_eq_true rfl)
set_option maxHeartbeats 4000000 in
set_option maxRecDepth 100000 in
theorem c_X11_begin (l : Launch) (D : va_G) (cB cI cJ cD : ClassId) (h0 h1 h2 : Nat) (y0 : Value) (i0 : Int32) (i1 : Int32) (y1 : Value) (i2 : Int32) (i3 : Int32) (i4 : Int32) (i5 : Int32) (i6 : Int32) (i7 : Int32) (i8 : Int32) (i9 : Int32) (i10 : Int32) (i11 : Int32) (i12 : Int32) (i13 : Int32) (y2 : Value) (y3 : Value) (y4 : Value) (y5 : Value) (y6 : Value) (y7 : Value) (y8 : Value) (y9 : Value) (i14 : Int32) (i15 : Int32) (y10 : Value) (y11 : Value) (y12 : Value) (y13 : Value) (i16 : Int32) (i17 : Int32) (i18 : Int32) (i19 : Int32) (i20 : Int32) (i21 : Int32) (i22 : Int32) (y14 : Value) (y15 : Value) (i23 : Int64) (y16 : Value) (g0 : Nat → Int32) (g1 : Nat → Int32) (sz : Nat) : Met l yX11_begin (kk_W yX11_begin cX11_begin 2 none) ({ frames := 1, cells := 0, slots := 0, locals := 22 }) (va_Pc [.ref h0] (kk_pre D cB cI cJ cD [kO h0 10 [y0, .int i0, .int i1, y1, .int i2, .int i3, .int i4, .int i5, .int i6, .int i7, .int i8, .int i9, .int i10, .int 0, .int 0, .int i11, .int i12, .int i13, y2, y3, y4, y5, y6, y7, y8, y9, .int i14, .ref h1, .int 0, .int i15, y10, y11, y12, y13, .int i16, .int i17, .int i18, .ref h2, .int i19, .int i20, .int i21, .int i22, y14, y15, .long i23, y16], kI cI h1 5760 g0, kI cI h2 24 g1] sz)) (kk_Qv D (fun (u : (Nat → Nat) × (Nat → Nat → Int32) × (Nat → Nat → Int64) × (Nat → Int32)) => kz 0 (u.2.1 0)) (fun u => [kO h0 10 [y0, .int i0, .int i1, y1, .int i2, .int i3, .int i4, .int i5, .int i6, .int i7, .int i8, .int i9, .int i10, .int 0, .int 0, .int i11, .int i12, .int i13, y2, y3, y4, y5, y6, y7, y8, y9, .int i14, .ref h1, .int 0, .int i15, y10, y11, y12, y13, .int 0, .int 0, .int 0, .ref h2, .int 0, .int i20, .int i21, .int i22, y14, y15, .long i23, y16], kI cI h1 5760 (u.2.1 0), kI cI h2 24 (u.2.1 1)]) (va_A [kO h0 10 [y0, .int i0, .int i1, y1, .int i2, .int i3, .int i4, .int i5, .int i6, .int i7, .int i8, .int i9, .int i10, .int 0, .int 0, .int i11, .int i12, .int i13, y2, y3, y4, y5, y6, y7, y8, y9, .int i14, .ref h1, .int 0, .int i15, y10, y11, y12, y13, .int i16, .int i17, .int i18, .ref h2, .int i19, .int i20, .int i21, .int i22, y14, y15, .long i23, y16], kI cI h1 5760 g0, kI cI h2 24 g1] sz)) 0 0 (va_A [kO h0 10 [y0, .int i0, .int i1, y1, .int i2, .int i3, .int i4, .int i5, .int i6, .int i7, .int i8, .int i9, .int i10, .int 0, .int 0, .int i11, .int i12, .int i13, y2, y3, y4, y5, y6, y7, y8, y9, .int i14, .ref h1, .int 0, .int i15, y10, y11, y12, y13, .int i16, .int i17, .int i18, .ref h2, .int i19, .int i20, .int i21, .int i22, y14, y15, .long i23, y16], kI cI h1 5760 g0, kI cI h2 24 g1] sz) := by
  refine kk_start (y := yX11_begin) (maxL := 2) (av := [.ref h0]) (Qc := fun A => kk_Qv D (fun (u : (Nat → Nat) × (Nat → Nat → Int32) × (Nat → Nat → Int64) × (Nat → Int32)) => kz 0 (u.2.1 0)) (fun u => [kO h0 10 [y0, .int i0, .int i1, y1, .int i2, .int i3, .int i4, .int i5, .int i6, .int i7, .int i8, .int i9, .int i10, .int 0, .int 0, .int i11, .int i12, .int i13, y2, y3, y4, y5, y6, y7, y8, y9, .int i14, .ref h1, .int 0, .int i15, y10, y11, y12, y13, .int 0, .int 0, .int 0, .ref h2, .int 0, .int i20, .int i21, .int i22, y14, y15, .long i23, y16], kI cI h1 5760 (u.2.1 0), kI cI h2 24 (u.2.1 1)]) A) (by decide) (Nat.le_of_ble_eq_true rfl) ?_
  intro p e s m below meth c ls A hx hb hr hml hown hts hE hlocks hin hsz hP hD hA hS hl
  have hown : s.vm.findClass RX11 = some m.cls := hown
  have hl : lv_has ls 2 [(0, .ref h0)] := hl
  refine lv_iconst (v := 0) hx hb dX11_begin_0 (by decide) ?_
  refine lv_istore_n (lv' := [(1, .int 0), (0, .ref h0)]) hx hb dX11_begin_1 rfl hl (by decide) rfl (fun ls hl => ?_)
  have loop : ∀ (n k : Nat) (f : Nat → Int32) (H : Heap) (locs : List Loc) (ls : Array Slot), k + n = 320 → (∀ j, j < k → f (0 + j) = 0) → va_P D vwCl [kO h0 10 [y0, .int i0, .int i1, y1, .int i2, .int i3, .int i4, .int i5, .int i6, .int i7, .int i8, .int i9, .int i10, .int 0, .int 0, .int i11, .int i12, .int i13, y2, y3, y4, y5, y6, y7, y8, y9, .int i14, .ref h1, .int 0, .int i15, y10, y11, y12, y13, .int i16, .int i17, .int i18, .ref h2, .int i19, .int i20, .int i21, .int i22, y14, y15, .long i23, y16], kI cI h1 5760 f, kI cI h2 24 g1] H → va_D A [kO h0 10 [y0, .int i0, .int i1, y1, .int i2, .int i3, .int i4, .int i5, .int i6, .int i7, .int i8, .int i9, .int i10, .int 0, .int 0, .int i11, .int i12, .int i13, y2, y3, y4, y5, y6, y7, y8, y9, .int i14, .ref h1, .int 0, .int i15, y10, y11, y12, y13, .int i16, .int i17, .int i18, .ref h2, .int i19, .int i20, .int i21, .int i22, y14, y15, .long i23, y16], kI cI h1 5760 f, kI cI h2 24 g1] → va_S A s.heap H locs → lv_has ls 2 [(1, .int (nI k)), (0, .ref h0)] → W p l e ({ frames := 1, cells := 0, slots := 0, locals := 22 }) s m ([.ref h0] : List Value).toArray below meth c H locs 0 0 (MQ below (kk_Qv D (fun (u : (Nat → Nat) × (Nat → Nat → Int32) × (Nat → Nat → Int64) × (Nat → Int32)) => kz 0 (u.2.1 0)) (fun u => [kO h0 10 [y0, .int i0, .int i1, y1, .int i2, .int i3, .int i4, .int i5, .int i6, .int i7, .int i8, .int i9, .int i10, .int 0, .int 0, .int i11, .int i12, .int i13, y2, y3, y4, y5, y6, y7, y8, y9, .int i14, .ref h1, .int 0, .int i15, y10, y11, y12, y13, .int 0, .int 0, .int 0, .ref h2, .int 0, .int i20, .int i21, .int i22, y14, y15, .long i23, y16], kI cI h1 5760 (u.2.1 0), kI cI h2 24 (u.2.1 1)]) A) ([.ref h0] : List Value).toArray s 0 0 A) (F0 m 2 ls []) := by
    intro n
    induction n with
    | zero =>
      intro k f H locs ls hk hf hP hD hS hl
      obtain rfl : k = 320 := hk
      have hz_1 : kz 0 f := fun j h _ _ => hf j h
      refine lv_iload_n hx hb dX11_begin_2 rfl (lv_at hl 0 rfl) ?_
      refine lv_sipush (v := 320) hx hb dX11_begin_3 (by decide) ?_
      refine lv_icmp_ge (tgt := 21) hx hb dX11_begin_6 (by decide) (fun c_2 => ?_) (fun c_2 => absurd (by decide) c_2)
      refine lv_iconst (v := 0) hx hb dX11_begin_21 (by decide) ?_
      refine lv_istore_n (lv' := [(1, .int 0), (0, .ref h0)]) hx hb dX11_begin_22 rfl hl (by decide) rfl (fun ls hl => ?_)
      refine lv_iload_n hx hb dX11_begin_23 rfl (lv_at hl 0 rfl) ?_
      refine lv_aload_n hx hb dX11_begin_24 rfl (lv_at hl 1 rfl) ?_
      refine va_get (D := D) (ci := 10) (v := .int 0) (C := RX11) (T := TX11) (N := 46) hx hb hts u_X11 hown hE.1 hP 0 rfl rfl 13 (by decide) (hts _ w_1314) (fun _ h9 => h9) rfl dX11_begin_25 ?_
      refine lv_icmp_ge (tgt := 63) hx hb dX11_begin_28 (by decide) (fun _ => ?_) (fun c_3 => absurd c_3 (by decide))
      refine lv_iconst (v := 0) hx hb dX11_begin_63 (by decide) ?_
      refine lv_istore_n (lv' := [(1, .int 0), (0, .ref h0)]) hx hb dX11_begin_64 rfl hl (by decide) rfl (fun ls hl => ?_)
      refine lv_iload_n hx hb dX11_begin_65 rfl (lv_at hl 0 rfl) ?_
      refine lv_iconst (v := 5) hx hb dX11_begin_66 (by decide) ?_
      refine lv_icmp_ge (tgt := 86) hx hb dX11_begin_67 (by decide) (fun c_4 => absurd c_4 (by decide)) (fun _ => ?_)
      refine lv_aload_n hx hb dX11_begin_70 rfl (lv_at hl 1 rfl) ?_
      refine lv_sipush (v := 220) hx hb dX11_begin_71 (by decide) ?_
      refine lv_iload_n hx hb dX11_begin_74 rfl (lv_at hl 0 rfl) ?_
      refine lv_iadd hx hb dX11_begin_75 ?_
      refine lv_topi (fun v_5 e_5 => ?_)
      obtain rfl : v_5 = 220 := e_5.trans (by decide)
      refine lv_iconst (v := (-1)) hx hb dX11_begin_76 (by decide) ?_
      refine kk_cv (wr := [kI cI h2 24 g1]) (kk_runV (w1 := [kO h0 10 [y0, .int i0, .int i1, y1, .int i2, .int i3, .int i4, .int i5, .int i6, .int i7, .int i8, .int i9, .int i10, .int 0, .int 0, .int i11, .int i12, .int i13, y2, y3, y4, y5, y6, y7, y8, y9, .int i14, .ref h1, .int 0, .int i15, y10, y11, y12, y13, .int i16, .int i17, .int i18, .ref h2, .int i19, .int i20, .int i21, .int i22, y14, y15, .long i23, y16], kI cI h1 5760 f]) (As := [.int 220, .int (-1)]) (rest := []) hx hb hml hown hts hE (c_X11_lay_2 l D cB cI cJ cD h0 h1 y0 i0 i1 y1 i2 i3 i4 i5 i6 i7 i8 i9 i10 0 0 i11 i12 i13 y2 y3 y4 y5 y6 y7 y8 y9 i14 i15 y10 y11 y12 y13 i16 i17 i18 (.ref h2) i19 i20 i21 i22 y14 y15 i23 y16 f 220 (-1) H.size hz_1 (kk_ix _ _ (by decide))) m_X11_lay w_1269 ⟨rfl, rfl, Nat.le_of_ble_eq_true rfl, Nat.le_of_ble_eq_true rfl⟩ (hP.sub [0, 1] rfl) (hD.sub [0, 1] (by decide +kernel) rfl) 0 10 rfl rfl rfl hl.1 (Nat.le_of_ble_eq_true rfl) dX11_begin_77 ⟨Nat.le_of_ble_eq_true rfl, Nat.le_of_ble_eq_true rfl⟩) hP hD hS hA [0, 1] [2] rfl rfl (by decide +kernel) (by decide +kernel) (fun u_6 H locs p_6 hP hD hS => ?_)
      have hP : va_P D vwCl [kI cI h2 24 g1, kO h0 10 [y0, .int i0, .int i1, y1, .int i2, .int i3, .int i4, .int i5, .int i6, .int i7, .int i8, .int i9, .int i10, .int 0, .int 0, .int i11, .int i12, .int i13, y2, y3, y4, y5, y6, y7, y8, y9, .int i14, .ref h1, .int 0, .int i15, y10, y11, y12, y13, .int i16, .int i17, .int i18, .ref h2, .int i19, .int i20, .int i21, .int i22, y14, y15, .long i23, y16], kI cI h1 5760 (upd f (Int32.toNatClampNeg (0 + 220)) (-1))] H := hP
      have hD : va_D A [kI cI h2 24 g1, kO h0 10 [y0, .int i0, .int i1, y1, .int i2, .int i3, .int i4, .int i5, .int i6, .int i7, .int i8, .int i9, .int i10, .int 0, .int 0, .int i11, .int i12, .int i13, y2, y3, y4, y5, y6, y7, y8, y9, .int i14, .ref h1, .int 0, .int i15, y10, y11, y12, y13, .int i16, .int i17, .int i18, .ref h2, .int i19, .int i20, .int i21, .int i22, y14, y15, .long i23, y16], kI cI h1 5760 (upd f (Int32.toNatClampNeg (0 + 220)) (-1))] := hD
      have hz_8 : kz 0 (upd f (Int32.toNatClampNeg (0 + 220)) (-1)) := kz_lit hz_1 220 (by decide) (by decide)
      obtain ⟨f_7, ef_7⟩ : ∃ z, z = (upd f (Int32.toNatClampNeg (0 + 220)) (-1)) := ⟨_, rfl⟩
      rw [← ef_7] at hP hD hz_8
      refine lv_iinc (v := 1) (lv' := [(1, .int 1), (0, .ref h0)]) hx hb dX11_begin_80 hl (k := 0) rfl (by decide) (by decide) rfl (fun ls hl => ?_)
      refine lv_goto (tgt := 65) hx hb dX11_begin_83 (by decide) ?_
      refine lv_iload_n hx hb dX11_begin_65 rfl (lv_at hl 0 rfl) ?_
      refine lv_iconst (v := 5) hx hb dX11_begin_66 (by decide) ?_
      refine lv_icmp_ge (tgt := 86) hx hb dX11_begin_67 (by decide) (fun c_9 => absurd c_9 (by decide)) (fun _ => ?_)
      refine lv_aload_n hx hb dX11_begin_70 rfl (lv_at hl 1 rfl) ?_
      refine lv_sipush (v := 220) hx hb dX11_begin_71 (by decide) ?_
      refine lv_iload_n hx hb dX11_begin_74 rfl (lv_at hl 0 rfl) ?_
      refine lv_iadd hx hb dX11_begin_75 ?_
      refine lv_topi (fun v_10 e_10 => ?_)
      obtain rfl : v_10 = 221 := e_10.trans (by decide)
      refine lv_iconst (v := (-1)) hx hb dX11_begin_76 (by decide) ?_
      refine kk_cv (wr := [kI cI h2 24 g1]) (kk_runV (w1 := [kO h0 10 [y0, .int i0, .int i1, y1, .int i2, .int i3, .int i4, .int i5, .int i6, .int i7, .int i8, .int i9, .int i10, .int 0, .int 0, .int i11, .int i12, .int i13, y2, y3, y4, y5, y6, y7, y8, y9, .int i14, .ref h1, .int 0, .int i15, y10, y11, y12, y13, .int i16, .int i17, .int i18, .ref h2, .int i19, .int i20, .int i21, .int i22, y14, y15, .long i23, y16], kI cI h1 5760 f_7]) (As := [.int 221, .int (-1)]) (rest := []) hx hb hml hown hts hE (c_X11_lay_2 l D cB cI cJ cD h0 h1 y0 i0 i1 y1 i2 i3 i4 i5 i6 i7 i8 i9 i10 0 0 i11 i12 i13 y2 y3 y4 y5 y6 y7 y8 y9 i14 i15 y10 y11 y12 y13 i16 i17 i18 (.ref h2) i19 i20 i21 i22 y14 y15 i23 y16 f_7 221 (-1) H.size hz_8 (kk_ix _ _ (by decide))) m_X11_lay w_1269 ⟨rfl, rfl, Nat.le_of_ble_eq_true rfl, Nat.le_of_ble_eq_true rfl⟩ (hP.sub [1, 2] rfl) (hD.sub [1, 2] (by decide +kernel) rfl) 0 10 rfl rfl rfl hl.1 (Nat.le_of_ble_eq_true rfl) dX11_begin_77 ⟨Nat.le_of_ble_eq_true rfl, Nat.le_of_ble_eq_true rfl⟩) hP hD hS hA [1, 2] [0] rfl rfl (by decide +kernel) (by decide +kernel) (fun u_11 H locs p_11 hP hD hS => ?_)
      have hP : va_P D vwCl [kI cI h2 24 g1, kO h0 10 [y0, .int i0, .int i1, y1, .int i2, .int i3, .int i4, .int i5, .int i6, .int i7, .int i8, .int i9, .int i10, .int 0, .int 0, .int i11, .int i12, .int i13, y2, y3, y4, y5, y6, y7, y8, y9, .int i14, .ref h1, .int 0, .int i15, y10, y11, y12, y13, .int i16, .int i17, .int i18, .ref h2, .int i19, .int i20, .int i21, .int i22, y14, y15, .long i23, y16], kI cI h1 5760 (upd f_7 (Int32.toNatClampNeg (0 + 221)) (-1))] H := hP
      have hD : va_D A [kI cI h2 24 g1, kO h0 10 [y0, .int i0, .int i1, y1, .int i2, .int i3, .int i4, .int i5, .int i6, .int i7, .int i8, .int i9, .int i10, .int 0, .int 0, .int i11, .int i12, .int i13, y2, y3, y4, y5, y6, y7, y8, y9, .int i14, .ref h1, .int 0, .int i15, y10, y11, y12, y13, .int i16, .int i17, .int i18, .ref h2, .int i19, .int i20, .int i21, .int i22, y14, y15, .long i23, y16], kI cI h1 5760 (upd f_7 (Int32.toNatClampNeg (0 + 221)) (-1))] := hD
      have hz_13 : kz 0 (upd f_7 (Int32.toNatClampNeg (0 + 221)) (-1)) := kz_lit hz_8 221 (by decide) (by decide)
      obtain ⟨f_12, ef_12⟩ : ∃ z, z = (upd f_7 (Int32.toNatClampNeg (0 + 221)) (-1)) := ⟨_, rfl⟩
      rw [← ef_12] at hP hD hz_13
      refine lv_iinc (v := 2) (lv' := [(1, .int 2), (0, .ref h0)]) hx hb dX11_begin_80 hl (k := 0) rfl (by decide) (by decide) rfl (fun ls hl => ?_)
      refine lv_goto (tgt := 65) hx hb dX11_begin_83 (by decide) ?_
      refine lv_iload_n hx hb dX11_begin_65 rfl (lv_at hl 0 rfl) ?_
      refine lv_iconst (v := 5) hx hb dX11_begin_66 (by decide) ?_
      refine lv_icmp_ge (tgt := 86) hx hb dX11_begin_67 (by decide) (fun c_14 => absurd c_14 (by decide)) (fun _ => ?_)
      refine lv_aload_n hx hb dX11_begin_70 rfl (lv_at hl 1 rfl) ?_
      refine lv_sipush (v := 220) hx hb dX11_begin_71 (by decide) ?_
      refine lv_iload_n hx hb dX11_begin_74 rfl (lv_at hl 0 rfl) ?_
      refine lv_iadd hx hb dX11_begin_75 ?_
      refine lv_topi (fun v_15 e_15 => ?_)
      obtain rfl : v_15 = 222 := e_15.trans (by decide)
      refine lv_iconst (v := (-1)) hx hb dX11_begin_76 (by decide) ?_
      refine kk_cv (wr := [kI cI h2 24 g1]) (kk_runV (w1 := [kO h0 10 [y0, .int i0, .int i1, y1, .int i2, .int i3, .int i4, .int i5, .int i6, .int i7, .int i8, .int i9, .int i10, .int 0, .int 0, .int i11, .int i12, .int i13, y2, y3, y4, y5, y6, y7, y8, y9, .int i14, .ref h1, .int 0, .int i15, y10, y11, y12, y13, .int i16, .int i17, .int i18, .ref h2, .int i19, .int i20, .int i21, .int i22, y14, y15, .long i23, y16], kI cI h1 5760 f_12]) (As := [.int 222, .int (-1)]) (rest := []) hx hb hml hown hts hE (c_X11_lay_2 l D cB cI cJ cD h0 h1 y0 i0 i1 y1 i2 i3 i4 i5 i6 i7 i8 i9 i10 0 0 i11 i12 i13 y2 y3 y4 y5 y6 y7 y8 y9 i14 i15 y10 y11 y12 y13 i16 i17 i18 (.ref h2) i19 i20 i21 i22 y14 y15 i23 y16 f_12 222 (-1) H.size hz_13 (kk_ix _ _ (by decide))) m_X11_lay w_1269 ⟨rfl, rfl, Nat.le_of_ble_eq_true rfl, Nat.le_of_ble_eq_true rfl⟩ (hP.sub [1, 2] rfl) (hD.sub [1, 2] (by decide +kernel) rfl) 0 10 rfl rfl rfl hl.1 (Nat.le_of_ble_eq_true rfl) dX11_begin_77 ⟨Nat.le_of_ble_eq_true rfl, Nat.le_of_ble_eq_true rfl⟩) hP hD hS hA [1, 2] [0] rfl rfl (by decide +kernel) (by decide +kernel) (fun u_16 H locs p_16 hP hD hS => ?_)
      have hP : va_P D vwCl [kI cI h2 24 g1, kO h0 10 [y0, .int i0, .int i1, y1, .int i2, .int i3, .int i4, .int i5, .int i6, .int i7, .int i8, .int i9, .int i10, .int 0, .int 0, .int i11, .int i12, .int i13, y2, y3, y4, y5, y6, y7, y8, y9, .int i14, .ref h1, .int 0, .int i15, y10, y11, y12, y13, .int i16, .int i17, .int i18, .ref h2, .int i19, .int i20, .int i21, .int i22, y14, y15, .long i23, y16], kI cI h1 5760 (upd f_12 (Int32.toNatClampNeg (0 + 222)) (-1))] H := hP
      have hD : va_D A [kI cI h2 24 g1, kO h0 10 [y0, .int i0, .int i1, y1, .int i2, .int i3, .int i4, .int i5, .int i6, .int i7, .int i8, .int i9, .int i10, .int 0, .int 0, .int i11, .int i12, .int i13, y2, y3, y4, y5, y6, y7, y8, y9, .int i14, .ref h1, .int 0, .int i15, y10, y11, y12, y13, .int i16, .int i17, .int i18, .ref h2, .int i19, .int i20, .int i21, .int i22, y14, y15, .long i23, y16], kI cI h1 5760 (upd f_12 (Int32.toNatClampNeg (0 + 222)) (-1))] := hD
      have hz_18 : kz 0 (upd f_12 (Int32.toNatClampNeg (0 + 222)) (-1)) := kz_lit hz_13 222 (by decide) (by decide)
      obtain ⟨f_17, ef_17⟩ : ∃ z, z = (upd f_12 (Int32.toNatClampNeg (0 + 222)) (-1)) := ⟨_, rfl⟩
      rw [← ef_17] at hP hD hz_18
      refine lv_iinc (v := 3) (lv' := [(1, .int 3), (0, .ref h0)]) hx hb dX11_begin_80 hl (k := 0) rfl (by decide) (by decide) rfl (fun ls hl => ?_)
      refine lv_goto (tgt := 65) hx hb dX11_begin_83 (by decide) ?_
      refine lv_iload_n hx hb dX11_begin_65 rfl (lv_at hl 0 rfl) ?_
      refine lv_iconst (v := 5) hx hb dX11_begin_66 (by decide) ?_
      refine lv_icmp_ge (tgt := 86) hx hb dX11_begin_67 (by decide) (fun c_19 => absurd c_19 (by decide)) (fun _ => ?_)
      refine lv_aload_n hx hb dX11_begin_70 rfl (lv_at hl 1 rfl) ?_
      refine lv_sipush (v := 220) hx hb dX11_begin_71 (by decide) ?_
      refine lv_iload_n hx hb dX11_begin_74 rfl (lv_at hl 0 rfl) ?_
      refine lv_iadd hx hb dX11_begin_75 ?_
      refine lv_topi (fun v_20 e_20 => ?_)
      obtain rfl : v_20 = 223 := e_20.trans (by decide)
      refine lv_iconst (v := (-1)) hx hb dX11_begin_76 (by decide) ?_
      refine kk_cv (wr := [kI cI h2 24 g1]) (kk_runV (w1 := [kO h0 10 [y0, .int i0, .int i1, y1, .int i2, .int i3, .int i4, .int i5, .int i6, .int i7, .int i8, .int i9, .int i10, .int 0, .int 0, .int i11, .int i12, .int i13, y2, y3, y4, y5, y6, y7, y8, y9, .int i14, .ref h1, .int 0, .int i15, y10, y11, y12, y13, .int i16, .int i17, .int i18, .ref h2, .int i19, .int i20, .int i21, .int i22, y14, y15, .long i23, y16], kI cI h1 5760 f_17]) (As := [.int 223, .int (-1)]) (rest := []) hx hb hml hown hts hE (c_X11_lay_2 l D cB cI cJ cD h0 h1 y0 i0 i1 y1 i2 i3 i4 i5 i6 i7 i8 i9 i10 0 0 i11 i12 i13 y2 y3 y4 y5 y6 y7 y8 y9 i14 i15 y10 y11 y12 y13 i16 i17 i18 (.ref h2) i19 i20 i21 i22 y14 y15 i23 y16 f_17 223 (-1) H.size hz_18 (kk_ix _ _ (by decide))) m_X11_lay w_1269 ⟨rfl, rfl, Nat.le_of_ble_eq_true rfl, Nat.le_of_ble_eq_true rfl⟩ (hP.sub [1, 2] rfl) (hD.sub [1, 2] (by decide +kernel) rfl) 0 10 rfl rfl rfl hl.1 (Nat.le_of_ble_eq_true rfl) dX11_begin_77 ⟨Nat.le_of_ble_eq_true rfl, Nat.le_of_ble_eq_true rfl⟩) hP hD hS hA [1, 2] [0] rfl rfl (by decide +kernel) (by decide +kernel) (fun u_21 H locs p_21 hP hD hS => ?_)
      have hP : va_P D vwCl [kI cI h2 24 g1, kO h0 10 [y0, .int i0, .int i1, y1, .int i2, .int i3, .int i4, .int i5, .int i6, .int i7, .int i8, .int i9, .int i10, .int 0, .int 0, .int i11, .int i12, .int i13, y2, y3, y4, y5, y6, y7, y8, y9, .int i14, .ref h1, .int 0, .int i15, y10, y11, y12, y13, .int i16, .int i17, .int i18, .ref h2, .int i19, .int i20, .int i21, .int i22, y14, y15, .long i23, y16], kI cI h1 5760 (upd f_17 (Int32.toNatClampNeg (0 + 223)) (-1))] H := hP
      have hD : va_D A [kI cI h2 24 g1, kO h0 10 [y0, .int i0, .int i1, y1, .int i2, .int i3, .int i4, .int i5, .int i6, .int i7, .int i8, .int i9, .int i10, .int 0, .int 0, .int i11, .int i12, .int i13, y2, y3, y4, y5, y6, y7, y8, y9, .int i14, .ref h1, .int 0, .int i15, y10, y11, y12, y13, .int i16, .int i17, .int i18, .ref h2, .int i19, .int i20, .int i21, .int i22, y14, y15, .long i23, y16], kI cI h1 5760 (upd f_17 (Int32.toNatClampNeg (0 + 223)) (-1))] := hD
      have hz_23 : kz 0 (upd f_17 (Int32.toNatClampNeg (0 + 223)) (-1)) := kz_lit hz_18 223 (by decide) (by decide)
      obtain ⟨f_22, ef_22⟩ : ∃ z, z = (upd f_17 (Int32.toNatClampNeg (0 + 223)) (-1)) := ⟨_, rfl⟩
      rw [← ef_22] at hP hD hz_23
      refine lv_iinc (v := 4) (lv' := [(1, .int 4), (0, .ref h0)]) hx hb dX11_begin_80 hl (k := 0) rfl (by decide) (by decide) rfl (fun ls hl => ?_)
      refine lv_goto (tgt := 65) hx hb dX11_begin_83 (by decide) ?_
      refine lv_iload_n hx hb dX11_begin_65 rfl (lv_at hl 0 rfl) ?_
      refine lv_iconst (v := 5) hx hb dX11_begin_66 (by decide) ?_
      refine lv_icmp_ge (tgt := 86) hx hb dX11_begin_67 (by decide) (fun c_24 => absurd c_24 (by decide)) (fun _ => ?_)
      refine lv_aload_n hx hb dX11_begin_70 rfl (lv_at hl 1 rfl) ?_
      refine lv_sipush (v := 220) hx hb dX11_begin_71 (by decide) ?_
      refine lv_iload_n hx hb dX11_begin_74 rfl (lv_at hl 0 rfl) ?_
      refine lv_iadd hx hb dX11_begin_75 ?_
      refine lv_topi (fun v_25 e_25 => ?_)
      obtain rfl : v_25 = 224 := e_25.trans (by decide)
      refine lv_iconst (v := (-1)) hx hb dX11_begin_76 (by decide) ?_
      refine kk_cv (wr := [kI cI h2 24 g1]) (kk_runV (w1 := [kO h0 10 [y0, .int i0, .int i1, y1, .int i2, .int i3, .int i4, .int i5, .int i6, .int i7, .int i8, .int i9, .int i10, .int 0, .int 0, .int i11, .int i12, .int i13, y2, y3, y4, y5, y6, y7, y8, y9, .int i14, .ref h1, .int 0, .int i15, y10, y11, y12, y13, .int i16, .int i17, .int i18, .ref h2, .int i19, .int i20, .int i21, .int i22, y14, y15, .long i23, y16], kI cI h1 5760 f_22]) (As := [.int 224, .int (-1)]) (rest := []) hx hb hml hown hts hE (c_X11_lay_2 l D cB cI cJ cD h0 h1 y0 i0 i1 y1 i2 i3 i4 i5 i6 i7 i8 i9 i10 0 0 i11 i12 i13 y2 y3 y4 y5 y6 y7 y8 y9 i14 i15 y10 y11 y12 y13 i16 i17 i18 (.ref h2) i19 i20 i21 i22 y14 y15 i23 y16 f_22 224 (-1) H.size hz_23 (kk_ix _ _ (by decide))) m_X11_lay w_1269 ⟨rfl, rfl, Nat.le_of_ble_eq_true rfl, Nat.le_of_ble_eq_true rfl⟩ (hP.sub [1, 2] rfl) (hD.sub [1, 2] (by decide +kernel) rfl) 0 10 rfl rfl rfl hl.1 (Nat.le_of_ble_eq_true rfl) dX11_begin_77 ⟨Nat.le_of_ble_eq_true rfl, Nat.le_of_ble_eq_true rfl⟩) hP hD hS hA [1, 2] [0] rfl rfl (by decide +kernel) (by decide +kernel) (fun u_26 H locs p_26 hP hD hS => ?_)
      have hP : va_P D vwCl [kI cI h2 24 g1, kO h0 10 [y0, .int i0, .int i1, y1, .int i2, .int i3, .int i4, .int i5, .int i6, .int i7, .int i8, .int i9, .int i10, .int 0, .int 0, .int i11, .int i12, .int i13, y2, y3, y4, y5, y6, y7, y8, y9, .int i14, .ref h1, .int 0, .int i15, y10, y11, y12, y13, .int i16, .int i17, .int i18, .ref h2, .int i19, .int i20, .int i21, .int i22, y14, y15, .long i23, y16], kI cI h1 5760 (upd f_22 (Int32.toNatClampNeg (0 + 224)) (-1))] H := hP
      have hD : va_D A [kI cI h2 24 g1, kO h0 10 [y0, .int i0, .int i1, y1, .int i2, .int i3, .int i4, .int i5, .int i6, .int i7, .int i8, .int i9, .int i10, .int 0, .int 0, .int i11, .int i12, .int i13, y2, y3, y4, y5, y6, y7, y8, y9, .int i14, .ref h1, .int 0, .int i15, y10, y11, y12, y13, .int i16, .int i17, .int i18, .ref h2, .int i19, .int i20, .int i21, .int i22, y14, y15, .long i23, y16], kI cI h1 5760 (upd f_22 (Int32.toNatClampNeg (0 + 224)) (-1))] := hD
      have hz_28 : kz 0 (upd f_22 (Int32.toNatClampNeg (0 + 224)) (-1)) := kz_lit hz_23 224 (by decide) (by decide)
      obtain ⟨f_27, ef_27⟩ : ∃ z, z = (upd f_22 (Int32.toNatClampNeg (0 + 224)) (-1)) := ⟨_, rfl⟩
      rw [← ef_27] at hP hD hz_28
      refine lv_iinc (v := 5) (lv' := [(1, .int 5), (0, .ref h0)]) hx hb dX11_begin_80 hl (k := 0) rfl (by decide) (by decide) rfl (fun ls hl => ?_)
      refine lv_goto (tgt := 65) hx hb dX11_begin_83 (by decide) ?_
      refine lv_iload_n hx hb dX11_begin_65 rfl (lv_at hl 0 rfl) ?_
      refine lv_iconst (v := 5) hx hb dX11_begin_66 (by decide) ?_
      refine lv_icmp_ge (tgt := 86) hx hb dX11_begin_67 (by decide) (fun _ => ?_) (fun c_29 => absurd c_29 (by decide))
      refine lv_iconst (v := 0) hx hb dX11_begin_86 (by decide) ?_
      refine lv_istore_n (lv' := [(1, .int 0), (0, .ref h0)]) hx hb dX11_begin_87 rfl hl (by decide) rfl (fun ls hl => ?_)
      refine lv_iload_n hx hb dX11_begin_88 rfl (lv_at hl 0 rfl) ?_
      refine lv_bipush (v := 24) hx hb dX11_begin_89 (by decide) ?_
      refine lv_icmp_ge (tgt := 111) hx hb dX11_begin_91 (by decide) (fun c_30 => absurd c_30 (by decide)) (fun _ => ?_)
      refine lv_aload_n hx hb dX11_begin_94 rfl (lv_at hl 1 rfl) ?_
      refine lv_sipush (v := 230) hx hb dX11_begin_95 (by decide) ?_
      refine lv_iload_n hx hb dX11_begin_98 rfl (lv_at hl 0 rfl) ?_
      refine lv_iadd hx hb dX11_begin_99 ?_
      refine lv_topi (fun v_31 e_31 => ?_)
      obtain rfl : v_31 = 230 := e_31.trans (by decide)
      refine lv_bipush (v := (-5)) hx hb dX11_begin_100 (by decide) ?_
      refine kk_cv (wr := [kI cI h2 24 g1]) (kk_runV (w1 := [kO h0 10 [y0, .int i0, .int i1, y1, .int i2, .int i3, .int i4, .int i5, .int i6, .int i7, .int i8, .int i9, .int i10, .int 0, .int 0, .int i11, .int i12, .int i13, y2, y3, y4, y5, y6, y7, y8, y9, .int i14, .ref h1, .int 0, .int i15, y10, y11, y12, y13, .int i16, .int i17, .int i18, .ref h2, .int i19, .int i20, .int i21, .int i22, y14, y15, .long i23, y16], kI cI h1 5760 f_27]) (As := [.int 230, .int (-5)]) (rest := []) hx hb hml hown hts hE (c_X11_lay_2 l D cB cI cJ cD h0 h1 y0 i0 i1 y1 i2 i3 i4 i5 i6 i7 i8 i9 i10 0 0 i11 i12 i13 y2 y3 y4 y5 y6 y7 y8 y9 i14 i15 y10 y11 y12 y13 i16 i17 i18 (.ref h2) i19 i20 i21 i22 y14 y15 i23 y16 f_27 230 (-5) H.size hz_28 (kk_ix _ _ (by decide))) m_X11_lay w_1269 ⟨rfl, rfl, Nat.le_of_ble_eq_true rfl, Nat.le_of_ble_eq_true rfl⟩ (hP.sub [1, 2] rfl) (hD.sub [1, 2] (by decide +kernel) rfl) 0 10 rfl rfl rfl hl.1 (Nat.le_of_ble_eq_true rfl) dX11_begin_102 ⟨Nat.le_of_ble_eq_true rfl, Nat.le_of_ble_eq_true rfl⟩) hP hD hS hA [1, 2] [0] rfl rfl (by decide +kernel) (by decide +kernel) (fun u_32 H locs p_32 hP hD hS => ?_)
      have hP : va_P D vwCl [kI cI h2 24 g1, kO h0 10 [y0, .int i0, .int i1, y1, .int i2, .int i3, .int i4, .int i5, .int i6, .int i7, .int i8, .int i9, .int i10, .int 0, .int 0, .int i11, .int i12, .int i13, y2, y3, y4, y5, y6, y7, y8, y9, .int i14, .ref h1, .int 0, .int i15, y10, y11, y12, y13, .int i16, .int i17, .int i18, .ref h2, .int i19, .int i20, .int i21, .int i22, y14, y15, .long i23, y16], kI cI h1 5760 (upd f_27 (Int32.toNatClampNeg (0 + 230)) (-5))] H := hP
      have hD : va_D A [kI cI h2 24 g1, kO h0 10 [y0, .int i0, .int i1, y1, .int i2, .int i3, .int i4, .int i5, .int i6, .int i7, .int i8, .int i9, .int i10, .int 0, .int 0, .int i11, .int i12, .int i13, y2, y3, y4, y5, y6, y7, y8, y9, .int i14, .ref h1, .int 0, .int i15, y10, y11, y12, y13, .int i16, .int i17, .int i18, .ref h2, .int i19, .int i20, .int i21, .int i22, y14, y15, .long i23, y16], kI cI h1 5760 (upd f_27 (Int32.toNatClampNeg (0 + 230)) (-5))] := hD
      have hz_34 : kz 0 (upd f_27 (Int32.toNatClampNeg (0 + 230)) (-5)) := kz_lit hz_28 230 (by decide) (by decide)
      obtain ⟨f_33, ef_33⟩ : ∃ z, z = (upd f_27 (Int32.toNatClampNeg (0 + 230)) (-5)) := ⟨_, rfl⟩
      rw [← ef_33] at hP hD hz_34
      refine lv_iinc (v := 1) (lv' := [(1, .int 1), (0, .ref h0)]) hx hb dX11_begin_105 hl (k := 0) rfl (by decide) (by decide) rfl (fun ls hl => ?_)
      refine lv_goto (tgt := 88) hx hb dX11_begin_108 (by decide) ?_
      refine lv_iload_n hx hb dX11_begin_88 rfl (lv_at hl 0 rfl) ?_
      refine lv_bipush (v := 24) hx hb dX11_begin_89 (by decide) ?_
      refine lv_icmp_ge (tgt := 111) hx hb dX11_begin_91 (by decide) (fun c_35 => absurd c_35 (by decide)) (fun _ => ?_)
      refine lv_aload_n hx hb dX11_begin_94 rfl (lv_at hl 1 rfl) ?_
      refine lv_sipush (v := 230) hx hb dX11_begin_95 (by decide) ?_
      refine lv_iload_n hx hb dX11_begin_98 rfl (lv_at hl 0 rfl) ?_
      refine lv_iadd hx hb dX11_begin_99 ?_
      refine lv_topi (fun v_36 e_36 => ?_)
      obtain rfl : v_36 = 231 := e_36.trans (by decide)
      refine lv_bipush (v := (-5)) hx hb dX11_begin_100 (by decide) ?_
      refine kk_cv (wr := [kI cI h2 24 g1]) (kk_runV (w1 := [kO h0 10 [y0, .int i0, .int i1, y1, .int i2, .int i3, .int i4, .int i5, .int i6, .int i7, .int i8, .int i9, .int i10, .int 0, .int 0, .int i11, .int i12, .int i13, y2, y3, y4, y5, y6, y7, y8, y9, .int i14, .ref h1, .int 0, .int i15, y10, y11, y12, y13, .int i16, .int i17, .int i18, .ref h2, .int i19, .int i20, .int i21, .int i22, y14, y15, .long i23, y16], kI cI h1 5760 f_33]) (As := [.int 231, .int (-5)]) (rest := []) hx hb hml hown hts hE (c_X11_lay_2 l D cB cI cJ cD h0 h1 y0 i0 i1 y1 i2 i3 i4 i5 i6 i7 i8 i9 i10 0 0 i11 i12 i13 y2 y3 y4 y5 y6 y7 y8 y9 i14 i15 y10 y11 y12 y13 i16 i17 i18 (.ref h2) i19 i20 i21 i22 y14 y15 i23 y16 f_33 231 (-5) H.size hz_34 (kk_ix _ _ (by decide))) m_X11_lay w_1269 ⟨rfl, rfl, Nat.le_of_ble_eq_true rfl, Nat.le_of_ble_eq_true rfl⟩ (hP.sub [1, 2] rfl) (hD.sub [1, 2] (by decide +kernel) rfl) 0 10 rfl rfl rfl hl.1 (Nat.le_of_ble_eq_true rfl) dX11_begin_102 ⟨Nat.le_of_ble_eq_true rfl, Nat.le_of_ble_eq_true rfl⟩) hP hD hS hA [1, 2] [0] rfl rfl (by decide +kernel) (by decide +kernel) (fun u_37 H locs p_37 hP hD hS => ?_)
      have hP : va_P D vwCl [kI cI h2 24 g1, kO h0 10 [y0, .int i0, .int i1, y1, .int i2, .int i3, .int i4, .int i5, .int i6, .int i7, .int i8, .int i9, .int i10, .int 0, .int 0, .int i11, .int i12, .int i13, y2, y3, y4, y5, y6, y7, y8, y9, .int i14, .ref h1, .int 0, .int i15, y10, y11, y12, y13, .int i16, .int i17, .int i18, .ref h2, .int i19, .int i20, .int i21, .int i22, y14, y15, .long i23, y16], kI cI h1 5760 (upd f_33 (Int32.toNatClampNeg (0 + 231)) (-5))] H := hP
      have hD : va_D A [kI cI h2 24 g1, kO h0 10 [y0, .int i0, .int i1, y1, .int i2, .int i3, .int i4, .int i5, .int i6, .int i7, .int i8, .int i9, .int i10, .int 0, .int 0, .int i11, .int i12, .int i13, y2, y3, y4, y5, y6, y7, y8, y9, .int i14, .ref h1, .int 0, .int i15, y10, y11, y12, y13, .int i16, .int i17, .int i18, .ref h2, .int i19, .int i20, .int i21, .int i22, y14, y15, .long i23, y16], kI cI h1 5760 (upd f_33 (Int32.toNatClampNeg (0 + 231)) (-5))] := hD
      have hz_39 : kz 0 (upd f_33 (Int32.toNatClampNeg (0 + 231)) (-5)) := kz_lit hz_34 231 (by decide) (by decide)
      obtain ⟨f_38, ef_38⟩ : ∃ z, z = (upd f_33 (Int32.toNatClampNeg (0 + 231)) (-5)) := ⟨_, rfl⟩
      rw [← ef_38] at hP hD hz_39
      refine lv_iinc (v := 2) (lv' := [(1, .int 2), (0, .ref h0)]) hx hb dX11_begin_105 hl (k := 0) rfl (by decide) (by decide) rfl (fun ls hl => ?_)
      refine lv_goto (tgt := 88) hx hb dX11_begin_108 (by decide) ?_
      refine lv_iload_n hx hb dX11_begin_88 rfl (lv_at hl 0 rfl) ?_
      refine lv_bipush (v := 24) hx hb dX11_begin_89 (by decide) ?_
      refine lv_icmp_ge (tgt := 111) hx hb dX11_begin_91 (by decide) (fun c_40 => absurd c_40 (by decide)) (fun _ => ?_)
      refine lv_aload_n hx hb dX11_begin_94 rfl (lv_at hl 1 rfl) ?_
      refine lv_sipush (v := 230) hx hb dX11_begin_95 (by decide) ?_
      refine lv_iload_n hx hb dX11_begin_98 rfl (lv_at hl 0 rfl) ?_
      refine lv_iadd hx hb dX11_begin_99 ?_
      refine lv_topi (fun v_41 e_41 => ?_)
      obtain rfl : v_41 = 232 := e_41.trans (by decide)
      refine lv_bipush (v := (-5)) hx hb dX11_begin_100 (by decide) ?_
      refine kk_cv (wr := [kI cI h2 24 g1]) (kk_runV (w1 := [kO h0 10 [y0, .int i0, .int i1, y1, .int i2, .int i3, .int i4, .int i5, .int i6, .int i7, .int i8, .int i9, .int i10, .int 0, .int 0, .int i11, .int i12, .int i13, y2, y3, y4, y5, y6, y7, y8, y9, .int i14, .ref h1, .int 0, .int i15, y10, y11, y12, y13, .int i16, .int i17, .int i18, .ref h2, .int i19, .int i20, .int i21, .int i22, y14, y15, .long i23, y16], kI cI h1 5760 f_38]) (As := [.int 232, .int (-5)]) (rest := []) hx hb hml hown hts hE (c_X11_lay_2 l D cB cI cJ cD h0 h1 y0 i0 i1 y1 i2 i3 i4 i5 i6 i7 i8 i9 i10 0 0 i11 i12 i13 y2 y3 y4 y5 y6 y7 y8 y9 i14 i15 y10 y11 y12 y13 i16 i17 i18 (.ref h2) i19 i20 i21 i22 y14 y15 i23 y16 f_38 232 (-5) H.size hz_39 (kk_ix _ _ (by decide))) m_X11_lay w_1269 ⟨rfl, rfl, Nat.le_of_ble_eq_true rfl, Nat.le_of_ble_eq_true rfl⟩ (hP.sub [1, 2] rfl) (hD.sub [1, 2] (by decide +kernel) rfl) 0 10 rfl rfl rfl hl.1 (Nat.le_of_ble_eq_true rfl) dX11_begin_102 ⟨Nat.le_of_ble_eq_true rfl, Nat.le_of_ble_eq_true rfl⟩) hP hD hS hA [1, 2] [0] rfl rfl (by decide +kernel) (by decide +kernel) (fun u_42 H locs p_42 hP hD hS => ?_)
      have hP : va_P D vwCl [kI cI h2 24 g1, kO h0 10 [y0, .int i0, .int i1, y1, .int i2, .int i3, .int i4, .int i5, .int i6, .int i7, .int i8, .int i9, .int i10, .int 0, .int 0, .int i11, .int i12, .int i13, y2, y3, y4, y5, y6, y7, y8, y9, .int i14, .ref h1, .int 0, .int i15, y10, y11, y12, y13, .int i16, .int i17, .int i18, .ref h2, .int i19, .int i20, .int i21, .int i22, y14, y15, .long i23, y16], kI cI h1 5760 (upd f_38 (Int32.toNatClampNeg (0 + 232)) (-5))] H := hP
      have hD : va_D A [kI cI h2 24 g1, kO h0 10 [y0, .int i0, .int i1, y1, .int i2, .int i3, .int i4, .int i5, .int i6, .int i7, .int i8, .int i9, .int i10, .int 0, .int 0, .int i11, .int i12, .int i13, y2, y3, y4, y5, y6, y7, y8, y9, .int i14, .ref h1, .int 0, .int i15, y10, y11, y12, y13, .int i16, .int i17, .int i18, .ref h2, .int i19, .int i20, .int i21, .int i22, y14, y15, .long i23, y16], kI cI h1 5760 (upd f_38 (Int32.toNatClampNeg (0 + 232)) (-5))] := hD
      have hz_44 : kz 0 (upd f_38 (Int32.toNatClampNeg (0 + 232)) (-5)) := kz_lit hz_39 232 (by decide) (by decide)
      obtain ⟨f_43, ef_43⟩ : ∃ z, z = (upd f_38 (Int32.toNatClampNeg (0 + 232)) (-5)) := ⟨_, rfl⟩
      rw [← ef_43] at hP hD hz_44
      refine lv_iinc (v := 3) (lv' := [(1, .int 3), (0, .ref h0)]) hx hb dX11_begin_105 hl (k := 0) rfl (by decide) (by decide) rfl (fun ls hl => ?_)
      refine lv_goto (tgt := 88) hx hb dX11_begin_108 (by decide) ?_
      refine lv_iload_n hx hb dX11_begin_88 rfl (lv_at hl 0 rfl) ?_
      refine lv_bipush (v := 24) hx hb dX11_begin_89 (by decide) ?_
      refine lv_icmp_ge (tgt := 111) hx hb dX11_begin_91 (by decide) (fun c_45 => absurd c_45 (by decide)) (fun _ => ?_)
      refine lv_aload_n hx hb dX11_begin_94 rfl (lv_at hl 1 rfl) ?_
      refine lv_sipush (v := 230) hx hb dX11_begin_95 (by decide) ?_
      refine lv_iload_n hx hb dX11_begin_98 rfl (lv_at hl 0 rfl) ?_
      refine lv_iadd hx hb dX11_begin_99 ?_
      refine lv_topi (fun v_46 e_46 => ?_)
      obtain rfl : v_46 = 233 := e_46.trans (by decide)
      refine lv_bipush (v := (-5)) hx hb dX11_begin_100 (by decide) ?_
      refine kk_cv (wr := [kI cI h2 24 g1]) (kk_runV (w1 := [kO h0 10 [y0, .int i0, .int i1, y1, .int i2, .int i3, .int i4, .int i5, .int i6, .int i7, .int i8, .int i9, .int i10, .int 0, .int 0, .int i11, .int i12, .int i13, y2, y3, y4, y5, y6, y7, y8, y9, .int i14, .ref h1, .int 0, .int i15, y10, y11, y12, y13, .int i16, .int i17, .int i18, .ref h2, .int i19, .int i20, .int i21, .int i22, y14, y15, .long i23, y16], kI cI h1 5760 f_43]) (As := [.int 233, .int (-5)]) (rest := []) hx hb hml hown hts hE (c_X11_lay_2 l D cB cI cJ cD h0 h1 y0 i0 i1 y1 i2 i3 i4 i5 i6 i7 i8 i9 i10 0 0 i11 i12 i13 y2 y3 y4 y5 y6 y7 y8 y9 i14 i15 y10 y11 y12 y13 i16 i17 i18 (.ref h2) i19 i20 i21 i22 y14 y15 i23 y16 f_43 233 (-5) H.size hz_44 (kk_ix _ _ (by decide))) m_X11_lay w_1269 ⟨rfl, rfl, Nat.le_of_ble_eq_true rfl, Nat.le_of_ble_eq_true rfl⟩ (hP.sub [1, 2] rfl) (hD.sub [1, 2] (by decide +kernel) rfl) 0 10 rfl rfl rfl hl.1 (Nat.le_of_ble_eq_true rfl) dX11_begin_102 ⟨Nat.le_of_ble_eq_true rfl, Nat.le_of_ble_eq_true rfl⟩) hP hD hS hA [1, 2] [0] rfl rfl (by decide +kernel) (by decide +kernel) (fun u_47 H locs p_47 hP hD hS => ?_)
      have hP : va_P D vwCl [kI cI h2 24 g1, kO h0 10 [y0, .int i0, .int i1, y1, .int i2, .int i3, .int i4, .int i5, .int i6, .int i7, .int i8, .int i9, .int i10, .int 0, .int 0, .int i11, .int i12, .int i13, y2, y3, y4, y5, y6, y7, y8, y9, .int i14, .ref h1, .int 0, .int i15, y10, y11, y12, y13, .int i16, .int i17, .int i18, .ref h2, .int i19, .int i20, .int i21, .int i22, y14, y15, .long i23, y16], kI cI h1 5760 (upd f_43 (Int32.toNatClampNeg (0 + 233)) (-5))] H := hP
      have hD : va_D A [kI cI h2 24 g1, kO h0 10 [y0, .int i0, .int i1, y1, .int i2, .int i3, .int i4, .int i5, .int i6, .int i7, .int i8, .int i9, .int i10, .int 0, .int 0, .int i11, .int i12, .int i13, y2, y3, y4, y5, y6, y7, y8, y9, .int i14, .ref h1, .int 0, .int i15, y10, y11, y12, y13, .int i16, .int i17, .int i18, .ref h2, .int i19, .int i20, .int i21, .int i22, y14, y15, .long i23, y16], kI cI h1 5760 (upd f_43 (Int32.toNatClampNeg (0 + 233)) (-5))] := hD
      have hz_49 : kz 0 (upd f_43 (Int32.toNatClampNeg (0 + 233)) (-5)) := kz_lit hz_44 233 (by decide) (by decide)
      obtain ⟨f_48, ef_48⟩ : ∃ z, z = (upd f_43 (Int32.toNatClampNeg (0 + 233)) (-5)) := ⟨_, rfl⟩
      rw [← ef_48] at hP hD hz_49
      refine lv_iinc (v := 4) (lv' := [(1, .int 4), (0, .ref h0)]) hx hb dX11_begin_105 hl (k := 0) rfl (by decide) (by decide) rfl (fun ls hl => ?_)
      refine lv_goto (tgt := 88) hx hb dX11_begin_108 (by decide) ?_
      refine lv_iload_n hx hb dX11_begin_88 rfl (lv_at hl 0 rfl) ?_
      refine lv_bipush (v := 24) hx hb dX11_begin_89 (by decide) ?_
      refine lv_icmp_ge (tgt := 111) hx hb dX11_begin_91 (by decide) (fun c_50 => absurd c_50 (by decide)) (fun _ => ?_)
      refine lv_aload_n hx hb dX11_begin_94 rfl (lv_at hl 1 rfl) ?_
      refine lv_sipush (v := 230) hx hb dX11_begin_95 (by decide) ?_
      refine lv_iload_n hx hb dX11_begin_98 rfl (lv_at hl 0 rfl) ?_
      refine lv_iadd hx hb dX11_begin_99 ?_
      refine lv_topi (fun v_51 e_51 => ?_)
      obtain rfl : v_51 = 234 := e_51.trans (by decide)
      refine lv_bipush (v := (-5)) hx hb dX11_begin_100 (by decide) ?_
      refine kk_cv (wr := [kI cI h2 24 g1]) (kk_runV (w1 := [kO h0 10 [y0, .int i0, .int i1, y1, .int i2, .int i3, .int i4, .int i5, .int i6, .int i7, .int i8, .int i9, .int i10, .int 0, .int 0, .int i11, .int i12, .int i13, y2, y3, y4, y5, y6, y7, y8, y9, .int i14, .ref h1, .int 0, .int i15, y10, y11, y12, y13, .int i16, .int i17, .int i18, .ref h2, .int i19, .int i20, .int i21, .int i22, y14, y15, .long i23, y16], kI cI h1 5760 f_48]) (As := [.int 234, .int (-5)]) (rest := []) hx hb hml hown hts hE (c_X11_lay_2 l D cB cI cJ cD h0 h1 y0 i0 i1 y1 i2 i3 i4 i5 i6 i7 i8 i9 i10 0 0 i11 i12 i13 y2 y3 y4 y5 y6 y7 y8 y9 i14 i15 y10 y11 y12 y13 i16 i17 i18 (.ref h2) i19 i20 i21 i22 y14 y15 i23 y16 f_48 234 (-5) H.size hz_49 (kk_ix _ _ (by decide))) m_X11_lay w_1269 ⟨rfl, rfl, Nat.le_of_ble_eq_true rfl, Nat.le_of_ble_eq_true rfl⟩ (hP.sub [1, 2] rfl) (hD.sub [1, 2] (by decide +kernel) rfl) 0 10 rfl rfl rfl hl.1 (Nat.le_of_ble_eq_true rfl) dX11_begin_102 ⟨Nat.le_of_ble_eq_true rfl, Nat.le_of_ble_eq_true rfl⟩) hP hD hS hA [1, 2] [0] rfl rfl (by decide +kernel) (by decide +kernel) (fun u_52 H locs p_52 hP hD hS => ?_)
      have hP : va_P D vwCl [kI cI h2 24 g1, kO h0 10 [y0, .int i0, .int i1, y1, .int i2, .int i3, .int i4, .int i5, .int i6, .int i7, .int i8, .int i9, .int i10, .int 0, .int 0, .int i11, .int i12, .int i13, y2, y3, y4, y5, y6, y7, y8, y9, .int i14, .ref h1, .int 0, .int i15, y10, y11, y12, y13, .int i16, .int i17, .int i18, .ref h2, .int i19, .int i20, .int i21, .int i22, y14, y15, .long i23, y16], kI cI h1 5760 (upd f_48 (Int32.toNatClampNeg (0 + 234)) (-5))] H := hP
      have hD : va_D A [kI cI h2 24 g1, kO h0 10 [y0, .int i0, .int i1, y1, .int i2, .int i3, .int i4, .int i5, .int i6, .int i7, .int i8, .int i9, .int i10, .int 0, .int 0, .int i11, .int i12, .int i13, y2, y3, y4, y5, y6, y7, y8, y9, .int i14, .ref h1, .int 0, .int i15, y10, y11, y12, y13, .int i16, .int i17, .int i18, .ref h2, .int i19, .int i20, .int i21, .int i22, y14, y15, .long i23, y16], kI cI h1 5760 (upd f_48 (Int32.toNatClampNeg (0 + 234)) (-5))] := hD
      have hz_54 : kz 0 (upd f_48 (Int32.toNatClampNeg (0 + 234)) (-5)) := kz_lit hz_49 234 (by decide) (by decide)
      obtain ⟨f_53, ef_53⟩ : ∃ z, z = (upd f_48 (Int32.toNatClampNeg (0 + 234)) (-5)) := ⟨_, rfl⟩
      rw [← ef_53] at hP hD hz_54
      refine lv_iinc (v := 5) (lv' := [(1, .int 5), (0, .ref h0)]) hx hb dX11_begin_105 hl (k := 0) rfl (by decide) (by decide) rfl (fun ls hl => ?_)
      refine lv_goto (tgt := 88) hx hb dX11_begin_108 (by decide) ?_
      refine lv_iload_n hx hb dX11_begin_88 rfl (lv_at hl 0 rfl) ?_
      refine lv_bipush (v := 24) hx hb dX11_begin_89 (by decide) ?_
      refine lv_icmp_ge (tgt := 111) hx hb dX11_begin_91 (by decide) (fun c_55 => absurd c_55 (by decide)) (fun _ => ?_)
      refine lv_aload_n hx hb dX11_begin_94 rfl (lv_at hl 1 rfl) ?_
      refine lv_sipush (v := 230) hx hb dX11_begin_95 (by decide) ?_
      refine lv_iload_n hx hb dX11_begin_98 rfl (lv_at hl 0 rfl) ?_
      refine lv_iadd hx hb dX11_begin_99 ?_
      refine lv_topi (fun v_56 e_56 => ?_)
      obtain rfl : v_56 = 235 := e_56.trans (by decide)
      refine lv_bipush (v := (-5)) hx hb dX11_begin_100 (by decide) ?_
      refine kk_cv (wr := [kI cI h2 24 g1]) (kk_runV (w1 := [kO h0 10 [y0, .int i0, .int i1, y1, .int i2, .int i3, .int i4, .int i5, .int i6, .int i7, .int i8, .int i9, .int i10, .int 0, .int 0, .int i11, .int i12, .int i13, y2, y3, y4, y5, y6, y7, y8, y9, .int i14, .ref h1, .int 0, .int i15, y10, y11, y12, y13, .int i16, .int i17, .int i18, .ref h2, .int i19, .int i20, .int i21, .int i22, y14, y15, .long i23, y16], kI cI h1 5760 f_53]) (As := [.int 235, .int (-5)]) (rest := []) hx hb hml hown hts hE (c_X11_lay_2 l D cB cI cJ cD h0 h1 y0 i0 i1 y1 i2 i3 i4 i5 i6 i7 i8 i9 i10 0 0 i11 i12 i13 y2 y3 y4 y5 y6 y7 y8 y9 i14 i15 y10 y11 y12 y13 i16 i17 i18 (.ref h2) i19 i20 i21 i22 y14 y15 i23 y16 f_53 235 (-5) H.size hz_54 (kk_ix _ _ (by decide))) m_X11_lay w_1269 ⟨rfl, rfl, Nat.le_of_ble_eq_true rfl, Nat.le_of_ble_eq_true rfl⟩ (hP.sub [1, 2] rfl) (hD.sub [1, 2] (by decide +kernel) rfl) 0 10 rfl rfl rfl hl.1 (Nat.le_of_ble_eq_true rfl) dX11_begin_102 ⟨Nat.le_of_ble_eq_true rfl, Nat.le_of_ble_eq_true rfl⟩) hP hD hS hA [1, 2] [0] rfl rfl (by decide +kernel) (by decide +kernel) (fun u_57 H locs p_57 hP hD hS => ?_)
      have hP : va_P D vwCl [kI cI h2 24 g1, kO h0 10 [y0, .int i0, .int i1, y1, .int i2, .int i3, .int i4, .int i5, .int i6, .int i7, .int i8, .int i9, .int i10, .int 0, .int 0, .int i11, .int i12, .int i13, y2, y3, y4, y5, y6, y7, y8, y9, .int i14, .ref h1, .int 0, .int i15, y10, y11, y12, y13, .int i16, .int i17, .int i18, .ref h2, .int i19, .int i20, .int i21, .int i22, y14, y15, .long i23, y16], kI cI h1 5760 (upd f_53 (Int32.toNatClampNeg (0 + 235)) (-5))] H := hP
      have hD : va_D A [kI cI h2 24 g1, kO h0 10 [y0, .int i0, .int i1, y1, .int i2, .int i3, .int i4, .int i5, .int i6, .int i7, .int i8, .int i9, .int i10, .int 0, .int 0, .int i11, .int i12, .int i13, y2, y3, y4, y5, y6, y7, y8, y9, .int i14, .ref h1, .int 0, .int i15, y10, y11, y12, y13, .int i16, .int i17, .int i18, .ref h2, .int i19, .int i20, .int i21, .int i22, y14, y15, .long i23, y16], kI cI h1 5760 (upd f_53 (Int32.toNatClampNeg (0 + 235)) (-5))] := hD
      have hz_59 : kz 0 (upd f_53 (Int32.toNatClampNeg (0 + 235)) (-5)) := kz_lit hz_54 235 (by decide) (by decide)
      obtain ⟨f_58, ef_58⟩ : ∃ z, z = (upd f_53 (Int32.toNatClampNeg (0 + 235)) (-5)) := ⟨_, rfl⟩
      rw [← ef_58] at hP hD hz_59
      refine lv_iinc (v := 6) (lv' := [(1, .int 6), (0, .ref h0)]) hx hb dX11_begin_105 hl (k := 0) rfl (by decide) (by decide) rfl (fun ls hl => ?_)
      refine lv_goto (tgt := 88) hx hb dX11_begin_108 (by decide) ?_
      refine lv_iload_n hx hb dX11_begin_88 rfl (lv_at hl 0 rfl) ?_
      refine lv_bipush (v := 24) hx hb dX11_begin_89 (by decide) ?_
      refine lv_icmp_ge (tgt := 111) hx hb dX11_begin_91 (by decide) (fun c_60 => absurd c_60 (by decide)) (fun _ => ?_)
      refine lv_aload_n hx hb dX11_begin_94 rfl (lv_at hl 1 rfl) ?_
      refine lv_sipush (v := 230) hx hb dX11_begin_95 (by decide) ?_
      refine lv_iload_n hx hb dX11_begin_98 rfl (lv_at hl 0 rfl) ?_
      refine lv_iadd hx hb dX11_begin_99 ?_
      refine lv_topi (fun v_61 e_61 => ?_)
      obtain rfl : v_61 = 236 := e_61.trans (by decide)
      refine lv_bipush (v := (-5)) hx hb dX11_begin_100 (by decide) ?_
      refine kk_cv (wr := [kI cI h2 24 g1]) (kk_runV (w1 := [kO h0 10 [y0, .int i0, .int i1, y1, .int i2, .int i3, .int i4, .int i5, .int i6, .int i7, .int i8, .int i9, .int i10, .int 0, .int 0, .int i11, .int i12, .int i13, y2, y3, y4, y5, y6, y7, y8, y9, .int i14, .ref h1, .int 0, .int i15, y10, y11, y12, y13, .int i16, .int i17, .int i18, .ref h2, .int i19, .int i20, .int i21, .int i22, y14, y15, .long i23, y16], kI cI h1 5760 f_58]) (As := [.int 236, .int (-5)]) (rest := []) hx hb hml hown hts hE (c_X11_lay_2 l D cB cI cJ cD h0 h1 y0 i0 i1 y1 i2 i3 i4 i5 i6 i7 i8 i9 i10 0 0 i11 i12 i13 y2 y3 y4 y5 y6 y7 y8 y9 i14 i15 y10 y11 y12 y13 i16 i17 i18 (.ref h2) i19 i20 i21 i22 y14 y15 i23 y16 f_58 236 (-5) H.size hz_59 (kk_ix _ _ (by decide))) m_X11_lay w_1269 ⟨rfl, rfl, Nat.le_of_ble_eq_true rfl, Nat.le_of_ble_eq_true rfl⟩ (hP.sub [1, 2] rfl) (hD.sub [1, 2] (by decide +kernel) rfl) 0 10 rfl rfl rfl hl.1 (Nat.le_of_ble_eq_true rfl) dX11_begin_102 ⟨Nat.le_of_ble_eq_true rfl, Nat.le_of_ble_eq_true rfl⟩) hP hD hS hA [1, 2] [0] rfl rfl (by decide +kernel) (by decide +kernel) (fun u_62 H locs p_62 hP hD hS => ?_)
      have hP : va_P D vwCl [kI cI h2 24 g1, kO h0 10 [y0, .int i0, .int i1, y1, .int i2, .int i3, .int i4, .int i5, .int i6, .int i7, .int i8, .int i9, .int i10, .int 0, .int 0, .int i11, .int i12, .int i13, y2, y3, y4, y5, y6, y7, y8, y9, .int i14, .ref h1, .int 0, .int i15, y10, y11, y12, y13, .int i16, .int i17, .int i18, .ref h2, .int i19, .int i20, .int i21, .int i22, y14, y15, .long i23, y16], kI cI h1 5760 (upd f_58 (Int32.toNatClampNeg (0 + 236)) (-5))] H := hP
      have hD : va_D A [kI cI h2 24 g1, kO h0 10 [y0, .int i0, .int i1, y1, .int i2, .int i3, .int i4, .int i5, .int i6, .int i7, .int i8, .int i9, .int i10, .int 0, .int 0, .int i11, .int i12, .int i13, y2, y3, y4, y5, y6, y7, y8, y9, .int i14, .ref h1, .int 0, .int i15, y10, y11, y12, y13, .int i16, .int i17, .int i18, .ref h2, .int i19, .int i20, .int i21, .int i22, y14, y15, .long i23, y16], kI cI h1 5760 (upd f_58 (Int32.toNatClampNeg (0 + 236)) (-5))] := hD
      have hz_64 : kz 0 (upd f_58 (Int32.toNatClampNeg (0 + 236)) (-5)) := kz_lit hz_59 236 (by decide) (by decide)
      obtain ⟨f_63, ef_63⟩ : ∃ z, z = (upd f_58 (Int32.toNatClampNeg (0 + 236)) (-5)) := ⟨_, rfl⟩
      rw [← ef_63] at hP hD hz_64
      refine lv_iinc (v := 7) (lv' := [(1, .int 7), (0, .ref h0)]) hx hb dX11_begin_105 hl (k := 0) rfl (by decide) (by decide) rfl (fun ls hl => ?_)
      refine lv_goto (tgt := 88) hx hb dX11_begin_108 (by decide) ?_
      refine lv_iload_n hx hb dX11_begin_88 rfl (lv_at hl 0 rfl) ?_
      refine lv_bipush (v := 24) hx hb dX11_begin_89 (by decide) ?_
      refine lv_icmp_ge (tgt := 111) hx hb dX11_begin_91 (by decide) (fun c_65 => absurd c_65 (by decide)) (fun _ => ?_)
      refine lv_aload_n hx hb dX11_begin_94 rfl (lv_at hl 1 rfl) ?_
      refine lv_sipush (v := 230) hx hb dX11_begin_95 (by decide) ?_
      refine lv_iload_n hx hb dX11_begin_98 rfl (lv_at hl 0 rfl) ?_
      refine lv_iadd hx hb dX11_begin_99 ?_
      refine lv_topi (fun v_66 e_66 => ?_)
      obtain rfl : v_66 = 237 := e_66.trans (by decide)
      refine lv_bipush (v := (-5)) hx hb dX11_begin_100 (by decide) ?_
      refine kk_cv (wr := [kI cI h2 24 g1]) (kk_runV (w1 := [kO h0 10 [y0, .int i0, .int i1, y1, .int i2, .int i3, .int i4, .int i5, .int i6, .int i7, .int i8, .int i9, .int i10, .int 0, .int 0, .int i11, .int i12, .int i13, y2, y3, y4, y5, y6, y7, y8, y9, .int i14, .ref h1, .int 0, .int i15, y10, y11, y12, y13, .int i16, .int i17, .int i18, .ref h2, .int i19, .int i20, .int i21, .int i22, y14, y15, .long i23, y16], kI cI h1 5760 f_63]) (As := [.int 237, .int (-5)]) (rest := []) hx hb hml hown hts hE (c_X11_lay_2 l D cB cI cJ cD h0 h1 y0 i0 i1 y1 i2 i3 i4 i5 i6 i7 i8 i9 i10 0 0 i11 i12 i13 y2 y3 y4 y5 y6 y7 y8 y9 i14 i15 y10 y11 y12 y13 i16 i17 i18 (.ref h2) i19 i20 i21 i22 y14 y15 i23 y16 f_63 237 (-5) H.size hz_64 (kk_ix _ _ (by decide))) m_X11_lay w_1269 ⟨rfl, rfl, Nat.le_of_ble_eq_true rfl, Nat.le_of_ble_eq_true rfl⟩ (hP.sub [1, 2] rfl) (hD.sub [1, 2] (by decide +kernel) rfl) 0 10 rfl rfl rfl hl.1 (Nat.le_of_ble_eq_true rfl) dX11_begin_102 ⟨Nat.le_of_ble_eq_true rfl, Nat.le_of_ble_eq_true rfl⟩) hP hD hS hA [1, 2] [0] rfl rfl (by decide +kernel) (by decide +kernel) (fun u_67 H locs p_67 hP hD hS => ?_)
      have hP : va_P D vwCl [kI cI h2 24 g1, kO h0 10 [y0, .int i0, .int i1, y1, .int i2, .int i3, .int i4, .int i5, .int i6, .int i7, .int i8, .int i9, .int i10, .int 0, .int 0, .int i11, .int i12, .int i13, y2, y3, y4, y5, y6, y7, y8, y9, .int i14, .ref h1, .int 0, .int i15, y10, y11, y12, y13, .int i16, .int i17, .int i18, .ref h2, .int i19, .int i20, .int i21, .int i22, y14, y15, .long i23, y16], kI cI h1 5760 (upd f_63 (Int32.toNatClampNeg (0 + 237)) (-5))] H := hP
      have hD : va_D A [kI cI h2 24 g1, kO h0 10 [y0, .int i0, .int i1, y1, .int i2, .int i3, .int i4, .int i5, .int i6, .int i7, .int i8, .int i9, .int i10, .int 0, .int 0, .int i11, .int i12, .int i13, y2, y3, y4, y5, y6, y7, y8, y9, .int i14, .ref h1, .int 0, .int i15, y10, y11, y12, y13, .int i16, .int i17, .int i18, .ref h2, .int i19, .int i20, .int i21, .int i22, y14, y15, .long i23, y16], kI cI h1 5760 (upd f_63 (Int32.toNatClampNeg (0 + 237)) (-5))] := hD
      have hz_69 : kz 0 (upd f_63 (Int32.toNatClampNeg (0 + 237)) (-5)) := kz_lit hz_64 237 (by decide) (by decide)
      obtain ⟨f_68, ef_68⟩ : ∃ z, z = (upd f_63 (Int32.toNatClampNeg (0 + 237)) (-5)) := ⟨_, rfl⟩
      rw [← ef_68] at hP hD hz_69
      refine lv_iinc (v := 8) (lv' := [(1, .int 8), (0, .ref h0)]) hx hb dX11_begin_105 hl (k := 0) rfl (by decide) (by decide) rfl (fun ls hl => ?_)
      refine lv_goto (tgt := 88) hx hb dX11_begin_108 (by decide) ?_
      refine lv_iload_n hx hb dX11_begin_88 rfl (lv_at hl 0 rfl) ?_
      refine lv_bipush (v := 24) hx hb dX11_begin_89 (by decide) ?_
      refine lv_icmp_ge (tgt := 111) hx hb dX11_begin_91 (by decide) (fun c_70 => absurd c_70 (by decide)) (fun _ => ?_)
      refine lv_aload_n hx hb dX11_begin_94 rfl (lv_at hl 1 rfl) ?_
      refine lv_sipush (v := 230) hx hb dX11_begin_95 (by decide) ?_
      refine lv_iload_n hx hb dX11_begin_98 rfl (lv_at hl 0 rfl) ?_
      refine lv_iadd hx hb dX11_begin_99 ?_
      refine lv_topi (fun v_71 e_71 => ?_)
      obtain rfl : v_71 = 238 := e_71.trans (by decide)
      refine lv_bipush (v := (-5)) hx hb dX11_begin_100 (by decide) ?_
      refine kk_cv (wr := [kI cI h2 24 g1]) (kk_runV (w1 := [kO h0 10 [y0, .int i0, .int i1, y1, .int i2, .int i3, .int i4, .int i5, .int i6, .int i7, .int i8, .int i9, .int i10, .int 0, .int 0, .int i11, .int i12, .int i13, y2, y3, y4, y5, y6, y7, y8, y9, .int i14, .ref h1, .int 0, .int i15, y10, y11, y12, y13, .int i16, .int i17, .int i18, .ref h2, .int i19, .int i20, .int i21, .int i22, y14, y15, .long i23, y16], kI cI h1 5760 f_68]) (As := [.int 238, .int (-5)]) (rest := []) hx hb hml hown hts hE (c_X11_lay_2 l D cB cI cJ cD h0 h1 y0 i0 i1 y1 i2 i3 i4 i5 i6 i7 i8 i9 i10 0 0 i11 i12 i13 y2 y3 y4 y5 y6 y7 y8 y9 i14 i15 y10 y11 y12 y13 i16 i17 i18 (.ref h2) i19 i20 i21 i22 y14 y15 i23 y16 f_68 238 (-5) H.size hz_69 (kk_ix _ _ (by decide))) m_X11_lay w_1269 ⟨rfl, rfl, Nat.le_of_ble_eq_true rfl, Nat.le_of_ble_eq_true rfl⟩ (hP.sub [1, 2] rfl) (hD.sub [1, 2] (by decide +kernel) rfl) 0 10 rfl rfl rfl hl.1 (Nat.le_of_ble_eq_true rfl) dX11_begin_102 ⟨Nat.le_of_ble_eq_true rfl, Nat.le_of_ble_eq_true rfl⟩) hP hD hS hA [1, 2] [0] rfl rfl (by decide +kernel) (by decide +kernel) (fun u_72 H locs p_72 hP hD hS => ?_)
      have hP : va_P D vwCl [kI cI h2 24 g1, kO h0 10 [y0, .int i0, .int i1, y1, .int i2, .int i3, .int i4, .int i5, .int i6, .int i7, .int i8, .int i9, .int i10, .int 0, .int 0, .int i11, .int i12, .int i13, y2, y3, y4, y5, y6, y7, y8, y9, .int i14, .ref h1, .int 0, .int i15, y10, y11, y12, y13, .int i16, .int i17, .int i18, .ref h2, .int i19, .int i20, .int i21, .int i22, y14, y15, .long i23, y16], kI cI h1 5760 (upd f_68 (Int32.toNatClampNeg (0 + 238)) (-5))] H := hP
      have hD : va_D A [kI cI h2 24 g1, kO h0 10 [y0, .int i0, .int i1, y1, .int i2, .int i3, .int i4, .int i5, .int i6, .int i7, .int i8, .int i9, .int i10, .int 0, .int 0, .int i11, .int i12, .int i13, y2, y3, y4, y5, y6, y7, y8, y9, .int i14, .ref h1, .int 0, .int i15, y10, y11, y12, y13, .int i16, .int i17, .int i18, .ref h2, .int i19, .int i20, .int i21, .int i22, y14, y15, .long i23, y16], kI cI h1 5760 (upd f_68 (Int32.toNatClampNeg (0 + 238)) (-5))] := hD
      have hz_74 : kz 0 (upd f_68 (Int32.toNatClampNeg (0 + 238)) (-5)) := kz_lit hz_69 238 (by decide) (by decide)
      obtain ⟨f_73, ef_73⟩ : ∃ z, z = (upd f_68 (Int32.toNatClampNeg (0 + 238)) (-5)) := ⟨_, rfl⟩
      rw [← ef_73] at hP hD hz_74
      refine lv_iinc (v := 9) (lv' := [(1, .int 9), (0, .ref h0)]) hx hb dX11_begin_105 hl (k := 0) rfl (by decide) (by decide) rfl (fun ls hl => ?_)
      refine lv_goto (tgt := 88) hx hb dX11_begin_108 (by decide) ?_
      refine lv_iload_n hx hb dX11_begin_88 rfl (lv_at hl 0 rfl) ?_
      refine lv_bipush (v := 24) hx hb dX11_begin_89 (by decide) ?_
      refine lv_icmp_ge (tgt := 111) hx hb dX11_begin_91 (by decide) (fun c_75 => absurd c_75 (by decide)) (fun _ => ?_)
      refine lv_aload_n hx hb dX11_begin_94 rfl (lv_at hl 1 rfl) ?_
      refine lv_sipush (v := 230) hx hb dX11_begin_95 (by decide) ?_
      refine lv_iload_n hx hb dX11_begin_98 rfl (lv_at hl 0 rfl) ?_
      refine lv_iadd hx hb dX11_begin_99 ?_
      refine lv_topi (fun v_76 e_76 => ?_)
      obtain rfl : v_76 = 239 := e_76.trans (by decide)
      refine lv_bipush (v := (-5)) hx hb dX11_begin_100 (by decide) ?_
      refine kk_cv (wr := [kI cI h2 24 g1]) (kk_runV (w1 := [kO h0 10 [y0, .int i0, .int i1, y1, .int i2, .int i3, .int i4, .int i5, .int i6, .int i7, .int i8, .int i9, .int i10, .int 0, .int 0, .int i11, .int i12, .int i13, y2, y3, y4, y5, y6, y7, y8, y9, .int i14, .ref h1, .int 0, .int i15, y10, y11, y12, y13, .int i16, .int i17, .int i18, .ref h2, .int i19, .int i20, .int i21, .int i22, y14, y15, .long i23, y16], kI cI h1 5760 f_73]) (As := [.int 239, .int (-5)]) (rest := []) hx hb hml hown hts hE (c_X11_lay_2 l D cB cI cJ cD h0 h1 y0 i0 i1 y1 i2 i3 i4 i5 i6 i7 i8 i9 i10 0 0 i11 i12 i13 y2 y3 y4 y5 y6 y7 y8 y9 i14 i15 y10 y11 y12 y13 i16 i17 i18 (.ref h2) i19 i20 i21 i22 y14 y15 i23 y16 f_73 239 (-5) H.size hz_74 (kk_ix _ _ (by decide))) m_X11_lay w_1269 ⟨rfl, rfl, Nat.le_of_ble_eq_true rfl, Nat.le_of_ble_eq_true rfl⟩ (hP.sub [1, 2] rfl) (hD.sub [1, 2] (by decide +kernel) rfl) 0 10 rfl rfl rfl hl.1 (Nat.le_of_ble_eq_true rfl) dX11_begin_102 ⟨Nat.le_of_ble_eq_true rfl, Nat.le_of_ble_eq_true rfl⟩) hP hD hS hA [1, 2] [0] rfl rfl (by decide +kernel) (by decide +kernel) (fun u_77 H locs p_77 hP hD hS => ?_)
      have hP : va_P D vwCl [kI cI h2 24 g1, kO h0 10 [y0, .int i0, .int i1, y1, .int i2, .int i3, .int i4, .int i5, .int i6, .int i7, .int i8, .int i9, .int i10, .int 0, .int 0, .int i11, .int i12, .int i13, y2, y3, y4, y5, y6, y7, y8, y9, .int i14, .ref h1, .int 0, .int i15, y10, y11, y12, y13, .int i16, .int i17, .int i18, .ref h2, .int i19, .int i20, .int i21, .int i22, y14, y15, .long i23, y16], kI cI h1 5760 (upd f_73 (Int32.toNatClampNeg (0 + 239)) (-5))] H := hP
      have hD : va_D A [kI cI h2 24 g1, kO h0 10 [y0, .int i0, .int i1, y1, .int i2, .int i3, .int i4, .int i5, .int i6, .int i7, .int i8, .int i9, .int i10, .int 0, .int 0, .int i11, .int i12, .int i13, y2, y3, y4, y5, y6, y7, y8, y9, .int i14, .ref h1, .int 0, .int i15, y10, y11, y12, y13, .int i16, .int i17, .int i18, .ref h2, .int i19, .int i20, .int i21, .int i22, y14, y15, .long i23, y16], kI cI h1 5760 (upd f_73 (Int32.toNatClampNeg (0 + 239)) (-5))] := hD
      have hz_79 : kz 0 (upd f_73 (Int32.toNatClampNeg (0 + 239)) (-5)) := kz_lit hz_74 239 (by decide) (by decide)
      obtain ⟨f_78, ef_78⟩ : ∃ z, z = (upd f_73 (Int32.toNatClampNeg (0 + 239)) (-5)) := ⟨_, rfl⟩
      rw [← ef_78] at hP hD hz_79
      refine lv_iinc (v := 10) (lv' := [(1, .int 10), (0, .ref h0)]) hx hb dX11_begin_105 hl (k := 0) rfl (by decide) (by decide) rfl (fun ls hl => ?_)
      refine lv_goto (tgt := 88) hx hb dX11_begin_108 (by decide) ?_
      refine lv_iload_n hx hb dX11_begin_88 rfl (lv_at hl 0 rfl) ?_
      refine lv_bipush (v := 24) hx hb dX11_begin_89 (by decide) ?_
      refine lv_icmp_ge (tgt := 111) hx hb dX11_begin_91 (by decide) (fun c_80 => absurd c_80 (by decide)) (fun _ => ?_)
      refine lv_aload_n hx hb dX11_begin_94 rfl (lv_at hl 1 rfl) ?_
      refine lv_sipush (v := 230) hx hb dX11_begin_95 (by decide) ?_
      refine lv_iload_n hx hb dX11_begin_98 rfl (lv_at hl 0 rfl) ?_
      refine lv_iadd hx hb dX11_begin_99 ?_
      refine lv_topi (fun v_81 e_81 => ?_)
      obtain rfl : v_81 = 240 := e_81.trans (by decide)
      refine lv_bipush (v := (-5)) hx hb dX11_begin_100 (by decide) ?_
      refine kk_cv (wr := [kI cI h2 24 g1]) (kk_runV (w1 := [kO h0 10 [y0, .int i0, .int i1, y1, .int i2, .int i3, .int i4, .int i5, .int i6, .int i7, .int i8, .int i9, .int i10, .int 0, .int 0, .int i11, .int i12, .int i13, y2, y3, y4, y5, y6, y7, y8, y9, .int i14, .ref h1, .int 0, .int i15, y10, y11, y12, y13, .int i16, .int i17, .int i18, .ref h2, .int i19, .int i20, .int i21, .int i22, y14, y15, .long i23, y16], kI cI h1 5760 f_78]) (As := [.int 240, .int (-5)]) (rest := []) hx hb hml hown hts hE (c_X11_lay_2 l D cB cI cJ cD h0 h1 y0 i0 i1 y1 i2 i3 i4 i5 i6 i7 i8 i9 i10 0 0 i11 i12 i13 y2 y3 y4 y5 y6 y7 y8 y9 i14 i15 y10 y11 y12 y13 i16 i17 i18 (.ref h2) i19 i20 i21 i22 y14 y15 i23 y16 f_78 240 (-5) H.size hz_79 (kk_ix _ _ (by decide))) m_X11_lay w_1269 ⟨rfl, rfl, Nat.le_of_ble_eq_true rfl, Nat.le_of_ble_eq_true rfl⟩ (hP.sub [1, 2] rfl) (hD.sub [1, 2] (by decide +kernel) rfl) 0 10 rfl rfl rfl hl.1 (Nat.le_of_ble_eq_true rfl) dX11_begin_102 ⟨Nat.le_of_ble_eq_true rfl, Nat.le_of_ble_eq_true rfl⟩) hP hD hS hA [1, 2] [0] rfl rfl (by decide +kernel) (by decide +kernel) (fun u_82 H locs p_82 hP hD hS => ?_)
      have hP : va_P D vwCl [kI cI h2 24 g1, kO h0 10 [y0, .int i0, .int i1, y1, .int i2, .int i3, .int i4, .int i5, .int i6, .int i7, .int i8, .int i9, .int i10, .int 0, .int 0, .int i11, .int i12, .int i13, y2, y3, y4, y5, y6, y7, y8, y9, .int i14, .ref h1, .int 0, .int i15, y10, y11, y12, y13, .int i16, .int i17, .int i18, .ref h2, .int i19, .int i20, .int i21, .int i22, y14, y15, .long i23, y16], kI cI h1 5760 (upd f_78 (Int32.toNatClampNeg (0 + 240)) (-5))] H := hP
      have hD : va_D A [kI cI h2 24 g1, kO h0 10 [y0, .int i0, .int i1, y1, .int i2, .int i3, .int i4, .int i5, .int i6, .int i7, .int i8, .int i9, .int i10, .int 0, .int 0, .int i11, .int i12, .int i13, y2, y3, y4, y5, y6, y7, y8, y9, .int i14, .ref h1, .int 0, .int i15, y10, y11, y12, y13, .int i16, .int i17, .int i18, .ref h2, .int i19, .int i20, .int i21, .int i22, y14, y15, .long i23, y16], kI cI h1 5760 (upd f_78 (Int32.toNatClampNeg (0 + 240)) (-5))] := hD
      have hz_84 : kz 0 (upd f_78 (Int32.toNatClampNeg (0 + 240)) (-5)) := kz_lit hz_79 240 (by decide) (by decide)
      obtain ⟨f_83, ef_83⟩ : ∃ z, z = (upd f_78 (Int32.toNatClampNeg (0 + 240)) (-5)) := ⟨_, rfl⟩
      rw [← ef_83] at hP hD hz_84
      refine lv_iinc (v := 11) (lv' := [(1, .int 11), (0, .ref h0)]) hx hb dX11_begin_105 hl (k := 0) rfl (by decide) (by decide) rfl (fun ls hl => ?_)
      refine lv_goto (tgt := 88) hx hb dX11_begin_108 (by decide) ?_
      refine lv_iload_n hx hb dX11_begin_88 rfl (lv_at hl 0 rfl) ?_
      refine lv_bipush (v := 24) hx hb dX11_begin_89 (by decide) ?_
      refine lv_icmp_ge (tgt := 111) hx hb dX11_begin_91 (by decide) (fun c_85 => absurd c_85 (by decide)) (fun _ => ?_)
      refine lv_aload_n hx hb dX11_begin_94 rfl (lv_at hl 1 rfl) ?_
      refine lv_sipush (v := 230) hx hb dX11_begin_95 (by decide) ?_
      refine lv_iload_n hx hb dX11_begin_98 rfl (lv_at hl 0 rfl) ?_
      refine lv_iadd hx hb dX11_begin_99 ?_
      refine lv_topi (fun v_86 e_86 => ?_)
      obtain rfl : v_86 = 241 := e_86.trans (by decide)
      refine lv_bipush (v := (-5)) hx hb dX11_begin_100 (by decide) ?_
      refine kk_cv (wr := [kI cI h2 24 g1]) (kk_runV (w1 := [kO h0 10 [y0, .int i0, .int i1, y1, .int i2, .int i3, .int i4, .int i5, .int i6, .int i7, .int i8, .int i9, .int i10, .int 0, .int 0, .int i11, .int i12, .int i13, y2, y3, y4, y5, y6, y7, y8, y9, .int i14, .ref h1, .int 0, .int i15, y10, y11, y12, y13, .int i16, .int i17, .int i18, .ref h2, .int i19, .int i20, .int i21, .int i22, y14, y15, .long i23, y16], kI cI h1 5760 f_83]) (As := [.int 241, .int (-5)]) (rest := []) hx hb hml hown hts hE (c_X11_lay_2 l D cB cI cJ cD h0 h1 y0 i0 i1 y1 i2 i3 i4 i5 i6 i7 i8 i9 i10 0 0 i11 i12 i13 y2 y3 y4 y5 y6 y7 y8 y9 i14 i15 y10 y11 y12 y13 i16 i17 i18 (.ref h2) i19 i20 i21 i22 y14 y15 i23 y16 f_83 241 (-5) H.size hz_84 (kk_ix _ _ (by decide))) m_X11_lay w_1269 ⟨rfl, rfl, Nat.le_of_ble_eq_true rfl, Nat.le_of_ble_eq_true rfl⟩ (hP.sub [1, 2] rfl) (hD.sub [1, 2] (by decide +kernel) rfl) 0 10 rfl rfl rfl hl.1 (Nat.le_of_ble_eq_true rfl) dX11_begin_102 ⟨Nat.le_of_ble_eq_true rfl, Nat.le_of_ble_eq_true rfl⟩) hP hD hS hA [1, 2] [0] rfl rfl (by decide +kernel) (by decide +kernel) (fun u_87 H locs p_87 hP hD hS => ?_)
      have hP : va_P D vwCl [kI cI h2 24 g1, kO h0 10 [y0, .int i0, .int i1, y1, .int i2, .int i3, .int i4, .int i5, .int i6, .int i7, .int i8, .int i9, .int i10, .int 0, .int 0, .int i11, .int i12, .int i13, y2, y3, y4, y5, y6, y7, y8, y9, .int i14, .ref h1, .int 0, .int i15, y10, y11, y12, y13, .int i16, .int i17, .int i18, .ref h2, .int i19, .int i20, .int i21, .int i22, y14, y15, .long i23, y16], kI cI h1 5760 (upd f_83 (Int32.toNatClampNeg (0 + 241)) (-5))] H := hP
      have hD : va_D A [kI cI h2 24 g1, kO h0 10 [y0, .int i0, .int i1, y1, .int i2, .int i3, .int i4, .int i5, .int i6, .int i7, .int i8, .int i9, .int i10, .int 0, .int 0, .int i11, .int i12, .int i13, y2, y3, y4, y5, y6, y7, y8, y9, .int i14, .ref h1, .int 0, .int i15, y10, y11, y12, y13, .int i16, .int i17, .int i18, .ref h2, .int i19, .int i20, .int i21, .int i22, y14, y15, .long i23, y16], kI cI h1 5760 (upd f_83 (Int32.toNatClampNeg (0 + 241)) (-5))] := hD
      have hz_89 : kz 0 (upd f_83 (Int32.toNatClampNeg (0 + 241)) (-5)) := kz_lit hz_84 241 (by decide) (by decide)
      obtain ⟨f_88, ef_88⟩ : ∃ z, z = (upd f_83 (Int32.toNatClampNeg (0 + 241)) (-5)) := ⟨_, rfl⟩
      rw [← ef_88] at hP hD hz_89
      refine lv_iinc (v := 12) (lv' := [(1, .int 12), (0, .ref h0)]) hx hb dX11_begin_105 hl (k := 0) rfl (by decide) (by decide) rfl (fun ls hl => ?_)
      refine lv_goto (tgt := 88) hx hb dX11_begin_108 (by decide) ?_
      refine lv_iload_n hx hb dX11_begin_88 rfl (lv_at hl 0 rfl) ?_
      refine lv_bipush (v := 24) hx hb dX11_begin_89 (by decide) ?_
      refine lv_icmp_ge (tgt := 111) hx hb dX11_begin_91 (by decide) (fun c_90 => absurd c_90 (by decide)) (fun _ => ?_)
      refine lv_aload_n hx hb dX11_begin_94 rfl (lv_at hl 1 rfl) ?_
      refine lv_sipush (v := 230) hx hb dX11_begin_95 (by decide) ?_
      refine lv_iload_n hx hb dX11_begin_98 rfl (lv_at hl 0 rfl) ?_
      refine lv_iadd hx hb dX11_begin_99 ?_
      refine lv_topi (fun v_91 e_91 => ?_)
      obtain rfl : v_91 = 242 := e_91.trans (by decide)
      refine lv_bipush (v := (-5)) hx hb dX11_begin_100 (by decide) ?_
      refine kk_cv (wr := [kI cI h2 24 g1]) (kk_runV (w1 := [kO h0 10 [y0, .int i0, .int i1, y1, .int i2, .int i3, .int i4, .int i5, .int i6, .int i7, .int i8, .int i9, .int i10, .int 0, .int 0, .int i11, .int i12, .int i13, y2, y3, y4, y5, y6, y7, y8, y9, .int i14, .ref h1, .int 0, .int i15, y10, y11, y12, y13, .int i16, .int i17, .int i18, .ref h2, .int i19, .int i20, .int i21, .int i22, y14, y15, .long i23, y16], kI cI h1 5760 f_88]) (As := [.int 242, .int (-5)]) (rest := []) hx hb hml hown hts hE (c_X11_lay_2 l D cB cI cJ cD h0 h1 y0 i0 i1 y1 i2 i3 i4 i5 i6 i7 i8 i9 i10 0 0 i11 i12 i13 y2 y3 y4 y5 y6 y7 y8 y9 i14 i15 y10 y11 y12 y13 i16 i17 i18 (.ref h2) i19 i20 i21 i22 y14 y15 i23 y16 f_88 242 (-5) H.size hz_89 (kk_ix _ _ (by decide))) m_X11_lay w_1269 ⟨rfl, rfl, Nat.le_of_ble_eq_true rfl, Nat.le_of_ble_eq_true rfl⟩ (hP.sub [1, 2] rfl) (hD.sub [1, 2] (by decide +kernel) rfl) 0 10 rfl rfl rfl hl.1 (Nat.le_of_ble_eq_true rfl) dX11_begin_102 ⟨Nat.le_of_ble_eq_true rfl, Nat.le_of_ble_eq_true rfl⟩) hP hD hS hA [1, 2] [0] rfl rfl (by decide +kernel) (by decide +kernel) (fun u_92 H locs p_92 hP hD hS => ?_)
      have hP : va_P D vwCl [kI cI h2 24 g1, kO h0 10 [y0, .int i0, .int i1, y1, .int i2, .int i3, .int i4, .int i5, .int i6, .int i7, .int i8, .int i9, .int i10, .int 0, .int 0, .int i11, .int i12, .int i13, y2, y3, y4, y5, y6, y7, y8, y9, .int i14, .ref h1, .int 0, .int i15, y10, y11, y12, y13, .int i16, .int i17, .int i18, .ref h2, .int i19, .int i20, .int i21, .int i22, y14, y15, .long i23, y16], kI cI h1 5760 (upd f_88 (Int32.toNatClampNeg (0 + 242)) (-5))] H := hP
      have hD : va_D A [kI cI h2 24 g1, kO h0 10 [y0, .int i0, .int i1, y1, .int i2, .int i3, .int i4, .int i5, .int i6, .int i7, .int i8, .int i9, .int i10, .int 0, .int 0, .int i11, .int i12, .int i13, y2, y3, y4, y5, y6, y7, y8, y9, .int i14, .ref h1, .int 0, .int i15, y10, y11, y12, y13, .int i16, .int i17, .int i18, .ref h2, .int i19, .int i20, .int i21, .int i22, y14, y15, .long i23, y16], kI cI h1 5760 (upd f_88 (Int32.toNatClampNeg (0 + 242)) (-5))] := hD
      have hz_94 : kz 0 (upd f_88 (Int32.toNatClampNeg (0 + 242)) (-5)) := kz_lit hz_89 242 (by decide) (by decide)
      obtain ⟨f_93, ef_93⟩ : ∃ z, z = (upd f_88 (Int32.toNatClampNeg (0 + 242)) (-5)) := ⟨_, rfl⟩
      rw [← ef_93] at hP hD hz_94
      refine lv_iinc (v := 13) (lv' := [(1, .int 13), (0, .ref h0)]) hx hb dX11_begin_105 hl (k := 0) rfl (by decide) (by decide) rfl (fun ls hl => ?_)
      refine lv_goto (tgt := 88) hx hb dX11_begin_108 (by decide) ?_
      refine lv_iload_n hx hb dX11_begin_88 rfl (lv_at hl 0 rfl) ?_
      refine lv_bipush (v := 24) hx hb dX11_begin_89 (by decide) ?_
      refine lv_icmp_ge (tgt := 111) hx hb dX11_begin_91 (by decide) (fun c_95 => absurd c_95 (by decide)) (fun _ => ?_)
      refine lv_aload_n hx hb dX11_begin_94 rfl (lv_at hl 1 rfl) ?_
      refine lv_sipush (v := 230) hx hb dX11_begin_95 (by decide) ?_
      refine lv_iload_n hx hb dX11_begin_98 rfl (lv_at hl 0 rfl) ?_
      refine lv_iadd hx hb dX11_begin_99 ?_
      refine lv_topi (fun v_96 e_96 => ?_)
      obtain rfl : v_96 = 243 := e_96.trans (by decide)
      refine lv_bipush (v := (-5)) hx hb dX11_begin_100 (by decide) ?_
      refine kk_cv (wr := [kI cI h2 24 g1]) (kk_runV (w1 := [kO h0 10 [y0, .int i0, .int i1, y1, .int i2, .int i3, .int i4, .int i5, .int i6, .int i7, .int i8, .int i9, .int i10, .int 0, .int 0, .int i11, .int i12, .int i13, y2, y3, y4, y5, y6, y7, y8, y9, .int i14, .ref h1, .int 0, .int i15, y10, y11, y12, y13, .int i16, .int i17, .int i18, .ref h2, .int i19, .int i20, .int i21, .int i22, y14, y15, .long i23, y16], kI cI h1 5760 f_93]) (As := [.int 243, .int (-5)]) (rest := []) hx hb hml hown hts hE (c_X11_lay_2 l D cB cI cJ cD h0 h1 y0 i0 i1 y1 i2 i3 i4 i5 i6 i7 i8 i9 i10 0 0 i11 i12 i13 y2 y3 y4 y5 y6 y7 y8 y9 i14 i15 y10 y11 y12 y13 i16 i17 i18 (.ref h2) i19 i20 i21 i22 y14 y15 i23 y16 f_93 243 (-5) H.size hz_94 (kk_ix _ _ (by decide))) m_X11_lay w_1269 ⟨rfl, rfl, Nat.le_of_ble_eq_true rfl, Nat.le_of_ble_eq_true rfl⟩ (hP.sub [1, 2] rfl) (hD.sub [1, 2] (by decide +kernel) rfl) 0 10 rfl rfl rfl hl.1 (Nat.le_of_ble_eq_true rfl) dX11_begin_102 ⟨Nat.le_of_ble_eq_true rfl, Nat.le_of_ble_eq_true rfl⟩) hP hD hS hA [1, 2] [0] rfl rfl (by decide +kernel) (by decide +kernel) (fun u_97 H locs p_97 hP hD hS => ?_)
      have hP : va_P D vwCl [kI cI h2 24 g1, kO h0 10 [y0, .int i0, .int i1, y1, .int i2, .int i3, .int i4, .int i5, .int i6, .int i7, .int i8, .int i9, .int i10, .int 0, .int 0, .int i11, .int i12, .int i13, y2, y3, y4, y5, y6, y7, y8, y9, .int i14, .ref h1, .int 0, .int i15, y10, y11, y12, y13, .int i16, .int i17, .int i18, .ref h2, .int i19, .int i20, .int i21, .int i22, y14, y15, .long i23, y16], kI cI h1 5760 (upd f_93 (Int32.toNatClampNeg (0 + 243)) (-5))] H := hP
      have hD : va_D A [kI cI h2 24 g1, kO h0 10 [y0, .int i0, .int i1, y1, .int i2, .int i3, .int i4, .int i5, .int i6, .int i7, .int i8, .int i9, .int i10, .int 0, .int 0, .int i11, .int i12, .int i13, y2, y3, y4, y5, y6, y7, y8, y9, .int i14, .ref h1, .int 0, .int i15, y10, y11, y12, y13, .int i16, .int i17, .int i18, .ref h2, .int i19, .int i20, .int i21, .int i22, y14, y15, .long i23, y16], kI cI h1 5760 (upd f_93 (Int32.toNatClampNeg (0 + 243)) (-5))] := hD
      have hz_99 : kz 0 (upd f_93 (Int32.toNatClampNeg (0 + 243)) (-5)) := kz_lit hz_94 243 (by decide) (by decide)
      obtain ⟨f_98, ef_98⟩ : ∃ z, z = (upd f_93 (Int32.toNatClampNeg (0 + 243)) (-5)) := ⟨_, rfl⟩
      rw [← ef_98] at hP hD hz_99
      refine lv_iinc (v := 14) (lv' := [(1, .int 14), (0, .ref h0)]) hx hb dX11_begin_105 hl (k := 0) rfl (by decide) (by decide) rfl (fun ls hl => ?_)
      refine lv_goto (tgt := 88) hx hb dX11_begin_108 (by decide) ?_
      refine lv_iload_n hx hb dX11_begin_88 rfl (lv_at hl 0 rfl) ?_
      refine lv_bipush (v := 24) hx hb dX11_begin_89 (by decide) ?_
      refine lv_icmp_ge (tgt := 111) hx hb dX11_begin_91 (by decide) (fun c_100 => absurd c_100 (by decide)) (fun _ => ?_)
      refine lv_aload_n hx hb dX11_begin_94 rfl (lv_at hl 1 rfl) ?_
      refine lv_sipush (v := 230) hx hb dX11_begin_95 (by decide) ?_
      refine lv_iload_n hx hb dX11_begin_98 rfl (lv_at hl 0 rfl) ?_
      refine lv_iadd hx hb dX11_begin_99 ?_
      refine lv_topi (fun v_101 e_101 => ?_)
      obtain rfl : v_101 = 244 := e_101.trans (by decide)
      refine lv_bipush (v := (-5)) hx hb dX11_begin_100 (by decide) ?_
      refine kk_cv (wr := [kI cI h2 24 g1]) (kk_runV (w1 := [kO h0 10 [y0, .int i0, .int i1, y1, .int i2, .int i3, .int i4, .int i5, .int i6, .int i7, .int i8, .int i9, .int i10, .int 0, .int 0, .int i11, .int i12, .int i13, y2, y3, y4, y5, y6, y7, y8, y9, .int i14, .ref h1, .int 0, .int i15, y10, y11, y12, y13, .int i16, .int i17, .int i18, .ref h2, .int i19, .int i20, .int i21, .int i22, y14, y15, .long i23, y16], kI cI h1 5760 f_98]) (As := [.int 244, .int (-5)]) (rest := []) hx hb hml hown hts hE (c_X11_lay_2 l D cB cI cJ cD h0 h1 y0 i0 i1 y1 i2 i3 i4 i5 i6 i7 i8 i9 i10 0 0 i11 i12 i13 y2 y3 y4 y5 y6 y7 y8 y9 i14 i15 y10 y11 y12 y13 i16 i17 i18 (.ref h2) i19 i20 i21 i22 y14 y15 i23 y16 f_98 244 (-5) H.size hz_99 (kk_ix _ _ (by decide))) m_X11_lay w_1269 ⟨rfl, rfl, Nat.le_of_ble_eq_true rfl, Nat.le_of_ble_eq_true rfl⟩ (hP.sub [1, 2] rfl) (hD.sub [1, 2] (by decide +kernel) rfl) 0 10 rfl rfl rfl hl.1 (Nat.le_of_ble_eq_true rfl) dX11_begin_102 ⟨Nat.le_of_ble_eq_true rfl, Nat.le_of_ble_eq_true rfl⟩) hP hD hS hA [1, 2] [0] rfl rfl (by decide +kernel) (by decide +kernel) (fun u_102 H locs p_102 hP hD hS => ?_)
      have hP : va_P D vwCl [kI cI h2 24 g1, kO h0 10 [y0, .int i0, .int i1, y1, .int i2, .int i3, .int i4, .int i5, .int i6, .int i7, .int i8, .int i9, .int i10, .int 0, .int 0, .int i11, .int i12, .int i13, y2, y3, y4, y5, y6, y7, y8, y9, .int i14, .ref h1, .int 0, .int i15, y10, y11, y12, y13, .int i16, .int i17, .int i18, .ref h2, .int i19, .int i20, .int i21, .int i22, y14, y15, .long i23, y16], kI cI h1 5760 (upd f_98 (Int32.toNatClampNeg (0 + 244)) (-5))] H := hP
      have hD : va_D A [kI cI h2 24 g1, kO h0 10 [y0, .int i0, .int i1, y1, .int i2, .int i3, .int i4, .int i5, .int i6, .int i7, .int i8, .int i9, .int i10, .int 0, .int 0, .int i11, .int i12, .int i13, y2, y3, y4, y5, y6, y7, y8, y9, .int i14, .ref h1, .int 0, .int i15, y10, y11, y12, y13, .int i16, .int i17, .int i18, .ref h2, .int i19, .int i20, .int i21, .int i22, y14, y15, .long i23, y16], kI cI h1 5760 (upd f_98 (Int32.toNatClampNeg (0 + 244)) (-5))] := hD
      have hz_104 : kz 0 (upd f_98 (Int32.toNatClampNeg (0 + 244)) (-5)) := kz_lit hz_99 244 (by decide) (by decide)
      obtain ⟨f_103, ef_103⟩ : ∃ z, z = (upd f_98 (Int32.toNatClampNeg (0 + 244)) (-5)) := ⟨_, rfl⟩
      rw [← ef_103] at hP hD hz_104
      refine lv_iinc (v := 15) (lv' := [(1, .int 15), (0, .ref h0)]) hx hb dX11_begin_105 hl (k := 0) rfl (by decide) (by decide) rfl (fun ls hl => ?_)
      refine lv_goto (tgt := 88) hx hb dX11_begin_108 (by decide) ?_
      refine lv_iload_n hx hb dX11_begin_88 rfl (lv_at hl 0 rfl) ?_
      refine lv_bipush (v := 24) hx hb dX11_begin_89 (by decide) ?_
      refine lv_icmp_ge (tgt := 111) hx hb dX11_begin_91 (by decide) (fun c_105 => absurd c_105 (by decide)) (fun _ => ?_)
      refine lv_aload_n hx hb dX11_begin_94 rfl (lv_at hl 1 rfl) ?_
      refine lv_sipush (v := 230) hx hb dX11_begin_95 (by decide) ?_
      refine lv_iload_n hx hb dX11_begin_98 rfl (lv_at hl 0 rfl) ?_
      refine lv_iadd hx hb dX11_begin_99 ?_
      refine lv_topi (fun v_106 e_106 => ?_)
      obtain rfl : v_106 = 245 := e_106.trans (by decide)
      refine lv_bipush (v := (-5)) hx hb dX11_begin_100 (by decide) ?_
      refine kk_cv (wr := [kI cI h2 24 g1]) (kk_runV (w1 := [kO h0 10 [y0, .int i0, .int i1, y1, .int i2, .int i3, .int i4, .int i5, .int i6, .int i7, .int i8, .int i9, .int i10, .int 0, .int 0, .int i11, .int i12, .int i13, y2, y3, y4, y5, y6, y7, y8, y9, .int i14, .ref h1, .int 0, .int i15, y10, y11, y12, y13, .int i16, .int i17, .int i18, .ref h2, .int i19, .int i20, .int i21, .int i22, y14, y15, .long i23, y16], kI cI h1 5760 f_103]) (As := [.int 245, .int (-5)]) (rest := []) hx hb hml hown hts hE (c_X11_lay_2 l D cB cI cJ cD h0 h1 y0 i0 i1 y1 i2 i3 i4 i5 i6 i7 i8 i9 i10 0 0 i11 i12 i13 y2 y3 y4 y5 y6 y7 y8 y9 i14 i15 y10 y11 y12 y13 i16 i17 i18 (.ref h2) i19 i20 i21 i22 y14 y15 i23 y16 f_103 245 (-5) H.size hz_104 (kk_ix _ _ (by decide))) m_X11_lay w_1269 ⟨rfl, rfl, Nat.le_of_ble_eq_true rfl, Nat.le_of_ble_eq_true rfl⟩ (hP.sub [1, 2] rfl) (hD.sub [1, 2] (by decide +kernel) rfl) 0 10 rfl rfl rfl hl.1 (Nat.le_of_ble_eq_true rfl) dX11_begin_102 ⟨Nat.le_of_ble_eq_true rfl, Nat.le_of_ble_eq_true rfl⟩) hP hD hS hA [1, 2] [0] rfl rfl (by decide +kernel) (by decide +kernel) (fun u_107 H locs p_107 hP hD hS => ?_)
      have hP : va_P D vwCl [kI cI h2 24 g1, kO h0 10 [y0, .int i0, .int i1, y1, .int i2, .int i3, .int i4, .int i5, .int i6, .int i7, .int i8, .int i9, .int i10, .int 0, .int 0, .int i11, .int i12, .int i13, y2, y3, y4, y5, y6, y7, y8, y9, .int i14, .ref h1, .int 0, .int i15, y10, y11, y12, y13, .int i16, .int i17, .int i18, .ref h2, .int i19, .int i20, .int i21, .int i22, y14, y15, .long i23, y16], kI cI h1 5760 (upd f_103 (Int32.toNatClampNeg (0 + 245)) (-5))] H := hP
      have hD : va_D A [kI cI h2 24 g1, kO h0 10 [y0, .int i0, .int i1, y1, .int i2, .int i3, .int i4, .int i5, .int i6, .int i7, .int i8, .int i9, .int i10, .int 0, .int 0, .int i11, .int i12, .int i13, y2, y3, y4, y5, y6, y7, y8, y9, .int i14, .ref h1, .int 0, .int i15, y10, y11, y12, y13, .int i16, .int i17, .int i18, .ref h2, .int i19, .int i20, .int i21, .int i22, y14, y15, .long i23, y16], kI cI h1 5760 (upd f_103 (Int32.toNatClampNeg (0 + 245)) (-5))] := hD
      have hz_109 : kz 0 (upd f_103 (Int32.toNatClampNeg (0 + 245)) (-5)) := kz_lit hz_104 245 (by decide) (by decide)
      obtain ⟨f_108, ef_108⟩ : ∃ z, z = (upd f_103 (Int32.toNatClampNeg (0 + 245)) (-5)) := ⟨_, rfl⟩
      rw [← ef_108] at hP hD hz_109
      refine lv_iinc (v := 16) (lv' := [(1, .int 16), (0, .ref h0)]) hx hb dX11_begin_105 hl (k := 0) rfl (by decide) (by decide) rfl (fun ls hl => ?_)
      refine lv_goto (tgt := 88) hx hb dX11_begin_108 (by decide) ?_
      refine lv_iload_n hx hb dX11_begin_88 rfl (lv_at hl 0 rfl) ?_
      refine lv_bipush (v := 24) hx hb dX11_begin_89 (by decide) ?_
      refine lv_icmp_ge (tgt := 111) hx hb dX11_begin_91 (by decide) (fun c_110 => absurd c_110 (by decide)) (fun _ => ?_)
      refine lv_aload_n hx hb dX11_begin_94 rfl (lv_at hl 1 rfl) ?_
      refine lv_sipush (v := 230) hx hb dX11_begin_95 (by decide) ?_
      refine lv_iload_n hx hb dX11_begin_98 rfl (lv_at hl 0 rfl) ?_
      refine lv_iadd hx hb dX11_begin_99 ?_
      refine lv_topi (fun v_111 e_111 => ?_)
      obtain rfl : v_111 = 246 := e_111.trans (by decide)
      refine lv_bipush (v := (-5)) hx hb dX11_begin_100 (by decide) ?_
      refine kk_cv (wr := [kI cI h2 24 g1]) (kk_runV (w1 := [kO h0 10 [y0, .int i0, .int i1, y1, .int i2, .int i3, .int i4, .int i5, .int i6, .int i7, .int i8, .int i9, .int i10, .int 0, .int 0, .int i11, .int i12, .int i13, y2, y3, y4, y5, y6, y7, y8, y9, .int i14, .ref h1, .int 0, .int i15, y10, y11, y12, y13, .int i16, .int i17, .int i18, .ref h2, .int i19, .int i20, .int i21, .int i22, y14, y15, .long i23, y16], kI cI h1 5760 f_108]) (As := [.int 246, .int (-5)]) (rest := []) hx hb hml hown hts hE (c_X11_lay_2 l D cB cI cJ cD h0 h1 y0 i0 i1 y1 i2 i3 i4 i5 i6 i7 i8 i9 i10 0 0 i11 i12 i13 y2 y3 y4 y5 y6 y7 y8 y9 i14 i15 y10 y11 y12 y13 i16 i17 i18 (.ref h2) i19 i20 i21 i22 y14 y15 i23 y16 f_108 246 (-5) H.size hz_109 (kk_ix _ _ (by decide))) m_X11_lay w_1269 ⟨rfl, rfl, Nat.le_of_ble_eq_true rfl, Nat.le_of_ble_eq_true rfl⟩ (hP.sub [1, 2] rfl) (hD.sub [1, 2] (by decide +kernel) rfl) 0 10 rfl rfl rfl hl.1 (Nat.le_of_ble_eq_true rfl) dX11_begin_102 ⟨Nat.le_of_ble_eq_true rfl, Nat.le_of_ble_eq_true rfl⟩) hP hD hS hA [1, 2] [0] rfl rfl (by decide +kernel) (by decide +kernel) (fun u_112 H locs p_112 hP hD hS => ?_)
      have hP : va_P D vwCl [kI cI h2 24 g1, kO h0 10 [y0, .int i0, .int i1, y1, .int i2, .int i3, .int i4, .int i5, .int i6, .int i7, .int i8, .int i9, .int i10, .int 0, .int 0, .int i11, .int i12, .int i13, y2, y3, y4, y5, y6, y7, y8, y9, .int i14, .ref h1, .int 0, .int i15, y10, y11, y12, y13, .int i16, .int i17, .int i18, .ref h2, .int i19, .int i20, .int i21, .int i22, y14, y15, .long i23, y16], kI cI h1 5760 (upd f_108 (Int32.toNatClampNeg (0 + 246)) (-5))] H := hP
      have hD : va_D A [kI cI h2 24 g1, kO h0 10 [y0, .int i0, .int i1, y1, .int i2, .int i3, .int i4, .int i5, .int i6, .int i7, .int i8, .int i9, .int i10, .int 0, .int 0, .int i11, .int i12, .int i13, y2, y3, y4, y5, y6, y7, y8, y9, .int i14, .ref h1, .int 0, .int i15, y10, y11, y12, y13, .int i16, .int i17, .int i18, .ref h2, .int i19, .int i20, .int i21, .int i22, y14, y15, .long i23, y16], kI cI h1 5760 (upd f_108 (Int32.toNatClampNeg (0 + 246)) (-5))] := hD
      have hz_114 : kz 0 (upd f_108 (Int32.toNatClampNeg (0 + 246)) (-5)) := kz_lit hz_109 246 (by decide) (by decide)
      obtain ⟨f_113, ef_113⟩ : ∃ z, z = (upd f_108 (Int32.toNatClampNeg (0 + 246)) (-5)) := ⟨_, rfl⟩
      rw [← ef_113] at hP hD hz_114
      refine lv_iinc (v := 17) (lv' := [(1, .int 17), (0, .ref h0)]) hx hb dX11_begin_105 hl (k := 0) rfl (by decide) (by decide) rfl (fun ls hl => ?_)
      refine lv_goto (tgt := 88) hx hb dX11_begin_108 (by decide) ?_
      refine lv_iload_n hx hb dX11_begin_88 rfl (lv_at hl 0 rfl) ?_
      refine lv_bipush (v := 24) hx hb dX11_begin_89 (by decide) ?_
      refine lv_icmp_ge (tgt := 111) hx hb dX11_begin_91 (by decide) (fun c_115 => absurd c_115 (by decide)) (fun _ => ?_)
      refine lv_aload_n hx hb dX11_begin_94 rfl (lv_at hl 1 rfl) ?_
      refine lv_sipush (v := 230) hx hb dX11_begin_95 (by decide) ?_
      refine lv_iload_n hx hb dX11_begin_98 rfl (lv_at hl 0 rfl) ?_
      refine lv_iadd hx hb dX11_begin_99 ?_
      refine lv_topi (fun v_116 e_116 => ?_)
      obtain rfl : v_116 = 247 := e_116.trans (by decide)
      refine lv_bipush (v := (-5)) hx hb dX11_begin_100 (by decide) ?_
      refine kk_cv (wr := [kI cI h2 24 g1]) (kk_runV (w1 := [kO h0 10 [y0, .int i0, .int i1, y1, .int i2, .int i3, .int i4, .int i5, .int i6, .int i7, .int i8, .int i9, .int i10, .int 0, .int 0, .int i11, .int i12, .int i13, y2, y3, y4, y5, y6, y7, y8, y9, .int i14, .ref h1, .int 0, .int i15, y10, y11, y12, y13, .int i16, .int i17, .int i18, .ref h2, .int i19, .int i20, .int i21, .int i22, y14, y15, .long i23, y16], kI cI h1 5760 f_113]) (As := [.int 247, .int (-5)]) (rest := []) hx hb hml hown hts hE (c_X11_lay_2 l D cB cI cJ cD h0 h1 y0 i0 i1 y1 i2 i3 i4 i5 i6 i7 i8 i9 i10 0 0 i11 i12 i13 y2 y3 y4 y5 y6 y7 y8 y9 i14 i15 y10 y11 y12 y13 i16 i17 i18 (.ref h2) i19 i20 i21 i22 y14 y15 i23 y16 f_113 247 (-5) H.size hz_114 (kk_ix _ _ (by decide))) m_X11_lay w_1269 ⟨rfl, rfl, Nat.le_of_ble_eq_true rfl, Nat.le_of_ble_eq_true rfl⟩ (hP.sub [1, 2] rfl) (hD.sub [1, 2] (by decide +kernel) rfl) 0 10 rfl rfl rfl hl.1 (Nat.le_of_ble_eq_true rfl) dX11_begin_102 ⟨Nat.le_of_ble_eq_true rfl, Nat.le_of_ble_eq_true rfl⟩) hP hD hS hA [1, 2] [0] rfl rfl (by decide +kernel) (by decide +kernel) (fun u_117 H locs p_117 hP hD hS => ?_)
      have hP : va_P D vwCl [kI cI h2 24 g1, kO h0 10 [y0, .int i0, .int i1, y1, .int i2, .int i3, .int i4, .int i5, .int i6, .int i7, .int i8, .int i9, .int i10, .int 0, .int 0, .int i11, .int i12, .int i13, y2, y3, y4, y5, y6, y7, y8, y9, .int i14, .ref h1, .int 0, .int i15, y10, y11, y12, y13, .int i16, .int i17, .int i18, .ref h2, .int i19, .int i20, .int i21, .int i22, y14, y15, .long i23, y16], kI cI h1 5760 (upd f_113 (Int32.toNatClampNeg (0 + 247)) (-5))] H := hP
      have hD : va_D A [kI cI h2 24 g1, kO h0 10 [y0, .int i0, .int i1, y1, .int i2, .int i3, .int i4, .int i5, .int i6, .int i7, .int i8, .int i9, .int i10, .int 0, .int 0, .int i11, .int i12, .int i13, y2, y3, y4, y5, y6, y7, y8, y9, .int i14, .ref h1, .int 0, .int i15, y10, y11, y12, y13, .int i16, .int i17, .int i18, .ref h2, .int i19, .int i20, .int i21, .int i22, y14, y15, .long i23, y16], kI cI h1 5760 (upd f_113 (Int32.toNatClampNeg (0 + 247)) (-5))] := hD
      have hz_119 : kz 0 (upd f_113 (Int32.toNatClampNeg (0 + 247)) (-5)) := kz_lit hz_114 247 (by decide) (by decide)
      obtain ⟨f_118, ef_118⟩ : ∃ z, z = (upd f_113 (Int32.toNatClampNeg (0 + 247)) (-5)) := ⟨_, rfl⟩
      rw [← ef_118] at hP hD hz_119
      refine lv_iinc (v := 18) (lv' := [(1, .int 18), (0, .ref h0)]) hx hb dX11_begin_105 hl (k := 0) rfl (by decide) (by decide) rfl (fun ls hl => ?_)
      refine lv_goto (tgt := 88) hx hb dX11_begin_108 (by decide) ?_
      refine lv_iload_n hx hb dX11_begin_88 rfl (lv_at hl 0 rfl) ?_
      refine lv_bipush (v := 24) hx hb dX11_begin_89 (by decide) ?_
      refine lv_icmp_ge (tgt := 111) hx hb dX11_begin_91 (by decide) (fun c_120 => absurd c_120 (by decide)) (fun _ => ?_)
      refine lv_aload_n hx hb dX11_begin_94 rfl (lv_at hl 1 rfl) ?_
      refine lv_sipush (v := 230) hx hb dX11_begin_95 (by decide) ?_
      refine lv_iload_n hx hb dX11_begin_98 rfl (lv_at hl 0 rfl) ?_
      refine lv_iadd hx hb dX11_begin_99 ?_
      refine lv_topi (fun v_121 e_121 => ?_)
      obtain rfl : v_121 = 248 := e_121.trans (by decide)
      refine lv_bipush (v := (-5)) hx hb dX11_begin_100 (by decide) ?_
      refine kk_cv (wr := [kI cI h2 24 g1]) (kk_runV (w1 := [kO h0 10 [y0, .int i0, .int i1, y1, .int i2, .int i3, .int i4, .int i5, .int i6, .int i7, .int i8, .int i9, .int i10, .int 0, .int 0, .int i11, .int i12, .int i13, y2, y3, y4, y5, y6, y7, y8, y9, .int i14, .ref h1, .int 0, .int i15, y10, y11, y12, y13, .int i16, .int i17, .int i18, .ref h2, .int i19, .int i20, .int i21, .int i22, y14, y15, .long i23, y16], kI cI h1 5760 f_118]) (As := [.int 248, .int (-5)]) (rest := []) hx hb hml hown hts hE (c_X11_lay_2 l D cB cI cJ cD h0 h1 y0 i0 i1 y1 i2 i3 i4 i5 i6 i7 i8 i9 i10 0 0 i11 i12 i13 y2 y3 y4 y5 y6 y7 y8 y9 i14 i15 y10 y11 y12 y13 i16 i17 i18 (.ref h2) i19 i20 i21 i22 y14 y15 i23 y16 f_118 248 (-5) H.size hz_119 (kk_ix _ _ (by decide))) m_X11_lay w_1269 ⟨rfl, rfl, Nat.le_of_ble_eq_true rfl, Nat.le_of_ble_eq_true rfl⟩ (hP.sub [1, 2] rfl) (hD.sub [1, 2] (by decide +kernel) rfl) 0 10 rfl rfl rfl hl.1 (Nat.le_of_ble_eq_true rfl) dX11_begin_102 ⟨Nat.le_of_ble_eq_true rfl, Nat.le_of_ble_eq_true rfl⟩) hP hD hS hA [1, 2] [0] rfl rfl (by decide +kernel) (by decide +kernel) (fun u_122 H locs p_122 hP hD hS => ?_)
      have hP : va_P D vwCl [kI cI h2 24 g1, kO h0 10 [y0, .int i0, .int i1, y1, .int i2, .int i3, .int i4, .int i5, .int i6, .int i7, .int i8, .int i9, .int i10, .int 0, .int 0, .int i11, .int i12, .int i13, y2, y3, y4, y5, y6, y7, y8, y9, .int i14, .ref h1, .int 0, .int i15, y10, y11, y12, y13, .int i16, .int i17, .int i18, .ref h2, .int i19, .int i20, .int i21, .int i22, y14, y15, .long i23, y16], kI cI h1 5760 (upd f_118 (Int32.toNatClampNeg (0 + 248)) (-5))] H := hP
      have hD : va_D A [kI cI h2 24 g1, kO h0 10 [y0, .int i0, .int i1, y1, .int i2, .int i3, .int i4, .int i5, .int i6, .int i7, .int i8, .int i9, .int i10, .int 0, .int 0, .int i11, .int i12, .int i13, y2, y3, y4, y5, y6, y7, y8, y9, .int i14, .ref h1, .int 0, .int i15, y10, y11, y12, y13, .int i16, .int i17, .int i18, .ref h2, .int i19, .int i20, .int i21, .int i22, y14, y15, .long i23, y16], kI cI h1 5760 (upd f_118 (Int32.toNatClampNeg (0 + 248)) (-5))] := hD
      have hz_124 : kz 0 (upd f_118 (Int32.toNatClampNeg (0 + 248)) (-5)) := kz_lit hz_119 248 (by decide) (by decide)
      obtain ⟨f_123, ef_123⟩ : ∃ z, z = (upd f_118 (Int32.toNatClampNeg (0 + 248)) (-5)) := ⟨_, rfl⟩
      rw [← ef_123] at hP hD hz_124
      refine lv_iinc (v := 19) (lv' := [(1, .int 19), (0, .ref h0)]) hx hb dX11_begin_105 hl (k := 0) rfl (by decide) (by decide) rfl (fun ls hl => ?_)
      refine lv_goto (tgt := 88) hx hb dX11_begin_108 (by decide) ?_
      refine lv_iload_n hx hb dX11_begin_88 rfl (lv_at hl 0 rfl) ?_
      refine lv_bipush (v := 24) hx hb dX11_begin_89 (by decide) ?_
      refine lv_icmp_ge (tgt := 111) hx hb dX11_begin_91 (by decide) (fun c_125 => absurd c_125 (by decide)) (fun _ => ?_)
      refine lv_aload_n hx hb dX11_begin_94 rfl (lv_at hl 1 rfl) ?_
      refine lv_sipush (v := 230) hx hb dX11_begin_95 (by decide) ?_
      refine lv_iload_n hx hb dX11_begin_98 rfl (lv_at hl 0 rfl) ?_
      refine lv_iadd hx hb dX11_begin_99 ?_
      refine lv_topi (fun v_126 e_126 => ?_)
      obtain rfl : v_126 = 249 := e_126.trans (by decide)
      refine lv_bipush (v := (-5)) hx hb dX11_begin_100 (by decide) ?_
      refine kk_cv (wr := [kI cI h2 24 g1]) (kk_runV (w1 := [kO h0 10 [y0, .int i0, .int i1, y1, .int i2, .int i3, .int i4, .int i5, .int i6, .int i7, .int i8, .int i9, .int i10, .int 0, .int 0, .int i11, .int i12, .int i13, y2, y3, y4, y5, y6, y7, y8, y9, .int i14, .ref h1, .int 0, .int i15, y10, y11, y12, y13, .int i16, .int i17, .int i18, .ref h2, .int i19, .int i20, .int i21, .int i22, y14, y15, .long i23, y16], kI cI h1 5760 f_123]) (As := [.int 249, .int (-5)]) (rest := []) hx hb hml hown hts hE (c_X11_lay_2 l D cB cI cJ cD h0 h1 y0 i0 i1 y1 i2 i3 i4 i5 i6 i7 i8 i9 i10 0 0 i11 i12 i13 y2 y3 y4 y5 y6 y7 y8 y9 i14 i15 y10 y11 y12 y13 i16 i17 i18 (.ref h2) i19 i20 i21 i22 y14 y15 i23 y16 f_123 249 (-5) H.size hz_124 (kk_ix _ _ (by decide))) m_X11_lay w_1269 ⟨rfl, rfl, Nat.le_of_ble_eq_true rfl, Nat.le_of_ble_eq_true rfl⟩ (hP.sub [1, 2] rfl) (hD.sub [1, 2] (by decide +kernel) rfl) 0 10 rfl rfl rfl hl.1 (Nat.le_of_ble_eq_true rfl) dX11_begin_102 ⟨Nat.le_of_ble_eq_true rfl, Nat.le_of_ble_eq_true rfl⟩) hP hD hS hA [1, 2] [0] rfl rfl (by decide +kernel) (by decide +kernel) (fun u_127 H locs p_127 hP hD hS => ?_)
      have hP : va_P D vwCl [kI cI h2 24 g1, kO h0 10 [y0, .int i0, .int i1, y1, .int i2, .int i3, .int i4, .int i5, .int i6, .int i7, .int i8, .int i9, .int i10, .int 0, .int 0, .int i11, .int i12, .int i13, y2, y3, y4, y5, y6, y7, y8, y9, .int i14, .ref h1, .int 0, .int i15, y10, y11, y12, y13, .int i16, .int i17, .int i18, .ref h2, .int i19, .int i20, .int i21, .int i22, y14, y15, .long i23, y16], kI cI h1 5760 (upd f_123 (Int32.toNatClampNeg (0 + 249)) (-5))] H := hP
      have hD : va_D A [kI cI h2 24 g1, kO h0 10 [y0, .int i0, .int i1, y1, .int i2, .int i3, .int i4, .int i5, .int i6, .int i7, .int i8, .int i9, .int i10, .int 0, .int 0, .int i11, .int i12, .int i13, y2, y3, y4, y5, y6, y7, y8, y9, .int i14, .ref h1, .int 0, .int i15, y10, y11, y12, y13, .int i16, .int i17, .int i18, .ref h2, .int i19, .int i20, .int i21, .int i22, y14, y15, .long i23, y16], kI cI h1 5760 (upd f_123 (Int32.toNatClampNeg (0 + 249)) (-5))] := hD
      have hz_129 : kz 0 (upd f_123 (Int32.toNatClampNeg (0 + 249)) (-5)) := kz_lit hz_124 249 (by decide) (by decide)
      obtain ⟨f_128, ef_128⟩ : ∃ z, z = (upd f_123 (Int32.toNatClampNeg (0 + 249)) (-5)) := ⟨_, rfl⟩
      rw [← ef_128] at hP hD hz_129
      refine lv_iinc (v := 20) (lv' := [(1, .int 20), (0, .ref h0)]) hx hb dX11_begin_105 hl (k := 0) rfl (by decide) (by decide) rfl (fun ls hl => ?_)
      refine lv_goto (tgt := 88) hx hb dX11_begin_108 (by decide) ?_
      refine lv_iload_n hx hb dX11_begin_88 rfl (lv_at hl 0 rfl) ?_
      refine lv_bipush (v := 24) hx hb dX11_begin_89 (by decide) ?_
      refine lv_icmp_ge (tgt := 111) hx hb dX11_begin_91 (by decide) (fun c_130 => absurd c_130 (by decide)) (fun _ => ?_)
      refine lv_aload_n hx hb dX11_begin_94 rfl (lv_at hl 1 rfl) ?_
      refine lv_sipush (v := 230) hx hb dX11_begin_95 (by decide) ?_
      refine lv_iload_n hx hb dX11_begin_98 rfl (lv_at hl 0 rfl) ?_
      refine lv_iadd hx hb dX11_begin_99 ?_
      refine lv_topi (fun v_131 e_131 => ?_)
      obtain rfl : v_131 = 250 := e_131.trans (by decide)
      refine lv_bipush (v := (-5)) hx hb dX11_begin_100 (by decide) ?_
      refine kk_cv (wr := [kI cI h2 24 g1]) (kk_runV (w1 := [kO h0 10 [y0, .int i0, .int i1, y1, .int i2, .int i3, .int i4, .int i5, .int i6, .int i7, .int i8, .int i9, .int i10, .int 0, .int 0, .int i11, .int i12, .int i13, y2, y3, y4, y5, y6, y7, y8, y9, .int i14, .ref h1, .int 0, .int i15, y10, y11, y12, y13, .int i16, .int i17, .int i18, .ref h2, .int i19, .int i20, .int i21, .int i22, y14, y15, .long i23, y16], kI cI h1 5760 f_128]) (As := [.int 250, .int (-5)]) (rest := []) hx hb hml hown hts hE (c_X11_lay_2 l D cB cI cJ cD h0 h1 y0 i0 i1 y1 i2 i3 i4 i5 i6 i7 i8 i9 i10 0 0 i11 i12 i13 y2 y3 y4 y5 y6 y7 y8 y9 i14 i15 y10 y11 y12 y13 i16 i17 i18 (.ref h2) i19 i20 i21 i22 y14 y15 i23 y16 f_128 250 (-5) H.size hz_129 (kk_ix _ _ (by decide))) m_X11_lay w_1269 ⟨rfl, rfl, Nat.le_of_ble_eq_true rfl, Nat.le_of_ble_eq_true rfl⟩ (hP.sub [1, 2] rfl) (hD.sub [1, 2] (by decide +kernel) rfl) 0 10 rfl rfl rfl hl.1 (Nat.le_of_ble_eq_true rfl) dX11_begin_102 ⟨Nat.le_of_ble_eq_true rfl, Nat.le_of_ble_eq_true rfl⟩) hP hD hS hA [1, 2] [0] rfl rfl (by decide +kernel) (by decide +kernel) (fun u_132 H locs p_132 hP hD hS => ?_)
      have hP : va_P D vwCl [kI cI h2 24 g1, kO h0 10 [y0, .int i0, .int i1, y1, .int i2, .int i3, .int i4, .int i5, .int i6, .int i7, .int i8, .int i9, .int i10, .int 0, .int 0, .int i11, .int i12, .int i13, y2, y3, y4, y5, y6, y7, y8, y9, .int i14, .ref h1, .int 0, .int i15, y10, y11, y12, y13, .int i16, .int i17, .int i18, .ref h2, .int i19, .int i20, .int i21, .int i22, y14, y15, .long i23, y16], kI cI h1 5760 (upd f_128 (Int32.toNatClampNeg (0 + 250)) (-5))] H := hP
      have hD : va_D A [kI cI h2 24 g1, kO h0 10 [y0, .int i0, .int i1, y1, .int i2, .int i3, .int i4, .int i5, .int i6, .int i7, .int i8, .int i9, .int i10, .int 0, .int 0, .int i11, .int i12, .int i13, y2, y3, y4, y5, y6, y7, y8, y9, .int i14, .ref h1, .int 0, .int i15, y10, y11, y12, y13, .int i16, .int i17, .int i18, .ref h2, .int i19, .int i20, .int i21, .int i22, y14, y15, .long i23, y16], kI cI h1 5760 (upd f_128 (Int32.toNatClampNeg (0 + 250)) (-5))] := hD
      have hz_134 : kz 0 (upd f_128 (Int32.toNatClampNeg (0 + 250)) (-5)) := kz_lit hz_129 250 (by decide) (by decide)
      obtain ⟨f_133, ef_133⟩ : ∃ z, z = (upd f_128 (Int32.toNatClampNeg (0 + 250)) (-5)) := ⟨_, rfl⟩
      rw [← ef_133] at hP hD hz_134
      refine lv_iinc (v := 21) (lv' := [(1, .int 21), (0, .ref h0)]) hx hb dX11_begin_105 hl (k := 0) rfl (by decide) (by decide) rfl (fun ls hl => ?_)
      refine lv_goto (tgt := 88) hx hb dX11_begin_108 (by decide) ?_
      refine lv_iload_n hx hb dX11_begin_88 rfl (lv_at hl 0 rfl) ?_
      refine lv_bipush (v := 24) hx hb dX11_begin_89 (by decide) ?_
      refine lv_icmp_ge (tgt := 111) hx hb dX11_begin_91 (by decide) (fun c_135 => absurd c_135 (by decide)) (fun _ => ?_)
      refine lv_aload_n hx hb dX11_begin_94 rfl (lv_at hl 1 rfl) ?_
      refine lv_sipush (v := 230) hx hb dX11_begin_95 (by decide) ?_
      refine lv_iload_n hx hb dX11_begin_98 rfl (lv_at hl 0 rfl) ?_
      refine lv_iadd hx hb dX11_begin_99 ?_
      refine lv_topi (fun v_136 e_136 => ?_)
      obtain rfl : v_136 = 251 := e_136.trans (by decide)
      refine lv_bipush (v := (-5)) hx hb dX11_begin_100 (by decide) ?_
      refine kk_cv (wr := [kI cI h2 24 g1]) (kk_runV (w1 := [kO h0 10 [y0, .int i0, .int i1, y1, .int i2, .int i3, .int i4, .int i5, .int i6, .int i7, .int i8, .int i9, .int i10, .int 0, .int 0, .int i11, .int i12, .int i13, y2, y3, y4, y5, y6, y7, y8, y9, .int i14, .ref h1, .int 0, .int i15, y10, y11, y12, y13, .int i16, .int i17, .int i18, .ref h2, .int i19, .int i20, .int i21, .int i22, y14, y15, .long i23, y16], kI cI h1 5760 f_133]) (As := [.int 251, .int (-5)]) (rest := []) hx hb hml hown hts hE (c_X11_lay_2 l D cB cI cJ cD h0 h1 y0 i0 i1 y1 i2 i3 i4 i5 i6 i7 i8 i9 i10 0 0 i11 i12 i13 y2 y3 y4 y5 y6 y7 y8 y9 i14 i15 y10 y11 y12 y13 i16 i17 i18 (.ref h2) i19 i20 i21 i22 y14 y15 i23 y16 f_133 251 (-5) H.size hz_134 (kk_ix _ _ (by decide))) m_X11_lay w_1269 ⟨rfl, rfl, Nat.le_of_ble_eq_true rfl, Nat.le_of_ble_eq_true rfl⟩ (hP.sub [1, 2] rfl) (hD.sub [1, 2] (by decide +kernel) rfl) 0 10 rfl rfl rfl hl.1 (Nat.le_of_ble_eq_true rfl) dX11_begin_102 ⟨Nat.le_of_ble_eq_true rfl, Nat.le_of_ble_eq_true rfl⟩) hP hD hS hA [1, 2] [0] rfl rfl (by decide +kernel) (by decide +kernel) (fun u_137 H locs p_137 hP hD hS => ?_)
      have hP : va_P D vwCl [kI cI h2 24 g1, kO h0 10 [y0, .int i0, .int i1, y1, .int i2, .int i3, .int i4, .int i5, .int i6, .int i7, .int i8, .int i9, .int i10, .int 0, .int 0, .int i11, .int i12, .int i13, y2, y3, y4, y5, y6, y7, y8, y9, .int i14, .ref h1, .int 0, .int i15, y10, y11, y12, y13, .int i16, .int i17, .int i18, .ref h2, .int i19, .int i20, .int i21, .int i22, y14, y15, .long i23, y16], kI cI h1 5760 (upd f_133 (Int32.toNatClampNeg (0 + 251)) (-5))] H := hP
      have hD : va_D A [kI cI h2 24 g1, kO h0 10 [y0, .int i0, .int i1, y1, .int i2, .int i3, .int i4, .int i5, .int i6, .int i7, .int i8, .int i9, .int i10, .int 0, .int 0, .int i11, .int i12, .int i13, y2, y3, y4, y5, y6, y7, y8, y9, .int i14, .ref h1, .int 0, .int i15, y10, y11, y12, y13, .int i16, .int i17, .int i18, .ref h2, .int i19, .int i20, .int i21, .int i22, y14, y15, .long i23, y16], kI cI h1 5760 (upd f_133 (Int32.toNatClampNeg (0 + 251)) (-5))] := hD
      have hz_139 : kz 0 (upd f_133 (Int32.toNatClampNeg (0 + 251)) (-5)) := kz_lit hz_134 251 (by decide) (by decide)
      obtain ⟨f_138, ef_138⟩ : ∃ z, z = (upd f_133 (Int32.toNatClampNeg (0 + 251)) (-5)) := ⟨_, rfl⟩
      rw [← ef_138] at hP hD hz_139
      refine lv_iinc (v := 22) (lv' := [(1, .int 22), (0, .ref h0)]) hx hb dX11_begin_105 hl (k := 0) rfl (by decide) (by decide) rfl (fun ls hl => ?_)
      refine lv_goto (tgt := 88) hx hb dX11_begin_108 (by decide) ?_
      refine lv_iload_n hx hb dX11_begin_88 rfl (lv_at hl 0 rfl) ?_
      refine lv_bipush (v := 24) hx hb dX11_begin_89 (by decide) ?_
      refine lv_icmp_ge (tgt := 111) hx hb dX11_begin_91 (by decide) (fun c_140 => absurd c_140 (by decide)) (fun _ => ?_)
      refine lv_aload_n hx hb dX11_begin_94 rfl (lv_at hl 1 rfl) ?_
      refine lv_sipush (v := 230) hx hb dX11_begin_95 (by decide) ?_
      refine lv_iload_n hx hb dX11_begin_98 rfl (lv_at hl 0 rfl) ?_
      refine lv_iadd hx hb dX11_begin_99 ?_
      refine lv_topi (fun v_141 e_141 => ?_)
      obtain rfl : v_141 = 252 := e_141.trans (by decide)
      refine lv_bipush (v := (-5)) hx hb dX11_begin_100 (by decide) ?_
      refine kk_cv (wr := [kI cI h2 24 g1]) (kk_runV (w1 := [kO h0 10 [y0, .int i0, .int i1, y1, .int i2, .int i3, .int i4, .int i5, .int i6, .int i7, .int i8, .int i9, .int i10, .int 0, .int 0, .int i11, .int i12, .int i13, y2, y3, y4, y5, y6, y7, y8, y9, .int i14, .ref h1, .int 0, .int i15, y10, y11, y12, y13, .int i16, .int i17, .int i18, .ref h2, .int i19, .int i20, .int i21, .int i22, y14, y15, .long i23, y16], kI cI h1 5760 f_138]) (As := [.int 252, .int (-5)]) (rest := []) hx hb hml hown hts hE (c_X11_lay_2 l D cB cI cJ cD h0 h1 y0 i0 i1 y1 i2 i3 i4 i5 i6 i7 i8 i9 i10 0 0 i11 i12 i13 y2 y3 y4 y5 y6 y7 y8 y9 i14 i15 y10 y11 y12 y13 i16 i17 i18 (.ref h2) i19 i20 i21 i22 y14 y15 i23 y16 f_138 252 (-5) H.size hz_139 (kk_ix _ _ (by decide))) m_X11_lay w_1269 ⟨rfl, rfl, Nat.le_of_ble_eq_true rfl, Nat.le_of_ble_eq_true rfl⟩ (hP.sub [1, 2] rfl) (hD.sub [1, 2] (by decide +kernel) rfl) 0 10 rfl rfl rfl hl.1 (Nat.le_of_ble_eq_true rfl) dX11_begin_102 ⟨Nat.le_of_ble_eq_true rfl, Nat.le_of_ble_eq_true rfl⟩) hP hD hS hA [1, 2] [0] rfl rfl (by decide +kernel) (by decide +kernel) (fun u_142 H locs p_142 hP hD hS => ?_)
      have hP : va_P D vwCl [kI cI h2 24 g1, kO h0 10 [y0, .int i0, .int i1, y1, .int i2, .int i3, .int i4, .int i5, .int i6, .int i7, .int i8, .int i9, .int i10, .int 0, .int 0, .int i11, .int i12, .int i13, y2, y3, y4, y5, y6, y7, y8, y9, .int i14, .ref h1, .int 0, .int i15, y10, y11, y12, y13, .int i16, .int i17, .int i18, .ref h2, .int i19, .int i20, .int i21, .int i22, y14, y15, .long i23, y16], kI cI h1 5760 (upd f_138 (Int32.toNatClampNeg (0 + 252)) (-5))] H := hP
      have hD : va_D A [kI cI h2 24 g1, kO h0 10 [y0, .int i0, .int i1, y1, .int i2, .int i3, .int i4, .int i5, .int i6, .int i7, .int i8, .int i9, .int i10, .int 0, .int 0, .int i11, .int i12, .int i13, y2, y3, y4, y5, y6, y7, y8, y9, .int i14, .ref h1, .int 0, .int i15, y10, y11, y12, y13, .int i16, .int i17, .int i18, .ref h2, .int i19, .int i20, .int i21, .int i22, y14, y15, .long i23, y16], kI cI h1 5760 (upd f_138 (Int32.toNatClampNeg (0 + 252)) (-5))] := hD
      have hz_144 : kz 0 (upd f_138 (Int32.toNatClampNeg (0 + 252)) (-5)) := kz_lit hz_139 252 (by decide) (by decide)
      obtain ⟨f_143, ef_143⟩ : ∃ z, z = (upd f_138 (Int32.toNatClampNeg (0 + 252)) (-5)) := ⟨_, rfl⟩
      rw [← ef_143] at hP hD hz_144
      refine lv_iinc (v := 23) (lv' := [(1, .int 23), (0, .ref h0)]) hx hb dX11_begin_105 hl (k := 0) rfl (by decide) (by decide) rfl (fun ls hl => ?_)
      refine lv_goto (tgt := 88) hx hb dX11_begin_108 (by decide) ?_
      refine lv_iload_n hx hb dX11_begin_88 rfl (lv_at hl 0 rfl) ?_
      refine lv_bipush (v := 24) hx hb dX11_begin_89 (by decide) ?_
      refine lv_icmp_ge (tgt := 111) hx hb dX11_begin_91 (by decide) (fun c_145 => absurd c_145 (by decide)) (fun _ => ?_)
      refine lv_aload_n hx hb dX11_begin_94 rfl (lv_at hl 1 rfl) ?_
      refine lv_sipush (v := 230) hx hb dX11_begin_95 (by decide) ?_
      refine lv_iload_n hx hb dX11_begin_98 rfl (lv_at hl 0 rfl) ?_
      refine lv_iadd hx hb dX11_begin_99 ?_
      refine lv_topi (fun v_146 e_146 => ?_)
      obtain rfl : v_146 = 253 := e_146.trans (by decide)
      refine lv_bipush (v := (-5)) hx hb dX11_begin_100 (by decide) ?_
      refine kk_cv (wr := [kI cI h2 24 g1]) (kk_runV (w1 := [kO h0 10 [y0, .int i0, .int i1, y1, .int i2, .int i3, .int i4, .int i5, .int i6, .int i7, .int i8, .int i9, .int i10, .int 0, .int 0, .int i11, .int i12, .int i13, y2, y3, y4, y5, y6, y7, y8, y9, .int i14, .ref h1, .int 0, .int i15, y10, y11, y12, y13, .int i16, .int i17, .int i18, .ref h2, .int i19, .int i20, .int i21, .int i22, y14, y15, .long i23, y16], kI cI h1 5760 f_143]) (As := [.int 253, .int (-5)]) (rest := []) hx hb hml hown hts hE (c_X11_lay_2 l D cB cI cJ cD h0 h1 y0 i0 i1 y1 i2 i3 i4 i5 i6 i7 i8 i9 i10 0 0 i11 i12 i13 y2 y3 y4 y5 y6 y7 y8 y9 i14 i15 y10 y11 y12 y13 i16 i17 i18 (.ref h2) i19 i20 i21 i22 y14 y15 i23 y16 f_143 253 (-5) H.size hz_144 (kk_ix _ _ (by decide))) m_X11_lay w_1269 ⟨rfl, rfl, Nat.le_of_ble_eq_true rfl, Nat.le_of_ble_eq_true rfl⟩ (hP.sub [1, 2] rfl) (hD.sub [1, 2] (by decide +kernel) rfl) 0 10 rfl rfl rfl hl.1 (Nat.le_of_ble_eq_true rfl) dX11_begin_102 ⟨Nat.le_of_ble_eq_true rfl, Nat.le_of_ble_eq_true rfl⟩) hP hD hS hA [1, 2] [0] rfl rfl (by decide +kernel) (by decide +kernel) (fun u_147 H locs p_147 hP hD hS => ?_)
      have hP : va_P D vwCl [kI cI h2 24 g1, kO h0 10 [y0, .int i0, .int i1, y1, .int i2, .int i3, .int i4, .int i5, .int i6, .int i7, .int i8, .int i9, .int i10, .int 0, .int 0, .int i11, .int i12, .int i13, y2, y3, y4, y5, y6, y7, y8, y9, .int i14, .ref h1, .int 0, .int i15, y10, y11, y12, y13, .int i16, .int i17, .int i18, .ref h2, .int i19, .int i20, .int i21, .int i22, y14, y15, .long i23, y16], kI cI h1 5760 (upd f_143 (Int32.toNatClampNeg (0 + 253)) (-5))] H := hP
      have hD : va_D A [kI cI h2 24 g1, kO h0 10 [y0, .int i0, .int i1, y1, .int i2, .int i3, .int i4, .int i5, .int i6, .int i7, .int i8, .int i9, .int i10, .int 0, .int 0, .int i11, .int i12, .int i13, y2, y3, y4, y5, y6, y7, y8, y9, .int i14, .ref h1, .int 0, .int i15, y10, y11, y12, y13, .int i16, .int i17, .int i18, .ref h2, .int i19, .int i20, .int i21, .int i22, y14, y15, .long i23, y16], kI cI h1 5760 (upd f_143 (Int32.toNatClampNeg (0 + 253)) (-5))] := hD
      have hz_149 : kz 0 (upd f_143 (Int32.toNatClampNeg (0 + 253)) (-5)) := kz_lit hz_144 253 (by decide) (by decide)
      obtain ⟨f_148, ef_148⟩ : ∃ z, z = (upd f_143 (Int32.toNatClampNeg (0 + 253)) (-5)) := ⟨_, rfl⟩
      rw [← ef_148] at hP hD hz_149
      refine lv_iinc (v := 24) (lv' := [(1, .int 24), (0, .ref h0)]) hx hb dX11_begin_105 hl (k := 0) rfl (by decide) (by decide) rfl (fun ls hl => ?_)
      refine lv_goto (tgt := 88) hx hb dX11_begin_108 (by decide) ?_
      refine lv_iload_n hx hb dX11_begin_88 rfl (lv_at hl 0 rfl) ?_
      refine lv_bipush (v := 24) hx hb dX11_begin_89 (by decide) ?_
      refine lv_icmp_ge (tgt := 111) hx hb dX11_begin_91 (by decide) (fun _ => ?_) (fun c_150 => absurd c_150 (by decide))
      refine lv_aload_n hx hb dX11_begin_111 rfl (lv_at hl 1 rfl) ?_
      refine kk_cv (wr := [kI cI h1 5760 f_148]) (kk_runV (w1 := [kO h0 10 [y0, .int i0, .int i1, y1, .int i2, .int i3, .int i4, .int i5, .int i6, .int i7, .int i8, .int i9, .int i10, .int 0, .int 0, .int i11, .int i12, .int i13, y2, y3, y4, y5, y6, y7, y8, y9, .int i14, .ref h1, .int 0, .int i15, y10, y11, y12, y13, .int i16, .int i17, .int i18, .ref h2, .int i19, .int i20, .int i21, .int i22, y14, y15, .long i23, y16], kI cI h2 24 g1]) (As := []) (rest := []) hx hb hml hown hts hE (c_X11_byText l D cB cI cJ cD h0 h2 y0 i0 i1 y1 i2 i3 i4 i5 i6 i7 i8 i9 i10 0 i11 i12 i13 y2 y3 y4 y5 y6 y7 y8 y9 i14 (.ref h1) 0 i15 y10 y11 y12 y13 i16 i17 i18 i19 i20 i21 i22 y14 y15 i23 y16 g1 H.size) m_X11_byText w_1297 ⟨rfl, rfl, Nat.le_of_ble_eq_true rfl, Nat.le_of_ble_eq_true rfl⟩ (hP.sub [1, 0] rfl) (hD.sub [1, 0] (by decide +kernel) rfl) 0 10 rfl rfl rfl hl.1 (Nat.le_of_ble_eq_true rfl) dX11_begin_112 ⟨Nat.le_of_ble_eq_true rfl, Nat.le_of_ble_eq_true rfl⟩) hP hD hS hA [1, 0] [2] rfl rfl (by decide +kernel) (by decide +kernel) (fun u_151 H locs p_151 hP hD hS => ?_)
      have hP : va_P D vwCl [kI cI h1 5760 f_148, kO h0 10 [y0, .int i0, .int i1, y1, .int i2, .int i3, .int i4, .int i5, .int i6, .int i7, .int i8, .int i9, .int i10, .int 0, .int 0, .int i11, .int i12, .int i13, y2, y3, y4, y5, y6, y7, y8, y9, .int i14, .ref h1, .int 0, .int i15, y10, y11, y12, y13, .int 0, .int 0, .int 0, .ref h2, .int 0, .int i20, .int i21, .int i22, y14, y15, .long i23, y16], kI cI h2 24 (u_151.2.1 0)] H := hP
      have hD : va_D A [kI cI h1 5760 f_148, kO h0 10 [y0, .int i0, .int i1, y1, .int i2, .int i3, .int i4, .int i5, .int i6, .int i7, .int i8, .int i9, .int i10, .int 0, .int 0, .int i11, .int i12, .int i13, y2, y3, y4, y5, y6, y7, y8, y9, .int i14, .ref h1, .int 0, .int i15, y10, y11, y12, y13, .int 0, .int 0, .int 0, .ref h2, .int 0, .int i20, .int i21, .int i22, y14, y15, .long i23, y16], kI cI h2 24 (u_151.2.1 0)] := hD
      exact kk_ret_v ((fun i => [].getD i 0), (fun i => [f_148, (u_151.2.1 0)].getD i (fun _ => 0)), (fun i => [].getD i (fun _ => 0)), (fun i => [].getD i 0)) hx hb hr hlocks hz_149 (hP.sub [1, 0, 2] rfl) (hD.sub [1, 0, 2] (by decide +kernel) rfl) hS dX11_begin_115 (Nat.le_of_ble_eq_true rfl) (Nat.le_of_ble_eq_true rfl)
    | succ n ih =>
      intro k f H locs ls hk hf hP hD hS hl
      have hk1 : k < 320 := by omega
      refine lv_iload_n hx hb dX11_begin_2 rfl (lv_at hl 0 rfl) ?_
      refine lv_sipush (v := 320) hx hb dX11_begin_3 (by decide) ?_
      refine lv_icmp_ge (tgt := 21) hx hb dX11_begin_6 (by decide) (fun c_152 => absurd c_152 (nI_ge hk1 (by decide))) (fun c_152 => ?_)
      refine lv_aload_n hx hb dX11_begin_9 rfl (lv_at hl 1 rfl) ?_
      refine lv_iload_n hx hb dX11_begin_10 rfl (lv_at hl 0 rfl) ?_
      refine lv_iconst (v := 0) hx hb dX11_begin_11 (by decide) ?_
      refine kk_cv (wr := [kI cI h2 24 g1]) (kk_runV (w1 := [kO h0 10 [y0, .int i0, .int i1, y1, .int i2, .int i3, .int i4, .int i5, .int i6, .int i7, .int i8, .int i9, .int i10, .int 0, .int 0, .int i11, .int i12, .int i13, y2, y3, y4, y5, y6, y7, y8, y9, .int i14, .ref h1, .int 0, .int i15, y10, y11, y12, y13, .int i16, .int i17, .int i18, .ref h2, .int i19, .int i20, .int i21, .int i22, y14, y15, .long i23, y16], kI cI h1 5760 f]) (As := [.int (nI k), .int 0]) (rest := []) hx hb hml hown hts hE (c_X11_lay l D cB cI cJ cD h0 h1 y0 i0 i1 y1 i2 i3 i4 i5 i6 i7 i8 i9 i10 0 0 i11 i12 i13 y2 y3 y4 y5 y6 y7 y8 y9 i14 i15 y10 y11 y12 y13 i16 i17 i18 (.ref h2) i19 i20 i21 i22 y14 y15 i23 y16 f (nI k) 0 H.size (kk_vb 0 k (by omega))) m_X11_lay w_1269 ⟨rfl, rfl, Nat.le_of_ble_eq_true rfl, Nat.le_of_ble_eq_true rfl⟩ (hP.sub [0, 1] rfl) (hD.sub [0, 1] (by decide +kernel) rfl) 0 10 rfl rfl rfl hl.1 (Nat.le_of_ble_eq_true rfl) dX11_begin_12 ⟨Nat.le_of_ble_eq_true rfl, Nat.le_of_ble_eq_true rfl⟩) hP hD hS hA [0, 1] [2] rfl rfl (by decide +kernel) (by decide +kernel) (fun u_153 H locs p_153 hP hD hS => ?_)
      have hP : va_P D vwCl [kI cI h2 24 g1, kO h0 10 [y0, .int i0, .int i1, y1, .int i2, .int i3, .int i4, .int i5, .int i6, .int i7, .int i8, .int i9, .int i10, .int 0, .int 0, .int i11, .int i12, .int i13, y2, y3, y4, y5, y6, y7, y8, y9, .int i14, .ref h1, .int 0, .int i15, y10, y11, y12, y13, .int i16, .int i17, .int i18, .ref h2, .int i19, .int i20, .int i21, .int i22, y14, y15, .long i23, y16], kI cI h1 5760 (upd f (Int32.toNatClampNeg (0 + (nI k))) 0)] H := hP
      have hD : va_D A [kI cI h2 24 g1, kO h0 10 [y0, .int i0, .int i1, y1, .int i2, .int i3, .int i4, .int i5, .int i6, .int i7, .int i8, .int i9, .int i10, .int 0, .int 0, .int i11, .int i12, .int i13, y2, y3, y4, y5, y6, y7, y8, y9, .int i14, .ref h1, .int 0, .int i15, y10, y11, y12, y13, .int i16, .int i17, .int i18, .ref h2, .int i19, .int i20, .int i21, .int i22, y14, y15, .long i23, y16], kI cI h1 5760 (upd f (Int32.toNatClampNeg (0 + (nI k))) 0)] := hD
      obtain ⟨v_154, e_154⟩ : ∃ y : Int32, y = nI k + 1 := ⟨_, rfl⟩
      refine lv_iinc (v := v_154) (lv' := [(1, .int v_154), (0, .ref h0)]) hx hb dX11_begin_15 hl (k := 0) rfl (by rw [e_154]; rfl) (by decide) rfl (fun ls hl => ?_)
      refine lv_goto (tgt := 2) hx hb dX11_begin_18 (by decide) ?_
      obtain rfl : nI (k + 1) = v_154 := (e_154.trans (nI_1 k)).symm
      exact ih (k + 1) _ H locs ls (by omega) (kk_fill1 0 k (by omega) hf) (hP.sub [1, 2, 0] rfl) (hD.sub [1, 2, 0] (by decide) rfl) hS (lv_sub hl [0, 1] rfl)
  exact loop 320 0 g0 _ _ _ rfl (fun j h => absurd h (Nat.not_lt_zero j)) hP hD hS (lv_sub hl [0, 1] rfl)
