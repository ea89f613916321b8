set_option maxHeartbeats 4000000 in
set_option maxRecDepth 100000 in
theorem c_X11_keepText (l : Launch) (D : va_G) (cB cI cJ cD : ClassId) (h0 h1 h2 h3 h4 h5 h6 h7 h8 h9 h10 : Nat) (y0 : Value) (i0 : Int32) (i1 : Int32) (y1 : Value) (i2 : Int32) (i3 : Int32) (i4 : Int32) (i5 : Int32) (i6 : Int32) (i7 : Int32) (i8 : Int32) (i9 : Int32) (i10 : Int32) (i11 : Int32) (i12 : Int32) (y2 : Value) (y3 : Value) (y4 : Value) (y5 : Value) (i13 : Int32) (i14 : Int32) (i15 : Int32) (i16 : Int32) (i17 : Int32) (i18 : Int32) (i19 : Int32) (y6 : Value) (y7 : Value) (i20 : Int64) (y8 : Value) (g0 : Nat → Int32) (g1 : Nat → Int32) (g2 : Nat → Int32) (g3 : Nat → Int32) (g4 : Nat → Int32) (g5 : Nat → Int32) (g6 : Nat → Int32) (g7 : Nat → Int32) (g8 : Nat → Int32) (g9 : Nat → Int32) (sz : Nat) : Met l yX11_keepText (kk_W yX11_keepText cX11_keepText 1 none) ({ frames := 2, cells := 0, slots := 0, locals := 43 }) (va_Pc [.ref h0] (kk_pre D cB cI cJ cD [kO h0 10 [y0, .int i0, .int i1, y1, .int i2, .int i3, .int i4, .int i5, .int i6, .int i7, .int i8, .int i9, .int i10, .int 0, .int 0, .int 0, .int 0, .int 0, .ref h1, .ref h2, .ref h3, .ref h4, .ref h5, .ref h6, .ref h7, .ref h8, .int i11, .ref h9, .int 0, .int i12, y2, y3, y4, y5, .int i13, .int i14, .int i15, .ref h10, .int i16, .int i17, .int i18, .int i19, y6, y7, .long i20, y8], kI cI h1 10 g0, kI cI h2 32 g1, kI cI h3 32 g2, kI cI h4 48 g3, kI cI h5 48 g4, kI cI h6 48 g5, kI cI h7 48 g6, kI cI h8 48 g7, kI cI h9 5760 g8, kI cI h10 24 g9] sz)) (kk_Qv D (fun (u : (Nat → Nat) × (Nat → Nat → Int32) × (Nat → Nat → Int64) × (Nat → Int32)) => kz 0 (u.2.1 8)) (fun u => [kO h0 10 [y0, .int i0, .int i1, y1, .int i2, .int i3, .int i4, .int i5, .int i6, .int i7, .int i8, .int i9, .int 0, .int 0, .int 0, .int 0, .int 0, .int 0, .ref h1, .ref h2, .ref h3, .ref h4, .ref h5, .ref h6, .ref h7, .ref h8, .int i11, .ref h9, .int 0, .int 0, y2, y3, y4, y5, .int 0, .int 0, .int 0, .ref h10, .int 0, .int i17, .int i18, .int i19, y6, y7, .long i20, y8], kI cI h1 10 (u.2.1 0), kI cI h2 32 (u.2.1 1), kI cI h3 32 (u.2.1 2), kI cI h4 48 (u.2.1 3), kI cI h5 48 (u.2.1 4), kI cI h6 48 (u.2.1 5), kI cI h7 48 (u.2.1 6), kI cI h8 48 (u.2.1 7), kI cI h9 5760 (u.2.1 8), kI cI h10 24 (u.2.1 9)]) (va_A [kO h0 10 [y0, .int i0, .int i1, y1, .int i2, .int i3, .int i4, .int i5, .int i6, .int i7, .int i8, .int i9, .int i10, .int 0, .int 0, .int 0, .int 0, .int 0, .ref h1, .ref h2, .ref h3, .ref h4, .ref h5, .ref h6, .ref h7, .ref h8, .int i11, .ref h9, .int 0, .int i12, y2, y3, y4, y5, .int i13, .int i14, .int i15, .ref h10, .int i16, .int i17, .int i18, .int i19, y6, y7, .long i20, y8], kI cI h1 10 g0, kI cI h2 32 g1, kI cI h3 32 g2, kI cI h4 48 g3, kI cI h5 48 g4, kI cI h6 48 g5, kI cI h7 48 g6, kI cI h8 48 g7, kI cI h9 5760 g8, kI cI h10 24 g9] sz)) 0 0 (va_A [kO h0 10 [y0, .int i0, .int i1, y1, .int i2, .int i3, .int i4, .int i5, .int i6, .int i7, .int i8, .int i9, .int i10, .int 0, .int 0, .int 0, .int 0, .int 0, .ref h1, .ref h2, .ref h3, .ref h4, .ref h5, .ref h6, .ref h7, .ref h8, .int i11, .ref h9, .int 0, .int i12, y2, y3, y4, y5, .int i13, .int i14, .int i15, .ref h10, .int i16, .int i17, .int i18, .int i19, y6, y7, .long i20, y8], kI cI h1 10 g0, kI cI h2 32 g1, kI cI h3 32 g2, kI cI h4 48 g3, kI cI h5 48 g4, kI cI h6 48 g5, kI cI h7 48 g6, kI cI h8 48 g7, kI cI h9 5760 g8, kI cI h10 24 g9] sz) := by
  refine kk_start (y := yX11_keepText) (maxL := 1) (av := [.ref h0]) (Qc := fun A => kk_Qv D (fun (u : (Nat → Nat) × (Nat → Nat → Int32) × (Nat → Nat → Int64) × (Nat → Int32)) => kz 0 (u.2.1 8)) (fun u => [kO h0 10 [y0, .int i0, .int i1, y1, .int i2, .int i3, .int i4, .int i5, .int i6, .int i7, .int i8, .int i9, .int 0, .int 0, .int 0, .int 0, .int 0, .int 0, .ref h1, .ref h2, .ref h3, .ref h4, .ref h5, .ref h6, .ref h7, .ref h8, .int i11, .ref h9, .int 0, .int 0, y2, y3, y4, y5, .int 0, .int 0, .int 0, .ref h10, .int 0, .int i17, .int i18, .int i19, y6, y7, .long i20, y8], kI cI h1 10 (u.2.1 0), kI cI h2 32 (u.2.1 1), kI cI h3 32 (u.2.1 2), kI cI h4 48 (u.2.1 3), kI cI h5 48 (u.2.1 4), kI cI h6 48 (u.2.1 5), kI cI h7 48 (u.2.1 6), kI cI h8 48 (u.2.1 7), kI cI h9 5760 (u.2.1 8), kI cI h10 24 (u.2.1 9)]) A) (by decide) (Nat.le_of_ble_eq_true rfl) ?_
  intro p e s m below meth c ls A hx hb hr hml hown hts hE hlocks hin hsz hP hD hA hS hl
  have hown : s.vm.findClass RX11 = some m.cls := hown
  have hl : lv_has ls 1 [(0, .ref h0)] := hl
  refine lv_aload_n hx hb dX11_keepText_0 rfl (lv_at hl 0 rfl) ?_
  refine lv_aload_n hx hb dX11_keepText_1 rfl (lv_at hl 0 rfl) ?_
  refine va_get (D := D) (ci := 10) (v := .int 0) (C := RX11) (T := TX11) (N := 46) hx hb hts u_X11 hown hE.1 hP 0 rfl rfl 15 (by decide) (hts _ w_1316) (fun _ h9 => h9) rfl dX11_keepText_2 ?_
  refine va_put (D := D) (ci := 10) (v := .int 0) (ty := .int) (C := RX11) (T := TX11) (N := 46) hx hb hts u_X11 tyX11 tyX11_ok nmX11 hown hE.1 hP hD hS 0 rfl rfl 12 (by decide) (hts _ w_1313) (fun _ h9 => h9) rfl (by decide +kernel) rfl rfl (Nat.le_of_ble_eq_true rfl) dX11_keepText_5 (fun H locs hP hD hS => ?_)
  have hP : va_P D vwCl [kO h0 10 [y0, .int i0, .int i1, y1, .int i2, .int i3, .int i4, .int i5, .int i6, .int i7, .int i8, .int i9, .int 0, .int 0, .int 0, .int 0, .int 0, .int 0, .ref h1, .ref h2, .ref h3, .ref h4, .ref h5, .ref h6, .ref h7, .ref h8, .int i11, .ref h9, .int 0, .int i12, y2, y3, y4, y5, .int i13, .int i14, .int i15, .ref h10, .int i16, .int i17, .int i18, .int i19, y6, y7, .long i20, y8], kI cI h1 10 g0, kI cI h2 32 g1, kI cI h3 32 g2, kI cI h4 48 g3, kI cI h5 48 g4, kI cI h6 48 g5, kI cI h7 48 g6, kI cI h8 48 g7, kI cI h9 5760 g8, kI cI h10 24 g9] H := hP
  have hD : va_D A [kO h0 10 [y0, .int i0, .int i1, y1, .int i2, .int i3, .int i4, .int i5, .int i6, .int i7, .int i8, .int i9, .int 0, .int 0, .int 0, .int 0, .int 0, .int 0, .ref h1, .ref h2, .ref h3, .ref h4, .ref h5, .ref h6, .ref h7, .ref h8, .int i11, .ref h9, .int 0, .int i12, y2, y3, y4, y5, .int i13, .int i14, .int i15, .ref h10, .int i16, .int i17, .int i18, .int i19, y6, y7, .long i20, y8], kI cI h1 10 g0, kI cI h2 32 g1, kI cI h3 32 g2, kI cI h4 48 g3, kI cI h5 48 g4, kI cI h6 48 g5, kI cI h7 48 g6, kI cI h8 48 g7, kI cI h9 5760 g8, kI cI h10 24 g9] := hD
  refine lv_aload_n hx hb dX11_keepText_8 rfl (lv_at hl 0 rfl) ?_
  refine lv_aload_n hx hb dX11_keepText_9 rfl (lv_at hl 0 rfl) ?_
  refine va_get (D := D) (ci := 10) (v := .int 0) (C := RX11) (T := TX11) (N := 46) hx hb hts u_X11 hown hE.1 hP 0 rfl rfl 16 (by decide) (hts _ w_1317) (fun _ h9 => h9) rfl dX11_keepText_10 ?_
  refine va_put (D := D) (ci := 10) (v := .int 0) (ty := .int) (C := RX11) (T := TX11) (N := 46) hx hb hts u_X11 tyX11 tyX11_ok nmX11 hown hE.1 hP hD hS 0 rfl rfl 13 (by decide) (hts _ w_1314) (fun _ h9 => h9) rfl (by decide +kernel) rfl rfl (Nat.le_of_ble_eq_true rfl) dX11_keepText_13 (fun H locs hP hD hS => ?_)
  have hP : va_P D vwCl [kO h0 10 [y0, .int i0, .int i1, y1, .int i2, .int i3, .int i4, .int i5, .int i6, .int i7, .int i8, .int i9, .int 0, .int 0, .int 0, .int 0, .int 0, .int 0, .ref h1, .ref h2, .ref h3, .ref h4, .ref h5, .ref h6, .ref h7, .ref h8, .int i11, .ref h9, .int 0, .int i12, y2, y3, y4, y5, .int i13, .int i14, .int i15, .ref h10, .int i16, .int i17, .int i18, .int i19, y6, y7, .long i20, y8], kI cI h1 10 g0, kI cI h2 32 g1, kI cI h3 32 g2, kI cI h4 48 g3, kI cI h5 48 g4, kI cI h6 48 g5, kI cI h7 48 g6, kI cI h8 48 g7, kI cI h9 5760 g8, kI cI h10 24 g9] H := hP
  have hD : va_D A [kO h0 10 [y0, .int i0, .int i1, y1, .int i2, .int i3, .int i4, .int i5, .int i6, .int i7, .int i8, .int i9, .int 0, .int 0, .int 0, .int 0, .int 0, .int 0, .ref h1, .ref h2, .ref h3, .ref h4, .ref h5, .ref h6, .ref h7, .ref h8, .int i11, .ref h9, .int 0, .int i12, y2, y3, y4, y5, .int i13, .int i14, .int i15, .ref h10, .int i16, .int i17, .int i18, .int i19, y6, y7, .long i20, y8], kI cI h1 10 g0, kI cI h2 32 g1, kI cI h3 32 g2, kI cI h4 48 g3, kI cI h5 48 g4, kI cI h6 48 g5, kI cI h7 48 g6, kI cI h8 48 g7, kI cI h9 5760 g8, kI cI h10 24 g9] := hD
  refine lv_aload_n hx hb dX11_keepText_16 rfl (lv_at hl 0 rfl) ?_
  refine lv_aload_n hx hb dX11_keepText_17 rfl (lv_at hl 0 rfl) ?_
  refine va_get (D := D) (ci := 10) (v := .int 0) (C := RX11) (T := TX11) (N := 46) hx hb hts u_X11 hown hE.1 hP 0 rfl rfl 17 (by decide) (hts _ w_1318) (fun _ h9 => h9) rfl dX11_keepText_18 ?_
  refine va_put (D := D) (ci := 10) (v := .int 0) (ty := .int) (C := RX11) (T := TX11) (N := 46) hx hb hts u_X11 tyX11 tyX11_ok nmX11 hown hE.1 hP hD hS 0 rfl rfl 14 (by decide) (hts _ w_1315) (fun _ h9 => h9) rfl (by decide +kernel) rfl rfl (Nat.le_of_ble_eq_true rfl) dX11_keepText_21 (fun H locs hP hD hS => ?_)
  have hP : va_P D vwCl [kO h0 10 [y0, .int i0, .int i1, y1, .int i2, .int i3, .int i4, .int i5, .int i6, .int i7, .int i8, .int i9, .int 0, .int 0, .int 0, .int 0, .int 0, .int 0, .ref h1, .ref h2, .ref h3, .ref h4, .ref h5, .ref h6, .ref h7, .ref h8, .int i11, .ref h9, .int 0, .int i12, y2, y3, y4, y5, .int i13, .int i14, .int i15, .ref h10, .int i16, .int i17, .int i18, .int i19, y6, y7, .long i20, y8], kI cI h1 10 g0, kI cI h2 32 g1, kI cI h3 32 g2, kI cI h4 48 g3, kI cI h5 48 g4, kI cI h6 48 g5, kI cI h7 48 g6, kI cI h8 48 g7, kI cI h9 5760 g8, kI cI h10 24 g9] H := hP
  have hD : va_D A [kO h0 10 [y0, .int i0, .int i1, y1, .int i2, .int i3, .int i4, .int i5, .int i6, .int i7, .int i8, .int i9, .int 0, .int 0, .int 0, .int 0, .int 0, .int 0, .ref h1, .ref h2, .ref h3, .ref h4, .ref h5, .ref h6, .ref h7, .ref h8, .int i11, .ref h9, .int 0, .int i12, y2, y3, y4, y5, .int i13, .int i14, .int i15, .ref h10, .int i16, .int i17, .int i18, .int i19, y6, y7, .long i20, y8], kI cI h1 10 g0, kI cI h2 32 g1, kI cI h3 32 g2, kI cI h4 48 g3, kI cI h5 48 g4, kI cI h6 48 g5, kI cI h7 48 g6, kI cI h8 48 g7, kI cI h9 5760 g8, kI cI h10 24 g9] := hD
  refine lv_aload_n hx hb dX11_keepText_24 rfl (lv_at hl 0 rfl) ?_
  refine va_get (D := D) (ci := 10) (v := .ref h1) (C := RX11) (T := TX11) (N := 46) hx hb hts u_X11 hown hE.1 hP 0 rfl rfl 18 (by decide) (hts _ w_1319) (fun _ h9 => h9) rfl dX11_keepText_25 ?_
  refine lv_iconst (v := 5) hx hb dX11_keepText_28 (by decide) ?_
  refine kk_cv (wr := [kO h0 10 [y0, .int i0, .int i1, y1, .int i2, .int i3, .int i4, .int i5, .int i6, .int i7, .int i8, .int i9, .int 0, .int 0, .int 0, .int 0, .int 0, .int 0, .ref h1, .ref h2, .ref h3, .ref h4, .ref h5, .ref h6, .ref h7, .ref h8, .int i11, .ref h9, .int 0, .int i12, y2, y3, y4, y5, .int i13, .int i14, .int i15, .ref h10, .int i16, .int i17, .int i18, .int i19, y6, y7, .long i20, y8], kI cI h2 32 g1, kI cI h3 32 g2, kI cI h4 48 g3, kI cI h5 48 g4, kI cI h6 48 g5, kI cI h7 48 g6, kI cI h8 48 g7, kI cI h9 5760 g8, kI cI h10 24 g9]) (kk_runS (w1 := [kI cI h1 10 g0]) (As := [.ref h1, .int 5]) (rest := []) hx hb hml hown hts hE (c_X11_copies l D cB cI cJ cD h1 g0 H.size) m_X11_copies w_1262 ⟨rfl, rfl, Nat.le_of_ble_eq_true rfl, Nat.le_of_ble_eq_true rfl⟩ (hP.sub [1] rfl) (hD.sub [1] (by decide +kernel) rfl) rfl hl.1 (Nat.le_of_ble_eq_true rfl) dX11_keepText_29 ⟨Nat.le_of_ble_eq_true rfl, Nat.le_of_ble_eq_true rfl⟩) hP hD hS hA [1] [0, 2, 3, 4, 5, 6, 7, 8, 9, 10] rfl rfl (by decide +kernel) (by decide +kernel) (fun u_1 H locs p_1 hP hD hS => ?_)
  have hP : va_P D vwCl [kO h0 10 [y0, .int i0, .int i1, y1, .int i2, .int i3, .int i4, .int i5, .int i6, .int i7, .int i8, .int i9, .int 0, .int 0, .int 0, .int 0, .int 0, .int 0, .ref h1, .ref h2, .ref h3, .ref h4, .ref h5, .ref h6, .ref h7, .ref h8, .int i11, .ref h9, .int 0, .int i12, y2, y3, y4, y5, .int i13, .int i14, .int i15, .ref h10, .int i16, .int i17, .int i18, .int i19, y6, y7, .long i20, y8], kI cI h2 32 g1, kI cI h3 32 g2, kI cI h4 48 g3, kI cI h5 48 g4, kI cI h6 48 g5, kI cI h7 48 g6, kI cI h8 48 g7, kI cI h9 5760 g8, kI cI h10 24 g9, kI cI h1 10 (u_1.2.1 0)] H := hP
  have hD : va_D A [kO h0 10 [y0, .int i0, .int i1, y1, .int i2, .int i3, .int i4, .int i5, .int i6, .int i7, .int i8, .int i9, .int 0, .int 0, .int 0, .int 0, .int 0, .int 0, .ref h1, .ref h2, .ref h3, .ref h4, .ref h5, .ref h6, .ref h7, .ref h8, .int i11, .ref h9, .int 0, .int i12, y2, y3, y4, y5, .int i13, .int i14, .int i15, .ref h10, .int i16, .int i17, .int i18, .int i19, y6, y7, .long i20, y8], kI cI h2 32 g1, kI cI h3 32 g2, kI cI h4 48 g3, kI cI h5 48 g4, kI cI h6 48 g5, kI cI h7 48 g6, kI cI h8 48 g7, kI cI h9 5760 g8, kI cI h10 24 g9, kI cI h1 10 (u_1.2.1 0)] := hD
  refine lv_aload_n hx hb dX11_keepText_32 rfl (lv_at hl 0 rfl) ?_
  refine va_get (D := D) (ci := 10) (v := .ref h2) (C := RX11) (T := TX11) (N := 46) hx hb hts u_X11 hown hE.1 hP 0 rfl rfl 19 (by decide) (hts _ w_1320) (fun _ h9 => h9) rfl dX11_keepText_33 ?_
  refine lv_bipush (v := 16) hx hb dX11_keepText_36 (by decide) ?_
  refine kk_cv (wr := [kO h0 10 [y0, .int i0, .int i1, y1, .int i2, .int i3, .int i4, .int i5, .int i6, .int i7, .int i8, .int i9, .int 0, .int 0, .int 0, .int 0, .int 0, .int 0, .ref h1, .ref h2, .ref h3, .ref h4, .ref h5, .ref h6, .ref h7, .ref h8, .int i11, .ref h9, .int 0, .int i12, y2, y3, y4, y5, .int i13, .int i14, .int i15, .ref h10, .int i16, .int i17, .int i18, .int i19, y6, y7, .long i20, y8], kI cI h3 32 g2, kI cI h4 48 g3, kI cI h5 48 g4, kI cI h6 48 g5, kI cI h7 48 g6, kI cI h8 48 g7, kI cI h9 5760 g8, kI cI h10 24 g9, kI cI h1 10 (u_1.2.1 0)]) (kk_runS (w1 := [kI cI h2 32 g1]) (As := [.ref h2, .int 16]) (rest := []) hx hb hml hown hts hE (c_X11_copies_2 l D cB cI cJ cD h2 g1 H.size) m_X11_copies w_1262 ⟨rfl, rfl, Nat.le_of_ble_eq_true rfl, Nat.le_of_ble_eq_true rfl⟩ (hP.sub [1] rfl) (hD.sub [1] (by decide +kernel) rfl) rfl hl.1 (Nat.le_of_ble_eq_true rfl) dX11_keepText_38 ⟨Nat.le_of_ble_eq_true rfl, Nat.le_of_ble_eq_true rfl⟩) hP hD hS hA [1] [0, 2, 3, 4, 5, 6, 7, 8, 9, 10] rfl rfl (by decide +kernel) (by decide +kernel) (fun u_2 H locs p_2 hP hD hS => ?_)
  have hP : va_P D vwCl [kO h0 10 [y0, .int i0, .int i1, y1, .int i2, .int i3, .int i4, .int i5, .int i6, .int i7, .int i8, .int i9, .int 0, .int 0, .int 0, .int 0, .int 0, .int 0, .ref h1, .ref h2, .ref h3, .ref h4, .ref h5, .ref h6, .ref h7, .ref h8, .int i11, .ref h9, .int 0, .int i12, y2, y3, y4, y5, .int i13, .int i14, .int i15, .ref h10, .int i16, .int i17, .int i18, .int i19, y6, y7, .long i20, y8], kI cI h3 32 g2, kI cI h4 48 g3, kI cI h5 48 g4, kI cI h6 48 g5, kI cI h7 48 g6, kI cI h8 48 g7, kI cI h9 5760 g8, kI cI h10 24 g9, kI cI h1 10 (u_1.2.1 0), kI cI h2 32 (u_2.2.1 0)] H := hP
  have hD : va_D A [kO h0 10 [y0, .int i0, .int i1, y1, .int i2, .int i3, .int i4, .int i5, .int i6, .int i7, .int i8, .int i9, .int 0, .int 0, .int 0, .int 0, .int 0, .int 0, .ref h1, .ref h2, .ref h3, .ref h4, .ref h5, .ref h6, .ref h7, .ref h8, .int i11, .ref h9, .int 0, .int i12, y2, y3, y4, y5, .int i13, .int i14, .int i15, .ref h10, .int i16, .int i17, .int i18, .int i19, y6, y7, .long i20, y8], kI cI h3 32 g2, kI cI h4 48 g3, kI cI h5 48 g4, kI cI h6 48 g5, kI cI h7 48 g6, kI cI h8 48 g7, kI cI h9 5760 g8, kI cI h10 24 g9, kI cI h1 10 (u_1.2.1 0), kI cI h2 32 (u_2.2.1 0)] := hD
  refine lv_aload_n hx hb dX11_keepText_41 rfl (lv_at hl 0 rfl) ?_
  refine va_get (D := D) (ci := 10) (v := .ref h3) (C := RX11) (T := TX11) (N := 46) hx hb hts u_X11 hown hE.1 hP 0 rfl rfl 20 (by decide) (hts _ w_1321) (fun _ h9 => h9) rfl dX11_keepText_42 ?_
  refine lv_bipush (v := 16) hx hb dX11_keepText_45 (by decide) ?_
  refine kk_cv (wr := [kO h0 10 [y0, .int i0, .int i1, y1, .int i2, .int i3, .int i4, .int i5, .int i6, .int i7, .int i8, .int i9, .int 0, .int 0, .int 0, .int 0, .int 0, .int 0, .ref h1, .ref h2, .ref h3, .ref h4, .ref h5, .ref h6, .ref h7, .ref h8, .int i11, .ref h9, .int 0, .int i12, y2, y3, y4, y5, .int i13, .int i14, .int i15, .ref h10, .int i16, .int i17, .int i18, .int i19, y6, y7, .long i20, y8], kI cI h4 48 g3, kI cI h5 48 g4, kI cI h6 48 g5, kI cI h7 48 g6, kI cI h8 48 g7, kI cI h9 5760 g8, kI cI h10 24 g9, kI cI h1 10 (u_1.2.1 0), kI cI h2 32 (u_2.2.1 0)]) (kk_runS (w1 := [kI cI h3 32 g2]) (As := [.ref h3, .int 16]) (rest := []) hx hb hml hown hts hE (c_X11_copies_2 l D cB cI cJ cD h3 g2 H.size) m_X11_copies w_1262 ⟨rfl, rfl, Nat.le_of_ble_eq_true rfl, Nat.le_of_ble_eq_true rfl⟩ (hP.sub [1] rfl) (hD.sub [1] (by decide +kernel) rfl) rfl hl.1 (Nat.le_of_ble_eq_true rfl) dX11_keepText_47 ⟨Nat.le_of_ble_eq_true rfl, Nat.le_of_ble_eq_true rfl⟩) hP hD hS hA [1] [0, 2, 3, 4, 5, 6, 7, 8, 9, 10] rfl rfl (by decide +kernel) (by decide +kernel) (fun u_3 H locs p_3 hP hD hS => ?_)
  have hP : va_P D vwCl [kO h0 10 [y0, .int i0, .int i1, y1, .int i2, .int i3, .int i4, .int i5, .int i6, .int i7, .int i8, .int i9, .int 0, .int 0, .int 0, .int 0, .int 0, .int 0, .ref h1, .ref h2, .ref h3, .ref h4, .ref h5, .ref h6, .ref h7, .ref h8, .int i11, .ref h9, .int 0, .int i12, y2, y3, y4, y5, .int i13, .int i14, .int i15, .ref h10, .int i16, .int i17, .int i18, .int i19, y6, y7, .long i20, y8], kI cI h4 48 g3, kI cI h5 48 g4, kI cI h6 48 g5, kI cI h7 48 g6, kI cI h8 48 g7, kI cI h9 5760 g8, kI cI h10 24 g9, kI cI h1 10 (u_1.2.1 0), kI cI h2 32 (u_2.2.1 0), kI cI h3 32 (u_3.2.1 0)] H := hP
  have hD : va_D A [kO h0 10 [y0, .int i0, .int i1, y1, .int i2, .int i3, .int i4, .int i5, .int i6, .int i7, .int i8, .int i9, .int 0, .int 0, .int 0, .int 0, .int 0, .int 0, .ref h1, .ref h2, .ref h3, .ref h4, .ref h5, .ref h6, .ref h7, .ref h8, .int i11, .ref h9, .int 0, .int i12, y2, y3, y4, y5, .int i13, .int i14, .int i15, .ref h10, .int i16, .int i17, .int i18, .int i19, y6, y7, .long i20, y8], kI cI h4 48 g3, kI cI h5 48 g4, kI cI h6 48 g5, kI cI h7 48 g6, kI cI h8 48 g7, kI cI h9 5760 g8, kI cI h10 24 g9, kI cI h1 10 (u_1.2.1 0), kI cI h2 32 (u_2.2.1 0), kI cI h3 32 (u_3.2.1 0)] := hD
  refine lv_aload_n hx hb dX11_keepText_50 rfl (lv_at hl 0 rfl) ?_
  refine va_get (D := D) (ci := 10) (v := .ref h4) (C := RX11) (T := TX11) (N := 46) hx hb hts u_X11 hown hE.1 hP 0 rfl rfl 21 (by decide) (hts _ w_1322) (fun _ h9 => h9) rfl dX11_keepText_51 ?_
  refine lv_bipush (v := 24) hx hb dX11_keepText_54 (by decide) ?_
  refine kk_cv (wr := [kO h0 10 [y0, .int i0, .int i1, y1, .int i2, .int i3, .int i4, .int i5, .int i6, .int i7, .int i8, .int i9, .int 0, .int 0, .int 0, .int 0, .int 0, .int 0, .ref h1, .ref h2, .ref h3, .ref h4, .ref h5, .ref h6, .ref h7, .ref h8, .int i11, .ref h9, .int 0, .int i12, y2, y3, y4, y5, .int i13, .int i14, .int i15, .ref h10, .int i16, .int i17, .int i18, .int i19, y6, y7, .long i20, y8], kI cI h5 48 g4, kI cI h6 48 g5, kI cI h7 48 g6, kI cI h8 48 g7, kI cI h9 5760 g8, kI cI h10 24 g9, kI cI h1 10 (u_1.2.1 0), kI cI h2 32 (u_2.2.1 0), kI cI h3 32 (u_3.2.1 0)]) (kk_runS (w1 := [kI cI h4 48 g3]) (As := [.ref h4, .int 24]) (rest := []) hx hb hml hown hts hE (c_X11_copies_3 l D cB cI cJ cD h4 g3 H.size) m_X11_copies w_1262 ⟨rfl, rfl, Nat.le_of_ble_eq_true rfl, Nat.le_of_ble_eq_true rfl⟩ (hP.sub [1] rfl) (hD.sub [1] (by decide +kernel) rfl) rfl hl.1 (Nat.le_of_ble_eq_true rfl) dX11_keepText_56 ⟨Nat.le_of_ble_eq_true rfl, Nat.le_of_ble_eq_true rfl⟩) hP hD hS hA [1] [0, 2, 3, 4, 5, 6, 7, 8, 9, 10] rfl rfl (by decide +kernel) (by decide +kernel) (fun u_4 H locs p_4 hP hD hS => ?_)
  have hP : va_P D vwCl [kO h0 10 [y0, .int i0, .int i1, y1, .int i2, .int i3, .int i4, .int i5, .int i6, .int i7, .int i8, .int i9, .int 0, .int 0, .int 0, .int 0, .int 0, .int 0, .ref h1, .ref h2, .ref h3, .ref h4, .ref h5, .ref h6, .ref h7, .ref h8, .int i11, .ref h9, .int 0, .int i12, y2, y3, y4, y5, .int i13, .int i14, .int i15, .ref h10, .int i16, .int i17, .int i18, .int i19, y6, y7, .long i20, y8], kI cI h5 48 g4, kI cI h6 48 g5, kI cI h7 48 g6, kI cI h8 48 g7, kI cI h9 5760 g8, kI cI h10 24 g9, kI cI h1 10 (u_1.2.1 0), kI cI h2 32 (u_2.2.1 0), kI cI h3 32 (u_3.2.1 0), kI cI h4 48 (u_4.2.1 0)] H := hP
  have hD : va_D A [kO h0 10 [y0, .int i0, .int i1, y1, .int i2, .int i3, .int i4, .int i5, .int i6, .int i7, .int i8, .int i9, .int 0, .int 0, .int 0, .int 0, .int 0, .int 0, .ref h1, .ref h2, .ref h3, .ref h4, .ref h5, .ref h6, .ref h7, .ref h8, .int i11, .ref h9, .int 0, .int i12, y2, y3, y4, y5, .int i13, .int i14, .int i15, .ref h10, .int i16, .int i17, .int i18, .int i19, y6, y7, .long i20, y8], kI cI h5 48 g4, kI cI h6 48 g5, kI cI h7 48 g6, kI cI h8 48 g7, kI cI h9 5760 g8, kI cI h10 24 g9, kI cI h1 10 (u_1.2.1 0), kI cI h2 32 (u_2.2.1 0), kI cI h3 32 (u_3.2.1 0), kI cI h4 48 (u_4.2.1 0)] := hD
  refine lv_aload_n hx hb dX11_keepText_59 rfl (lv_at hl 0 rfl) ?_
  refine va_get (D := D) (ci := 10) (v := .ref h5) (C := RX11) (T := TX11) (N := 46) hx hb hts u_X11 hown hE.1 hP 0 rfl rfl 22 (by decide) (hts _ w_1323) (fun _ h9 => h9) rfl dX11_keepText_60 ?_
  refine lv_bipush (v := 24) hx hb dX11_keepText_63 (by decide) ?_
  refine kk_cv (wr := [kO h0 10 [y0, .int i0, .int i1, y1, .int i2, .int i3, .int i4, .int i5, .int i6, .int i7, .int i8, .int i9, .int 0, .int 0, .int 0, .int 0, .int 0, .int 0, .ref h1, .ref h2, .ref h3, .ref h4, .ref h5, .ref h6, .ref h7, .ref h8, .int i11, .ref h9, .int 0, .int i12, y2, y3, y4, y5, .int i13, .int i14, .int i15, .ref h10, .int i16, .int i17, .int i18, .int i19, y6, y7, .long i20, y8], kI cI h6 48 g5, kI cI h7 48 g6, kI cI h8 48 g7, kI cI h9 5760 g8, kI cI h10 24 g9, kI cI h1 10 (u_1.2.1 0), kI cI h2 32 (u_2.2.1 0), kI cI h3 32 (u_3.2.1 0), kI cI h4 48 (u_4.2.1 0)]) (kk_runS (w1 := [kI cI h5 48 g4]) (As := [.ref h5, .int 24]) (rest := []) hx hb hml hown hts hE (c_X11_copies_3 l D cB cI cJ cD h5 g4 H.size) m_X11_copies w_1262 ⟨rfl, rfl, Nat.le_of_ble_eq_true rfl, Nat.le_of_ble_eq_true rfl⟩ (hP.sub [1] rfl) (hD.sub [1] (by decide +kernel) rfl) rfl hl.1 (Nat.le_of_ble_eq_true rfl) dX11_keepText_65 ⟨Nat.le_of_ble_eq_true rfl, Nat.le_of_ble_eq_true rfl⟩) hP hD hS hA [1] [0, 2, 3, 4, 5, 6, 7, 8, 9, 10] rfl rfl (by decide +kernel) (by decide +kernel) (fun u_5 H locs p_5 hP hD hS => ?_)
  have hP : va_P D vwCl [kO h0 10 [y0, .int i0, .int i1, y1, .int i2, .int i3, .int i4, .int i5, .int i6, .int i7, .int i8, .int i9, .int 0, .int 0, .int 0, .int 0, .int 0, .int 0, .ref h1, .ref h2, .ref h3, .ref h4, .ref h5, .ref h6, .ref h7, .ref h8, .int i11, .ref h9, .int 0, .int i12, y2, y3, y4, y5, .int i13, .int i14, .int i15, .ref h10, .int i16, .int i17, .int i18, .int i19, y6, y7, .long i20, y8], kI cI h6 48 g5, kI cI h7 48 g6, kI cI h8 48 g7, kI cI h9 5760 g8, kI cI h10 24 g9, kI cI h1 10 (u_1.2.1 0), kI cI h2 32 (u_2.2.1 0), kI cI h3 32 (u_3.2.1 0), kI cI h4 48 (u_4.2.1 0), kI cI h5 48 (u_5.2.1 0)] H := hP
  have hD : va_D A [kO h0 10 [y0, .int i0, .int i1, y1, .int i2, .int i3, .int i4, .int i5, .int i6, .int i7, .int i8, .int i9, .int 0, .int 0, .int 0, .int 0, .int 0, .int 0, .ref h1, .ref h2, .ref h3, .ref h4, .ref h5, .ref h6, .ref h7, .ref h8, .int i11, .ref h9, .int 0, .int i12, y2, y3, y4, y5, .int i13, .int i14, .int i15, .ref h10, .int i16, .int i17, .int i18, .int i19, y6, y7, .long i20, y8], kI cI h6 48 g5, kI cI h7 48 g6, kI cI h8 48 g7, kI cI h9 5760 g8, kI cI h10 24 g9, kI cI h1 10 (u_1.2.1 0), kI cI h2 32 (u_2.2.1 0), kI cI h3 32 (u_3.2.1 0), kI cI h4 48 (u_4.2.1 0), kI cI h5 48 (u_5.2.1 0)] := hD
  refine lv_aload_n hx hb dX11_keepText_68 rfl (lv_at hl 0 rfl) ?_
  refine va_get (D := D) (ci := 10) (v := .ref h6) (C := RX11) (T := TX11) (N := 46) hx hb hts u_X11 hown hE.1 hP 0 rfl rfl 23 (by decide) (hts _ w_1324) (fun _ h9 => h9) rfl dX11_keepText_69 ?_
  refine lv_bipush (v := 24) hx hb dX11_keepText_72 (by decide) ?_
  refine kk_cv (wr := [kO h0 10 [y0, .int i0, .int i1, y1, .int i2, .int i3, .int i4, .int i5, .int i6, .int i7, .int i8, .int i9, .int 0, .int 0, .int 0, .int 0, .int 0, .int 0, .ref h1, .ref h2, .ref h3, .ref h4, .ref h5, .ref h6, .ref h7, .ref h8, .int i11, .ref h9, .int 0, .int i12, y2, y3, y4, y5, .int i13, .int i14, .int i15, .ref h10, .int i16, .int i17, .int i18, .int i19, y6, y7, .long i20, y8], kI cI h7 48 g6, kI cI h8 48 g7, kI cI h9 5760 g8, kI cI h10 24 g9, kI cI h1 10 (u_1.2.1 0), kI cI h2 32 (u_2.2.1 0), kI cI h3 32 (u_3.2.1 0), kI cI h4 48 (u_4.2.1 0), kI cI h5 48 (u_5.2.1 0)]) (kk_runS (w1 := [kI cI h6 48 g5]) (As := [.ref h6, .int 24]) (rest := []) hx hb hml hown hts hE (c_X11_copies_3 l D cB cI cJ cD h6 g5 H.size) m_X11_copies w_1262 ⟨rfl, rfl, Nat.le_of_ble_eq_true rfl, Nat.le_of_ble_eq_true rfl⟩ (hP.sub [1] rfl) (hD.sub [1] (by decide +kernel) rfl) rfl hl.1 (Nat.le_of_ble_eq_true rfl) dX11_keepText_74 ⟨Nat.le_of_ble_eq_true rfl, Nat.le_of_ble_eq_true rfl⟩) hP hD hS hA [1] [0, 2, 3, 4, 5, 6, 7, 8, 9, 10] rfl rfl (by decide +kernel) (by decide +kernel) (fun u_6 H locs p_6 hP hD hS => ?_)
  have hP : va_P D vwCl [kO h0 10 [y0, .int i0, .int i1, y1, .int i2, .int i3, .int i4, .int i5, .int i6, .int i7, .int i8, .int i9, .int 0, .int 0, .int 0, .int 0, .int 0, .int 0, .ref h1, .ref h2, .ref h3, .ref h4, .ref h5, .ref h6, .ref h7, .ref h8, .int i11, .ref h9, .int 0, .int i12, y2, y3, y4, y5, .int i13, .int i14, .int i15, .ref h10, .int i16, .int i17, .int i18, .int i19, y6, y7, .long i20, y8], kI cI h7 48 g6, kI cI h8 48 g7, kI cI h9 5760 g8, kI cI h10 24 g9, kI cI h1 10 (u_1.2.1 0), kI cI h2 32 (u_2.2.1 0), kI cI h3 32 (u_3.2.1 0), kI cI h4 48 (u_4.2.1 0), kI cI h5 48 (u_5.2.1 0), kI cI h6 48 (u_6.2.1 0)] H := hP
  have hD : va_D A [kO h0 10 [y0, .int i0, .int i1, y1, .int i2, .int i3, .int i4, .int i5, .int i6, .int i7, .int i8, .int i9, .int 0, .int 0, .int 0, .int 0, .int 0, .int 0, .ref h1, .ref h2, .ref h3, .ref h4, .ref h5, .ref h6, .ref h7, .ref h8, .int i11, .ref h9, .int 0, .int i12, y2, y3, y4, y5, .int i13, .int i14, .int i15, .ref h10, .int i16, .int i17, .int i18, .int i19, y6, y7, .long i20, y8], kI cI h7 48 g6, kI cI h8 48 g7, kI cI h9 5760 g8, kI cI h10 24 g9, kI cI h1 10 (u_1.2.1 0), kI cI h2 32 (u_2.2.1 0), kI cI h3 32 (u_3.2.1 0), kI cI h4 48 (u_4.2.1 0), kI cI h5 48 (u_5.2.1 0), kI cI h6 48 (u_6.2.1 0)] := hD
  refine lv_aload_n hx hb dX11_keepText_77 rfl (lv_at hl 0 rfl) ?_
  refine va_get (D := D) (ci := 10) (v := .ref h7) (C := RX11) (T := TX11) (N := 46) hx hb hts u_X11 hown hE.1 hP 0 rfl rfl 24 (by decide) (hts _ w_1325) (fun _ h9 => h9) rfl dX11_keepText_78 ?_
  refine lv_bipush (v := 24) hx hb dX11_keepText_81 (by decide) ?_
  refine kk_cv (wr := [kO h0 10 [y0, .int i0, .int i1, y1, .int i2, .int i3, .int i4, .int i5, .int i6, .int i7, .int i8, .int i9, .int 0, .int 0, .int 0, .int 0, .int 0, .int 0, .ref h1, .ref h2, .ref h3, .ref h4, .ref h5, .ref h6, .ref h7, .ref h8, .int i11, .ref h9, .int 0, .int i12, y2, y3, y4, y5, .int i13, .int i14, .int i15, .ref h10, .int i16, .int i17, .int i18, .int i19, y6, y7, .long i20, y8], kI cI h8 48 g7, kI cI h9 5760 g8, kI cI h10 24 g9, kI cI h1 10 (u_1.2.1 0), kI cI h2 32 (u_2.2.1 0), kI cI h3 32 (u_3.2.1 0), kI cI h4 48 (u_4.2.1 0), kI cI h5 48 (u_5.2.1 0), kI cI h6 48 (u_6.2.1 0)]) (kk_runS (w1 := [kI cI h7 48 g6]) (As := [.ref h7, .int 24]) (rest := []) hx hb hml hown hts hE (c_X11_copies_3 l D cB cI cJ cD h7 g6 H.size) m_X11_copies w_1262 ⟨rfl, rfl, Nat.le_of_ble_eq_true rfl, Nat.le_of_ble_eq_true rfl⟩ (hP.sub [1] rfl) (hD.sub [1] (by decide +kernel) rfl) rfl hl.1 (Nat.le_of_ble_eq_true rfl) dX11_keepText_83 ⟨Nat.le_of_ble_eq_true rfl, Nat.le_of_ble_eq_true rfl⟩) hP hD hS hA [1] [0, 2, 3, 4, 5, 6, 7, 8, 9, 10] rfl rfl (by decide +kernel) (by decide +kernel) (fun u_7 H locs p_7 hP hD hS => ?_)
  have hP : va_P D vwCl [kO h0 10 [y0, .int i0, .int i1, y1, .int i2, .int i3, .int i4, .int i5, .int i6, .int i7, .int i8, .int i9, .int 0, .int 0, .int 0, .int 0, .int 0, .int 0, .ref h1, .ref h2, .ref h3, .ref h4, .ref h5, .ref h6, .ref h7, .ref h8, .int i11, .ref h9, .int 0, .int i12, y2, y3, y4, y5, .int i13, .int i14, .int i15, .ref h10, .int i16, .int i17, .int i18, .int i19, y6, y7, .long i20, y8], kI cI h8 48 g7, kI cI h9 5760 g8, kI cI h10 24 g9, kI cI h1 10 (u_1.2.1 0), kI cI h2 32 (u_2.2.1 0), kI cI h3 32 (u_3.2.1 0), kI cI h4 48 (u_4.2.1 0), kI cI h5 48 (u_5.2.1 0), kI cI h6 48 (u_6.2.1 0), kI cI h7 48 (u_7.2.1 0)] H := hP
  have hD : va_D A [kO h0 10 [y0, .int i0, .int i1, y1, .int i2, .int i3, .int i4, .int i5, .int i6, .int i7, .int i8, .int i9, .int 0, .int 0, .int 0, .int 0, .int 0, .int 0, .ref h1, .ref h2, .ref h3, .ref h4, .ref h5, .ref h6, .ref h7, .ref h8, .int i11, .ref h9, .int 0, .int i12, y2, y3, y4, y5, .int i13, .int i14, .int i15, .ref h10, .int i16, .int i17, .int i18, .int i19, y6, y7, .long i20, y8], kI cI h8 48 g7, kI cI h9 5760 g8, kI cI h10 24 g9, kI cI h1 10 (u_1.2.1 0), kI cI h2 32 (u_2.2.1 0), kI cI h3 32 (u_3.2.1 0), kI cI h4 48 (u_4.2.1 0), kI cI h5 48 (u_5.2.1 0), kI cI h6 48 (u_6.2.1 0), kI cI h7 48 (u_7.2.1 0)] := hD
  refine lv_aload_n hx hb dX11_keepText_86 rfl (lv_at hl 0 rfl) ?_
  refine va_get (D := D) (ci := 10) (v := .ref h8) (C := RX11) (T := TX11) (N := 46) hx hb hts u_X11 hown hE.1 hP 0 rfl rfl 25 (by decide) (hts _ w_1326) (fun _ h9 => h9) rfl dX11_keepText_87 ?_
  refine lv_bipush (v := 24) hx hb dX11_keepText_90 (by decide) ?_
  refine kk_cv (wr := [kO h0 10 [y0, .int i0, .int i1, y1, .int i2, .int i3, .int i4, .int i5, .int i6, .int i7, .int i8, .int i9, .int 0, .int 0, .int 0, .int 0, .int 0, .int 0, .ref h1, .ref h2, .ref h3, .ref h4, .ref h5, .ref h6, .ref h7, .ref h8, .int i11, .ref h9, .int 0, .int i12, y2, y3, y4, y5, .int i13, .int i14, .int i15, .ref h10, .int i16, .int i17, .int i18, .int i19, y6, y7, .long i20, y8], kI cI h9 5760 g8, kI cI h10 24 g9, kI cI h1 10 (u_1.2.1 0), kI cI h2 32 (u_2.2.1 0), kI cI h3 32 (u_3.2.1 0), kI cI h4 48 (u_4.2.1 0), kI cI h5 48 (u_5.2.1 0), kI cI h6 48 (u_6.2.1 0), kI cI h7 48 (u_7.2.1 0)]) (kk_runS (w1 := [kI cI h8 48 g7]) (As := [.ref h8, .int 24]) (rest := []) hx hb hml hown hts hE (c_X11_copies_3 l D cB cI cJ cD h8 g7 H.size) m_X11_copies w_1262 ⟨rfl, rfl, Nat.le_of_ble_eq_true rfl, Nat.le_of_ble_eq_true rfl⟩ (hP.sub [1] rfl) (hD.sub [1] (by decide +kernel) rfl) rfl hl.1 (Nat.le_of_ble_eq_true rfl) dX11_keepText_92 ⟨Nat.le_of_ble_eq_true rfl, Nat.le_of_ble_eq_true rfl⟩) hP hD hS hA [1] [0, 2, 3, 4, 5, 6, 7, 8, 9, 10] rfl rfl (by decide +kernel) (by decide +kernel) (fun u_8 H locs p_8 hP hD hS => ?_)
  have hP : va_P D vwCl [kO h0 10 [y0, .int i0, .int i1, y1, .int i2, .int i3, .int i4, .int i5, .int i6, .int i7, .int i8, .int i9, .int 0, .int 0, .int 0, .int 0, .int 0, .int 0, .ref h1, .ref h2, .ref h3, .ref h4, .ref h5, .ref h6, .ref h7, .ref h8, .int i11, .ref h9, .int 0, .int i12, y2, y3, y4, y5, .int i13, .int i14, .int i15, .ref h10, .int i16, .int i17, .int i18, .int i19, y6, y7, .long i20, y8], kI cI h9 5760 g8, kI cI h10 24 g9, kI cI h1 10 (u_1.2.1 0), kI cI h2 32 (u_2.2.1 0), kI cI h3 32 (u_3.2.1 0), kI cI h4 48 (u_4.2.1 0), kI cI h5 48 (u_5.2.1 0), kI cI h6 48 (u_6.2.1 0), kI cI h7 48 (u_7.2.1 0), kI cI h8 48 (u_8.2.1 0)] H := hP
  have hD : va_D A [kO h0 10 [y0, .int i0, .int i1, y1, .int i2, .int i3, .int i4, .int i5, .int i6, .int i7, .int i8, .int i9, .int 0, .int 0, .int 0, .int 0, .int 0, .int 0, .ref h1, .ref h2, .ref h3, .ref h4, .ref h5, .ref h6, .ref h7, .ref h8, .int i11, .ref h9, .int 0, .int i12, y2, y3, y4, y5, .int i13, .int i14, .int i15, .ref h10, .int i16, .int i17, .int i18, .int i19, y6, y7, .long i20, y8], kI cI h9 5760 g8, kI cI h10 24 g9, kI cI h1 10 (u_1.2.1 0), kI cI h2 32 (u_2.2.1 0), kI cI h3 32 (u_3.2.1 0), kI cI h4 48 (u_4.2.1 0), kI cI h5 48 (u_5.2.1 0), kI cI h6 48 (u_6.2.1 0), kI cI h7 48 (u_7.2.1 0), kI cI h8 48 (u_8.2.1 0)] := hD
  refine lv_aload_n hx hb dX11_keepText_95 rfl (lv_at hl 0 rfl) ?_
  refine lv_iconst (v := 0) hx hb dX11_keepText_96 (by decide) ?_
  refine va_put (D := D) (ci := 10) (v := .int 0) (ty := .int) (C := RX11) (T := TX11) (N := 46) hx hb hts u_X11 tyX11 tyX11_ok nmX11 hown hE.1 hP hD hS 0 rfl rfl 28 (by decide) (hts _ w_1329) (fun _ h9 => h9) rfl (by decide +kernel) rfl rfl (Nat.le_of_ble_eq_true rfl) dX11_keepText_97 (fun H locs hP hD hS => ?_)
  have hP : va_P D vwCl [kO h0 10 [y0, .int i0, .int i1, y1, .int i2, .int i3, .int i4, .int i5, .int i6, .int i7, .int i8, .int i9, .int 0, .int 0, .int 0, .int 0, .int 0, .int 0, .ref h1, .ref h2, .ref h3, .ref h4, .ref h5, .ref h6, .ref h7, .ref h8, .int i11, .ref h9, .int 0, .int i12, y2, y3, y4, y5, .int i13, .int i14, .int i15, .ref h10, .int i16, .int i17, .int i18, .int i19, y6, y7, .long i20, y8], kI cI h9 5760 g8, kI cI h10 24 g9, kI cI h1 10 (u_1.2.1 0), kI cI h2 32 (u_2.2.1 0), kI cI h3 32 (u_3.2.1 0), kI cI h4 48 (u_4.2.1 0), kI cI h5 48 (u_5.2.1 0), kI cI h6 48 (u_6.2.1 0), kI cI h7 48 (u_7.2.1 0), kI cI h8 48 (u_8.2.1 0)] H := hP
  have hD : va_D A [kO h0 10 [y0, .int i0, .int i1, y1, .int i2, .int i3, .int i4, .int i5, .int i6, .int i7, .int i8, .int i9, .int 0, .int 0, .int 0, .int 0, .int 0, .int 0, .ref h1, .ref h2, .ref h3, .ref h4, .ref h5, .ref h6, .ref h7, .ref h8, .int i11, .ref h9, .int 0, .int i12, y2, y3, y4, y5, .int i13, .int i14, .int i15, .ref h10, .int i16, .int i17, .int i18, .int i19, y6, y7, .long i20, y8], kI cI h9 5760 g8, kI cI h10 24 g9, kI cI h1 10 (u_1.2.1 0), kI cI h2 32 (u_2.2.1 0), kI cI h3 32 (u_3.2.1 0), kI cI h4 48 (u_4.2.1 0), kI cI h5 48 (u_5.2.1 0), kI cI h6 48 (u_6.2.1 0), kI cI h7 48 (u_7.2.1 0), kI cI h8 48 (u_8.2.1 0)] := hD
  refine lv_aload_n hx hb dX11_keepText_100 rfl (lv_at hl 0 rfl) ?_
  refine kk_cv (wr := [kI cI h1 10 (u_1.2.1 0), kI cI h2 32 (u_2.2.1 0), kI cI h3 32 (u_3.2.1 0), kI cI h4 48 (u_4.2.1 0), kI cI h5 48 (u_5.2.1 0), kI cI h6 48 (u_6.2.1 0), kI cI h7 48 (u_7.2.1 0), kI cI h8 48 (u_8.2.1 0)]) (kk_runV (w1 := [kO h0 10 [y0, .int i0, .int i1, y1, .int i2, .int i3, .int i4, .int i5, .int i6, .int i7, .int i8, .int i9, .int 0, .int 0, .int 0, .int 0, .int 0, .int 0, .ref h1, .ref h2, .ref h3, .ref h4, .ref h5, .ref h6, .ref h7, .ref h8, .int i11, .ref h9, .int 0, .int i12, y2, y3, y4, y5, .int i13, .int i14, .int i15, .ref h10, .int i16, .int i17, .int i18, .int i19, y6, y7, .long i20, y8], kI cI h9 5760 g8, kI cI h10 24 g9]) (As := []) (rest := []) hx hb hml hown hts hE (c_X11_begin l D cB cI cJ cD h0 h9 h10 y0 i0 i1 y1 i2 i3 i4 i5 i6 i7 i8 i9 0 0 0 0 (.ref h1) (.ref h2) (.ref h3) (.ref h4) (.ref h5) (.ref h6) (.ref h7) (.ref h8) i11 i12 y2 y3 y4 y5 i13 i14 i15 i16 i17 i18 i19 y6 y7 i20 y8 g8 g9 H.size) m_X11_begin w_1265 ⟨rfl, rfl, Nat.le_of_ble_eq_true rfl, Nat.le_of_ble_eq_true rfl⟩ (hP.sub [0, 1, 2] rfl) (hD.sub [0, 1, 2] (by decide +kernel) rfl) 0 10 rfl rfl rfl hl.1 (Nat.le_of_ble_eq_true rfl) dX11_keepText_101 ⟨Nat.le_of_ble_eq_true rfl, Nat.le_of_ble_eq_true rfl⟩) hP hD hS hA [0, 1, 2] [3, 4, 5, 6, 7, 8, 9, 10] rfl rfl (by decide +kernel) (by decide +kernel) (fun u_9 H locs p_9 hP hD hS => ?_)
  have hP : va_P D vwCl [kI cI h1 10 (u_1.2.1 0), kI cI h2 32 (u_2.2.1 0), kI cI h3 32 (u_3.2.1 0), kI cI h4 48 (u_4.2.1 0), kI cI h5 48 (u_5.2.1 0), kI cI h6 48 (u_6.2.1 0), kI cI h7 48 (u_7.2.1 0), kI cI h8 48 (u_8.2.1 0), kO h0 10 [y0, .int i0, .int i1, y1, .int i2, .int i3, .int i4, .int i5, .int i6, .int i7, .int i8, .int i9, .int 0, .int 0, .int 0, .int 0, .int 0, .int 0, .ref h1, .ref h2, .ref h3, .ref h4, .ref h5, .ref h6, .ref h7, .ref h8, .int i11, .ref h9, .int 0, .int i12, y2, y3, y4, y5, .int 0, .int 0, .int 0, .ref h10, .int 0, .int i17, .int i18, .int i19, y6, y7, .long i20, y8], kI cI h9 5760 (u_9.2.1 0), kI cI h10 24 (u_9.2.1 1)] H := hP
  have hD : va_D A [kI cI h1 10 (u_1.2.1 0), kI cI h2 32 (u_2.2.1 0), kI cI h3 32 (u_3.2.1 0), kI cI h4 48 (u_4.2.1 0), kI cI h5 48 (u_5.2.1 0), kI cI h6 48 (u_6.2.1 0), kI cI h7 48 (u_7.2.1 0), kI cI h8 48 (u_8.2.1 0), kO h0 10 [y0, .int i0, .int i1, y1, .int i2, .int i3, .int i4, .int i5, .int i6, .int i7, .int i8, .int i9, .int 0, .int 0, .int 0, .int 0, .int 0, .int 0, .ref h1, .ref h2, .ref h3, .ref h4, .ref h5, .ref h6, .ref h7, .ref h8, .int i11, .ref h9, .int 0, .int i12, y2, y3, y4, y5, .int 0, .int 0, .int 0, .ref h10, .int 0, .int i17, .int i18, .int i19, y6, y7, .long i20, y8], kI cI h9 5760 (u_9.2.1 0), kI cI h10 24 (u_9.2.1 1)] := hD
  refine lv_aload_n hx hb dX11_keepText_104 rfl (lv_at hl 0 rfl) ?_
  refine lv_iconst (v := 0) hx hb dX11_keepText_105 (by decide) ?_
  refine va_put (D := D) (ci := 10) (v := .int 0) (ty := .int) (C := RX11) (T := TX11) (N := 46) hx hb hts u_X11 tyX11 tyX11_ok nmX11 hown hE.1 hP hD hS 8 rfl rfl 29 (by decide) (hts _ w_1330) (fun _ h9 => h9) rfl (by decide +kernel) rfl rfl (Nat.le_of_ble_eq_true rfl) dX11_keepText_106 (fun H locs hP hD hS => ?_)
  have hP : va_P D vwCl [kI cI h1 10 (u_1.2.1 0), kI cI h2 32 (u_2.2.1 0), kI cI h3 32 (u_3.2.1 0), kI cI h4 48 (u_4.2.1 0), kI cI h5 48 (u_5.2.1 0), kI cI h6 48 (u_6.2.1 0), kI cI h7 48 (u_7.2.1 0), kI cI h8 48 (u_8.2.1 0), kO h0 10 [y0, .int i0, .int i1, y1, .int i2, .int i3, .int i4, .int i5, .int i6, .int i7, .int i8, .int i9, .int 0, .int 0, .int 0, .int 0, .int 0, .int 0, .ref h1, .ref h2, .ref h3, .ref h4, .ref h5, .ref h6, .ref h7, .ref h8, .int i11, .ref h9, .int 0, .int 0, y2, y3, y4, y5, .int 0, .int 0, .int 0, .ref h10, .int 0, .int i17, .int i18, .int i19, y6, y7, .long i20, y8], kI cI h9 5760 (u_9.2.1 0), kI cI h10 24 (u_9.2.1 1)] H := hP
  have hD : va_D A [kI cI h1 10 (u_1.2.1 0), kI cI h2 32 (u_2.2.1 0), kI cI h3 32 (u_3.2.1 0), kI cI h4 48 (u_4.2.1 0), kI cI h5 48 (u_5.2.1 0), kI cI h6 48 (u_6.2.1 0), kI cI h7 48 (u_7.2.1 0), kI cI h8 48 (u_8.2.1 0), kO h0 10 [y0, .int i0, .int i1, y1, .int i2, .int i3, .int i4, .int i5, .int i6, .int i7, .int i8, .int i9, .int 0, .int 0, .int 0, .int 0, .int 0, .int 0, .ref h1, .ref h2, .ref h3, .ref h4, .ref h5, .ref h6, .ref h7, .ref h8, .int i11, .ref h9, .int 0, .int 0, y2, y3, y4, y5, .int 0, .int 0, .int 0, .ref h10, .int 0, .int i17, .int i18, .int i19, y6, y7, .long i20, y8], kI cI h9 5760 (u_9.2.1 0), kI cI h10 24 (u_9.2.1 1)] := hD
  exact kk_ret_v ((fun i => [].getD i 0), (fun i => [(u_1.2.1 0), (u_2.2.1 0), (u_3.2.1 0), (u_4.2.1 0), (u_5.2.1 0), (u_6.2.1 0), (u_7.2.1 0), (u_8.2.1 0), (u_9.2.1 0), (u_9.2.1 1)].getD i (fun _ => 0)), (fun i => [].getD i (fun _ => 0)), (fun i => [].getD i 0)) hx hb hr hlocks p_9 (hP.sub [8, 0, 1, 2, 3, 4, 5, 6, 7, 9, 10] rfl) (hD.sub [8, 0, 1, 2, 3, 4, 5, 6, 7, 9, 10] (by decide +kernel) rfl) hS dX11_keepText_109 (Nat.le_of_ble_eq_true rfl) (Nat.le_of_ble_eq_true rfl)
set_option maxHeartbeats 4000000 in
set_option maxRecDepth 100000 in
theorem c_X11_init (l : Launch) (D : va_G) (cB cI cJ cD : ClassId) (h0 : Nat) (y0 : Value) (i0 : Int32) (i1 : Int32) (y1 : Value) (i2 : Int32) (i3 : Int32) (i4 : Int32) (i5 : Int32) (i6 : Int32) (i7 : Int32) (i8 : Int32) (i9 : Int32) (i10 : Int32) (i11 : Int32) (i12 : Int32) (y2 : Value) (y3 : Value) (y4 : Value) (y5 : Value) (i13 : Int32) (i14 : Int32) (i15 : Int32) (i16 : Int32) (i17 : Int32) (i18 : Int32) (i19 : Int32) (y6 : Value) (y7 : Value) (i20 : Int64) (y8 : Value) (sz : Nat) : Met l yX11_init (kk_W yX11_init cX11_init 1 none) ({ frames := 3, cells := 19, slots := 11707, locals := 63 }) (va_Pc [.ref h0] (kk_pre D cB cI cJ cD [kO h0 10 [y0, .int i0, .int i1, y1, .int i2, .int i3, .int i4, .int i5, .int i6, .int i7, .int i8, .int i9, .int i10, .int 0, .int 0, .int 0, .int 0, .int 0, .null, .null, .null, .null, .null, .null, .null, .null, .int i11, .null, .int 0, .int i12, y2, y3, y4, y5, .int i13, .int i14, .int i15, .null, .int i16, .int i17, .int i18, .int i19, y6, y7, .long i20, y8]] sz)) (kk_Qv D (fun (u : (Nat → Nat) × (Nat → Nat → Int32) × (Nat → Nat → Int64) × (Nat → Int32)) => kz 0 (u.2.1 9)) (fun u => [kO h0 10 [.ref (u.1 0), .int i0, .int i1, .ref (u.1 1), .int i2, .int (-1), .int i4, .int i5, .int i6, .int i7, .int i8, .int i9, .int 0, .int 0, .int 0, .int 0, .int 0, .int 0, .ref (u.1 2), .ref (u.1 3), .ref (u.1 4), .ref (u.1 5), .ref (u.1 6), .ref (u.1 7), .ref (u.1 8), .ref (u.1 9), .int i11, .ref (u.1 10), .int 0, .int 0, .ref (u.1 11), .ref (u.1 12), .ref (u.1 13), .ref (u.1 14), .int 0, .int 0, .int 0, .ref (u.1 15), .int 0, .int i17, .int i18, .int i19, .ref (u.1 16), .ref (u.1 17), .long i20, .ref (u.1 18)], kI cI (u.1 0) 700 (fun _ => 0), kI cI (u.1 1) 50 (u.2.1 0), kI cI (u.1 11) 1200 (fun _ => 0), kI cI (u.1 12) 1200 (fun _ => 0), kI cI (u.1 13) 1200 (fun _ => 0), kI cI (u.1 14) 1200 (fun _ => 0), kI cI (u.1 16) 49 (fun _ => 0), kI cI (u.1 17) 5 (fun _ => 0), kI cI (u.1 18) 5 (fun _ => 0), kI cI (u.1 2) 10 (u.2.1 1), kI cI (u.1 3) 32 (u.2.1 2), kI cI (u.1 4) 32 (u.2.1 3), kI cI (u.1 5) 48 (u.2.1 4), kI cI (u.1 6) 48 (u.2.1 5), kI cI (u.1 7) 48 (u.2.1 6), kI cI (u.1 8) 48 (u.2.1 7), kI cI (u.1 9) 48 (u.2.1 8), kI cI (u.1 10) 5760 (u.2.1 9), kI cI (u.1 15) 24 (u.2.1 10)]) (va_A [kO h0 10 [y0, .int i0, .int i1, y1, .int i2, .int i3, .int i4, .int i5, .int i6, .int i7, .int i8, .int i9, .int i10, .int 0, .int 0, .int 0, .int 0, .int 0, .null, .null, .null, .null, .null, .null, .null, .null, .int i11, .null, .int 0, .int i12, y2, y3, y4, y5, .int i13, .int i14, .int i15, .null, .int i16, .int i17, .int i18, .int i19, y6, y7, .long i20, y8]] sz)) 19 11707 (va_A [kO h0 10 [y0, .int i0, .int i1, y1, .int i2, .int i3, .int i4, .int i5, .int i6, .int i7, .int i8, .int i9, .int i10, .int 0, .int 0, .int 0, .int 0, .int 0, .null, .null, .null, .null, .null, .null, .null, .null, .int i11, .null, .int 0, .int i12, y2, y3, y4, y5, .int i13, .int i14, .int i15, .null, .int i16, .int i17, .int i18, .int i19, y6, y7, .long i20, y8]] sz) := by
  refine kk_start (y := yX11_init) (maxL := 1) (av := [.ref h0]) (Qc := fun A => kk_Qv D (fun (u : (Nat → Nat) × (Nat → Nat → Int32) × (Nat → Nat → Int64) × (Nat → Int32)) => kz 0 (u.2.1 9)) (fun u => [kO h0 10 [.ref (u.1 0), .int i0, .int i1, .ref (u.1 1), .int i2, .int (-1), .int i4, .int i5, .int i6, .int i7, .int i8, .int i9, .int 0, .int 0, .int 0, .int 0, .int 0, .int 0, .ref (u.1 2), .ref (u.1 3), .ref (u.1 4), .ref (u.1 5), .ref (u.1 6), .ref (u.1 7), .ref (u.1 8), .ref (u.1 9), .int i11, .ref (u.1 10), .int 0, .int 0, .ref (u.1 11), .ref (u.1 12), .ref (u.1 13), .ref (u.1 14), .int 0, .int 0, .int 0, .ref (u.1 15), .int 0, .int i17, .int i18, .int i19, .ref (u.1 16), .ref (u.1 17), .long i20, .ref (u.1 18)], kI cI (u.1 0) 700 (fun _ => 0), kI cI (u.1 1) 50 (u.2.1 0), kI cI (u.1 11) 1200 (fun _ => 0), kI cI (u.1 12) 1200 (fun _ => 0), kI cI (u.1 13) 1200 (fun _ => 0), kI cI (u.1 14) 1200 (fun _ => 0), kI cI (u.1 16) 49 (fun _ => 0), kI cI (u.1 17) 5 (fun _ => 0), kI cI (u.1 18) 5 (fun _ => 0), kI cI (u.1 2) 10 (u.2.1 1), kI cI (u.1 3) 32 (u.2.1 2), kI cI (u.1 4) 32 (u.2.1 3), kI cI (u.1 5) 48 (u.2.1 4), kI cI (u.1 6) 48 (u.2.1 5), kI cI (u.1 7) 48 (u.2.1 6), kI cI (u.1 8) 48 (u.2.1 7), kI cI (u.1 9) 48 (u.2.1 8), kI cI (u.1 10) 5760 (u.2.1 9), kI cI (u.1 15) 24 (u.2.1 10)]) A) (by decide) (Nat.le_of_ble_eq_true rfl) ?_
  intro p e s m below meth c ls A hx hb hr hml hown hts hE hlocks hin hsz hP hD hA hS hl
  have hin : meth.name = "<init>" := hin
  have hown : s.vm.findClass RX11 = some m.cls := hown
  have hl : lv_has ls 1 [(0, .ref h0)] := hl
  refine lv_aload_n hx hb dX11_init_0 rfl (lv_at hl 0 rfl) ?_
  refine W.objInit hx hb hown (hts _ w_1253) (hts _ w_137) (hts _ w_138) rfl (by rw [hml]; exact hl.1) rfl dX11_init_1 (Nat.le_of_ble_eq_true rfl) (Nat.le_of_ble_eq_true rfl) ?_
  refine W.eq (g2 := F0 m 4 ls []) rfl ?_
  refine lv_aload_n hx hb dX11_init_4 rfl (lv_at hl 0 rfl) ?_
  refine lv_sipush (v := 700) hx hb dX11_init_5 (by decide) ?_
  refine kk_newI hx hb hts hE hP hD hS hA 700 (by decide) (by decide) (Nat.le_of_ble_eq_true rfl) (Nat.le_of_ble_eq_true rfl) (Nat.le_of_ble_eq_true rfl) dX11_init_8 (fun q_1 H hP hD hS => ?_)
  have hP : va_P D vwCl [kO h0 10 [y0, .int i0, .int i1, y1, .int i2, .int i3, .int i4, .int i5, .int i6, .int i7, .int i8, .int i9, .int i10, .int 0, .int 0, .int 0, .int 0, .int 0, .null, .null, .null, .null, .null, .null, .null, .null, .int i11, .null, .int 0, .int i12, y2, y3, y4, y5, .int i13, .int i14, .int i15, .null, .int i16, .int i17, .int i18, .int i19, y6, y7, .long i20, y8], kI cI q_1 700 (fun _ => 0)] H := hP
  have hD : va_D A [kO h0 10 [y0, .int i0, .int i1, y1, .int i2, .int i3, .int i4, .int i5, .int i6, .int i7, .int i8, .int i9, .int i10, .int 0, .int 0, .int 0, .int 0, .int 0, .null, .null, .null, .null, .null, .null, .null, .null, .int i11, .null, .int 0, .int i12, y2, y3, y4, y5, .int i13, .int i14, .int i15, .null, .int i16, .int i17, .int i18, .int i19, y6, y7, .long i20, y8], kI cI q_1 700 (fun _ => 0)] := hD
  refine va_putF (D := D) (ci := 10) (v := .ref q_1) (ty := (.array .int)) (C := RX11) (T := TX11) (N := 46) hx hb hts u_X11 tyX11 tyX11_ok nmX11 hown hE.1 hP hD hS 0 rfl rfl 0 (by decide) (hts _ w_1301) (fun _ h9 => h9) rfl hin rfl (by decide +kernel) rfl rfl (Nat.le_of_ble_eq_true rfl) dX11_init_10 (fun H locs hP hD hS => ?_)
  have hP : va_P D vwCl [kO h0 10 [.ref q_1, .int i0, .int i1, y1, .int i2, .int i3, .int i4, .int i5, .int i6, .int i7, .int i8, .int i9, .int i10, .int 0, .int 0, .int 0, .int 0, .int 0, .null, .null, .null, .null, .null, .null, .null, .null, .int i11, .null, .int 0, .int i12, y2, y3, y4, y5, .int i13, .int i14, .int i15, .null, .int i16, .int i17, .int i18, .int i19, y6, y7, .long i20, y8], kI cI q_1 700 (fun _ => 0)] H := hP
  have hD : va_D A [kO h0 10 [.ref q_1, .int i0, .int i1, y1, .int i2, .int i3, .int i4, .int i5, .int i6, .int i7, .int i8, .int i9, .int i10, .int 0, .int 0, .int 0, .int 0, .int 0, .null, .null, .null, .null, .null, .null, .null, .null, .int i11, .null, .int 0, .int i12, y2, y3, y4, y5, .int i13, .int i14, .int i15, .null, .int i16, .int i17, .int i18, .int i19, y6, y7, .long i20, y8], kI cI q_1 700 (fun _ => 0)] := hD
  refine lv_aload_n hx hb dX11_init_13 rfl (lv_at hl 0 rfl) ?_
  refine lv_bipush (v := 50) hx hb dX11_init_14 (by decide) ?_
  refine kk_newI hx hb hts hE hP hD hS hA 50 (by decide) (by decide) (Nat.le_of_ble_eq_true rfl) (Nat.le_of_ble_eq_true rfl) (Nat.le_of_ble_eq_true rfl) dX11_init_16 (fun q_2 H hP hD hS => ?_)
  have hP : va_P D vwCl [kO h0 10 [.ref q_1, .int i0, .int i1, y1, .int i2, .int i3, .int i4, .int i5, .int i6, .int i7, .int i8, .int i9, .int i10, .int 0, .int 0, .int 0, .int 0, .int 0, .null, .null, .null, .null, .null, .null, .null, .null, .int i11, .null, .int 0, .int i12, y2, y3, y4, y5, .int i13, .int i14, .int i15, .null, .int i16, .int i17, .int i18, .int i19, y6, y7, .long i20, y8], kI cI q_1 700 (fun _ => 0), kI cI q_2 50 (fun _ => 0)] H := hP
  have hD : va_D A [kO h0 10 [.ref q_1, .int i0, .int i1, y1, .int i2, .int i3, .int i4, .int i5, .int i6, .int i7, .int i8, .int i9, .int i10, .int 0, .int 0, .int 0, .int 0, .int 0, .null, .null, .null, .null, .null, .null, .null, .null, .int i11, .null, .int 0, .int i12, y2, y3, y4, y5, .int i13, .int i14, .int i15, .null, .int i16, .int i17, .int i18, .int i19, y6, y7, .long i20, y8], kI cI q_1 700 (fun _ => 0), kI cI q_2 50 (fun _ => 0)] := hD
  refine lv_dup hx hb dX11_init_18 rfl ?_
  refine lv_iconst (v := 0) hx hb dX11_init_19 (by decide) ?_
  refine lv_bipush (v := 104) hx hb dX11_init_20 (by decide) ?_
  refine va_iast hx hb hE.1 hP hD hS 2 1 rfl rfl (kk_ix _ _ (by decide)) dX11_init_22 (fun H locs hP hD hS => ?_)
  have hP : va_P D vwCl [kO h0 10 [.ref q_1, .int i0, .int i1, y1, .int i2, .int i3, .int i4, .int i5, .int i6, .int i7, .int i8, .int i9, .int i10, .int 0, .int 0, .int 0, .int 0, .int 0, .null, .null, .null, .null, .null, .null, .null, .null, .int i11, .null, .int 0, .int i12, y2, y3, y4, y5, .int i13, .int i14, .int i15, .null, .int i16, .int i17, .int i18, .int i19, y6, y7, .long i20, y8], kI cI q_1 700 (fun _ => 0), kI cI q_2 50 (upd (fun _ => 0) 0 104)] H := hP
  have hD : va_D A [kO h0 10 [.ref q_1, .int i0, .int i1, y1, .int i2, .int i3, .int i4, .int i5, .int i6, .int i7, .int i8, .int i9, .int i10, .int 0, .int 0, .int 0, .int 0, .int 0, .null, .null, .null, .null, .null, .null, .null, .null, .int i11, .null, .int 0, .int i12, y2, y3, y4, y5, .int i13, .int i14, .int i15, .null, .int i16, .int i17, .int i18, .int i19, y6, y7, .long i20, y8], kI cI q_1 700 (fun _ => 0), kI cI q_2 50 (upd (fun _ => 0) 0 104)] := hD
  refine lv_dup hx hb dX11_init_23 rfl ?_
  refine lv_iconst (v := 1) hx hb dX11_init_24 (by decide) ?_
  refine lv_bipush (v := 97) hx hb dX11_init_25 (by decide) ?_
  refine va_iast hx hb hE.1 hP hD hS 2 1 rfl rfl (kk_ix _ _ (by decide)) dX11_init_27 (fun H locs hP hD hS => ?_)
  obtain ⟨f_3, ef_3⟩ : ∃ z, z = (upd (upd (fun _ => 0) 0 104) 1 97) := ⟨_, rfl⟩
  have hP : va_P D vwCl [kO h0 10 [.ref q_1, .int i0, .int i1, y1, .int i2, .int i3, .int i4, .int i5, .int i6, .int i7, .int i8, .int i9, .int i10, .int 0, .int 0, .int 0, .int 0, .int 0, .null, .null, .null, .null, .null, .null, .null, .null, .int i11, .null, .int 0, .int i12, y2, y3, y4, y5, .int i13, .int i14, .int i15, .null, .int i16, .int i17, .int i18, .int i19, y6, y7, .long i20, y8], kI cI q_1 700 (fun _ => 0), kI cI q_2 50 f_3] H := by rw [ef_3]; exact hP
  have hD : va_D A [kO h0 10 [.ref q_1, .int i0, .int i1, y1, .int i2, .int i3, .int i4, .int i5, .int i6, .int i7, .int i8, .int i9, .int i10, .int 0, .int 0, .int 0, .int 0, .int 0, .null, .null, .null, .null, .null, .null, .null, .null, .int i11, .null, .int 0, .int i12, y2, y3, y4, y5, .int i13, .int i14, .int i15, .null, .int i16, .int i17, .int i18, .int i19, y6, y7, .long i20, y8], kI cI q_1 700 (fun _ => 0), kI cI q_2 50 f_3] := by rw [ef_3]; exact hD
  refine lv_dup hx hb dX11_init_28 rfl ?_
  refine lv_iconst (v := 2) hx hb dX11_init_29 (by decide) ?_
  refine lv_bipush (v := 110) hx hb dX11_init_30 (by decide) ?_
  refine va_iast hx hb hE.1 hP hD hS 2 1 rfl rfl (kk_ix _ _ (by decide)) dX11_init_32 (fun H locs hP hD hS => ?_)
  have hP : va_P D vwCl [kO h0 10 [.ref q_1, .int i0, .int i1, y1, .int i2, .int i3, .int i4, .int i5, .int i6, .int i7, .int i8, .int i9, .int i10, .int 0, .int 0, .int 0, .int 0, .int 0, .null, .null, .null, .null, .null, .null, .null, .null, .int i11, .null, .int 0, .int i12, y2, y3, y4, y5, .int i13, .int i14, .int i15, .null, .int i16, .int i17, .int i18, .int i19, y6, y7, .long i20, y8], kI cI q_1 700 (fun _ => 0), kI cI q_2 50 (upd f_3 2 110)] H := hP
  have hD : va_D A [kO h0 10 [.ref q_1, .int i0, .int i1, y1, .int i2, .int i3, .int i4, .int i5, .int i6, .int i7, .int i8, .int i9, .int i10, .int 0, .int 0, .int 0, .int 0, .int 0, .null, .null, .null, .null, .null, .null, .null, .null, .int i11, .null, .int 0, .int i12, y2, y3, y4, y5, .int i13, .int i14, .int i15, .null, .int i16, .int i17, .int i18, .int i19, y6, y7, .long i20, y8], kI cI q_1 700 (fun _ => 0), kI cI q_2 50 (upd f_3 2 110)] := hD
  refine lv_dup hx hb dX11_init_33 rfl ?_
  refine lv_iconst (v := 3) hx hb dX11_init_34 (by decide) ?_
  refine lv_bipush (v := 100) hx hb dX11_init_35 (by decide) ?_
  refine va_iast hx hb hE.1 hP hD hS 2 1 rfl rfl (kk_ix _ _ (by decide)) dX11_init_37 (fun H locs hP hD hS => ?_)
  have hP : va_P D vwCl [kO h0 10 [.ref q_1, .int i0, .int i1, y1, .int i2, .int i3, .int i4, .int i5, .int i6, .int i7, .int i8, .int i9, .int i10, .int 0, .int 0, .int 0, .int 0, .int 0, .null, .null, .null, .null, .null, .null, .null, .null, .int i11, .null, .int 0, .int i12, y2, y3, y4, y5, .int i13, .int i14, .int i15, .null, .int i16, .int i17, .int i18, .int i19, y6, y7, .long i20, y8], kI cI q_1 700 (fun _ => 0), kI cI q_2 50 (upd (upd f_3 2 110) 3 100)] H := hP
  have hD : va_D A [kO h0 10 [.ref q_1, .int i0, .int i1, y1, .int i2, .int i3, .int i4, .int i5, .int i6, .int i7, .int i8, .int i9, .int i10, .int 0, .int 0, .int 0, .int 0, .int 0, .null, .null, .null, .null, .null, .null, .null, .null, .int i11, .null, .int 0, .int i12, y2, y3, y4, y5, .int i13, .int i14, .int i15, .null, .int i16, .int i17, .int i18, .int i19, y6, y7, .long i20, y8], kI cI q_1 700 (fun _ => 0), kI cI q_2 50 (upd (upd f_3 2 110) 3 100)] := hD
  refine lv_dup hx hb dX11_init_38 rfl ?_
  refine lv_iconst (v := 4) hx hb dX11_init_39 (by decide) ?_
  refine lv_bipush (v := 32) hx hb dX11_init_40 (by decide) ?_
  refine va_iast hx hb hE.1 hP hD hS 2 1 rfl rfl (kk_ix _ _ (by decide)) dX11_init_42 (fun H locs hP hD hS => ?_)
  obtain ⟨f_4, ef_4⟩ : ∃ z, z = (upd (upd (upd f_3 2 110) 3 100) 4 32) := ⟨_, rfl⟩
  have hP : va_P D vwCl [kO h0 10 [.ref q_1, .int i0, .int i1, y1, .int i2, .int i3, .int i4, .int i5, .int i6, .int i7, .int i8, .int i9, .int i10, .int 0, .int 0, .int 0, .int 0, .int 0, .null, .null, .null, .null, .null, .null, .null, .null, .int i11, .null, .int 0, .int i12, y2, y3, y4, y5, .int i13, .int i14, .int i15, .null, .int i16, .int i17, .int i18, .int i19, y6, y7, .long i20, y8], kI cI q_1 700 (fun _ => 0), kI cI q_2 50 f_4] H := by rw [ef_4]; exact hP
  have hD : va_D A [kO h0 10 [.ref q_1, .int i0, .int i1, y1, .int i2, .int i3, .int i4, .int i5, .int i6, .int i7, .int i8, .int i9, .int i10, .int 0, .int 0, .int 0, .int 0, .int 0, .null, .null, .null, .null, .null, .null, .null, .null, .int i11, .null, .int 0, .int i12, y2, y3, y4, y5, .int i13, .int i14, .int i15, .null, .int i16, .int i17, .int i18, .int i19, y6, y7, .long i20, y8], kI cI q_1 700 (fun _ => 0), kI cI q_2 50 f_4] := by rw [ef_4]; exact hD
  refine lv_dup hx hb dX11_init_43 rfl ?_
  refine lv_iconst (v := 5) hx hb dX11_init_44 (by decide) ?_
  refine lv_bipush (v := 107) hx hb dX11_init_45 (by decide) ?_
  refine va_iast hx hb hE.1 hP hD hS 2 1 rfl rfl (kk_ix _ _ (by decide)) dX11_init_47 (fun H locs hP hD hS => ?_)
  have hP : va_P D vwCl [kO h0 10 [.ref q_1, .int i0, .int i1, y1, .int i2, .int i3, .int i4, .int i5, .int i6, .int i7, .int i8, .int i9, .int i10, .int 0, .int 0, .int 0, .int 0, .int 0, .null, .null, .null, .null, .null, .null, .null, .null, .int i11, .null, .int 0, .int i12, y2, y3, y4, y5, .int i13, .int i14, .int i15, .null, .int i16, .int i17, .int i18, .int i19, y6, y7, .long i20, y8], kI cI q_1 700 (fun _ => 0), kI cI q_2 50 (upd f_4 5 107)] H := hP
  have hD : va_D A [kO h0 10 [.ref q_1, .int i0, .int i1, y1, .int i2, .int i3, .int i4, .int i5, .int i6, .int i7, .int i8, .int i9, .int i10, .int 0, .int 0, .int 0, .int 0, .int 0, .null, .null, .null, .null, .null, .null, .null, .null, .int i11, .null, .int 0, .int i12, y2, y3, y4, y5, .int i13, .int i14, .int i15, .null, .int i16, .int i17, .int i18, .int i19, y6, y7, .long i20, y8], kI cI q_1 700 (fun _ => 0), kI cI q_2 50 (upd f_4 5 107)] := hD
  refine lv_dup hx hb dX11_init_48 rfl ?_
  refine lv_bipush (v := 6) hx hb dX11_init_49 (by decide) ?_
  refine lv_bipush (v := 101) hx hb dX11_init_51 (by decide) ?_
  refine va_iast hx hb hE.1 hP hD hS 2 1 rfl rfl (kk_ix _ _ (by decide)) dX11_init_53 (fun H locs hP hD hS => ?_)
  have hP : va_P D vwCl [kO h0 10 [.ref q_1, .int i0, .int i1, y1, .int i2, .int i3, .int i4, .int i5, .int i6, .int i7, .int i8, .int i9, .int i10, .int 0, .int 0, .int 0, .int 0, .int 0, .null, .null, .null, .null, .null, .null, .null, .null, .int i11, .null, .int 0, .int i12, y2, y3, y4, y5, .int i13, .int i14, .int i15, .null, .int i16, .int i17, .int i18, .int i19, y6, y7, .long i20, y8], kI cI q_1 700 (fun _ => 0), kI cI q_2 50 (upd (upd f_4 5 107) 6 101)] H := hP
  have hD : va_D A [kO h0 10 [.ref q_1, .int i0, .int i1, y1, .int i2, .int i3, .int i4, .int i5, .int i6, .int i7, .int i8, .int i9, .int i10, .int 0, .int 0, .int 0, .int 0, .int 0, .null, .null, .null, .null, .null, .null, .null, .null, .int i11, .null, .int 0, .int i12, y2, y3, y4, y5, .int i13, .int i14, .int i15, .null, .int i16, .int i17, .int i18, .int i19, y6, y7, .long i20, y8], kI cI q_1 700 (fun _ => 0), kI cI q_2 50 (upd (upd f_4 5 107) 6 101)] := hD
  refine lv_dup hx hb dX11_init_54 rfl ?_
  refine lv_bipush (v := 7) hx hb dX11_init_55 (by decide) ?_
  refine lv_bipush (v := 121) hx hb dX11_init_57 (by decide) ?_
  refine va_iast hx hb hE.1 hP hD hS 2 1 rfl rfl (kk_ix _ _ (by decide)) dX11_init_59 (fun H locs hP hD hS => ?_)
  obtain ⟨f_5, ef_5⟩ : ∃ z, z = (upd (upd (upd f_4 5 107) 6 101) 7 121) := ⟨_, rfl⟩
  have hP : va_P D vwCl [kO h0 10 [.ref q_1, .int i0, .int i1, y1, .int i2, .int i3, .int i4, .int i5, .int i6, .int i7, .int i8, .int i9, .int i10, .int 0, .int 0, .int 0, .int 0, .int 0, .null, .null, .null, .null, .null, .null, .null, .null, .int i11, .null, .int 0, .int i12, y2, y3, y4, y5, .int i13, .int i14, .int i15, .null, .int i16, .int i17, .int i18, .int i19, y6, y7, .long i20, y8], kI cI q_1 700 (fun _ => 0), kI cI q_2 50 f_5] H := by rw [ef_5]; exact hP
  have hD : va_D A [kO h0 10 [.ref q_1, .int i0, .int i1, y1, .int i2, .int i3, .int i4, .int i5, .int i6, .int i7, .int i8, .int i9, .int i10, .int 0, .int 0, .int 0, .int 0, .int 0, .null, .null, .null, .null, .null, .null, .null, .null, .int i11, .null, .int 0, .int i12, y2, y3, y4, y5, .int i13, .int i14, .int i15, .null, .int i16, .int i17, .int i18, .int i19, y6, y7, .long i20, y8], kI cI q_1 700 (fun _ => 0), kI cI q_2 50 f_5] := by rw [ef_5]; exact hD
  refine lv_dup hx hb dX11_init_60 rfl ?_
  refine lv_bipush (v := 8) hx hb dX11_init_61 (by decide) ?_
  refine lv_bipush (v := 32) hx hb dX11_init_63 (by decide) ?_
  refine va_iast hx hb hE.1 hP hD hS 2 1 rfl rfl (kk_ix _ _ (by decide)) dX11_init_65 (fun H locs hP hD hS => ?_)
  have hP : va_P D vwCl [kO h0 10 [.ref q_1, .int i0, .int i1, y1, .int i2, .int i3, .int i4, .int i5, .int i6, .int i7, .int i8, .int i9, .int i10, .int 0, .int 0, .int 0, .int 0, .int 0, .null, .null, .null, .null, .null, .null, .null, .null, .int i11, .null, .int 0, .int i12, y2, y3, y4, y5, .int i13, .int i14, .int i15, .null, .int i16, .int i17, .int i18, .int i19, y6, y7, .long i20, y8], kI cI q_1 700 (fun _ => 0), kI cI q_2 50 (upd f_5 8 32)] H := hP
  have hD : va_D A [kO h0 10 [.ref q_1, .int i0, .int i1, y1, .int i2, .int i3, .int i4, .int i5, .int i6, .int i7, .int i8, .int i9, .int i10, .int 0, .int 0, .int 0, .int 0, .int 0, .null, .null, .null, .null, .null, .null, .null, .null, .int i11, .null, .int 0, .int i12, y2, y3, y4, y5, .int i13, .int i14, .int i15, .null, .int i16, .int i17, .int i18, .int i19, y6, y7, .long i20, y8], kI cI q_1 700 (fun _ => 0), kI cI q_2 50 (upd f_5 8 32)] := hD
  refine lv_dup hx hb dX11_init_66 rfl ?_
  refine lv_bipush (v := 9) hx hb dX11_init_67 (by decide) ?_
  refine lv_bipush (v := 111) hx hb dX11_init_69 (by decide) ?_
  refine va_iast hx hb hE.1 hP hD hS 2 1 rfl rfl (kk_ix _ _ (by decide)) dX11_init_71 (fun H locs hP hD hS => ?_)
  have hP : va_P D vwCl [kO h0 10 [.ref q_1, .int i0, .int i1, y1, .int i2, .int i3, .int i4, .int i5, .int i6, .int i7, .int i8, .int i9, .int i10, .int 0, .int 0, .int 0, .int 0, .int 0, .null, .null, .null, .null, .null, .null, .null, .null, .int i11, .null, .int 0, .int i12, y2, y3, y4, y5, .int i13, .int i14, .int i15, .null, .int i16, .int i17, .int i18, .int i19, y6, y7, .long i20, y8], kI cI q_1 700 (fun _ => 0), kI cI q_2 50 (upd (upd f_5 8 32) 9 111)] H := hP
  have hD : va_D A [kO h0 10 [.ref q_1, .int i0, .int i1, y1, .int i2, .int i3, .int i4, .int i5, .int i6, .int i7, .int i8, .int i9, .int i10, .int 0, .int 0, .int 0, .int 0, .int 0, .null, .null, .null, .null, .null, .null, .null, .null, .int i11, .null, .int 0, .int i12, y2, y3, y4, y5, .int i13, .int i14, .int i15, .null, .int i16, .int i17, .int i18, .int i19, y6, y7, .long i20, y8], kI cI q_1 700 (fun _ => 0), kI cI q_2 50 (upd (upd f_5 8 32) 9 111)] := hD
  refine lv_dup hx hb dX11_init_72 rfl ?_
  refine lv_bipush (v := 10) hx hb dX11_init_73 (by decide) ?_
  refine lv_bipush (v := 112) hx hb dX11_init_75 (by decide) ?_
  refine va_iast hx hb hE.1 hP hD hS 2 1 rfl rfl (kk_ix _ _ (by decide)) dX11_init_77 (fun H locs hP hD hS => ?_)
  obtain ⟨f_6, ef_6⟩ : ∃ z, z = (upd (upd (upd f_5 8 32) 9 111) 10 112) := ⟨_, rfl⟩
  have hP : va_P D vwCl [kO h0 10 [.ref q_1, .int i0, .int i1, y1, .int i2, .int i3, .int i4, .int i5, .int i6, .int i7, .int i8, .int i9, .int i10, .int 0, .int 0, .int 0, .int 0, .int 0, .null, .null, .null, .null, .null, .null, .null, .null, .int i11, .null, .int 0, .int i12, y2, y3, y4, y5, .int i13, .int i14, .int i15, .null, .int i16, .int i17, .int i18, .int i19, y6, y7, .long i20, y8], kI cI q_1 700 (fun _ => 0), kI cI q_2 50 f_6] H := by rw [ef_6]; exact hP
  have hD : va_D A [kO h0 10 [.ref q_1, .int i0, .int i1, y1, .int i2, .int i3, .int i4, .int i5, .int i6, .int i7, .int i8, .int i9, .int i10, .int 0, .int 0, .int 0, .int 0, .int 0, .null, .null, .null, .null, .null, .null, .null, .null, .int i11, .null, .int 0, .int i12, y2, y3, y4, y5, .int i13, .int i14, .int i15, .null, .int i16, .int i17, .int i18, .int i19, y6, y7, .long i20, y8], kI cI q_1 700 (fun _ => 0), kI cI q_2 50 f_6] := by rw [ef_6]; exact hD
  refine lv_dup hx hb dX11_init_78 rfl ?_
  refine lv_bipush (v := 11) hx hb dX11_init_79 (by decide) ?_
  refine lv_bipush (v := 101) hx hb dX11_init_81 (by decide) ?_
  refine va_iast hx hb hE.1 hP hD hS 2 1 rfl rfl (kk_ix _ _ (by decide)) dX11_init_83 (fun H locs hP hD hS => ?_)
  have hP : va_P D vwCl [kO h0 10 [.ref q_1, .int i0, .int i1, y1, .int i2, .int i3, .int i4, .int i5, .int i6, .int i7, .int i8, .int i9, .int i10, .int 0, .int 0, .int 0, .int 0, .int 0, .null, .null, .null, .null, .null, .null, .null, .null, .int i11, .null, .int 0, .int i12, y2, y3, y4, y5, .int i13, .int i14, .int i15, .null, .int i16, .int i17, .int i18, .int i19, y6, y7, .long i20, y8], kI cI q_1 700 (fun _ => 0), kI cI q_2 50 (upd f_6 11 101)] H := hP
  have hD : va_D A [kO h0 10 [.ref q_1, .int i0, .int i1, y1, .int i2, .int i3, .int i4, .int i5, .int i6, .int i7, .int i8, .int i9, .int i10, .int 0, .int 0, .int 0, .int 0, .int 0, .null, .null, .null, .null, .null, .null, .null, .null, .int i11, .null, .int 0, .int i12, y2, y3, y4, y5, .int i13, .int i14, .int i15, .null, .int i16, .int i17, .int i18, .int i19, y6, y7, .long i20, y8], kI cI q_1 700 (fun _ => 0), kI cI q_2 50 (upd f_6 11 101)] := hD
  refine lv_dup hx hb dX11_init_84 rfl ?_
  refine lv_bipush (v := 12) hx hb dX11_init_85 (by decide) ?_
  refine lv_bipush (v := 110) hx hb dX11_init_87 (by decide) ?_
  refine va_iast hx hb hE.1 hP hD hS 2 1 rfl rfl (kk_ix _ _ (by decide)) dX11_init_89 (fun H locs hP hD hS => ?_)
  have hP : va_P D vwCl [kO h0 10 [.ref q_1, .int i0, .int i1, y1, .int i2, .int i3, .int i4, .int i5, .int i6, .int i7, .int i8, .int i9, .int i10, .int 0, .int 0, .int 0, .int 0, .int 0, .null, .null, .null, .null, .null, .null, .null, .null, .int i11, .null, .int 0, .int i12, y2, y3, y4, y5, .int i13, .int i14, .int i15, .null, .int i16, .int i17, .int i18, .int i19, y6, y7, .long i20, y8], kI cI q_1 700 (fun _ => 0), kI cI q_2 50 (upd (upd f_6 11 101) 12 110)] H := hP
  have hD : va_D A [kO h0 10 [.ref q_1, .int i0, .int i1, y1, .int i2, .int i3, .int i4, .int i5, .int i6, .int i7, .int i8, .int i9, .int i10, .int 0, .int 0, .int 0, .int 0, .int 0, .null, .null, .null, .null, .null, .null, .null, .null, .int i11, .null, .int 0, .int i12, y2, y3, y4, y5, .int i13, .int i14, .int i15, .null, .int i16, .int i17, .int i18, .int i19, y6, y7, .long i20, y8], kI cI q_1 700 (fun _ => 0), kI cI q_2 50 (upd (upd f_6 11 101) 12 110)] := hD
  refine lv_dup hx hb dX11_init_90 rfl ?_
  refine lv_bipush (v := 13) hx hb dX11_init_91 (by decide) ?_
  refine lv_bipush (v := 32) hx hb dX11_init_93 (by decide) ?_
  refine va_iast hx hb hE.1 hP hD hS 2 1 rfl rfl (kk_ix _ _ (by decide)) dX11_init_95 (fun H locs hP hD hS => ?_)
  obtain ⟨f_7, ef_7⟩ : ∃ z, z = (upd (upd (upd f_6 11 101) 12 110) 13 32) := ⟨_, rfl⟩
  have hP : va_P D vwCl [kO h0 10 [.ref q_1, .int i0, .int i1, y1, .int i2, .int i3, .int i4, .int i5, .int i6, .int i7, .int i8, .int i9, .int i10, .int 0, .int 0, .int 0, .int 0, .int 0, .null, .null, .null, .null, .null, .null, .null, .null, .int i11, .null, .int 0, .int i12, y2, y3, y4, y5, .int i13, .int i14, .int i15, .null, .int i16, .int i17, .int i18, .int i19, y6, y7, .long i20, y8], kI cI q_1 700 (fun _ => 0), kI cI q_2 50 f_7] H := by rw [ef_7]; exact hP
  have hD : va_D A [kO h0 10 [.ref q_1, .int i0, .int i1, y1, .int i2, .int i3, .int i4, .int i5, .int i6, .int i7, .int i8, .int i9, .int i10, .int 0, .int 0, .int 0, .int 0, .int 0, .null, .null, .null, .null, .null, .null, .null, .null, .int i11, .null, .int 0, .int i12, y2, y3, y4, y5, .int i13, .int i14, .int i15, .null, .int i16, .int i17, .int i18, .int i19, y6, y7, .long i20, y8], kI cI q_1 700 (fun _ => 0), kI cI q_2 50 f_7] := by rw [ef_7]; exact hD
  refine lv_dup hx hb dX11_init_96 rfl ?_
  refine lv_bipush (v := 14) hx hb dX11_init_97 (by decide) ?_
  refine lv_bipush (v := 115) hx hb dX11_init_99 (by decide) ?_
  refine va_iast hx hb hE.1 hP hD hS 2 1 rfl rfl (kk_ix _ _ (by decide)) dX11_init_101 (fun H locs hP hD hS => ?_)
  have hP : va_P D vwCl [kO h0 10 [.ref q_1, .int i0, .int i1, y1, .int i2, .int i3, .int i4, .int i5, .int i6, .int i7, .int i8, .int i9, .int i10, .int 0, .int 0, .int 0, .int 0, .int 0, .null, .null, .null, .null, .null, .null, .null, .null, .int i11, .null, .int 0, .int i12, y2, y3, y4, y5, .int i13, .int i14, .int i15, .null, .int i16, .int i17, .int i18, .int i19, y6, y7, .long i20, y8], kI cI q_1 700 (fun _ => 0), kI cI q_2 50 (upd f_7 14 115)] H := hP
  have hD : va_D A [kO h0 10 [.ref q_1, .int i0, .int i1, y1, .int i2, .int i3, .int i4, .int i5, .int i6, .int i7, .int i8, .int i9, .int i10, .int 0, .int 0, .int 0, .int 0, .int 0, .null, .null, .null, .null, .null, .null, .null, .null, .int i11, .null, .int 0, .int i12, y2, y3, y4, y5, .int i13, .int i14, .int i15, .null, .int i16, .int i17, .int i18, .int i19, y6, y7, .long i20, y8], kI cI q_1 700 (fun _ => 0), kI cI q_2 50 (upd f_7 14 115)] := hD
  refine lv_dup hx hb dX11_init_102 rfl ?_
  refine lv_bipush (v := 15) hx hb dX11_init_103 (by decide) ?_
  refine lv_bipush (v := 99) hx hb dX11_init_105 (by decide) ?_
  refine va_iast hx hb hE.1 hP hD hS 2 1 rfl rfl (kk_ix _ _ (by decide)) dX11_init_107 (fun H locs hP hD hS => ?_)
  have hP : va_P D vwCl [kO h0 10 [.ref q_1, .int i0, .int i1, y1, .int i2, .int i3, .int i4, .int i5, .int i6, .int i7, .int i8, .int i9, .int i10, .int 0, .int 0, .int 0, .int 0, .int 0, .null, .null, .null, .null, .null, .null, .null, .null, .int i11, .null, .int 0, .int i12, y2, y3, y4, y5, .int i13, .int i14, .int i15, .null, .int i16, .int i17, .int i18, .int i19, y6, y7, .long i20, y8], kI cI q_1 700 (fun _ => 0), kI cI q_2 50 (upd (upd f_7 14 115) 15 99)] H := hP
  have hD : va_D A [kO h0 10 [.ref q_1, .int i0, .int i1, y1, .int i2, .int i3, .int i4, .int i5, .int i6, .int i7, .int i8, .int i9, .int i10, .int 0, .int 0, .int 0, .int 0, .int 0, .null, .null, .null, .null, .null, .null, .null, .null, .int i11, .null, .int 0, .int i12, y2, y3, y4, y5, .int i13, .int i14, .int i15, .null, .int i16, .int i17, .int i18, .int i19, y6, y7, .long i20, y8], kI cI q_1 700 (fun _ => 0), kI cI q_2 50 (upd (upd f_7 14 115) 15 99)] := hD
  refine lv_dup hx hb dX11_init_108 rfl ?_
  refine lv_bipush (v := 16) hx hb dX11_init_109 (by decide) ?_
  refine lv_bipush (v := 97) hx hb dX11_init_111 (by decide) ?_
  refine va_iast hx hb hE.1 hP hD hS 2 1 rfl rfl (kk_ix _ _ (by decide)) dX11_init_113 (fun H locs hP hD hS => ?_)
  obtain ⟨f_8, ef_8⟩ : ∃ z, z = (upd (upd (upd f_7 14 115) 15 99) 16 97) := ⟨_, rfl⟩
  have hP : va_P D vwCl [kO h0 10 [.ref q_1, .int i0, .int i1, y1, .int i2, .int i3, .int i4, .int i5, .int i6, .int i7, .int i8, .int i9, .int i10, .int 0, .int 0, .int 0, .int 0, .int 0, .null, .null, .null, .null, .null, .null, .null, .null, .int i11, .null, .int 0, .int i12, y2, y3, y4, y5, .int i13, .int i14, .int i15, .null, .int i16, .int i17, .int i18, .int i19, y6, y7, .long i20, y8], kI cI q_1 700 (fun _ => 0), kI cI q_2 50 f_8] H := by rw [ef_8]; exact hP
  have hD : va_D A [kO h0 10 [.ref q_1, .int i0, .int i1, y1, .int i2, .int i3, .int i4, .int i5, .int i6, .int i7, .int i8, .int i9, .int i10, .int 0, .int 0, .int 0, .int 0, .int 0, .null, .null, .null, .null, .null, .null, .null, .null, .int i11, .null, .int 0, .int i12, y2, y3, y4, y5, .int i13, .int i14, .int i15, .null, .int i16, .int i17, .int i18, .int i19, y6, y7, .long i20, y8], kI cI q_1 700 (fun _ => 0), kI cI q_2 50 f_8] := by rw [ef_8]; exact hD
  refine lv_dup hx hb dX11_init_114 rfl ?_
  refine lv_bipush (v := 17) hx hb dX11_init_115 (by decide) ?_
  refine lv_bipush (v := 110) hx hb dX11_init_117 (by decide) ?_
  refine va_iast hx hb hE.1 hP hD hS 2 1 rfl rfl (kk_ix _ _ (by decide)) dX11_init_119 (fun H locs hP hD hS => ?_)
  have hP : va_P D vwCl [kO h0 10 [.ref q_1, .int i0, .int i1, y1, .int i2, .int i3, .int i4, .int i5, .int i6, .int i7, .int i8, .int i9, .int i10, .int 0, .int 0, .int 0, .int 0, .int 0, .null, .null, .null, .null, .null, .null, .null, .null, .int i11, .null, .int 0, .int i12, y2, y3, y4, y5, .int i13, .int i14, .int i15, .null, .int i16, .int i17, .int i18, .int i19, y6, y7, .long i20, y8], kI cI q_1 700 (fun _ => 0), kI cI q_2 50 (upd f_8 17 110)] H := hP
  have hD : va_D A [kO h0 10 [.ref q_1, .int i0, .int i1, y1, .int i2, .int i3, .int i4, .int i5, .int i6, .int i7, .int i8, .int i9, .int i10, .int 0, .int 0, .int 0, .int 0, .int 0, .null, .null, .null, .null, .null, .null, .null, .null, .int i11, .null, .int 0, .int i12, y2, y3, y4, y5, .int i13, .int i14, .int i15, .null, .int i16, .int i17, .int i18, .int i19, y6, y7, .long i20, y8], kI cI q_1 700 (fun _ => 0), kI cI q_2 50 (upd f_8 17 110)] := hD
  refine lv_dup hx hb dX11_init_120 rfl ?_
  refine lv_bipush (v := 18) hx hb dX11_init_121 (by decide) ?_
  refine lv_bipush (v := 32) hx hb dX11_init_123 (by decide) ?_
  refine va_iast hx hb hE.1 hP hD hS 2 1 rfl rfl (kk_ix _ _ (by decide)) dX11_init_125 (fun H locs hP hD hS => ?_)
  have hP : va_P D vwCl [kO h0 10 [.ref q_1, .int i0, .int i1, y1, .int i2, .int i3, .int i4, .int i5, .int i6, .int i7, .int i8, .int i9, .int i10, .int 0, .int 0, .int 0, .int 0, .int 0, .null, .null, .null, .null, .null, .null, .null, .null, .int i11, .null, .int 0, .int i12, y2, y3, y4, y5, .int i13, .int i14, .int i15, .null, .int i16, .int i17, .int i18, .int i19, y6, y7, .long i20, y8], kI cI q_1 700 (fun _ => 0), kI cI q_2 50 (upd (upd f_8 17 110) 18 32)] H := hP
  have hD : va_D A [kO h0 10 [.ref q_1, .int i0, .int i1, y1, .int i2, .int i3, .int i4, .int i5, .int i6, .int i7, .int i8, .int i9, .int i10, .int 0, .int 0, .int 0, .int 0, .int 0, .null, .null, .null, .null, .null, .null, .null, .null, .int i11, .null, .int 0, .int i12, y2, y3, y4, y5, .int i13, .int i14, .int i15, .null, .int i16, .int i17, .int i18, .int i19, y6, y7, .long i20, y8], kI cI q_1 700 (fun _ => 0), kI cI q_2 50 (upd (upd f_8 17 110) 18 32)] := hD
  refine lv_dup hx hb dX11_init_126 rfl ?_
  refine lv_bipush (v := 19) hx hb dX11_init_127 (by decide) ?_
  refine lv_bipush (v := 115) hx hb dX11_init_129 (by decide) ?_
  refine va_iast hx hb hE.1 hP hD hS 2 1 rfl rfl (kk_ix _ _ (by decide)) dX11_init_131 (fun H locs hP hD hS => ?_)
  obtain ⟨f_9, ef_9⟩ : ∃ z, z = (upd (upd (upd f_8 17 110) 18 32) 19 115) := ⟨_, rfl⟩
  have hP : va_P D vwCl [kO h0 10 [.ref q_1, .int i0, .int i1, y1, .int i2, .int i3, .int i4, .int i5, .int i6, .int i7, .int i8, .int i9, .int i10, .int 0, .int 0, .int 0, .int 0, .int 0, .null, .null, .null, .null, .null, .null, .null, .null, .int i11, .null, .int 0, .int i12, y2, y3, y4, y5, .int i13, .int i14, .int i15, .null, .int i16, .int i17, .int i18, .int i19, y6, y7, .long i20, y8], kI cI q_1 700 (fun _ => 0), kI cI q_2 50 f_9] H := by rw [ef_9]; exact hP
  have hD : va_D A [kO h0 10 [.ref q_1, .int i0, .int i1, y1, .int i2, .int i3, .int i4, .int i5, .int i6, .int i7, .int i8, .int i9, .int i10, .int 0, .int 0, .int 0, .int 0, .int 0, .null, .null, .null, .null, .null, .null, .null, .null, .int i11, .null, .int 0, .int i12, y2, y3, y4, y5, .int i13, .int i14, .int i15, .null, .int i16, .int i17, .int i18, .int i19, y6, y7, .long i20, y8], kI cI q_1 700 (fun _ => 0), kI cI q_2 50 f_9] := by rw [ef_9]; exact hD
  refine lv_dup hx hb dX11_init_132 rfl ?_
  refine lv_bipush (v := 20) hx hb dX11_init_133 (by decide) ?_
  refine lv_bipush (v := 101) hx hb dX11_init_135 (by decide) ?_
  refine va_iast hx hb hE.1 hP hD hS 2 1 rfl rfl (kk_ix _ _ (by decide)) dX11_init_137 (fun H locs hP hD hS => ?_)
  have hP : va_P D vwCl [kO h0 10 [.ref q_1, .int i0, .int i1, y1, .int i2, .int i3, .int i4, .int i5, .int i6, .int i7, .int i8, .int i9, .int i10, .int 0, .int 0, .int 0, .int 0, .int 0, .null, .null, .null, .null, .null, .null, .null, .null, .int i11, .null, .int 0, .int i12, y2, y3, y4, y5, .int i13, .int i14, .int i15, .null, .int i16, .int i17, .int i18, .int i19, y6, y7, .long i20, y8], kI cI q_1 700 (fun _ => 0), kI cI q_2 50 (upd f_9 20 101)] H := hP
  have hD : va_D A [kO h0 10 [.ref q_1, .int i0, .int i1, y1, .int i2, .int i3, .int i4, .int i5, .int i6, .int i7, .int i8, .int i9, .int i10, .int 0, .int 0, .int 0, .int 0, .int 0, .null, .null, .null, .null, .null, .null, .null, .null, .int i11, .null, .int 0, .int i12, y2, y3, y4, y5, .int i13, .int i14, .int i15, .null, .int i16, .int i17, .int i18, .int i19, y6, y7, .long i20, y8], kI cI q_1 700 (fun _ => 0), kI cI q_2 50 (upd f_9 20 101)] := hD
  refine lv_dup hx hb dX11_init_138 rfl ?_
  refine lv_bipush (v := 21) hx hb dX11_init_139 (by decide) ?_
  refine lv_bipush (v := 101) hx hb dX11_init_141 (by decide) ?_
  refine va_iast hx hb hE.1 hP hD hS 2 1 rfl rfl (kk_ix _ _ (by decide)) dX11_init_143 (fun H locs hP hD hS => ?_)
  have hP : va_P D vwCl [kO h0 10 [.ref q_1, .int i0, .int i1, y1, .int i2, .int i3, .int i4, .int i5, .int i6, .int i7, .int i8, .int i9, .int i10, .int 0, .int 0, .int 0, .int 0, .int 0, .null, .null, .null, .null, .null, .null, .null, .null, .int i11, .null, .int 0, .int i12, y2, y3, y4, y5, .int i13, .int i14, .int i15, .null, .int i16, .int i17, .int i18, .int i19, y6, y7, .long i20, y8], kI cI q_1 700 (fun _ => 0), kI cI q_2 50 (upd (upd f_9 20 101) 21 101)] H := hP
  have hD : va_D A [kO h0 10 [.ref q_1, .int i0, .int i1, y1, .int i2, .int i3, .int i4, .int i5, .int i6, .int i7, .int i8, .int i9, .int i10, .int 0, .int 0, .int 0, .int 0, .int 0, .null, .null, .null, .null, .null, .null, .null, .null, .int i11, .null, .int 0, .int i12, y2, y3, y4, y5, .int i13, .int i14, .int i15, .null, .int i16, .int i17, .int i18, .int i19, y6, y7, .long i20, y8], kI cI q_1 700 (fun _ => 0), kI cI q_2 50 (upd (upd f_9 20 101) 21 101)] := hD
  refine lv_dup hx hb dX11_init_144 rfl ?_
  refine lv_bipush (v := 22) hx hb dX11_init_145 (by decide) ?_
  refine lv_bipush (v := 107) hx hb dX11_init_147 (by decide) ?_
  refine va_iast hx hb hE.1 hP hD hS 2 1 rfl rfl (kk_ix _ _ (by decide)) dX11_init_149 (fun H locs hP hD hS => ?_)
  obtain ⟨f_10, ef_10⟩ : ∃ z, z = (upd (upd (upd f_9 20 101) 21 101) 22 107) := ⟨_, rfl⟩
  have hP : va_P D vwCl [kO h0 10 [.ref q_1, .int i0, .int i1, y1, .int i2, .int i3, .int i4, .int i5, .int i6, .int i7, .int i8, .int i9, .int i10, .int 0, .int 0, .int 0, .int 0, .int 0, .null, .null, .null, .null, .null, .null, .null, .null, .int i11, .null, .int 0, .int i12, y2, y3, y4, y5, .int i13, .int i14, .int i15, .null, .int i16, .int i17, .int i18, .int i19, y6, y7, .long i20, y8], kI cI q_1 700 (fun _ => 0), kI cI q_2 50 f_10] H := by rw [ef_10]; exact hP
  have hD : va_D A [kO h0 10 [.ref q_1, .int i0, .int i1, y1, .int i2, .int i3, .int i4, .int i5, .int i6, .int i7, .int i8, .int i9, .int i10, .int 0, .int 0, .int 0, .int 0, .int 0, .null, .null, .null, .null, .null, .null, .null, .null, .int i11, .null, .int 0, .int i12, y2, y3, y4, y5, .int i13, .int i14, .int i15, .null, .int i16, .int i17, .int i18, .int i19, y6, y7, .long i20, y8], kI cI q_1 700 (fun _ => 0), kI cI q_2 50 f_10] := by rw [ef_10]; exact hD
  refine lv_dup hx hb dX11_init_150 rfl ?_
  refine lv_bipush (v := 23) hx hb dX11_init_151 (by decide) ?_
  refine lv_bipush (v := 32) hx hb dX11_init_153 (by decide) ?_
  refine va_iast hx hb hE.1 hP hD hS 2 1 rfl rfl (kk_ix _ _ (by decide)) dX11_init_155 (fun H locs hP hD hS => ?_)
  have hP : va_P D vwCl [kO h0 10 [.ref q_1, .int i0, .int i1, y1, .int i2, .int i3, .int i4, .int i5, .int i6, .int i7, .int i8, .int i9, .int i10, .int 0, .int 0, .int 0, .int 0, .int 0, .null, .null, .null, .null, .null, .null, .null, .null, .int i11, .null, .int 0, .int i12, y2, y3, y4, y5, .int i13, .int i14, .int i15, .null, .int i16, .int i17, .int i18, .int i19, y6, y7, .long i20, y8], kI cI q_1 700 (fun _ => 0), kI cI q_2 50 (upd f_10 23 32)] H := hP
  have hD : va_D A [kO h0 10 [.ref q_1, .int i0, .int i1, y1, .int i2, .int i3, .int i4, .int i5, .int i6, .int i7, .int i8, .int i9, .int i10, .int 0, .int 0, .int 0, .int 0, .int 0, .null, .null, .null, .null, .null, .null, .null, .null, .int i11, .null, .int 0, .int i12, y2, y3, y4, y5, .int i13, .int i14, .int i15, .null, .int i16, .int i17, .int i18, .int i19, y6, y7, .long i20, y8], kI cI q_1 700 (fun _ => 0), kI cI q_2 50 (upd f_10 23 32)] := hD
  refine lv_dup hx hb dX11_init_156 rfl ?_
  refine lv_bipush (v := 24) hx hb dX11_init_157 (by decide) ?_
  refine lv_bipush (v := 103) hx hb dX11_init_159 (by decide) ?_
  refine va_iast hx hb hE.1 hP hD hS 2 1 rfl rfl (kk_ix _ _ (by decide)) dX11_init_161 (fun H locs hP hD hS => ?_)
  have hP : va_P D vwCl [kO h0 10 [.ref q_1, .int i0, .int i1, y1, .int i2, .int i3, .int i4, .int i5, .int i6, .int i7, .int i8, .int i9, .int i10, .int 0, .int 0, .int 0, .int 0, .int 0, .null, .null, .null, .null, .null, .null, .null, .null, .int i11, .null, .int 0, .int i12, y2, y3, y4, y5, .int i13, .int i14, .int i15, .null, .int i16, .int i17, .int i18, .int i19, y6, y7, .long i20, y8], kI cI q_1 700 (fun _ => 0), kI cI q_2 50 (upd (upd f_10 23 32) 24 103)] H := hP
  have hD : va_D A [kO h0 10 [.ref q_1, .int i0, .int i1, y1, .int i2, .int i3, .int i4, .int i5, .int i6, .int i7, .int i8, .int i9, .int i10, .int 0, .int 0, .int 0, .int 0, .int 0, .null, .null, .null, .null, .null, .null, .null, .null, .int i11, .null, .int 0, .int i12, y2, y3, y4, y5, .int i13, .int i14, .int i15, .null, .int i16, .int i17, .int i18, .int i19, y6, y7, .long i20, y8], kI cI q_1 700 (fun _ => 0), kI cI q_2 50 (upd (upd f_10 23 32) 24 103)] := hD
  refine lv_dup hx hb dX11_init_162 rfl ?_
  refine lv_bipush (v := 25) hx hb dX11_init_163 (by decide) ?_
  refine lv_bipush (v := 114) hx hb dX11_init_165 (by decide) ?_
  refine va_iast hx hb hE.1 hP hD hS 2 1 rfl rfl (kk_ix _ _ (by decide)) dX11_init_167 (fun H locs hP hD hS => ?_)
  obtain ⟨f_11, ef_11⟩ : ∃ z, z = (upd (upd (upd f_10 23 32) 24 103) 25 114) := ⟨_, rfl⟩
  have hP : va_P D vwCl [kO h0 10 [.ref q_1, .int i0, .int i1, y1, .int i2, .int i3, .int i4, .int i5, .int i6, .int i7, .int i8, .int i9, .int i10, .int 0, .int 0, .int 0, .int 0, .int 0, .null, .null, .null, .null, .null, .null, .null, .null, .int i11, .null, .int 0, .int i12, y2, y3, y4, y5, .int i13, .int i14, .int i15, .null, .int i16, .int i17, .int i18, .int i19, y6, y7, .long i20, y8], kI cI q_1 700 (fun _ => 0), kI cI q_2 50 f_11] H := by rw [ef_11]; exact hP
  have hD : va_D A [kO h0 10 [.ref q_1, .int i0, .int i1, y1, .int i2, .int i3, .int i4, .int i5, .int i6, .int i7, .int i8, .int i9, .int i10, .int 0, .int 0, .int 0, .int 0, .int 0, .null, .null, .null, .null, .null, .null, .null, .null, .int i11, .null, .int 0, .int i12, y2, y3, y4, y5, .int i13, .int i14, .int i15, .null, .int i16, .int i17, .int i18, .int i19, y6, y7, .long i20, y8], kI cI q_1 700 (fun _ => 0), kI cI q_2 50 f_11] := by rw [ef_11]; exact hD
  refine lv_dup hx hb dX11_init_168 rfl ?_
  refine lv_bipush (v := 26) hx hb dX11_init_169 (by decide) ?_
  refine lv_bipush (v := 97) hx hb dX11_init_171 (by decide) ?_
  refine va_iast hx hb hE.1 hP hD hS 2 1 rfl rfl (kk_ix _ _ (by decide)) dX11_init_173 (fun H locs hP hD hS => ?_)
  have hP : va_P D vwCl [kO h0 10 [.ref q_1, .int i0, .int i1, y1, .int i2, .int i3, .int i4, .int i5, .int i6, .int i7, .int i8, .int i9, .int i10, .int 0, .int 0, .int 0, .int 0, .int 0, .null, .null, .null, .null, .null, .null, .null, .null, .int i11, .null, .int 0, .int i12, y2, y3, y4, y5, .int i13, .int i14, .int i15, .null, .int i16, .int i17, .int i18, .int i19, y6, y7, .long i20, y8], kI cI q_1 700 (fun _ => 0), kI cI q_2 50 (upd f_11 26 97)] H := hP
  have hD : va_D A [kO h0 10 [.ref q_1, .int i0, .int i1, y1, .int i2, .int i3, .int i4, .int i5, .int i6, .int i7, .int i8, .int i9, .int i10, .int 0, .int 0, .int 0, .int 0, .int 0, .null, .null, .null, .null, .null, .null, .null, .null, .int i11, .null, .int 0, .int i12, y2, y3, y4, y5, .int i13, .int i14, .int i15, .null, .int i16, .int i17, .int i18, .int i19, y6, y7, .long i20, y8], kI cI q_1 700 (fun _ => 0), kI cI q_2 50 (upd f_11 26 97)] := hD
  refine lv_dup hx hb dX11_init_174 rfl ?_
  refine lv_bipush (v := 27) hx hb dX11_init_175 (by decide) ?_
  refine lv_bipush (v := 98) hx hb dX11_init_177 (by decide) ?_
  refine va_iast hx hb hE.1 hP hD hS 2 1 rfl rfl (kk_ix _ _ (by decide)) dX11_init_179 (fun H locs hP hD hS => ?_)
  have hP : va_P D vwCl [kO h0 10 [.ref q_1, .int i0, .int i1, y1, .int i2, .int i3, .int i4, .int i5, .int i6, .int i7, .int i8, .int i9, .int i10, .int 0, .int 0, .int 0, .int 0, .int 0, .null, .null, .null, .null, .null, .null, .null, .null, .int i11, .null, .int 0, .int i12, y2, y3, y4, y5, .int i13, .int i14, .int i15, .null, .int i16, .int i17, .int i18, .int i19, y6, y7, .long i20, y8], kI cI q_1 700 (fun _ => 0), kI cI q_2 50 (upd (upd f_11 26 97) 27 98)] H := hP
  have hD : va_D A [kO h0 10 [.ref q_1, .int i0, .int i1, y1, .int i2, .int i3, .int i4, .int i5, .int i6, .int i7, .int i8, .int i9, .int i10, .int 0, .int 0, .int 0, .int 0, .int 0, .null, .null, .null, .null, .null, .null, .null, .null, .int i11, .null, .int 0, .int i12, y2, y3, y4, y5, .int i13, .int i14, .int i15, .null, .int i16, .int i17, .int i18, .int i19, y6, y7, .long i20, y8], kI cI q_1 700 (fun _ => 0), kI cI q_2 50 (upd (upd f_11 26 97) 27 98)] := hD
  refine lv_dup hx hb dX11_init_180 rfl ?_
  refine lv_bipush (v := 28) hx hb dX11_init_181 (by decide) ?_
  refine lv_bipush (v := 32) hx hb dX11_init_183 (by decide) ?_
  refine va_iast hx hb hE.1 hP hD hS 2 1 rfl rfl (kk_ix _ _ (by decide)) dX11_init_185 (fun H locs hP hD hS => ?_)
  obtain ⟨f_12, ef_12⟩ : ∃ z, z = (upd (upd (upd f_11 26 97) 27 98) 28 32) := ⟨_, rfl⟩
  have hP : va_P D vwCl [kO h0 10 [.ref q_1, .int i0, .int i1, y1, .int i2, .int i3, .int i4, .int i5, .int i6, .int i7, .int i8, .int i9, .int i10, .int 0, .int 0, .int 0, .int 0, .int 0, .null, .null, .null, .null, .null, .null, .null, .null, .int i11, .null, .int 0, .int i12, y2, y3, y4, y5, .int i13, .int i14, .int i15, .null, .int i16, .int i17, .int i18, .int i19, y6, y7, .long i20, y8], kI cI q_1 700 (fun _ => 0), kI cI q_2 50 f_12] H := by rw [ef_12]; exact hP
  have hD : va_D A [kO h0 10 [.ref q_1, .int i0, .int i1, y1, .int i2, .int i3, .int i4, .int i5, .int i6, .int i7, .int i8, .int i9, .int i10, .int 0, .int 0, .int 0, .int 0, .int 0, .null, .null, .null, .null, .null, .null, .null, .null, .int i11, .null, .int 0, .int i12, y2, y3, y4, y5, .int i13, .int i14, .int i15, .null, .int i16, .int i17, .int i18, .int i19, y6, y7, .long i20, y8], kI cI q_1 700 (fun _ => 0), kI cI q_2 50 f_12] := by rw [ef_12]; exact hD
  refine lv_dup hx hb dX11_init_186 rfl ?_
  refine lv_bipush (v := 29) hx hb dX11_init_187 (by decide) ?_
  refine lv_bipush (v := 115) hx hb dX11_init_189 (by decide) ?_
  refine va_iast hx hb hE.1 hP hD hS 2 1 rfl rfl (kk_ix _ _ (by decide)) dX11_init_191 (fun H locs hP hD hS => ?_)
  have hP : va_P D vwCl [kO h0 10 [.ref q_1, .int i0, .int i1, y1, .int i2, .int i3, .int i4, .int i5, .int i6, .int i7, .int i8, .int i9, .int i10, .int 0, .int 0, .int 0, .int 0, .int 0, .null, .null, .null, .null, .null, .null, .null, .null, .int i11, .null, .int 0, .int i12, y2, y3, y4, y5, .int i13, .int i14, .int i15, .null, .int i16, .int i17, .int i18, .int i19, y6, y7, .long i20, y8], kI cI q_1 700 (fun _ => 0), kI cI q_2 50 (upd f_12 29 115)] H := hP
  have hD : va_D A [kO h0 10 [.ref q_1, .int i0, .int i1, y1, .int i2, .int i3, .int i4, .int i5, .int i6, .int i7, .int i8, .int i9, .int i10, .int 0, .int 0, .int 0, .int 0, .int 0, .null, .null, .null, .null, .null, .null, .null, .null, .int i11, .null, .int 0, .int i12, y2, y3, y4, y5, .int i13, .int i14, .int i15, .null, .int i16, .int i17, .int i18, .int i19, y6, y7, .long i20, y8], kI cI q_1 700 (fun _ => 0), kI cI q_2 50 (upd f_12 29 115)] := hD
  refine lv_dup hx hb dX11_init_192 rfl ?_
  refine lv_bipush (v := 30) hx hb dX11_init_193 (by decide) ?_
  refine lv_bipush (v := 101) hx hb dX11_init_195 (by decide) ?_
  refine va_iast hx hb hE.1 hP hD hS 2 1 rfl rfl (kk_ix _ _ (by decide)) dX11_init_197 (fun H locs hP hD hS => ?_)
  have hP : va_P D vwCl [kO h0 10 [.ref q_1, .int i0, .int i1, y1, .int i2, .int i3, .int i4, .int i5, .int i6, .int i7, .int i8, .int i9, .int i10, .int 0, .int 0, .int 0, .int 0, .int 0, .null, .null, .null, .null, .null, .null, .null, .null, .int i11, .null, .int 0, .int i12, y2, y3, y4, y5, .int i13, .int i14, .int i15, .null, .int i16, .int i17, .int i18, .int i19, y6, y7, .long i20, y8], kI cI q_1 700 (fun _ => 0), kI cI q_2 50 (upd (upd f_12 29 115) 30 101)] H := hP
  have hD : va_D A [kO h0 10 [.ref q_1, .int i0, .int i1, y1, .int i2, .int i3, .int i4, .int i5, .int i6, .int i7, .int i8, .int i9, .int i10, .int 0, .int 0, .int 0, .int 0, .int 0, .null, .null, .null, .null, .null, .null, .null, .null, .int i11, .null, .int 0, .int i12, y2, y3, y4, y5, .int i13, .int i14, .int i15, .null, .int i16, .int i17, .int i18, .int i19, y6, y7, .long i20, y8], kI cI q_1 700 (fun _ => 0), kI cI q_2 50 (upd (upd f_12 29 115) 30 101)] := hD
  refine lv_dup hx hb dX11_init_198 rfl ?_
  refine lv_bipush (v := 31) hx hb dX11_init_199 (by decide) ?_
  refine lv_bipush (v := 116) hx hb dX11_init_201 (by decide) ?_
  refine va_iast hx hb hE.1 hP hD hS 2 1 rfl rfl (kk_ix _ _ (by decide)) dX11_init_203 (fun H locs hP hD hS => ?_)
  obtain ⟨f_13, ef_13⟩ : ∃ z, z = (upd (upd (upd f_12 29 115) 30 101) 31 116) := ⟨_, rfl⟩
  have hP : va_P D vwCl [kO h0 10 [.ref q_1, .int i0, .int i1, y1, .int i2, .int i3, .int i4, .int i5, .int i6, .int i7, .int i8, .int i9, .int i10, .int 0, .int 0, .int 0, .int 0, .int 0, .null, .null, .null, .null, .null, .null, .null, .null, .int i11, .null, .int 0, .int i12, y2, y3, y4, y5, .int i13, .int i14, .int i15, .null, .int i16, .int i17, .int i18, .int i19, y6, y7, .long i20, y8], kI cI q_1 700 (fun _ => 0), kI cI q_2 50 f_13] H := by rw [ef_13]; exact hP
  have hD : va_D A [kO h0 10 [.ref q_1, .int i0, .int i1, y1, .int i2, .int i3, .int i4, .int i5, .int i6, .int i7, .int i8, .int i9, .int i10, .int 0, .int 0, .int 0, .int 0, .int 0, .null, .null, .null, .null, .null, .null, .null, .null, .int i11, .null, .int 0, .int i12, y2, y3, y4, y5, .int i13, .int i14, .int i15, .null, .int i16, .int i17, .int i18, .int i19, y6, y7, .long i20, y8], kI cI q_1 700 (fun _ => 0), kI cI q_2 50 f_13] := by rw [ef_13]; exact hD
  refine lv_dup hx hb dX11_init_204 rfl ?_
  refine lv_bipush (v := 32) hx hb dX11_init_205 (by decide) ?_
  refine lv_bipush (v := 32) hx hb dX11_init_207 (by decide) ?_
  refine va_iast hx hb hE.1 hP hD hS 2 1 rfl rfl (kk_ix _ _ (by decide)) dX11_init_209 (fun H locs hP hD hS => ?_)
  have hP : va_P D vwCl [kO h0 10 [.ref q_1, .int i0, .int i1, y1, .int i2, .int i3, .int i4, .int i5, .int i6, .int i7, .int i8, .int i9, .int i10, .int 0, .int 0, .int 0, .int 0, .int 0, .null, .null, .null, .null, .null, .null, .null, .null, .int i11, .null, .int 0, .int i12, y2, y3, y4, y5, .int i13, .int i14, .int i15, .null, .int i16, .int i17, .int i18, .int i19, y6, y7, .long i20, y8], kI cI q_1 700 (fun _ => 0), kI cI q_2 50 (upd f_13 32 32)] H := hP
  have hD : va_D A [kO h0 10 [.ref q_1, .int i0, .int i1, y1, .int i2, .int i3, .int i4, .int i5, .int i6, .int i7, .int i8, .int i9, .int i10, .int 0, .int 0, .int 0, .int 0, .int 0, .null, .null, .null, .null, .null, .null, .null, .null, .int i11, .null, .int 0, .int i12, y2, y3, y4, y5, .int i13, .int i14, .int i15, .null, .int i16, .int i17, .int i18, .int i19, y6, y7, .long i20, y8], kI cI q_1 700 (fun _ => 0), kI cI q_2 50 (upd f_13 32 32)] := hD
  refine lv_dup hx hb dX11_init_210 rfl ?_
  refine lv_bipush (v := 33) hx hb dX11_init_211 (by decide) ?_
  refine lv_bipush (v := 112) hx hb dX11_init_213 (by decide) ?_
  refine va_iast hx hb hE.1 hP hD hS 2 1 rfl rfl (kk_ix _ _ (by decide)) dX11_init_215 (fun H locs hP hD hS => ?_)
  have hP : va_P D vwCl [kO h0 10 [.ref q_1, .int i0, .int i1, y1, .int i2, .int i3, .int i4, .int i5, .int i6, .int i7, .int i8, .int i9, .int i10, .int 0, .int 0, .int 0, .int 0, .int 0, .null, .null, .null, .null, .null, .null, .null, .null, .int i11, .null, .int 0, .int i12, y2, y3, y4, y5, .int i13, .int i14, .int i15, .null, .int i16, .int i17, .int i18, .int i19, y6, y7, .long i20, y8], kI cI q_1 700 (fun _ => 0), kI cI q_2 50 (upd (upd f_13 32 32) 33 112)] H := hP
  have hD : va_D A [kO h0 10 [.ref q_1, .int i0, .int i1, y1, .int i2, .int i3, .int i4, .int i5, .int i6, .int i7, .int i8, .int i9, .int i10, .int 0, .int 0, .int 0, .int 0, .int 0, .null, .null, .null, .null, .null, .null, .null, .null, .int i11, .null, .int 0, .int i12, y2, y3, y4, y5, .int i13, .int i14, .int i15, .null, .int i16, .int i17, .int i18, .int i19, y6, y7, .long i20, y8], kI cI q_1 700 (fun _ => 0), kI cI q_2 50 (upd (upd f_13 32 32) 33 112)] := hD
  refine lv_dup hx hb dX11_init_216 rfl ?_
  refine lv_bipush (v := 34) hx hb dX11_init_217 (by decide) ?_
  refine lv_bipush (v := 117) hx hb dX11_init_219 (by decide) ?_
  refine va_iast hx hb hE.1 hP hD hS 2 1 rfl rfl (kk_ix _ _ (by decide)) dX11_init_221 (fun H locs hP hD hS => ?_)
  obtain ⟨f_14, ef_14⟩ : ∃ z, z = (upd (upd (upd f_13 32 32) 33 112) 34 117) := ⟨_, rfl⟩
  have hP : va_P D vwCl [kO h0 10 [.ref q_1, .int i0, .int i1, y1, .int i2, .int i3, .int i4, .int i5, .int i6, .int i7, .int i8, .int i9, .int i10, .int 0, .int 0, .int 0, .int 0, .int 0, .null, .null, .null, .null, .null, .null, .null, .null, .int i11, .null, .int 0, .int i12, y2, y3, y4, y5, .int i13, .int i14, .int i15, .null, .int i16, .int i17, .int i18, .int i19, y6, y7, .long i20, y8], kI cI q_1 700 (fun _ => 0), kI cI q_2 50 f_14] H := by rw [ef_14]; exact hP
  have hD : va_D A [kO h0 10 [.ref q_1, .int i0, .int i1, y1, .int i2, .int i3, .int i4, .int i5, .int i6, .int i7, .int i8, .int i9, .int i10, .int 0, .int 0, .int 0, .int 0, .int 0, .null, .null, .null, .null, .null, .null, .null, .null, .int i11, .null, .int 0, .int i12, y2, y3, y4, y5, .int i13, .int i14, .int i15, .null, .int i16, .int i17, .int i18, .int i19, y6, y7, .long i20, y8], kI cI q_1 700 (fun _ => 0), kI cI q_2 50 f_14] := by rw [ef_14]; exact hD
  refine lv_dup hx hb dX11_init_222 rfl ?_
  refine lv_bipush (v := 35) hx hb dX11_init_223 (by decide) ?_
  refine lv_bipush (v := 116) hx hb dX11_init_225 (by decide) ?_
  refine va_iast hx hb hE.1 hP hD hS 2 1 rfl rfl (kk_ix _ _ (by decide)) dX11_init_227 (fun H locs hP hD hS => ?_)
  have hP : va_P D vwCl [kO h0 10 [.ref q_1, .int i0, .int i1, y1, .int i2, .int i3, .int i4, .int i5, .int i6, .int i7, .int i8, .int i9, .int i10, .int 0, .int 0, .int 0, .int 0, .int 0, .null, .null, .null, .null, .null, .null, .null, .null, .int i11, .null, .int 0, .int i12, y2, y3, y4, y5, .int i13, .int i14, .int i15, .null, .int i16, .int i17, .int i18, .int i19, y6, y7, .long i20, y8], kI cI q_1 700 (fun _ => 0), kI cI q_2 50 (upd f_14 35 116)] H := hP
  have hD : va_D A [kO h0 10 [.ref q_1, .int i0, .int i1, y1, .int i2, .int i3, .int i4, .int i5, .int i6, .int i7, .int i8, .int i9, .int i10, .int 0, .int 0, .int 0, .int 0, .int 0, .null, .null, .null, .null, .null, .null, .null, .null, .int i11, .null, .int 0, .int i12, y2, y3, y4, y5, .int i13, .int i14, .int i15, .null, .int i16, .int i17, .int i18, .int i19, y6, y7, .long i20, y8], kI cI q_1 700 (fun _ => 0), kI cI q_2 50 (upd f_14 35 116)] := hD
  refine lv_dup hx hb dX11_init_228 rfl ?_
  refine lv_bipush (v := 36) hx hb dX11_init_229 (by decide) ?_
  refine lv_bipush (v := 32) hx hb dX11_init_231 (by decide) ?_
  refine va_iast hx hb hE.1 hP hD hS 2 1 rfl rfl (kk_ix _ _ (by decide)) dX11_init_233 (fun H locs hP hD hS => ?_)
  have hP : va_P D vwCl [kO h0 10 [.ref q_1, .int i0, .int i1, y1, .int i2, .int i3, .int i4, .int i5, .int i6, .int i7, .int i8, .int i9, .int i10, .int 0, .int 0, .int 0, .int 0, .int 0, .null, .null, .null, .null, .null, .null, .null, .null, .int i11, .null, .int 0, .int i12, y2, y3, y4, y5, .int i13, .int i14, .int i15, .null, .int i16, .int i17, .int i18, .int i19, y6, y7, .long i20, y8], kI cI q_1 700 (fun _ => 0), kI cI q_2 50 (upd (upd f_14 35 116) 36 32)] H := hP
  have hD : va_D A [kO h0 10 [.ref q_1, .int i0, .int i1, y1, .int i2, .int i3, .int i4, .int i5, .int i6, .int i7, .int i8, .int i9, .int i10, .int 0, .int 0, .int 0, .int 0, .int 0, .null, .null, .null, .null, .null, .null, .null, .null, .int i11, .null, .int 0, .int i12, y2, y3, y4, y5, .int i13, .int i14, .int i15, .null, .int i16, .int i17, .int i18, .int i19, y6, y7, .long i20, y8], kI cI q_1 700 (fun _ => 0), kI cI q_2 50 (upd (upd f_14 35 116) 36 32)] := hD
  refine lv_dup hx hb dX11_init_234 rfl ?_
  refine lv_bipush (v := 37) hx hb dX11_init_235 (by decide) ?_
  refine lv_bipush (v := 99) hx hb dX11_init_237 (by decide) ?_
  refine va_iast hx hb hE.1 hP hD hS 2 1 rfl rfl (kk_ix _ _ (by decide)) dX11_init_239 (fun H locs hP hD hS => ?_)
  obtain ⟨f_15, ef_15⟩ : ∃ z, z = (upd (upd (upd f_14 35 116) 36 32) 37 99) := ⟨_, rfl⟩
  have hP : va_P D vwCl [kO h0 10 [.ref q_1, .int i0, .int i1, y1, .int i2, .int i3, .int i4, .int i5, .int i6, .int i7, .int i8, .int i9, .int i10, .int 0, .int 0, .int 0, .int 0, .int 0, .null, .null, .null, .null, .null, .null, .null, .null, .int i11, .null, .int 0, .int i12, y2, y3, y4, y5, .int i13, .int i14, .int i15, .null, .int i16, .int i17, .int i18, .int i19, y6, y7, .long i20, y8], kI cI q_1 700 (fun _ => 0), kI cI q_2 50 f_15] H := by rw [ef_15]; exact hP
  have hD : va_D A [kO h0 10 [.ref q_1, .int i0, .int i1, y1, .int i2, .int i3, .int i4, .int i5, .int i6, .int i7, .int i8, .int i9, .int i10, .int 0, .int 0, .int 0, .int 0, .int 0, .null, .null, .null, .null, .null, .null, .null, .null, .int i11, .null, .int 0, .int i12, y2, y3, y4, y5, .int i13, .int i14, .int i15, .null, .int i16, .int i17, .int i18, .int i19, y6, y7, .long i20, y8], kI cI q_1 700 (fun _ => 0), kI cI q_2 50 f_15] := by rw [ef_15]; exact hD
  refine lv_dup hx hb dX11_init_240 rfl ?_
  refine lv_bipush (v := 38) hx hb dX11_init_241 (by decide) ?_
  refine lv_bipush (v := 117) hx hb dX11_init_243 (by decide) ?_
  refine va_iast hx hb hE.1 hP hD hS 2 1 rfl rfl (kk_ix _ _ (by decide)) dX11_init_245 (fun H locs hP hD hS => ?_)
  have hP : va_P D vwCl [kO h0 10 [.ref q_1, .int i0, .int i1, y1, .int i2, .int i3, .int i4, .int i5, .int i6, .int i7, .int i8, .int i9, .int i10, .int 0, .int 0, .int 0, .int 0, .int 0, .null, .null, .null, .null, .null, .null, .null, .null, .int i11, .null, .int 0, .int i12, y2, y3, y4, y5, .int i13, .int i14, .int i15, .null, .int i16, .int i17, .int i18, .int i19, y6, y7, .long i20, y8], kI cI q_1 700 (fun _ => 0), kI cI q_2 50 (upd f_15 38 117)] H := hP
  have hD : va_D A [kO h0 10 [.ref q_1, .int i0, .int i1, y1, .int i2, .int i3, .int i4, .int i5, .int i6, .int i7, .int i8, .int i9, .int i10, .int 0, .int 0, .int 0, .int 0, .int 0, .null, .null, .null, .null, .null, .null, .null, .null, .int i11, .null, .int 0, .int i12, y2, y3, y4, y5, .int i13, .int i14, .int i15, .null, .int i16, .int i17, .int i18, .int i19, y6, y7, .long i20, y8], kI cI q_1 700 (fun _ => 0), kI cI q_2 50 (upd f_15 38 117)] := hD
  refine lv_dup hx hb dX11_init_246 rfl ?_
  refine lv_bipush (v := 39) hx hb dX11_init_247 (by decide) ?_
  refine lv_bipush (v := 116) hx hb dX11_init_249 (by decide) ?_
  refine va_iast hx hb hE.1 hP hD hS 2 1 rfl rfl (kk_ix _ _ (by decide)) dX11_init_251 (fun H locs hP hD hS => ?_)
  have hP : va_P D vwCl [kO h0 10 [.ref q_1, .int i0, .int i1, y1, .int i2, .int i3, .int i4, .int i5, .int i6, .int i7, .int i8, .int i9, .int i10, .int 0, .int 0, .int 0, .int 0, .int 0, .null, .null, .null, .null, .null, .null, .null, .null, .int i11, .null, .int 0, .int i12, y2, y3, y4, y5, .int i13, .int i14, .int i15, .null, .int i16, .int i17, .int i18, .int i19, y6, y7, .long i20, y8], kI cI q_1 700 (fun _ => 0), kI cI q_2 50 (upd (upd f_15 38 117) 39 116)] H := hP
  have hD : va_D A [kO h0 10 [.ref q_1, .int i0, .int i1, y1, .int i2, .int i3, .int i4, .int i5, .int i6, .int i7, .int i8, .int i9, .int i10, .int 0, .int 0, .int 0, .int 0, .int 0, .null, .null, .null, .null, .null, .null, .null, .null, .int i11, .null, .int 0, .int i12, y2, y3, y4, y5, .int i13, .int i14, .int i15, .null, .int i16, .int i17, .int i18, .int i19, y6, y7, .long i20, y8], kI cI q_1 700 (fun _ => 0), kI cI q_2 50 (upd (upd f_15 38 117) 39 116)] := hD
  refine lv_dup hx hb dX11_init_252 rfl ?_
  refine lv_bipush (v := 40) hx hb dX11_init_253 (by decide) ?_
  refine lv_bipush (v := 32) hx hb dX11_init_255 (by decide) ?_
  refine va_iast hx hb hE.1 hP hD hS 2 1 rfl rfl (kk_ix _ _ (by decide)) dX11_init_257 (fun H locs hP hD hS => ?_)
  obtain ⟨f_16, ef_16⟩ : ∃ z, z = (upd (upd (upd f_15 38 117) 39 116) 40 32) := ⟨_, rfl⟩
  have hP : va_P D vwCl [kO h0 10 [.ref q_1, .int i0, .int i1, y1, .int i2, .int i3, .int i4, .int i5, .int i6, .int i7, .int i8, .int i9, .int i10, .int 0, .int 0, .int 0, .int 0, .int 0, .null, .null, .null, .null, .null, .null, .null, .null, .int i11, .null, .int 0, .int i12, y2, y3, y4, y5, .int i13, .int i14, .int i15, .null, .int i16, .int i17, .int i18, .int i19, y6, y7, .long i20, y8], kI cI q_1 700 (fun _ => 0), kI cI q_2 50 f_16] H := by rw [ef_16]; exact hP
  have hD : va_D A [kO h0 10 [.ref q_1, .int i0, .int i1, y1, .int i2, .int i3, .int i4, .int i5, .int i6, .int i7, .int i8, .int i9, .int i10, .int 0, .int 0, .int 0, .int 0, .int 0, .null, .null, .null, .null, .null, .null, .null, .null, .int i11, .null, .int 0, .int i12, y2, y3, y4, y5, .int i13, .int i14, .int i15, .null, .int i16, .int i17, .int i18, .int i19, y6, y7, .long i20, y8], kI cI q_1 700 (fun _ => 0), kI cI q_2 50 f_16] := by rw [ef_16]; exact hD
  refine lv_dup hx hb dX11_init_258 rfl ?_
  refine lv_bipush (v := 41) hx hb dX11_init_259 (by decide) ?_
  refine lv_bipush (v := 101) hx hb dX11_init_261 (by decide) ?_
  refine va_iast hx hb hE.1 hP hD hS 2 1 rfl rfl (kk_ix _ _ (by decide)) dX11_init_263 (fun H locs hP hD hS => ?_)
  have hP : va_P D vwCl [kO h0 10 [.ref q_1, .int i0, .int i1, y1, .int i2, .int i3, .int i4, .int i5, .int i6, .int i7, .int i8, .int i9, .int i10, .int 0, .int 0, .int 0, .int 0, .int 0, .null, .null, .null, .null, .null, .null, .null, .null, .int i11, .null, .int 0, .int i12, y2, y3, y4, y5, .int i13, .int i14, .int i15, .null, .int i16, .int i17, .int i18, .int i19, y6, y7, .long i20, y8], kI cI q_1 700 (fun _ => 0), kI cI q_2 50 (upd f_16 41 101)] H := hP
  have hD : va_D A [kO h0 10 [.ref q_1, .int i0, .int i1, y1, .int i2, .int i3, .int i4, .int i5, .int i6, .int i7, .int i8, .int i9, .int i10, .int 0, .int 0, .int 0, .int 0, .int 0, .null, .null, .null, .null, .null, .null, .null, .null, .int i11, .null, .int 0, .int i12, y2, y3, y4, y5, .int i13, .int i14, .int i15, .null, .int i16, .int i17, .int i18, .int i19, y6, y7, .long i20, y8], kI cI q_1 700 (fun _ => 0), kI cI q_2 50 (upd f_16 41 101)] := hD
  refine lv_dup hx hb dX11_init_264 rfl ?_
  refine lv_bipush (v := 42) hx hb dX11_init_265 (by decide) ?_
  refine lv_bipush (v := 110) hx hb dX11_init_267 (by decide) ?_
  refine va_iast hx hb hE.1 hP hD hS 2 1 rfl rfl (kk_ix _ _ (by decide)) dX11_init_269 (fun H locs hP hD hS => ?_)
  have hP : va_P D vwCl [kO h0 10 [.ref q_1, .int i0, .int i1, y1, .int i2, .int i3, .int i4, .int i5, .int i6, .int i7, .int i8, .int i9, .int i10, .int 0, .int 0, .int 0, .int 0, .int 0, .null, .null, .null, .null, .null, .null, .null, .null, .int i11, .null, .int 0, .int i12, y2, y3, y4, y5, .int i13, .int i14, .int i15, .null, .int i16, .int i17, .int i18, .int i19, y6, y7, .long i20, y8], kI cI q_1 700 (fun _ => 0), kI cI q_2 50 (upd (upd f_16 41 101) 42 110)] H := hP
  have hD : va_D A [kO h0 10 [.ref q_1, .int i0, .int i1, y1, .int i2, .int i3, .int i4, .int i5, .int i6, .int i7, .int i8, .int i9, .int i10, .int 0, .int 0, .int 0, .int 0, .int 0, .null, .null, .null, .null, .null, .null, .null, .null, .int i11, .null, .int 0, .int i12, y2, y3, y4, y5, .int i13, .int i14, .int i15, .null, .int i16, .int i17, .int i18, .int i19, y6, y7, .long i20, y8], kI cI q_1 700 (fun _ => 0), kI cI q_2 50 (upd (upd f_16 41 101) 42 110)] := hD
  refine lv_dup hx hb dX11_init_270 rfl ?_
  refine lv_bipush (v := 43) hx hb dX11_init_271 (by decide) ?_
  refine lv_bipush (v := 100) hx hb dX11_init_273 (by decide) ?_
  refine va_iast hx hb hE.1 hP hD hS 2 1 rfl rfl (kk_ix _ _ (by decide)) dX11_init_275 (fun H locs hP hD hS => ?_)
  obtain ⟨f_17, ef_17⟩ : ∃ z, z = (upd (upd (upd f_16 41 101) 42 110) 43 100) := ⟨_, rfl⟩
  have hP : va_P D vwCl [kO h0 10 [.ref q_1, .int i0, .int i1, y1, .int i2, .int i3, .int i4, .int i5, .int i6, .int i7, .int i8, .int i9, .int i10, .int 0, .int 0, .int 0, .int 0, .int 0, .null, .null, .null, .null, .null, .null, .null, .null, .int i11, .null, .int 0, .int i12, y2, y3, y4, y5, .int i13, .int i14, .int i15, .null, .int i16, .int i17, .int i18, .int i19, y6, y7, .long i20, y8], kI cI q_1 700 (fun _ => 0), kI cI q_2 50 f_17] H := by rw [ef_17]; exact hP
  have hD : va_D A [kO h0 10 [.ref q_1, .int i0, .int i1, y1, .int i2, .int i3, .int i4, .int i5, .int i6, .int i7, .int i8, .int i9, .int i10, .int 0, .int 0, .int 0, .int 0, .int 0, .null, .null, .null, .null, .null, .null, .null, .null, .int i11, .null, .int 0, .int i12, y2, y3, y4, y5, .int i13, .int i14, .int i15, .null, .int i16, .int i17, .int i18, .int i19, y6, y7, .long i20, y8], kI cI q_1 700 (fun _ => 0), kI cI q_2 50 f_17] := by rw [ef_17]; exact hD
  refine lv_dup hx hb dX11_init_276 rfl ?_
  refine lv_bipush (v := 44) hx hb dX11_init_277 (by decide) ?_
  refine lv_bipush (v := 32) hx hb dX11_init_279 (by decide) ?_
  refine va_iast hx hb hE.1 hP hD hS 2 1 rfl rfl (kk_ix _ _ (by decide)) dX11_init_281 (fun H locs hP hD hS => ?_)
  have hP : va_P D vwCl [kO h0 10 [.ref q_1, .int i0, .int i1, y1, .int i2, .int i3, .int i4, .int i5, .int i6, .int i7, .int i8, .int i9, .int i10, .int 0, .int 0, .int 0, .int 0, .int 0, .null, .null, .null, .null, .null, .null, .null, .null, .int i11, .null, .int 0, .int i12, y2, y3, y4, y5, .int i13, .int i14, .int i15, .null, .int i16, .int i17, .int i18, .int i19, y6, y7, .long i20, y8], kI cI q_1 700 (fun _ => 0), kI cI q_2 50 (upd f_17 44 32)] H := hP
  have hD : va_D A [kO h0 10 [.ref q_1, .int i0, .int i1, y1, .int i2, .int i3, .int i4, .int i5, .int i6, .int i7, .int i8, .int i9, .int i10, .int 0, .int 0, .int 0, .int 0, .int 0, .null, .null, .null, .null, .null, .null, .null, .null, .int i11, .null, .int 0, .int i12, y2, y3, y4, y5, .int i13, .int i14, .int i15, .null, .int i16, .int i17, .int i18, .int i19, y6, y7, .long i20, y8], kI cI q_1 700 (fun _ => 0), kI cI q_2 50 (upd f_17 44 32)] := hD
  refine lv_dup hx hb dX11_init_282 rfl ?_
  refine lv_bipush (v := 45) hx hb dX11_init_283 (by decide) ?_
  refine lv_bipush (v := 113) hx hb dX11_init_285 (by decide) ?_
  refine va_iast hx hb hE.1 hP hD hS 2 1 rfl rfl (kk_ix _ _ (by decide)) dX11_init_287 (fun H locs hP hD hS => ?_)
  have hP : va_P D vwCl [kO h0 10 [.ref q_1, .int i0, .int i1, y1, .int i2, .int i3, .int i4, .int i5, .int i6, .int i7, .int i8, .int i9, .int i10, .int 0, .int 0, .int 0, .int 0, .int 0, .null, .null, .null, .null, .null, .null, .null, .null, .int i11, .null, .int 0, .int i12, y2, y3, y4, y5, .int i13, .int i14, .int i15, .null, .int i16, .int i17, .int i18, .int i19, y6, y7, .long i20, y8], kI cI q_1 700 (fun _ => 0), kI cI q_2 50 (upd (upd f_17 44 32) 45 113)] H := hP
  have hD : va_D A [kO h0 10 [.ref q_1, .int i0, .int i1, y1, .int i2, .int i3, .int i4, .int i5, .int i6, .int i7, .int i8, .int i9, .int i10, .int 0, .int 0, .int 0, .int 0, .int 0, .null, .null, .null, .null, .null, .null, .null, .null, .int i11, .null, .int 0, .int i12, y2, y3, y4, y5, .int i13, .int i14, .int i15, .null, .int i16, .int i17, .int i18, .int i19, y6, y7, .long i20, y8], kI cI q_1 700 (fun _ => 0), kI cI q_2 50 (upd (upd f_17 44 32) 45 113)] := hD
  refine lv_dup hx hb dX11_init_288 rfl ?_
  refine lv_bipush (v := 46) hx hb dX11_init_289 (by decide) ?_
  refine lv_bipush (v := 117) hx hb dX11_init_291 (by decide) ?_
  refine va_iast hx hb hE.1 hP hD hS 2 1 rfl rfl (kk_ix _ _ (by decide)) dX11_init_293 (fun H locs hP hD hS => ?_)
  obtain ⟨f_18, ef_18⟩ : ∃ z, z = (upd (upd (upd f_17 44 32) 45 113) 46 117) := ⟨_, rfl⟩
  have hP : va_P D vwCl [kO h0 10 [.ref q_1, .int i0, .int i1, y1, .int i2, .int i3, .int i4, .int i5, .int i6, .int i7, .int i8, .int i9, .int i10, .int 0, .int 0, .int 0, .int 0, .int 0, .null, .null, .null, .null, .null, .null, .null, .null, .int i11, .null, .int 0, .int i12, y2, y3, y4, y5, .int i13, .int i14, .int i15, .null, .int i16, .int i17, .int i18, .int i19, y6, y7, .long i20, y8], kI cI q_1 700 (fun _ => 0), kI cI q_2 50 f_18] H := by rw [ef_18]; exact hP
  have hD : va_D A [kO h0 10 [.ref q_1, .int i0, .int i1, y1, .int i2, .int i3, .int i4, .int i5, .int i6, .int i7, .int i8, .int i9, .int i10, .int 0, .int 0, .int 0, .int 0, .int 0, .null, .null, .null, .null, .null, .null, .null, .null, .int i11, .null, .int 0, .int i12, y2, y3, y4, y5, .int i13, .int i14, .int i15, .null, .int i16, .int i17, .int i18, .int i19, y6, y7, .long i20, y8], kI cI q_1 700 (fun _ => 0), kI cI q_2 50 f_18] := by rw [ef_18]; exact hD
  refine lv_dup hx hb dX11_init_294 rfl ?_
  refine lv_bipush (v := 47) hx hb dX11_init_295 (by decide) ?_
  refine lv_bipush (v := 105) hx hb dX11_init_297 (by decide) ?_
  refine va_iast hx hb hE.1 hP hD hS 2 1 rfl rfl (kk_ix _ _ (by decide)) dX11_init_299 (fun H locs hP hD hS => ?_)
  have hP : va_P D vwCl [kO h0 10 [.ref q_1, .int i0, .int i1, y1, .int i2, .int i3, .int i4, .int i5, .int i6, .int i7, .int i8, .int i9, .int i10, .int 0, .int 0, .int 0, .int 0, .int 0, .null, .null, .null, .null, .null, .null, .null, .null, .int i11, .null, .int 0, .int i12, y2, y3, y4, y5, .int i13, .int i14, .int i15, .null, .int i16, .int i17, .int i18, .int i19, y6, y7, .long i20, y8], kI cI q_1 700 (fun _ => 0), kI cI q_2 50 (upd f_18 47 105)] H := hP
  have hD : va_D A [kO h0 10 [.ref q_1, .int i0, .int i1, y1, .int i2, .int i3, .int i4, .int i5, .int i6, .int i7, .int i8, .int i9, .int i10, .int 0, .int 0, .int 0, .int 0, .int 0, .null, .null, .null, .null, .null, .null, .null, .null, .int i11, .null, .int 0, .int i12, y2, y3, y4, y5, .int i13, .int i14, .int i15, .null, .int i16, .int i17, .int i18, .int i19, y6, y7, .long i20, y8], kI cI q_1 700 (fun _ => 0), kI cI q_2 50 (upd f_18 47 105)] := hD
  refine lv_dup hx hb dX11_init_300 rfl ?_
  refine lv_bipush (v := 48) hx hb dX11_init_301 (by decide) ?_
  refine lv_bipush (v := 116) hx hb dX11_init_303 (by decide) ?_
  refine va_iast hx hb hE.1 hP hD hS 2 1 rfl rfl (kk_ix _ _ (by decide)) dX11_init_305 (fun H locs hP hD hS => ?_)
  have hP : va_P D vwCl [kO h0 10 [.ref q_1, .int i0, .int i1, y1, .int i2, .int i3, .int i4, .int i5, .int i6, .int i7, .int i8, .int i9, .int i10, .int 0, .int 0, .int 0, .int 0, .int 0, .null, .null, .null, .null, .null, .null, .null, .null, .int i11, .null, .int 0, .int i12, y2, y3, y4, y5, .int i13, .int i14, .int i15, .null, .int i16, .int i17, .int i18, .int i19, y6, y7, .long i20, y8], kI cI q_1 700 (fun _ => 0), kI cI q_2 50 (upd (upd f_18 47 105) 48 116)] H := hP
  have hD : va_D A [kO h0 10 [.ref q_1, .int i0, .int i1, y1, .int i2, .int i3, .int i4, .int i5, .int i6, .int i7, .int i8, .int i9, .int i10, .int 0, .int 0, .int 0, .int 0, .int 0, .null, .null, .null, .null, .null, .null, .null, .null, .int i11, .null, .int 0, .int i12, y2, y3, y4, y5, .int i13, .int i14, .int i15, .null, .int i16, .int i17, .int i18, .int i19, y6, y7, .long i20, y8], kI cI q_1 700 (fun _ => 0), kI cI q_2 50 (upd (upd f_18 47 105) 48 116)] := hD
  refine lv_dup hx hb dX11_init_306 rfl ?_
  refine lv_bipush (v := 49) hx hb dX11_init_307 (by decide) ?_
  refine lv_bipush (v := 32) hx hb dX11_init_309 (by decide) ?_
  refine va_iast hx hb hE.1 hP hD hS 2 1 rfl rfl (kk_ix _ _ (by decide)) dX11_init_311 (fun H locs hP hD hS => ?_)
  obtain ⟨f_19, ef_19⟩ : ∃ z, z = (upd (upd (upd f_18 47 105) 48 116) 49 32) := ⟨_, rfl⟩
  have hP : va_P D vwCl [kO h0 10 [.ref q_1, .int i0, .int i1, y1, .int i2, .int i3, .int i4, .int i5, .int i6, .int i7, .int i8, .int i9, .int i10, .int 0, .int 0, .int 0, .int 0, .int 0, .null, .null, .null, .null, .null, .null, .null, .null, .int i11, .null, .int 0, .int i12, y2, y3, y4, y5, .int i13, .int i14, .int i15, .null, .int i16, .int i17, .int i18, .int i19, y6, y7, .long i20, y8], kI cI q_1 700 (fun _ => 0), kI cI q_2 50 f_19] H := by rw [ef_19]; exact hP
  have hD : va_D A [kO h0 10 [.ref q_1, .int i0, .int i1, y1, .int i2, .int i3, .int i4, .int i5, .int i6, .int i7, .int i8, .int i9, .int i10, .int 0, .int 0, .int 0, .int 0, .int 0, .null, .null, .null, .null, .null, .null, .null, .null, .int i11, .null, .int 0, .int i12, y2, y3, y4, y5, .int i13, .int i14, .int i15, .null, .int i16, .int i17, .int i18, .int i19, y6, y7, .long i20, y8], kI cI q_1 700 (fun _ => 0), kI cI q_2 50 f_19] := by rw [ef_19]; exact hD
  refine va_putF (D := D) (ci := 10) (v := .ref q_2) (ty := (.array .int)) (C := RX11) (T := TX11) (N := 46) hx hb hts u_X11 tyX11 tyX11_ok nmX11 hown hE.1 hP hD hS 0 rfl rfl 3 (by decide) (hts _ w_1304) (fun _ h9 => h9) rfl hin rfl (by decide +kernel) rfl rfl (Nat.le_of_ble_eq_true rfl) dX11_init_312 (fun H locs hP hD hS => ?_)
  have hP : va_P D vwCl [kO h0 10 [.ref q_1, .int i0, .int i1, .ref q_2, .int i2, .int i3, .int i4, .int i5, .int i6, .int i7, .int i8, .int i9, .int i10, .int 0, .int 0, .int 0, .int 0, .int 0, .null, .null, .null, .null, .null, .null, .null, .null, .int i11, .null, .int 0, .int i12, y2, y3, y4, y5, .int i13, .int i14, .int i15, .null, .int i16, .int i17, .int i18, .int i19, y6, y7, .long i20, y8], kI cI q_1 700 (fun _ => 0), kI cI q_2 50 f_19] H := hP
  have hD : va_D A [kO h0 10 [.ref q_1, .int i0, .int i1, .ref q_2, .int i2, .int i3, .int i4, .int i5, .int i6, .int i7, .int i8, .int i9, .int i10, .int 0, .int 0, .int 0, .int 0, .int 0, .null, .null, .null, .null, .null, .null, .null, .null, .int i11, .null, .int 0, .int i12, y2, y3, y4, y5, .int i13, .int i14, .int i15, .null, .int i16, .int i17, .int i18, .int i19, y6, y7, .long i20, y8], kI cI q_1 700 (fun _ => 0), kI cI q_2 50 f_19] := hD
  refine lv_aload_n hx hb dX11_init_315 rfl (lv_at hl 0 rfl) ?_
  refine lv_iconst (v := (-1)) hx hb dX11_init_316 (by decide) ?_
  refine va_put (D := D) (ci := 10) (v := .int (-1)) (ty := .int) (C := RX11) (T := TX11) (N := 46) hx hb hts u_X11 tyX11 tyX11_ok nmX11 hown hE.1 hP hD hS 0 rfl rfl 5 (by decide) (hts _ w_1306) (fun _ h9 => h9) rfl (by decide +kernel) rfl rfl (Nat.le_of_ble_eq_true rfl) dX11_init_317 (fun H locs hP hD hS => ?_)
  have hP : va_P D vwCl [kO h0 10 [.ref q_1, .int i0, .int i1, .ref q_2, .int i2, .int (-1), .int i4, .int i5, .int i6, .int i7, .int i8, .int i9, .int i10, .int 0, .int 0, .int 0, .int 0, .int 0, .null, .null, .null, .null, .null, .null, .null, .null, .int i11, .null, .int 0, .int i12, y2, y3, y4, y5, .int i13, .int i14, .int i15, .null, .int i16, .int i17, .int i18, .int i19, y6, y7, .long i20, y8], kI cI q_1 700 (fun _ => 0), kI cI q_2 50 f_19] H := hP
  have hD : va_D A [kO h0 10 [.ref q_1, .int i0, .int i1, .ref q_2, .int i2, .int (-1), .int i4, .int i5, .int i6, .int i7, .int i8, .int i9, .int i10, .int 0, .int 0, .int 0, .int 0, .int 0, .null, .null, .null, .null, .null, .null, .null, .null, .int i11, .null, .int 0, .int i12, y2, y3, y4, y5, .int i13, .int i14, .int i15, .null, .int i16, .int i17, .int i18, .int i19, y6, y7, .long i20, y8], kI cI q_1 700 (fun _ => 0), kI cI q_2 50 f_19] := hD
  refine lv_aload_n hx hb dX11_init_320 rfl (lv_at hl 0 rfl) ?_
  refine lv_bipush (v := 10) hx hb dX11_init_321 (by decide) ?_
  refine kk_newI hx hb hts hE hP hD hS hA 10 (by decide) (by decide) (Nat.le_of_ble_eq_true rfl) (Nat.le_of_ble_eq_true rfl) (Nat.le_of_ble_eq_true rfl) dX11_init_323 (fun q_20 H hP hD hS => ?_)
  have hP : va_P D vwCl [kO h0 10 [.ref q_1, .int i0, .int i1, .ref q_2, .int i2, .int (-1), .int i4, .int i5, .int i6, .int i7, .int i8, .int i9, .int i10, .int 0, .int 0, .int 0, .int 0, .int 0, .null, .null, .null, .null, .null, .null, .null, .null, .int i11, .null, .int 0, .int i12, y2, y3, y4, y5, .int i13, .int i14, .int i15, .null, .int i16, .int i17, .int i18, .int i19, y6, y7, .long i20, y8], kI cI q_1 700 (fun _ => 0), kI cI q_2 50 f_19, kI cI q_20 10 (fun _ => 0)] H := hP
  have hD : va_D A [kO h0 10 [.ref q_1, .int i0, .int i1, .ref q_2, .int i2, .int (-1), .int i4, .int i5, .int i6, .int i7, .int i8, .int i9, .int i10, .int 0, .int 0, .int 0, .int 0, .int 0, .null, .null, .null, .null, .null, .null, .null, .null, .int i11, .null, .int 0, .int i12, y2, y3, y4, y5, .int i13, .int i14, .int i15, .null, .int i16, .int i17, .int i18, .int i19, y6, y7, .long i20, y8], kI cI q_1 700 (fun _ => 0), kI cI q_2 50 f_19, kI cI q_20 10 (fun _ => 0)] := hD
  refine va_putF (D := D) (ci := 10) (v := .ref q_20) (ty := (.array .int)) (C := RX11) (T := TX11) (N := 46) hx hb hts u_X11 tyX11 tyX11_ok nmX11 hown hE.1 hP hD hS 0 rfl rfl 18 (by decide) (hts _ w_1319) (fun _ h9 => h9) rfl hin rfl (by decide +kernel) rfl rfl (Nat.le_of_ble_eq_true rfl) dX11_init_325 (fun H locs hP hD hS => ?_)
  have hP : va_P D vwCl [kO h0 10 [.ref q_1, .int i0, .int i1, .ref q_2, .int i2, .int (-1), .int i4, .int i5, .int i6, .int i7, .int i8, .int i9, .int i10, .int 0, .int 0, .int 0, .int 0, .int 0, .ref q_20, .null, .null, .null, .null, .null, .null, .null, .int i11, .null, .int 0, .int i12, y2, y3, y4, y5, .int i13, .int i14, .int i15, .null, .int i16, .int i17, .int i18, .int i19, y6, y7, .long i20, y8], kI cI q_1 700 (fun _ => 0), kI cI q_2 50 f_19, kI cI q_20 10 (fun _ => 0)] H := hP
  have hD : va_D A [kO h0 10 [.ref q_1, .int i0, .int i1, .ref q_2, .int i2, .int (-1), .int i4, .int i5, .int i6, .int i7, .int i8, .int i9, .int i10, .int 0, .int 0, .int 0, .int 0, .int 0, .ref q_20, .null, .null, .null, .null, .null, .null, .null, .int i11, .null, .int 0, .int i12, y2, y3, y4, y5, .int i13, .int i14, .int i15, .null, .int i16, .int i17, .int i18, .int i19, y6, y7, .long i20, y8], kI cI q_1 700 (fun _ => 0), kI cI q_2 50 f_19, kI cI q_20 10 (fun _ => 0)] := hD
  refine lv_aload_n hx hb dX11_init_328 rfl (lv_at hl 0 rfl) ?_
  refine lv_bipush (v := 32) hx hb dX11_init_329 (by decide) ?_
  refine kk_newI hx hb hts hE hP hD hS hA 32 (by decide) (by decide) (Nat.le_of_ble_eq_true rfl) (Nat.le_of_ble_eq_true rfl) (Nat.le_of_ble_eq_true rfl) dX11_init_331 (fun q_21 H hP hD hS => ?_)
  have hP : va_P D vwCl [kO h0 10 [.ref q_1, .int i0, .int i1, .ref q_2, .int i2, .int (-1), .int i4, .int i5, .int i6, .int i7, .int i8, .int i9, .int i10, .int 0, .int 0, .int 0, .int 0, .int 0, .ref q_20, .null, .null, .null, .null, .null, .null, .null, .int i11, .null, .int 0, .int i12, y2, y3, y4, y5, .int i13, .int i14, .int i15, .null, .int i16, .int i17, .int i18, .int i19, y6, y7, .long i20, y8], kI cI q_1 700 (fun _ => 0), kI cI q_2 50 f_19, kI cI q_20 10 (fun _ => 0), kI cI q_21 32 (fun _ => 0)] H := hP
  have hD : va_D A [kO h0 10 [.ref q_1, .int i0, .int i1, .ref q_2, .int i2, .int (-1), .int i4, .int i5, .int i6, .int i7, .int i8, .int i9, .int i10, .int 0, .int 0, .int 0, .int 0, .int 0, .ref q_20, .null, .null, .null, .null, .null, .null, .null, .int i11, .null, .int 0, .int i12, y2, y3, y4, y5, .int i13, .int i14, .int i15, .null, .int i16, .int i17, .int i18, .int i19, y6, y7, .long i20, y8], kI cI q_1 700 (fun _ => 0), kI cI q_2 50 f_19, kI cI q_20 10 (fun _ => 0), kI cI q_21 32 (fun _ => 0)] := hD
  refine va_putF (D := D) (ci := 10) (v := .ref q_21) (ty := (.array .int)) (C := RX11) (T := TX11) (N := 46) hx hb hts u_X11 tyX11 tyX11_ok nmX11 hown hE.1 hP hD hS 0 rfl rfl 19 (by decide) (hts _ w_1320) (fun _ h9 => h9) rfl hin rfl (by decide +kernel) rfl rfl (Nat.le_of_ble_eq_true rfl) dX11_init_333 (fun H locs hP hD hS => ?_)
  have hP : va_P D vwCl [kO h0 10 [.ref q_1, .int i0, .int i1, .ref q_2, .int i2, .int (-1), .int i4, .int i5, .int i6, .int i7, .int i8, .int i9, .int i10, .int 0, .int 0, .int 0, .int 0, .int 0, .ref q_20, .ref q_21, .null, .null, .null, .null, .null, .null, .int i11, .null, .int 0, .int i12, y2, y3, y4, y5, .int i13, .int i14, .int i15, .null, .int i16, .int i17, .int i18, .int i19, y6, y7, .long i20, y8], kI cI q_1 700 (fun _ => 0), kI cI q_2 50 f_19, kI cI q_20 10 (fun _ => 0), kI cI q_21 32 (fun _ => 0)] H := hP
  have hD : va_D A [kO h0 10 [.ref q_1, .int i0, .int i1, .ref q_2, .int i2, .int (-1), .int i4, .int i5, .int i6, .int i7, .int i8, .int i9, .int i10, .int 0, .int 0, .int 0, .int 0, .int 0, .ref q_20, .ref q_21, .null, .null, .null, .null, .null, .null, .int i11, .null, .int 0, .int i12, y2, y3, y4, y5, .int i13, .int i14, .int i15, .null, .int i16, .int i17, .int i18, .int i19, y6, y7, .long i20, y8], kI cI q_1 700 (fun _ => 0), kI cI q_2 50 f_19, kI cI q_20 10 (fun _ => 0), kI cI q_21 32 (fun _ => 0)] := hD
  refine lv_aload_n hx hb dX11_init_336 rfl (lv_at hl 0 rfl) ?_
  refine lv_bipush (v := 32) hx hb dX11_init_337 (by decide) ?_
  refine kk_newI hx hb hts hE hP hD hS hA 32 (by decide) (by decide) (Nat.le_of_ble_eq_true rfl) (Nat.le_of_ble_eq_true rfl) (Nat.le_of_ble_eq_true rfl) dX11_init_339 (fun q_22 H hP hD hS => ?_)
  have hP : va_P D vwCl [kO h0 10 [.ref q_1, .int i0, .int i1, .ref q_2, .int i2, .int (-1), .int i4, .int i5, .int i6, .int i7, .int i8, .int i9, .int i10, .int 0, .int 0, .int 0, .int 0, .int 0, .ref q_20, .ref q_21, .null, .null, .null, .null, .null, .null, .int i11, .null, .int 0, .int i12, y2, y3, y4, y5, .int i13, .int i14, .int i15, .null, .int i16, .int i17, .int i18, .int i19, y6, y7, .long i20, y8], kI cI q_1 700 (fun _ => 0), kI cI q_2 50 f_19, kI cI q_20 10 (fun _ => 0), kI cI q_21 32 (fun _ => 0), kI cI q_22 32 (fun _ => 0)] H := hP
  have hD : va_D A [kO h0 10 [.ref q_1, .int i0, .int i1, .ref q_2, .int i2, .int (-1), .int i4, .int i5, .int i6, .int i7, .int i8, .int i9, .int i10, .int 0, .int 0, .int 0, .int 0, .int 0, .ref q_20, .ref q_21, .null, .null, .null, .null, .null, .null, .int i11, .null, .int 0, .int i12, y2, y3, y4, y5, .int i13, .int i14, .int i15, .null, .int i16, .int i17, .int i18, .int i19, y6, y7, .long i20, y8], kI cI q_1 700 (fun _ => 0), kI cI q_2 50 f_19, kI cI q_20 10 (fun _ => 0), kI cI q_21 32 (fun _ => 0), kI cI q_22 32 (fun _ => 0)] := hD
  refine va_putF (D := D) (ci := 10) (v := .ref q_22) (ty := (.array .int)) (C := RX11) (T := TX11) (N := 46) hx hb hts u_X11 tyX11 tyX11_ok nmX11 hown hE.1 hP hD hS 0 rfl rfl 20 (by decide) (hts _ w_1321) (fun _ h9 => h9) rfl hin rfl (by decide +kernel) rfl rfl (Nat.le_of_ble_eq_true rfl) dX11_init_341 (fun H locs hP hD hS => ?_)
  have hP : va_P D vwCl [kO h0 10 [.ref q_1, .int i0, .int i1, .ref q_2, .int i2, .int (-1), .int i4, .int i5, .int i6, .int i7, .int i8, .int i9, .int i10, .int 0, .int 0, .int 0, .int 0, .int 0, .ref q_20, .ref q_21, .ref q_22, .null, .null, .null, .null, .null, .int i11, .null, .int 0, .int i12, y2, y3, y4, y5, .int i13, .int i14, .int i15, .null, .int i16, .int i17, .int i18, .int i19, y6, y7, .long i20, y8], kI cI q_1 700 (fun _ => 0), kI cI q_2 50 f_19, kI cI q_20 10 (fun _ => 0), kI cI q_21 32 (fun _ => 0), kI cI q_22 32 (fun _ => 0)] H := hP
  have hD : va_D A [kO h0 10 [.ref q_1, .int i0, .int i1, .ref q_2, .int i2, .int (-1), .int i4, .int i5, .int i6, .int i7, .int i8, .int i9, .int i10, .int 0, .int 0, .int 0, .int 0, .int 0, .ref q_20, .ref q_21, .ref q_22, .null, .null, .null, .null, .null, .int i11, .null, .int 0, .int i12, y2, y3, y4, y5, .int i13, .int i14, .int i15, .null, .int i16, .int i17, .int i18, .int i19, y6, y7, .long i20, y8], kI cI q_1 700 (fun _ => 0), kI cI q_2 50 f_19, kI cI q_20 10 (fun _ => 0), kI cI q_21 32 (fun _ => 0), kI cI q_22 32 (fun _ => 0)] := hD
  refine lv_aload_n hx hb dX11_init_344 rfl (lv_at hl 0 rfl) ?_
  refine lv_bipush (v := 48) hx hb dX11_init_345 (by decide) ?_
  refine kk_newI hx hb hts hE hP hD hS hA 48 (by decide) (by decide) (Nat.le_of_ble_eq_true rfl) (Nat.le_of_ble_eq_true rfl) (Nat.le_of_ble_eq_true rfl) dX11_init_347 (fun q_23 H hP hD hS => ?_)
  have hP : va_P D vwCl [kO h0 10 [.ref q_1, .int i0, .int i1, .ref q_2, .int i2, .int (-1), .int i4, .int i5, .int i6, .int i7, .int i8, .int i9, .int i10, .int 0, .int 0, .int 0, .int 0, .int 0, .ref q_20, .ref q_21, .ref q_22, .null, .null, .null, .null, .null, .int i11, .null, .int 0, .int i12, y2, y3, y4, y5, .int i13, .int i14, .int i15, .null, .int i16, .int i17, .int i18, .int i19, y6, y7, .long i20, y8], kI cI q_1 700 (fun _ => 0), kI cI q_2 50 f_19, kI cI q_20 10 (fun _ => 0), kI cI q_21 32 (fun _ => 0), kI cI q_22 32 (fun _ => 0), kI cI q_23 48 (fun _ => 0)] H := hP
  have hD : va_D A [kO h0 10 [.ref q_1, .int i0, .int i1, .ref q_2, .int i2, .int (-1), .int i4, .int i5, .int i6, .int i7, .int i8, .int i9, .int i10, .int 0, .int 0, .int 0, .int 0, .int 0, .ref q_20, .ref q_21, .ref q_22, .null, .null, .null, .null, .null, .int i11, .null, .int 0, .int i12, y2, y3, y4, y5, .int i13, .int i14, .int i15, .null, .int i16, .int i17, .int i18, .int i19, y6, y7, .long i20, y8], kI cI q_1 700 (fun _ => 0), kI cI q_2 50 f_19, kI cI q_20 10 (fun _ => 0), kI cI q_21 32 (fun _ => 0), kI cI q_22 32 (fun _ => 0), kI cI q_23 48 (fun _ => 0)] := hD
  refine va_putF (D := D) (ci := 10) (v := .ref q_23) (ty := (.array .int)) (C := RX11) (T := TX11) (N := 46) hx hb hts u_X11 tyX11 tyX11_ok nmX11 hown hE.1 hP hD hS 0 rfl rfl 21 (by decide) (hts _ w_1322) (fun _ h9 => h9) rfl hin rfl (by decide +kernel) rfl rfl (Nat.le_of_ble_eq_true rfl) dX11_init_349 (fun H locs hP hD hS => ?_)
  have hP : va_P D vwCl [kO h0 10 [.ref q_1, .int i0, .int i1, .ref q_2, .int i2, .int (-1), .int i4, .int i5, .int i6, .int i7, .int i8, .int i9, .int i10, .int 0, .int 0, .int 0, .int 0, .int 0, .ref q_20, .ref q_21, .ref q_22, .ref q_23, .null, .null, .null, .null, .int i11, .null, .int 0, .int i12, y2, y3, y4, y5, .int i13, .int i14, .int i15, .null, .int i16, .int i17, .int i18, .int i19, y6, y7, .long i20, y8], kI cI q_1 700 (fun _ => 0), kI cI q_2 50 f_19, kI cI q_20 10 (fun _ => 0), kI cI q_21 32 (fun _ => 0), kI cI q_22 32 (fun _ => 0), kI cI q_23 48 (fun _ => 0)] H := hP
  have hD : va_D A [kO h0 10 [.ref q_1, .int i0, .int i1, .ref q_2, .int i2, .int (-1), .int i4, .int i5, .int i6, .int i7, .int i8, .int i9, .int i10, .int 0, .int 0, .int 0, .int 0, .int 0, .ref q_20, .ref q_21, .ref q_22, .ref q_23, .null, .null, .null, .null, .int i11, .null, .int 0, .int i12, y2, y3, y4, y5, .int i13, .int i14, .int i15, .null, .int i16, .int i17, .int i18, .int i19, y6, y7, .long i20, y8], kI cI q_1 700 (fun _ => 0), kI cI q_2 50 f_19, kI cI q_20 10 (fun _ => 0), kI cI q_21 32 (fun _ => 0), kI cI q_22 32 (fun _ => 0), kI cI q_23 48 (fun _ => 0)] := hD
  refine lv_aload_n hx hb dX11_init_352 rfl (lv_at hl 0 rfl) ?_
  refine lv_bipush (v := 48) hx hb dX11_init_353 (by decide) ?_
  refine kk_newI hx hb hts hE hP hD hS hA 48 (by decide) (by decide) (Nat.le_of_ble_eq_true rfl) (Nat.le_of_ble_eq_true rfl) (Nat.le_of_ble_eq_true rfl) dX11_init_355 (fun q_24 H hP hD hS => ?_)
  have hP : va_P D vwCl [kO h0 10 [.ref q_1, .int i0, .int i1, .ref q_2, .int i2, .int (-1), .int i4, .int i5, .int i6, .int i7, .int i8, .int i9, .int i10, .int 0, .int 0, .int 0, .int 0, .int 0, .ref q_20, .ref q_21, .ref q_22, .ref q_23, .null, .null, .null, .null, .int i11, .null, .int 0, .int i12, y2, y3, y4, y5, .int i13, .int i14, .int i15, .null, .int i16, .int i17, .int i18, .int i19, y6, y7, .long i20, y8], kI cI q_1 700 (fun _ => 0), kI cI q_2 50 f_19, kI cI q_20 10 (fun _ => 0), kI cI q_21 32 (fun _ => 0), kI cI q_22 32 (fun _ => 0), kI cI q_23 48 (fun _ => 0), kI cI q_24 48 (fun _ => 0)] H := hP
  have hD : va_D A [kO h0 10 [.ref q_1, .int i0, .int i1, .ref q_2, .int i2, .int (-1), .int i4, .int i5, .int i6, .int i7, .int i8, .int i9, .int i10, .int 0, .int 0, .int 0, .int 0, .int 0, .ref q_20, .ref q_21, .ref q_22, .ref q_23, .null, .null, .null, .null, .int i11, .null, .int 0, .int i12, y2, y3, y4, y5, .int i13, .int i14, .int i15, .null, .int i16, .int i17, .int i18, .int i19, y6, y7, .long i20, y8], kI cI q_1 700 (fun _ => 0), kI cI q_2 50 f_19, kI cI q_20 10 (fun _ => 0), kI cI q_21 32 (fun _ => 0), kI cI q_22 32 (fun _ => 0), kI cI q_23 48 (fun _ => 0), kI cI q_24 48 (fun _ => 0)] := hD
  refine va_putF (D := D) (ci := 10) (v := .ref q_24) (ty := (.array .int)) (C := RX11) (T := TX11) (N := 46) hx hb hts u_X11 tyX11 tyX11_ok nmX11 hown hE.1 hP hD hS 0 rfl rfl 22 (by decide) (hts _ w_1323) (fun _ h9 => h9) rfl hin rfl (by decide +kernel) rfl rfl (Nat.le_of_ble_eq_true rfl) dX11_init_357 (fun H locs hP hD hS => ?_)
  have hP : va_P D vwCl [kO h0 10 [.ref q_1, .int i0, .int i1, .ref q_2, .int i2, .int (-1), .int i4, .int i5, .int i6, .int i7, .int i8, .int i9, .int i10, .int 0, .int 0, .int 0, .int 0, .int 0, .ref q_20, .ref q_21, .ref q_22, .ref q_23, .ref q_24, .null, .null, .null, .int i11, .null, .int 0, .int i12, y2, y3, y4, y5, .int i13, .int i14, .int i15, .null, .int i16, .int i17, .int i18, .int i19, y6, y7, .long i20, y8], kI cI q_1 700 (fun _ => 0), kI cI q_2 50 f_19, kI cI q_20 10 (fun _ => 0), kI cI q_21 32 (fun _ => 0), kI cI q_22 32 (fun _ => 0), kI cI q_23 48 (fun _ => 0), kI cI q_24 48 (fun _ => 0)] H := hP
  have hD : va_D A [kO h0 10 [.ref q_1, .int i0, .int i1, .ref q_2, .int i2, .int (-1), .int i4, .int i5, .int i6, .int i7, .int i8, .int i9, .int i10, .int 0, .int 0, .int 0, .int 0, .int 0, .ref q_20, .ref q_21, .ref q_22, .ref q_23, .ref q_24, .null, .null, .null, .int i11, .null, .int 0, .int i12, y2, y3, y4, y5, .int i13, .int i14, .int i15, .null, .int i16, .int i17, .int i18, .int i19, y6, y7, .long i20, y8], kI cI q_1 700 (fun _ => 0), kI cI q_2 50 f_19, kI cI q_20 10 (fun _ => 0), kI cI q_21 32 (fun _ => 0), kI cI q_22 32 (fun _ => 0), kI cI q_23 48 (fun _ => 0), kI cI q_24 48 (fun _ => 0)] := hD
  refine lv_aload_n hx hb dX11_init_360 rfl (lv_at hl 0 rfl) ?_
  refine lv_bipush (v := 48) hx hb dX11_init_361 (by decide) ?_
  refine kk_newI hx hb hts hE hP hD hS hA 48 (by decide) (by decide) (Nat.le_of_ble_eq_true rfl) (Nat.le_of_ble_eq_true rfl) (Nat.le_of_ble_eq_true rfl) dX11_init_363 (fun q_25 H hP hD hS => ?_)
  have hP : va_P D vwCl [kO h0 10 [.ref q_1, .int i0, .int i1, .ref q_2, .int i2, .int (-1), .int i4, .int i5, .int i6, .int i7, .int i8, .int i9, .int i10, .int 0, .int 0, .int 0, .int 0, .int 0, .ref q_20, .ref q_21, .ref q_22, .ref q_23, .ref q_24, .null, .null, .null, .int i11, .null, .int 0, .int i12, y2, y3, y4, y5, .int i13, .int i14, .int i15, .null, .int i16, .int i17, .int i18, .int i19, y6, y7, .long i20, y8], kI cI q_1 700 (fun _ => 0), kI cI q_2 50 f_19, kI cI q_20 10 (fun _ => 0), kI cI q_21 32 (fun _ => 0), kI cI q_22 32 (fun _ => 0), kI cI q_23 48 (fun _ => 0), kI cI q_24 48 (fun _ => 0), kI cI q_25 48 (fun _ => 0)] H := hP
  have hD : va_D A [kO h0 10 [.ref q_1, .int i0, .int i1, .ref q_2, .int i2, .int (-1), .int i4, .int i5, .int i6, .int i7, .int i8, .int i9, .int i10, .int 0, .int 0, .int 0, .int 0, .int 0, .ref q_20, .ref q_21, .ref q_22, .ref q_23, .ref q_24, .null, .null, .null, .int i11, .null, .int 0, .int i12, y2, y3, y4, y5, .int i13, .int i14, .int i15, .null, .int i16, .int i17, .int i18, .int i19, y6, y7, .long i20, y8], kI cI q_1 700 (fun _ => 0), kI cI q_2 50 f_19, kI cI q_20 10 (fun _ => 0), kI cI q_21 32 (fun _ => 0), kI cI q_22 32 (fun _ => 0), kI cI q_23 48 (fun _ => 0), kI cI q_24 48 (fun _ => 0), kI cI q_25 48 (fun _ => 0)] := hD
  refine va_putF (D := D) (ci := 10) (v := .ref q_25) (ty := (.array .int)) (C := RX11) (T := TX11) (N := 46) hx hb hts u_X11 tyX11 tyX11_ok nmX11 hown hE.1 hP hD hS 0 rfl rfl 23 (by decide) (hts _ w_1324) (fun _ h9 => h9) rfl hin rfl (by decide +kernel) rfl rfl (Nat.le_of_ble_eq_true rfl) dX11_init_365 (fun H locs hP hD hS => ?_)
  have hP : va_P D vwCl [kO h0 10 [.ref q_1, .int i0, .int i1, .ref q_2, .int i2, .int (-1), .int i4, .int i5, .int i6, .int i7, .int i8, .int i9, .int i10, .int 0, .int 0, .int 0, .int 0, .int 0, .ref q_20, .ref q_21, .ref q_22, .ref q_23, .ref q_24, .ref q_25, .null, .null, .int i11, .null, .int 0, .int i12, y2, y3, y4, y5, .int i13, .int i14, .int i15, .null, .int i16, .int i17, .int i18, .int i19, y6, y7, .long i20, y8], kI cI q_1 700 (fun _ => 0), kI cI q_2 50 f_19, kI cI q_20 10 (fun _ => 0), kI cI q_21 32 (fun _ => 0), kI cI q_22 32 (fun _ => 0), kI cI q_23 48 (fun _ => 0), kI cI q_24 48 (fun _ => 0), kI cI q_25 48 (fun _ => 0)] H := hP
  have hD : va_D A [kO h0 10 [.ref q_1, .int i0, .int i1, .ref q_2, .int i2, .int (-1), .int i4, .int i5, .int i6, .int i7, .int i8, .int i9, .int i10, .int 0, .int 0, .int 0, .int 0, .int 0, .ref q_20, .ref q_21, .ref q_22, .ref q_23, .ref q_24, .ref q_25, .null, .null, .int i11, .null, .int 0, .int i12, y2, y3, y4, y5, .int i13, .int i14, .int i15, .null, .int i16, .int i17, .int i18, .int i19, y6, y7, .long i20, y8], kI cI q_1 700 (fun _ => 0), kI cI q_2 50 f_19, kI cI q_20 10 (fun _ => 0), kI cI q_21 32 (fun _ => 0), kI cI q_22 32 (fun _ => 0), kI cI q_23 48 (fun _ => 0), kI cI q_24 48 (fun _ => 0), kI cI q_25 48 (fun _ => 0)] := hD
  refine lv_aload_n hx hb dX11_init_368 rfl (lv_at hl 0 rfl) ?_
  refine lv_bipush (v := 48) hx hb dX11_init_369 (by decide) ?_
  refine kk_newI hx hb hts hE hP hD hS hA 48 (by decide) (by decide) (Nat.le_of_ble_eq_true rfl) (Nat.le_of_ble_eq_true rfl) (Nat.le_of_ble_eq_true rfl) dX11_init_371 (fun q_26 H hP hD hS => ?_)
  have hP : va_P D vwCl [kO h0 10 [.ref q_1, .int i0, .int i1, .ref q_2, .int i2, .int (-1), .int i4, .int i5, .int i6, .int i7, .int i8, .int i9, .int i10, .int 0, .int 0, .int 0, .int 0, .int 0, .ref q_20, .ref q_21, .ref q_22, .ref q_23, .ref q_24, .ref q_25, .null, .null, .int i11, .null, .int 0, .int i12, y2, y3, y4, y5, .int i13, .int i14, .int i15, .null, .int i16, .int i17, .int i18, .int i19, y6, y7, .long i20, y8], kI cI q_1 700 (fun _ => 0), kI cI q_2 50 f_19, kI cI q_20 10 (fun _ => 0), kI cI q_21 32 (fun _ => 0), kI cI q_22 32 (fun _ => 0), kI cI q_23 48 (fun _ => 0), kI cI q_24 48 (fun _ => 0), kI cI q_25 48 (fun _ => 0), kI cI q_26 48 (fun _ => 0)] H := hP
  have hD : va_D A [kO h0 10 [.ref q_1, .int i0, .int i1, .ref q_2, .int i2, .int (-1), .int i4, .int i5, .int i6, .int i7, .int i8, .int i9, .int i10, .int 0, .int 0, .int 0, .int 0, .int 0, .ref q_20, .ref q_21, .ref q_22, .ref q_23, .ref q_24, .ref q_25, .null, .null, .int i11, .null, .int 0, .int i12, y2, y3, y4, y5, .int i13, .int i14, .int i15, .null, .int i16, .int i17, .int i18, .int i19, y6, y7, .long i20, y8], kI cI q_1 700 (fun _ => 0), kI cI q_2 50 f_19, kI cI q_20 10 (fun _ => 0), kI cI q_21 32 (fun _ => 0), kI cI q_22 32 (fun _ => 0), kI cI q_23 48 (fun _ => 0), kI cI q_24 48 (fun _ => 0), kI cI q_25 48 (fun _ => 0), kI cI q_26 48 (fun _ => 0)] := hD
  refine va_putF (D := D) (ci := 10) (v := .ref q_26) (ty := (.array .int)) (C := RX11) (T := TX11) (N := 46) hx hb hts u_X11 tyX11 tyX11_ok nmX11 hown hE.1 hP hD hS 0 rfl rfl 24 (by decide) (hts _ w_1325) (fun _ h9 => h9) rfl hin rfl (by decide +kernel) rfl rfl (Nat.le_of_ble_eq_true rfl) dX11_init_373 (fun H locs hP hD hS => ?_)
  have hP : va_P D vwCl [kO h0 10 [.ref q_1, .int i0, .int i1, .ref q_2, .int i2, .int (-1), .int i4, .int i5, .int i6, .int i7, .int i8, .int i9, .int i10, .int 0, .int 0, .int 0, .int 0, .int 0, .ref q_20, .ref q_21, .ref q_22, .ref q_23, .ref q_24, .ref q_25, .ref q_26, .null, .int i11, .null, .int 0, .int i12, y2, y3, y4, y5, .int i13, .int i14, .int i15, .null, .int i16, .int i17, .int i18, .int i19, y6, y7, .long i20, y8], kI cI q_1 700 (fun _ => 0), kI cI q_2 50 f_19, kI cI q_20 10 (fun _ => 0), kI cI q_21 32 (fun _ => 0), kI cI q_22 32 (fun _ => 0), kI cI q_23 48 (fun _ => 0), kI cI q_24 48 (fun _ => 0), kI cI q_25 48 (fun _ => 0), kI cI q_26 48 (fun _ => 0)] H := hP
  have hD : va_D A [kO h0 10 [.ref q_1, .int i0, .int i1, .ref q_2, .int i2, .int (-1), .int i4, .int i5, .int i6, .int i7, .int i8, .int i9, .int i10, .int 0, .int 0, .int 0, .int 0, .int 0, .ref q_20, .ref q_21, .ref q_22, .ref q_23, .ref q_24, .ref q_25, .ref q_26, .null, .int i11, .null, .int 0, .int i12, y2, y3, y4, y5, .int i13, .int i14, .int i15, .null, .int i16, .int i17, .int i18, .int i19, y6, y7, .long i20, y8], kI cI q_1 700 (fun _ => 0), kI cI q_2 50 f_19, kI cI q_20 10 (fun _ => 0), kI cI q_21 32 (fun _ => 0), kI cI q_22 32 (fun _ => 0), kI cI q_23 48 (fun _ => 0), kI cI q_24 48 (fun _ => 0), kI cI q_25 48 (fun _ => 0), kI cI q_26 48 (fun _ => 0)] := hD
  refine lv_aload_n hx hb dX11_init_376 rfl (lv_at hl 0 rfl) ?_
  refine lv_bipush (v := 48) hx hb dX11_init_377 (by decide) ?_
  refine kk_newI hx hb hts hE hP hD hS hA 48 (by decide) (by decide) (Nat.le_of_ble_eq_true rfl) (Nat.le_of_ble_eq_true rfl) (Nat.le_of_ble_eq_true rfl) dX11_init_379 (fun q_27 H hP hD hS => ?_)
  have hP : va_P D vwCl [kO h0 10 [.ref q_1, .int i0, .int i1, .ref q_2, .int i2, .int (-1), .int i4, .int i5, .int i6, .int i7, .int i8, .int i9, .int i10, .int 0, .int 0, .int 0, .int 0, .int 0, .ref q_20, .ref q_21, .ref q_22, .ref q_23, .ref q_24, .ref q_25, .ref q_26, .null, .int i11, .null, .int 0, .int i12, y2, y3, y4, y5, .int i13, .int i14, .int i15, .null, .int i16, .int i17, .int i18, .int i19, y6, y7, .long i20, y8], kI cI q_1 700 (fun _ => 0), kI cI q_2 50 f_19, kI cI q_20 10 (fun _ => 0), kI cI q_21 32 (fun _ => 0), kI cI q_22 32 (fun _ => 0), kI cI q_23 48 (fun _ => 0), kI cI q_24 48 (fun _ => 0), kI cI q_25 48 (fun _ => 0), kI cI q_26 48 (fun _ => 0), kI cI q_27 48 (fun _ => 0)] H := hP
  have hD : va_D A [kO h0 10 [.ref q_1, .int i0, .int i1, .ref q_2, .int i2, .int (-1), .int i4, .int i5, .int i6, .int i7, .int i8, .int i9, .int i10, .int 0, .int 0, .int 0, .int 0, .int 0, .ref q_20, .ref q_21, .ref q_22, .ref q_23, .ref q_24, .ref q_25, .ref q_26, .null, .int i11, .null, .int 0, .int i12, y2, y3, y4, y5, .int i13, .int i14, .int i15, .null, .int i16, .int i17, .int i18, .int i19, y6, y7, .long i20, y8], kI cI q_1 700 (fun _ => 0), kI cI q_2 50 f_19, kI cI q_20 10 (fun _ => 0), kI cI q_21 32 (fun _ => 0), kI cI q_22 32 (fun _ => 0), kI cI q_23 48 (fun _ => 0), kI cI q_24 48 (fun _ => 0), kI cI q_25 48 (fun _ => 0), kI cI q_26 48 (fun _ => 0), kI cI q_27 48 (fun _ => 0)] := hD
  refine va_putF (D := D) (ci := 10) (v := .ref q_27) (ty := (.array .int)) (C := RX11) (T := TX11) (N := 46) hx hb hts u_X11 tyX11 tyX11_ok nmX11 hown hE.1 hP hD hS 0 rfl rfl 25 (by decide) (hts _ w_1326) (fun _ h9 => h9) rfl hin rfl (by decide +kernel) rfl rfl (Nat.le_of_ble_eq_true rfl) dX11_init_381 (fun H locs hP hD hS => ?_)
  have hP : va_P D vwCl [kO h0 10 [.ref q_1, .int i0, .int i1, .ref q_2, .int i2, .int (-1), .int i4, .int i5, .int i6, .int i7, .int i8, .int i9, .int i10, .int 0, .int 0, .int 0, .int 0, .int 0, .ref q_20, .ref q_21, .ref q_22, .ref q_23, .ref q_24, .ref q_25, .ref q_26, .ref q_27, .int i11, .null, .int 0, .int i12, y2, y3, y4, y5, .int i13, .int i14, .int i15, .null, .int i16, .int i17, .int i18, .int i19, y6, y7, .long i20, y8], kI cI q_1 700 (fun _ => 0), kI cI q_2 50 f_19, kI cI q_20 10 (fun _ => 0), kI cI q_21 32 (fun _ => 0), kI cI q_22 32 (fun _ => 0), kI cI q_23 48 (fun _ => 0), kI cI q_24 48 (fun _ => 0), kI cI q_25 48 (fun _ => 0), kI cI q_26 48 (fun _ => 0), kI cI q_27 48 (fun _ => 0)] H := hP
  have hD : va_D A [kO h0 10 [.ref q_1, .int i0, .int i1, .ref q_2, .int i2, .int (-1), .int i4, .int i5, .int i6, .int i7, .int i8, .int i9, .int i10, .int 0, .int 0, .int 0, .int 0, .int 0, .ref q_20, .ref q_21, .ref q_22, .ref q_23, .ref q_24, .ref q_25, .ref q_26, .ref q_27, .int i11, .null, .int 0, .int i12, y2, y3, y4, y5, .int i13, .int i14, .int i15, .null, .int i16, .int i17, .int i18, .int i19, y6, y7, .long i20, y8], kI cI q_1 700 (fun _ => 0), kI cI q_2 50 f_19, kI cI q_20 10 (fun _ => 0), kI cI q_21 32 (fun _ => 0), kI cI q_22 32 (fun _ => 0), kI cI q_23 48 (fun _ => 0), kI cI q_24 48 (fun _ => 0), kI cI q_25 48 (fun _ => 0), kI cI q_26 48 (fun _ => 0), kI cI q_27 48 (fun _ => 0)] := hD
  refine lv_aload_n hx hb dX11_init_384 rfl (lv_at hl 0 rfl) ?_
  refine lv_sipush (v := 5760) hx hb dX11_init_385 (by decide) ?_
  refine kk_newI hx hb hts hE hP hD hS hA 5760 (by decide) (by decide) (Nat.le_of_ble_eq_true rfl) (Nat.le_of_ble_eq_true rfl) (Nat.le_of_ble_eq_true rfl) dX11_init_388 (fun q_28 H hP hD hS => ?_)
  have hP : va_P D vwCl [kO h0 10 [.ref q_1, .int i0, .int i1, .ref q_2, .int i2, .int (-1), .int i4, .int i5, .int i6, .int i7, .int i8, .int i9, .int i10, .int 0, .int 0, .int 0, .int 0, .int 0, .ref q_20, .ref q_21, .ref q_22, .ref q_23, .ref q_24, .ref q_25, .ref q_26, .ref q_27, .int i11, .null, .int 0, .int i12, y2, y3, y4, y5, .int i13, .int i14, .int i15, .null, .int i16, .int i17, .int i18, .int i19, y6, y7, .long i20, y8], kI cI q_1 700 (fun _ => 0), kI cI q_2 50 f_19, kI cI q_20 10 (fun _ => 0), kI cI q_21 32 (fun _ => 0), kI cI q_22 32 (fun _ => 0), kI cI q_23 48 (fun _ => 0), kI cI q_24 48 (fun _ => 0), kI cI q_25 48 (fun _ => 0), kI cI q_26 48 (fun _ => 0), kI cI q_27 48 (fun _ => 0), kI cI q_28 5760 (fun _ => 0)] H := hP
  have hD : va_D A [kO h0 10 [.ref q_1, .int i0, .int i1, .ref q_2, .int i2, .int (-1), .int i4, .int i5, .int i6, .int i7, .int i8, .int i9, .int i10, .int 0, .int 0, .int 0, .int 0, .int 0, .ref q_20, .ref q_21, .ref q_22, .ref q_23, .ref q_24, .ref q_25, .ref q_26, .ref q_27, .int i11, .null, .int 0, .int i12, y2, y3, y4, y5, .int i13, .int i14, .int i15, .null, .int i16, .int i17, .int i18, .int i19, y6, y7, .long i20, y8], kI cI q_1 700 (fun _ => 0), kI cI q_2 50 f_19, kI cI q_20 10 (fun _ => 0), kI cI q_21 32 (fun _ => 0), kI cI q_22 32 (fun _ => 0), kI cI q_23 48 (fun _ => 0), kI cI q_24 48 (fun _ => 0), kI cI q_25 48 (fun _ => 0), kI cI q_26 48 (fun _ => 0), kI cI q_27 48 (fun _ => 0), kI cI q_28 5760 (fun _ => 0)] := hD
  refine va_putF (D := D) (ci := 10) (v := .ref q_28) (ty := (.array .int)) (C := RX11) (T := TX11) (N := 46) hx hb hts u_X11 tyX11 tyX11_ok nmX11 hown hE.1 hP hD hS 0 rfl rfl 27 (by decide) (hts _ w_1328) (fun _ h9 => h9) rfl hin rfl (by decide +kernel) rfl rfl (Nat.le_of_ble_eq_true rfl) dX11_init_390 (fun H locs hP hD hS => ?_)
  have hP : va_P D vwCl [kO h0 10 [.ref q_1, .int i0, .int i1, .ref q_2, .int i2, .int (-1), .int i4, .int i5, .int i6, .int i7, .int i8, .int i9, .int i10, .int 0, .int 0, .int 0, .int 0, .int 0, .ref q_20, .ref q_21, .ref q_22, .ref q_23, .ref q_24, .ref q_25, .ref q_26, .ref q_27, .int i11, .ref q_28, .int 0, .int i12, y2, y3, y4, y5, .int i13, .int i14, .int i15, .null, .int i16, .int i17, .int i18, .int i19, y6, y7, .long i20, y8], kI cI q_1 700 (fun _ => 0), kI cI q_2 50 f_19, kI cI q_20 10 (fun _ => 0), kI cI q_21 32 (fun _ => 0), kI cI q_22 32 (fun _ => 0), kI cI q_23 48 (fun _ => 0), kI cI q_24 48 (fun _ => 0), kI cI q_25 48 (fun _ => 0), kI cI q_26 48 (fun _ => 0), kI cI q_27 48 (fun _ => 0), kI cI q_28 5760 (fun _ => 0)] H := hP
  have hD : va_D A [kO h0 10 [.ref q_1, .int i0, .int i1, .ref q_2, .int i2, .int (-1), .int i4, .int i5, .int i6, .int i7, .int i8, .int i9, .int i10, .int 0, .int 0, .int 0, .int 0, .int 0, .ref q_20, .ref q_21, .ref q_22, .ref q_23, .ref q_24, .ref q_25, .ref q_26, .ref q_27, .int i11, .ref q_28, .int 0, .int i12, y2, y3, y4, y5, .int i13, .int i14, .int i15, .null, .int i16, .int i17, .int i18, .int i19, y6, y7, .long i20, y8], kI cI q_1 700 (fun _ => 0), kI cI q_2 50 f_19, kI cI q_20 10 (fun _ => 0), kI cI q_21 32 (fun _ => 0), kI cI q_22 32 (fun _ => 0), kI cI q_23 48 (fun _ => 0), kI cI q_24 48 (fun _ => 0), kI cI q_25 48 (fun _ => 0), kI cI q_26 48 (fun _ => 0), kI cI q_27 48 (fun _ => 0), kI cI q_28 5760 (fun _ => 0)] := hD
  refine lv_aload_n hx hb dX11_init_393 rfl (lv_at hl 0 rfl) ?_
  refine lv_sipush (v := 1200) hx hb dX11_init_394 (by decide) ?_
  refine kk_newI hx hb hts hE hP hD hS hA 1200 (by decide) (by decide) (Nat.le_of_ble_eq_true rfl) (Nat.le_of_ble_eq_true rfl) (Nat.le_of_ble_eq_true rfl) dX11_init_397 (fun q_29 H hP hD hS => ?_)
  have hP : va_P D vwCl [kO h0 10 [.ref q_1, .int i0, .int i1, .ref q_2, .int i2, .int (-1), .int i4, .int i5, .int i6, .int i7, .int i8, .int i9, .int i10, .int 0, .int 0, .int 0, .int 0, .int 0, .ref q_20, .ref q_21, .ref q_22, .ref q_23, .ref q_24, .ref q_25, .ref q_26, .ref q_27, .int i11, .ref q_28, .int 0, .int i12, y2, y3, y4, y5, .int i13, .int i14, .int i15, .null, .int i16, .int i17, .int i18, .int i19, y6, y7, .long i20, y8], kI cI q_1 700 (fun _ => 0), kI cI q_2 50 f_19, kI cI q_20 10 (fun _ => 0), kI cI q_21 32 (fun _ => 0), kI cI q_22 32 (fun _ => 0), kI cI q_23 48 (fun _ => 0), kI cI q_24 48 (fun _ => 0), kI cI q_25 48 (fun _ => 0), kI cI q_26 48 (fun _ => 0), kI cI q_27 48 (fun _ => 0), kI cI q_28 5760 (fun _ => 0), kI cI q_29 1200 (fun _ => 0)] H := hP
  have hD : va_D A [kO h0 10 [.ref q_1, .int i0, .int i1, .ref q_2, .int i2, .int (-1), .int i4, .int i5, .int i6, .int i7, .int i8, .int i9, .int i10, .int 0, .int 0, .int 0, .int 0, .int 0, .ref q_20, .ref q_21, .ref q_22, .ref q_23, .ref q_24, .ref q_25, .ref q_26, .ref q_27, .int i11, .ref q_28, .int 0, .int i12, y2, y3, y4, y5, .int i13, .int i14, .int i15, .null, .int i16, .int i17, .int i18, .int i19, y6, y7, .long i20, y8], kI cI q_1 700 (fun _ => 0), kI cI q_2 50 f_19, kI cI q_20 10 (fun _ => 0), kI cI q_21 32 (fun _ => 0), kI cI q_22 32 (fun _ => 0), kI cI q_23 48 (fun _ => 0), kI cI q_24 48 (fun _ => 0), kI cI q_25 48 (fun _ => 0), kI cI q_26 48 (fun _ => 0), kI cI q_27 48 (fun _ => 0), kI cI q_28 5760 (fun _ => 0), kI cI q_29 1200 (fun _ => 0)] := hD
  refine va_putF (D := D) (ci := 10) (v := .ref q_29) (ty := (.array .int)) (C := RX11) (T := TX11) (N := 46) hx hb hts u_X11 tyX11 tyX11_ok nmX11 hown hE.1 hP hD hS 0 rfl rfl 30 (by decide) (hts _ w_1331) (fun _ h9 => h9) rfl hin rfl (by decide +kernel) rfl rfl (Nat.le_of_ble_eq_true rfl) dX11_init_399 (fun H locs hP hD hS => ?_)
  have hP : va_P D vwCl [kO h0 10 [.ref q_1, .int i0, .int i1, .ref q_2, .int i2, .int (-1), .int i4, .int i5, .int i6, .int i7, .int i8, .int i9, .int i10, .int 0, .int 0, .int 0, .int 0, .int 0, .ref q_20, .ref q_21, .ref q_22, .ref q_23, .ref q_24, .ref q_25, .ref q_26, .ref q_27, .int i11, .ref q_28, .int 0, .int i12, .ref q_29, y3, y4, y5, .int i13, .int i14, .int i15, .null, .int i16, .int i17, .int i18, .int i19, y6, y7, .long i20, y8], kI cI q_1 700 (fun _ => 0), kI cI q_2 50 f_19, kI cI q_20 10 (fun _ => 0), kI cI q_21 32 (fun _ => 0), kI cI q_22 32 (fun _ => 0), kI cI q_23 48 (fun _ => 0), kI cI q_24 48 (fun _ => 0), kI cI q_25 48 (fun _ => 0), kI cI q_26 48 (fun _ => 0), kI cI q_27 48 (fun _ => 0), kI cI q_28 5760 (fun _ => 0), kI cI q_29 1200 (fun _ => 0)] H := hP
  have hD : va_D A [kO h0 10 [.ref q_1, .int i0, .int i1, .ref q_2, .int i2, .int (-1), .int i4, .int i5, .int i6, .int i7, .int i8, .int i9, .int i10, .int 0, .int 0, .int 0, .int 0, .int 0, .ref q_20, .ref q_21, .ref q_22, .ref q_23, .ref q_24, .ref q_25, .ref q_26, .ref q_27, .int i11, .ref q_28, .int 0, .int i12, .ref q_29, y3, y4, y5, .int i13, .int i14, .int i15, .null, .int i16, .int i17, .int i18, .int i19, y6, y7, .long i20, y8], kI cI q_1 700 (fun _ => 0), kI cI q_2 50 f_19, kI cI q_20 10 (fun _ => 0), kI cI q_21 32 (fun _ => 0), kI cI q_22 32 (fun _ => 0), kI cI q_23 48 (fun _ => 0), kI cI q_24 48 (fun _ => 0), kI cI q_25 48 (fun _ => 0), kI cI q_26 48 (fun _ => 0), kI cI q_27 48 (fun _ => 0), kI cI q_28 5760 (fun _ => 0), kI cI q_29 1200 (fun _ => 0)] := hD
  refine lv_aload_n hx hb dX11_init_402 rfl (lv_at hl 0 rfl) ?_
  refine lv_sipush (v := 1200) hx hb dX11_init_403 (by decide) ?_
  refine kk_newI hx hb hts hE hP hD hS hA 1200 (by decide) (by decide) (Nat.le_of_ble_eq_true rfl) (Nat.le_of_ble_eq_true rfl) (Nat.le_of_ble_eq_true rfl) dX11_init_406 (fun q_30 H hP hD hS => ?_)
  have hP : va_P D vwCl [kO h0 10 [.ref q_1, .int i0, .int i1, .ref q_2, .int i2, .int (-1), .int i4, .int i5, .int i6, .int i7, .int i8, .int i9, .int i10, .int 0, .int 0, .int 0, .int 0, .int 0, .ref q_20, .ref q_21, .ref q_22, .ref q_23, .ref q_24, .ref q_25, .ref q_26, .ref q_27, .int i11, .ref q_28, .int 0, .int i12, .ref q_29, y3, y4, y5, .int i13, .int i14, .int i15, .null, .int i16, .int i17, .int i18, .int i19, y6, y7, .long i20, y8], kI cI q_1 700 (fun _ => 0), kI cI q_2 50 f_19, kI cI q_20 10 (fun _ => 0), kI cI q_21 32 (fun _ => 0), kI cI q_22 32 (fun _ => 0), kI cI q_23 48 (fun _ => 0), kI cI q_24 48 (fun _ => 0), kI cI q_25 48 (fun _ => 0), kI cI q_26 48 (fun _ => 0), kI cI q_27 48 (fun _ => 0), kI cI q_28 5760 (fun _ => 0), kI cI q_29 1200 (fun _ => 0), kI cI q_30 1200 (fun _ => 0)] H := hP
  have hD : va_D A [kO h0 10 [.ref q_1, .int i0, .int i1, .ref q_2, .int i2, .int (-1), .int i4, .int i5, .int i6, .int i7, .int i8, .int i9, .int i10, .int 0, .int 0, .int 0, .int 0, .int 0, .ref q_20, .ref q_21, .ref q_22, .ref q_23, .ref q_24, .ref q_25, .ref q_26, .ref q_27, .int i11, .ref q_28, .int 0, .int i12, .ref q_29, y3, y4, y5, .int i13, .int i14, .int i15, .null, .int i16, .int i17, .int i18, .int i19, y6, y7, .long i20, y8], kI cI q_1 700 (fun _ => 0), kI cI q_2 50 f_19, kI cI q_20 10 (fun _ => 0), kI cI q_21 32 (fun _ => 0), kI cI q_22 32 (fun _ => 0), kI cI q_23 48 (fun _ => 0), kI cI q_24 48 (fun _ => 0), kI cI q_25 48 (fun _ => 0), kI cI q_26 48 (fun _ => 0), kI cI q_27 48 (fun _ => 0), kI cI q_28 5760 (fun _ => 0), kI cI q_29 1200 (fun _ => 0), kI cI q_30 1200 (fun _ => 0)] := hD
  refine va_putF (D := D) (ci := 10) (v := .ref q_30) (ty := (.array .int)) (C := RX11) (T := TX11) (N := 46) hx hb hts u_X11 tyX11 tyX11_ok nmX11 hown hE.1 hP hD hS 0 rfl rfl 31 (by decide) (hts _ w_1332) (fun _ h9 => h9) rfl hin rfl (by decide +kernel) rfl rfl (Nat.le_of_ble_eq_true rfl) dX11_init_408 (fun H locs hP hD hS => ?_)
  have hP : va_P D vwCl [kO h0 10 [.ref q_1, .int i0, .int i1, .ref q_2, .int i2, .int (-1), .int i4, .int i5, .int i6, .int i7, .int i8, .int i9, .int i10, .int 0, .int 0, .int 0, .int 0, .int 0, .ref q_20, .ref q_21, .ref q_22, .ref q_23, .ref q_24, .ref q_25, .ref q_26, .ref q_27, .int i11, .ref q_28, .int 0, .int i12, .ref q_29, .ref q_30, y4, y5, .int i13, .int i14, .int i15, .null, .int i16, .int i17, .int i18, .int i19, y6, y7, .long i20, y8], kI cI q_1 700 (fun _ => 0), kI cI q_2 50 f_19, kI cI q_20 10 (fun _ => 0), kI cI q_21 32 (fun _ => 0), kI cI q_22 32 (fun _ => 0), kI cI q_23 48 (fun _ => 0), kI cI q_24 48 (fun _ => 0), kI cI q_25 48 (fun _ => 0), kI cI q_26 48 (fun _ => 0), kI cI q_27 48 (fun _ => 0), kI cI q_28 5760 (fun _ => 0), kI cI q_29 1200 (fun _ => 0), kI cI q_30 1200 (fun _ => 0)] H := hP
  have hD : va_D A [kO h0 10 [.ref q_1, .int i0, .int i1, .ref q_2, .int i2, .int (-1), .int i4, .int i5, .int i6, .int i7, .int i8, .int i9, .int i10, .int 0, .int 0, .int 0, .int 0, .int 0, .ref q_20, .ref q_21, .ref q_22, .ref q_23, .ref q_24, .ref q_25, .ref q_26, .ref q_27, .int i11, .ref q_28, .int 0, .int i12, .ref q_29, .ref q_30, y4, y5, .int i13, .int i14, .int i15, .null, .int i16, .int i17, .int i18, .int i19, y6, y7, .long i20, y8], kI cI q_1 700 (fun _ => 0), kI cI q_2 50 f_19, kI cI q_20 10 (fun _ => 0), kI cI q_21 32 (fun _ => 0), kI cI q_22 32 (fun _ => 0), kI cI q_23 48 (fun _ => 0), kI cI q_24 48 (fun _ => 0), kI cI q_25 48 (fun _ => 0), kI cI q_26 48 (fun _ => 0), kI cI q_27 48 (fun _ => 0), kI cI q_28 5760 (fun _ => 0), kI cI q_29 1200 (fun _ => 0), kI cI q_30 1200 (fun _ => 0)] := hD
  refine lv_aload_n hx hb dX11_init_411 rfl (lv_at hl 0 rfl) ?_
  refine lv_sipush (v := 1200) hx hb dX11_init_412 (by decide) ?_
  refine kk_newI hx hb hts hE hP hD hS hA 1200 (by decide) (by decide) (Nat.le_of_ble_eq_true rfl) (Nat.le_of_ble_eq_true rfl) (Nat.le_of_ble_eq_true rfl) dX11_init_415 (fun q_31 H hP hD hS => ?_)
  have hP : va_P D vwCl [kO h0 10 [.ref q_1, .int i0, .int i1, .ref q_2, .int i2, .int (-1), .int i4, .int i5, .int i6, .int i7, .int i8, .int i9, .int i10, .int 0, .int 0, .int 0, .int 0, .int 0, .ref q_20, .ref q_21, .ref q_22, .ref q_23, .ref q_24, .ref q_25, .ref q_26, .ref q_27, .int i11, .ref q_28, .int 0, .int i12, .ref q_29, .ref q_30, y4, y5, .int i13, .int i14, .int i15, .null, .int i16, .int i17, .int i18, .int i19, y6, y7, .long i20, y8], kI cI q_1 700 (fun _ => 0), kI cI q_2 50 f_19, kI cI q_20 10 (fun _ => 0), kI cI q_21 32 (fun _ => 0), kI cI q_22 32 (fun _ => 0), kI cI q_23 48 (fun _ => 0), kI cI q_24 48 (fun _ => 0), kI cI q_25 48 (fun _ => 0), kI cI q_26 48 (fun _ => 0), kI cI q_27 48 (fun _ => 0), kI cI q_28 5760 (fun _ => 0), kI cI q_29 1200 (fun _ => 0), kI cI q_30 1200 (fun _ => 0), kI cI q_31 1200 (fun _ => 0)] H := hP
  have hD : va_D A [kO h0 10 [.ref q_1, .int i0, .int i1, .ref q_2, .int i2, .int (-1), .int i4, .int i5, .int i6, .int i7, .int i8, .int i9, .int i10, .int 0, .int 0, .int 0, .int 0, .int 0, .ref q_20, .ref q_21, .ref q_22, .ref q_23, .ref q_24, .ref q_25, .ref q_26, .ref q_27, .int i11, .ref q_28, .int 0, .int i12, .ref q_29, .ref q_30, y4, y5, .int i13, .int i14, .int i15, .null, .int i16, .int i17, .int i18, .int i19, y6, y7, .long i20, y8], kI cI q_1 700 (fun _ => 0), kI cI q_2 50 f_19, kI cI q_20 10 (fun _ => 0), kI cI q_21 32 (fun _ => 0), kI cI q_22 32 (fun _ => 0), kI cI q_23 48 (fun _ => 0), kI cI q_24 48 (fun _ => 0), kI cI q_25 48 (fun _ => 0), kI cI q_26 48 (fun _ => 0), kI cI q_27 48 (fun _ => 0), kI cI q_28 5760 (fun _ => 0), kI cI q_29 1200 (fun _ => 0), kI cI q_30 1200 (fun _ => 0), kI cI q_31 1200 (fun _ => 0)] := hD
  refine va_putF (D := D) (ci := 10) (v := .ref q_31) (ty := (.array .int)) (C := RX11) (T := TX11) (N := 46) hx hb hts u_X11 tyX11 tyX11_ok nmX11 hown hE.1 hP hD hS 0 rfl rfl 32 (by decide) (hts _ w_1333) (fun _ h9 => h9) rfl hin rfl (by decide +kernel) rfl rfl (Nat.le_of_ble_eq_true rfl) dX11_init_417 (fun H locs hP hD hS => ?_)
  have hP : va_P D vwCl [kO h0 10 [.ref q_1, .int i0, .int i1, .ref q_2, .int i2, .int (-1), .int i4, .int i5, .int i6, .int i7, .int i8, .int i9, .int i10, .int 0, .int 0, .int 0, .int 0, .int 0, .ref q_20, .ref q_21, .ref q_22, .ref q_23, .ref q_24, .ref q_25, .ref q_26, .ref q_27, .int i11, .ref q_28, .int 0, .int i12, .ref q_29, .ref q_30, .ref q_31, y5, .int i13, .int i14, .int i15, .null, .int i16, .int i17, .int i18, .int i19, y6, y7, .long i20, y8], kI cI q_1 700 (fun _ => 0), kI cI q_2 50 f_19, kI cI q_20 10 (fun _ => 0), kI cI q_21 32 (fun _ => 0), kI cI q_22 32 (fun _ => 0), kI cI q_23 48 (fun _ => 0), kI cI q_24 48 (fun _ => 0), kI cI q_25 48 (fun _ => 0), kI cI q_26 48 (fun _ => 0), kI cI q_27 48 (fun _ => 0), kI cI q_28 5760 (fun _ => 0), kI cI q_29 1200 (fun _ => 0), kI cI q_30 1200 (fun _ => 0), kI cI q_31 1200 (fun _ => 0)] H := hP
  have hD : va_D A [kO h0 10 [.ref q_1, .int i0, .int i1, .ref q_2, .int i2, .int (-1), .int i4, .int i5, .int i6, .int i7, .int i8, .int i9, .int i10, .int 0, .int 0, .int 0, .int 0, .int 0, .ref q_20, .ref q_21, .ref q_22, .ref q_23, .ref q_24, .ref q_25, .ref q_26, .ref q_27, .int i11, .ref q_28, .int 0, .int i12, .ref q_29, .ref q_30, .ref q_31, y5, .int i13, .int i14, .int i15, .null, .int i16, .int i17, .int i18, .int i19, y6, y7, .long i20, y8], kI cI q_1 700 (fun _ => 0), kI cI q_2 50 f_19, kI cI q_20 10 (fun _ => 0), kI cI q_21 32 (fun _ => 0), kI cI q_22 32 (fun _ => 0), kI cI q_23 48 (fun _ => 0), kI cI q_24 48 (fun _ => 0), kI cI q_25 48 (fun _ => 0), kI cI q_26 48 (fun _ => 0), kI cI q_27 48 (fun _ => 0), kI cI q_28 5760 (fun _ => 0), kI cI q_29 1200 (fun _ => 0), kI cI q_30 1200 (fun _ => 0), kI cI q_31 1200 (fun _ => 0)] := hD
  refine lv_aload_n hx hb dX11_init_420 rfl (lv_at hl 0 rfl) ?_
  refine lv_sipush (v := 1200) hx hb dX11_init_421 (by decide) ?_
  refine kk_newI hx hb hts hE hP hD hS hA 1200 (by decide) (by decide) (Nat.le_of_ble_eq_true rfl) (Nat.le_of_ble_eq_true rfl) (Nat.le_of_ble_eq_true rfl) dX11_init_424 (fun q_32 H hP hD hS => ?_)
  have hP : va_P D vwCl [kO h0 10 [.ref q_1, .int i0, .int i1, .ref q_2, .int i2, .int (-1), .int i4, .int i5, .int i6, .int i7, .int i8, .int i9, .int i10, .int 0, .int 0, .int 0, .int 0, .int 0, .ref q_20, .ref q_21, .ref q_22, .ref q_23, .ref q_24, .ref q_25, .ref q_26, .ref q_27, .int i11, .ref q_28, .int 0, .int i12, .ref q_29, .ref q_30, .ref q_31, y5, .int i13, .int i14, .int i15, .null, .int i16, .int i17, .int i18, .int i19, y6, y7, .long i20, y8], kI cI q_1 700 (fun _ => 0), kI cI q_2 50 f_19, kI cI q_20 10 (fun _ => 0), kI cI q_21 32 (fun _ => 0), kI cI q_22 32 (fun _ => 0), kI cI q_23 48 (fun _ => 0), kI cI q_24 48 (fun _ => 0), kI cI q_25 48 (fun _ => 0), kI cI q_26 48 (fun _ => 0), kI cI q_27 48 (fun _ => 0), kI cI q_28 5760 (fun _ => 0), kI cI q_29 1200 (fun _ => 0), kI cI q_30 1200 (fun _ => 0), kI cI q_31 1200 (fun _ => 0), kI cI q_32 1200 (fun _ => 0)] H := hP
  have hD : va_D A [kO h0 10 [.ref q_1, .int i0, .int i1, .ref q_2, .int i2, .int (-1), .int i4, .int i5, .int i6, .int i7, .int i8, .int i9, .int i10, .int 0, .int 0, .int 0, .int 0, .int 0, .ref q_20, .ref q_21, .ref q_22, .ref q_23, .ref q_24, .ref q_25, .ref q_26, .ref q_27, .int i11, .ref q_28, .int 0, .int i12, .ref q_29, .ref q_30, .ref q_31, y5, .int i13, .int i14, .int i15, .null, .int i16, .int i17, .int i18, .int i19, y6, y7, .long i20, y8], kI cI q_1 700 (fun _ => 0), kI cI q_2 50 f_19, kI cI q_20 10 (fun _ => 0), kI cI q_21 32 (fun _ => 0), kI cI q_22 32 (fun _ => 0), kI cI q_23 48 (fun _ => 0), kI cI q_24 48 (fun _ => 0), kI cI q_25 48 (fun _ => 0), kI cI q_26 48 (fun _ => 0), kI cI q_27 48 (fun _ => 0), kI cI q_28 5760 (fun _ => 0), kI cI q_29 1200 (fun _ => 0), kI cI q_30 1200 (fun _ => 0), kI cI q_31 1200 (fun _ => 0), kI cI q_32 1200 (fun _ => 0)] := hD
  refine va_putF (D := D) (ci := 10) (v := .ref q_32) (ty := (.array .int)) (C := RX11) (T := TX11) (N := 46) hx hb hts u_X11 tyX11 tyX11_ok nmX11 hown hE.1 hP hD hS 0 rfl rfl 33 (by decide) (hts _ w_1334) (fun _ h9 => h9) rfl hin rfl (by decide +kernel) rfl rfl (Nat.le_of_ble_eq_true rfl) dX11_init_426 (fun H locs hP hD hS => ?_)
  have hP : va_P D vwCl [kO h0 10 [.ref q_1, .int i0, .int i1, .ref q_2, .int i2, .int (-1), .int i4, .int i5, .int i6, .int i7, .int i8, .int i9, .int i10, .int 0, .int 0, .int 0, .int 0, .int 0, .ref q_20, .ref q_21, .ref q_22, .ref q_23, .ref q_24, .ref q_25, .ref q_26, .ref q_27, .int i11, .ref q_28, .int 0, .int i12, .ref q_29, .ref q_30, .ref q_31, .ref q_32, .int i13, .int i14, .int i15, .null, .int i16, .int i17, .int i18, .int i19, y6, y7, .long i20, y8], kI cI q_1 700 (fun _ => 0), kI cI q_2 50 f_19, kI cI q_20 10 (fun _ => 0), kI cI q_21 32 (fun _ => 0), kI cI q_22 32 (fun _ => 0), kI cI q_23 48 (fun _ => 0), kI cI q_24 48 (fun _ => 0), kI cI q_25 48 (fun _ => 0), kI cI q_26 48 (fun _ => 0), kI cI q_27 48 (fun _ => 0), kI cI q_28 5760 (fun _ => 0), kI cI q_29 1200 (fun _ => 0), kI cI q_30 1200 (fun _ => 0), kI cI q_31 1200 (fun _ => 0), kI cI q_32 1200 (fun _ => 0)] H := hP
  have hD : va_D A [kO h0 10 [.ref q_1, .int i0, .int i1, .ref q_2, .int i2, .int (-1), .int i4, .int i5, .int i6, .int i7, .int i8, .int i9, .int i10, .int 0, .int 0, .int 0, .int 0, .int 0, .ref q_20, .ref q_21, .ref q_22, .ref q_23, .ref q_24, .ref q_25, .ref q_26, .ref q_27, .int i11, .ref q_28, .int 0, .int i12, .ref q_29, .ref q_30, .ref q_31, .ref q_32, .int i13, .int i14, .int i15, .null, .int i16, .int i17, .int i18, .int i19, y6, y7, .long i20, y8], kI cI q_1 700 (fun _ => 0), kI cI q_2 50 f_19, kI cI q_20 10 (fun _ => 0), kI cI q_21 32 (fun _ => 0), kI cI q_22 32 (fun _ => 0), kI cI q_23 48 (fun _ => 0), kI cI q_24 48 (fun _ => 0), kI cI q_25 48 (fun _ => 0), kI cI q_26 48 (fun _ => 0), kI cI q_27 48 (fun _ => 0), kI cI q_28 5760 (fun _ => 0), kI cI q_29 1200 (fun _ => 0), kI cI q_30 1200 (fun _ => 0), kI cI q_31 1200 (fun _ => 0), kI cI q_32 1200 (fun _ => 0)] := hD
  refine lv_aload_n hx hb dX11_init_429 rfl (lv_at hl 0 rfl) ?_
  refine lv_bipush (v := 24) hx hb dX11_init_430 (by decide) ?_
  refine kk_newI hx hb hts hE hP hD hS hA 24 (by decide) (by decide) (Nat.le_of_ble_eq_true rfl) (Nat.le_of_ble_eq_true rfl) (Nat.le_of_ble_eq_true rfl) dX11_init_432 (fun q_33 H hP hD hS => ?_)
  have hP : va_P D vwCl [kO h0 10 [.ref q_1, .int i0, .int i1, .ref q_2, .int i2, .int (-1), .int i4, .int i5, .int i6, .int i7, .int i8, .int i9, .int i10, .int 0, .int 0, .int 0, .int 0, .int 0, .ref q_20, .ref q_21, .ref q_22, .ref q_23, .ref q_24, .ref q_25, .ref q_26, .ref q_27, .int i11, .ref q_28, .int 0, .int i12, .ref q_29, .ref q_30, .ref q_31, .ref q_32, .int i13, .int i14, .int i15, .null, .int i16, .int i17, .int i18, .int i19, y6, y7, .long i20, y8], kI cI q_1 700 (fun _ => 0), kI cI q_2 50 f_19, kI cI q_20 10 (fun _ => 0), kI cI q_21 32 (fun _ => 0), kI cI q_22 32 (fun _ => 0), kI cI q_23 48 (fun _ => 0), kI cI q_24 48 (fun _ => 0), kI cI q_25 48 (fun _ => 0), kI cI q_26 48 (fun _ => 0), kI cI q_27 48 (fun _ => 0), kI cI q_28 5760 (fun _ => 0), kI cI q_29 1200 (fun _ => 0), kI cI q_30 1200 (fun _ => 0), kI cI q_31 1200 (fun _ => 0), kI cI q_32 1200 (fun _ => 0), kI cI q_33 24 (fun _ => 0)] H := hP
  have hD : va_D A [kO h0 10 [.ref q_1, .int i0, .int i1, .ref q_2, .int i2, .int (-1), .int i4, .int i5, .int i6, .int i7, .int i8, .int i9, .int i10, .int 0, .int 0, .int 0, .int 0, .int 0, .ref q_20, .ref q_21, .ref q_22, .ref q_23, .ref q_24, .ref q_25, .ref q_26, .ref q_27, .int i11, .ref q_28, .int 0, .int i12, .ref q_29, .ref q_30, .ref q_31, .ref q_32, .int i13, .int i14, .int i15, .null, .int i16, .int i17, .int i18, .int i19, y6, y7, .long i20, y8], kI cI q_1 700 (fun _ => 0), kI cI q_2 50 f_19, kI cI q_20 10 (fun _ => 0), kI cI q_21 32 (fun _ => 0), kI cI q_22 32 (fun _ => 0), kI cI q_23 48 (fun _ => 0), kI cI q_24 48 (fun _ => 0), kI cI q_25 48 (fun _ => 0), kI cI q_26 48 (fun _ => 0), kI cI q_27 48 (fun _ => 0), kI cI q_28 5760 (fun _ => 0), kI cI q_29 1200 (fun _ => 0), kI cI q_30 1200 (fun _ => 0), kI cI q_31 1200 (fun _ => 0), kI cI q_32 1200 (fun _ => 0), kI cI q_33 24 (fun _ => 0)] := hD
  refine va_putF (D := D) (ci := 10) (v := .ref q_33) (ty := (.array .int)) (C := RX11) (T := TX11) (N := 46) hx hb hts u_X11 tyX11 tyX11_ok nmX11 hown hE.1 hP hD hS 0 rfl rfl 37 (by decide) (hts _ w_1338) (fun _ h9 => h9) rfl hin rfl (by decide +kernel) rfl rfl (Nat.le_of_ble_eq_true rfl) dX11_init_434 (fun H locs hP hD hS => ?_)
  have hP : va_P D vwCl [kO h0 10 [.ref q_1, .int i0, .int i1, .ref q_2, .int i2, .int (-1), .int i4, .int i5, .int i6, .int i7, .int i8, .int i9, .int i10, .int 0, .int 0, .int 0, .int 0, .int 0, .ref q_20, .ref q_21, .ref q_22, .ref q_23, .ref q_24, .ref q_25, .ref q_26, .ref q_27, .int i11, .ref q_28, .int 0, .int i12, .ref q_29, .ref q_30, .ref q_31, .ref q_32, .int i13, .int i14, .int i15, .ref q_33, .int i16, .int i17, .int i18, .int i19, y6, y7, .long i20, y8], kI cI q_1 700 (fun _ => 0), kI cI q_2 50 f_19, kI cI q_20 10 (fun _ => 0), kI cI q_21 32 (fun _ => 0), kI cI q_22 32 (fun _ => 0), kI cI q_23 48 (fun _ => 0), kI cI q_24 48 (fun _ => 0), kI cI q_25 48 (fun _ => 0), kI cI q_26 48 (fun _ => 0), kI cI q_27 48 (fun _ => 0), kI cI q_28 5760 (fun _ => 0), kI cI q_29 1200 (fun _ => 0), kI cI q_30 1200 (fun _ => 0), kI cI q_31 1200 (fun _ => 0), kI cI q_32 1200 (fun _ => 0), kI cI q_33 24 (fun _ => 0)] H := hP
  have hD : va_D A [kO h0 10 [.ref q_1, .int i0, .int i1, .ref q_2, .int i2, .int (-1), .int i4, .int i5, .int i6, .int i7, .int i8, .int i9, .int i10, .int 0, .int 0, .int 0, .int 0, .int 0, .ref q_20, .ref q_21, .ref q_22, .ref q_23, .ref q_24, .ref q_25, .ref q_26, .ref q_27, .int i11, .ref q_28, .int 0, .int i12, .ref q_29, .ref q_30, .ref q_31, .ref q_32, .int i13, .int i14, .int i15, .ref q_33, .int i16, .int i17, .int i18, .int i19, y6, y7, .long i20, y8], kI cI q_1 700 (fun _ => 0), kI cI q_2 50 f_19, kI cI q_20 10 (fun _ => 0), kI cI q_21 32 (fun _ => 0), kI cI q_22 32 (fun _ => 0), kI cI q_23 48 (fun _ => 0), kI cI q_24 48 (fun _ => 0), kI cI q_25 48 (fun _ => 0), kI cI q_26 48 (fun _ => 0), kI cI q_27 48 (fun _ => 0), kI cI q_28 5760 (fun _ => 0), kI cI q_29 1200 (fun _ => 0), kI cI q_30 1200 (fun _ => 0), kI cI q_31 1200 (fun _ => 0), kI cI q_32 1200 (fun _ => 0), kI cI q_33 24 (fun _ => 0)] := hD
  refine lv_aload_n hx hb dX11_init_437 rfl (lv_at hl 0 rfl) ?_
  refine lv_bipush (v := 49) hx hb dX11_init_438 (by decide) ?_
  refine kk_newI hx hb hts hE hP hD hS hA 49 (by decide) (by decide) (Nat.le_of_ble_eq_true rfl) (Nat.le_of_ble_eq_true rfl) (Nat.le_of_ble_eq_true rfl) dX11_init_440 (fun q_34 H hP hD hS => ?_)
  have hP : va_P D vwCl [kO h0 10 [.ref q_1, .int i0, .int i1, .ref q_2, .int i2, .int (-1), .int i4, .int i5, .int i6, .int i7, .int i8, .int i9, .int i10, .int 0, .int 0, .int 0, .int 0, .int 0, .ref q_20, .ref q_21, .ref q_22, .ref q_23, .ref q_24, .ref q_25, .ref q_26, .ref q_27, .int i11, .ref q_28, .int 0, .int i12, .ref q_29, .ref q_30, .ref q_31, .ref q_32, .int i13, .int i14, .int i15, .ref q_33, .int i16, .int i17, .int i18, .int i19, y6, y7, .long i20, y8], kI cI q_1 700 (fun _ => 0), kI cI q_2 50 f_19, kI cI q_20 10 (fun _ => 0), kI cI q_21 32 (fun _ => 0), kI cI q_22 32 (fun _ => 0), kI cI q_23 48 (fun _ => 0), kI cI q_24 48 (fun _ => 0), kI cI q_25 48 (fun _ => 0), kI cI q_26 48 (fun _ => 0), kI cI q_27 48 (fun _ => 0), kI cI q_28 5760 (fun _ => 0), kI cI q_29 1200 (fun _ => 0), kI cI q_30 1200 (fun _ => 0), kI cI q_31 1200 (fun _ => 0), kI cI q_32 1200 (fun _ => 0), kI cI q_33 24 (fun _ => 0), kI cI q_34 49 (fun _ => 0)] H := hP
  have hD : va_D A [kO h0 10 [.ref q_1, .int i0, .int i1, .ref q_2, .int i2, .int (-1), .int i4, .int i5, .int i6, .int i7, .int i8, .int i9, .int i10, .int 0, .int 0, .int 0, .int 0, .int 0, .ref q_20, .ref q_21, .ref q_22, .ref q_23, .ref q_24, .ref q_25, .ref q_26, .ref q_27, .int i11, .ref q_28, .int 0, .int i12, .ref q_29, .ref q_30, .ref q_31, .ref q_32, .int i13, .int i14, .int i15, .ref q_33, .int i16, .int i17, .int i18, .int i19, y6, y7, .long i20, y8], kI cI q_1 700 (fun _ => 0), kI cI q_2 50 f_19, kI cI q_20 10 (fun _ => 0), kI cI q_21 32 (fun _ => 0), kI cI q_22 32 (fun _ => 0), kI cI q_23 48 (fun _ => 0), kI cI q_24 48 (fun _ => 0), kI cI q_25 48 (fun _ => 0), kI cI q_26 48 (fun _ => 0), kI cI q_27 48 (fun _ => 0), kI cI q_28 5760 (fun _ => 0), kI cI q_29 1200 (fun _ => 0), kI cI q_30 1200 (fun _ => 0), kI cI q_31 1200 (fun _ => 0), kI cI q_32 1200 (fun _ => 0), kI cI q_33 24 (fun _ => 0), kI cI q_34 49 (fun _ => 0)] := hD
  refine va_putF (D := D) (ci := 10) (v := .ref q_34) (ty := (.array .int)) (C := RX11) (T := TX11) (N := 46) hx hb hts u_X11 tyX11 tyX11_ok nmX11 hown hE.1 hP hD hS 0 rfl rfl 42 (by decide) (hts _ w_1343) (fun _ h9 => h9) rfl hin rfl (by decide +kernel) rfl rfl (Nat.le_of_ble_eq_true rfl) dX11_init_442 (fun H locs hP hD hS => ?_)
  have hP : va_P D vwCl [kO h0 10 [.ref q_1, .int i0, .int i1, .ref q_2, .int i2, .int (-1), .int i4, .int i5, .int i6, .int i7, .int i8, .int i9, .int i10, .int 0, .int 0, .int 0, .int 0, .int 0, .ref q_20, .ref q_21, .ref q_22, .ref q_23, .ref q_24, .ref q_25, .ref q_26, .ref q_27, .int i11, .ref q_28, .int 0, .int i12, .ref q_29, .ref q_30, .ref q_31, .ref q_32, .int i13, .int i14, .int i15, .ref q_33, .int i16, .int i17, .int i18, .int i19, .ref q_34, y7, .long i20, y8], kI cI q_1 700 (fun _ => 0), kI cI q_2 50 f_19, kI cI q_20 10 (fun _ => 0), kI cI q_21 32 (fun _ => 0), kI cI q_22 32 (fun _ => 0), kI cI q_23 48 (fun _ => 0), kI cI q_24 48 (fun _ => 0), kI cI q_25 48 (fun _ => 0), kI cI q_26 48 (fun _ => 0), kI cI q_27 48 (fun _ => 0), kI cI q_28 5760 (fun _ => 0), kI cI q_29 1200 (fun _ => 0), kI cI q_30 1200 (fun _ => 0), kI cI q_31 1200 (fun _ => 0), kI cI q_32 1200 (fun _ => 0), kI cI q_33 24 (fun _ => 0), kI cI q_34 49 (fun _ => 0)] H := hP
  have hD : va_D A [kO h0 10 [.ref q_1, .int i0, .int i1, .ref q_2, .int i2, .int (-1), .int i4, .int i5, .int i6, .int i7, .int i8, .int i9, .int i10, .int 0, .int 0, .int 0, .int 0, .int 0, .ref q_20, .ref q_21, .ref q_22, .ref q_23, .ref q_24, .ref q_25, .ref q_26, .ref q_27, .int i11, .ref q_28, .int 0, .int i12, .ref q_29, .ref q_30, .ref q_31, .ref q_32, .int i13, .int i14, .int i15, .ref q_33, .int i16, .int i17, .int i18, .int i19, .ref q_34, y7, .long i20, y8], kI cI q_1 700 (fun _ => 0), kI cI q_2 50 f_19, kI cI q_20 10 (fun _ => 0), kI cI q_21 32 (fun _ => 0), kI cI q_22 32 (fun _ => 0), kI cI q_23 48 (fun _ => 0), kI cI q_24 48 (fun _ => 0), kI cI q_25 48 (fun _ => 0), kI cI q_26 48 (fun _ => 0), kI cI q_27 48 (fun _ => 0), kI cI q_28 5760 (fun _ => 0), kI cI q_29 1200 (fun _ => 0), kI cI q_30 1200 (fun _ => 0), kI cI q_31 1200 (fun _ => 0), kI cI q_32 1200 (fun _ => 0), kI cI q_33 24 (fun _ => 0), kI cI q_34 49 (fun _ => 0)] := hD
  refine lv_aload_n hx hb dX11_init_445 rfl (lv_at hl 0 rfl) ?_
  refine lv_iconst (v := 5) hx hb dX11_init_446 (by decide) ?_
  refine kk_newI hx hb hts hE hP hD hS hA 5 (by decide) (by decide) (Nat.le_of_ble_eq_true rfl) (Nat.le_of_ble_eq_true rfl) (Nat.le_of_ble_eq_true rfl) dX11_init_447 (fun q_35 H hP hD hS => ?_)
  have hP : va_P D vwCl [kO h0 10 [.ref q_1, .int i0, .int i1, .ref q_2, .int i2, .int (-1), .int i4, .int i5, .int i6, .int i7, .int i8, .int i9, .int i10, .int 0, .int 0, .int 0, .int 0, .int 0, .ref q_20, .ref q_21, .ref q_22, .ref q_23, .ref q_24, .ref q_25, .ref q_26, .ref q_27, .int i11, .ref q_28, .int 0, .int i12, .ref q_29, .ref q_30, .ref q_31, .ref q_32, .int i13, .int i14, .int i15, .ref q_33, .int i16, .int i17, .int i18, .int i19, .ref q_34, y7, .long i20, y8], kI cI q_1 700 (fun _ => 0), kI cI q_2 50 f_19, kI cI q_20 10 (fun _ => 0), kI cI q_21 32 (fun _ => 0), kI cI q_22 32 (fun _ => 0), kI cI q_23 48 (fun _ => 0), kI cI q_24 48 (fun _ => 0), kI cI q_25 48 (fun _ => 0), kI cI q_26 48 (fun _ => 0), kI cI q_27 48 (fun _ => 0), kI cI q_28 5760 (fun _ => 0), kI cI q_29 1200 (fun _ => 0), kI cI q_30 1200 (fun _ => 0), kI cI q_31 1200 (fun _ => 0), kI cI q_32 1200 (fun _ => 0), kI cI q_33 24 (fun _ => 0), kI cI q_34 49 (fun _ => 0), kI cI q_35 5 (fun _ => 0)] H := hP
  have hD : va_D A [kO h0 10 [.ref q_1, .int i0, .int i1, .ref q_2, .int i2, .int (-1), .int i4, .int i5, .int i6, .int i7, .int i8, .int i9, .int i10, .int 0, .int 0, .int 0, .int 0, .int 0, .ref q_20, .ref q_21, .ref q_22, .ref q_23, .ref q_24, .ref q_25, .ref q_26, .ref q_27, .int i11, .ref q_28, .int 0, .int i12, .ref q_29, .ref q_30, .ref q_31, .ref q_32, .int i13, .int i14, .int i15, .ref q_33, .int i16, .int i17, .int i18, .int i19, .ref q_34, y7, .long i20, y8], kI cI q_1 700 (fun _ => 0), kI cI q_2 50 f_19, kI cI q_20 10 (fun _ => 0), kI cI q_21 32 (fun _ => 0), kI cI q_22 32 (fun _ => 0), kI cI q_23 48 (fun _ => 0), kI cI q_24 48 (fun _ => 0), kI cI q_25 48 (fun _ => 0), kI cI q_26 48 (fun _ => 0), kI cI q_27 48 (fun _ => 0), kI cI q_28 5760 (fun _ => 0), kI cI q_29 1200 (fun _ => 0), kI cI q_30 1200 (fun _ => 0), kI cI q_31 1200 (fun _ => 0), kI cI q_32 1200 (fun _ => 0), kI cI q_33 24 (fun _ => 0), kI cI q_34 49 (fun _ => 0), kI cI q_35 5 (fun _ => 0)] := hD
  refine va_putF (D := D) (ci := 10) (v := .ref q_35) (ty := (.array .int)) (C := RX11) (T := TX11) (N := 46) hx hb hts u_X11 tyX11 tyX11_ok nmX11 hown hE.1 hP hD hS 0 rfl rfl 43 (by decide) (hts _ w_1344) (fun _ h9 => h9) rfl hin rfl (by decide +kernel) rfl rfl (Nat.le_of_ble_eq_true rfl) dX11_init_449 (fun H locs hP hD hS => ?_)
  have hP : va_P D vwCl [kO h0 10 [.ref q_1, .int i0, .int i1, .ref q_2, .int i2, .int (-1), .int i4, .int i5, .int i6, .int i7, .int i8, .int i9, .int i10, .int 0, .int 0, .int 0, .int 0, .int 0, .ref q_20, .ref q_21, .ref q_22, .ref q_23, .ref q_24, .ref q_25, .ref q_26, .ref q_27, .int i11, .ref q_28, .int 0, .int i12, .ref q_29, .ref q_30, .ref q_31, .ref q_32, .int i13, .int i14, .int i15, .ref q_33, .int i16, .int i17, .int i18, .int i19, .ref q_34, .ref q_35, .long i20, y8], kI cI q_1 700 (fun _ => 0), kI cI q_2 50 f_19, kI cI q_20 10 (fun _ => 0), kI cI q_21 32 (fun _ => 0), kI cI q_22 32 (fun _ => 0), kI cI q_23 48 (fun _ => 0), kI cI q_24 48 (fun _ => 0), kI cI q_25 48 (fun _ => 0), kI cI q_26 48 (fun _ => 0), kI cI q_27 48 (fun _ => 0), kI cI q_28 5760 (fun _ => 0), kI cI q_29 1200 (fun _ => 0), kI cI q_30 1200 (fun _ => 0), kI cI q_31 1200 (fun _ => 0), kI cI q_32 1200 (fun _ => 0), kI cI q_33 24 (fun _ => 0), kI cI q_34 49 (fun _ => 0), kI cI q_35 5 (fun _ => 0)] H := hP
  have hD : va_D A [kO h0 10 [.ref q_1, .int i0, .int i1, .ref q_2, .int i2, .int (-1), .int i4, .int i5, .int i6, .int i7, .int i8, .int i9, .int i10, .int 0, .int 0, .int 0, .int 0, .int 0, .ref q_20, .ref q_21, .ref q_22, .ref q_23, .ref q_24, .ref q_25, .ref q_26, .ref q_27, .int i11, .ref q_28, .int 0, .int i12, .ref q_29, .ref q_30, .ref q_31, .ref q_32, .int i13, .int i14, .int i15, .ref q_33, .int i16, .int i17, .int i18, .int i19, .ref q_34, .ref q_35, .long i20, y8], kI cI q_1 700 (fun _ => 0), kI cI q_2 50 f_19, kI cI q_20 10 (fun _ => 0), kI cI q_21 32 (fun _ => 0), kI cI q_22 32 (fun _ => 0), kI cI q_23 48 (fun _ => 0), kI cI q_24 48 (fun _ => 0), kI cI q_25 48 (fun _ => 0), kI cI q_26 48 (fun _ => 0), kI cI q_27 48 (fun _ => 0), kI cI q_28 5760 (fun _ => 0), kI cI q_29 1200 (fun _ => 0), kI cI q_30 1200 (fun _ => 0), kI cI q_31 1200 (fun _ => 0), kI cI q_32 1200 (fun _ => 0), kI cI q_33 24 (fun _ => 0), kI cI q_34 49 (fun _ => 0), kI cI q_35 5 (fun _ => 0)] := hD
  refine lv_aload_n hx hb dX11_init_452 rfl (lv_at hl 0 rfl) ?_
  refine lv_iconst (v := 5) hx hb dX11_init_453 (by decide) ?_
  refine kk_newI hx hb hts hE hP hD hS hA 5 (by decide) (by decide) (Nat.le_of_ble_eq_true rfl) (Nat.le_of_ble_eq_true rfl) (Nat.le_of_ble_eq_true rfl) dX11_init_454 (fun q_36 H hP hD hS => ?_)
  have hP : va_P D vwCl [kO h0 10 [.ref q_1, .int i0, .int i1, .ref q_2, .int i2, .int (-1), .int i4, .int i5, .int i6, .int i7, .int i8, .int i9, .int i10, .int 0, .int 0, .int 0, .int 0, .int 0, .ref q_20, .ref q_21, .ref q_22, .ref q_23, .ref q_24, .ref q_25, .ref q_26, .ref q_27, .int i11, .ref q_28, .int 0, .int i12, .ref q_29, .ref q_30, .ref q_31, .ref q_32, .int i13, .int i14, .int i15, .ref q_33, .int i16, .int i17, .int i18, .int i19, .ref q_34, .ref q_35, .long i20, y8], kI cI q_1 700 (fun _ => 0), kI cI q_2 50 f_19, kI cI q_20 10 (fun _ => 0), kI cI q_21 32 (fun _ => 0), kI cI q_22 32 (fun _ => 0), kI cI q_23 48 (fun _ => 0), kI cI q_24 48 (fun _ => 0), kI cI q_25 48 (fun _ => 0), kI cI q_26 48 (fun _ => 0), kI cI q_27 48 (fun _ => 0), kI cI q_28 5760 (fun _ => 0), kI cI q_29 1200 (fun _ => 0), kI cI q_30 1200 (fun _ => 0), kI cI q_31 1200 (fun _ => 0), kI cI q_32 1200 (fun _ => 0), kI cI q_33 24 (fun _ => 0), kI cI q_34 49 (fun _ => 0), kI cI q_35 5 (fun _ => 0), kI cI q_36 5 (fun _ => 0)] H := hP
  have hD : va_D A [kO h0 10 [.ref q_1, .int i0, .int i1, .ref q_2, .int i2, .int (-1), .int i4, .int i5, .int i6, .int i7, .int i8, .int i9, .int i10, .int 0, .int 0, .int 0, .int 0, .int 0, .ref q_20, .ref q_21, .ref q_22, .ref q_23, .ref q_24, .ref q_25, .ref q_26, .ref q_27, .int i11, .ref q_28, .int 0, .int i12, .ref q_29, .ref q_30, .ref q_31, .ref q_32, .int i13, .int i14, .int i15, .ref q_33, .int i16, .int i17, .int i18, .int i19, .ref q_34, .ref q_35, .long i20, y8], kI cI q_1 700 (fun _ => 0), kI cI q_2 50 f_19, kI cI q_20 10 (fun _ => 0), kI cI q_21 32 (fun _ => 0), kI cI q_22 32 (fun _ => 0), kI cI q_23 48 (fun _ => 0), kI cI q_24 48 (fun _ => 0), kI cI q_25 48 (fun _ => 0), kI cI q_26 48 (fun _ => 0), kI cI q_27 48 (fun _ => 0), kI cI q_28 5760 (fun _ => 0), kI cI q_29 1200 (fun _ => 0), kI cI q_30 1200 (fun _ => 0), kI cI q_31 1200 (fun _ => 0), kI cI q_32 1200 (fun _ => 0), kI cI q_33 24 (fun _ => 0), kI cI q_34 49 (fun _ => 0), kI cI q_35 5 (fun _ => 0), kI cI q_36 5 (fun _ => 0)] := hD
  refine va_putF (D := D) (ci := 10) (v := .ref q_36) (ty := (.array .int)) (C := RX11) (T := TX11) (N := 46) hx hb hts u_X11 tyX11 tyX11_ok nmX11 hown hE.1 hP hD hS 0 rfl rfl 45 (by decide) (hts _ w_1346) (fun _ h9 => h9) rfl hin rfl (by decide +kernel) rfl rfl (Nat.le_of_ble_eq_true rfl) dX11_init_456 (fun H locs hP hD hS => ?_)
  have hP : va_P D vwCl [kO h0 10 [.ref q_1, .int i0, .int i1, .ref q_2, .int i2, .int (-1), .int i4, .int i5, .int i6, .int i7, .int i8, .int i9, .int i10, .int 0, .int 0, .int 0, .int 0, .int 0, .ref q_20, .ref q_21, .ref q_22, .ref q_23, .ref q_24, .ref q_25, .ref q_26, .ref q_27, .int i11, .ref q_28, .int 0, .int i12, .ref q_29, .ref q_30, .ref q_31, .ref q_32, .int i13, .int i14, .int i15, .ref q_33, .int i16, .int i17, .int i18, .int i19, .ref q_34, .ref q_35, .long i20, .ref q_36], kI cI q_1 700 (fun _ => 0), kI cI q_2 50 f_19, kI cI q_20 10 (fun _ => 0), kI cI q_21 32 (fun _ => 0), kI cI q_22 32 (fun _ => 0), kI cI q_23 48 (fun _ => 0), kI cI q_24 48 (fun _ => 0), kI cI q_25 48 (fun _ => 0), kI cI q_26 48 (fun _ => 0), kI cI q_27 48 (fun _ => 0), kI cI q_28 5760 (fun _ => 0), kI cI q_29 1200 (fun _ => 0), kI cI q_30 1200 (fun _ => 0), kI cI q_31 1200 (fun _ => 0), kI cI q_32 1200 (fun _ => 0), kI cI q_33 24 (fun _ => 0), kI cI q_34 49 (fun _ => 0), kI cI q_35 5 (fun _ => 0), kI cI q_36 5 (fun _ => 0)] H := hP
  have hD : va_D A [kO h0 10 [.ref q_1, .int i0, .int i1, .ref q_2, .int i2, .int (-1), .int i4, .int i5, .int i6, .int i7, .int i8, .int i9, .int i10, .int 0, .int 0, .int 0, .int 0, .int 0, .ref q_20, .ref q_21, .ref q_22, .ref q_23, .ref q_24, .ref q_25, .ref q_26, .ref q_27, .int i11, .ref q_28, .int 0, .int i12, .ref q_29, .ref q_30, .ref q_31, .ref q_32, .int i13, .int i14, .int i15, .ref q_33, .int i16, .int i17, .int i18, .int i19, .ref q_34, .ref q_35, .long i20, .ref q_36], kI cI q_1 700 (fun _ => 0), kI cI q_2 50 f_19, kI cI q_20 10 (fun _ => 0), kI cI q_21 32 (fun _ => 0), kI cI q_22 32 (fun _ => 0), kI cI q_23 48 (fun _ => 0), kI cI q_24 48 (fun _ => 0), kI cI q_25 48 (fun _ => 0), kI cI q_26 48 (fun _ => 0), kI cI q_27 48 (fun _ => 0), kI cI q_28 5760 (fun _ => 0), kI cI q_29 1200 (fun _ => 0), kI cI q_30 1200 (fun _ => 0), kI cI q_31 1200 (fun _ => 0), kI cI q_32 1200 (fun _ => 0), kI cI q_33 24 (fun _ => 0), kI cI q_34 49 (fun _ => 0), kI cI q_35 5 (fun _ => 0), kI cI q_36 5 (fun _ => 0)] := hD
  refine lv_aload_n hx hb dX11_init_459 rfl (lv_at hl 0 rfl) ?_
  refine kk_cv (wr := [kI cI q_1 700 (fun _ => 0), kI cI q_2 50 f_19, kI cI q_20 10 (fun _ => 0), kI cI q_21 32 (fun _ => 0), kI cI q_22 32 (fun _ => 0), kI cI q_23 48 (fun _ => 0), kI cI q_24 48 (fun _ => 0), kI cI q_25 48 (fun _ => 0), kI cI q_26 48 (fun _ => 0), kI cI q_27 48 (fun _ => 0), kI cI q_28 5760 (fun _ => 0), kI cI q_29 1200 (fun _ => 0), kI cI q_30 1200 (fun _ => 0), kI cI q_31 1200 (fun _ => 0), kI cI q_32 1200 (fun _ => 0), kI cI q_33 24 (fun _ => 0), kI cI q_34 49 (fun _ => 0), kI cI q_35 5 (fun _ => 0), kI cI q_36 5 (fun _ => 0)]) (kk_runV (w1 := [kO h0 10 [.ref q_1, .int i0, .int i1, .ref q_2, .int i2, .int (-1), .int i4, .int i5, .int i6, .int i7, .int i8, .int i9, .int i10, .int 0, .int 0, .int 0, .int 0, .int 0, .ref q_20, .ref q_21, .ref q_22, .ref q_23, .ref q_24, .ref q_25, .ref q_26, .ref q_27, .int i11, .ref q_28, .int 0, .int i12, .ref q_29, .ref q_30, .ref q_31, .ref q_32, .int i13, .int i14, .int i15, .ref q_33, .int i16, .int i17, .int i18, .int i19, .ref q_34, .ref q_35, .long i20, .ref q_36]]) (As := []) (rest := []) hx hb hml hown hts hE (c_X11_plain l D cB cI cJ cD h0 (.ref q_1) i0 i1 (.ref q_2) i2 (-1) i4 i5 i6 i7 i8 i9 i10 0 0 0 0 0 (.ref q_20) (.ref q_21) (.ref q_22) (.ref q_23) (.ref q_24) (.ref q_25) (.ref q_26) (.ref q_27) i11 (.ref q_28) 0 i12 (.ref q_29) (.ref q_30) (.ref q_31) (.ref q_32) i13 i14 i15 (.ref q_33) i16 i17 i18 i19 (.ref q_34) (.ref q_35) i20 (.ref q_36) H.size) m_X11_plain w_1254 ⟨rfl, rfl, Nat.le_of_ble_eq_true rfl, Nat.le_of_ble_eq_true rfl⟩ (hP.sub [0] rfl) (hD.sub [0] (by decide +kernel) rfl) 0 10 rfl rfl rfl hl.1 (Nat.le_of_ble_eq_true rfl) dX11_init_460 ⟨Nat.le_of_ble_eq_true rfl, Nat.le_of_ble_eq_true rfl⟩) hP hD hS hA [0] [1, 2, 3, 4, 5, 6, 7, 8, 9, 10, 11, 12, 13, 14, 15, 16, 17, 18, 19] rfl rfl (by decide +kernel) (by decide +kernel) (fun u_37 H locs p_37 hP hD hS => ?_)
  have hP : va_P D vwCl [kI cI q_1 700 (fun _ => 0), kI cI q_2 50 f_19, kI cI q_20 10 (fun _ => 0), kI cI q_21 32 (fun _ => 0), kI cI q_22 32 (fun _ => 0), kI cI q_23 48 (fun _ => 0), kI cI q_24 48 (fun _ => 0), kI cI q_25 48 (fun _ => 0), kI cI q_26 48 (fun _ => 0), kI cI q_27 48 (fun _ => 0), kI cI q_28 5760 (fun _ => 0), kI cI q_29 1200 (fun _ => 0), kI cI q_30 1200 (fun _ => 0), kI cI q_31 1200 (fun _ => 0), kI cI q_32 1200 (fun _ => 0), kI cI q_33 24 (fun _ => 0), kI cI q_34 49 (fun _ => 0), kI cI q_35 5 (fun _ => 0), kI cI q_36 5 (fun _ => 0), kO h0 10 [.ref q_1, .int i0, .int i1, .ref q_2, .int i2, .int (-1), .int i4, .int i5, .int i6, .int i7, .int i8, .int i9, .int i10, .int 0, .int 0, .int 0, .int 0, .int 0, .ref q_20, .ref q_21, .ref q_22, .ref q_23, .ref q_24, .ref q_25, .ref q_26, .ref q_27, .int i11, .ref q_28, .int 0, .int i12, .ref q_29, .ref q_30, .ref q_31, .ref q_32, .int i13, .int i14, .int i15, .ref q_33, .int i16, .int i17, .int i18, .int i19, .ref q_34, .ref q_35, .long i20, .ref q_36]] H := hP
  have hD : va_D A [kI cI q_1 700 (fun _ => 0), kI cI q_2 50 f_19, kI cI q_20 10 (fun _ => 0), kI cI q_21 32 (fun _ => 0), kI cI q_22 32 (fun _ => 0), kI cI q_23 48 (fun _ => 0), kI cI q_24 48 (fun _ => 0), kI cI q_25 48 (fun _ => 0), kI cI q_26 48 (fun _ => 0), kI cI q_27 48 (fun _ => 0), kI cI q_28 5760 (fun _ => 0), kI cI q_29 1200 (fun _ => 0), kI cI q_30 1200 (fun _ => 0), kI cI q_31 1200 (fun _ => 0), kI cI q_32 1200 (fun _ => 0), kI cI q_33 24 (fun _ => 0), kI cI q_34 49 (fun _ => 0), kI cI q_35 5 (fun _ => 0), kI cI q_36 5 (fun _ => 0), kO h0 10 [.ref q_1, .int i0, .int i1, .ref q_2, .int i2, .int (-1), .int i4, .int i5, .int i6, .int i7, .int i8, .int i9, .int i10, .int 0, .int 0, .int 0, .int 0, .int 0, .ref q_20, .ref q_21, .ref q_22, .ref q_23, .ref q_24, .ref q_25, .ref q_26, .ref q_27, .int i11, .ref q_28, .int 0, .int i12, .ref q_29, .ref q_30, .ref q_31, .ref q_32, .int i13, .int i14, .int i15, .ref q_33, .int i16, .int i17, .int i18, .int i19, .ref q_34, .ref q_35, .long i20, .ref q_36]] := hD
  refine lv_aload_n hx hb dX11_init_463 rfl (lv_at hl 0 rfl) ?_
  refine kk_cv (wr := [kI cI q_1 700 (fun _ => 0), kI cI q_2 50 f_19, kI cI q_29 1200 (fun _ => 0), kI cI q_30 1200 (fun _ => 0), kI cI q_31 1200 (fun _ => 0), kI cI q_32 1200 (fun _ => 0), kI cI q_34 49 (fun _ => 0), kI cI q_35 5 (fun _ => 0), kI cI q_36 5 (fun _ => 0)]) (kk_runV (w1 := [kO h0 10 [.ref q_1, .int i0, .int i1, .ref q_2, .int i2, .int (-1), .int i4, .int i5, .int i6, .int i7, .int i8, .int i9, .int i10, .int 0, .int 0, .int 0, .int 0, .int 0, .ref q_20, .ref q_21, .ref q_22, .ref q_23, .ref q_24, .ref q_25, .ref q_26, .ref q_27, .int i11, .ref q_28, .int 0, .int i12, .ref q_29, .ref q_30, .ref q_31, .ref q_32, .int i13, .int i14, .int i15, .ref q_33, .int i16, .int i17, .int i18, .int i19, .ref q_34, .ref q_35, .long i20, .ref q_36], kI cI q_20 10 (fun _ => 0), kI cI q_21 32 (fun _ => 0), kI cI q_22 32 (fun _ => 0), kI cI q_23 48 (fun _ => 0), kI cI q_24 48 (fun _ => 0), kI cI q_25 48 (fun _ => 0), kI cI q_26 48 (fun _ => 0), kI cI q_27 48 (fun _ => 0), kI cI q_28 5760 (fun _ => 0), kI cI q_33 24 (fun _ => 0)]) (As := []) (rest := []) hx hb hml hown hts hE (c_X11_keepText l D cB cI cJ cD h0 q_20 q_21 q_22 q_23 q_24 q_25 q_26 q_27 q_28 q_33 (.ref q_1) i0 i1 (.ref q_2) i2 (-1) i4 i5 i6 i7 i8 i9 i10 i11 i12 (.ref q_29) (.ref q_30) (.ref q_31) (.ref q_32) i13 i14 i15 i16 i17 i18 i19 (.ref q_34) (.ref q_35) i20 (.ref q_36) (fun _ => 0) (fun _ => 0) (fun _ => 0) (fun _ => 0) (fun _ => 0) (fun _ => 0) (fun _ => 0) (fun _ => 0) (fun _ => 0) (fun _ => 0) H.size) m_X11_keepText w_1258 ⟨rfl, rfl, Nat.le_of_ble_eq_true rfl, Nat.le_of_ble_eq_true rfl⟩ (hP.sub [19, 2, 3, 4, 5, 6, 7, 8, 9, 10, 15] rfl) (hD.sub [19, 2, 3, 4, 5, 6, 7, 8, 9, 10, 15] (by decide +kernel) rfl) 0 10 rfl rfl rfl hl.1 (Nat.le_of_ble_eq_true rfl) dX11_init_464 ⟨Nat.le_of_ble_eq_true rfl, Nat.le_of_ble_eq_true rfl⟩) hP hD hS hA [19, 2, 3, 4, 5, 6, 7, 8, 9, 10, 15] [0, 1, 11, 12, 13, 14, 16, 17, 18] rfl rfl (by decide +kernel) (by decide +kernel) (fun u_38 H locs p_38 hP hD hS => ?_)
  have hP : va_P D vwCl [kI cI q_1 700 (fun _ => 0), kI cI q_2 50 f_19, kI cI q_29 1200 (fun _ => 0), kI cI q_30 1200 (fun _ => 0), kI cI q_31 1200 (fun _ => 0), kI cI q_32 1200 (fun _ => 0), kI cI q_34 49 (fun _ => 0), kI cI q_35 5 (fun _ => 0), kI cI q_36 5 (fun _ => 0), kO h0 10 [.ref q_1, .int i0, .int i1, .ref q_2, .int i2, .int (-1), .int i4, .int i5, .int i6, .int i7, .int i8, .int i9, .int 0, .int 0, .int 0, .int 0, .int 0, .int 0, .ref q_20, .ref q_21, .ref q_22, .ref q_23, .ref q_24, .ref q_25, .ref q_26, .ref q_27, .int i11, .ref q_28, .int 0, .int 0, .ref q_29, .ref q_30, .ref q_31, .ref q_32, .int 0, .int 0, .int 0, .ref q_33, .int 0, .int i17, .int i18, .int i19, .ref q_34, .ref q_35, .long i20, .ref q_36], kI cI q_20 10 (u_38.2.1 0), kI cI q_21 32 (u_38.2.1 1), kI cI q_22 32 (u_38.2.1 2), kI cI q_23 48 (u_38.2.1 3), kI cI q_24 48 (u_38.2.1 4), kI cI q_25 48 (u_38.2.1 5), kI cI q_26 48 (u_38.2.1 6), kI cI q_27 48 (u_38.2.1 7), kI cI q_28 5760 (u_38.2.1 8), kI cI q_33 24 (u_38.2.1 9)] H := hP
  have hD : va_D A [kI cI q_1 700 (fun _ => 0), kI cI q_2 50 f_19, kI cI q_29 1200 (fun _ => 0), kI cI q_30 1200 (fun _ => 0), kI cI q_31 1200 (fun _ => 0), kI cI q_32 1200 (fun _ => 0), kI cI q_34 49 (fun _ => 0), kI cI q_35 5 (fun _ => 0), kI cI q_36 5 (fun _ => 0), kO h0 10 [.ref q_1, .int i0, .int i1, .ref q_2, .int i2, .int (-1), .int i4, .int i5, .int i6, .int i7, .int i8, .int i9, .int 0, .int 0, .int 0, .int 0, .int 0, .int 0, .ref q_20, .ref q_21, .ref q_22, .ref q_23, .ref q_24, .ref q_25, .ref q_26, .ref q_27, .int i11, .ref q_28, .int 0, .int 0, .ref q_29, .ref q_30, .ref q_31, .ref q_32, .int 0, .int 0, .int 0, .ref q_33, .int 0, .int i17, .int i18, .int i19, .ref q_34, .ref q_35, .long i20, .ref q_36], kI cI q_20 10 (u_38.2.1 0), kI cI q_21 32 (u_38.2.1 1), kI cI q_22 32 (u_38.2.1 2), kI cI q_23 48 (u_38.2.1 3), kI cI q_24 48 (u_38.2.1 4), kI cI q_25 48 (u_38.2.1 5), kI cI q_26 48 (u_38.2.1 6), kI cI q_27 48 (u_38.2.1 7), kI cI q_28 5760 (u_38.2.1 8), kI cI q_33 24 (u_38.2.1 9)] := hD
  exact kk_ret_v ((fun i => [q_1, q_2, q_20, q_21, q_22, q_23, q_24, q_25, q_26, q_27, q_28, q_29, q_30, q_31, q_32, q_33, q_34, q_35, q_36].getD i 0), (fun i => [f_19, (u_38.2.1 0), (u_38.2.1 1), (u_38.2.1 2), (u_38.2.1 3), (u_38.2.1 4), (u_38.2.1 5), (u_38.2.1 6), (u_38.2.1 7), (u_38.2.1 8), (u_38.2.1 9)].getD i (fun _ => 0)), (fun i => [].getD i (fun _ => 0)), (fun i => [].getD i 0)) hx hb hr hlocks p_38 (hP.sub [9, 0, 1, 2, 3, 4, 5, 6, 7, 8, 10, 11, 12, 13, 14, 15, 16, 17, 18, 19] rfl) (hD.sub [9, 0, 1, 2, 3, 4, 5, 6, 7, 8, 10, 11, 12, 13, 14, 15, 16, 17, 18, 19] (by decide +kernel) rfl) hS dX11_init_467 (Nat.le_of_ble_eq_true rfl) (Nat.le_of_ble_eq_true rfl)
set_option maxHeartbeats 4000000 in
set_option maxRecDepth 100000 in
theorem c_X11_thrown (l : Launch) (D : va_G) (cB cI cJ cD : ClassId) (h0 : Nat) (y0 : Value) (i0 : Int32) (y1 : Value) (i1 : Int32) (i2 : Int32) (i3 : Int32) (i4 : Int32) (i5 : Int32) (i6 : Int32) (i7 : Int32) (i8 : Int32) (i9 : Int32) (i10 : Int32) (i11 : Int32) (i12 : Int32) (i13 : Int32) (i14 : Int32) (y2 : Value) (y3 : Value) (y4 : Value) (y5 : Value) (y6 : Value) (y7 : Value) (y8 : Value) (y9 : Value) (i15 : Int32) (y10 : Value) (i16 : Int32) (i17 : Int32) (y11 : Value) (y12 : Value) (y13 : Value) (y14 : Value) (i18 : Int32) (i19 : Int32) (i20 : Int32) (y15 : Value) (i21 : Int32) (i22 : Int32) (i23 : Int32) (i24 : Int32) (y16 : Value) (y17 : Value) (i25 : Int64) (y18 : Value) (sz : Nat) : Met l yX11_thrown (kk_W yX11_thrown cX11_thrown 1 (some .int)) ({ frames := 0, cells := 0, slots := 0, locals := 0 }) (va_Pc [.ref h0] (kk_pre D cB cI cJ cD [kO h0 10 [y0, .int i0, .int 0, y1, .int i1, .int i2, .int i3, .int i4, .int i5, .int i6, .int i7, .int i8, .int i9, .int i10, .int i11, .int i12, .int i13, .int i14, y2, y3, y4, y5, y6, y7, y8, y9, .int i15, y10, .int i16, .int i17, y11, y12, y13, y14, .int i18, .int i19, .int i20, y15, .int i21, .int i22, .int i23, .int i24, y16, y17, .long i25, y18]] sz)) (vp_Si (fun r => r = 0)) 0 0 (fun _ => False) := by
  refine kk_pstart (y := yX11_thrown) (maxL := 1) (av := [.ref h0]) (by decide) (Nat.le_of_ble_eq_true rfl) ?_
  intro p e s m below meth c ls hx hb hr hml hown hts hE hlocks hsz hP hD hl
  have hown : s.vm.findClass RX11 = some m.cls := hown
  have hl : lv_has ls 1 [(0, .ref h0)] := hl
  refine lv_aload_n hx hb dX11_thrown_0 rfl (lv_at hl 0 rfl) ?_
  refine va_get (D := D) (ci := 10) (v := .int 0) (C := RX11) (T := TX11) (N := 46) hx hb hts u_X11 hown hE.1 hP 0 rfl rfl 2 (by decide) (hts _ w_1303) (fun _ h9 => h9) rfl dX11_thrown_1 ?_
  exact kk_pret_i hx hb hr hlocks rfl dX11_thrown_4
set_option maxHeartbeats 4000000 in
set_option maxRecDepth 100000 in
theorem c_X11_feed (l : Launch) (D : va_G) (cB cI cJ cD : ClassId) (h0 h1 : Nat) (i0 : Int32) (y0 : Value) (i1 : Int32) (i2 : Int32) (i3 : Int32) (i4 : Int32) (i5 : Int32) (i6 : Int32) (i7 : Int32) (i8 : Int32) (i9 : Int32) (i10 : Int32) (i11 : Int32) (i12 : Int32) (i13 : Int32) (i14 : Int32) (y1 : Value) (y2 : Value) (y3 : Value) (y4 : Value) (y5 : Value) (y6 : Value) (y7 : Value) (y8 : Value) (i15 : Int32) (y9 : Value) (i16 : Int32) (i17 : Int32) (y10 : Value) (y11 : Value) (y12 : Value) (y13 : Value) (i18 : Int32) (i19 : Int32) (i20 : Int32) (y14 : Value) (i21 : Int32) (i22 : Int32) (i23 : Int32) (i24 : Int32) (y15 : Value) (y16 : Value) (i25 : Int64) (y17 : Value) (g0 : Nat → Int32) (p0 : Int32) (p1 : Int32) (p2 : Int32) (p3 : Int32) (p4 : Int32) (sz : Nat) : Met l yX11_feed (kk_W yX11_feed cX11_feed 8 (some .int)) ({ frames := 0, cells := 0, slots := 0, locals := 0 }) (va_Pc [.ref h0, .int p0, .int p1, .int p2, .int p3, .int p4] (kk_pre D cB cI cJ cD [kO h0 10 [.ref h1, .int 0, .int i0, y0, .int i1, .int i2, .int i3, .int i4, .int i5, .int i6, .int i7, .int i8, .int i9, .int i10, .int i11, .int i12, .int i13, .int i14, y1, y2, y3, y4, y5, y6, y7, y8, .int i15, y9, .int i16, .int i17, y10, y11, y12, y13, .int i18, .int i19, .int i20, y14, .int i21, .int i22, .int i23, .int i24, y15, y16, .long i25, y17], kI cI h1 700 g0] sz)) (kk_Qi D (fun (r : Int32) (u : (Nat → Nat) × (Nat → Nat → Int32) × (Nat → Nat → Int64) × (Nat → Int32)) => r = 20) (fun u => []) (va_A [kO h0 10 [.ref h1, .int 0, .int i0, y0, .int i1, .int i2, .int i3, .int i4, .int i5, .int i6, .int i7, .int i8, .int i9, .int i10, .int i11, .int i12, .int i13, .int i14, y1, y2, y3, y4, y5, y6, y7, y8, .int i15, y9, .int i16, .int i17, y10, y11, y12, y13, .int i18, .int i19, .int i20, y14, .int i21, .int i22, .int i23, .int i24, y15, y16, .long i25, y17], kI cI h1 700 g0] sz)) 0 0 (va_A [kO h0 10 [.ref h1, .int 0, .int i0, y0, .int i1, .int i2, .int i3, .int i4, .int i5, .int i6, .int i7, .int i8, .int i9, .int i10, .int i11, .int i12, .int i13, .int i14, y1, y2, y3, y4, y5, y6, y7, y8, .int i15, y9, .int i16, .int i17, y10, y11, y12, y13, .int i18, .int i19, .int i20, y14, .int i21, .int i22, .int i23, .int i24, y15, y16, .long i25, y17], kI cI h1 700 g0] sz) := by
  refine kk_start (y := yX11_feed) (maxL := 8) (av := [.ref h0, .int p0, .int p1, .int p2, .int p3, .int p4]) (Qc := fun A => kk_Qi D (fun (r : Int32) (u : (Nat → Nat) × (Nat → Nat → Int32) × (Nat → Nat → Int64) × (Nat → Int32)) => r = 20) (fun u => []) A) (by decide) (Nat.le_of_ble_eq_true rfl) ?_
  intro p e s m below meth c ls A hx hb hr hml hown hts hE hlocks hin hsz hP hD hA hS hl
  have hown : s.vm.findClass RX11 = some m.cls := hown
  have hl : lv_has ls 8 [(0, .ref h0), (1, .int p0), (2, .int p1), (3, .int p2), (4, .int p3), (5, .int p4)] := hl
  refine lv_aload_n hx hb dX11_feed_0 rfl (lv_at hl 0 rfl) ?_
  refine lv_iconst (v := 0) hx hb dX11_feed_1 (by decide) ?_
  refine va_put (D := D) (ci := 10) (v := .int 0) (ty := .int) (C := RX11) (T := TX11) (N := 46) hx hb hts u_X11 tyX11 tyX11_ok nmX11 hown hE.1 hP hD hS 0 rfl rfl 2 (by decide) (hts _ w_1303) (fun _ h9 => h9) rfl (by decide +kernel) rfl rfl (Nat.le_of_ble_eq_true rfl) dX11_feed_2 (fun H locs hP hD hS => ?_)
  have hP : va_P D vwCl [kO h0 10 [.ref h1, .int 0, .int 0, y0, .int i1, .int i2, .int i3, .int i4, .int i5, .int i6, .int i7, .int i8, .int i9, .int i10, .int i11, .int i12, .int i13, .int i14, y1, y2, y3, y4, y5, y6, y7, y8, .int i15, y9, .int i16, .int i17, y10, y11, y12, y13, .int i18, .int i19, .int i20, y14, .int i21, .int i22, .int i23, .int i24, y15, y16, .long i25, y17], kI cI h1 700 g0] H := hP
  have hD : va_D A [kO h0 10 [.ref h1, .int 0, .int 0, y0, .int i1, .int i2, .int i3, .int i4, .int i5, .int i6, .int i7, .int i8, .int i9, .int i10, .int i11, .int i12, .int i13, .int i14, y1, y2, y3, y4, y5, y6, y7, y8, .int i15, y9, .int i16, .int i17, y10, y11, y12, y13, .int i18, .int i19, .int i20, y14, .int i21, .int i22, .int i23, .int i24, y15, y16, .long i25, y17], kI cI h1 700 g0] := hD
  refine lv_aload_n hx hb dX11_feed_5 rfl (lv_at hl 0 rfl) ?_
  refine va_get (D := D) (ci := 10) (v := .int 0) (C := RX11) (T := TX11) (N := 46) hx hb hts u_X11 hown hE.1 hP 0 rfl rfl 1 (by decide) (hts _ w_1302) (fun _ h9 => h9) rfl dX11_feed_6 ?_
  refine lv_bipush (v := 20) hx hb dX11_feed_9 (by decide) ?_
  refine lv_iadd hx hb dX11_feed_11 ?_
  refine lv_topi (fun v_1 e_1 => ?_)
  obtain rfl : v_1 = 20 := e_1.trans (by decide)
  refine lv_sipush (v := 700) hx hb dX11_feed_12 (by decide) ?_
  refine lv_icmp_le (tgt := 20) hx hb dX11_feed_15 (by decide) (fun _ => ?_) (fun c_2 => absurd c_2 (by decide))
  refine lv_iconst (v := 0) hx hb dX11_feed_20 (by decide) ?_
  refine lv_istore (lv' := [(6, .int 0), (0, .ref h0), (1, .int p0), (2, .int p1), (3, .int p2), (4, .int p3), (5, .int p4)]) hx hb dX11_feed_21 hl (by decide) rfl (fun ls hl => ?_)
  refine lv_iload hx hb dX11_feed_23 (lv_at hl 0 rfl) ?_
  refine lv_bipush (v := 20) hx hb dX11_feed_25 (by decide) ?_
  refine lv_icmp_ge (tgt := 113) hx hb dX11_feed_27 (by decide) (fun c_3 => absurd c_3 (by decide)) (fun _ => ?_)
  refine lv_iload hx hb dX11_feed_30 (lv_at hl 0 rfl) ?_
  refine lv_iconst (v := 4) hx hb dX11_feed_32 (by decide) ?_
  refine lv_icmp_ge (tgt := 40) hx hb dX11_feed_33 (by decide) (fun c_4 => absurd c_4 (by decide)) (fun _ => ?_)
  refine lv_iload_n hx hb dX11_feed_36 rfl (lv_at hl 2 rfl) ?_
  refine lv_goto (tgt := 76) hx hb dX11_feed_37 (by decide) ?_
  refine lv_istore (lv' := [(7, .int p0), (6, .int 0), (0, .ref h0), (1, .int p0), (2, .int p1), (3, .int p2), (4, .int p3), (5, .int p4)]) hx hb dX11_feed_76 hl (by decide) rfl (fun ls hl => ?_)
  refine lv_aload_n hx hb dX11_feed_78 rfl (lv_at hl 2 rfl) ?_
  refine va_get (D := D) (ci := 10) (v := .ref h1) (C := RX11) (T := TX11) (N := 46) hx hb hts u_X11 hown hE.1 hP 0 rfl rfl 0 (by decide) (hts _ w_1301) (fun _ h9 => h9) rfl dX11_feed_79 ?_
  refine lv_aload_n hx hb dX11_feed_82 rfl (lv_at hl 2 rfl) ?_
  refine va_get (D := D) (ci := 10) (v := .int 0) (C := RX11) (T := TX11) (N := 46) hx hb hts u_X11 hown hE.1 hP 0 rfl rfl 1 (by decide) (hts _ w_1302) (fun _ h9 => h9) rfl dX11_feed_83 ?_
  refine lv_iload hx hb dX11_feed_86 (lv_at hl 1 rfl) ?_
  refine lv_iadd hx hb dX11_feed_88 ?_
  refine lv_topi (fun v_5 e_5 => ?_)
  obtain rfl : v_5 = 0 := e_5.trans (by decide)
  refine lv_iload hx hb dX11_feed_89 (lv_at hl 0 rfl) ?_
  refine lv_bipush (v := 24) hx hb dX11_feed_91 (by decide) ?_
  refine lv_bipush (v := 8) hx hb dX11_feed_93 (by decide) ?_
  refine lv_iload hx hb dX11_feed_95 (lv_at hl 1 rfl) ?_
  refine lv_iconst (v := 4) hx hb dX11_feed_97 (by decide) ?_
  refine lv_irem hx hb dX11_feed_98 (by decide) ?_
  refine lv_topi (fun v_6 e_6 => ?_)
  obtain rfl : v_6 = 0 := e_6.trans (by decide)
  refine lv_imul hx hb dX11_feed_99 ?_
  refine lv_topi (fun v_7 e_7 => ?_)
  obtain rfl : v_7 = 0 := e_7.trans (by decide)
  refine lv_isub hx hb dX11_feed_100 ?_
  refine lv_topi (fun v_8 e_8 => ?_)
  obtain rfl : v_8 = 24 := e_8.trans (by decide)
  refine lv_ishr hx hb dX11_feed_101 ?_
  refine lv_topi (fun v_9 e_9 => ?_)
  refine lv_sipush (v := 255) hx hb dX11_feed_102 (by decide) ?_
  refine lv_iand hx hb dX11_feed_105 ?_
  refine lv_topi (fun v_10 e_10 => ?_)
  refine va_iast hx hb hE.1 hP hD hS 1 1 rfl rfl (kk_ix _ _ (by decide)) dX11_feed_106 (fun H locs hP hD hS => ?_)
  have hP : va_P D vwCl [kO h0 10 [.ref h1, .int 0, .int 0, y0, .int i1, .int i2, .int i3, .int i4, .int i5, .int i6, .int i7, .int i8, .int i9, .int i10, .int i11, .int i12, .int i13, .int i14, y1, y2, y3, y4, y5, y6, y7, y8, .int i15, y9, .int i16, .int i17, y10, y11, y12, y13, .int i18, .int i19, .int i20, y14, .int i21, .int i22, .int i23, .int i24, y15, y16, .long i25, y17], kI cI h1 700 (upd g0 0 v_10)] H := hP
  have hD : va_D A [kO h0 10 [.ref h1, .int 0, .int 0, y0, .int i1, .int i2, .int i3, .int i4, .int i5, .int i6, .int i7, .int i8, .int i9, .int i10, .int i11, .int i12, .int i13, .int i14, y1, y2, y3, y4, y5, y6, y7, y8, .int i15, y9, .int i16, .int i17, y10, y11, y12, y13, .int i18, .int i19, .int i20, y14, .int i21, .int i22, .int i23, .int i24, y15, y16, .long i25, y17], kI cI h1 700 (upd g0 0 v_10)] := hD
  refine lv_iinc (v := 1) (lv' := [(6, .int 1), (7, .int p0), (0, .ref h0), (1, .int p0), (2, .int p1), (3, .int p2), (4, .int p3), (5, .int p4)]) hx hb dX11_feed_107 hl (k := 1) rfl (by decide) (by decide) rfl (fun ls hl => ?_)
  refine lv_goto (tgt := 23) hx hb dX11_feed_110 (by decide) ?_
  refine lv_iload hx hb dX11_feed_23 (lv_at hl 0 rfl) ?_
  refine lv_bipush (v := 20) hx hb dX11_feed_25 (by decide) ?_
  refine lv_icmp_ge (tgt := 113) hx hb dX11_feed_27 (by decide) (fun c_11 => absurd c_11 (by decide)) (fun _ => ?_)
  refine lv_iload hx hb dX11_feed_30 (lv_at hl 0 rfl) ?_
  refine lv_iconst (v := 4) hx hb dX11_feed_32 (by decide) ?_
  refine lv_icmp_ge (tgt := 40) hx hb dX11_feed_33 (by decide) (fun c_12 => absurd c_12 (by decide)) (fun _ => ?_)
  refine lv_iload_n hx hb dX11_feed_36 rfl (lv_at hl 3 rfl) ?_
  refine lv_goto (tgt := 76) hx hb dX11_feed_37 (by decide) ?_
  refine lv_istore (lv' := [(7, .int p0), (6, .int 1), (0, .ref h0), (1, .int p0), (2, .int p1), (3, .int p2), (4, .int p3), (5, .int p4)]) hx hb dX11_feed_76 hl (by decide) rfl (fun ls hl => ?_)
  refine lv_aload_n hx hb dX11_feed_78 rfl (lv_at hl 2 rfl) ?_
  refine va_get (D := D) (ci := 10) (v := .ref h1) (C := RX11) (T := TX11) (N := 46) hx hb hts u_X11 hown hE.1 hP 0 rfl rfl 0 (by decide) (hts _ w_1301) (fun _ h9 => h9) rfl dX11_feed_79 ?_
  refine lv_aload_n hx hb dX11_feed_82 rfl (lv_at hl 2 rfl) ?_
  refine va_get (D := D) (ci := 10) (v := .int 0) (C := RX11) (T := TX11) (N := 46) hx hb hts u_X11 hown hE.1 hP 0 rfl rfl 1 (by decide) (hts _ w_1302) (fun _ h9 => h9) rfl dX11_feed_83 ?_
  refine lv_iload hx hb dX11_feed_86 (lv_at hl 1 rfl) ?_
  refine lv_iadd hx hb dX11_feed_88 ?_
  refine lv_topi (fun v_13 e_13 => ?_)
  obtain rfl : v_13 = 1 := e_13.trans (by decide)
  refine lv_iload hx hb dX11_feed_89 (lv_at hl 0 rfl) ?_
  refine lv_bipush (v := 24) hx hb dX11_feed_91 (by decide) ?_
  refine lv_bipush (v := 8) hx hb dX11_feed_93 (by decide) ?_
  refine lv_iload hx hb dX11_feed_95 (lv_at hl 1 rfl) ?_
  refine lv_iconst (v := 4) hx hb dX11_feed_97 (by decide) ?_
  refine lv_irem hx hb dX11_feed_98 (by decide) ?_
  refine lv_topi (fun v_14 e_14 => ?_)
  obtain rfl : v_14 = 1 := e_14.trans (by decide)
  refine lv_imul hx hb dX11_feed_99 ?_
  refine lv_topi (fun v_15 e_15 => ?_)
  obtain rfl : v_15 = 8 := e_15.trans (by decide)
  refine lv_isub hx hb dX11_feed_100 ?_
  refine lv_topi (fun v_16 e_16 => ?_)
  obtain rfl : v_16 = 16 := e_16.trans (by decide)
  refine lv_ishr hx hb dX11_feed_101 ?_
  refine lv_topi (fun v_17 e_17 => ?_)
  refine lv_sipush (v := 255) hx hb dX11_feed_102 (by decide) ?_
  refine lv_iand hx hb dX11_feed_105 ?_
  refine lv_topi (fun v_18 e_18 => ?_)
  refine va_iast hx hb hE.1 hP hD hS 1 1 rfl rfl (kk_ix _ _ (by decide)) dX11_feed_106 (fun H locs hP hD hS => ?_)
  have hP : va_P D vwCl [kO h0 10 [.ref h1, .int 0, .int 0, y0, .int i1, .int i2, .int i3, .int i4, .int i5, .int i6, .int i7, .int i8, .int i9, .int i10, .int i11, .int i12, .int i13, .int i14, y1, y2, y3, y4, y5, y6, y7, y8, .int i15, y9, .int i16, .int i17, y10, y11, y12, y13, .int i18, .int i19, .int i20, y14, .int i21, .int i22, .int i23, .int i24, y15, y16, .long i25, y17], kI cI h1 700 (upd (upd g0 0 v_10) 1 v_18)] H := hP
  have hD : va_D A [kO h0 10 [.ref h1, .int 0, .int 0, y0, .int i1, .int i2, .int i3, .int i4, .int i5, .int i6, .int i7, .int i8, .int i9, .int i10, .int i11, .int i12, .int i13, .int i14, y1, y2, y3, y4, y5, y6, y7, y8, .int i15, y9, .int i16, .int i17, y10, y11, y12, y13, .int i18, .int i19, .int i20, y14, .int i21, .int i22, .int i23, .int i24, y15, y16, .long i25, y17], kI cI h1 700 (upd (upd g0 0 v_10) 1 v_18)] := hD
  refine lv_iinc (v := 2) (lv' := [(6, .int 2), (7, .int p0), (0, .ref h0), (1, .int p0), (2, .int p1), (3, .int p2), (4, .int p3), (5, .int p4)]) hx hb dX11_feed_107 hl (k := 1) rfl (by decide) (by decide) rfl (fun ls hl => ?_)
  refine lv_goto (tgt := 23) hx hb dX11_feed_110 (by decide) ?_
  refine lv_iload hx hb dX11_feed_23 (lv_at hl 0 rfl) ?_
  refine lv_bipush (v := 20) hx hb dX11_feed_25 (by decide) ?_
  refine lv_icmp_ge (tgt := 113) hx hb dX11_feed_27 (by decide) (fun c_19 => absurd c_19 (by decide)) (fun _ => ?_)
  refine lv_iload hx hb dX11_feed_30 (lv_at hl 0 rfl) ?_
  refine lv_iconst (v := 4) hx hb dX11_feed_32 (by decide) ?_
  refine lv_icmp_ge (tgt := 40) hx hb dX11_feed_33 (by decide) (fun c_20 => absurd c_20 (by decide)) (fun _ => ?_)
  refine lv_iload_n hx hb dX11_feed_36 rfl (lv_at hl 3 rfl) ?_
  refine lv_goto (tgt := 76) hx hb dX11_feed_37 (by decide) ?_
  refine lv_istore (lv' := [(7, .int p0), (6, .int 2), (0, .ref h0), (1, .int p0), (2, .int p1), (3, .int p2), (4, .int p3), (5, .int p4)]) hx hb dX11_feed_76 hl (by decide) rfl (fun ls hl => ?_)
  refine lv_aload_n hx hb dX11_feed_78 rfl (lv_at hl 2 rfl) ?_
  refine va_get (D := D) (ci := 10) (v := .ref h1) (C := RX11) (T := TX11) (N := 46) hx hb hts u_X11 hown hE.1 hP 0 rfl rfl 0 (by decide) (hts _ w_1301) (fun _ h9 => h9) rfl dX11_feed_79 ?_
  refine lv_aload_n hx hb dX11_feed_82 rfl (lv_at hl 2 rfl) ?_
  refine va_get (D := D) (ci := 10) (v := .int 0) (C := RX11) (T := TX11) (N := 46) hx hb hts u_X11 hown hE.1 hP 0 rfl rfl 1 (by decide) (hts _ w_1302) (fun _ h9 => h9) rfl dX11_feed_83 ?_
  refine lv_iload hx hb dX11_feed_86 (lv_at hl 1 rfl) ?_
  refine lv_iadd hx hb dX11_feed_88 ?_
  refine lv_topi (fun v_21 e_21 => ?_)
  obtain rfl : v_21 = 2 := e_21.trans (by decide)
  refine lv_iload hx hb dX11_feed_89 (lv_at hl 0 rfl) ?_
  refine lv_bipush (v := 24) hx hb dX11_feed_91 (by decide) ?_
  refine lv_bipush (v := 8) hx hb dX11_feed_93 (by decide) ?_
  refine lv_iload hx hb dX11_feed_95 (lv_at hl 1 rfl) ?_
  refine lv_iconst (v := 4) hx hb dX11_feed_97 (by decide) ?_
  refine lv_irem hx hb dX11_feed_98 (by decide) ?_
  refine lv_topi (fun v_22 e_22 => ?_)
  obtain rfl : v_22 = 2 := e_22.trans (by decide)
  refine lv_imul hx hb dX11_feed_99 ?_
  refine lv_topi (fun v_23 e_23 => ?_)
  obtain rfl : v_23 = 16 := e_23.trans (by decide)
  refine lv_isub hx hb dX11_feed_100 ?_
  refine lv_topi (fun v_24 e_24 => ?_)
  obtain rfl : v_24 = 8 := e_24.trans (by decide)
  refine lv_ishr hx hb dX11_feed_101 ?_
  refine lv_topi (fun v_25 e_25 => ?_)
  refine lv_sipush (v := 255) hx hb dX11_feed_102 (by decide) ?_
  refine lv_iand hx hb dX11_feed_105 ?_
  refine lv_topi (fun v_26 e_26 => ?_)
  refine va_iast hx hb hE.1 hP hD hS 1 1 rfl rfl (kk_ix _ _ (by decide)) dX11_feed_106 (fun H locs hP hD hS => ?_)
  obtain ⟨f_27, ef_27⟩ : ∃ z, z = (upd (upd (upd g0 0 v_10) 1 v_18) 2 v_26) := ⟨_, rfl⟩
  have hP : va_P D vwCl [kO h0 10 [.ref h1, .int 0, .int 0, y0, .int i1, .int i2, .int i3, .int i4, .int i5, .int i6, .int i7, .int i8, .int i9, .int i10, .int i11, .int i12, .int i13, .int i14, y1, y2, y3, y4, y5, y6, y7, y8, .int i15, y9, .int i16, .int i17, y10, y11, y12, y13, .int i18, .int i19, .int i20, y14, .int i21, .int i22, .int i23, .int i24, y15, y16, .long i25, y17], kI cI h1 700 f_27] H := by rw [ef_27]; exact hP
  have hD : va_D A [kO h0 10 [.ref h1, .int 0, .int 0, y0, .int i1, .int i2, .int i3, .int i4, .int i5, .int i6, .int i7, .int i8, .int i9, .int i10, .int i11, .int i12, .int i13, .int i14, y1, y2, y3, y4, y5, y6, y7, y8, .int i15, y9, .int i16, .int i17, y10, y11, y12, y13, .int i18, .int i19, .int i20, y14, .int i21, .int i22, .int i23, .int i24, y15, y16, .long i25, y17], kI cI h1 700 f_27] := by rw [ef_27]; exact hD
  refine lv_iinc (v := 3) (lv' := [(6, .int 3), (7, .int p0), (0, .ref h0), (1, .int p0), (2, .int p1), (3, .int p2), (4, .int p3), (5, .int p4)]) hx hb dX11_feed_107 hl (k := 1) rfl (by decide) (by decide) rfl (fun ls hl => ?_)
  refine lv_goto (tgt := 23) hx hb dX11_feed_110 (by decide) ?_
  refine lv_iload hx hb dX11_feed_23 (lv_at hl 0 rfl) ?_
  refine lv_bipush (v := 20) hx hb dX11_feed_25 (by decide) ?_
  refine lv_icmp_ge (tgt := 113) hx hb dX11_feed_27 (by decide) (fun c_28 => absurd c_28 (by decide)) (fun _ => ?_)
  refine lv_iload hx hb dX11_feed_30 (lv_at hl 0 rfl) ?_
  refine lv_iconst (v := 4) hx hb dX11_feed_32 (by decide) ?_
  refine lv_icmp_ge (tgt := 40) hx hb dX11_feed_33 (by decide) (fun c_29 => absurd c_29 (by decide)) (fun _ => ?_)
  refine lv_iload_n hx hb dX11_feed_36 rfl (lv_at hl 3 rfl) ?_
  refine lv_goto (tgt := 76) hx hb dX11_feed_37 (by decide) ?_
  refine lv_istore (lv' := [(7, .int p0), (6, .int 3), (0, .ref h0), (1, .int p0), (2, .int p1), (3, .int p2), (4, .int p3), (5, .int p4)]) hx hb dX11_feed_76 hl (by decide) rfl (fun ls hl => ?_)
  refine lv_aload_n hx hb dX11_feed_78 rfl (lv_at hl 2 rfl) ?_
  refine va_get (D := D) (ci := 10) (v := .ref h1) (C := RX11) (T := TX11) (N := 46) hx hb hts u_X11 hown hE.1 hP 0 rfl rfl 0 (by decide) (hts _ w_1301) (fun _ h9 => h9) rfl dX11_feed_79 ?_
  refine lv_aload_n hx hb dX11_feed_82 rfl (lv_at hl 2 rfl) ?_
  refine va_get (D := D) (ci := 10) (v := .int 0) (C := RX11) (T := TX11) (N := 46) hx hb hts u_X11 hown hE.1 hP 0 rfl rfl 1 (by decide) (hts _ w_1302) (fun _ h9 => h9) rfl dX11_feed_83 ?_
  refine lv_iload hx hb dX11_feed_86 (lv_at hl 1 rfl) ?_
  refine lv_iadd hx hb dX11_feed_88 ?_
  refine lv_topi (fun v_30 e_30 => ?_)
  obtain rfl : v_30 = 3 := e_30.trans (by decide)
  refine lv_iload hx hb dX11_feed_89 (lv_at hl 0 rfl) ?_
  refine lv_bipush (v := 24) hx hb dX11_feed_91 (by decide) ?_
  refine lv_bipush (v := 8) hx hb dX11_feed_93 (by decide) ?_
  refine lv_iload hx hb dX11_feed_95 (lv_at hl 1 rfl) ?_
  refine lv_iconst (v := 4) hx hb dX11_feed_97 (by decide) ?_
  refine lv_irem hx hb dX11_feed_98 (by decide) ?_
  refine lv_topi (fun v_31 e_31 => ?_)
  obtain rfl : v_31 = 3 := e_31.trans (by decide)
  refine lv_imul hx hb dX11_feed_99 ?_
  refine lv_topi (fun v_32 e_32 => ?_)
  obtain rfl : v_32 = 24 := e_32.trans (by decide)
  refine lv_isub hx hb dX11_feed_100 ?_
  refine lv_topi (fun v_33 e_33 => ?_)
  obtain rfl : v_33 = 0 := e_33.trans (by decide)
  refine lv_ishr hx hb dX11_feed_101 ?_
  refine lv_topi (fun v_34 e_34 => ?_)
  refine lv_sipush (v := 255) hx hb dX11_feed_102 (by decide) ?_
  refine lv_iand hx hb dX11_feed_105 ?_
  refine lv_topi (fun v_35 e_35 => ?_)
  refine va_iast hx hb hE.1 hP hD hS 1 1 rfl rfl (kk_ix _ _ (by decide)) dX11_feed_106 (fun H locs hP hD hS => ?_)
  have hP : va_P D vwCl [kO h0 10 [.ref h1, .int 0, .int 0, y0, .int i1, .int i2, .int i3, .int i4, .int i5, .int i6, .int i7, .int i8, .int i9, .int i10, .int i11, .int i12, .int i13, .int i14, y1, y2, y3, y4, y5, y6, y7, y8, .int i15, y9, .int i16, .int i17, y10, y11, y12, y13, .int i18, .int i19, .int i20, y14, .int i21, .int i22, .int i23, .int i24, y15, y16, .long i25, y17], kI cI h1 700 (upd f_27 3 v_35)] H := hP
  have hD : va_D A [kO h0 10 [.ref h1, .int 0, .int 0, y0, .int i1, .int i2, .int i3, .int i4, .int i5, .int i6, .int i7, .int i8, .int i9, .int i10, .int i11, .int i12, .int i13, .int i14, y1, y2, y3, y4, y5, y6, y7, y8, .int i15, y9, .int i16, .int i17, y10, y11, y12, y13, .int i18, .int i19, .int i20, y14, .int i21, .int i22, .int i23, .int i24, y15, y16, .long i25, y17], kI cI h1 700 (upd f_27 3 v_35)] := hD
  refine lv_iinc (v := 4) (lv' := [(6, .int 4), (7, .int p0), (0, .ref h0), (1, .int p0), (2, .int p1), (3, .int p2), (4, .int p3), (5, .int p4)]) hx hb dX11_feed_107 hl (k := 1) rfl (by decide) (by decide) rfl (fun ls hl => ?_)
  refine lv_goto (tgt := 23) hx hb dX11_feed_110 (by decide) ?_
  refine lv_iload hx hb dX11_feed_23 (lv_at hl 0 rfl) ?_
  refine lv_bipush (v := 20) hx hb dX11_feed_25 (by decide) ?_
  refine lv_icmp_ge (tgt := 113) hx hb dX11_feed_27 (by decide) (fun c_36 => absurd c_36 (by decide)) (fun _ => ?_)
  refine lv_iload hx hb dX11_feed_30 (lv_at hl 0 rfl) ?_
  refine lv_iconst (v := 4) hx hb dX11_feed_32 (by decide) ?_
  refine lv_icmp_ge (tgt := 40) hx hb dX11_feed_33 (by decide) (fun _ => ?_) (fun c_37 => absurd c_37 (by decide))
  refine lv_iload hx hb dX11_feed_40 (lv_at hl 0 rfl) ?_
  refine lv_bipush (v := 8) hx hb dX11_feed_42 (by decide) ?_
  refine lv_icmp_ge (tgt := 51) hx hb dX11_feed_44 (by decide) (fun c_38 => absurd c_38 (by decide)) (fun _ => ?_)
  refine lv_iload_n hx hb dX11_feed_47 rfl (lv_at hl 4 rfl) ?_
  refine lv_goto (tgt := 76) hx hb dX11_feed_48 (by decide) ?_
  refine lv_istore (lv' := [(7, .int p1), (6, .int 4), (0, .ref h0), (1, .int p0), (2, .int p1), (3, .int p2), (4, .int p3), (5, .int p4)]) hx hb dX11_feed_76 hl (by decide) rfl (fun ls hl => ?_)
  refine lv_aload_n hx hb dX11_feed_78 rfl (lv_at hl 2 rfl) ?_
  refine va_get (D := D) (ci := 10) (v := .ref h1) (C := RX11) (T := TX11) (N := 46) hx hb hts u_X11 hown hE.1 hP 0 rfl rfl 0 (by decide) (hts _ w_1301) (fun _ h9 => h9) rfl dX11_feed_79 ?_
  refine lv_aload_n hx hb dX11_feed_82 rfl (lv_at hl 2 rfl) ?_
  refine va_get (D := D) (ci := 10) (v := .int 0) (C := RX11) (T := TX11) (N := 46) hx hb hts u_X11 hown hE.1 hP 0 rfl rfl 1 (by decide) (hts _ w_1302) (fun _ h9 => h9) rfl dX11_feed_83 ?_
  refine lv_iload hx hb dX11_feed_86 (lv_at hl 1 rfl) ?_
  refine lv_iadd hx hb dX11_feed_88 ?_
  refine lv_topi (fun v_39 e_39 => ?_)
  obtain rfl : v_39 = 4 := e_39.trans (by decide)
  refine lv_iload hx hb dX11_feed_89 (lv_at hl 0 rfl) ?_
  refine lv_bipush (v := 24) hx hb dX11_feed_91 (by decide) ?_
  refine lv_bipush (v := 8) hx hb dX11_feed_93 (by decide) ?_
  refine lv_iload hx hb dX11_feed_95 (lv_at hl 1 rfl) ?_
  refine lv_iconst (v := 4) hx hb dX11_feed_97 (by decide) ?_
  refine lv_irem hx hb dX11_feed_98 (by decide) ?_
  refine lv_topi (fun v_40 e_40 => ?_)
  obtain rfl : v_40 = 0 := e_40.trans (by decide)
  refine lv_imul hx hb dX11_feed_99 ?_
  refine lv_topi (fun v_41 e_41 => ?_)
  obtain rfl : v_41 = 0 := e_41.trans (by decide)
  refine lv_isub hx hb dX11_feed_100 ?_
  refine lv_topi (fun v_42 e_42 => ?_)
  obtain rfl : v_42 = 24 := e_42.trans (by decide)
  refine lv_ishr hx hb dX11_feed_101 ?_
  refine lv_topi (fun v_43 e_43 => ?_)
  refine lv_sipush (v := 255) hx hb dX11_feed_102 (by decide) ?_
  refine lv_iand hx hb dX11_feed_105 ?_
  refine lv_topi (fun v_44 e_44 => ?_)
  refine va_iast hx hb hE.1 hP hD hS 1 1 rfl rfl (kk_ix _ _ (by decide)) dX11_feed_106 (fun H locs hP hD hS => ?_)
  have hP : va_P D vwCl [kO h0 10 [.ref h1, .int 0, .int 0, y0, .int i1, .int i2, .int i3, .int i4, .int i5, .int i6, .int i7, .int i8, .int i9, .int i10, .int i11, .int i12, .int i13, .int i14, y1, y2, y3, y4, y5, y6, y7, y8, .int i15, y9, .int i16, .int i17, y10, y11, y12, y13, .int i18, .int i19, .int i20, y14, .int i21, .int i22, .int i23, .int i24, y15, y16, .long i25, y17], kI cI h1 700 (upd (upd f_27 3 v_35) 4 v_44)] H := hP
  have hD : va_D A [kO h0 10 [.ref h1, .int 0, .int 0, y0, .int i1, .int i2, .int i3, .int i4, .int i5, .int i6, .int i7, .int i8, .int i9, .int i10, .int i11, .int i12, .int i13, .int i14, y1, y2, y3, y4, y5, y6, y7, y8, .int i15, y9, .int i16, .int i17, y10, y11, y12, y13, .int i18, .int i19, .int i20, y14, .int i21, .int i22, .int i23, .int i24, y15, y16, .long i25, y17], kI cI h1 700 (upd (upd f_27 3 v_35) 4 v_44)] := hD
  refine lv_iinc (v := 5) (lv' := [(6, .int 5), (7, .int p1), (0, .ref h0), (1, .int p0), (2, .int p1), (3, .int p2), (4, .int p3), (5, .int p4)]) hx hb dX11_feed_107 hl (k := 1) rfl (by decide) (by decide) rfl (fun ls hl => ?_)
  refine lv_goto (tgt := 23) hx hb dX11_feed_110 (by decide) ?_
  refine lv_iload hx hb dX11_feed_23 (lv_at hl 0 rfl) ?_
  refine lv_bipush (v := 20) hx hb dX11_feed_25 (by decide) ?_
  refine lv_icmp_ge (tgt := 113) hx hb dX11_feed_27 (by decide) (fun c_45 => absurd c_45 (by decide)) (fun _ => ?_)
  refine lv_iload hx hb dX11_feed_30 (lv_at hl 0 rfl) ?_
  refine lv_iconst (v := 4) hx hb dX11_feed_32 (by decide) ?_
  refine lv_icmp_ge (tgt := 40) hx hb dX11_feed_33 (by decide) (fun _ => ?_) (fun c_46 => absurd c_46 (by decide))
  refine lv_iload hx hb dX11_feed_40 (lv_at hl 0 rfl) ?_
  refine lv_bipush (v := 8) hx hb dX11_feed_42 (by decide) ?_
  refine lv_icmp_ge (tgt := 51) hx hb dX11_feed_44 (by decide) (fun c_47 => absurd c_47 (by decide)) (fun _ => ?_)
  refine lv_iload_n hx hb dX11_feed_47 rfl (lv_at hl 4 rfl) ?_
  refine lv_goto (tgt := 76) hx hb dX11_feed_48 (by decide) ?_
  refine lv_istore (lv' := [(7, .int p1), (6, .int 5), (0, .ref h0), (1, .int p0), (2, .int p1), (3, .int p2), (4, .int p3), (5, .int p4)]) hx hb dX11_feed_76 hl (by decide) rfl (fun ls hl => ?_)
  refine lv_aload_n hx hb dX11_feed_78 rfl (lv_at hl 2 rfl) ?_
  refine va_get (D := D) (ci := 10) (v := .ref h1) (C := RX11) (T := TX11) (N := 46) hx hb hts u_X11 hown hE.1 hP 0 rfl rfl 0 (by decide) (hts _ w_1301) (fun _ h9 => h9) rfl dX11_feed_79 ?_
  refine lv_aload_n hx hb dX11_feed_82 rfl (lv_at hl 2 rfl) ?_
  refine va_get (D := D) (ci := 10) (v := .int 0) (C := RX11) (T := TX11) (N := 46) hx hb hts u_X11 hown hE.1 hP 0 rfl rfl 1 (by decide) (hts _ w_1302) (fun _ h9 => h9) rfl dX11_feed_83 ?_
  refine lv_iload hx hb dX11_feed_86 (lv_at hl 1 rfl) ?_
  refine lv_iadd hx hb dX11_feed_88 ?_
  refine lv_topi (fun v_48 e_48 => ?_)
  obtain rfl : v_48 = 5 := e_48.trans (by decide)
  refine lv_iload hx hb dX11_feed_89 (lv_at hl 0 rfl) ?_
  refine lv_bipush (v := 24) hx hb dX11_feed_91 (by decide) ?_
  refine lv_bipush (v := 8) hx hb dX11_feed_93 (by decide) ?_
  refine lv_iload hx hb dX11_feed_95 (lv_at hl 1 rfl) ?_
  refine lv_iconst (v := 4) hx hb dX11_feed_97 (by decide) ?_
  refine lv_irem hx hb dX11_feed_98 (by decide) ?_
  refine lv_topi (fun v_49 e_49 => ?_)
  obtain rfl : v_49 = 1 := e_49.trans (by decide)
  refine lv_imul hx hb dX11_feed_99 ?_
  refine lv_topi (fun v_50 e_50 => ?_)
  obtain rfl : v_50 = 8 := e_50.trans (by decide)
  refine lv_isub hx hb dX11_feed_100 ?_
  refine lv_topi (fun v_51 e_51 => ?_)
  obtain rfl : v_51 = 16 := e_51.trans (by decide)
  refine lv_ishr hx hb dX11_feed_101 ?_
  refine lv_topi (fun v_52 e_52 => ?_)
  refine lv_sipush (v := 255) hx hb dX11_feed_102 (by decide) ?_
  refine lv_iand hx hb dX11_feed_105 ?_
  refine lv_topi (fun v_53 e_53 => ?_)
  refine va_iast hx hb hE.1 hP hD hS 1 1 rfl rfl (kk_ix _ _ (by decide)) dX11_feed_106 (fun H locs hP hD hS => ?_)
  obtain ⟨f_54, ef_54⟩ : ∃ z, z = (upd (upd (upd f_27 3 v_35) 4 v_44) 5 v_53) := ⟨_, rfl⟩
  have hP : va_P D vwCl [kO h0 10 [.ref h1, .int 0, .int 0, y0, .int i1, .int i2, .int i3, .int i4, .int i5, .int i6, .int i7, .int i8, .int i9, .int i10, .int i11, .int i12, .int i13, .int i14, y1, y2, y3, y4, y5, y6, y7, y8, .int i15, y9, .int i16, .int i17, y10, y11, y12, y13, .int i18, .int i19, .int i20, y14, .int i21, .int i22, .int i23, .int i24, y15, y16, .long i25, y17], kI cI h1 700 f_54] H := by rw [ef_54]; exact hP
  have hD : va_D A [kO h0 10 [.ref h1, .int 0, .int 0, y0, .int i1, .int i2, .int i3, .int i4, .int i5, .int i6, .int i7, .int i8, .int i9, .int i10, .int i11, .int i12, .int i13, .int i14, y1, y2, y3, y4, y5, y6, y7, y8, .int i15, y9, .int i16, .int i17, y10, y11, y12, y13, .int i18, .int i19, .int i20, y14, .int i21, .int i22, .int i23, .int i24, y15, y16, .long i25, y17], kI cI h1 700 f_54] := by rw [ef_54]; exact hD
  refine lv_iinc (v := 6) (lv' := [(6, .int 6), (7, .int p1), (0, .ref h0), (1, .int p0), (2, .int p1), (3, .int p2), (4, .int p3), (5, .int p4)]) hx hb dX11_feed_107 hl (k := 1) rfl (by decide) (by decide) rfl (fun ls hl => ?_)
  refine lv_goto (tgt := 23) hx hb dX11_feed_110 (by decide) ?_
  refine lv_iload hx hb dX11_feed_23 (lv_at hl 0 rfl) ?_
  refine lv_bipush (v := 20) hx hb dX11_feed_25 (by decide) ?_
  refine lv_icmp_ge (tgt := 113) hx hb dX11_feed_27 (by decide) (fun c_55 => absurd c_55 (by decide)) (fun _ => ?_)
  refine lv_iload hx hb dX11_feed_30 (lv_at hl 0 rfl) ?_
  refine lv_iconst (v := 4) hx hb dX11_feed_32 (by decide) ?_
  refine lv_icmp_ge (tgt := 40) hx hb dX11_feed_33 (by decide) (fun _ => ?_) (fun c_56 => absurd c_56 (by decide))
  refine lv_iload hx hb dX11_feed_40 (lv_at hl 0 rfl) ?_
  refine lv_bipush (v := 8) hx hb dX11_feed_42 (by decide) ?_
  refine lv_icmp_ge (tgt := 51) hx hb dX11_feed_44 (by decide) (fun c_57 => absurd c_57 (by decide)) (fun _ => ?_)
  refine lv_iload_n hx hb dX11_feed_47 rfl (lv_at hl 4 rfl) ?_
  refine lv_goto (tgt := 76) hx hb dX11_feed_48 (by decide) ?_
  refine lv_istore (lv' := [(7, .int p1), (6, .int 6), (0, .ref h0), (1, .int p0), (2, .int p1), (3, .int p2), (4, .int p3), (5, .int p4)]) hx hb dX11_feed_76 hl (by decide) rfl (fun ls hl => ?_)
  refine lv_aload_n hx hb dX11_feed_78 rfl (lv_at hl 2 rfl) ?_
  refine va_get (D := D) (ci := 10) (v := .ref h1) (C := RX11) (T := TX11) (N := 46) hx hb hts u_X11 hown hE.1 hP 0 rfl rfl 0 (by decide) (hts _ w_1301) (fun _ h9 => h9) rfl dX11_feed_79 ?_
  refine lv_aload_n hx hb dX11_feed_82 rfl (lv_at hl 2 rfl) ?_
  refine va_get (D := D) (ci := 10) (v := .int 0) (C := RX11) (T := TX11) (N := 46) hx hb hts u_X11 hown hE.1 hP 0 rfl rfl 1 (by decide) (hts _ w_1302) (fun _ h9 => h9) rfl dX11_feed_83 ?_
  refine lv_iload hx hb dX11_feed_86 (lv_at hl 1 rfl) ?_
  refine lv_iadd hx hb dX11_feed_88 ?_
  refine lv_topi (fun v_58 e_58 => ?_)
  obtain rfl : v_58 = 6 := e_58.trans (by decide)
  refine lv_iload hx hb dX11_feed_89 (lv_at hl 0 rfl) ?_
  refine lv_bipush (v := 24) hx hb dX11_feed_91 (by decide) ?_
  refine lv_bipush (v := 8) hx hb dX11_feed_93 (by decide) ?_
  refine lv_iload hx hb dX11_feed_95 (lv_at hl 1 rfl) ?_
  refine lv_iconst (v := 4) hx hb dX11_feed_97 (by decide) ?_
  refine lv_irem hx hb dX11_feed_98 (by decide) ?_
  refine lv_topi (fun v_59 e_59 => ?_)
  obtain rfl : v_59 = 2 := e_59.trans (by decide)
  refine lv_imul hx hb dX11_feed_99 ?_
  refine lv_topi (fun v_60 e_60 => ?_)
  obtain rfl : v_60 = 16 := e_60.trans (by decide)
  refine lv_isub hx hb dX11_feed_100 ?_
  refine lv_topi (fun v_61 e_61 => ?_)
  obtain rfl : v_61 = 8 := e_61.trans (by decide)
  refine lv_ishr hx hb dX11_feed_101 ?_
  refine lv_topi (fun v_62 e_62 => ?_)
  refine lv_sipush (v := 255) hx hb dX11_feed_102 (by decide) ?_
  refine lv_iand hx hb dX11_feed_105 ?_
  refine lv_topi (fun v_63 e_63 => ?_)
  refine va_iast hx hb hE.1 hP hD hS 1 1 rfl rfl (kk_ix _ _ (by decide)) dX11_feed_106 (fun H locs hP hD hS => ?_)
  have hP : va_P D vwCl [kO h0 10 [.ref h1, .int 0, .int 0, y0, .int i1, .int i2, .int i3, .int i4, .int i5, .int i6, .int i7, .int i8, .int i9, .int i10, .int i11, .int i12, .int i13, .int i14, y1, y2, y3, y4, y5, y6, y7, y8, .int i15, y9, .int i16, .int i17, y10, y11, y12, y13, .int i18, .int i19, .int i20, y14, .int i21, .int i22, .int i23, .int i24, y15, y16, .long i25, y17], kI cI h1 700 (upd f_54 6 v_63)] H := hP
  have hD : va_D A [kO h0 10 [.ref h1, .int 0, .int 0, y0, .int i1, .int i2, .int i3, .int i4, .int i5, .int i6, .int i7, .int i8, .int i9, .int i10, .int i11, .int i12, .int i13, .int i14, y1, y2, y3, y4, y5, y6, y7, y8, .int i15, y9, .int i16, .int i17, y10, y11, y12, y13, .int i18, .int i19, .int i20, y14, .int i21, .int i22, .int i23, .int i24, y15, y16, .long i25, y17], kI cI h1 700 (upd f_54 6 v_63)] := hD
  refine lv_iinc (v := 7) (lv' := [(6, .int 7), (7, .int p1), (0, .ref h0), (1, .int p0), (2, .int p1), (3, .int p2), (4, .int p3), (5, .int p4)]) hx hb dX11_feed_107 hl (k := 1) rfl (by decide) (by decide) rfl (fun ls hl => ?_)
  refine lv_goto (tgt := 23) hx hb dX11_feed_110 (by decide) ?_
  refine lv_iload hx hb dX11_feed_23 (lv_at hl 0 rfl) ?_
  refine lv_bipush (v := 20) hx hb dX11_feed_25 (by decide) ?_
  refine lv_icmp_ge (tgt := 113) hx hb dX11_feed_27 (by decide) (fun c_64 => absurd c_64 (by decide)) (fun _ => ?_)
  refine lv_iload hx hb dX11_feed_30 (lv_at hl 0 rfl) ?_
  refine lv_iconst (v := 4) hx hb dX11_feed_32 (by decide) ?_
  refine lv_icmp_ge (tgt := 40) hx hb dX11_feed_33 (by decide) (fun _ => ?_) (fun c_65 => absurd c_65 (by decide))
  refine lv_iload hx hb dX11_feed_40 (lv_at hl 0 rfl) ?_
  refine lv_bipush (v := 8) hx hb dX11_feed_42 (by decide) ?_
  refine lv_icmp_ge (tgt := 51) hx hb dX11_feed_44 (by decide) (fun c_66 => absurd c_66 (by decide)) (fun _ => ?_)
  refine lv_iload_n hx hb dX11_feed_47 rfl (lv_at hl 4 rfl) ?_
  refine lv_goto (tgt := 76) hx hb dX11_feed_48 (by decide) ?_
  refine lv_istore (lv' := [(7, .int p1), (6, .int 7), (0, .ref h0), (1, .int p0), (2, .int p1), (3, .int p2), (4, .int p3), (5, .int p4)]) hx hb dX11_feed_76 hl (by decide) rfl (fun ls hl => ?_)
  refine lv_aload_n hx hb dX11_feed_78 rfl (lv_at hl 2 rfl) ?_
  refine va_get (D := D) (ci := 10) (v := .ref h1) (C := RX11) (T := TX11) (N := 46) hx hb hts u_X11 hown hE.1 hP 0 rfl rfl 0 (by decide) (hts _ w_1301) (fun _ h9 => h9) rfl dX11_feed_79 ?_
  refine lv_aload_n hx hb dX11_feed_82 rfl (lv_at hl 2 rfl) ?_
  refine va_get (D := D) (ci := 10) (v := .int 0) (C := RX11) (T := TX11) (N := 46) hx hb hts u_X11 hown hE.1 hP 0 rfl rfl 1 (by decide) (hts _ w_1302) (fun _ h9 => h9) rfl dX11_feed_83 ?_
  refine lv_iload hx hb dX11_feed_86 (lv_at hl 1 rfl) ?_
  refine lv_iadd hx hb dX11_feed_88 ?_
  refine lv_topi (fun v_67 e_67 => ?_)
  obtain rfl : v_67 = 7 := e_67.trans (by decide)
  refine lv_iload hx hb dX11_feed_89 (lv_at hl 0 rfl) ?_
  refine lv_bipush (v := 24) hx hb dX11_feed_91 (by decide) ?_
  refine lv_bipush (v := 8) hx hb dX11_feed_93 (by decide) ?_
  refine lv_iload hx hb dX11_feed_95 (lv_at hl 1 rfl) ?_
  refine lv_iconst (v := 4) hx hb dX11_feed_97 (by decide) ?_
  refine lv_irem hx hb dX11_feed_98 (by decide) ?_
  refine lv_topi (fun v_68 e_68 => ?_)
  obtain rfl : v_68 = 3 := e_68.trans (by decide)
  refine lv_imul hx hb dX11_feed_99 ?_
  refine lv_topi (fun v_69 e_69 => ?_)
  obtain rfl : v_69 = 24 := e_69.trans (by decide)
  refine lv_isub hx hb dX11_feed_100 ?_
  refine lv_topi (fun v_70 e_70 => ?_)
  obtain rfl : v_70 = 0 := e_70.trans (by decide)
  refine lv_ishr hx hb dX11_feed_101 ?_
  refine lv_topi (fun v_71 e_71 => ?_)
  refine lv_sipush (v := 255) hx hb dX11_feed_102 (by decide) ?_
  refine lv_iand hx hb dX11_feed_105 ?_
  refine lv_topi (fun v_72 e_72 => ?_)
  refine va_iast hx hb hE.1 hP hD hS 1 1 rfl rfl (kk_ix _ _ (by decide)) dX11_feed_106 (fun H locs hP hD hS => ?_)
  have hP : va_P D vwCl [kO h0 10 [.ref h1, .int 0, .int 0, y0, .int i1, .int i2, .int i3, .int i4, .int i5, .int i6, .int i7, .int i8, .int i9, .int i10, .int i11, .int i12, .int i13, .int i14, y1, y2, y3, y4, y5, y6, y7, y8, .int i15, y9, .int i16, .int i17, y10, y11, y12, y13, .int i18, .int i19, .int i20, y14, .int i21, .int i22, .int i23, .int i24, y15, y16, .long i25, y17], kI cI h1 700 (upd (upd f_54 6 v_63) 7 v_72)] H := hP
  have hD : va_D A [kO h0 10 [.ref h1, .int 0, .int 0, y0, .int i1, .int i2, .int i3, .int i4, .int i5, .int i6, .int i7, .int i8, .int i9, .int i10, .int i11, .int i12, .int i13, .int i14, y1, y2, y3, y4, y5, y6, y7, y8, .int i15, y9, .int i16, .int i17, y10, y11, y12, y13, .int i18, .int i19, .int i20, y14, .int i21, .int i22, .int i23, .int i24, y15, y16, .long i25, y17], kI cI h1 700 (upd (upd f_54 6 v_63) 7 v_72)] := hD
  refine lv_iinc (v := 8) (lv' := [(6, .int 8), (7, .int p1), (0, .ref h0), (1, .int p0), (2, .int p1), (3, .int p2), (4, .int p3), (5, .int p4)]) hx hb dX11_feed_107 hl (k := 1) rfl (by decide) (by decide) rfl (fun ls hl => ?_)
  refine lv_goto (tgt := 23) hx hb dX11_feed_110 (by decide) ?_
  refine lv_iload hx hb dX11_feed_23 (lv_at hl 0 rfl) ?_
  refine lv_bipush (v := 20) hx hb dX11_feed_25 (by decide) ?_
  refine lv_icmp_ge (tgt := 113) hx hb dX11_feed_27 (by decide) (fun c_73 => absurd c_73 (by decide)) (fun _ => ?_)
  refine lv_iload hx hb dX11_feed_30 (lv_at hl 0 rfl) ?_
  refine lv_iconst (v := 4) hx hb dX11_feed_32 (by decide) ?_
  refine lv_icmp_ge (tgt := 40) hx hb dX11_feed_33 (by decide) (fun _ => ?_) (fun c_74 => absurd c_74 (by decide))
  refine lv_iload hx hb dX11_feed_40 (lv_at hl 0 rfl) ?_
  refine lv_bipush (v := 8) hx hb dX11_feed_42 (by decide) ?_
  refine lv_icmp_ge (tgt := 51) hx hb dX11_feed_44 (by decide) (fun _ => ?_) (fun c_75 => absurd c_75 (by decide))
  refine lv_iload hx hb dX11_feed_51 (lv_at hl 0 rfl) ?_
  refine lv_bipush (v := 12) hx hb dX11_feed_53 (by decide) ?_
  refine lv_icmp_ge (tgt := 62) hx hb dX11_feed_55 (by decide) (fun c_76 => absurd c_76 (by decide)) (fun _ => ?_)
  refine lv_iload_n hx hb dX11_feed_58 rfl (lv_at hl 5 rfl) ?_
  refine lv_goto (tgt := 76) hx hb dX11_feed_59 (by decide) ?_
  refine lv_istore (lv' := [(7, .int p2), (6, .int 8), (0, .ref h0), (1, .int p0), (2, .int p1), (3, .int p2), (4, .int p3), (5, .int p4)]) hx hb dX11_feed_76 hl (by decide) rfl (fun ls hl => ?_)
  refine lv_aload_n hx hb dX11_feed_78 rfl (lv_at hl 2 rfl) ?_
  refine va_get (D := D) (ci := 10) (v := .ref h1) (C := RX11) (T := TX11) (N := 46) hx hb hts u_X11 hown hE.1 hP 0 rfl rfl 0 (by decide) (hts _ w_1301) (fun _ h9 => h9) rfl dX11_feed_79 ?_
  refine lv_aload_n hx hb dX11_feed_82 rfl (lv_at hl 2 rfl) ?_
  refine va_get (D := D) (ci := 10) (v := .int 0) (C := RX11) (T := TX11) (N := 46) hx hb hts u_X11 hown hE.1 hP 0 rfl rfl 1 (by decide) (hts _ w_1302) (fun _ h9 => h9) rfl dX11_feed_83 ?_
  refine lv_iload hx hb dX11_feed_86 (lv_at hl 1 rfl) ?_
  refine lv_iadd hx hb dX11_feed_88 ?_
  refine lv_topi (fun v_77 e_77 => ?_)
  obtain rfl : v_77 = 8 := e_77.trans (by decide)
  refine lv_iload hx hb dX11_feed_89 (lv_at hl 0 rfl) ?_
  refine lv_bipush (v := 24) hx hb dX11_feed_91 (by decide) ?_
  refine lv_bipush (v := 8) hx hb dX11_feed_93 (by decide) ?_
  refine lv_iload hx hb dX11_feed_95 (lv_at hl 1 rfl) ?_
  refine lv_iconst (v := 4) hx hb dX11_feed_97 (by decide) ?_
  refine lv_irem hx hb dX11_feed_98 (by decide) ?_
  refine lv_topi (fun v_78 e_78 => ?_)
  obtain rfl : v_78 = 0 := e_78.trans (by decide)
  refine lv_imul hx hb dX11_feed_99 ?_
  refine lv_topi (fun v_79 e_79 => ?_)
  obtain rfl : v_79 = 0 := e_79.trans (by decide)
  refine lv_isub hx hb dX11_feed_100 ?_
  refine lv_topi (fun v_80 e_80 => ?_)
  obtain rfl : v_80 = 24 := e_80.trans (by decide)
  refine lv_ishr hx hb dX11_feed_101 ?_
  refine lv_topi (fun v_81 e_81 => ?_)
  refine lv_sipush (v := 255) hx hb dX11_feed_102 (by decide) ?_
  refine lv_iand hx hb dX11_feed_105 ?_
  refine lv_topi (fun v_82 e_82 => ?_)
  refine va_iast hx hb hE.1 hP hD hS 1 1 rfl rfl (kk_ix _ _ (by decide)) dX11_feed_106 (fun H locs hP hD hS => ?_)
  obtain ⟨f_83, ef_83⟩ : ∃ z, z = (upd (upd (upd f_54 6 v_63) 7 v_72) 8 v_82) := ⟨_, rfl⟩
  have hP : va_P D vwCl [kO h0 10 [.ref h1, .int 0, .int 0, y0, .int i1, .int i2, .int i3, .int i4, .int i5, .int i6, .int i7, .int i8, .int i9, .int i10, .int i11, .int i12, .int i13, .int i14, y1, y2, y3, y4, y5, y6, y7, y8, .int i15, y9, .int i16, .int i17, y10, y11, y12, y13, .int i18, .int i19, .int i20, y14, .int i21, .int i22, .int i23, .int i24, y15, y16, .long i25, y17], kI cI h1 700 f_83] H := by rw [ef_83]; exact hP
  have hD : va_D A [kO h0 10 [.ref h1, .int 0, .int 0, y0, .int i1, .int i2, .int i3, .int i4, .int i5, .int i6, .int i7, .int i8, .int i9, .int i10, .int i11, .int i12, .int i13, .int i14, y1, y2, y3, y4, y5, y6, y7, y8, .int i15, y9, .int i16, .int i17, y10, y11, y12, y13, .int i18, .int i19, .int i20, y14, .int i21, .int i22, .int i23, .int i24, y15, y16, .long i25, y17], kI cI h1 700 f_83] := by rw [ef_83]; exact hD
  refine lv_iinc (v := 9) (lv' := [(6, .int 9), (7, .int p2), (0, .ref h0), (1, .int p0), (2, .int p1), (3, .int p2), (4, .int p3), (5, .int p4)]) hx hb dX11_feed_107 hl (k := 1) rfl (by decide) (by decide) rfl (fun ls hl => ?_)
  refine lv_goto (tgt := 23) hx hb dX11_feed_110 (by decide) ?_
  refine lv_iload hx hb dX11_feed_23 (lv_at hl 0 rfl) ?_
  refine lv_bipush (v := 20) hx hb dX11_feed_25 (by decide) ?_
  refine lv_icmp_ge (tgt := 113) hx hb dX11_feed_27 (by decide) (fun c_84 => absurd c_84 (by decide)) (fun _ => ?_)
  refine lv_iload hx hb dX11_feed_30 (lv_at hl 0 rfl) ?_
  refine lv_iconst (v := 4) hx hb dX11_feed_32 (by decide) ?_
  refine lv_icmp_ge (tgt := 40) hx hb dX11_feed_33 (by decide) (fun _ => ?_) (fun c_85 => absurd c_85 (by decide))
  refine lv_iload hx hb dX11_feed_40 (lv_at hl 0 rfl) ?_
  refine lv_bipush (v := 8) hx hb dX11_feed_42 (by decide) ?_
  refine lv_icmp_ge (tgt := 51) hx hb dX11_feed_44 (by decide) (fun _ => ?_) (fun c_86 => absurd c_86 (by decide))
  refine lv_iload hx hb dX11_feed_51 (lv_at hl 0 rfl) ?_
  refine lv_bipush (v := 12) hx hb dX11_feed_53 (by decide) ?_
  refine lv_icmp_ge (tgt := 62) hx hb dX11_feed_55 (by decide) (fun c_87 => absurd c_87 (by decide)) (fun _ => ?_)
  refine lv_iload_n hx hb dX11_feed_58 rfl (lv_at hl 5 rfl) ?_
  refine lv_goto (tgt := 76) hx hb dX11_feed_59 (by decide) ?_
  refine lv_istore (lv' := [(7, .int p2), (6, .int 9), (0, .ref h0), (1, .int p0), (2, .int p1), (3, .int p2), (4, .int p3), (5, .int p4)]) hx hb dX11_feed_76 hl (by decide) rfl (fun ls hl => ?_)
  refine lv_aload_n hx hb dX11_feed_78 rfl (lv_at hl 2 rfl) ?_
  refine va_get (D := D) (ci := 10) (v := .ref h1) (C := RX11) (T := TX11) (N := 46) hx hb hts u_X11 hown hE.1 hP 0 rfl rfl 0 (by decide) (hts _ w_1301) (fun _ h9 => h9) rfl dX11_feed_79 ?_
  refine lv_aload_n hx hb dX11_feed_82 rfl (lv_at hl 2 rfl) ?_
  refine va_get (D := D) (ci := 10) (v := .int 0) (C := RX11) (T := TX11) (N := 46) hx hb hts u_X11 hown hE.1 hP 0 rfl rfl 1 (by decide) (hts _ w_1302) (fun _ h9 => h9) rfl dX11_feed_83 ?_
  refine lv_iload hx hb dX11_feed_86 (lv_at hl 1 rfl) ?_
  refine lv_iadd hx hb dX11_feed_88 ?_
  refine lv_topi (fun v_88 e_88 => ?_)
  obtain rfl : v_88 = 9 := e_88.trans (by decide)
  refine lv_iload hx hb dX11_feed_89 (lv_at hl 0 rfl) ?_
  refine lv_bipush (v := 24) hx hb dX11_feed_91 (by decide) ?_
  refine lv_bipush (v := 8) hx hb dX11_feed_93 (by decide) ?_
  refine lv_iload hx hb dX11_feed_95 (lv_at hl 1 rfl) ?_
  refine lv_iconst (v := 4) hx hb dX11_feed_97 (by decide) ?_
  refine lv_irem hx hb dX11_feed_98 (by decide) ?_
  refine lv_topi (fun v_89 e_89 => ?_)
  obtain rfl : v_89 = 1 := e_89.trans (by decide)
  refine lv_imul hx hb dX11_feed_99 ?_
  refine lv_topi (fun v_90 e_90 => ?_)
  obtain rfl : v_90 = 8 := e_90.trans (by decide)
  refine lv_isub hx hb dX11_feed_100 ?_
  refine lv_topi (fun v_91 e_91 => ?_)
  obtain rfl : v_91 = 16 := e_91.trans (by decide)
  refine lv_ishr hx hb dX11_feed_101 ?_
  refine lv_topi (fun v_92 e_92 => ?_)
  refine lv_sipush (v := 255) hx hb dX11_feed_102 (by decide) ?_
  refine lv_iand hx hb dX11_feed_105 ?_
  refine lv_topi (fun v_93 e_93 => ?_)
  refine va_iast hx hb hE.1 hP hD hS 1 1 rfl rfl (kk_ix _ _ (by decide)) dX11_feed_106 (fun H locs hP hD hS => ?_)
  have hP : va_P D vwCl [kO h0 10 [.ref h1, .int 0, .int 0, y0, .int i1, .int i2, .int i3, .int i4, .int i5, .int i6, .int i7, .int i8, .int i9, .int i10, .int i11, .int i12, .int i13, .int i14, y1, y2, y3, y4, y5, y6, y7, y8, .int i15, y9, .int i16, .int i17, y10, y11, y12, y13, .int i18, .int i19, .int i20, y14, .int i21, .int i22, .int i23, .int i24, y15, y16, .long i25, y17], kI cI h1 700 (upd f_83 9 v_93)] H := hP
  have hD : va_D A [kO h0 10 [.ref h1, .int 0, .int 0, y0, .int i1, .int i2, .int i3, .int i4, .int i5, .int i6, .int i7, .int i8, .int i9, .int i10, .int i11, .int i12, .int i13, .int i14, y1, y2, y3, y4, y5, y6, y7, y8, .int i15, y9, .int i16, .int i17, y10, y11, y12, y13, .int i18, .int i19, .int i20, y14, .int i21, .int i22, .int i23, .int i24, y15, y16, .long i25, y17], kI cI h1 700 (upd f_83 9 v_93)] := hD
  refine lv_iinc (v := 10) (lv' := [(6, .int 10), (7, .int p2), (0, .ref h0), (1, .int p0), (2, .int p1), (3, .int p2), (4, .int p3), (5, .int p4)]) hx hb dX11_feed_107 hl (k := 1) rfl (by decide) (by decide) rfl (fun ls hl => ?_)
  refine lv_goto (tgt := 23) hx hb dX11_feed_110 (by decide) ?_
  refine lv_iload hx hb dX11_feed_23 (lv_at hl 0 rfl) ?_
  refine lv_bipush (v := 20) hx hb dX11_feed_25 (by decide) ?_
  refine lv_icmp_ge (tgt := 113) hx hb dX11_feed_27 (by decide) (fun c_94 => absurd c_94 (by decide)) (fun _ => ?_)
  refine lv_iload hx hb dX11_feed_30 (lv_at hl 0 rfl) ?_
  refine lv_iconst (v := 4) hx hb dX11_feed_32 (by decide) ?_
  refine lv_icmp_ge (tgt := 40) hx hb dX11_feed_33 (by decide) (fun _ => ?_) (fun c_95 => absurd c_95 (by decide))
  refine lv_iload hx hb dX11_feed_40 (lv_at hl 0 rfl) ?_
  refine lv_bipush (v := 8) hx hb dX11_feed_42 (by decide) ?_
  refine lv_icmp_ge (tgt := 51) hx hb dX11_feed_44 (by decide) (fun _ => ?_) (fun c_96 => absurd c_96 (by decide))
  refine lv_iload hx hb dX11_feed_51 (lv_at hl 0 rfl) ?_
  refine lv_bipush (v := 12) hx hb dX11_feed_53 (by decide) ?_
  refine lv_icmp_ge (tgt := 62) hx hb dX11_feed_55 (by decide) (fun c_97 => absurd c_97 (by decide)) (fun _ => ?_)
  refine lv_iload_n hx hb dX11_feed_58 rfl (lv_at hl 5 rfl) ?_
  refine lv_goto (tgt := 76) hx hb dX11_feed_59 (by decide) ?_
  refine lv_istore (lv' := [(7, .int p2), (6, .int 10), (0, .ref h0), (1, .int p0), (2, .int p1), (3, .int p2), (4, .int p3), (5, .int p4)]) hx hb dX11_feed_76 hl (by decide) rfl (fun ls hl => ?_)
  refine lv_aload_n hx hb dX11_feed_78 rfl (lv_at hl 2 rfl) ?_
  refine va_get (D := D) (ci := 10) (v := .ref h1) (C := RX11) (T := TX11) (N := 46) hx hb hts u_X11 hown hE.1 hP 0 rfl rfl 0 (by decide) (hts _ w_1301) (fun _ h9 => h9) rfl dX11_feed_79 ?_
  refine lv_aload_n hx hb dX11_feed_82 rfl (lv_at hl 2 rfl) ?_
  refine va_get (D := D) (ci := 10) (v := .int 0) (C := RX11) (T := TX11) (N := 46) hx hb hts u_X11 hown hE.1 hP 0 rfl rfl 1 (by decide) (hts _ w_1302) (fun _ h9 => h9) rfl dX11_feed_83 ?_
  refine lv_iload hx hb dX11_feed_86 (lv_at hl 1 rfl) ?_
  refine lv_iadd hx hb dX11_feed_88 ?_
  refine lv_topi (fun v_98 e_98 => ?_)
  obtain rfl : v_98 = 10 := e_98.trans (by decide)
  refine lv_iload hx hb dX11_feed_89 (lv_at hl 0 rfl) ?_
  refine lv_bipush (v := 24) hx hb dX11_feed_91 (by decide) ?_
  refine lv_bipush (v := 8) hx hb dX11_feed_93 (by decide) ?_
  refine lv_iload hx hb dX11_feed_95 (lv_at hl 1 rfl) ?_
  refine lv_iconst (v := 4) hx hb dX11_feed_97 (by decide) ?_
  refine lv_irem hx hb dX11_feed_98 (by decide) ?_
  refine lv_topi (fun v_99 e_99 => ?_)
  obtain rfl : v_99 = 2 := e_99.trans (by decide)
  refine lv_imul hx hb dX11_feed_99 ?_
  refine lv_topi (fun v_100 e_100 => ?_)
  obtain rfl : v_100 = 16 := e_100.trans (by decide)
  refine lv_isub hx hb dX11_feed_100 ?_
  refine lv_topi (fun v_101 e_101 => ?_)
  obtain rfl : v_101 = 8 := e_101.trans (by decide)
  refine lv_ishr hx hb dX11_feed_101 ?_
  refine lv_topi (fun v_102 e_102 => ?_)
  refine lv_sipush (v := 255) hx hb dX11_feed_102 (by decide) ?_
  refine lv_iand hx hb dX11_feed_105 ?_
  refine lv_topi (fun v_103 e_103 => ?_)
  refine va_iast hx hb hE.1 hP hD hS 1 1 rfl rfl (kk_ix _ _ (by decide)) dX11_feed_106 (fun H locs hP hD hS => ?_)
  obtain ⟨f_104, ef_104⟩ : ∃ z, z = (upd (upd f_83 9 v_93) 10 v_103) := ⟨_, rfl⟩
  have hP : va_P D vwCl [kO h0 10 [.ref h1, .int 0, .int 0, y0, .int i1, .int i2, .int i3, .int i4, .int i5, .int i6, .int i7, .int i8, .int i9, .int i10, .int i11, .int i12, .int i13, .int i14, y1, y2, y3, y4, y5, y6, y7, y8, .int i15, y9, .int i16, .int i17, y10, y11, y12, y13, .int i18, .int i19, .int i20, y14, .int i21, .int i22, .int i23, .int i24, y15, y16, .long i25, y17], kI cI h1 700 f_104] H := by rw [ef_104]; exact hP
  have hD : va_D A [kO h0 10 [.ref h1, .int 0, .int 0, y0, .int i1, .int i2, .int i3, .int i4, .int i5, .int i6, .int i7, .int i8, .int i9, .int i10, .int i11, .int i12, .int i13, .int i14, y1, y2, y3, y4, y5, y6, y7, y8, .int i15, y9, .int i16, .int i17, y10, y11, y12, y13, .int i18, .int i19, .int i20, y14, .int i21, .int i22, .int i23, .int i24, y15, y16, .long i25, y17], kI cI h1 700 f_104] := by rw [ef_104]; exact hD
  refine lv_iinc (v := 11) (lv' := [(6, .int 11), (7, .int p2), (0, .ref h0), (1, .int p0), (2, .int p1), (3, .int p2), (4, .int p3), (5, .int p4)]) hx hb dX11_feed_107 hl (k := 1) rfl (by decide) (by decide) rfl (fun ls hl => ?_)
  refine lv_goto (tgt := 23) hx hb dX11_feed_110 (by decide) ?_
  refine lv_iload hx hb dX11_feed_23 (lv_at hl 0 rfl) ?_
  refine lv_bipush (v := 20) hx hb dX11_feed_25 (by decide) ?_
  refine lv_icmp_ge (tgt := 113) hx hb dX11_feed_27 (by decide) (fun c_105 => absurd c_105 (by decide)) (fun _ => ?_)
  refine lv_iload hx hb dX11_feed_30 (lv_at hl 0 rfl) ?_
  refine lv_iconst (v := 4) hx hb dX11_feed_32 (by decide) ?_
  refine lv_icmp_ge (tgt := 40) hx hb dX11_feed_33 (by decide) (fun _ => ?_) (fun c_106 => absurd c_106 (by decide))
  refine lv_iload hx hb dX11_feed_40 (lv_at hl 0 rfl) ?_
  refine lv_bipush (v := 8) hx hb dX11_feed_42 (by decide) ?_
  refine lv_icmp_ge (tgt := 51) hx hb dX11_feed_44 (by decide) (fun _ => ?_) (fun c_107 => absurd c_107 (by decide))
  refine lv_iload hx hb dX11_feed_51 (lv_at hl 0 rfl) ?_
  refine lv_bipush (v := 12) hx hb dX11_feed_53 (by decide) ?_
  refine lv_icmp_ge (tgt := 62) hx hb dX11_feed_55 (by decide) (fun c_108 => absurd c_108 (by decide)) (fun _ => ?_)
  refine lv_iload_n hx hb dX11_feed_58 rfl (lv_at hl 5 rfl) ?_
  refine lv_goto (tgt := 76) hx hb dX11_feed_59 (by decide) ?_
  refine lv_istore (lv' := [(7, .int p2), (6, .int 11), (0, .ref h0), (1, .int p0), (2, .int p1), (3, .int p2), (4, .int p3), (5, .int p4)]) hx hb dX11_feed_76 hl (by decide) rfl (fun ls hl => ?_)
  refine lv_aload_n hx hb dX11_feed_78 rfl (lv_at hl 2 rfl) ?_
  refine va_get (D := D) (ci := 10) (v := .ref h1) (C := RX11) (T := TX11) (N := 46) hx hb hts u_X11 hown hE.1 hP 0 rfl rfl 0 (by decide) (hts _ w_1301) (fun _ h9 => h9) rfl dX11_feed_79 ?_
  refine lv_aload_n hx hb dX11_feed_82 rfl (lv_at hl 2 rfl) ?_
  refine va_get (D := D) (ci := 10) (v := .int 0) (C := RX11) (T := TX11) (N := 46) hx hb hts u_X11 hown hE.1 hP 0 rfl rfl 1 (by decide) (hts _ w_1302) (fun _ h9 => h9) rfl dX11_feed_83 ?_
  refine lv_iload hx hb dX11_feed_86 (lv_at hl 1 rfl) ?_
  refine lv_iadd hx hb dX11_feed_88 ?_
  refine lv_topi (fun v_109 e_109 => ?_)
  obtain rfl : v_109 = 11 := e_109.trans (by decide)
  refine lv_iload hx hb dX11_feed_89 (lv_at hl 0 rfl) ?_
  refine lv_bipush (v := 24) hx hb dX11_feed_91 (by decide) ?_
  refine lv_bipush (v := 8) hx hb dX11_feed_93 (by decide) ?_
  refine lv_iload hx hb dX11_feed_95 (lv_at hl 1 rfl) ?_
  refine lv_iconst (v := 4) hx hb dX11_feed_97 (by decide) ?_
  refine lv_irem hx hb dX11_feed_98 (by decide) ?_
  refine lv_topi (fun v_110 e_110 => ?_)
  obtain rfl : v_110 = 3 := e_110.trans (by decide)
  refine lv_imul hx hb dX11_feed_99 ?_
  refine lv_topi (fun v_111 e_111 => ?_)
  obtain rfl : v_111 = 24 := e_111.trans (by decide)
  refine lv_isub hx hb dX11_feed_100 ?_
  refine lv_topi (fun v_112 e_112 => ?_)
  obtain rfl : v_112 = 0 := e_112.trans (by decide)
  refine lv_ishr hx hb dX11_feed_101 ?_
  refine lv_topi (fun v_113 e_113 => ?_)
  refine lv_sipush (v := 255) hx hb dX11_feed_102 (by decide) ?_
  refine lv_iand hx hb dX11_feed_105 ?_
  refine lv_topi (fun v_114 e_114 => ?_)
  refine va_iast hx hb hE.1 hP hD hS 1 1 rfl rfl (kk_ix _ _ (by decide)) dX11_feed_106 (fun H locs hP hD hS => ?_)
  have hP : va_P D vwCl [kO h0 10 [.ref h1, .int 0, .int 0, y0, .int i1, .int i2, .int i3, .int i4, .int i5, .int i6, .int i7, .int i8, .int i9, .int i10, .int i11, .int i12, .int i13, .int i14, y1, y2, y3, y4, y5, y6, y7, y8, .int i15, y9, .int i16, .int i17, y10, y11, y12, y13, .int i18, .int i19, .int i20, y14, .int i21, .int i22, .int i23, .int i24, y15, y16, .long i25, y17], kI cI h1 700 (upd f_104 11 v_114)] H := hP
  have hD : va_D A [kO h0 10 [.ref h1, .int 0, .int 0, y0, .int i1, .int i2, .int i3, .int i4, .int i5, .int i6, .int i7, .int i8, .int i9, .int i10, .int i11, .int i12, .int i13, .int i14, y1, y2, y3, y4, y5, y6, y7, y8, .int i15, y9, .int i16, .int i17, y10, y11, y12, y13, .int i18, .int i19, .int i20, y14, .int i21, .int i22, .int i23, .int i24, y15, y16, .long i25, y17], kI cI h1 700 (upd f_104 11 v_114)] := hD
  refine lv_iinc (v := 12) (lv' := [(6, .int 12), (7, .int p2), (0, .ref h0), (1, .int p0), (2, .int p1), (3, .int p2), (4, .int p3), (5, .int p4)]) hx hb dX11_feed_107 hl (k := 1) rfl (by decide) (by decide) rfl (fun ls hl => ?_)
  refine lv_goto (tgt := 23) hx hb dX11_feed_110 (by decide) ?_
  refine lv_iload hx hb dX11_feed_23 (lv_at hl 0 rfl) ?_
  refine lv_bipush (v := 20) hx hb dX11_feed_25 (by decide) ?_
  refine lv_icmp_ge (tgt := 113) hx hb dX11_feed_27 (by decide) (fun c_115 => absurd c_115 (by decide)) (fun _ => ?_)
  refine lv_iload hx hb dX11_feed_30 (lv_at hl 0 rfl) ?_
  refine lv_iconst (v := 4) hx hb dX11_feed_32 (by decide) ?_
  refine lv_icmp_ge (tgt := 40) hx hb dX11_feed_33 (by decide) (fun _ => ?_) (fun c_116 => absurd c_116 (by decide))
  refine lv_iload hx hb dX11_feed_40 (lv_at hl 0 rfl) ?_
  refine lv_bipush (v := 8) hx hb dX11_feed_42 (by decide) ?_
  refine lv_icmp_ge (tgt := 51) hx hb dX11_feed_44 (by decide) (fun _ => ?_) (fun c_117 => absurd c_117 (by decide))
  refine lv_iload hx hb dX11_feed_51 (lv_at hl 0 rfl) ?_
  refine lv_bipush (v := 12) hx hb dX11_feed_53 (by decide) ?_
  refine lv_icmp_ge (tgt := 62) hx hb dX11_feed_55 (by decide) (fun _ => ?_) (fun c_118 => absurd c_118 (by decide))
  refine lv_iload hx hb dX11_feed_62 (lv_at hl 0 rfl) ?_
  refine lv_bipush (v := 16) hx hb dX11_feed_64 (by decide) ?_
  refine lv_icmp_ge (tgt := 74) hx hb dX11_feed_66 (by decide) (fun c_119 => absurd c_119 (by decide)) (fun _ => ?_)
  refine lv_iload hx hb dX11_feed_69 (lv_at hl 6 rfl) ?_
  refine lv_goto (tgt := 76) hx hb dX11_feed_71 (by decide) ?_
  refine lv_istore (lv' := [(7, .int p3), (6, .int 12), (0, .ref h0), (1, .int p0), (2, .int p1), (3, .int p2), (4, .int p3), (5, .int p4)]) hx hb dX11_feed_76 hl (by decide) rfl (fun ls hl => ?_)
  refine lv_aload_n hx hb dX11_feed_78 rfl (lv_at hl 2 rfl) ?_
  refine va_get (D := D) (ci := 10) (v := .ref h1) (C := RX11) (T := TX11) (N := 46) hx hb hts u_X11 hown hE.1 hP 0 rfl rfl 0 (by decide) (hts _ w_1301) (fun _ h9 => h9) rfl dX11_feed_79 ?_
  refine lv_aload_n hx hb dX11_feed_82 rfl (lv_at hl 2 rfl) ?_
  refine va_get (D := D) (ci := 10) (v := .int 0) (C := RX11) (T := TX11) (N := 46) hx hb hts u_X11 hown hE.1 hP 0 rfl rfl 1 (by decide) (hts _ w_1302) (fun _ h9 => h9) rfl dX11_feed_83 ?_
  refine lv_iload hx hb dX11_feed_86 (lv_at hl 1 rfl) ?_
  refine lv_iadd hx hb dX11_feed_88 ?_
  refine lv_topi (fun v_120 e_120 => ?_)
  obtain rfl : v_120 = 12 := e_120.trans (by decide)
  refine lv_iload hx hb dX11_feed_89 (lv_at hl 0 rfl) ?_
  refine lv_bipush (v := 24) hx hb dX11_feed_91 (by decide) ?_
  refine lv_bipush (v := 8) hx hb dX11_feed_93 (by decide) ?_
  refine lv_iload hx hb dX11_feed_95 (lv_at hl 1 rfl) ?_
  refine lv_iconst (v := 4) hx hb dX11_feed_97 (by decide) ?_
  refine lv_irem hx hb dX11_feed_98 (by decide) ?_
  refine lv_topi (fun v_121 e_121 => ?_)
  obtain rfl : v_121 = 0 := e_121.trans (by decide)
  refine lv_imul hx hb dX11_feed_99 ?_
  refine lv_topi (fun v_122 e_122 => ?_)
  obtain rfl : v_122 = 0 := e_122.trans (by decide)
  refine lv_isub hx hb dX11_feed_100 ?_
  refine lv_topi (fun v_123 e_123 => ?_)
  obtain rfl : v_123 = 24 := e_123.trans (by decide)
  refine lv_ishr hx hb dX11_feed_101 ?_
  refine lv_topi (fun v_124 e_124 => ?_)
  refine lv_sipush (v := 255) hx hb dX11_feed_102 (by decide) ?_
  refine lv_iand hx hb dX11_feed_105 ?_
  refine lv_topi (fun v_125 e_125 => ?_)
  refine va_iast hx hb hE.1 hP hD hS 1 1 rfl rfl (kk_ix _ _ (by decide)) dX11_feed_106 (fun H locs hP hD hS => ?_)
  obtain ⟨f_126, ef_126⟩ : ∃ z, z = (upd (upd f_104 11 v_114) 12 v_125) := ⟨_, rfl⟩
  have hP : va_P D vwCl [kO h0 10 [.ref h1, .int 0, .int 0, y0, .int i1, .int i2, .int i3, .int i4, .int i5, .int i6, .int i7, .int i8, .int i9, .int i10, .int i11, .int i12, .int i13, .int i14, y1, y2, y3, y4, y5, y6, y7, y8, .int i15, y9, .int i16, .int i17, y10, y11, y12, y13, .int i18, .int i19, .int i20, y14, .int i21, .int i22, .int i23, .int i24, y15, y16, .long i25, y17], kI cI h1 700 f_126] H := by rw [ef_126]; exact hP
  have hD : va_D A [kO h0 10 [.ref h1, .int 0, .int 0, y0, .int i1, .int i2, .int i3, .int i4, .int i5, .int i6, .int i7, .int i8, .int i9, .int i10, .int i11, .int i12, .int i13, .int i14, y1, y2, y3, y4, y5, y6, y7, y8, .int i15, y9, .int i16, .int i17, y10, y11, y12, y13, .int i18, .int i19, .int i20, y14, .int i21, .int i22, .int i23, .int i24, y15, y16, .long i25, y17], kI cI h1 700 f_126] := by rw [ef_126]; exact hD
  refine lv_iinc (v := 13) (lv' := [(6, .int 13), (7, .int p3), (0, .ref h0), (1, .int p0), (2, .int p1), (3, .int p2), (4, .int p3), (5, .int p4)]) hx hb dX11_feed_107 hl (k := 1) rfl (by decide) (by decide) rfl (fun ls hl => ?_)
  refine lv_goto (tgt := 23) hx hb dX11_feed_110 (by decide) ?_
  refine lv_iload hx hb dX11_feed_23 (lv_at hl 0 rfl) ?_
  refine lv_bipush (v := 20) hx hb dX11_feed_25 (by decide) ?_
  refine lv_icmp_ge (tgt := 113) hx hb dX11_feed_27 (by decide) (fun c_127 => absurd c_127 (by decide)) (fun _ => ?_)
  refine lv_iload hx hb dX11_feed_30 (lv_at hl 0 rfl) ?_
  refine lv_iconst (v := 4) hx hb dX11_feed_32 (by decide) ?_
  refine lv_icmp_ge (tgt := 40) hx hb dX11_feed_33 (by decide) (fun _ => ?_) (fun c_128 => absurd c_128 (by decide))
  refine lv_iload hx hb dX11_feed_40 (lv_at hl 0 rfl) ?_
  refine lv_bipush (v := 8) hx hb dX11_feed_42 (by decide) ?_
  refine lv_icmp_ge (tgt := 51) hx hb dX11_feed_44 (by decide) (fun _ => ?_) (fun c_129 => absurd c_129 (by decide))
  refine lv_iload hx hb dX11_feed_51 (lv_at hl 0 rfl) ?_
  refine lv_bipush (v := 12) hx hb dX11_feed_53 (by decide) ?_
  refine lv_icmp_ge (tgt := 62) hx hb dX11_feed_55 (by decide) (fun _ => ?_) (fun c_130 => absurd c_130 (by decide))
  refine lv_iload hx hb dX11_feed_62 (lv_at hl 0 rfl) ?_
  refine lv_bipush (v := 16) hx hb dX11_feed_64 (by decide) ?_
  refine lv_icmp_ge (tgt := 74) hx hb dX11_feed_66 (by decide) (fun c_131 => absurd c_131 (by decide)) (fun _ => ?_)
  refine lv_iload hx hb dX11_feed_69 (lv_at hl 6 rfl) ?_
  refine lv_goto (tgt := 76) hx hb dX11_feed_71 (by decide) ?_
  refine lv_istore (lv' := [(7, .int p3), (6, .int 13), (0, .ref h0), (1, .int p0), (2, .int p1), (3, .int p2), (4, .int p3), (5, .int p4)]) hx hb dX11_feed_76 hl (by decide) rfl (fun ls hl => ?_)
  refine lv_aload_n hx hb dX11_feed_78 rfl (lv_at hl 2 rfl) ?_
  refine va_get (D := D) (ci := 10) (v := .ref h1) (C := RX11) (T := TX11) (N := 46) hx hb hts u_X11 hown hE.1 hP 0 rfl rfl 0 (by decide) (hts _ w_1301) (fun _ h9 => h9) rfl dX11_feed_79 ?_
  refine lv_aload_n hx hb dX11_feed_82 rfl (lv_at hl 2 rfl) ?_
  refine va_get (D := D) (ci := 10) (v := .int 0) (C := RX11) (T := TX11) (N := 46) hx hb hts u_X11 hown hE.1 hP 0 rfl rfl 1 (by decide) (hts _ w_1302) (fun _ h9 => h9) rfl dX11_feed_83 ?_
  refine lv_iload hx hb dX11_feed_86 (lv_at hl 1 rfl) ?_
  refine lv_iadd hx hb dX11_feed_88 ?_
  refine lv_topi (fun v_132 e_132 => ?_)
  obtain rfl : v_132 = 13 := e_132.trans (by decide)
  refine lv_iload hx hb dX11_feed_89 (lv_at hl 0 rfl) ?_
  refine lv_bipush (v := 24) hx hb dX11_feed_91 (by decide) ?_
  refine lv_bipush (v := 8) hx hb dX11_feed_93 (by decide) ?_
  refine lv_iload hx hb dX11_feed_95 (lv_at hl 1 rfl) ?_
  refine lv_iconst (v := 4) hx hb dX11_feed_97 (by decide) ?_
  refine lv_irem hx hb dX11_feed_98 (by decide) ?_
  refine lv_topi (fun v_133 e_133 => ?_)
  obtain rfl : v_133 = 1 := e_133.trans (by decide)
  refine lv_imul hx hb dX11_feed_99 ?_
  refine lv_topi (fun v_134 e_134 => ?_)
  obtain rfl : v_134 = 8 := e_134.trans (by decide)
  refine lv_isub hx hb dX11_feed_100 ?_
  refine lv_topi (fun v_135 e_135 => ?_)
  obtain rfl : v_135 = 16 := e_135.trans (by decide)
  refine lv_ishr hx hb dX11_feed_101 ?_
  refine lv_topi (fun v_136 e_136 => ?_)
  refine lv_sipush (v := 255) hx hb dX11_feed_102 (by decide) ?_
  refine lv_iand hx hb dX11_feed_105 ?_
  refine lv_topi (fun v_137 e_137 => ?_)
  refine va_iast hx hb hE.1 hP hD hS 1 1 rfl rfl (kk_ix _ _ (by decide)) dX11_feed_106 (fun H locs hP hD hS => ?_)
  have hP : va_P D vwCl [kO h0 10 [.ref h1, .int 0, .int 0, y0, .int i1, .int i2, .int i3, .int i4, .int i5, .int i6, .int i7, .int i8, .int i9, .int i10, .int i11, .int i12, .int i13, .int i14, y1, y2, y3, y4, y5, y6, y7, y8, .int i15, y9, .int i16, .int i17, y10, y11, y12, y13, .int i18, .int i19, .int i20, y14, .int i21, .int i22, .int i23, .int i24, y15, y16, .long i25, y17], kI cI h1 700 (upd f_126 13 v_137)] H := hP
  have hD : va_D A [kO h0 10 [.ref h1, .int 0, .int 0, y0, .int i1, .int i2, .int i3, .int i4, .int i5, .int i6, .int i7, .int i8, .int i9, .int i10, .int i11, .int i12, .int i13, .int i14, y1, y2, y3, y4, y5, y6, y7, y8, .int i15, y9, .int i16, .int i17, y10, y11, y12, y13, .int i18, .int i19, .int i20, y14, .int i21, .int i22, .int i23, .int i24, y15, y16, .long i25, y17], kI cI h1 700 (upd f_126 13 v_137)] := hD
  refine lv_iinc (v := 14) (lv' := [(6, .int 14), (7, .int p3), (0, .ref h0), (1, .int p0), (2, .int p1), (3, .int p2), (4, .int p3), (5, .int p4)]) hx hb dX11_feed_107 hl (k := 1) rfl (by decide) (by decide) rfl (fun ls hl => ?_)
  refine lv_goto (tgt := 23) hx hb dX11_feed_110 (by decide) ?_
  refine lv_iload hx hb dX11_feed_23 (lv_at hl 0 rfl) ?_
  refine lv_bipush (v := 20) hx hb dX11_feed_25 (by decide) ?_
  refine lv_icmp_ge (tgt := 113) hx hb dX11_feed_27 (by decide) (fun c_138 => absurd c_138 (by decide)) (fun _ => ?_)
  refine lv_iload hx hb dX11_feed_30 (lv_at hl 0 rfl) ?_
  refine lv_iconst (v := 4) hx hb dX11_feed_32 (by decide) ?_
  refine lv_icmp_ge (tgt := 40) hx hb dX11_feed_33 (by decide) (fun _ => ?_) (fun c_139 => absurd c_139 (by decide))
  refine lv_iload hx hb dX11_feed_40 (lv_at hl 0 rfl) ?_
  refine lv_bipush (v := 8) hx hb dX11_feed_42 (by decide) ?_
  refine lv_icmp_ge (tgt := 51) hx hb dX11_feed_44 (by decide) (fun _ => ?_) (fun c_140 => absurd c_140 (by decide))
  refine lv_iload hx hb dX11_feed_51 (lv_at hl 0 rfl) ?_
  refine lv_bipush (v := 12) hx hb dX11_feed_53 (by decide) ?_
  refine lv_icmp_ge (tgt := 62) hx hb dX11_feed_55 (by decide) (fun _ => ?_) (fun c_141 => absurd c_141 (by decide))
  refine lv_iload hx hb dX11_feed_62 (lv_at hl 0 rfl) ?_
  refine lv_bipush (v := 16) hx hb dX11_feed_64 (by decide) ?_
  refine lv_icmp_ge (tgt := 74) hx hb dX11_feed_66 (by decide) (fun c_142 => absurd c_142 (by decide)) (fun _ => ?_)
  refine lv_iload hx hb dX11_feed_69 (lv_at hl 6 rfl) ?_
  refine lv_goto (tgt := 76) hx hb dX11_feed_71 (by decide) ?_
  refine lv_istore (lv' := [(7, .int p3), (6, .int 14), (0, .ref h0), (1, .int p0), (2, .int p1), (3, .int p2), (4, .int p3), (5, .int p4)]) hx hb dX11_feed_76 hl (by decide) rfl (fun ls hl => ?_)
  refine lv_aload_n hx hb dX11_feed_78 rfl (lv_at hl 2 rfl) ?_
  refine va_get (D := D) (ci := 10) (v := .ref h1) (C := RX11) (T := TX11) (N := 46) hx hb hts u_X11 hown hE.1 hP 0 rfl rfl 0 (by decide) (hts _ w_1301) (fun _ h9 => h9) rfl dX11_feed_79 ?_
  refine lv_aload_n hx hb dX11_feed_82 rfl (lv_at hl 2 rfl) ?_
  refine va_get (D := D) (ci := 10) (v := .int 0) (C := RX11) (T := TX11) (N := 46) hx hb hts u_X11 hown hE.1 hP 0 rfl rfl 1 (by decide) (hts _ w_1302) (fun _ h9 => h9) rfl dX11_feed_83 ?_
  refine lv_iload hx hb dX11_feed_86 (lv_at hl 1 rfl) ?_
  refine lv_iadd hx hb dX11_feed_88 ?_
  refine lv_topi (fun v_143 e_143 => ?_)
  obtain rfl : v_143 = 14 := e_143.trans (by decide)
  refine lv_iload hx hb dX11_feed_89 (lv_at hl 0 rfl) ?_
  refine lv_bipush (v := 24) hx hb dX11_feed_91 (by decide) ?_
  refine lv_bipush (v := 8) hx hb dX11_feed_93 (by decide) ?_
  refine lv_iload hx hb dX11_feed_95 (lv_at hl 1 rfl) ?_
  refine lv_iconst (v := 4) hx hb dX11_feed_97 (by decide) ?_
  refine lv_irem hx hb dX11_feed_98 (by decide) ?_
  refine lv_topi (fun v_144 e_144 => ?_)
  obtain rfl : v_144 = 2 := e_144.trans (by decide)
  refine lv_imul hx hb dX11_feed_99 ?_
  refine lv_topi (fun v_145 e_145 => ?_)
  obtain rfl : v_145 = 16 := e_145.trans (by decide)
  refine lv_isub hx hb dX11_feed_100 ?_
  refine lv_topi (fun v_146 e_146 => ?_)
  obtain rfl : v_146 = 8 := e_146.trans (by decide)
  refine lv_ishr hx hb dX11_feed_101 ?_
  refine lv_topi (fun v_147 e_147 => ?_)
  refine lv_sipush (v := 255) hx hb dX11_feed_102 (by decide) ?_
  refine lv_iand hx hb dX11_feed_105 ?_
  refine lv_topi (fun v_148 e_148 => ?_)
  refine va_iast hx hb hE.1 hP hD hS 1 1 rfl rfl (kk_ix _ _ (by decide)) dX11_feed_106 (fun H locs hP hD hS => ?_)
  obtain ⟨f_149, ef_149⟩ : ∃ z, z = (upd (upd f_126 13 v_137) 14 v_148) := ⟨_, rfl⟩
  have hP : va_P D vwCl [kO h0 10 [.ref h1, .int 0, .int 0, y0, .int i1, .int i2, .int i3, .int i4, .int i5, .int i6, .int i7, .int i8, .int i9, .int i10, .int i11, .int i12, .int i13, .int i14, y1, y2, y3, y4, y5, y6, y7, y8, .int i15, y9, .int i16, .int i17, y10, y11, y12, y13, .int i18, .int i19, .int i20, y14, .int i21, .int i22, .int i23, .int i24, y15, y16, .long i25, y17], kI cI h1 700 f_149] H := by rw [ef_149]; exact hP
  have hD : va_D A [kO h0 10 [.ref h1, .int 0, .int 0, y0, .int i1, .int i2, .int i3, .int i4, .int i5, .int i6, .int i7, .int i8, .int i9, .int i10, .int i11, .int i12, .int i13, .int i14, y1, y2, y3, y4, y5, y6, y7, y8, .int i15, y9, .int i16, .int i17, y10, y11, y12, y13, .int i18, .int i19, .int i20, y14, .int i21, .int i22, .int i23, .int i24, y15, y16, .long i25, y17], kI cI h1 700 f_149] := by rw [ef_149]; exact hD
  refine lv_iinc (v := 15) (lv' := [(6, .int 15), (7, .int p3), (0, .ref h0), (1, .int p0), (2, .int p1), (3, .int p2), (4, .int p3), (5, .int p4)]) hx hb dX11_feed_107 hl (k := 1) rfl (by decide) (by decide) rfl (fun ls hl => ?_)
  refine lv_goto (tgt := 23) hx hb dX11_feed_110 (by decide) ?_
  refine lv_iload hx hb dX11_feed_23 (lv_at hl 0 rfl) ?_
  refine lv_bipush (v := 20) hx hb dX11_feed_25 (by decide) ?_
  refine lv_icmp_ge (tgt := 113) hx hb dX11_feed_27 (by decide) (fun c_150 => absurd c_150 (by decide)) (fun _ => ?_)
  refine lv_iload hx hb dX11_feed_30 (lv_at hl 0 rfl) ?_
  refine lv_iconst (v := 4) hx hb dX11_feed_32 (by decide) ?_
  refine lv_icmp_ge (tgt := 40) hx hb dX11_feed_33 (by decide) (fun _ => ?_) (fun c_151 => absurd c_151 (by decide))
  refine lv_iload hx hb dX11_feed_40 (lv_at hl 0 rfl) ?_
  refine lv_bipush (v := 8) hx hb dX11_feed_42 (by decide) ?_
  refine lv_icmp_ge (tgt := 51) hx hb dX11_feed_44 (by decide) (fun _ => ?_) (fun c_152 => absurd c_152 (by decide))
  refine lv_iload hx hb dX11_feed_51 (lv_at hl 0 rfl) ?_
  refine lv_bipush (v := 12) hx hb dX11_feed_53 (by decide) ?_
  refine lv_icmp_ge (tgt := 62) hx hb dX11_feed_55 (by decide) (fun _ => ?_) (fun c_153 => absurd c_153 (by decide))
  refine lv_iload hx hb dX11_feed_62 (lv_at hl 0 rfl) ?_
  refine lv_bipush (v := 16) hx hb dX11_feed_64 (by decide) ?_
  refine lv_icmp_ge (tgt := 74) hx hb dX11_feed_66 (by decide) (fun c_154 => absurd c_154 (by decide)) (fun _ => ?_)
  refine lv_iload hx hb dX11_feed_69 (lv_at hl 6 rfl) ?_
  refine lv_goto (tgt := 76) hx hb dX11_feed_71 (by decide) ?_
  refine lv_istore (lv' := [(7, .int p3), (6, .int 15), (0, .ref h0), (1, .int p0), (2, .int p1), (3, .int p2), (4, .int p3), (5, .int p4)]) hx hb dX11_feed_76 hl (by decide) rfl (fun ls hl => ?_)
  refine lv_aload_n hx hb dX11_feed_78 rfl (lv_at hl 2 rfl) ?_
  refine va_get (D := D) (ci := 10) (v := .ref h1) (C := RX11) (T := TX11) (N := 46) hx hb hts u_X11 hown hE.1 hP 0 rfl rfl 0 (by decide) (hts _ w_1301) (fun _ h9 => h9) rfl dX11_feed_79 ?_
  refine lv_aload_n hx hb dX11_feed_82 rfl (lv_at hl 2 rfl) ?_
  refine va_get (D := D) (ci := 10) (v := .int 0) (C := RX11) (T := TX11) (N := 46) hx hb hts u_X11 hown hE.1 hP 0 rfl rfl 1 (by decide) (hts _ w_1302) (fun _ h9 => h9) rfl dX11_feed_83 ?_
  refine lv_iload hx hb dX11_feed_86 (lv_at hl 1 rfl) ?_
  refine lv_iadd hx hb dX11_feed_88 ?_
  refine lv_topi (fun v_155 e_155 => ?_)
  obtain rfl : v_155 = 15 := e_155.trans (by decide)
  refine lv_iload hx hb dX11_feed_89 (lv_at hl 0 rfl) ?_
  refine lv_bipush (v := 24) hx hb dX11_feed_91 (by decide) ?_
  refine lv_bipush (v := 8) hx hb dX11_feed_93 (by decide) ?_
  refine lv_iload hx hb dX11_feed_95 (lv_at hl 1 rfl) ?_
  refine lv_iconst (v := 4) hx hb dX11_feed_97 (by decide) ?_
  refine lv_irem hx hb dX11_feed_98 (by decide) ?_
  refine lv_topi (fun v_156 e_156 => ?_)
  obtain rfl : v_156 = 3 := e_156.trans (by decide)
  refine lv_imul hx hb dX11_feed_99 ?_
  refine lv_topi (fun v_157 e_157 => ?_)
  obtain rfl : v_157 = 24 := e_157.trans (by decide)
  refine lv_isub hx hb dX11_feed_100 ?_
  refine lv_topi (fun v_158 e_158 => ?_)
  obtain rfl : v_158 = 0 := e_158.trans (by decide)
  refine lv_ishr hx hb dX11_feed_101 ?_
  refine lv_topi (fun v_159 e_159 => ?_)
  refine lv_sipush (v := 255) hx hb dX11_feed_102 (by decide) ?_
  refine lv_iand hx hb dX11_feed_105 ?_
  refine lv_topi (fun v_160 e_160 => ?_)
  refine va_iast hx hb hE.1 hP hD hS 1 1 rfl rfl (kk_ix _ _ (by decide)) dX11_feed_106 (fun H locs hP hD hS => ?_)
  have hP : va_P D vwCl [kO h0 10 [.ref h1, .int 0, .int 0, y0, .int i1, .int i2, .int i3, .int i4, .int i5, .int i6, .int i7, .int i8, .int i9, .int i10, .int i11, .int i12, .int i13, .int i14, y1, y2, y3, y4, y5, y6, y7, y8, .int i15, y9, .int i16, .int i17, y10, y11, y12, y13, .int i18, .int i19, .int i20, y14, .int i21, .int i22, .int i23, .int i24, y15, y16, .long i25, y17], kI cI h1 700 (upd f_149 15 v_160)] H := hP
  have hD : va_D A [kO h0 10 [.ref h1, .int 0, .int 0, y0, .int i1, .int i2, .int i3, .int i4, .int i5, .int i6, .int i7, .int i8, .int i9, .int i10, .int i11, .int i12, .int i13, .int i14, y1, y2, y3, y4, y5, y6, y7, y8, .int i15, y9, .int i16, .int i17, y10, y11, y12, y13, .int i18, .int i19, .int i20, y14, .int i21, .int i22, .int i23, .int i24, y15, y16, .long i25, y17], kI cI h1 700 (upd f_149 15 v_160)] := hD
  refine lv_iinc (v := 16) (lv' := [(6, .int 16), (7, .int p3), (0, .ref h0), (1, .int p0), (2, .int p1), (3, .int p2), (4, .int p3), (5, .int p4)]) hx hb dX11_feed_107 hl (k := 1) rfl (by decide) (by decide) rfl (fun ls hl => ?_)
  refine lv_goto (tgt := 23) hx hb dX11_feed_110 (by decide) ?_
  refine lv_iload hx hb dX11_feed_23 (lv_at hl 0 rfl) ?_
  refine lv_bipush (v := 20) hx hb dX11_feed_25 (by decide) ?_
  refine lv_icmp_ge (tgt := 113) hx hb dX11_feed_27 (by decide) (fun c_161 => absurd c_161 (by decide)) (fun _ => ?_)
  refine lv_iload hx hb dX11_feed_30 (lv_at hl 0 rfl) ?_
  refine lv_iconst (v := 4) hx hb dX11_feed_32 (by decide) ?_
  refine lv_icmp_ge (tgt := 40) hx hb dX11_feed_33 (by decide) (fun _ => ?_) (fun c_162 => absurd c_162 (by decide))
  refine lv_iload hx hb dX11_feed_40 (lv_at hl 0 rfl) ?_
  refine lv_bipush (v := 8) hx hb dX11_feed_42 (by decide) ?_
  refine lv_icmp_ge (tgt := 51) hx hb dX11_feed_44 (by decide) (fun _ => ?_) (fun c_163 => absurd c_163 (by decide))
  refine lv_iload hx hb dX11_feed_51 (lv_at hl 0 rfl) ?_
  refine lv_bipush (v := 12) hx hb dX11_feed_53 (by decide) ?_
  refine lv_icmp_ge (tgt := 62) hx hb dX11_feed_55 (by decide) (fun _ => ?_) (fun c_164 => absurd c_164 (by decide))
  refine lv_iload hx hb dX11_feed_62 (lv_at hl 0 rfl) ?_
  refine lv_bipush (v := 16) hx hb dX11_feed_64 (by decide) ?_
  refine lv_icmp_ge (tgt := 74) hx hb dX11_feed_66 (by decide) (fun _ => ?_) (fun c_165 => absurd c_165 (by decide))
  refine lv_iload hx hb dX11_feed_74 (lv_at hl 7 rfl) ?_
  refine lv_istore (lv' := [(7, .int p4), (6, .int 16), (0, .ref h0), (1, .int p0), (2, .int p1), (3, .int p2), (4, .int p3), (5, .int p4)]) hx hb dX11_feed_76 hl (by decide) rfl (fun ls hl => ?_)
  refine lv_aload_n hx hb dX11_feed_78 rfl (lv_at hl 2 rfl) ?_
  refine va_get (D := D) (ci := 10) (v := .ref h1) (C := RX11) (T := TX11) (N := 46) hx hb hts u_X11 hown hE.1 hP 0 rfl rfl 0 (by decide) (hts _ w_1301) (fun _ h9 => h9) rfl dX11_feed_79 ?_
  refine lv_aload_n hx hb dX11_feed_82 rfl (lv_at hl 2 rfl) ?_
  refine va_get (D := D) (ci := 10) (v := .int 0) (C := RX11) (T := TX11) (N := 46) hx hb hts u_X11 hown hE.1 hP 0 rfl rfl 1 (by decide) (hts _ w_1302) (fun _ h9 => h9) rfl dX11_feed_83 ?_
  refine lv_iload hx hb dX11_feed_86 (lv_at hl 1 rfl) ?_
  refine lv_iadd hx hb dX11_feed_88 ?_
  refine lv_topi (fun v_166 e_166 => ?_)
  obtain rfl : v_166 = 16 := e_166.trans (by decide)
  refine lv_iload hx hb dX11_feed_89 (lv_at hl 0 rfl) ?_
  refine lv_bipush (v := 24) hx hb dX11_feed_91 (by decide) ?_
  refine lv_bipush (v := 8) hx hb dX11_feed_93 (by decide) ?_
  refine lv_iload hx hb dX11_feed_95 (lv_at hl 1 rfl) ?_
  refine lv_iconst (v := 4) hx hb dX11_feed_97 (by decide) ?_
  refine lv_irem hx hb dX11_feed_98 (by decide) ?_
  refine lv_topi (fun v_167 e_167 => ?_)
  obtain rfl : v_167 = 0 := e_167.trans (by decide)
  refine lv_imul hx hb dX11_feed_99 ?_
  refine lv_topi (fun v_168 e_168 => ?_)
  obtain rfl : v_168 = 0 := e_168.trans (by decide)
  refine lv_isub hx hb dX11_feed_100 ?_
  refine lv_topi (fun v_169 e_169 => ?_)
  obtain rfl : v_169 = 24 := e_169.trans (by decide)
  refine lv_ishr hx hb dX11_feed_101 ?_
  refine lv_topi (fun v_170 e_170 => ?_)
  refine lv_sipush (v := 255) hx hb dX11_feed_102 (by decide) ?_
  refine lv_iand hx hb dX11_feed_105 ?_
  refine lv_topi (fun v_171 e_171 => ?_)
  refine va_iast hx hb hE.1 hP hD hS 1 1 rfl rfl (kk_ix _ _ (by decide)) dX11_feed_106 (fun H locs hP hD hS => ?_)
  obtain ⟨f_172, ef_172⟩ : ∃ z, z = (upd (upd f_149 15 v_160) 16 v_171) := ⟨_, rfl⟩
  have hP : va_P D vwCl [kO h0 10 [.ref h1, .int 0, .int 0, y0, .int i1, .int i2, .int i3, .int i4, .int i5, .int i6, .int i7, .int i8, .int i9, .int i10, .int i11, .int i12, .int i13, .int i14, y1, y2, y3, y4, y5, y6, y7, y8, .int i15, y9, .int i16, .int i17, y10, y11, y12, y13, .int i18, .int i19, .int i20, y14, .int i21, .int i22, .int i23, .int i24, y15, y16, .long i25, y17], kI cI h1 700 f_172] H := by rw [ef_172]; exact hP
  have hD : va_D A [kO h0 10 [.ref h1, .int 0, .int 0, y0, .int i1, .int i2, .int i3, .int i4, .int i5, .int i6, .int i7, .int i8, .int i9, .int i10, .int i11, .int i12, .int i13, .int i14, y1, y2, y3, y4, y5, y6, y7, y8, .int i15, y9, .int i16, .int i17, y10, y11, y12, y13, .int i18, .int i19, .int i20, y14, .int i21, .int i22, .int i23, .int i24, y15, y16, .long i25, y17], kI cI h1 700 f_172] := by rw [ef_172]; exact hD
  refine lv_iinc (v := 17) (lv' := [(6, .int 17), (7, .int p4), (0, .ref h0), (1, .int p0), (2, .int p1), (3, .int p2), (4, .int p3), (5, .int p4)]) hx hb dX11_feed_107 hl (k := 1) rfl (by decide) (by decide) rfl (fun ls hl => ?_)
  refine lv_goto (tgt := 23) hx hb dX11_feed_110 (by decide) ?_
  refine lv_iload hx hb dX11_feed_23 (lv_at hl 0 rfl) ?_
  refine lv_bipush (v := 20) hx hb dX11_feed_25 (by decide) ?_
  refine lv_icmp_ge (tgt := 113) hx hb dX11_feed_27 (by decide) (fun c_173 => absurd c_173 (by decide)) (fun _ => ?_)
  refine lv_iload hx hb dX11_feed_30 (lv_at hl 0 rfl) ?_
  refine lv_iconst (v := 4) hx hb dX11_feed_32 (by decide) ?_
  refine lv_icmp_ge (tgt := 40) hx hb dX11_feed_33 (by decide) (fun _ => ?_) (fun c_174 => absurd c_174 (by decide))
  refine lv_iload hx hb dX11_feed_40 (lv_at hl 0 rfl) ?_
  refine lv_bipush (v := 8) hx hb dX11_feed_42 (by decide) ?_
  refine lv_icmp_ge (tgt := 51) hx hb dX11_feed_44 (by decide) (fun _ => ?_) (fun c_175 => absurd c_175 (by decide))
  refine lv_iload hx hb dX11_feed_51 (lv_at hl 0 rfl) ?_
  refine lv_bipush (v := 12) hx hb dX11_feed_53 (by decide) ?_
  refine lv_icmp_ge (tgt := 62) hx hb dX11_feed_55 (by decide) (fun _ => ?_) (fun c_176 => absurd c_176 (by decide))
  refine lv_iload hx hb dX11_feed_62 (lv_at hl 0 rfl) ?_
  refine lv_bipush (v := 16) hx hb dX11_feed_64 (by decide) ?_
  refine lv_icmp_ge (tgt := 74) hx hb dX11_feed_66 (by decide) (fun _ => ?_) (fun c_177 => absurd c_177 (by decide))
  refine lv_iload hx hb dX11_feed_74 (lv_at hl 7 rfl) ?_
  refine lv_istore (lv' := [(7, .int p4), (6, .int 17), (0, .ref h0), (1, .int p0), (2, .int p1), (3, .int p2), (4, .int p3), (5, .int p4)]) hx hb dX11_feed_76 hl (by decide) rfl (fun ls hl => ?_)
  refine lv_aload_n hx hb dX11_feed_78 rfl (lv_at hl 2 rfl) ?_
  refine va_get (D := D) (ci := 10) (v := .ref h1) (C := RX11) (T := TX11) (N := 46) hx hb hts u_X11 hown hE.1 hP 0 rfl rfl 0 (by decide) (hts _ w_1301) (fun _ h9 => h9) rfl dX11_feed_79 ?_
  refine lv_aload_n hx hb dX11_feed_82 rfl (lv_at hl 2 rfl) ?_
  refine va_get (D := D) (ci := 10) (v := .int 0) (C := RX11) (T := TX11) (N := 46) hx hb hts u_X11 hown hE.1 hP 0 rfl rfl 1 (by decide) (hts _ w_1302) (fun _ h9 => h9) rfl dX11_feed_83 ?_
  refine lv_iload hx hb dX11_feed_86 (lv_at hl 1 rfl) ?_
  refine lv_iadd hx hb dX11_feed_88 ?_
  refine lv_topi (fun v_178 e_178 => ?_)
  obtain rfl : v_178 = 17 := e_178.trans (by decide)
  refine lv_iload hx hb dX11_feed_89 (lv_at hl 0 rfl) ?_
  refine lv_bipush (v := 24) hx hb dX11_feed_91 (by decide) ?_
  refine lv_bipush (v := 8) hx hb dX11_feed_93 (by decide) ?_
  refine lv_iload hx hb dX11_feed_95 (lv_at hl 1 rfl) ?_
  refine lv_iconst (v := 4) hx hb dX11_feed_97 (by decide) ?_
  refine lv_irem hx hb dX11_feed_98 (by decide) ?_
  refine lv_topi (fun v_179 e_179 => ?_)
  obtain rfl : v_179 = 1 := e_179.trans (by decide)
  refine lv_imul hx hb dX11_feed_99 ?_
  refine lv_topi (fun v_180 e_180 => ?_)
  obtain rfl : v_180 = 8 := e_180.trans (by decide)
  refine lv_isub hx hb dX11_feed_100 ?_
  refine lv_topi (fun v_181 e_181 => ?_)
  obtain rfl : v_181 = 16 := e_181.trans (by decide)
  refine lv_ishr hx hb dX11_feed_101 ?_
  refine lv_topi (fun v_182 e_182 => ?_)
  refine lv_sipush (v := 255) hx hb dX11_feed_102 (by decide) ?_
  refine lv_iand hx hb dX11_feed_105 ?_
  refine lv_topi (fun v_183 e_183 => ?_)
  refine va_iast hx hb hE.1 hP hD hS 1 1 rfl rfl (kk_ix _ _ (by decide)) dX11_feed_106 (fun H locs hP hD hS => ?_)
  have hP : va_P D vwCl [kO h0 10 [.ref h1, .int 0, .int 0, y0, .int i1, .int i2, .int i3, .int i4, .int i5, .int i6, .int i7, .int i8, .int i9, .int i10, .int i11, .int i12, .int i13, .int i14, y1, y2, y3, y4, y5, y6, y7, y8, .int i15, y9, .int i16, .int i17, y10, y11, y12, y13, .int i18, .int i19, .int i20, y14, .int i21, .int i22, .int i23, .int i24, y15, y16, .long i25, y17], kI cI h1 700 (upd f_172 17 v_183)] H := hP
  have hD : va_D A [kO h0 10 [.ref h1, .int 0, .int 0, y0, .int i1, .int i2, .int i3, .int i4, .int i5, .int i6, .int i7, .int i8, .int i9, .int i10, .int i11, .int i12, .int i13, .int i14, y1, y2, y3, y4, y5, y6, y7, y8, .int i15, y9, .int i16, .int i17, y10, y11, y12, y13, .int i18, .int i19, .int i20, y14, .int i21, .int i22, .int i23, .int i24, y15, y16, .long i25, y17], kI cI h1 700 (upd f_172 17 v_183)] := hD
  refine lv_iinc (v := 18) (lv' := [(6, .int 18), (7, .int p4), (0, .ref h0), (1, .int p0), (2, .int p1), (3, .int p2), (4, .int p3), (5, .int p4)]) hx hb dX11_feed_107 hl (k := 1) rfl (by decide) (by decide) rfl (fun ls hl => ?_)
  refine lv_goto (tgt := 23) hx hb dX11_feed_110 (by decide) ?_
  refine lv_iload hx hb dX11_feed_23 (lv_at hl 0 rfl) ?_
  refine lv_bipush (v := 20) hx hb dX11_feed_25 (by decide) ?_
  refine lv_icmp_ge (tgt := 113) hx hb dX11_feed_27 (by decide) (fun c_184 => absurd c_184 (by decide)) (fun _ => ?_)
  refine lv_iload hx hb dX11_feed_30 (lv_at hl 0 rfl) ?_
  refine lv_iconst (v := 4) hx hb dX11_feed_32 (by decide) ?_
  refine lv_icmp_ge (tgt := 40) hx hb dX11_feed_33 (by decide) (fun _ => ?_) (fun c_185 => absurd c_185 (by decide))
  refine lv_iload hx hb dX11_feed_40 (lv_at hl 0 rfl) ?_
  refine lv_bipush (v := 8) hx hb dX11_feed_42 (by decide) ?_
  refine lv_icmp_ge (tgt := 51) hx hb dX11_feed_44 (by decide) (fun _ => ?_) (fun c_186 => absurd c_186 (by decide))
  refine lv_iload hx hb dX11_feed_51 (lv_at hl 0 rfl) ?_
  refine lv_bipush (v := 12) hx hb dX11_feed_53 (by decide) ?_
  refine lv_icmp_ge (tgt := 62) hx hb dX11_feed_55 (by decide) (fun _ => ?_) (fun c_187 => absurd c_187 (by decide))
  refine lv_iload hx hb dX11_feed_62 (lv_at hl 0 rfl) ?_
  refine lv_bipush (v := 16) hx hb dX11_feed_64 (by decide) ?_
  refine lv_icmp_ge (tgt := 74) hx hb dX11_feed_66 (by decide) (fun _ => ?_) (fun c_188 => absurd c_188 (by decide))
  refine lv_iload hx hb dX11_feed_74 (lv_at hl 7 rfl) ?_
  refine lv_istore (lv' := [(7, .int p4), (6, .int 18), (0, .ref h0), (1, .int p0), (2, .int p1), (3, .int p2), (4, .int p3), (5, .int p4)]) hx hb dX11_feed_76 hl (by decide) rfl (fun ls hl => ?_)
  refine lv_aload_n hx hb dX11_feed_78 rfl (lv_at hl 2 rfl) ?_
  refine va_get (D := D) (ci := 10) (v := .ref h1) (C := RX11) (T := TX11) (N := 46) hx hb hts u_X11 hown hE.1 hP 0 rfl rfl 0 (by decide) (hts _ w_1301) (fun _ h9 => h9) rfl dX11_feed_79 ?_
  refine lv_aload_n hx hb dX11_feed_82 rfl (lv_at hl 2 rfl) ?_
  refine va_get (D := D) (ci := 10) (v := .int 0) (C := RX11) (T := TX11) (N := 46) hx hb hts u_X11 hown hE.1 hP 0 rfl rfl 1 (by decide) (hts _ w_1302) (fun _ h9 => h9) rfl dX11_feed_83 ?_
  refine lv_iload hx hb dX11_feed_86 (lv_at hl 1 rfl) ?_
  refine lv_iadd hx hb dX11_feed_88 ?_
  refine lv_topi (fun v_189 e_189 => ?_)
  obtain rfl : v_189 = 18 := e_189.trans (by decide)
  refine lv_iload hx hb dX11_feed_89 (lv_at hl 0 rfl) ?_
  refine lv_bipush (v := 24) hx hb dX11_feed_91 (by decide) ?_
  refine lv_bipush (v := 8) hx hb dX11_feed_93 (by decide) ?_
  refine lv_iload hx hb dX11_feed_95 (lv_at hl 1 rfl) ?_
  refine lv_iconst (v := 4) hx hb dX11_feed_97 (by decide) ?_
  refine lv_irem hx hb dX11_feed_98 (by decide) ?_
  refine lv_topi (fun v_190 e_190 => ?_)
  obtain rfl : v_190 = 2 := e_190.trans (by decide)
  refine lv_imul hx hb dX11_feed_99 ?_
  refine lv_topi (fun v_191 e_191 => ?_)
  obtain rfl : v_191 = 16 := e_191.trans (by decide)
  refine lv_isub hx hb dX11_feed_100 ?_
  refine lv_topi (fun v_192 e_192 => ?_)
  obtain rfl : v_192 = 8 := e_192.trans (by decide)
  refine lv_ishr hx hb dX11_feed_101 ?_
  refine lv_topi (fun v_193 e_193 => ?_)
  refine lv_sipush (v := 255) hx hb dX11_feed_102 (by decide) ?_
  refine lv_iand hx hb dX11_feed_105 ?_
  refine lv_topi (fun v_194 e_194 => ?_)
  refine va_iast hx hb hE.1 hP hD hS 1 1 rfl rfl (kk_ix _ _ (by decide)) dX11_feed_106 (fun H locs hP hD hS => ?_)
  obtain ⟨f_195, ef_195⟩ : ∃ z, z = (upd (upd f_172 17 v_183) 18 v_194) := ⟨_, rfl⟩
  have hP : va_P D vwCl [kO h0 10 [.ref h1, .int 0, .int 0, y0, .int i1, .int i2, .int i3, .int i4, .int i5, .int i6, .int i7, .int i8, .int i9, .int i10, .int i11, .int i12, .int i13, .int i14, y1, y2, y3, y4, y5, y6, y7, y8, .int i15, y9, .int i16, .int i17, y10, y11, y12, y13, .int i18, .int i19, .int i20, y14, .int i21, .int i22, .int i23, .int i24, y15, y16, .long i25, y17], kI cI h1 700 f_195] H := by rw [ef_195]; exact hP
  have hD : va_D A [kO h0 10 [.ref h1, .int 0, .int 0, y0, .int i1, .int i2, .int i3, .int i4, .int i5, .int i6, .int i7, .int i8, .int i9, .int i10, .int i11, .int i12, .int i13, .int i14, y1, y2, y3, y4, y5, y6, y7, y8, .int i15, y9, .int i16, .int i17, y10, y11, y12, y13, .int i18, .int i19, .int i20, y14, .int i21, .int i22, .int i23, .int i24, y15, y16, .long i25, y17], kI cI h1 700 f_195] := by rw [ef_195]; exact hD
  refine lv_iinc (v := 19) (lv' := [(6, .int 19), (7, .int p4), (0, .ref h0), (1, .int p0), (2, .int p1), (3, .int p2), (4, .int p3), (5, .int p4)]) hx hb dX11_feed_107 hl (k := 1) rfl (by decide) (by decide) rfl (fun ls hl => ?_)
  refine lv_goto (tgt := 23) hx hb dX11_feed_110 (by decide) ?_
  refine lv_iload hx hb dX11_feed_23 (lv_at hl 0 rfl) ?_
  refine lv_bipush (v := 20) hx hb dX11_feed_25 (by decide) ?_
  refine lv_icmp_ge (tgt := 113) hx hb dX11_feed_27 (by decide) (fun c_196 => absurd c_196 (by decide)) (fun _ => ?_)
  refine lv_iload hx hb dX11_feed_30 (lv_at hl 0 rfl) ?_
  refine lv_iconst (v := 4) hx hb dX11_feed_32 (by decide) ?_
  refine lv_icmp_ge (tgt := 40) hx hb dX11_feed_33 (by decide) (fun _ => ?_) (fun c_197 => absurd c_197 (by decide))
  refine lv_iload hx hb dX11_feed_40 (lv_at hl 0 rfl) ?_
  refine lv_bipush (v := 8) hx hb dX11_feed_42 (by decide) ?_
  refine lv_icmp_ge (tgt := 51) hx hb dX11_feed_44 (by decide) (fun _ => ?_) (fun c_198 => absurd c_198 (by decide))
  refine lv_iload hx hb dX11_feed_51 (lv_at hl 0 rfl) ?_
  refine lv_bipush (v := 12) hx hb dX11_feed_53 (by decide) ?_
  refine lv_icmp_ge (tgt := 62) hx hb dX11_feed_55 (by decide) (fun _ => ?_) (fun c_199 => absurd c_199 (by decide))
  refine lv_iload hx hb dX11_feed_62 (lv_at hl 0 rfl) ?_
  refine lv_bipush (v := 16) hx hb dX11_feed_64 (by decide) ?_
  refine lv_icmp_ge (tgt := 74) hx hb dX11_feed_66 (by decide) (fun _ => ?_) (fun c_200 => absurd c_200 (by decide))
  refine lv_iload hx hb dX11_feed_74 (lv_at hl 7 rfl) ?_
  refine lv_istore (lv' := [(7, .int p4), (6, .int 19), (0, .ref h0), (1, .int p0), (2, .int p1), (3, .int p2), (4, .int p3), (5, .int p4)]) hx hb dX11_feed_76 hl (by decide) rfl (fun ls hl => ?_)
  refine lv_aload_n hx hb dX11_feed_78 rfl (lv_at hl 2 rfl) ?_
  refine va_get (D := D) (ci := 10) (v := .ref h1) (C := RX11) (T := TX11) (N := 46) hx hb hts u_X11 hown hE.1 hP 0 rfl rfl 0 (by decide) (hts _ w_1301) (fun _ h9 => h9) rfl dX11_feed_79 ?_
  refine lv_aload_n hx hb dX11_feed_82 rfl (lv_at hl 2 rfl) ?_
  refine va_get (D := D) (ci := 10) (v := .int 0) (C := RX11) (T := TX11) (N := 46) hx hb hts u_X11 hown hE.1 hP 0 rfl rfl 1 (by decide) (hts _ w_1302) (fun _ h9 => h9) rfl dX11_feed_83 ?_
  refine lv_iload hx hb dX11_feed_86 (lv_at hl 1 rfl) ?_
  refine lv_iadd hx hb dX11_feed_88 ?_
  refine lv_topi (fun v_201 e_201 => ?_)
  obtain rfl : v_201 = 19 := e_201.trans (by decide)
  refine lv_iload hx hb dX11_feed_89 (lv_at hl 0 rfl) ?_
  refine lv_bipush (v := 24) hx hb dX11_feed_91 (by decide) ?_
  refine lv_bipush (v := 8) hx hb dX11_feed_93 (by decide) ?_
  refine lv_iload hx hb dX11_feed_95 (lv_at hl 1 rfl) ?_
  refine lv_iconst (v := 4) hx hb dX11_feed_97 (by decide) ?_
  refine lv_irem hx hb dX11_feed_98 (by decide) ?_
  refine lv_topi (fun v_202 e_202 => ?_)
  obtain rfl : v_202 = 3 := e_202.trans (by decide)
  refine lv_imul hx hb dX11_feed_99 ?_
  refine lv_topi (fun v_203 e_203 => ?_)
  obtain rfl : v_203 = 24 := e_203.trans (by decide)
  refine lv_isub hx hb dX11_feed_100 ?_
  refine lv_topi (fun v_204 e_204 => ?_)
  obtain rfl : v_204 = 0 := e_204.trans (by decide)
  refine lv_ishr hx hb dX11_feed_101 ?_
  refine lv_topi (fun v_205 e_205 => ?_)
  refine lv_sipush (v := 255) hx hb dX11_feed_102 (by decide) ?_
  refine lv_iand hx hb dX11_feed_105 ?_
  refine lv_topi (fun v_206 e_206 => ?_)
  refine va_iast hx hb hE.1 hP hD hS 1 1 rfl rfl (kk_ix _ _ (by decide)) dX11_feed_106 (fun H locs hP hD hS => ?_)
  have hP : va_P D vwCl [kO h0 10 [.ref h1, .int 0, .int 0, y0, .int i1, .int i2, .int i3, .int i4, .int i5, .int i6, .int i7, .int i8, .int i9, .int i10, .int i11, .int i12, .int i13, .int i14, y1, y2, y3, y4, y5, y6, y7, y8, .int i15, y9, .int i16, .int i17, y10, y11, y12, y13, .int i18, .int i19, .int i20, y14, .int i21, .int i22, .int i23, .int i24, y15, y16, .long i25, y17], kI cI h1 700 (upd f_195 19 v_206)] H := hP
  have hD : va_D A [kO h0 10 [.ref h1, .int 0, .int 0, y0, .int i1, .int i2, .int i3, .int i4, .int i5, .int i6, .int i7, .int i8, .int i9, .int i10, .int i11, .int i12, .int i13, .int i14, y1, y2, y3, y4, y5, y6, y7, y8, .int i15, y9, .int i16, .int i17, y10, y11, y12, y13, .int i18, .int i19, .int i20, y14, .int i21, .int i22, .int i23, .int i24, y15, y16, .long i25, y17], kI cI h1 700 (upd f_195 19 v_206)] := hD
  refine lv_iinc (v := 20) (lv' := [(6, .int 20), (7, .int p4), (0, .ref h0), (1, .int p0), (2, .int p1), (3, .int p2), (4, .int p3), (5, .int p4)]) hx hb dX11_feed_107 hl (k := 1) rfl (by decide) (by decide) rfl (fun ls hl => ?_)
  refine lv_goto (tgt := 23) hx hb dX11_feed_110 (by decide) ?_
  refine lv_iload hx hb dX11_feed_23 (lv_at hl 0 rfl) ?_
  refine lv_bipush (v := 20) hx hb dX11_feed_25 (by decide) ?_
  refine lv_icmp_ge (tgt := 113) hx hb dX11_feed_27 (by decide) (fun _ => ?_) (fun c_207 => absurd c_207 (by decide))
  refine lv_aload_n hx hb dX11_feed_113 rfl (lv_at hl 2 rfl) ?_
  refine lv_dup hx hb dX11_feed_114 rfl ?_
  refine va_get (D := D) (ci := 10) (v := .int 0) (C := RX11) (T := TX11) (N := 46) hx hb hts u_X11 hown hE.1 hP 0 rfl rfl 1 (by decide) (hts _ w_1302) (fun _ h9 => h9) rfl dX11_feed_115 ?_
  refine lv_bipush (v := 20) hx hb dX11_feed_118 (by decide) ?_
  refine lv_iadd hx hb dX11_feed_120 ?_
  refine lv_topi (fun v_208 e_208 => ?_)
  obtain rfl : v_208 = 20 := e_208.trans (by decide)
  refine va_put (D := D) (ci := 10) (v := .int 20) (ty := .int) (C := RX11) (T := TX11) (N := 46) hx hb hts u_X11 tyX11 tyX11_ok nmX11 hown hE.1 hP hD hS 0 rfl rfl 1 (by decide) (hts _ w_1302) (fun _ h9 => h9) rfl (by decide +kernel) rfl rfl (Nat.le_of_ble_eq_true rfl) dX11_feed_121 (fun H locs hP hD hS => ?_)
  have hP : va_P D vwCl [kO h0 10 [.ref h1, .int 20, .int 0, y0, .int i1, .int i2, .int i3, .int i4, .int i5, .int i6, .int i7, .int i8, .int i9, .int i10, .int i11, .int i12, .int i13, .int i14, y1, y2, y3, y4, y5, y6, y7, y8, .int i15, y9, .int i16, .int i17, y10, y11, y12, y13, .int i18, .int i19, .int i20, y14, .int i21, .int i22, .int i23, .int i24, y15, y16, .long i25, y17], kI cI h1 700 (upd f_195 19 v_206)] H := hP
  have hD : va_D A [kO h0 10 [.ref h1, .int 20, .int 0, y0, .int i1, .int i2, .int i3, .int i4, .int i5, .int i6, .int i7, .int i8, .int i9, .int i10, .int i11, .int i12, .int i13, .int i14, y1, y2, y3, y4, y5, y6, y7, y8, .int i15, y9, .int i16, .int i17, y10, y11, y12, y13, .int i18, .int i19, .int i20, y14, .int i21, .int i22, .int i23, .int i24, y15, y16, .long i25, y17], kI cI h1 700 (upd f_195 19 v_206)] := hD
  refine lv_aload_n hx hb dX11_feed_124 rfl (lv_at hl 2 rfl) ?_
  refine va_get (D := D) (ci := 10) (v := .int 20) (C := RX11) (T := TX11) (N := 46) hx hb hts u_X11 hown hE.1 hP 0 rfl rfl 1 (by decide) (hts _ w_1302) (fun _ h9 => h9) rfl dX11_feed_125 ?_
  exact kk_ret_i ((fun _ => 0), (fun _ _ => 0), (fun _ _ => 0), (fun _ => 0)) hx hb hr hlocks rfl kk_P0 kk_D0 hS dX11_feed_128 (Nat.le_of_ble_eq_true rfl) (Nat.le_of_ble_eq_true rfl)
