set_option maxHeartbeats 4000000 in
set_option maxRecDepth 100000 in
theorem c_X0_begin (l : Launch) (D : va_G) (cB cI cJ cD : ClassId) (h0 h1 h2 h3 h4 h5 h6 h7 h8 h9 h10 h11 h12 h13 h14 h15 h16 h17 h18 h19 h20 h21 h22 h23 h24 h25 : Nat) (z0 : Nat) (z1 : Nat) (z2 : Nat) (z3 : Nat) (z4 : Nat) (z5 : Nat) (g0 : Nat → Int32) (g1 : Nat → Int32) (g2 : Nat → Int32) (g3 : Nat → Int32) (g4 : Nat → Int32) (g5 : Nat → Int32) (g6 : Nat → Int32) (g7 : Nat → Int32) (g8 : Nat → Int32) (g9 : Nat → Int32) (g10 : Nat → Int32) (g11 : Nat → Int32) (g12 : Nat → Int32) (g13 : Nat → Int32) (z6 : Nat) (z7 : Nat) (z8 : Nat) (z9 : Nat) (z10 : Nat) (z11 : Nat) (z12 : Nat) (g14 : Nat → Int32) (g15 : Nat → Int32) (g16 : Nat → Int32) (z13 : Nat) (g17 : Nat → Int32) (g18 : Nat → Int32) (sz : Nat) : Met l yX0_begin (kk_W yX0_begin cX0_begin 2 none) ({ frames := 3, cells := 0, slots := 0, locals := 82 }) (va_Pc [.ref h0, .ref h2] (kk_pre D cB cI cJ cD [kO h0 0 [.ref h1, .ref h24, .ref h25, .int 0, .int (-1)], kO h1 8 [.ref h3, .ref h19, .ref h23, .int 0, .int 0, .int 0, .int 0, .int 0], kO h2 5 [.int 0, .int 0, .int 0, .ref h4, .ref z0, .ref z1, .ref z2, .ref z3, .ref z4, .ref z5], kO h3 6 [.int 0, .ref h6, .ref h8, .ref h10, .ref h12, .ref h14, .ref h16, .ref h18], kO h4 6 [.int 0, .ref h5, .ref h7, .ref h9, .ref h11, .ref h13, .ref h15, .ref h17], kI cI h5 24 g0, kI cI h6 24 g1, kI cI h7 24 g2, kI cI h8 24 g3, kI cI h9 24 g4, kI cI h10 24 g5, kI cI h11 24 g6, kI cI h12 24 g7, kI cI h13 25 g8, kI cI h14 25 g9, kI cI h15 24 g10, kI cI h16 24 g11, kI cI h17 24 g12, kI cI h18 24 g13, kO h19 1 [.int 0, .ref h20, .ref h21, .ref h22, .ref z6, .ref z7, .ref z8, .ref z9, .ref z10, .ref z11, .ref z12, .int 0], kI cI h20 5 g14, kI cI h21 5 g15, kI cI h22 5 g16, kO h23 3 [.int 0, .ref z13], kI cI h24 24 g17, kI cI h25 24 g18] sz)) (kk_Qv D (fun (u : (Nat → Nat) × (Nat → Nat → Int32) × (Nat → Nat → Int64) × (Nat → Int32)) => True) (fun u => [kO h0 0 [.ref h1, .ref h24, .ref h25, .int 0, .int (-1)], kO h1 8 [.ref h3, .ref h19, .ref h23, .int 0, .int 0, .int 0, .int 0, .int 0], kO h2 5 [.int 0, .int 0, .int 0, .ref h4, .ref z0, .ref z1, .ref z2, .ref z3, .ref z4, .ref z5], kO h3 6 [.int 0, .ref h6, .ref h8, .ref h10, .ref h12, .ref h14, .ref h16, .ref h18], kO h4 6 [.int 0, .ref h5, .ref h7, .ref h9, .ref h11, .ref h13, .ref h15, .ref h17], kI cI h5 24 g0, kI cI h6 24 (u.2.1 0), kI cI h7 24 g2, kI cI h8 24 (u.2.1 1), kI cI h9 24 g4, kI cI h10 24 (u.2.1 2), kI cI h11 24 g6, kI cI h12 24 (u.2.1 3), kI cI h13 25 g8, kI cI h14 25 (u.2.1 4), kI cI h15 24 g10, kI cI h16 24 (u.2.1 5), kI cI h17 24 g12, kI cI h18 24 (u.2.1 6), kO h19 1 [.int 0, .ref h20, .ref h21, .ref h22, .ref z6, .ref z7, .ref z8, .ref z9, .ref z10, .ref z11, .ref z12, .int 0], kI cI h20 5 (u.2.1 7), kI cI h21 5 (u.2.1 8), kI cI h22 5 (u.2.1 9), kO h23 3 [.int 0, .ref z13], kI cI h24 24 (u.2.1 10), kI cI h25 24 (u.2.1 11)]) (va_A [kO h0 0 [.ref h1, .ref h24, .ref h25, .int 0, .int (-1)], kO h1 8 [.ref h3, .ref h19, .ref h23, .int 0, .int 0, .int 0, .int 0, .int 0], kO h2 5 [.int 0, .int 0, .int 0, .ref h4, .ref z0, .ref z1, .ref z2, .ref z3, .ref z4, .ref z5], kO h3 6 [.int 0, .ref h6, .ref h8, .ref h10, .ref h12, .ref h14, .ref h16, .ref h18], kO h4 6 [.int 0, .ref h5, .ref h7, .ref h9, .ref h11, .ref h13, .ref h15, .ref h17], kI cI h5 24 g0, kI cI h6 24 g1, kI cI h7 24 g2, kI cI h8 24 g3, kI cI h9 24 g4, kI cI h10 24 g5, kI cI h11 24 g6, kI cI h12 24 g7, kI cI h13 25 g8, kI cI h14 25 g9, kI cI h15 24 g10, kI cI h16 24 g11, kI cI h17 24 g12, kI cI h18 24 g13, kO h19 1 [.int 0, .ref h20, .ref h21, .ref h22, .ref z6, .ref z7, .ref z8, .ref z9, .ref z10, .ref z11, .ref z12, .int 0], kI cI h20 5 g14, kI cI h21 5 g15, kI cI h22 5 g16, kO h23 3 [.int 0, .ref z13], kI cI h24 24 g17, kI cI h25 24 g18] sz)) 0 0 (va_A [kO h0 0 [.ref h1, .ref h24, .ref h25, .int 0, .int (-1)], kO h1 8 [.ref h3, .ref h19, .ref h23, .int 0, .int 0, .int 0, .int 0, .int 0], kO h2 5 [.int 0, .int 0, .int 0, .ref h4, .ref z0, .ref z1, .ref z2, .ref z3, .ref z4, .ref z5], kO h3 6 [.int 0, .ref h6, .ref h8, .ref h10, .ref h12, .ref h14, .ref h16, .ref h18], kO h4 6 [.int 0, .ref h5, .ref h7, .ref h9, .ref h11, .ref h13, .ref h15, .ref h17], kI cI h5 24 g0, kI cI h6 24 g1, kI cI h7 24 g2, kI cI h8 24 g3, kI cI h9 24 g4, kI cI h10 24 g5, kI cI h11 24 g6, kI cI h12 24 g7, kI cI h13 25 g8, kI cI h14 25 g9, kI cI h15 24 g10, kI cI h16 24 g11, kI cI h17 24 g12, kI cI h18 24 g13, kO h19 1 [.int 0, .ref h20, .ref h21, .ref h22, .ref z6, .ref z7, .ref z8, .ref z9, .ref z10, .ref z11, .ref z12, .int 0], kI cI h20 5 g14, kI cI h21 5 g15, kI cI h22 5 g16, kO h23 3 [.int 0, .ref z13], kI cI h24 24 g17, kI cI h25 24 g18] sz) := by
  refine kk_start (y := yX0_begin) (maxL := 2) (av := [.ref h0, .ref h2]) (Qc := fun A => kk_Qv D (fun (u : (Nat → Nat) × (Nat → Nat → Int32) × (Nat → Nat → Int64) × (Nat → Int32)) => True) (fun u => [kO h0 0 [.ref h1, .ref h24, .ref h25, .int 0, .int (-1)], kO h1 8 [.ref h3, .ref h19, .ref h23, .int 0, .int 0, .int 0, .int 0, .int 0], kO h2 5 [.int 0, .int 0, .int 0, .ref h4, .ref z0, .ref z1, .ref z2, .ref z3, .ref z4, .ref z5], kO h3 6 [.int 0, .ref h6, .ref h8, .ref h10, .ref h12, .ref h14, .ref h16, .ref h18], kO h4 6 [.int 0, .ref h5, .ref h7, .ref h9, .ref h11, .ref h13, .ref h15, .ref h17], kI cI h5 24 g0, kI cI h6 24 (u.2.1 0), kI cI h7 24 g2, kI cI h8 24 (u.2.1 1), kI cI h9 24 g4, kI cI h10 24 (u.2.1 2), kI cI h11 24 g6, kI cI h12 24 (u.2.1 3), kI cI h13 25 g8, kI cI h14 25 (u.2.1 4), kI cI h15 24 g10, kI cI h16 24 (u.2.1 5), kI cI h17 24 g12, kI cI h18 24 (u.2.1 6), kO h19 1 [.int 0, .ref h20, .ref h21, .ref h22, .ref z6, .ref z7, .ref z8, .ref z9, .ref z10, .ref z11, .ref z12, .int 0], kI cI h20 5 (u.2.1 7), kI cI h21 5 (u.2.1 8), kI cI h22 5 (u.2.1 9), kO h23 3 [.int 0, .ref z13], kI cI h24 24 (u.2.1 10), kI cI h25 24 (u.2.1 11)]) A) (by decide) (Nat.le_of_ble_eq_true rfl) ?_
  intro p e s m below meth c ls A hx hb hr hml hown hts hE hlocks hin hsz hP hD hA hS hl
  have hown : s.vm.findClass RX0 = some m.cls := hown
  have hl : lv_has ls 2 [(0, .ref h0), (1, .ref h2)] := hl
  refine lv_aload_n hx hb dX0_begin_0 rfl (lv_at hl 0 rfl) ?_
  refine va_get (D := D) (ci := 0) (v := .ref h1) (C := RX0) (T := TX0) (N := 5) hx hb hts u_X0 hown hE.1 hP 0 rfl rfl 0 (by decide) (hts _ w_418) (fun _ h9 => h9) rfl dX0_begin_1 ?_
  refine lv_aload_n hx hb dX0_begin_4 rfl (lv_at hl 1 rfl) ?_
  refine kk_cv (wr := [kO h0 0 [.ref h1, .ref h24, .ref h25, .int 0, .int (-1)], kI cI h24 24 g17, kI cI h25 24 g18]) (kk_runV (w1 := [kO h1 8 [.ref h3, .ref h19, .ref h23, .int 0, .int 0, .int 0, .int 0, .int 0], kO h2 5 [.int 0, .int 0, .int 0, .ref h4, .ref z0, .ref z1, .ref z2, .ref z3, .ref z4, .ref z5], kO h3 6 [.int 0, .ref h6, .ref h8, .ref h10, .ref h12, .ref h14, .ref h16, .ref h18], kO h4 6 [.int 0, .ref h5, .ref h7, .ref h9, .ref h11, .ref h13, .ref h15, .ref h17], kI cI h5 24 g0, kI cI h6 24 g1, kI cI h7 24 g2, kI cI h8 24 g3, kI cI h9 24 g4, kI cI h10 24 g5, kI cI h11 24 g6, kI cI h12 24 g7, kI cI h13 25 g8, kI cI h14 25 g9, kI cI h15 24 g10, kI cI h16 24 g11, kI cI h17 24 g12, kI cI h18 24 g13, kO h19 1 [.int 0, .ref h20, .ref h21, .ref h22, .ref z6, .ref z7, .ref z8, .ref z9, .ref z10, .ref z11, .ref z12, .int 0], kI cI h20 5 g14, kI cI h21 5 g15, kI cI h22 5 g16, kO h23 3 [.int 0, .ref z13]]) (As := [.ref h2]) (rest := []) hx hb hml hown hts hE (c_X9_begin l D cB cI cJ cD h1 h2 h3 h4 h5 h6 h7 h8 h9 h10 h11 h12 h13 h14 h15 h16 h17 h18 h19 h20 h21 h22 h23 z0 z1 z2 z3 z4 z5 g0 g1 g2 g3 g4 g5 g6 g7 g8 g9 g10 g11 g12 g13 z6 z7 z8 z9 z10 z11 z12 g14 g15 g16 z13 s.heap.size) m_X9_begin w_633 ⟨rfl, rfl, Nat.le_of_ble_eq_true rfl, Nat.le_of_ble_eq_true rfl⟩ (hP.sub [1, 2, 3, 4, 5, 6, 7, 8, 9, 10, 11, 12, 13, 14, 15, 16, 17, 18, 19, 20, 21, 22, 23] rfl) (hD.sub [1, 2, 3, 4, 5, 6, 7, 8, 9, 10, 11, 12, 13, 14, 15, 16, 17, 18, 19, 20, 21, 22, 23] (by decide +kernel) rfl) 0 8 rfl rfl rfl hl.1 (Nat.le_of_ble_eq_true rfl) dX0_begin_5 ⟨Nat.le_of_ble_eq_true rfl, Nat.le_of_ble_eq_true rfl⟩) hP hD hS hA [1, 2, 3, 4, 5, 6, 7, 8, 9, 10, 11, 12, 13, 14, 15, 16, 17, 18, 19, 20, 21, 22, 23] [0, 24, 25] rfl rfl (by decide +kernel) (by decide +kernel) (fun u_1 H locs p_1 hP hD hS => ?_)
  have hP : va_P D vwCl [kO h0 0 [.ref h1, .ref h24, .ref h25, .int 0, .int (-1)], kI cI h24 24 g17, kI cI h25 24 g18, kO h1 8 [.ref h3, .ref h19, .ref h23, .int 0, .int 0, .int 0, .int 0, .int 0], kO h2 5 [.int 0, .int 0, .int 0, .ref h4, .ref z0, .ref z1, .ref z2, .ref z3, .ref z4, .ref z5], kO h3 6 [.int 0, .ref h6, .ref h8, .ref h10, .ref h12, .ref h14, .ref h16, .ref h18], kO h4 6 [.int 0, .ref h5, .ref h7, .ref h9, .ref h11, .ref h13, .ref h15, .ref h17], kI cI h5 24 g0, kI cI h6 24 (u_1.2.1 0), kI cI h7 24 g2, kI cI h8 24 (u_1.2.1 1), kI cI h9 24 g4, kI cI h10 24 (u_1.2.1 2), kI cI h11 24 g6, kI cI h12 24 (u_1.2.1 3), kI cI h13 25 g8, kI cI h14 25 (u_1.2.1 4), kI cI h15 24 g10, kI cI h16 24 (u_1.2.1 5), kI cI h17 24 g12, kI cI h18 24 (u_1.2.1 6), kO h19 1 [.int 0, .ref h20, .ref h21, .ref h22, .ref z6, .ref z7, .ref z8, .ref z9, .ref z10, .ref z11, .ref z12, .int 0], kI cI h20 5 (u_1.2.1 7), kI cI h21 5 (u_1.2.1 8), kI cI h22 5 (u_1.2.1 9), kO h23 3 [.int 0, .ref z13]] H := hP
  have hD : va_D A [kO h0 0 [.ref h1, .ref h24, .ref h25, .int 0, .int (-1)], kI cI h24 24 g17, kI cI h25 24 g18, kO h1 8 [.ref h3, .ref h19, .ref h23, .int 0, .int 0, .int 0, .int 0, .int 0], kO h2 5 [.int 0, .int 0, .int 0, .ref h4, .ref z0, .ref z1, .ref z2, .ref z3, .ref z4, .ref z5], kO h3 6 [.int 0, .ref h6, .ref h8, .ref h10, .ref h12, .ref h14, .ref h16, .ref h18], kO h4 6 [.int 0, .ref h5, .ref h7, .ref h9, .ref h11, .ref h13, .ref h15, .ref h17], kI cI h5 24 g0, kI cI h6 24 (u_1.2.1 0), kI cI h7 24 g2, kI cI h8 24 (u_1.2.1 1), kI cI h9 24 g4, kI cI h10 24 (u_1.2.1 2), kI cI h11 24 g6, kI cI h12 24 (u_1.2.1 3), kI cI h13 25 g8, kI cI h14 25 (u_1.2.1 4), kI cI h15 24 g10, kI cI h16 24 (u_1.2.1 5), kI cI h17 24 g12, kI cI h18 24 (u_1.2.1 6), kO h19 1 [.int 0, .ref h20, .ref h21, .ref h22, .ref z6, .ref z7, .ref z8, .ref z9, .ref z10, .ref z11, .ref z12, .int 0], kI cI h20 5 (u_1.2.1 7), kI cI h21 5 (u_1.2.1 8), kI cI h22 5 (u_1.2.1 9), kO h23 3 [.int 0, .ref z13]] := hD
  refine lv_aload_n hx hb dX0_begin_8 rfl (lv_at hl 0 rfl) ?_
  refine va_get (D := D) (ci := 0) (v := .ref h24) (C := RX0) (T := TX0) (N := 5) hx hb hts u_X0 hown hE.1 hP 0 rfl rfl 1 (by decide) (hts _ w_421) (fun _ h9 => h9) rfl dX0_begin_9 ?_
  refine lv_iconst (v := 0) hx hb dX0_begin_12 (by decide) ?_
  refine kk_cv (wr := [kO h0 0 [.ref h1, .ref h24, .ref h25, .int 0, .int (-1)], kI cI h25 24 g18, kO h1 8 [.ref h3, .ref h19, .ref h23, .int 0, .int 0, .int 0, .int 0, .int 0], kO h2 5 [.int 0, .int 0, .int 0, .ref h4, .ref z0, .ref z1, .ref z2, .ref z3, .ref z4, .ref z5], kO h3 6 [.int 0, .ref h6, .ref h8, .ref h10, .ref h12, .ref h14, .ref h16, .ref h18], kO h4 6 [.int 0, .ref h5, .ref h7, .ref h9, .ref h11, .ref h13, .ref h15, .ref h17], kI cI h5 24 g0, kI cI h6 24 (u_1.2.1 0), kI cI h7 24 g2, kI cI h8 24 (u_1.2.1 1), kI cI h9 24 g4, kI cI h10 24 (u_1.2.1 2), kI cI h11 24 g6, kI cI h12 24 (u_1.2.1 3), kI cI h13 25 g8, kI cI h14 25 (u_1.2.1 4), kI cI h15 24 g10, kI cI h16 24 (u_1.2.1 5), kI cI h17 24 g12, kI cI h18 24 (u_1.2.1 6), kO h19 1 [.int 0, .ref h20, .ref h21, .ref h22, .ref z6, .ref z7, .ref z8, .ref z9, .ref z10, .ref z11, .ref z12, .int 0], kI cI h20 5 (u_1.2.1 7), kI cI h21 5 (u_1.2.1 8), kI cI h22 5 (u_1.2.1 9), kO h23 3 [.int 0, .ref z13]]) (kk_runS (w1 := [kI cI h24 24 g17]) (As := [.ref h24, .int 0]) (rest := []) hx hb hml hown hts hE (c_J7_fill_53178_3 l D cB cI cJ cD h24 g17 H.size) m_J7_fill_53178 w_651 ⟨rfl, rfl, Nat.le_of_ble_eq_true rfl, Nat.le_of_ble_eq_true rfl⟩ (hP.sub [1] rfl) (hD.sub [1] (by decide +kernel) rfl) rfl hl.1 (Nat.le_of_ble_eq_true rfl) dX0_begin_13 ⟨Nat.le_of_ble_eq_true rfl, Nat.le_of_ble_eq_true rfl⟩) hP hD hS hA [1] [0, 2, 3, 4, 5, 6, 7, 8, 9, 10, 11, 12, 13, 14, 15, 16, 17, 18, 19, 20, 21, 22, 23, 24, 25] rfl rfl (by decide +kernel) (by decide +kernel) (fun u_2 H locs p_2 hP hD hS => ?_)
  have hP : va_P D vwCl [kO h0 0 [.ref h1, .ref h24, .ref h25, .int 0, .int (-1)], kI cI h25 24 g18, kO h1 8 [.ref h3, .ref h19, .ref h23, .int 0, .int 0, .int 0, .int 0, .int 0], kO h2 5 [.int 0, .int 0, .int 0, .ref h4, .ref z0, .ref z1, .ref z2, .ref z3, .ref z4, .ref z5], kO h3 6 [.int 0, .ref h6, .ref h8, .ref h10, .ref h12, .ref h14, .ref h16, .ref h18], kO h4 6 [.int 0, .ref h5, .ref h7, .ref h9, .ref h11, .ref h13, .ref h15, .ref h17], kI cI h5 24 g0, kI cI h6 24 (u_1.2.1 0), kI cI h7 24 g2, kI cI h8 24 (u_1.2.1 1), kI cI h9 24 g4, kI cI h10 24 (u_1.2.1 2), kI cI h11 24 g6, kI cI h12 24 (u_1.2.1 3), kI cI h13 25 g8, kI cI h14 25 (u_1.2.1 4), kI cI h15 24 g10, kI cI h16 24 (u_1.2.1 5), kI cI h17 24 g12, kI cI h18 24 (u_1.2.1 6), kO h19 1 [.int 0, .ref h20, .ref h21, .ref h22, .ref z6, .ref z7, .ref z8, .ref z9, .ref z10, .ref z11, .ref z12, .int 0], kI cI h20 5 (u_1.2.1 7), kI cI h21 5 (u_1.2.1 8), kI cI h22 5 (u_1.2.1 9), kO h23 3 [.int 0, .ref z13], kI cI h24 24 (u_2.2.1 0)] H := hP
  have hD : va_D A [kO h0 0 [.ref h1, .ref h24, .ref h25, .int 0, .int (-1)], kI cI h25 24 g18, kO h1 8 [.ref h3, .ref h19, .ref h23, .int 0, .int 0, .int 0, .int 0, .int 0], kO h2 5 [.int 0, .int 0, .int 0, .ref h4, .ref z0, .ref z1, .ref z2, .ref z3, .ref z4, .ref z5], kO h3 6 [.int 0, .ref h6, .ref h8, .ref h10, .ref h12, .ref h14, .ref h16, .ref h18], kO h4 6 [.int 0, .ref h5, .ref h7, .ref h9, .ref h11, .ref h13, .ref h15, .ref h17], kI cI h5 24 g0, kI cI h6 24 (u_1.2.1 0), kI cI h7 24 g2, kI cI h8 24 (u_1.2.1 1), kI cI h9 24 g4, kI cI h10 24 (u_1.2.1 2), kI cI h11 24 g6, kI cI h12 24 (u_1.2.1 3), kI cI h13 25 g8, kI cI h14 25 (u_1.2.1 4), kI cI h15 24 g10, kI cI h16 24 (u_1.2.1 5), kI cI h17 24 g12, kI cI h18 24 (u_1.2.1 6), kO h19 1 [.int 0, .ref h20, .ref h21, .ref h22, .ref z6, .ref z7, .ref z8, .ref z9, .ref z10, .ref z11, .ref z12, .int 0], kI cI h20 5 (u_1.2.1 7), kI cI h21 5 (u_1.2.1 8), kI cI h22 5 (u_1.2.1 9), kO h23 3 [.int 0, .ref z13], kI cI h24 24 (u_2.2.1 0)] := hD
  refine lv_aload_n hx hb dX0_begin_16 rfl (lv_at hl 0 rfl) ?_
  refine va_get (D := D) (ci := 0) (v := .ref h25) (C := RX0) (T := TX0) (N := 5) hx hb hts u_X0 hown hE.1 hP 0 rfl rfl 2 (by decide) (hts _ w_423) (fun _ h9 => h9) rfl dX0_begin_17 ?_
  refine lv_bipush (v := (-5)) hx hb dX0_begin_20 (by decide) ?_
  refine kk_cv (wr := [kO h0 0 [.ref h1, .ref h24, .ref h25, .int 0, .int (-1)], kO h1 8 [.ref h3, .ref h19, .ref h23, .int 0, .int 0, .int 0, .int 0, .int 0], kO h2 5 [.int 0, .int 0, .int 0, .ref h4, .ref z0, .ref z1, .ref z2, .ref z3, .ref z4, .ref z5], kO h3 6 [.int 0, .ref h6, .ref h8, .ref h10, .ref h12, .ref h14, .ref h16, .ref h18], kO h4 6 [.int 0, .ref h5, .ref h7, .ref h9, .ref h11, .ref h13, .ref h15, .ref h17], kI cI h5 24 g0, kI cI h6 24 (u_1.2.1 0), kI cI h7 24 g2, kI cI h8 24 (u_1.2.1 1), kI cI h9 24 g4, kI cI h10 24 (u_1.2.1 2), kI cI h11 24 g6, kI cI h12 24 (u_1.2.1 3), kI cI h13 25 g8, kI cI h14 25 (u_1.2.1 4), kI cI h15 24 g10, kI cI h16 24 (u_1.2.1 5), kI cI h17 24 g12, kI cI h18 24 (u_1.2.1 6), kO h19 1 [.int 0, .ref h20, .ref h21, .ref h22, .ref z6, .ref z7, .ref z8, .ref z9, .ref z10, .ref z11, .ref z12, .int 0], kI cI h20 5 (u_1.2.1 7), kI cI h21 5 (u_1.2.1 8), kI cI h22 5 (u_1.2.1 9), kO h23 3 [.int 0, .ref z13], kI cI h24 24 (u_2.2.1 0)]) (kk_runS (w1 := [kI cI h25 24 g18]) (As := [.ref h25, .int (-5)]) (rest := []) hx hb hml hown hts hE (c_J7_fill_53178_4 l D cB cI cJ cD h25 g18 H.size) m_J7_fill_53178 w_651 ⟨rfl, rfl, Nat.le_of_ble_eq_true rfl, Nat.le_of_ble_eq_true rfl⟩ (hP.sub [1] rfl) (hD.sub [1] (by decide +kernel) rfl) rfl hl.1 (Nat.le_of_ble_eq_true rfl) dX0_begin_22 ⟨Nat.le_of_ble_eq_true rfl, Nat.le_of_ble_eq_true rfl⟩) hP hD hS hA [1] [0, 2, 3, 4, 5, 6, 7, 8, 9, 10, 11, 12, 13, 14, 15, 16, 17, 18, 19, 20, 21, 22, 23, 24, 25] rfl rfl (by decide +kernel) (by decide +kernel) (fun u_3 H locs p_3 hP hD hS => ?_)
  have hP : va_P D vwCl [kO h0 0 [.ref h1, .ref h24, .ref h25, .int 0, .int (-1)], kO h1 8 [.ref h3, .ref h19, .ref h23, .int 0, .int 0, .int 0, .int 0, .int 0], kO h2 5 [.int 0, .int 0, .int 0, .ref h4, .ref z0, .ref z1, .ref z2, .ref z3, .ref z4, .ref z5], kO h3 6 [.int 0, .ref h6, .ref h8, .ref h10, .ref h12, .ref h14, .ref h16, .ref h18], kO h4 6 [.int 0, .ref h5, .ref h7, .ref h9, .ref h11, .ref h13, .ref h15, .ref h17], kI cI h5 24 g0, kI cI h6 24 (u_1.2.1 0), kI cI h7 24 g2, kI cI h8 24 (u_1.2.1 1), kI cI h9 24 g4, kI cI h10 24 (u_1.2.1 2), kI cI h11 24 g6, kI cI h12 24 (u_1.2.1 3), kI cI h13 25 g8, kI cI h14 25 (u_1.2.1 4), kI cI h15 24 g10, kI cI h16 24 (u_1.2.1 5), kI cI h17 24 g12, kI cI h18 24 (u_1.2.1 6), kO h19 1 [.int 0, .ref h20, .ref h21, .ref h22, .ref z6, .ref z7, .ref z8, .ref z9, .ref z10, .ref z11, .ref z12, .int 0], kI cI h20 5 (u_1.2.1 7), kI cI h21 5 (u_1.2.1 8), kI cI h22 5 (u_1.2.1 9), kO h23 3 [.int 0, .ref z13], kI cI h24 24 (u_2.2.1 0), kI cI h25 24 (u_3.2.1 0)] H := hP
  have hD : va_D A [kO h0 0 [.ref h1, .ref h24, .ref h25, .int 0, .int (-1)], kO h1 8 [.ref h3, .ref h19, .ref h23, .int 0, .int 0, .int 0, .int 0, .int 0], kO h2 5 [.int 0, .int 0, .int 0, .ref h4, .ref z0, .ref z1, .ref z2, .ref z3, .ref z4, .ref z5], kO h3 6 [.int 0, .ref h6, .ref h8, .ref h10, .ref h12, .ref h14, .ref h16, .ref h18], kO h4 6 [.int 0, .ref h5, .ref h7, .ref h9, .ref h11, .ref h13, .ref h15, .ref h17], kI cI h5 24 g0, kI cI h6 24 (u_1.2.1 0), kI cI h7 24 g2, kI cI h8 24 (u_1.2.1 1), kI cI h9 24 g4, kI cI h10 24 (u_1.2.1 2), kI cI h11 24 g6, kI cI h12 24 (u_1.2.1 3), kI cI h13 25 g8, kI cI h14 25 (u_1.2.1 4), kI cI h15 24 g10, kI cI h16 24 (u_1.2.1 5), kI cI h17 24 g12, kI cI h18 24 (u_1.2.1 6), kO h19 1 [.int 0, .ref h20, .ref h21, .ref h22, .ref z6, .ref z7, .ref z8, .ref z9, .ref z10, .ref z11, .ref z12, .int 0], kI cI h20 5 (u_1.2.1 7), kI cI h21 5 (u_1.2.1 8), kI cI h22 5 (u_1.2.1 9), kO h23 3 [.int 0, .ref z13], kI cI h24 24 (u_2.2.1 0), kI cI h25 24 (u_3.2.1 0)] := hD
  refine lv_aload_n hx hb dX0_begin_25 rfl (lv_at hl 0 rfl) ?_
  refine lv_iconst (v := 0) hx hb dX0_begin_26 (by decide) ?_
  refine va_put (D := D) (ci := 0) (v := .int 0) (ty := .int) (C := RX0) (T := TX0) (N := 5) hx hb hts u_X0 tyX0 tyX0_ok nmX0 hown hE.1 hP hD hS 0 rfl rfl 3 (by decide) (hts _ w_426) (fun _ h9 => h9) rfl (by decide +kernel) rfl rfl (Nat.le_of_ble_eq_true rfl) dX0_begin_27 (fun H locs hP hD hS => ?_)
  have hP : va_P D vwCl [kO h0 0 [.ref h1, .ref h24, .ref h25, .int 0, .int (-1)], kO h1 8 [.ref h3, .ref h19, .ref h23, .int 0, .int 0, .int 0, .int 0, .int 0], kO h2 5 [.int 0, .int 0, .int 0, .ref h4, .ref z0, .ref z1, .ref z2, .ref z3, .ref z4, .ref z5], kO h3 6 [.int 0, .ref h6, .ref h8, .ref h10, .ref h12, .ref h14, .ref h16, .ref h18], kO h4 6 [.int 0, .ref h5, .ref h7, .ref h9, .ref h11, .ref h13, .ref h15, .ref h17], kI cI h5 24 g0, kI cI h6 24 (u_1.2.1 0), kI cI h7 24 g2, kI cI h8 24 (u_1.2.1 1), kI cI h9 24 g4, kI cI h10 24 (u_1.2.1 2), kI cI h11 24 g6, kI cI h12 24 (u_1.2.1 3), kI cI h13 25 g8, kI cI h14 25 (u_1.2.1 4), kI cI h15 24 g10, kI cI h16 24 (u_1.2.1 5), kI cI h17 24 g12, kI cI h18 24 (u_1.2.1 6), kO h19 1 [.int 0, .ref h20, .ref h21, .ref h22, .ref z6, .ref z7, .ref z8, .ref z9, .ref z10, .ref z11, .ref z12, .int 0], kI cI h20 5 (u_1.2.1 7), kI cI h21 5 (u_1.2.1 8), kI cI h22 5 (u_1.2.1 9), kO h23 3 [.int 0, .ref z13], kI cI h24 24 (u_2.2.1 0), kI cI h25 24 (u_3.2.1 0)] H := hP
  have hD : va_D A [kO h0 0 [.ref h1, .ref h24, .ref h25, .int 0, .int (-1)], kO h1 8 [.ref h3, .ref h19, .ref h23, .int 0, .int 0, .int 0, .int 0, .int 0], kO h2 5 [.int 0, .int 0, .int 0, .ref h4, .ref z0, .ref z1, .ref z2, .ref z3, .ref z4, .ref z5], kO h3 6 [.int 0, .ref h6, .ref h8, .ref h10, .ref h12, .ref h14, .ref h16, .ref h18], kO h4 6 [.int 0, .ref h5, .ref h7, .ref h9, .ref h11, .ref h13, .ref h15, .ref h17], kI cI h5 24 g0, kI cI h6 24 (u_1.2.1 0), kI cI h7 24 g2, kI cI h8 24 (u_1.2.1 1), kI cI h9 24 g4, kI cI h10 24 (u_1.2.1 2), kI cI h11 24 g6, kI cI h12 24 (u_1.2.1 3), kI cI h13 25 g8, kI cI h14 25 (u_1.2.1 4), kI cI h15 24 g10, kI cI h16 24 (u_1.2.1 5), kI cI h17 24 g12, kI cI h18 24 (u_1.2.1 6), kO h19 1 [.int 0, .ref h20, .ref h21, .ref h22, .ref z6, .ref z7, .ref z8, .ref z9, .ref z10, .ref z11, .ref z12, .int 0], kI cI h20 5 (u_1.2.1 7), kI cI h21 5 (u_1.2.1 8), kI cI h22 5 (u_1.2.1 9), kO h23 3 [.int 0, .ref z13], kI cI h24 24 (u_2.2.1 0), kI cI h25 24 (u_3.2.1 0)] := hD
  refine lv_aload_n hx hb dX0_begin_30 rfl (lv_at hl 0 rfl) ?_
  refine lv_iconst (v := (-1)) hx hb dX0_begin_31 (by decide) ?_
  refine va_put (D := D) (ci := 0) (v := .int (-1)) (ty := .int) (C := RX0) (T := TX0) (N := 5) hx hb hts u_X0 tyX0 tyX0_ok nmX0 hown hE.1 hP hD hS 0 rfl rfl 4 (by decide) (hts _ w_427) (fun _ h9 => h9) rfl (by decide +kernel) rfl rfl (Nat.le_of_ble_eq_true rfl) dX0_begin_32 (fun H locs hP hD hS => ?_)
  have hP : va_P D vwCl [kO h0 0 [.ref h1, .ref h24, .ref h25, .int 0, .int (-1)], kO h1 8 [.ref h3, .ref h19, .ref h23, .int 0, .int 0, .int 0, .int 0, .int 0], kO h2 5 [.int 0, .int 0, .int 0, .ref h4, .ref z0, .ref z1, .ref z2, .ref z3, .ref z4, .ref z5], kO h3 6 [.int 0, .ref h6, .ref h8, .ref h10, .ref h12, .ref h14, .ref h16, .ref h18], kO h4 6 [.int 0, .ref h5, .ref h7, .ref h9, .ref h11, .ref h13, .ref h15, .ref h17], kI cI h5 24 g0, kI cI h6 24 (u_1.2.1 0), kI cI h7 24 g2, kI cI h8 24 (u_1.2.1 1), kI cI h9 24 g4, kI cI h10 24 (u_1.2.1 2), kI cI h11 24 g6, kI cI h12 24 (u_1.2.1 3), kI cI h13 25 g8, kI cI h14 25 (u_1.2.1 4), kI cI h15 24 g10, kI cI h16 24 (u_1.2.1 5), kI cI h17 24 g12, kI cI h18 24 (u_1.2.1 6), kO h19 1 [.int 0, .ref h20, .ref h21, .ref h22, .ref z6, .ref z7, .ref z8, .ref z9, .ref z10, .ref z11, .ref z12, .int 0], kI cI h20 5 (u_1.2.1 7), kI cI h21 5 (u_1.2.1 8), kI cI h22 5 (u_1.2.1 9), kO h23 3 [.int 0, .ref z13], kI cI h24 24 (u_2.2.1 0), kI cI h25 24 (u_3.2.1 0)] H := hP
  have hD : va_D A [kO h0 0 [.ref h1, .ref h24, .ref h25, .int 0, .int (-1)], kO h1 8 [.ref h3, .ref h19, .ref h23, .int 0, .int 0, .int 0, .int 0, .int 0], kO h2 5 [.int 0, .int 0, .int 0, .ref h4, .ref z0, .ref z1, .ref z2, .ref z3, .ref z4, .ref z5], kO h3 6 [.int 0, .ref h6, .ref h8, .ref h10, .ref h12, .ref h14, .ref h16, .ref h18], kO h4 6 [.int 0, .ref h5, .ref h7, .ref h9, .ref h11, .ref h13, .ref h15, .ref h17], kI cI h5 24 g0, kI cI h6 24 (u_1.2.1 0), kI cI h7 24 g2, kI cI h8 24 (u_1.2.1 1), kI cI h9 24 g4, kI cI h10 24 (u_1.2.1 2), kI cI h11 24 g6, kI cI h12 24 (u_1.2.1 3), kI cI h13 25 g8, kI cI h14 25 (u_1.2.1 4), kI cI h15 24 g10, kI cI h16 24 (u_1.2.1 5), kI cI h17 24 g12, kI cI h18 24 (u_1.2.1 6), kO h19 1 [.int 0, .ref h20, .ref h21, .ref h22, .ref z6, .ref z7, .ref z8, .ref z9, .ref z10, .ref z11, .ref z12, .int 0], kI cI h20 5 (u_1.2.1 7), kI cI h21 5 (u_1.2.1 8), kI cI h22 5 (u_1.2.1 9), kO h23 3 [.int 0, .ref z13], kI cI h24 24 (u_2.2.1 0), kI cI h25 24 (u_3.2.1 0)] := hD
  exact kk_ret_v ((fun i => [].getD i 0), (fun i => [(u_1.2.1 0), (u_1.2.1 1), (u_1.2.1 2), (u_1.2.1 3), (u_1.2.1 4), (u_1.2.1 5), (u_1.2.1 6), (u_1.2.1 7), (u_1.2.1 8), (u_1.2.1 9), (u_2.2.1 0), (u_3.2.1 0)].getD i (fun _ => 0)), (fun i => [].getD i (fun _ => 0)), (fun i => [].getD i 0)) hx hb hr hlocks trivial (hP.sub [0, 1, 2, 3, 4, 5, 6, 7, 8, 9, 10, 11, 12, 13, 14, 15, 16, 17, 18, 19, 20, 21, 22, 23, 24, 25] rfl) (hD.sub [0, 1, 2, 3, 4, 5, 6, 7, 8, 9, 10, 11, 12, 13, 14, 15, 16, 17, 18, 19, 20, 21, 22, 23, 24, 25] (by decide +kernel) rfl) hS dX0_begin_35 (Nat.le_of_ble_eq_true rfl) (Nat.le_of_ble_eq_true rfl)
set_option maxHeartbeats 4000000 in
set_option maxRecDepth 100000 in
theorem c_X10_text (l : Launch) (D : va_G) (cB cI cJ cD : ClassId) (h0 h1 h2 h3 h4 h5 h6 h7 h8 h9 h10 h11 h12 h13 h14 h15 h16 h17 h18 h19 h20 h21 h22 h23 h24 h25 h26 h27 h28 h29 h30 : Nat) (z0 : Nat) (z1 : Nat) (z2 : Nat) (z3 : Nat) (z4 : Nat) (z5 : Nat) (z6 : Nat) (z7 : Nat) (z8 : Nat) (z9 : Nat) (g0 : Nat → Int32) (g1 : Nat → Int32) (g2 : Nat → Int32) (g3 : Nat → Int32) (g4 : Nat → Int32) (g5 : Nat → Int32) (g6 : Nat → Int32) (g7 : Nat → Int32) (g8 : Nat → Int32) (g9 : Nat → Int32) (g10 : Nat → Int32) (g11 : Nat → Int32) (g12 : Nat → Int32) (g13 : Nat → Int32) (g14 : Nat → Int32) (z10 : Nat) (z11 : Nat) (z12 : Nat) (z13 : Nat) (z14 : Nat) (z15 : Nat) (z16 : Nat) (g15 : Nat → Int32) (g16 : Nat → Int32) (g17 : Nat → Int32) (z17 : Nat) (g18 : Nat → Int32) (g19 : Nat → Int32) (z18 : Nat) (z19 : Nat) (z20 : Nat) (z21 : Nat) (p0 : Int32) (sz : Nat) : Met l yX10_text (kk_W yX10_text cX10_text 4 (some .int)) ({ frames := 4, cells := 0, slots := 0, locals := 103 }) (va_Pc [.ref h0, .int p0] (kk_pre D cB cI cJ cD [kO h0 9 [.ref h2, .ref h30, .ref h1, .ref z0, .int 0, .ref z1, .ref h3], kO h1 2 [.ref h6, .ref h5, .int 0], kO h2 4 [.int 0, .int (-1), .ref z2, .int 0, .int 0, .int 0, .int 0, .int 0, .ref z3], kO h3 5 [.int 0, .int 0, .int 0, .ref h4, .ref z4, .ref z5, .ref z6, .ref z7, .ref z8, .ref z9], kO h4 6 [.int 0, .ref h9, .ref h11, .ref h13, .ref h15, .ref h17, .ref h19, .ref h21], kI cB h5 700 g0, kO h6 0 [.ref h7, .ref h28, .ref h29, .int 0, .int (-1)], kO h7 8 [.ref h8, .ref h23, .ref h27, .int 0, .int 0, .int 0, .int 0, .int 0], kO h8 6 [.int 0, .ref h10, .ref h12, .ref h14, .ref h16, .ref h18, .ref h20, .ref h22], kI cI h9 24 g1, kI cI h10 24 g2, kI cI h11 24 g3, kI cI h12 24 g4, kI cI h13 24 g5, kI cI h14 24 g6, kI cI h15 24 g7, kI cI h16 24 g8, kI cI h17 25 g9, kI cI h18 25 g10, kI cI h19 24 g11, kI cI h20 24 g12, kI cI h21 24 g13, kI cI h22 24 g14, kO h23 1 [.int 0, .ref h24, .ref h25, .ref h26, .ref z10, .ref z11, .ref z12, .ref z13, .ref z14, .ref z15, .ref z16, .int 0], kI cI h24 5 g15, kI cI h25 5 g16, kI cI h26 5 g17, kO h27 3 [.int 0, .ref z17], kI cI h28 24 g18, kI cI h29 24 g19, kO h30 7 [.ref z18, .int 0, .int 0, .ref z19, .ref z20, .ref z21]] sz)) (kk_Qi D (fun (r : Int32) (u : (Nat → Nat) × (Nat → Nat → Int32) × (Nat → Nat → Int64) × (Nat → Int32)) => r = if p0 = 0 then 0 else (-2)) (fun u => []) (va_A [kO h0 9 [.ref h2, .ref h30, .ref h1, .ref z0, .int 0, .ref z1, .ref h3], kO h1 2 [.ref h6, .ref h5, .int 0], kO h2 4 [.int 0, .int (-1), .ref z2, .int 0, .int 0, .int 0, .int 0, .int 0, .ref z3], kO h3 5 [.int 0, .int 0, .int 0, .ref h4, .ref z4, .ref z5, .ref z6, .ref z7, .ref z8, .ref z9], kO h4 6 [.int 0, .ref h9, .ref h11, .ref h13, .ref h15, .ref h17, .ref h19, .ref h21], kI cB h5 700 g0, kO h6 0 [.ref h7, .ref h28, .ref h29, .int 0, .int (-1)], kO h7 8 [.ref h8, .ref h23, .ref h27, .int 0, .int 0, .int 0, .int 0, .int 0], kO h8 6 [.int 0, .ref h10, .ref h12, .ref h14, .ref h16, .ref h18, .ref h20, .ref h22], kI cI h9 24 g1, kI cI h10 24 g2, kI cI h11 24 g3, kI cI h12 24 g4, kI cI h13 24 g5, kI cI h14 24 g6, kI cI h15 24 g7, kI cI h16 24 g8, kI cI h17 25 g9, kI cI h18 25 g10, kI cI h19 24 g11, kI cI h20 24 g12, kI cI h21 24 g13, kI cI h22 24 g14, kO h23 1 [.int 0, .ref h24, .ref h25, .ref h26, .ref z10, .ref z11, .ref z12, .ref z13, .ref z14, .ref z15, .ref z16, .int 0], kI cI h24 5 g15, kI cI h25 5 g16, kI cI h26 5 g17, kO h27 3 [.int 0, .ref z17], kI cI h28 24 g18, kI cI h29 24 g19, kO h30 7 [.ref z18, .int 0, .int 0, .ref z19, .ref z20, .ref z21]] sz)) 0 0 (va_A [kO h0 9 [.ref h2, .ref h30, .ref h1, .ref z0, .int 0, .ref z1, .ref h3], kO h1 2 [.ref h6, .ref h5, .int 0], kO h2 4 [.int 0, .int (-1), .ref z2, .int 0, .int 0, .int 0, .int 0, .int 0, .ref z3], kO h3 5 [.int 0, .int 0, .int 0, .ref h4, .ref z4, .ref z5, .ref z6, .ref z7, .ref z8, .ref z9], kO h4 6 [.int 0, .ref h9, .ref h11, .ref h13, .ref h15, .ref h17, .ref h19, .ref h21], kI cB h5 700 g0, kO h6 0 [.ref h7, .ref h28, .ref h29, .int 0, .int (-1)], kO h7 8 [.ref h8, .ref h23, .ref h27, .int 0, .int 0, .int 0, .int 0, .int 0], kO h8 6 [.int 0, .ref h10, .ref h12, .ref h14, .ref h16, .ref h18, .ref h20, .ref h22], kI cI h9 24 g1, kI cI h10 24 g2, kI cI h11 24 g3, kI cI h12 24 g4, kI cI h13 24 g5, kI cI h14 24 g6, kI cI h15 24 g7, kI cI h16 24 g8, kI cI h17 25 g9, kI cI h18 25 g10, kI cI h19 24 g11, kI cI h20 24 g12, kI cI h21 24 g13, kI cI h22 24 g14, kO h23 1 [.int 0, .ref h24, .ref h25, .ref h26, .ref z10, .ref z11, .ref z12, .ref z13, .ref z14, .ref z15, .ref z16, .int 0], kI cI h24 5 g15, kI cI h25 5 g16, kI cI h26 5 g17, kO h27 3 [.int 0, .ref z17], kI cI h28 24 g18, kI cI h29 24 g19, kO h30 7 [.ref z18, .int 0, .int 0, .ref z19, .ref z20, .ref z21]] sz) := by
  refine kk_start (y := yX10_text) (maxL := 4) (av := [.ref h0, .int p0]) (Qc := fun A => kk_Qi D (fun (r : Int32) (u : (Nat → Nat) × (Nat → Nat → Int32) × (Nat → Nat → Int64) × (Nat → Int32)) => r = if p0 = 0 then 0 else (-2)) (fun u => []) A) (by decide) (Nat.le_of_ble_eq_true rfl) ?_
  intro p e s m below meth c ls A hx hb hr hml hown hts hE hlocks hin hsz hP hD hA hS hl
  have hown : s.vm.findClass RX10 = some m.cls := hown
  have hl : lv_has ls 4 [(0, .ref h0), (1, .int p0)] := hl
  refine lv_iload_n hx hb dX10_text_0 rfl (lv_at hl 1 rfl) ?_
  refine lv_if_lt (tgt := 15) hx hb dX10_text_1 (by decide) (fun c_1 => ?_) (fun c_1 => ?_)
  · refine lv_bipush (v := (-2)) hx hb dX10_text_15 (by decide) ?_
    exact kk_ret_i ((fun _ => 0), (fun _ _ => 0), (fun _ _ => 0), (fun _ => 0)) hx hb hr hlocks (by first | rfl | decide | (split <;> rename_i hh <;> first | rfl | (exfalso; simp only [kk_lt, kk_le, kk_eq, Int32.reduceToInt] at hh c_1; omega))) kk_P0 kk_D0 hS dX10_text_17 (Nat.le_of_ble_eq_true rfl) (Nat.le_of_ble_eq_true rfl)
  · refine lv_iload_n hx hb dX10_text_4 rfl (lv_at hl 1 rfl) ?_
    refine lv_aload_n hx hb dX10_text_5 rfl (lv_at hl 0 rfl) ?_
    refine va_get (D := D) (ci := 9) (v := .ref h1) (C := RX10) (T := TX10) (N := 7) hx hb hts u_X10 hown hE.1 hP 0 rfl rfl 2 (by decide) (hts _ w_491) (fun _ h9 => h9) rfl dX10_text_6 ?_
    refine va_get (D := D) (ci := 2) (v := .int 0) (C := RX2) (T := TX2) (N := 3) hx hb hts u_X2 hown hE.1 hP 1 rfl rfl 2 (by decide) (hts _ w_477) (fun _ h9 => h9) rfl dX10_text_9 ?_
    refine lv_icmp_le (tgt := 18) hx hb dX10_text_12 (by decide) (fun c_2 => ?_) (fun c_2 => ?_)
    · obtain rfl : p0 = 0 := by simp only [kk_lt, kk_le, kk_eq, Int32.reduceToInt] at c_1 c_2 ⊢; omega
      refine lv_aload_n hx hb dX10_text_18 rfl (lv_at hl 0 rfl) ?_
      refine va_get (D := D) (ci := 9) (v := .ref h2) (C := RX10) (T := TX10) (N := 7) hx hb hts u_X10 hown hE.1 hP 0 rfl rfl 0 (by decide) (hts _ w_489) (fun _ h9 => h9) rfl dX10_text_19 ?_
      refine lv_aload_n hx hb dX10_text_22 rfl (lv_at hl 0 rfl) ?_
      refine va_get (D := D) (ci := 9) (v := .ref h3) (C := RX10) (T := TX10) (N := 7) hx hb hts u_X10 hown hE.1 hP 0 rfl rfl 6 (by decide) (hts _ w_495) (fun _ h9 => h9) rfl dX10_text_23 ?_
      refine lv_aload_n hx hb dX10_text_26 rfl (lv_at hl 0 rfl) ?_
      refine va_get (D := D) (ci := 9) (v := .ref h1) (C := RX10) (T := TX10) (N := 7) hx hb hts u_X10 hown hE.1 hP 0 rfl rfl 2 (by decide) (hts _ w_491) (fun _ h9 => h9) rfl dX10_text_27 ?_
      refine va_get (D := D) (ci := 2) (v := .ref h5) (C := RX2) (T := TX2) (N := 3) hx hb hts u_X2 hown hE.1 hP 1 rfl rfl 1 (by decide) (hts _ w_476) (fun _ h9 => h9) rfl dX10_text_30 ?_
      refine lv_iload_n hx hb dX10_text_33 rfl (lv_at hl 1 rfl) ?_
      refine kk_ci (wr := [kO h0 9 [.ref h2, .ref h30, .ref h1, .ref z0, .int 0, .ref z1, .ref h3], kO h1 2 [.ref h6, .ref h5, .int 0], kO h6 0 [.ref h7, .ref h28, .ref h29, .int 0, .int (-1)], kO h7 8 [.ref h8, .ref h23, .ref h27, .int 0, .int 0, .int 0, .int 0, .int 0], kO h8 6 [.int 0, .ref h10, .ref h12, .ref h14, .ref h16, .ref h18, .ref h20, .ref h22], kI cI h9 24 g1, kI cI h10 24 g2, kI cI h11 24 g3, kI cI h12 24 g4, kI cI h13 24 g5, kI cI h14 24 g6, kI cI h15 24 g7, kI cI h16 24 g8, kI cI h17 25 g9, kI cI h18 25 g10, kI cI h19 24 g11, kI cI h20 24 g12, kI cI h21 24 g13, kI cI h22 24 g14, kO h23 1 [.int 0, .ref h24, .ref h25, .ref h26, .ref z10, .ref z11, .ref z12, .ref z13, .ref z14, .ref z15, .ref z16, .int 0], kI cI h24 5 g15, kI cI h25 5 g16, kI cI h26 5 g17, kO h27 3 [.int 0, .ref z17], kI cI h28 24 g18, kI cI h29 24 g19, kO h30 7 [.ref z18, .int 0, .int 0, .ref z19, .ref z20, .ref z21]]) (kk_runV (w1 := [kO h2 4 [.int 0, .int (-1), .ref z2, .int 0, .int 0, .int 0, .int 0, .int 0, .ref z3], kO h3 5 [.int 0, .int 0, .int 0, .ref h4, .ref z4, .ref z5, .ref z6, .ref z7, .ref z8, .ref z9], kO h4 6 [.int 0, .ref h9, .ref h11, .ref h13, .ref h15, .ref h17, .ref h19, .ref h21], kI cB h5 700 g0]) (As := [.ref h3, .ref h5, .int 0]) (rest := []) hx hb hml hown hts hE (c_X5_readAll l D cB cI cJ cD h2 h3 h4 h5 z2 z3 z4 z5 z6 z7 z8 z9 h9 h11 h13 h15 h17 h19 h21 g0 s.heap.size) m_X5_readAll w_523 ⟨rfl, rfl, Nat.le_of_ble_eq_true rfl, Nat.le_of_ble_eq_true rfl⟩ (hP.sub [2, 3, 4, 5] rfl) (hD.sub [2, 3, 4, 5] (by decide +kernel) rfl) 0 4 rfl rfl rfl hl.1 (Nat.le_of_ble_eq_true rfl) dX10_text_34 ⟨Nat.le_of_ble_eq_true rfl, Nat.le_of_ble_eq_true rfl⟩) hP hD hS hA [2, 3, 4, 5] [0, 1, 6, 7, 8, 9, 10, 11, 12, 13, 14, 15, 16, 17, 18, 19, 20, 21, 22, 23, 24, 25, 26, 27, 28, 29, 30] rfl rfl (by decide +kernel) (by decide +kernel) (fun r_4 u_3 H locs p_3 hP hD hS => ?_)
      have hP : va_P D vwCl [kO h0 9 [.ref h2, .ref h30, .ref h1, .ref z0, .int 0, .ref z1, .ref h3], kO h1 2 [.ref h6, .ref h5, .int 0], kO h6 0 [.ref h7, .ref h28, .ref h29, .int 0, .int (-1)], kO h7 8 [.ref h8, .ref h23, .ref h27, .int 0, .int 0, .int 0, .int 0, .int 0], kO h8 6 [.int 0, .ref h10, .ref h12, .ref h14, .ref h16, .ref h18, .ref h20, .ref h22], kI cI h9 24 g1, kI cI h10 24 g2, kI cI h11 24 g3, kI cI h12 24 g4, kI cI h13 24 g5, kI cI h14 24 g6, kI cI h15 24 g7, kI cI h16 24 g8, kI cI h17 25 g9, kI cI h18 25 g10, kI cI h19 24 g11, kI cI h20 24 g12, kI cI h21 24 g13, kI cI h22 24 g14, kO h23 1 [.int 0, .ref h24, .ref h25, .ref h26, .ref z10, .ref z11, .ref z12, .ref z13, .ref z14, .ref z15, .ref z16, .int 0], kI cI h24 5 g15, kI cI h25 5 g16, kI cI h26 5 g17, kO h27 3 [.int 0, .ref z17], kI cI h28 24 g18, kI cI h29 24 g19, kO h30 7 [.ref z18, .int 0, .int 0, .ref z19, .ref z20, .ref z21], kO h2 4 [.int 0, .int (-1), .ref h5, .int 0, .int 0, .int 0, .int 0, .int 0, .ref h3], kO h3 5 [.int 0, .int 0, .int 0, .ref h4, .ref z4, .ref z5, .ref z6, .ref z7, .ref z8, .ref z9], kO h4 6 [.int 0, .ref h9, .ref h11, .ref h13, .ref h15, .ref h17, .ref h19, .ref h21], kI cB h5 700 g0] H := hP
      have hD : va_D A [kO h0 9 [.ref h2, .ref h30, .ref h1, .ref z0, .int 0, .ref z1, .ref h3], kO h1 2 [.ref h6, .ref h5, .int 0], kO h6 0 [.ref h7, .ref h28, .ref h29, .int 0, .int (-1)], kO h7 8 [.ref h8, .ref h23, .ref h27, .int 0, .int 0, .int 0, .int 0, .int 0], kO h8 6 [.int 0, .ref h10, .ref h12, .ref h14, .ref h16, .ref h18, .ref h20, .ref h22], kI cI h9 24 g1, kI cI h10 24 g2, kI cI h11 24 g3, kI cI h12 24 g4, kI cI h13 24 g5, kI cI h14 24 g6, kI cI h15 24 g7, kI cI h16 24 g8, kI cI h17 25 g9, kI cI h18 25 g10, kI cI h19 24 g11, kI cI h20 24 g12, kI cI h21 24 g13, kI cI h22 24 g14, kO h23 1 [.int 0, .ref h24, .ref h25, .ref h26, .ref z10, .ref z11, .ref z12, .ref z13, .ref z14, .ref z15, .ref z16, .int 0], kI cI h24 5 g15, kI cI h25 5 g16, kI cI h26 5 g17, kO h27 3 [.int 0, .ref z17], kI cI h28 24 g18, kI cI h29 24 g19, kO h30 7 [.ref z18, .int 0, .int 0, .ref z19, .ref z20, .ref z21], kO h2 4 [.int 0, .int (-1), .ref h5, .int 0, .int 0, .int 0, .int 0, .int 0, .ref h3], kO h3 5 [.int 0, .int 0, .int 0, .ref h4, .ref z4, .ref z5, .ref z6, .ref z7, .ref z8, .ref z9], kO h4 6 [.int 0, .ref h9, .ref h11, .ref h13, .ref h15, .ref h17, .ref h19, .ref h21], kI cB h5 700 g0] := hD
      obtain rfl : r_4 = 1 := p_3
      refine lv_istore_n (lv' := [(2, .int 1), (0, .ref h0), (1, .int 0)]) hx hb dX10_text_37 rfl hl (by decide) rfl (fun ls hl => ?_)
      refine lv_aload_n hx hb dX10_text_38 rfl (lv_at hl 1 rfl) ?_
      refine va_get (D := D) (ci := 9) (v := .ref h1) (C := RX10) (T := TX10) (N := 7) hx hb hts u_X10 hown hE.1 hP 0 rfl rfl 2 (by decide) (hts _ w_491) (fun _ h9 => h9) rfl dX10_text_39 ?_
      refine lv_iconst (v := 0) hx hb dX10_text_42 (by decide) ?_
      refine va_put (D := D) (ci := 2) (v := .int 0) (ty := .int) (C := RX2) (T := TX2) (N := 3) hx hb hts u_X2 tyX2 tyX2_ok nmX2 hown hE.1 hP hD hS 1 rfl rfl 2 (by decide) (hts _ w_477) (fun _ h9 => h9) rfl (by decide +kernel) rfl rfl (Nat.le_of_ble_eq_true rfl) dX10_text_43 (fun H locs hP hD hS => ?_)
      have hP : va_P D vwCl [kO h0 9 [.ref h2, .ref h30, .ref h1, .ref z0, .int 0, .ref z1, .ref h3], kO h1 2 [.ref h6, .ref h5, .int 0], kO h6 0 [.ref h7, .ref h28, .ref h29, .int 0, .int (-1)], kO h7 8 [.ref h8, .ref h23, .ref h27, .int 0, .int 0, .int 0, .int 0, .int 0], kO h8 6 [.int 0, .ref h10, .ref h12, .ref h14, .ref h16, .ref h18, .ref h20, .ref h22], kI cI h9 24 g1, kI cI h10 24 g2, kI cI h11 24 g3, kI cI h12 24 g4, kI cI h13 24 g5, kI cI h14 24 g6, kI cI h15 24 g7, kI cI h16 24 g8, kI cI h17 25 g9, kI cI h18 25 g10, kI cI h19 24 g11, kI cI h20 24 g12, kI cI h21 24 g13, kI cI h22 24 g14, kO h23 1 [.int 0, .ref h24, .ref h25, .ref h26, .ref z10, .ref z11, .ref z12, .ref z13, .ref z14, .ref z15, .ref z16, .int 0], kI cI h24 5 g15, kI cI h25 5 g16, kI cI h26 5 g17, kO h27 3 [.int 0, .ref z17], kI cI h28 24 g18, kI cI h29 24 g19, kO h30 7 [.ref z18, .int 0, .int 0, .ref z19, .ref z20, .ref z21], kO h2 4 [.int 0, .int (-1), .ref h5, .int 0, .int 0, .int 0, .int 0, .int 0, .ref h3], kO h3 5 [.int 0, .int 0, .int 0, .ref h4, .ref z4, .ref z5, .ref z6, .ref z7, .ref z8, .ref z9], kO h4 6 [.int 0, .ref h9, .ref h11, .ref h13, .ref h15, .ref h17, .ref h19, .ref h21], kI cB h5 700 g0] H := hP
      have hD : va_D A [kO h0 9 [.ref h2, .ref h30, .ref h1, .ref z0, .int 0, .ref z1, .ref h3], kO h1 2 [.ref h6, .ref h5, .int 0], kO h6 0 [.ref h7, .ref h28, .ref h29, .int 0, .int (-1)], kO h7 8 [.ref h8, .ref h23, .ref h27, .int 0, .int 0, .int 0, .int 0, .int 0], kO h8 6 [.int 0, .ref h10, .ref h12, .ref h14, .ref h16, .ref h18, .ref h20, .ref h22], kI cI h9 24 g1, kI cI h10 24 g2, kI cI h11 24 g3, kI cI h12 24 g4, kI cI h13 24 g5, kI cI h14 24 g6, kI cI h15 24 g7, kI cI h16 24 g8, kI cI h17 25 g9, kI cI h18 25 g10, kI cI h19 24 g11, kI cI h20 24 g12, kI cI h21 24 g13, kI cI h22 24 g14, kO h23 1 [.int 0, .ref h24, .ref h25, .ref h26, .ref z10, .ref z11, .ref z12, .ref z13, .ref z14, .ref z15, .ref z16, .int 0], kI cI h24 5 g15, kI cI h25 5 g16, kI cI h26 5 g17, kO h27 3 [.int 0, .ref z17], kI cI h28 24 g18, kI cI h29 24 g19, kO h30 7 [.ref z18, .int 0, .int 0, .ref z19, .ref z20, .ref z21], kO h2 4 [.int 0, .int (-1), .ref h5, .int 0, .int 0, .int 0, .int 0, .int 0, .ref h3], kO h3 5 [.int 0, .int 0, .int 0, .ref h4, .ref z4, .ref z5, .ref z6, .ref z7, .ref z8, .ref z9], kO h4 6 [.int 0, .ref h9, .ref h11, .ref h13, .ref h15, .ref h17, .ref h19, .ref h21], kI cB h5 700 g0] := hD
      refine lv_iload_n hx hb dX10_text_46 rfl (lv_at hl 0 rfl) ?_
      refine lv_if_ne (tgt := 52) hx hb dX10_text_47 (by decide) (fun _ => ?_) (fun c_5 => absurd c_5 (by decide))
      refine lv_aload_n hx hb dX10_text_52 rfl (lv_at hl 1 rfl) ?_
      refine va_get (D := D) (ci := 9) (v := .ref z1) (C := RX10) (T := TX10) (N := 7) hx hb hts u_X10 hown hE.1 hP 0 rfl rfl 5 (by decide) (hts _ w_494) (fun _ h9 => h9) rfl dX10_text_53 ?_
      refine lv_astore_n (lv' := [(3, .ref z1), (2, .int 1), (0, .ref h0), (1, .int 0)]) hx hb dX10_text_56 rfl hl (by decide) rfl (fun ls hl => ?_)
      refine lv_aload_n hx hb dX10_text_57 rfl (lv_at hl 2 rfl) ?_
      refine lv_aload_n hx hb dX10_text_58 rfl (lv_at hl 2 rfl) ?_
      refine va_get (D := D) (ci := 9) (v := .ref h3) (C := RX10) (T := TX10) (N := 7) hx hb hts u_X10 hown hE.1 hP 0 rfl rfl 6 (by decide) (hts _ w_495) (fun _ h9 => h9) rfl dX10_text_59 ?_
      refine va_put (D := D) (ci := 9) (v := .ref h3) (ty := (.object "GapLocks$Script")) (C := RX10) (T := TX10) (N := 7) hx hb hts u_X10 tyX10 tyX10_ok nmX10 hown hE.1 hP hD hS 0 rfl rfl 5 (by decide) (hts _ w_494) (fun _ h9 => h9) rfl (by decide +kernel) rfl rfl (Nat.le_of_ble_eq_true rfl) dX10_text_62 (fun H locs hP hD hS => ?_)
      have hP : va_P D vwCl [kO h0 9 [.ref h2, .ref h30, .ref h1, .ref z0, .int 0, .ref h3, .ref h3], kO h1 2 [.ref h6, .ref h5, .int 0], kO h6 0 [.ref h7, .ref h28, .ref h29, .int 0, .int (-1)], kO h7 8 [.ref h8, .ref h23, .ref h27, .int 0, .int 0, .int 0, .int 0, .int 0], kO h8 6 [.int 0, .ref h10, .ref h12, .ref h14, .ref h16, .ref h18, .ref h20, .ref h22], kI cI h9 24 g1, kI cI h10 24 g2, kI cI h11 24 g3, kI cI h12 24 g4, kI cI h13 24 g5, kI cI h14 24 g6, kI cI h15 24 g7, kI cI h16 24 g8, kI cI h17 25 g9, kI cI h18 25 g10, kI cI h19 24 g11, kI cI h20 24 g12, kI cI h21 24 g13, kI cI h22 24 g14, kO h23 1 [.int 0, .ref h24, .ref h25, .ref h26, .ref z10, .ref z11, .ref z12, .ref z13, .ref z14, .ref z15, .ref z16, .int 0], kI cI h24 5 g15, kI cI h25 5 g16, kI cI h26 5 g17, kO h27 3 [.int 0, .ref z17], kI cI h28 24 g18, kI cI h29 24 g19, kO h30 7 [.ref z18, .int 0, .int 0, .ref z19, .ref z20, .ref z21], kO h2 4 [.int 0, .int (-1), .ref h5, .int 0, .int 0, .int 0, .int 0, .int 0, .ref h3], kO h3 5 [.int 0, .int 0, .int 0, .ref h4, .ref z4, .ref z5, .ref z6, .ref z7, .ref z8, .ref z9], kO h4 6 [.int 0, .ref h9, .ref h11, .ref h13, .ref h15, .ref h17, .ref h19, .ref h21], kI cB h5 700 g0] H := hP
      have hD : va_D A [kO h0 9 [.ref h2, .ref h30, .ref h1, .ref z0, .int 0, .ref h3, .ref h3], kO h1 2 [.ref h6, .ref h5, .int 0], kO h6 0 [.ref h7, .ref h28, .ref h29, .int 0, .int (-1)], kO h7 8 [.ref h8, .ref h23, .ref h27, .int 0, .int 0, .int 0, .int 0, .int 0], kO h8 6 [.int 0, .ref h10, .ref h12, .ref h14, .ref h16, .ref h18, .ref h20, .ref h22], kI cI h9 24 g1, kI cI h10 24 g2, kI cI h11 24 g3, kI cI h12 24 g4, kI cI h13 24 g5, kI cI h14 24 g6, kI cI h15 24 g7, kI cI h16 24 g8, kI cI h17 25 g9, kI cI h18 25 g10, kI cI h19 24 g11, kI cI h20 24 g12, kI cI h21 24 g13, kI cI h22 24 g14, kO h23 1 [.int 0, .ref h24, .ref h25, .ref h26, .ref z10, .ref z11, .ref z12, .ref z13, .ref z14, .ref z15, .ref z16, .int 0], kI cI h24 5 g15, kI cI h25 5 g16, kI cI h26 5 g17, kO h27 3 [.int 0, .ref z17], kI cI h28 24 g18, kI cI h29 24 g19, kO h30 7 [.ref z18, .int 0, .int 0, .ref z19, .ref z20, .ref z21], kO h2 4 [.int 0, .int (-1), .ref h5, .int 0, .int 0, .int 0, .int 0, .int 0, .ref h3], kO h3 5 [.int 0, .int 0, .int 0, .ref h4, .ref z4, .ref z5, .ref z6, .ref z7, .ref z8, .ref z9], kO h4 6 [.int 0, .ref h9, .ref h11, .ref h13, .ref h15, .ref h17, .ref h19, .ref h21], kI cB h5 700 g0] := hD
      refine lv_aload_n hx hb dX10_text_65 rfl (lv_at hl 2 rfl) ?_
      refine lv_aload_n hx hb dX10_text_66 rfl (lv_at hl 0 rfl) ?_
      refine va_put (D := D) (ci := 9) (v := .ref z1) (ty := (.object "GapLocks$Script")) (C := RX10) (T := TX10) (N := 7) hx hb hts u_X10 tyX10 tyX10_ok nmX10 hown hE.1 hP hD hS 0 rfl rfl 6 (by decide) (hts _ w_495) (fun _ h9 => h9) rfl (by decide +kernel) rfl rfl (Nat.le_of_ble_eq_true rfl) dX10_text_67 (fun H locs hP hD hS => ?_)
      have hP : va_P D vwCl [kO h0 9 [.ref h2, .ref h30, .ref h1, .ref z0, .int 0, .ref h3, .ref z1], kO h1 2 [.ref h6, .ref h5, .int 0], kO h6 0 [.ref h7, .ref h28, .ref h29, .int 0, .int (-1)], kO h7 8 [.ref h8, .ref h23, .ref h27, .int 0, .int 0, .int 0, .int 0, .int 0], kO h8 6 [.int 0, .ref h10, .ref h12, .ref h14, .ref h16, .ref h18, .ref h20, .ref h22], kI cI h9 24 g1, kI cI h10 24 g2, kI cI h11 24 g3, kI cI h12 24 g4, kI cI h13 24 g5, kI cI h14 24 g6, kI cI h15 24 g7, kI cI h16 24 g8, kI cI h17 25 g9, kI cI h18 25 g10, kI cI h19 24 g11, kI cI h20 24 g12, kI cI h21 24 g13, kI cI h22 24 g14, kO h23 1 [.int 0, .ref h24, .ref h25, .ref h26, .ref z10, .ref z11, .ref z12, .ref z13, .ref z14, .ref z15, .ref z16, .int 0], kI cI h24 5 g15, kI cI h25 5 g16, kI cI h26 5 g17, kO h27 3 [.int 0, .ref z17], kI cI h28 24 g18, kI cI h29 24 g19, kO h30 7 [.ref z18, .int 0, .int 0, .ref z19, .ref z20, .ref z21], kO h2 4 [.int 0, .int (-1), .ref h5, .int 0, .int 0, .int 0, .int 0, .int 0, .ref h3], kO h3 5 [.int 0, .int 0, .int 0, .ref h4, .ref z4, .ref z5, .ref z6, .ref z7, .ref z8, .ref z9], kO h4 6 [.int 0, .ref h9, .ref h11, .ref h13, .ref h15, .ref h17, .ref h19, .ref h21], kI cB h5 700 g0] H := hP
      have hD : va_D A [kO h0 9 [.ref h2, .ref h30, .ref h1, .ref z0, .int 0, .ref h3, .ref z1], kO h1 2 [.ref h6, .ref h5, .int 0], kO h6 0 [.ref h7, .ref h28, .ref h29, .int 0, .int (-1)], kO h7 8 [.ref h8, .ref h23, .ref h27, .int 0, .int 0, .int 0, .int 0, .int 0], kO h8 6 [.int 0, .ref h10, .ref h12, .ref h14, .ref h16, .ref h18, .ref h20, .ref h22], kI cI h9 24 g1, kI cI h10 24 g2, kI cI h11 24 g3, kI cI h12 24 g4, kI cI h13 24 g5, kI cI h14 24 g6, kI cI h15 24 g7, kI cI h16 24 g8, kI cI h17 25 g9, kI cI h18 25 g10, kI cI h19 24 g11, kI cI h20 24 g12, kI cI h21 24 g13, kI cI h22 24 g14, kO h23 1 [.int 0, .ref h24, .ref h25, .ref h26, .ref z10, .ref z11, .ref z12, .ref z13, .ref z14, .ref z15, .ref z16, .int 0], kI cI h24 5 g15, kI cI h25 5 g16, kI cI h26 5 g17, kO h27 3 [.int 0, .ref z17], kI cI h28 24 g18, kI cI h29 24 g19, kO h30 7 [.ref z18, .int 0, .int 0, .ref z19, .ref z20, .ref z21], kO h2 4 [.int 0, .int (-1), .ref h5, .int 0, .int 0, .int 0, .int 0, .int 0, .ref h3], kO h3 5 [.int 0, .int 0, .int 0, .ref h4, .ref z4, .ref z5, .ref z6, .ref z7, .ref z8, .ref z9], kO h4 6 [.int 0, .ref h9, .ref h11, .ref h13, .ref h15, .ref h17, .ref h19, .ref h21], kI cB h5 700 g0] := hD
      refine lv_aload_n hx hb dX10_text_70 rfl (lv_at hl 2 rfl) ?_
      refine va_get (D := D) (ci := 9) (v := .ref h1) (C := RX10) (T := TX10) (N := 7) hx hb hts u_X10 hown hE.1 hP 0 rfl rfl 2 (by decide) (hts _ w_491) (fun _ h9 => h9) rfl dX10_text_71 ?_
      refine va_get (D := D) (ci := 2) (v := .ref h6) (C := RX2) (T := TX2) (N := 3) hx hb hts u_X2 hown hE.1 hP 1 rfl rfl 0 (by decide) (hts _ w_474) (fun _ h9 => h9) rfl dX10_text_74 ?_
      refine lv_aload_n hx hb dX10_text_77 rfl (lv_at hl 2 rfl) ?_
      refine va_get (D := D) (ci := 9) (v := .ref h3) (C := RX10) (T := TX10) (N := 7) hx hb hts u_X10 hown hE.1 hP 0 rfl rfl 5 (by decide) (hts _ w_494) (fun _ h9 => h9) rfl dX10_text_78 ?_
      refine kk_cv (wr := [kO h0 9 [.ref h2, .ref h30, .ref h1, .ref z0, .int 0, .ref h3, .ref z1], kO h1 2 [.ref h6, .ref h5, .int 0], kO h30 7 [.ref z18, .int 0, .int 0, .ref z19, .ref z20, .ref z21], kO h2 4 [.int 0, .int (-1), .ref h5, .int 0, .int 0, .int 0, .int 0, .int 0, .ref h3], kI cB h5 700 g0]) (kk_runV (w1 := [kO h6 0 [.ref h7, .ref h28, .ref h29, .int 0, .int (-1)], kO h7 8 [.ref h8, .ref h23, .ref h27, .int 0, .int 0, .int 0, .int 0, .int 0], kO h3 5 [.int 0, .int 0, .int 0, .ref h4, .ref z4, .ref z5, .ref z6, .ref z7, .ref z8, .ref z9], kO h8 6 [.int 0, .ref h10, .ref h12, .ref h14, .ref h16, .ref h18, .ref h20, .ref h22], kO h4 6 [.int 0, .ref h9, .ref h11, .ref h13, .ref h15, .ref h17, .ref h19, .ref h21], kI cI h9 24 g1, kI cI h10 24 g2, kI cI h11 24 g3, kI cI h12 24 g4, kI cI h13 24 g5, kI cI h14 24 g6, kI cI h15 24 g7, kI cI h16 24 g8, kI cI h17 25 g9, kI cI h18 25 g10, kI cI h19 24 g11, kI cI h20 24 g12, kI cI h21 24 g13, kI cI h22 24 g14, kO h23 1 [.int 0, .ref h24, .ref h25, .ref h26, .ref z10, .ref z11, .ref z12, .ref z13, .ref z14, .ref z15, .ref z16, .int 0], kI cI h24 5 g15, kI cI h25 5 g16, kI cI h26 5 g17, kO h27 3 [.int 0, .ref z17], kI cI h28 24 g18, kI cI h29 24 g19]) (As := [.ref h3]) (rest := []) hx hb hml hown hts hE (c_X0_begin l D cB cI cJ cD h6 h7 h3 h8 h4 h9 h10 h11 h12 h13 h14 h15 h16 h17 h18 h19 h20 h21 h22 h23 h24 h25 h26 h27 h28 h29 z4 z5 z6 z7 z8 z9 g1 g2 g3 g4 g5 g6 g7 g8 g9 g10 g11 g12 g13 g14 z10 z11 z12 z13 z14 z15 z16 g15 g16 g17 z17 g18 g19 H.size) m_X0_begin w_629 ⟨rfl, rfl, Nat.le_of_ble_eq_true rfl, Nat.le_of_ble_eq_true rfl⟩ (hP.sub [2, 3, 28, 4, 29, 5, 6, 7, 8, 9, 10, 11, 12, 13, 14, 15, 16, 17, 18, 19, 20, 21, 22, 23, 24, 25] rfl) (hD.sub [2, 3, 28, 4, 29, 5, 6, 7, 8, 9, 10, 11, 12, 13, 14, 15, 16, 17, 18, 19, 20, 21, 22, 23, 24, 25] (by decide +kernel) rfl) 0 0 rfl rfl rfl hl.1 (Nat.le_of_ble_eq_true rfl) dX10_text_81 ⟨Nat.le_of_ble_eq_true rfl, Nat.le_of_ble_eq_true rfl⟩) hP hD hS hA [2, 3, 28, 4, 29, 5, 6, 7, 8, 9, 10, 11, 12, 13, 14, 15, 16, 17, 18, 19, 20, 21, 22, 23, 24, 25] [0, 1, 26, 27, 30] rfl rfl (by decide +kernel) (by decide +kernel) (fun u_6 H locs p_6 hP hD hS => ?_)
      have hP : va_P D vwCl [kO h0 9 [.ref h2, .ref h30, .ref h1, .ref z0, .int 0, .ref h3, .ref z1], kO h1 2 [.ref h6, .ref h5, .int 0], kO h30 7 [.ref z18, .int 0, .int 0, .ref z19, .ref z20, .ref z21], kO h2 4 [.int 0, .int (-1), .ref h5, .int 0, .int 0, .int 0, .int 0, .int 0, .ref h3], kI cB h5 700 g0, kO h6 0 [.ref h7, .ref h28, .ref h29, .int 0, .int (-1)], kO h7 8 [.ref h8, .ref h23, .ref h27, .int 0, .int 0, .int 0, .int 0, .int 0], kO h3 5 [.int 0, .int 0, .int 0, .ref h4, .ref z4, .ref z5, .ref z6, .ref z7, .ref z8, .ref z9], kO h8 6 [.int 0, .ref h10, .ref h12, .ref h14, .ref h16, .ref h18, .ref h20, .ref h22], kO h4 6 [.int 0, .ref h9, .ref h11, .ref h13, .ref h15, .ref h17, .ref h19, .ref h21], kI cI h9 24 g1, kI cI h10 24 (u_6.2.1 0), kI cI h11 24 g3, kI cI h12 24 (u_6.2.1 1), kI cI h13 24 g5, kI cI h14 24 (u_6.2.1 2), kI cI h15 24 g7, kI cI h16 24 (u_6.2.1 3), kI cI h17 25 g9, kI cI h18 25 (u_6.2.1 4), kI cI h19 24 g11, kI cI h20 24 (u_6.2.1 5), kI cI h21 24 g13, kI cI h22 24 (u_6.2.1 6), kO h23 1 [.int 0, .ref h24, .ref h25, .ref h26, .ref z10, .ref z11, .ref z12, .ref z13, .ref z14, .ref z15, .ref z16, .int 0], kI cI h24 5 (u_6.2.1 7), kI cI h25 5 (u_6.2.1 8), kI cI h26 5 (u_6.2.1 9), kO h27 3 [.int 0, .ref z17], kI cI h28 24 (u_6.2.1 10), kI cI h29 24 (u_6.2.1 11)] H := hP
      have hD : va_D A [kO h0 9 [.ref h2, .ref h30, .ref h1, .ref z0, .int 0, .ref h3, .ref z1], kO h1 2 [.ref h6, .ref h5, .int 0], kO h30 7 [.ref z18, .int 0, .int 0, .ref z19, .ref z20, .ref z21], kO h2 4 [.int 0, .int (-1), .ref h5, .int 0, .int 0, .int 0, .int 0, .int 0, .ref h3], kI cB h5 700 g0, kO h6 0 [.ref h7, .ref h28, .ref h29, .int 0, .int (-1)], kO h7 8 [.ref h8, .ref h23, .ref h27, .int 0, .int 0, .int 0, .int 0, .int 0], kO h3 5 [.int 0, .int 0, .int 0, .ref h4, .ref z4, .ref z5, .ref z6, .ref z7, .ref z8, .ref z9], kO h8 6 [.int 0, .ref h10, .ref h12, .ref h14, .ref h16, .ref h18, .ref h20, .ref h22], kO h4 6 [.int 0, .ref h9, .ref h11, .ref h13, .ref h15, .ref h17, .ref h19, .ref h21], kI cI h9 24 g1, kI cI h10 24 (u_6.2.1 0), kI cI h11 24 g3, kI cI h12 24 (u_6.2.1 1), kI cI h13 24 g5, kI cI h14 24 (u_6.2.1 2), kI cI h15 24 g7, kI cI h16 24 (u_6.2.1 3), kI cI h17 25 g9, kI cI h18 25 (u_6.2.1 4), kI cI h19 24 g11, kI cI h20 24 (u_6.2.1 5), kI cI h21 24 g13, kI cI h22 24 (u_6.2.1 6), kO h23 1 [.int 0, .ref h24, .ref h25, .ref h26, .ref z10, .ref z11, .ref z12, .ref z13, .ref z14, .ref z15, .ref z16, .int 0], kI cI h24 5 (u_6.2.1 7), kI cI h25 5 (u_6.2.1 8), kI cI h26 5 (u_6.2.1 9), kO h27 3 [.int 0, .ref z17], kI cI h28 24 (u_6.2.1 10), kI cI h29 24 (u_6.2.1 11)] := hD
      refine lv_aload_n hx hb dX10_text_84 rfl (lv_at hl 2 rfl) ?_
      refine lv_iconst (v := 0) hx hb dX10_text_85 (by decide) ?_
      refine va_put (D := D) (ci := 9) (v := .int 0) (ty := .int) (C := RX10) (T := TX10) (N := 7) hx hb hts u_X10 tyX10 tyX10_ok nmX10 hown hE.1 hP hD hS 0 rfl rfl 4 (by decide) (hts _ w_493) (fun _ h9 => h9) rfl (by decide +kernel) rfl rfl (Nat.le_of_ble_eq_true rfl) dX10_text_86 (fun H locs hP hD hS => ?_)
      have hP : va_P D vwCl [kO h0 9 [.ref h2, .ref h30, .ref h1, .ref z0, .int 0, .ref h3, .ref z1], kO h1 2 [.ref h6, .ref h5, .int 0], kO h30 7 [.ref z18, .int 0, .int 0, .ref z19, .ref z20, .ref z21], kO h2 4 [.int 0, .int (-1), .ref h5, .int 0, .int 0, .int 0, .int 0, .int 0, .ref h3], kI cB h5 700 g0, kO h6 0 [.ref h7, .ref h28, .ref h29, .int 0, .int (-1)], kO h7 8 [.ref h8, .ref h23, .ref h27, .int 0, .int 0, .int 0, .int 0, .int 0], kO h3 5 [.int 0, .int 0, .int 0, .ref h4, .ref z4, .ref z5, .ref z6, .ref z7, .ref z8, .ref z9], kO h8 6 [.int 0, .ref h10, .ref h12, .ref h14, .ref h16, .ref h18, .ref h20, .ref h22], kO h4 6 [.int 0, .ref h9, .ref h11, .ref h13, .ref h15, .ref h17, .ref h19, .ref h21], kI cI h9 24 g1, kI cI h10 24 (u_6.2.1 0), kI cI h11 24 g3, kI cI h12 24 (u_6.2.1 1), kI cI h13 24 g5, kI cI h14 24 (u_6.2.1 2), kI cI h15 24 g7, kI cI h16 24 (u_6.2.1 3), kI cI h17 25 g9, kI cI h18 25 (u_6.2.1 4), kI cI h19 24 g11, kI cI h20 24 (u_6.2.1 5), kI cI h21 24 g13, kI cI h22 24 (u_6.2.1 6), kO h23 1 [.int 0, .ref h24, .ref h25, .ref h26, .ref z10, .ref z11, .ref z12, .ref z13, .ref z14, .ref z15, .ref z16, .int 0], kI cI h24 5 (u_6.2.1 7), kI cI h25 5 (u_6.2.1 8), kI cI h26 5 (u_6.2.1 9), kO h27 3 [.int 0, .ref z17], kI cI h28 24 (u_6.2.1 10), kI cI h29 24 (u_6.2.1 11)] H := hP
      have hD : va_D A [kO h0 9 [.ref h2, .ref h30, .ref h1, .ref z0, .int 0, .ref h3, .ref z1], kO h1 2 [.ref h6, .ref h5, .int 0], kO h30 7 [.ref z18, .int 0, .int 0, .ref z19, .ref z20, .ref z21], kO h2 4 [.int 0, .int (-1), .ref h5, .int 0, .int 0, .int 0, .int 0, .int 0, .ref h3], kI cB h5 700 g0, kO h6 0 [.ref h7, .ref h28, .ref h29, .int 0, .int (-1)], kO h7 8 [.ref h8, .ref h23, .ref h27, .int 0, .int 0, .int 0, .int 0, .int 0], kO h3 5 [.int 0, .int 0, .int 0, .ref h4, .ref z4, .ref z5, .ref z6, .ref z7, .ref z8, .ref z9], kO h8 6 [.int 0, .ref h10, .ref h12, .ref h14, .ref h16, .ref h18, .ref h20, .ref h22], kO h4 6 [.int 0, .ref h9, .ref h11, .ref h13, .ref h15, .ref h17, .ref h19, .ref h21], kI cI h9 24 g1, kI cI h10 24 (u_6.2.1 0), kI cI h11 24 g3, kI cI h12 24 (u_6.2.1 1), kI cI h13 24 g5, kI cI h14 24 (u_6.2.1 2), kI cI h15 24 g7, kI cI h16 24 (u_6.2.1 3), kI cI h17 25 g9, kI cI h18 25 (u_6.2.1 4), kI cI h19 24 g11, kI cI h20 24 (u_6.2.1 5), kI cI h21 24 g13, kI cI h22 24 (u_6.2.1 6), kO h23 1 [.int 0, .ref h24, .ref h25, .ref h26, .ref z10, .ref z11, .ref z12, .ref z13, .ref z14, .ref z15, .ref z16, .int 0], kI cI h24 5 (u_6.2.1 7), kI cI h25 5 (u_6.2.1 8), kI cI h26 5 (u_6.2.1 9), kO h27 3 [.int 0, .ref z17], kI cI h28 24 (u_6.2.1 10), kI cI h29 24 (u_6.2.1 11)] := hD
      refine lv_aload_n hx hb dX10_text_89 rfl (lv_at hl 2 rfl) ?_
      refine va_get (D := D) (ci := 9) (v := .ref h30) (C := RX10) (T := TX10) (N := 7) hx hb hts u_X10 hown hE.1 hP 0 rfl rfl 1 (by decide) (hts _ w_490) (fun _ h9 => h9) rfl dX10_text_90 ?_
      refine lv_iconst (v := 0) hx hb dX10_text_93 (by decide) ?_
      refine va_put (D := D) (ci := 7) (v := .int 0) (ty := .boolean) (C := RX8) (T := TX8) (N := 6) hx hb hts u_X8 tyX8 tyX8_ok nmX8 hown hE.1 hP hD hS 2 rfl rfl 1 (by decide) (hts _ w_444) (fun _ h9 => h9) rfl (by decide +kernel) rfl rfl (Nat.le_of_ble_eq_true rfl) dX10_text_94 (fun H locs hP hD hS => ?_)
      have hP : va_P D vwCl [kO h0 9 [.ref h2, .ref h30, .ref h1, .ref z0, .int 0, .ref h3, .ref z1], kO h1 2 [.ref h6, .ref h5, .int 0], kO h30 7 [.ref z18, .int 0, .int 0, .ref z19, .ref z20, .ref z21], kO h2 4 [.int 0, .int (-1), .ref h5, .int 0, .int 0, .int 0, .int 0, .int 0, .ref h3], kI cB h5 700 g0, kO h6 0 [.ref h7, .ref h28, .ref h29, .int 0, .int (-1)], kO h7 8 [.ref h8, .ref h23, .ref h27, .int 0, .int 0, .int 0, .int 0, .int 0], kO h3 5 [.int 0, .int 0, .int 0, .ref h4, .ref z4, .ref z5, .ref z6, .ref z7, .ref z8, .ref z9], kO h8 6 [.int 0, .ref h10, .ref h12, .ref h14, .ref h16, .ref h18, .ref h20, .ref h22], kO h4 6 [.int 0, .ref h9, .ref h11, .ref h13, .ref h15, .ref h17, .ref h19, .ref h21], kI cI h9 24 g1, kI cI h10 24 (u_6.2.1 0), kI cI h11 24 g3, kI cI h12 24 (u_6.2.1 1), kI cI h13 24 g5, kI cI h14 24 (u_6.2.1 2), kI cI h15 24 g7, kI cI h16 24 (u_6.2.1 3), kI cI h17 25 g9, kI cI h18 25 (u_6.2.1 4), kI cI h19 24 g11, kI cI h20 24 (u_6.2.1 5), kI cI h21 24 g13, kI cI h22 24 (u_6.2.1 6), kO h23 1 [.int 0, .ref h24, .ref h25, .ref h26, .ref z10, .ref z11, .ref z12, .ref z13, .ref z14, .ref z15, .ref z16, .int 0], kI cI h24 5 (u_6.2.1 7), kI cI h25 5 (u_6.2.1 8), kI cI h26 5 (u_6.2.1 9), kO h27 3 [.int 0, .ref z17], kI cI h28 24 (u_6.2.1 10), kI cI h29 24 (u_6.2.1 11)] H := hP
      have hD : va_D A [kO h0 9 [.ref h2, .ref h30, .ref h1, .ref z0, .int 0, .ref h3, .ref z1], kO h1 2 [.ref h6, .ref h5, .int 0], kO h30 7 [.ref z18, .int 0, .int 0, .ref z19, .ref z20, .ref z21], kO h2 4 [.int 0, .int (-1), .ref h5, .int 0, .int 0, .int 0, .int 0, .int 0, .ref h3], kI cB h5 700 g0, kO h6 0 [.ref h7, .ref h28, .ref h29, .int 0, .int (-1)], kO h7 8 [.ref h8, .ref h23, .ref h27, .int 0, .int 0, .int 0, .int 0, .int 0], kO h3 5 [.int 0, .int 0, .int 0, .ref h4, .ref z4, .ref z5, .ref z6, .ref z7, .ref z8, .ref z9], kO h8 6 [.int 0, .ref h10, .ref h12, .ref h14, .ref h16, .ref h18, .ref h20, .ref h22], kO h4 6 [.int 0, .ref h9, .ref h11, .ref h13, .ref h15, .ref h17, .ref h19, .ref h21], kI cI h9 24 g1, kI cI h10 24 (u_6.2.1 0), kI cI h11 24 g3, kI cI h12 24 (u_6.2.1 1), kI cI h13 24 g5, kI cI h14 24 (u_6.2.1 2), kI cI h15 24 g7, kI cI h16 24 (u_6.2.1 3), kI cI h17 25 g9, kI cI h18 25 (u_6.2.1 4), kI cI h19 24 g11, kI cI h20 24 (u_6.2.1 5), kI cI h21 24 g13, kI cI h22 24 (u_6.2.1 6), kO h23 1 [.int 0, .ref h24, .ref h25, .ref h26, .ref z10, .ref z11, .ref z12, .ref z13, .ref z14, .ref z15, .ref z16, .int 0], kI cI h24 5 (u_6.2.1 7), kI cI h25 5 (u_6.2.1 8), kI cI h26 5 (u_6.2.1 9), kO h27 3 [.int 0, .ref z17], kI cI h28 24 (u_6.2.1 10), kI cI h29 24 (u_6.2.1 11)] := hD
      refine lv_aload_n hx hb dX10_text_97 rfl (lv_at hl 2 rfl) ?_
      refine va_get (D := D) (ci := 9) (v := .ref h3) (C := RX10) (T := TX10) (N := 7) hx hb hts u_X10 hown hE.1 hP 0 rfl rfl 5 (by decide) (hts _ w_494) (fun _ h9 => h9) rfl dX10_text_98 ?_
      refine va_get (D := D) (ci := 5) (v := .int 0) (C := RX6) (T := TX6) (N := 10) hx hb hts u_X6 hown hE.1 hP 7 rfl rfl 0 (by decide) (hts _ w_205) (fun _ h9 => h9) rfl dX10_text_101 ?_
      exact kk_ret_i ((fun _ => 0), (fun _ _ => 0), (fun _ _ => 0), (fun _ => 0)) hx hb hr hlocks (by first | rfl | decide | (split <;> rename_i hh <;> first | rfl | (exfalso; simp only [kk_lt, kk_le, kk_eq, Int32.reduceToInt] at hh ; omega))) kk_P0 kk_D0 hS dX10_text_104 (Nat.le_of_ble_eq_true rfl) (Nat.le_of_ble_eq_true rfl)
    · refine lv_bipush (v := (-2)) hx hb dX10_text_15 (by decide) ?_
      exact kk_ret_i ((fun _ => 0), (fun _ _ => 0), (fun _ _ => 0), (fun _ => 0)) hx hb hr hlocks (by first | rfl | decide | (split <;> rename_i hh <;> first | rfl | (exfalso; simp only [kk_lt, kk_le, kk_eq, Int32.reduceToInt] at hh c_1 c_2; omega))) kk_P0 kk_D0 hS dX10_text_17 (Nat.le_of_ble_eq_true rfl) (Nat.le_of_ble_eq_true rfl)
set_option maxHeartbeats 4000000 in
set_option maxRecDepth 100000 in
theorem c_X10_fault (l : Launch) (D : va_G) (cB cI cJ cD : ClassId) (h0 h1 : Nat) (z0 : Nat) (z1 : Nat) (z2 : Nat) (z3 : Nat) (z4 : Nat) (z5 : Nat) (z6 : Nat) (p0 : Int32) (sz : Nat) : Met l yX10_fault (kk_W yX10_fault cX10_fault 2 (some .int)) ({ frames := 0, cells := 0, slots := 0, locals := 0 }) (va_Pc [.ref h0, .int p0] (kk_pre D cB cI cJ cD [kO h0 9 [.ref h1, .ref z0, .ref z1, .ref z2, .int 0, .ref z3, .ref z4], kO h1 4 [.int 0, .int (-1), .ref z5, .int 0, .int 0, .int 0, .int 0, .int 0, .ref z6]] sz)) (vp_Si (fun r => r = if p0 = 0 then 0 else (-1))) 0 0 (fun _ => False) := by
  refine kk_pstart (y := yX10_fault) (maxL := 2) (av := [.ref h0, .int p0]) (by decide) (Nat.le_of_ble_eq_true rfl) ?_
  intro p e s m below meth c ls hx hb hr hml hown hts hE hlocks hsz hP hD hl
  have hown : s.vm.findClass RX10 = some m.cls := hown
  have hl : lv_has ls 2 [(0, .ref h0), (1, .int p0)] := hl
  refine lv_iload_n hx hb dX10_fault_0 rfl (lv_at hl 1 rfl) ?_
  refine lv_if_ne (tgt := 12) hx hb dX10_fault_1 (by decide) (fun c_1 => ?_) (fun c_1 => ?_)
  · refine lv_iload_n hx hb dX10_fault_12 rfl (lv_at hl 1 rfl) ?_
    refine lv_iconst (v := 1) hx hb dX10_fault_13 (by decide) ?_
    refine lv_icmp_ne (tgt := 27) hx hb dX10_fault_14 (by decide) (fun c_2 => ?_) (fun c_2 => ?_)
    · refine lv_iconst (v := (-1)) hx hb dX10_fault_27 (by decide) ?_
      exact kk_pret_i hx hb hr hlocks (by first | rfl | decide | (split <;> rename_i hh <;> first | rfl | (exfalso; simp only [kk_lt, kk_le, kk_eq, Int32.reduceToInt] at hh c_1 c_2; omega))) dX10_fault_28
    · refine lv_aload_n hx hb dX10_fault_17 rfl (lv_at hl 0 rfl) ?_
      refine va_get (D := D) (ci := 9) (v := .ref h1) (C := RX10) (T := TX10) (N := 7) hx hb hts u_X10 hown hE.1 hP 0 rfl rfl 0 (by decide) (hts _ w_489) (fun _ h9 => h9) rfl dX10_fault_18 ?_
      refine va_get (D := D) (ci := 4) (v := .int (-1)) (C := RX5) (T := TX5) (N := 9) hx hb hts u_X5 hown hE.1 hP 1 rfl rfl 1 (by decide) (hts _ w_259) (fun _ h9 => h9) rfl dX10_fault_21 ?_
      refine lv_goto (tgt := 28) hx hb dX10_fault_24 (by decide) ?_
      exact kk_pret_i hx hb hr hlocks (by first | rfl | decide | (split <;> rename_i hh <;> first | rfl | (exfalso; simp only [kk_lt, kk_le, kk_eq, Int32.reduceToInt] at hh c_1 c_2; omega))) dX10_fault_28
  · refine lv_aload_n hx hb dX10_fault_4 rfl (lv_at hl 0 rfl) ?_
    refine va_get (D := D) (ci := 9) (v := .ref h1) (C := RX10) (T := TX10) (N := 7) hx hb hts u_X10 hown hE.1 hP 0 rfl rfl 0 (by decide) (hts _ w_489) (fun _ h9 => h9) rfl dX10_fault_5 ?_
    refine va_get (D := D) (ci := 4) (v := .int 0) (C := RX5) (T := TX5) (N := 9) hx hb hts u_X5 hown hE.1 hP 1 rfl rfl 0 (by decide) (hts _ w_257) (fun _ h9 => h9) rfl dX10_fault_8 ?_
    exact kk_pret_i hx hb hr hlocks (by first | rfl | decide | (split <;> rename_i hh <;> first | rfl | (exfalso; simp only [kk_lt, kk_le, kk_eq, Int32.reduceToInt] at hh c_1; omega))) dX10_fault_11
set_option maxHeartbeats 4000000 in
set_option maxRecDepth 100000 in
theorem c_X6_handNamed (l : Launch) (D : va_G) (cB cI cJ cD : ClassId) (h0 : Nat) (z0 : Nat) (z1 : Nat) (z2 : Nat) (z3 : Nat) (z4 : Nat) (z5 : Nat) (z6 : Nat) (p0 : Int32) (sz : Nat) : Met l yX6_handNamed (kk_W yX6_handNamed cX6_handNamed 3 (some .int)) ({ frames := 0, cells := 0, slots := 0, locals := 0 }) (va_Pc [.ref h0, .int p0] (kk_pre D cB cI cJ cD [kO h0 5 [.int 0, .int 0, .int 0, .ref z0, .ref z1, .ref z2, .ref z3, .ref z4, .ref z5, .ref z6]] sz)) (vp_Si (fun r => r = (-1))) 0 0 (fun _ => False) := by
  refine kk_pstart (y := yX6_handNamed) (maxL := 3) (av := [.ref h0, .int p0]) (by decide) (Nat.le_of_ble_eq_true rfl) ?_
  intro p e s m below meth c ls hx hb hr hml hown hts hE hlocks hsz hP hD hl
  have hown : s.vm.findClass RX6 = some m.cls := hown
  have hl : lv_has ls 3 [(0, .ref h0), (1, .int p0)] := hl
  refine lv_iconst (v := 0) hx hb dX6_handNamed_0 (by decide) ?_
  refine lv_istore_n (lv' := [(2, .int 0), (0, .ref h0), (1, .int p0)]) hx hb dX6_handNamed_1 rfl hl (by decide) rfl (fun ls hl => ?_)
  refine lv_iload_n hx hb dX6_handNamed_2 rfl (lv_at hl 0 rfl) ?_
  refine lv_aload_n hx hb dX6_handNamed_3 rfl (lv_at hl 1 rfl) ?_
  refine va_get (D := D) (ci := 5) (v := .int 0) (C := RX6) (T := TX6) (N := 10) hx hb hts u_X6 hown hE.1 hP 0 rfl rfl 1 (by decide) (hts _ w_206) (fun _ h9 => h9) rfl dX6_handNamed_4 ?_
  refine lv_icmp_ge (tgt := 28) hx hb dX6_handNamed_7 (by decide) (fun _ => ?_) (fun c_1 => absurd c_1 (by decide))
  refine lv_iconst (v := (-1)) hx hb dX6_handNamed_28 (by decide) ?_
  exact kk_pret_i hx hb hr hlocks rfl dX6_handNamed_29
set_option maxHeartbeats 4000000 in
set_option maxRecDepth 100000 in
theorem c_X10_named (l : Launch) (D : va_G) (cB cI cJ cD : ClassId) (h0 h1 : Nat) (z0 : Nat) (z1 : Nat) (z2 : Nat) (z3 : Nat) (z4 : Nat) (z5 : Nat) (z6 : Nat) (z7 : Nat) (z8 : Nat) (z9 : Nat) (z10 : Nat) (z11 : Nat) (p0 : Int32) (sz : Nat) : Met l yX10_named (kk_W yX10_named cX10_named 2 (some .int)) ({ frames := 1, cells := 0, slots := 0, locals := 22 }) (va_Pc [.ref h0, .int p0] (kk_pre D cB cI cJ cD [kO h0 9 [.ref z0, .ref z1, .ref z2, .ref z3, .int 0, .ref h1, .ref z4], kO h1 5 [.int 0, .int 0, .int 0, .ref z5, .ref z6, .ref z7, .ref z8, .ref z9, .ref z10, .ref z11]] sz)) (vp_Si (fun r => r = (-1))) 0 0 (fun _ => False) := by
  refine kk_pstart (y := yX10_named) (maxL := 2) (av := [.ref h0, .int p0]) (by decide) (Nat.le_of_ble_eq_true rfl) ?_
  intro p e s m below meth c ls hx hb hr hml hown hts hE hlocks hsz hP hD hl
  have hown : s.vm.findClass RX10 = some m.cls := hown
  have hl : lv_has ls 2 [(0, .ref h0), (1, .int p0)] := hl
  refine lv_aload_n hx hb dX10_named_0 rfl (lv_at hl 0 rfl) ?_
  refine va_get (D := D) (ci := 9) (v := .ref h1) (C := RX10) (T := TX10) (N := 7) hx hb hts u_X10 hown hE.1 hP 0 rfl rfl 5 (by decide) (hts _ w_494) (fun _ h9 => h9) rfl dX10_named_1 ?_
  refine lv_iload_n hx hb dX10_named_4 rfl (lv_at hl 1 rfl) ?_
  refine kk_pi (kk_runV (w1 := [kO h1 5 [.int 0, .int 0, .int 0, .ref z5, .ref z6, .ref z7, .ref z8, .ref z9, .ref z10, .ref z11]]) (As := [.int p0]) (rest := []) hx hb hml hown hts hE (c_X6_handNamed l D cB cI cJ cD h1 z5 z6 z7 z8 z9 z10 z11 p0 s.heap.size) m_X6_handNamed w_660 ⟨rfl, rfl, Nat.le_of_ble_eq_true rfl, Nat.le_of_ble_eq_true rfl⟩ (hP.sub [1] rfl) (hD.sub [1] (by decide +kernel) rfl) 0 5 rfl rfl rfl hl.1 (Nat.le_of_ble_eq_true rfl) dX10_named_5 ⟨Nat.le_of_ble_eq_true rfl, Nat.le_of_ble_eq_true rfl⟩) (fun r_1 p_1 => ?_)
  obtain rfl : r_1 = (-1) := p_1
  exact kk_pret_i hx hb hr hlocks rfl dX10_named_8
set_option maxHeartbeats 4000000 in
set_option maxRecDepth 100000 in
theorem c_X10_bits (l : Launch) (D : va_G) (cB cI cJ cD : ClassId) (h0 : Nat) (z0 : Nat) (z1 : Nat) (z2 : Nat) (z3 : Nat) (z4 : Nat) (z5 : Nat) (p0 : Int32) (p1 : Int32) (sz : Nat) : Met l yX10_bits (kk_W yX10_bits cX10_bits 3 (some .int)) ({ frames := 2, cells := 0, slots := 0, locals := 45 }) (va_Pc [.ref h0, .int p0, .int p1] (kk_pre D cB cI cJ cD [kO h0 9 [.ref z0, .ref z1, .ref z2, .ref z3, .int 0, .ref z4, .ref z5]] sz)) (vp_Si (fun r => r = kb p0 p1)) 0 0 (fun _ => False) := by
  refine kk_pstart (y := yX10_bits) (maxL := 3) (av := [.ref h0, .int p0, .int p1]) (by decide) (Nat.le_of_ble_eq_true rfl) ?_
  intro p e s m below meth c ls hx hb hr hml hown hts hE hlocks hsz hP hD hl
  have hown : s.vm.findClass RX10 = some m.cls := hown
  have hl : lv_has ls 3 [(0, .ref h0), (1, .int p0), (2, .int p1)] := hl
  refine lv_iload_n hx hb dX10_bits_0 rfl (lv_at hl 1 rfl) ?_
  refine lv_iload_n hx hb dX10_bits_1 rfl (lv_at hl 2 rfl) ?_
  refine kk_pi (kk_runS (w1 := []) (As := [.int p0, .int p1]) (rest := []) hx hb hml hown hts hE (c_X4_keyBits l D cB cI cJ cD p0 p1 s.heap.size) m_X4_keyBits w_665 ⟨rfl, rfl, Nat.le_of_ble_eq_true rfl, Nat.le_of_ble_eq_true rfl⟩ (hP.sub [] rfl) (hD.sub [] (by decide +kernel) rfl) rfl hl.1 (Nat.le_of_ble_eq_true rfl) dX10_bits_2 ⟨Nat.le_of_ble_eq_true rfl, Nat.le_of_ble_eq_true rfl⟩) (fun r_1 p_1 => ?_)
  obtain rfl : kb p0 p1 = r_1 := (p_1).symm
  exact kk_pret_i hx hb hr hlocks rfl dX10_bits_5
set_option maxHeartbeats 4000000 in
set_option maxRecDepth 100000 in
theorem c_X7_placeFrom (l : Launch) (D : va_G) (cB cI cJ cD : ClassId) (h0 : Nat) (z0 : Nat) (z1 : Nat) (z2 : Nat) (z3 : Nat) (z4 : Nat) (z5 : Nat) (z6 : Nat) (p0 : Int32) (sz : Nat) : Met l yX7_placeFrom (kk_W yX7_placeFrom cX7_placeFrom 3 (some .int)) ({ frames := 0, cells := 0, slots := 0, locals := 0 }) (va_Pc [.ref h0, .int p0] (kk_pre D cB cI cJ cD [kO h0 6 [.int 0, .ref z0, .ref z1, .ref z2, .ref z3, .ref z4, .ref z5, .ref z6]] sz)) (vp_Si (fun r => r = 0)) 0 0 (fun _ => False) := by
  refine kk_pstart (y := yX7_placeFrom) (maxL := 3) (av := [.ref h0, .int p0]) (by decide) (Nat.le_of_ble_eq_true rfl) ?_
  intro p e s m below meth c ls hx hb hr hml hown hts hE hlocks hsz hP hD hl
  have hown : s.vm.findClass RX7 = some m.cls := hown
  have hl : lv_has ls 3 [(0, .ref h0), (1, .int p0)] := hl
  refine lv_iconst (v := 0) hx hb dX7_placeFrom_0 (by decide) ?_
  refine lv_istore_n (lv' := [(2, .int 0), (0, .ref h0), (1, .int p0)]) hx hb dX7_placeFrom_1 rfl hl (by decide) rfl (fun ls hl => ?_)
  refine lv_iload_n hx hb dX7_placeFrom_2 rfl (lv_at hl 0 rfl) ?_
  refine lv_aload_n hx hb dX7_placeFrom_3 rfl (lv_at hl 1 rfl) ?_
  refine va_get (D := D) (ci := 6) (v := .int 0) (C := RX7) (T := TX7) (N := 8) hx hb hts u_X7 hown hE.1 hP 0 rfl rfl 0 (by decide) (hts _ w_157) (fun _ h9 => h9) rfl dX7_placeFrom_4 ?_
  refine lv_icmp_ge (tgt := 26) hx hb dX7_placeFrom_7 (by decide) (fun _ => ?_) (fun c_1 => absurd c_1 (by decide))
  refine lv_iload_n hx hb dX7_placeFrom_26 rfl (lv_at hl 0 rfl) ?_
  exact kk_pret_i hx hb hr hlocks rfl dX7_placeFrom_27
set_option maxHeartbeats 4000000 in
set_option maxRecDepth 100000 in
theorem c_X10_place (l : Launch) (D : va_G) (cB cI cJ cD : ClassId) (h0 h1 h2 h3 h4 : Nat) (z0 : Nat) (z1 : Nat) (z2 : Nat) (z3 : Nat) (z4 : Nat) (z5 : Nat) (z6 : Nat) (z7 : Nat) (z8 : Nat) (z9 : Nat) (z10 : Nat) (z11 : Nat) (z12 : Nat) (z13 : Nat) (z14 : Nat) (z15 : Nat) (z16 : Nat) (p0 : Int32) (p1 : Int32) (sz : Nat) : Met l yX10_place (kk_W yX10_place cX10_place 4 (some .int)) ({ frames := 2, cells := 0, slots := 0, locals := 45 }) (va_Pc [.ref h0, .int p0, .int p1] (kk_pre D cB cI cJ cD [kO h0 9 [.ref z0, .ref z1, .ref h1, .ref z2, .int 0, .ref z3, .ref z4], kO h1 2 [.ref h2, .ref z5, .int 0], kO h2 0 [.ref h3, .ref z6, .ref z7, .int 0, .int (-1)], kO h3 8 [.ref h4, .ref z8, .ref z9, .int 0, .int 0, .int 0, .int 0, .int 0], kO h4 6 [.int 0, .ref z10, .ref z11, .ref z12, .ref z13, .ref z14, .ref z15, .ref z16]] sz)) (vp_Si (fun r => r = if kb p0 p1 = (-1) then (-1) else 0)) 0 0 (fun _ => False) := by
  refine kk_pstart (y := yX10_place) (maxL := 4) (av := [.ref h0, .int p0, .int p1]) (by decide) (Nat.le_of_ble_eq_true rfl) ?_
  intro p e s m below meth c ls hx hb hr hml hown hts hE hlocks hsz hP hD hl
  have hown : s.vm.findClass RX10 = some m.cls := hown
  have hl : lv_has ls 4 [(0, .ref h0), (1, .int p0), (2, .int p1)] := hl
  refine lv_iload_n hx hb dX10_place_0 rfl (lv_at hl 1 rfl) ?_
  refine lv_iload_n hx hb dX10_place_1 rfl (lv_at hl 2 rfl) ?_
  refine kk_pi (kk_runS (w1 := []) (As := [.int p0, .int p1]) (rest := []) hx hb hml hown hts hE (c_X4_keyBits l D cB cI cJ cD p0 p1 s.heap.size) m_X4_keyBits w_665 ⟨rfl, rfl, Nat.le_of_ble_eq_true rfl, Nat.le_of_ble_eq_true rfl⟩ (hP.sub [] rfl) (hD.sub [] (by decide +kernel) rfl) rfl hl.1 (Nat.le_of_ble_eq_true rfl) dX10_place_2 ⟨Nat.le_of_ble_eq_true rfl, Nat.le_of_ble_eq_true rfl⟩) (fun r_1 p_1 => ?_)
  obtain rfl : kb p0 p1 = r_1 := (p_1).symm
  refine lv_istore_n (lv' := [(3, .int (kb p0 p1)), (0, .ref h0), (1, .int p0), (2, .int p1)]) hx hb dX10_place_5 rfl hl (by decide) rfl (fun ls hl => ?_)
  refine lv_iload_n hx hb dX10_place_6 rfl (lv_at hl 0 rfl) ?_
  refine lv_iconst (v := (-1)) hx hb dX10_place_7 (by decide) ?_
  refine lv_icmp_ne (tgt := 15) hx hb dX10_place_8 (by decide) (fun c_2 => ?_) (fun c_2 => ?_)
  · refine lv_aload_n hx hb dX10_place_15 rfl (lv_at hl 1 rfl) ?_
    refine va_get (D := D) (ci := 9) (v := .ref h1) (C := RX10) (T := TX10) (N := 7) hx hb hts u_X10 hown hE.1 hP 0 rfl rfl 2 (by decide) (hts _ w_491) (fun _ h9 => h9) rfl dX10_place_16 ?_
    refine va_get (D := D) (ci := 2) (v := .ref h2) (C := RX2) (T := TX2) (N := 3) hx hb hts u_X2 hown hE.1 hP 1 rfl rfl 0 (by decide) (hts _ w_474) (fun _ h9 => h9) rfl dX10_place_19 ?_
    refine va_get (D := D) (ci := 0) (v := .ref h3) (C := RX0) (T := TX0) (N := 5) hx hb hts u_X0 hown hE.1 hP 2 rfl rfl 0 (by decide) (hts _ w_420) (fun _ h9 => h9) rfl dX10_place_22 ?_
    refine va_get (D := D) (ci := 8) (v := .ref h4) (C := RX9) (T := TX9) (N := 8) hx hb hts u_X9 hown hE.1 hP 3 rfl rfl 0 (by decide) (hts _ w_385) (fun _ h9 => h9) rfl dX10_place_25 ?_
    refine lv_iload_n hx hb dX10_place_28 rfl (lv_at hl 0 rfl) ?_
    refine kk_pi (kk_runV (w1 := [kO h4 6 [.int 0, .ref z10, .ref z11, .ref z12, .ref z13, .ref z14, .ref z15, .ref z16]]) (As := [.int (kb p0 p1)]) (rest := []) hx hb hml hown hts hE (c_X7_placeFrom l D cB cI cJ cD h4 z10 z11 z12 z13 z14 z15 z16 (kb p0 p1) s.heap.size) m_X7_placeFrom w_670 ⟨rfl, rfl, Nat.le_of_ble_eq_true rfl, Nat.le_of_ble_eq_true rfl⟩ (hP.sub [4] rfl) (hD.sub [4] (by decide +kernel) rfl) 0 6 rfl rfl rfl hl.1 (Nat.le_of_ble_eq_true rfl) dX10_place_29 ⟨Nat.le_of_ble_eq_true rfl, Nat.le_of_ble_eq_true rfl⟩) (fun r_3 p_3 => ?_)
    obtain rfl : r_3 = 0 := p_3
    exact kk_pret_i hx hb hr hlocks (by first | rfl | decide | (split <;> rename_i hh <;> first | rfl | (exfalso; simp only [kk_lt, kk_le, kk_eq, Int32.reduceToInt] at hh c_2; omega))) dX10_place_32
  · refine lv_iconst (v := (-1)) hx hb dX10_place_11 (by decide) ?_
    refine lv_goto (tgt := 32) hx hb dX10_place_12 (by decide) ?_
    exact kk_pret_i hx hb hr hlocks (by first | rfl | decide | (split <;> rename_i hh <;> first | rfl | (exfalso; simp only [kk_lt, kk_le, kk_eq, Int32.reduceToInt] at hh c_2; omega))) dX10_place_32
set_option maxHeartbeats 4000000 in
set_option maxRecDepth 100000 in
theorem c_X10_width (l : Launch) (D : va_G) (cB cI cJ cD : ClassId) (h0 h1 h2 h3 h4 : Nat) (z0 : Nat) (z1 : Nat) (z2 : Nat) (z3 : Nat) (z4 : Nat) (z5 : Nat) (z6 : Nat) (z7 : Nat) (z8 : Nat) (z9 : Nat) (z10 : Nat) (z11 : Nat) (z12 : Nat) (z13 : Nat) (z14 : Nat) (z15 : Nat) (z16 : Nat) (p0 : Int32) (p1 : Int32) (sz : Nat) : Met l yX10_width (kk_W yX10_width cX10_width 4 (some .int)) ({ frames := 0, cells := 0, slots := 0, locals := 0 }) (va_Pc [.ref h0, .int p0, .int p1] (kk_pre D cB cI cJ cD [kO h0 9 [.ref z0, .ref z1, .ref h1, .ref z2, .int 0, .ref z3, .ref z4], kO h1 2 [.ref h2, .ref z5, .int 0], kO h2 0 [.ref h3, .ref z6, .ref z7, .int 0, .int (-1)], kO h3 8 [.ref h4, .ref z8, .ref z9, .int 0, .int 0, .int 0, .int 0, .int 0], kO h4 6 [.int 0, .ref z10, .ref z11, .ref z12, .ref z13, .ref z14, .ref z15, .ref z16]] sz)) (vp_Si (fun r => r = (-1))) 0 0 (fun _ => False) := by
  refine kk_pstart (y := yX10_width) (maxL := 4) (av := [.ref h0, .int p0, .int p1]) (by decide) (Nat.le_of_ble_eq_true rfl) ?_
  intro p e s m below meth c ls hx hb hr hml hown hts hE hlocks hsz hP hD hl
  have hown : s.vm.findClass RX10 = some m.cls := hown
  have hl : lv_has ls 4 [(0, .ref h0), (1, .int p0), (2, .int p1)] := hl
  refine lv_aload_n hx hb dX10_width_0 rfl (lv_at hl 0 rfl) ?_
  refine va_get (D := D) (ci := 9) (v := .ref h1) (C := RX10) (T := TX10) (N := 7) hx hb hts u_X10 hown hE.1 hP 0 rfl rfl 2 (by decide) (hts _ w_491) (fun _ h9 => h9) rfl dX10_width_1 ?_
  refine va_get (D := D) (ci := 2) (v := .ref h2) (C := RX2) (T := TX2) (N := 3) hx hb hts u_X2 hown hE.1 hP 1 rfl rfl 0 (by decide) (hts _ w_474) (fun _ h9 => h9) rfl dX10_width_4 ?_
  refine va_get (D := D) (ci := 0) (v := .ref h3) (C := RX0) (T := TX0) (N := 5) hx hb hts u_X0 hown hE.1 hP 2 rfl rfl 0 (by decide) (hts _ w_420) (fun _ h9 => h9) rfl dX10_width_7 ?_
  refine va_get (D := D) (ci := 8) (v := .ref h4) (C := RX9) (T := TX9) (N := 8) hx hb hts u_X9 hown hE.1 hP 3 rfl rfl 0 (by decide) (hts _ w_385) (fun _ h9 => h9) rfl dX10_width_10 ?_
  refine lv_astore_n (lv' := [(3, .ref h4), (0, .ref h0), (1, .int p0), (2, .int p1)]) hx hb dX10_width_13 rfl hl (by decide) rfl (fun ls hl => ?_)
  refine lv_iload_n hx hb dX10_width_14 rfl (lv_at hl 2 rfl) ?_
  refine lv_if_lt (tgt := 35) hx hb dX10_width_15 (by decide) (fun c_1 => ?_) (fun c_1 => ?_)
  · refine lv_iconst (v := (-1)) hx hb dX10_width_35 (by decide) ?_
    exact kk_pret_i hx hb hr hlocks rfl dX10_width_36
  · refine lv_iload_n hx hb dX10_width_18 rfl (lv_at hl 2 rfl) ?_
    refine lv_aload_n hx hb dX10_width_19 rfl (lv_at hl 0 rfl) ?_
    refine va_get (D := D) (ci := 6) (v := .int 0) (C := RX7) (T := TX7) (N := 8) hx hb hts u_X7 hown hE.1 hP 4 rfl rfl 0 (by decide) (hts _ w_159) (fun _ h9 => h9) rfl dX10_width_20 ?_
    refine lv_icmp_ge (tgt := 35) hx hb dX10_width_23 (by decide) (fun c_2 => ?_) (fun c_2 => by exfalso; simp only [kk_lt, kk_le, kk_eq, Int32.reduceToInt] at c_1 c_2; omega)
    refine lv_iconst (v := (-1)) hx hb dX10_width_35 (by decide) ?_
    exact kk_pret_i hx hb hr hlocks rfl dX10_width_36
set_option maxHeartbeats 4000000 in
set_option maxRecDepth 100000 in
theorem c_X7_keySum (l : Launch) (D : va_G) (cB cI cJ cD : ClassId) (h0 : Nat) (z0 : Nat) (z1 : Nat) (z2 : Nat) (z3 : Nat) (z4 : Nat) (z5 : Nat) (z6 : Nat) (sz : Nat) : Met l yX7_keySum (kk_W yX7_keySum cX7_keySum 3 (some .float)) ({ frames := 0, cells := 0, slots := 0, locals := 0 }) (va_Pc [.ref h0] (kk_pre D cB cI cJ cD [kO h0 6 [.int 0, .ref z0, .ref z1, .ref z2, .ref z3, .ref z4, .ref z5, .ref z6]] sz)) (vp_Sf (fun r => r = FP.fconst0)) 0 0 (fun _ => False) := by
  refine kk_pstart (y := yX7_keySum) (maxL := 3) (av := [.ref h0]) (by decide) (Nat.le_of_ble_eq_true rfl) ?_
  intro p e s m below meth c ls hx hb hr hml hown hts hE hlocks hsz hP hD hl
  have hown : s.vm.findClass RX7 = some m.cls := hown
  have hl : lv_has ls 3 [(0, .ref h0)] := hl
  refine lv_fconst0 hx hb dX7_keySum_0 ?_
  refine lv_fstore_n (lv' := [(1, .float FP.fconst0), (0, .ref h0)]) hx hb dX7_keySum_1 rfl hl (by decide) rfl (fun ls hl => ?_)
  refine lv_iconst (v := 0) hx hb dX7_keySum_2 (by decide) ?_
  refine lv_istore_n (lv' := [(2, .int 0), (1, .float FP.fconst0), (0, .ref h0)]) hx hb dX7_keySum_3 rfl hl (by decide) rfl (fun ls hl => ?_)
  refine lv_iload_n hx hb dX7_keySum_4 rfl (lv_at hl 0 rfl) ?_
  refine lv_aload_n hx hb dX7_keySum_5 rfl (lv_at hl 2 rfl) ?_
  refine va_get (D := D) (ci := 6) (v := .int 0) (C := RX7) (T := TX7) (N := 8) hx hb hts u_X7 hown hE.1 hP 0 rfl rfl 0 (by decide) (hts _ w_157) (fun _ h9 => h9) rfl dX7_keySum_6 ?_
  refine lv_icmp_ge (tgt := 30) hx hb dX7_keySum_9 (by decide) (fun _ => ?_) (fun c_1 => absurd c_1 (by decide))
  refine lv_fload_n hx hb dX7_keySum_30 rfl (lv_at hl 1 rfl) ?_
  exact kk_pret_f hx hb hr hlocks rfl dX7_keySum_31
set_option maxHeartbeats 4000000 in
set_option maxRecDepth 100000 in
theorem c_X10_sum (l : Launch) (D : va_G) (cB cI cJ cD : ClassId) (h0 h1 h2 h3 h4 : Nat) (z0 : Nat) (z1 : Nat) (z2 : Nat) (z3 : Nat) (z4 : Nat) (z5 : Nat) (z6 : Nat) (z7 : Nat) (z8 : Nat) (z9 : Nat) (z10 : Nat) (z11 : Nat) (z12 : Nat) (z13 : Nat) (z14 : Nat) (z15 : Nat) (z16 : Nat) (sz : Nat) : Met l yX10_sum (kk_W yX10_sum cX10_sum 1 (some .int)) ({ frames := 1, cells := 0, slots := 0, locals := 24 }) (va_Pc [.ref h0] (kk_pre D cB cI cJ cD [kO h0 9 [.ref z0, .ref z1, .ref h1, .ref z2, .int 0, .ref z3, .ref z4], kO h1 2 [.ref h2, .ref z5, .int 0], kO h2 0 [.ref h3, .ref z6, .ref z7, .int 0, .int (-1)], kO h3 8 [.ref h4, .ref z8, .ref z9, .int 0, .int 0, .int 0, .int 0, .int 0], kO h4 6 [.int 0, .ref z10, .ref z11, .ref z12, .ref z13, .ref z14, .ref z15, .ref z16]] sz)) (vp_Si (fun r => r = 0)) 0 0 (fun _ => False) := by
  refine kk_pstart (y := yX10_sum) (maxL := 1) (av := [.ref h0]) (by decide) (Nat.le_of_ble_eq_true rfl) ?_
  intro p e s m below meth c ls hx hb hr hml hown hts hE hlocks hsz hP hD hl
  have hown : s.vm.findClass RX10 = some m.cls := hown
  have hl : lv_has ls 1 [(0, .ref h0)] := hl
  refine lv_aload_n hx hb dX10_sum_0 rfl (lv_at hl 0 rfl) ?_
  refine va_get (D := D) (ci := 9) (v := .ref h1) (C := RX10) (T := TX10) (N := 7) hx hb hts u_X10 hown hE.1 hP 0 rfl rfl 2 (by decide) (hts _ w_491) (fun _ h9 => h9) rfl dX10_sum_1 ?_
  refine va_get (D := D) (ci := 2) (v := .ref h2) (C := RX2) (T := TX2) (N := 3) hx hb hts u_X2 hown hE.1 hP 1 rfl rfl 0 (by decide) (hts _ w_474) (fun _ h9 => h9) rfl dX10_sum_4 ?_
  refine va_get (D := D) (ci := 0) (v := .ref h3) (C := RX0) (T := TX0) (N := 5) hx hb hts u_X0 hown hE.1 hP 2 rfl rfl 0 (by decide) (hts _ w_420) (fun _ h9 => h9) rfl dX10_sum_7 ?_
  refine va_get (D := D) (ci := 8) (v := .ref h4) (C := RX9) (T := TX9) (N := 8) hx hb hts u_X9 hown hE.1 hP 3 rfl rfl 0 (by decide) (hts _ w_385) (fun _ h9 => h9) rfl dX10_sum_10 ?_
  refine kk_pf (kk_runV (w1 := [kO h4 6 [.int 0, .ref z10, .ref z11, .ref z12, .ref z13, .ref z14, .ref z15, .ref z16]]) (As := []) (rest := []) hx hb hml hown hts hE (c_X7_keySum l D cB cI cJ cD h4 z10 z11 z12 z13 z14 z15 z16 s.heap.size) m_X7_keySum w_693 ⟨rfl, rfl, Nat.le_of_ble_eq_true rfl, Nat.le_of_ble_eq_true rfl⟩ (hP.sub [4] rfl) (hD.sub [4] (by decide +kernel) rfl) 0 6 rfl rfl rfl hl.1 (Nat.le_of_ble_eq_true rfl) dX10_sum_13 ⟨Nat.le_of_ble_eq_true rfl, Nat.le_of_ble_eq_true rfl⟩) (fun r_1 p_1 => ?_)
  obtain rfl : FP.fconst0 = r_1 := (p_1).symm
  refine kk_pi (kk_runS (w1 := []) (As := [.float FP.fconst0]) (rest := []) hx hb hml hown hts hE (c_X4_bitsOf l D cB cI cJ cD FP.fconst0 s.heap.size (Or.inl rfl)) m_X4_bitsOf w_688 ⟨rfl, rfl, Nat.le_of_ble_eq_true rfl, Nat.le_of_ble_eq_true rfl⟩ (hP.sub [] rfl) (hD.sub [] (by decide +kernel) rfl) rfl hl.1 (Nat.le_of_ble_eq_true rfl) dX10_sum_16 ⟨Nat.le_of_ble_eq_true rfl, Nat.le_of_ble_eq_true rfl⟩) (fun r_2 p_2 => ?_)
  obtain rfl : kf FP.fconst0 = r_2 := (p_2).symm
  exact kk_pret_i hx hb hr hlocks (by decide) dX10_sum_19
set_option maxHeartbeats 4000000 in
set_option maxRecDepth 100000 in
theorem c_X10_widest (l : Launch) (D : va_G) (cB cI cJ cD : ClassId) (h0 h1 h2 h3 h4 : Nat) (z0 : Nat) (z1 : Nat) (z2 : Nat) (z3 : Nat) (z4 : Nat) (z5 : Nat) (z6 : Nat) (z7 : Nat) (z8 : Nat) (z9 : Nat) (z10 : Nat) (z11 : Nat) (z12 : Nat) (z13 : Nat) (z14 : Nat) (z15 : Nat) (z16 : Nat) (sz : Nat) : Met l yX10_widest (kk_W yX10_widest cX10_widest 6 (some .int)) ({ frames := 0, cells := 0, slots := 0, locals := 0 }) (va_Pc [.ref h0] (kk_pre D cB cI cJ cD [kO h0 9 [.ref z0, .ref z1, .ref h1, .ref z2, .int 0, .ref z3, .ref z4], kO h1 2 [.ref h2, .ref z5, .int 0], kO h2 0 [.ref h3, .ref z6, .ref z7, .int 0, .int (-1)], kO h3 8 [.ref h4, .ref z8, .ref z9, .int 0, .int 0, .int 0, .int 0, .int 0], kO h4 6 [.int 0, .ref z10, .ref z11, .ref z12, .ref z13, .ref z14, .ref z15, .ref z16]] sz)) (vp_Si (fun r => r = (-2))) 0 0 (fun _ => False) := by
  refine kk_pstart (y := yX10_widest) (maxL := 6) (av := [.ref h0]) (by decide) (Nat.le_of_ble_eq_true rfl) ?_
  intro p e s m below meth c ls hx hb hr hml hown hts hE hlocks hsz hP hD hl
  have hown : s.vm.findClass RX10 = some m.cls := hown
  have hl : lv_has ls 6 [(0, .ref h0)] := hl
  refine lv_aload_n hx hb dX10_widest_0 rfl (lv_at hl 0 rfl) ?_
  refine va_get (D := D) (ci := 9) (v := .ref h1) (C := RX10) (T := TX10) (N := 7) hx hb hts u_X10 hown hE.1 hP 0 rfl rfl 2 (by decide) (hts _ w_491) (fun _ h9 => h9) rfl dX10_widest_1 ?_
  refine va_get (D := D) (ci := 2) (v := .ref h2) (C := RX2) (T := TX2) (N := 3) hx hb hts u_X2 hown hE.1 hP 1 rfl rfl 0 (by decide) (hts _ w_474) (fun _ h9 => h9) rfl dX10_widest_4 ?_
  refine va_get (D := D) (ci := 0) (v := .ref h3) (C := RX0) (T := TX0) (N := 5) hx hb hts u_X0 hown hE.1 hP 2 rfl rfl 0 (by decide) (hts _ w_420) (fun _ h9 => h9) rfl dX10_widest_7 ?_
  refine va_get (D := D) (ci := 8) (v := .ref h4) (C := RX9) (T := TX9) (N := 8) hx hb hts u_X9 hown hE.1 hP 3 rfl rfl 0 (by decide) (hts _ w_385) (fun _ h9 => h9) rfl dX10_widest_10 ?_
  refine lv_astore_n (lv' := [(1, .ref h4), (0, .ref h0)]) hx hb dX10_widest_13 rfl hl (by decide) rfl (fun ls hl => ?_)
  refine lv_bipush (v := (-2)) hx hb dX10_widest_14 (by decide) ?_
  refine lv_istore_n (lv' := [(2, .int (-2)), (1, .ref h4), (0, .ref h0)]) hx hb dX10_widest_16 rfl hl (by decide) rfl (fun ls hl => ?_)
  refine lv_fconst0 hx hb dX10_widest_17 ?_
  refine lv_fstore_n (lv' := [(3, .float FP.fconst0), (2, .int (-2)), (1, .ref h4), (0, .ref h0)]) hx hb dX10_widest_18 rfl hl (by decide) rfl (fun ls hl => ?_)
  refine lv_iconst (v := 0) hx hb dX10_widest_19 (by decide) ?_
  refine lv_istore (lv' := [(4, .int 0), (3, .float FP.fconst0), (2, .int (-2)), (1, .ref h4), (0, .ref h0)]) hx hb dX10_widest_20 hl (by decide) rfl (fun ls hl => ?_)
  refine lv_iload hx hb dX10_widest_22 (lv_at hl 0 rfl) ?_
  refine lv_aload_n hx hb dX10_widest_24 rfl (lv_at hl 3 rfl) ?_
  refine va_get (D := D) (ci := 6) (v := .int 0) (C := RX7) (T := TX7) (N := 8) hx hb hts u_X7 hown hE.1 hP 4 rfl rfl 0 (by decide) (hts _ w_159) (fun _ h9 => h9) rfl dX10_widest_25 ?_
  refine lv_icmp_ge (tgt := 62) hx hb dX10_widest_28 (by decide) (fun _ => ?_) (fun c_1 => absurd c_1 (by decide))
  refine lv_iload_n hx hb dX10_widest_62 rfl (lv_at hl 2 rfl) ?_
  exact kk_pret_i hx hb hr hlocks rfl dX10_widest_63
set_option maxHeartbeats 4000000 in
set_option maxRecDepth 100000 in
theorem c_X1_has (l : Launch) (D : va_G) (cB cI cJ cD : ClassId) (h0 : Nat) (z0 : Nat) (z1 : Nat) (z2 : Nat) (z3 : Nat) (z4 : Nat) (z5 : Nat) (z6 : Nat) (z7 : Nat) (z8 : Nat) (z9 : Nat) (p0 : Int32) (sz : Nat) : Met l yX1_has (kk_W yX1_has cX1_has 2 (some .boolean)) ({ frames := 0, cells := 0, slots := 0, locals := 0 }) (va_Pc [.ref h0, .int p0] (kk_pre D cB cI cJ cD [kO h0 1 [.int 0, .ref z0, .ref z1, .ref z2, .ref z3, .ref z4, .ref z5, .ref z6, .ref z7, .ref z8, .ref z9, .int 0]] sz)) (vp_Si (fun r => r = 0)) 0 0 (fun _ => False) := by
  refine kk_pstart (y := yX1_has) (maxL := 2) (av := [.ref h0, .int p0]) (by decide) (Nat.le_of_ble_eq_true rfl) ?_
  intro p e s m below meth c ls hx hb hr hml hown hts hE hlocks hsz hP hD hl
  have hown : s.vm.findClass RX1 = some m.cls := hown
  have hl : lv_has ls 2 [(0, .ref h0), (1, .int p0)] := hl
  refine lv_iload_n hx hb dX1_has_0 rfl (lv_at hl 1 rfl) ?_
  refine lv_if_lt (tgt := 16) hx hb dX1_has_1 (by decide) (fun c_1 => ?_) (fun c_1 => ?_)
  · refine lv_iconst (v := 0) hx hb dX1_has_16 (by decide) ?_
    exact kk_pret_z hx hb hr hlocks (by decide) rfl dX1_has_17
  · refine lv_iload_n hx hb dX1_has_4 rfl (lv_at hl 1 rfl) ?_
    refine lv_aload_n hx hb dX1_has_5 rfl (lv_at hl 0 rfl) ?_
    refine va_get (D := D) (ci := 1) (v := .int 0) (C := RX1) (T := TX1) (N := 12) hx hb hts u_X1 hown hE.1 hP 0 rfl rfl 0 (by decide) (hts _ w_312) (fun _ h9 => h9) rfl dX1_has_6 ?_
    refine lv_icmp_ge (tgt := 16) hx hb dX1_has_9 (by decide) (fun c_2 => ?_) (fun c_2 => by exfalso; simp only [kk_lt, kk_le, kk_eq, Int32.reduceToInt] at c_1 c_2; omega)
    refine lv_iconst (v := 0) hx hb dX1_has_16 (by decide) ?_
    exact kk_pret_z hx hb hr hlocks (by decide) rfl dX1_has_17
set_option maxHeartbeats 4000000 in
set_option maxRecDepth 100000 in
theorem c_X10_lock (l : Launch) (D : va_G) (cB cI cJ cD : ClassId) (h0 h1 h2 h3 h4 : Nat) (z0 : Nat) (z1 : Nat) (z2 : Nat) (z3 : Nat) (z4 : Nat) (z5 : Nat) (z6 : Nat) (z7 : Nat) (z8 : Nat) (z9 : Nat) (z10 : Nat) (z11 : Nat) (z12 : Nat) (z13 : Nat) (z14 : Nat) (z15 : Nat) (z16 : Nat) (z17 : Nat) (z18 : Nat) (z19 : Nat) (p0 : Int32) (p1 : Int32) (p2 : Int32) (sz : Nat) : Met l yX10_lock (kk_W yX10_lock cX10_lock 5 (some .int)) ({ frames := 1, cells := 0, slots := 0, locals := 21 }) (va_Pc [.ref h0, .int p0, .int p1, .int p2] (kk_pre D cB cI cJ cD [kO h0 9 [.ref z0, .ref z1, .ref h1, .ref z2, .int 0, .ref z3, .ref z4], kO h1 2 [.ref h2, .ref z5, .int 0], kO h2 0 [.ref h3, .ref z6, .ref z7, .int 0, .int (-1)], kO h3 8 [.ref z8, .ref h4, .ref z9, .int 0, .int 0, .int 0, .int 0, .int 0], kO h4 1 [.int 0, .ref z10, .ref z11, .ref z12, .ref z13, .ref z14, .ref z15, .ref z16, .ref z17, .ref z18, .ref z19, .int 0]] sz)) (vp_Si (fun r => r = (-1))) 0 0 (fun _ => False) := by
  refine kk_pstart (y := yX10_lock) (maxL := 5) (av := [.ref h0, .int p0, .int p1, .int p2]) (by decide) (Nat.le_of_ble_eq_true rfl) ?_
  intro p e s m below meth c ls hx hb hr hml hown hts hE hlocks hsz hP hD hl
  have hown : s.vm.findClass RX10 = some m.cls := hown
  have hl : lv_has ls 5 [(0, .ref h0), (1, .int p0), (2, .int p1), (3, .int p2)] := hl
  refine lv_aload_n hx hb dX10_lock_0 rfl (lv_at hl 0 rfl) ?_
  refine va_get (D := D) (ci := 9) (v := .ref h1) (C := RX10) (T := TX10) (N := 7) hx hb hts u_X10 hown hE.1 hP 0 rfl rfl 2 (by decide) (hts _ w_491) (fun _ h9 => h9) rfl dX10_lock_1 ?_
  refine va_get (D := D) (ci := 2) (v := .ref h2) (C := RX2) (T := TX2) (N := 3) hx hb hts u_X2 hown hE.1 hP 1 rfl rfl 0 (by decide) (hts _ w_474) (fun _ h9 => h9) rfl dX10_lock_4 ?_
  refine va_get (D := D) (ci := 0) (v := .ref h3) (C := RX0) (T := TX0) (N := 5) hx hb hts u_X0 hown hE.1 hP 2 rfl rfl 0 (by decide) (hts _ w_420) (fun _ h9 => h9) rfl dX10_lock_7 ?_
  refine lv_astore (lv' := [(4, .ref h3), (0, .ref h0), (1, .int p0), (2, .int p1), (3, .int p2)]) hx hb dX10_lock_10 hl (by decide) rfl (fun ls hl => ?_)
  refine lv_aload hx hb dX10_lock_12 (lv_at hl 0 rfl) ?_
  refine va_get (D := D) (ci := 8) (v := .ref h4) (C := RX9) (T := TX9) (N := 8) hx hb hts u_X9 hown hE.1 hP 3 rfl rfl 1 (by decide) (hts _ w_390) (fun _ h9 => h9) rfl dX10_lock_14 ?_
  refine lv_iload_n hx hb dX10_lock_17 rfl (lv_at hl 2 rfl) ?_
  refine kk_pi (kk_runV (w1 := [kO h4 1 [.int 0, .ref z10, .ref z11, .ref z12, .ref z13, .ref z14, .ref z15, .ref z16, .ref z17, .ref z18, .ref z19, .int 0]]) (As := [.int p0]) (rest := []) hx hb hml hown hts hE (c_X1_has l D cB cI cJ cD h4 z10 z11 z12 z13 z14 z15 z16 z17 z18 z19 p0 s.heap.size) m_X1_has w_705 ⟨rfl, rfl, Nat.le_of_ble_eq_true rfl, Nat.le_of_ble_eq_true rfl⟩ (hP.sub [4] rfl) (hD.sub [4] (by decide +kernel) rfl) 0 1 rfl rfl rfl hl.1 (Nat.le_of_ble_eq_true rfl) dX10_lock_18 ⟨Nat.le_of_ble_eq_true rfl, Nat.le_of_ble_eq_true rfl⟩) (fun r_1 p_1 => ?_)
  obtain rfl : r_1 = 0 := p_1
  refine lv_if_eq (tgt := 49) hx hb dX10_lock_21 (by decide) (fun _ => ?_) (fun c_2 => absurd c_2 (by decide))
  refine lv_iconst (v := (-1)) hx hb dX10_lock_49 (by decide) ?_
  exact kk_pret_i hx hb hr hlocks rfl dX10_lock_50
set_option maxHeartbeats 4000000 in
set_option maxRecDepth 100000 in
theorem c_X10_hand (l : Launch) (D : va_G) (cB cI cJ cD : ClassId) (h0 h1 h2 h3 h4 : Nat) (z0 : Nat) (z1 : Nat) (z2 : Nat) (z3 : Nat) (z4 : Nat) (z5 : Nat) (z6 : Nat) (z7 : Nat) (z8 : Nat) (z9 : Nat) (z10 : Nat) (z11 : Nat) (z12 : Nat) (z13 : Nat) (z14 : Nat) (z15 : Nat) (z16 : Nat) (z17 : Nat) (z18 : Nat) (z19 : Nat) (p0 : Int32) (p1 : Int32) (sz : Nat) : Met l yX10_hand (kk_W yX10_hand cX10_hand 4 (some .int)) ({ frames := 1, cells := 0, slots := 0, locals := 21 }) (va_Pc [.ref h0, .int p0, .int p1] (kk_pre D cB cI cJ cD [kO h0 9 [.ref z0, .ref z1, .ref h1, .ref z2, .int 0, .ref z3, .ref z4], kO h1 2 [.ref h2, .ref z5, .int 0], kO h2 0 [.ref h3, .ref z6, .ref z7, .int 0, .int (-1)], kO h3 8 [.ref z8, .ref h4, .ref z9, .int 0, .int 0, .int 0, .int 0, .int 0], kO h4 1 [.int 0, .ref z10, .ref z11, .ref z12, .ref z13, .ref z14, .ref z15, .ref z16, .ref z17, .ref z18, .ref z19, .int 0]] sz)) (vp_Si (fun r => r = (-1))) 0 0 (fun _ => False) := by
  refine kk_pstart (y := yX10_hand) (maxL := 4) (av := [.ref h0, .int p0, .int p1]) (by decide) (Nat.le_of_ble_eq_true rfl) ?_
  intro p e s m below meth c ls hx hb hr hml hown hts hE hlocks hsz hP hD hl
  have hown : s.vm.findClass RX10 = some m.cls := hown
  have hl : lv_has ls 4 [(0, .ref h0), (1, .int p0), (2, .int p1)] := hl
  refine lv_aload_n hx hb dX10_hand_0 rfl (lv_at hl 0 rfl) ?_
  refine va_get (D := D) (ci := 9) (v := .ref h1) (C := RX10) (T := TX10) (N := 7) hx hb hts u_X10 hown hE.1 hP 0 rfl rfl 2 (by decide) (hts _ w_491) (fun _ h9 => h9) rfl dX10_hand_1 ?_
  refine va_get (D := D) (ci := 2) (v := .ref h2) (C := RX2) (T := TX2) (N := 3) hx hb hts u_X2 hown hE.1 hP 1 rfl rfl 0 (by decide) (hts _ w_474) (fun _ h9 => h9) rfl dX10_hand_4 ?_
  refine va_get (D := D) (ci := 0) (v := .ref h3) (C := RX0) (T := TX0) (N := 5) hx hb hts u_X0 hown hE.1 hP 2 rfl rfl 0 (by decide) (hts _ w_420) (fun _ h9 => h9) rfl dX10_hand_7 ?_
  refine lv_astore_n (lv' := [(3, .ref h3), (0, .ref h0), (1, .int p0), (2, .int p1)]) hx hb dX10_hand_10 rfl hl (by decide) rfl (fun ls hl => ?_)
  refine lv_aload_n hx hb dX10_hand_11 rfl (lv_at hl 0 rfl) ?_
  refine va_get (D := D) (ci := 8) (v := .ref h4) (C := RX9) (T := TX9) (N := 8) hx hb hts u_X9 hown hE.1 hP 3 rfl rfl 1 (by decide) (hts _ w_390) (fun _ h9 => h9) rfl dX10_hand_12 ?_
  refine lv_iload_n hx hb dX10_hand_15 rfl (lv_at hl 2 rfl) ?_
  refine kk_pi (kk_runV (w1 := [kO h4 1 [.int 0, .ref z10, .ref z11, .ref z12, .ref z13, .ref z14, .ref z15, .ref z16, .ref z17, .ref z18, .ref z19, .int 0]]) (As := [.int p0]) (rest := []) hx hb hml hown hts hE (c_X1_has l D cB cI cJ cD h4 z10 z11 z12 z13 z14 z15 z16 z17 z18 z19 p0 s.heap.size) m_X1_has w_705 ⟨rfl, rfl, Nat.le_of_ble_eq_true rfl, Nat.le_of_ble_eq_true rfl⟩ (hP.sub [4] rfl) (hD.sub [4] (by decide +kernel) rfl) 0 1 rfl rfl rfl hl.1 (Nat.le_of_ble_eq_true rfl) dX10_hand_16 ⟨Nat.le_of_ble_eq_true rfl, Nat.le_of_ble_eq_true rfl⟩) (fun r_1 p_1 => ?_)
  obtain rfl : r_1 = 0 := p_1
  refine lv_if_ne (tgt := 24) hx hb dX10_hand_19 (by decide) (fun c_2 => absurd c_2 (by decide)) (fun _ => ?_)
  refine lv_iconst (v := (-1)) hx hb dX10_hand_22 (by decide) ?_
  exact kk_pret_i hx hb hr hlocks rfl dX10_hand_23
set_option maxHeartbeats 4000000 in
set_option maxRecDepth 100000 in
theorem c_X10_queue (l : Launch) (D : va_G) (cB cI cJ cD : ClassId) (h0 h1 h2 h3 h4 : Nat) (z0 : Nat) (z1 : Nat) (z2 : Nat) (z3 : Nat) (z4 : Nat) (z5 : Nat) (z6 : Nat) (z7 : Nat) (z8 : Nat) (z9 : Nat) (z10 : Nat) (z11 : Nat) (z12 : Nat) (z13 : Nat) (z14 : Nat) (z15 : Nat) (z16 : Nat) (z17 : Nat) (z18 : Nat) (z19 : Nat) (p0 : Int32) (sz : Nat) : Met l yX10_queue (kk_W yX10_queue cX10_queue 3 (some .int)) ({ frames := 0, cells := 0, slots := 0, locals := 0 }) (va_Pc [.ref h0, .int p0] (kk_pre D cB cI cJ cD [kO h0 9 [.ref z0, .ref z1, .ref h1, .ref z2, .int 0, .ref z3, .ref z4], kO h1 2 [.ref h2, .ref z5, .int 0], kO h2 0 [.ref h3, .ref z6, .ref z7, .int 0, .int (-1)], kO h3 8 [.ref z8, .ref h4, .ref z9, .int 0, .int 0, .int 0, .int 0, .int 0], kO h4 1 [.int 0, .ref z10, .ref z11, .ref z12, .ref z13, .ref z14, .ref z15, .ref z16, .ref z17, .ref z18, .ref z19, .int 0]] sz)) (vp_Si (fun r => r = if p0 < 0 then (-1) else (-2))) 0 0 (fun _ => False) := by
  refine kk_pstart (y := yX10_queue) (maxL := 3) (av := [.ref h0, .int p0]) (by decide) (Nat.le_of_ble_eq_true rfl) ?_
  intro p e s m below meth c ls hx hb hr hml hown hts hE hlocks hsz hP hD hl
  have hown : s.vm.findClass RX10 = some m.cls := hown
  have hl : lv_has ls 3 [(0, .ref h0), (1, .int p0)] := hl
  refine lv_aload_n hx hb dX10_queue_0 rfl (lv_at hl 0 rfl) ?_
  refine va_get (D := D) (ci := 9) (v := .ref h1) (C := RX10) (T := TX10) (N := 7) hx hb hts u_X10 hown hE.1 hP 0 rfl rfl 2 (by decide) (hts _ w_491) (fun _ h9 => h9) rfl dX10_queue_1 ?_
  refine va_get (D := D) (ci := 2) (v := .ref h2) (C := RX2) (T := TX2) (N := 3) hx hb hts u_X2 hown hE.1 hP 1 rfl rfl 0 (by decide) (hts _ w_474) (fun _ h9 => h9) rfl dX10_queue_4 ?_
  refine va_get (D := D) (ci := 0) (v := .ref h3) (C := RX0) (T := TX0) (N := 5) hx hb hts u_X0 hown hE.1 hP 2 rfl rfl 0 (by decide) (hts _ w_420) (fun _ h9 => h9) rfl dX10_queue_7 ?_
  refine va_get (D := D) (ci := 8) (v := .ref h4) (C := RX9) (T := TX9) (N := 8) hx hb hts u_X9 hown hE.1 hP 3 rfl rfl 1 (by decide) (hts _ w_390) (fun _ h9 => h9) rfl dX10_queue_10 ?_
  refine lv_astore_n (lv' := [(2, .ref h4), (0, .ref h0), (1, .int p0)]) hx hb dX10_queue_13 rfl hl (by decide) rfl (fun ls hl => ?_)
  refine lv_iload_n hx hb dX10_queue_14 rfl (lv_at hl 2 rfl) ?_
  refine lv_if_ge (tgt := 20) hx hb dX10_queue_15 (by decide) (fun c_1 => ?_) (fun c_1 => ?_)
  · refine lv_iload_n hx hb dX10_queue_20 rfl (lv_at hl 2 rfl) ?_
    refine lv_aload_n hx hb dX10_queue_21 rfl (lv_at hl 0 rfl) ?_
    refine va_get (D := D) (ci := 1) (v := .int 0) (C := RX1) (T := TX1) (N := 12) hx hb hts u_X1 hown hE.1 hP 4 rfl rfl 11 (by decide) (hts _ w_343) (fun _ h9 => h9) rfl dX10_queue_22 ?_
    refine lv_icmp_ge (tgt := 37) hx hb dX10_queue_25 (by decide) (fun c_2 => ?_) (fun c_2 => by exfalso; simp only [kk_lt, kk_le, kk_eq, Int32.reduceToInt] at c_1 c_2; omega)
    refine lv_bipush (v := (-2)) hx hb dX10_queue_37 (by decide) ?_
    exact kk_pret_i hx hb hr hlocks (by first | rfl | decide | (split <;> rename_i hh <;> first | rfl | (exfalso; simp only [kk_lt, kk_le, kk_eq, Int32.reduceToInt] at hh c_1 c_2; omega))) dX10_queue_39
  · refine lv_iconst (v := (-1)) hx hb dX10_queue_18 (by decide) ?_
    exact kk_pret_i hx hb hr hlocks (by first | rfl | decide | (split <;> rename_i hh <;> first | rfl | (exfalso; simp only [kk_lt, kk_le, kk_eq, Int32.reduceToInt] at hh c_1; omega))) dX10_queue_19
set_option maxHeartbeats 4000000 in
set_option maxRecDepth 100000 in
theorem c_X10_stops (l : Launch) (D : va_G) (cB cI cJ cD : ClassId) (h0 h1 h2 h3 h4 : Nat) (z0 : Nat) (z1 : Nat) (z2 : Nat) (z3 : Nat) (z4 : Nat) (z5 : Nat) (z6 : Nat) (z7 : Nat) (z8 : Nat) (z9 : Nat) (z10 : Nat) (z11 : Nat) (z12 : Nat) (z13 : Nat) (z14 : Nat) (z15 : Nat) (z16 : Nat) (z17 : Nat) (z18 : Nat) (z19 : Nat) (p0 : Int32) (p1 : Int32) (p2 : Int32) (p3 : Int32) (sz : Nat) : Met l yX10_stops (kk_W yX10_stops cX10_stops 11 (some .int)) ({ frames := 2, cells := 0, slots := 0, locals := 45 }) (va_Pc [.ref h0, .int p0, .int p1, .int p2, .int p3] (kk_pre D cB cI cJ cD [kO h0 9 [.ref z0, .ref z1, .ref h1, .ref z2, .int 0, .ref z3, .ref z4], kO h1 2 [.ref h2, .ref z5, .int 0], kO h2 0 [.ref h3, .ref z6, .ref z7, .int 0, .int (-1)], kO h3 8 [.ref z8, .ref h4, .ref z9, .int 0, .int 0, .int 0, .int 0, .int 0], kO h4 1 [.int 0, .ref z10, .ref z11, .ref z12, .ref z13, .ref z14, .ref z15, .ref z16, .ref z17, .ref z18, .ref z19, .int 0]] sz)) (vp_Si (fun r => r = (-1))) 0 0 (fun _ => False) := by
  refine kk_pstart (y := yX10_stops) (maxL := 11) (av := [.ref h0, .int p0, .int p1, .int p2, .int p3]) (by decide) (Nat.le_of_ble_eq_true rfl) ?_
  intro p e s m below meth c ls hx hb hr hml hown hts hE hlocks hsz hP hD hl
  have hown : s.vm.findClass RX10 = some m.cls := hown
  have hl : lv_has ls 11 [(0, .ref h0), (1, .int p0), (2, .int p1), (3, .int p2), (4, .int p3)] := hl
  refine lv_aload_n hx hb dX10_stops_0 rfl (lv_at hl 0 rfl) ?_
  refine va_get (D := D) (ci := 9) (v := .ref h1) (C := RX10) (T := TX10) (N := 7) hx hb hts u_X10 hown hE.1 hP 0 rfl rfl 2 (by decide) (hts _ w_491) (fun _ h9 => h9) rfl dX10_stops_1 ?_
  refine va_get (D := D) (ci := 2) (v := .ref h2) (C := RX2) (T := TX2) (N := 3) hx hb hts u_X2 hown hE.1 hP 1 rfl rfl 0 (by decide) (hts _ w_474) (fun _ h9 => h9) rfl dX10_stops_4 ?_
  refine va_get (D := D) (ci := 0) (v := .ref h3) (C := RX0) (T := TX0) (N := 5) hx hb hts u_X0 hown hE.1 hP 2 rfl rfl 0 (by decide) (hts _ w_420) (fun _ h9 => h9) rfl dX10_stops_7 ?_
  refine lv_astore (lv' := [(5, .ref h3), (0, .ref h0), (1, .int p0), (2, .int p1), (3, .int p2), (4, .int p3)]) hx hb dX10_stops_10 hl (by decide) rfl (fun ls hl => ?_)
  refine lv_iload_n hx hb dX10_stops_12 rfl (lv_at hl 3 rfl) ?_
  refine lv_iload_n hx hb dX10_stops_13 rfl (lv_at hl 4 rfl) ?_
  refine kk_pi (kk_runS (w1 := []) (As := [.int p1, .int p2]) (rest := []) hx hb hml hown hts hE (c_X4_keyBits l D cB cI cJ cD p1 p2 s.heap.size) m_X4_keyBits w_665 ⟨rfl, rfl, Nat.le_of_ble_eq_true rfl, Nat.le_of_ble_eq_true rfl⟩ (hP.sub [] rfl) (hD.sub [] (by decide +kernel) rfl) rfl hl.1 (Nat.le_of_ble_eq_true rfl) dX10_stops_14 ⟨Nat.le_of_ble_eq_true rfl, Nat.le_of_ble_eq_true rfl⟩) (fun r_1 p_1 => ?_)
  obtain rfl : kb p1 p2 = r_1 := (p_1).symm
  refine lv_istore (lv' := [(6, .int (kb p1 p2)), (5, .ref h3), (0, .ref h0), (1, .int p0), (2, .int p1), (3, .int p2), (4, .int p3)]) hx hb dX10_stops_17 hl (by decide) rfl (fun ls hl => ?_)
  refine lv_aload hx hb dX10_stops_19 (lv_at hl 1 rfl) ?_
  refine va_get (D := D) (ci := 8) (v := .ref h4) (C := RX9) (T := TX9) (N := 8) hx hb hts u_X9 hown hE.1 hP 3 rfl rfl 1 (by decide) (hts _ w_390) (fun _ h9 => h9) rfl dX10_stops_21 ?_
  refine lv_iload_n hx hb dX10_stops_24 rfl (lv_at hl 3 rfl) ?_
  refine kk_pi (kk_runV (w1 := [kO h4 1 [.int 0, .ref z10, .ref z11, .ref z12, .ref z13, .ref z14, .ref z15, .ref z16, .ref z17, .ref z18, .ref z19, .int 0]]) (As := [.int p0]) (rest := []) hx hb hml hown hts hE (c_X1_has l D cB cI cJ cD h4 z10 z11 z12 z13 z14 z15 z16 z17 z18 z19 p0 s.heap.size) m_X1_has w_705 ⟨rfl, rfl, Nat.le_of_ble_eq_true rfl, Nat.le_of_ble_eq_true rfl⟩ (hP.sub [4] rfl) (hD.sub [4] (by decide +kernel) rfl) 0 1 rfl rfl rfl hl.1 (Nat.le_of_ble_eq_true rfl) dX10_stops_25 ⟨Nat.le_of_ble_eq_true rfl, Nat.le_of_ble_eq_true rfl⟩) (fun r_2 p_2 => ?_)
  obtain rfl : r_2 = 0 := p_2
  refine lv_if_eq (tgt := 48) hx hb dX10_stops_28 (by decide) (fun _ => ?_) (fun c_3 => absurd c_3 (by decide))
  refine lv_iconst (v := (-1)) hx hb dX10_stops_48 (by decide) ?_
  exact kk_pret_i hx hb hr hlocks rfl dX10_stops_49
set_option maxHeartbeats 4000000 in
set_option maxRecDepth 100000 in
theorem c_X10_ring (l : Launch) (D : va_G) (cB cI cJ cD : ClassId) (h0 h1 h2 h3 h4 : Nat) (z0 : Nat) (z1 : Nat) (z2 : Nat) (z3 : Nat) (z4 : Nat) (z5 : Nat) (z6 : Nat) (z7 : Nat) (z8 : Nat) (z9 : Nat) (z10 : Nat) (z11 : Nat) (z12 : Nat) (z13 : Nat) (z14 : Nat) (z15 : Nat) (z16 : Nat) (z17 : Nat) (z18 : Nat) (z19 : Nat) (p0 : Int32) (p1 : Int32) (sz : Nat) : Met l yX10_ring (kk_W yX10_ring cX10_ring 5 (some .int)) ({ frames := 1, cells := 0, slots := 0, locals := 21 }) (va_Pc [.ref h0, .int p0, .int p1] (kk_pre D cB cI cJ cD [kO h0 9 [.ref z0, .ref z1, .ref h1, .ref z2, .int 0, .ref z3, .ref z4], kO h1 2 [.ref h2, .ref z5, .int 0], kO h2 0 [.ref h3, .ref z6, .ref z7, .int 0, .int (-1)], kO h3 8 [.ref z8, .ref h4, .ref z9, .int 0, .int 0, .int 0, .int 0, .int 0], kO h4 1 [.int 0, .ref z10, .ref z11, .ref z12, .ref z13, .ref z14, .ref z15, .ref z16, .ref z17, .ref z18, .ref z19, .int 0]] sz)) (vp_Si (fun r => r = (-1))) 0 0 (fun _ => False) := by
  refine kk_pstart (y := yX10_ring) (maxL := 5) (av := [.ref h0, .int p0, .int p1]) (by decide) (Nat.le_of_ble_eq_true rfl) ?_
  intro p e s m below meth c ls hx hb hr hml hown hts hE hlocks hsz hP hD hl
  have hown : s.vm.findClass RX10 = some m.cls := hown
  have hl : lv_has ls 5 [(0, .ref h0), (1, .int p0), (2, .int p1)] := hl
  refine lv_aload_n hx hb dX10_ring_0 rfl (lv_at hl 0 rfl) ?_
  refine va_get (D := D) (ci := 9) (v := .ref h1) (C := RX10) (T := TX10) (N := 7) hx hb hts u_X10 hown hE.1 hP 0 rfl rfl 2 (by decide) (hts _ w_491) (fun _ h9 => h9) rfl dX10_ring_1 ?_
  refine va_get (D := D) (ci := 2) (v := .ref h2) (C := RX2) (T := TX2) (N := 3) hx hb hts u_X2 hown hE.1 hP 1 rfl rfl 0 (by decide) (hts _ w_474) (fun _ h9 => h9) rfl dX10_ring_4 ?_
  refine va_get (D := D) (ci := 0) (v := .ref h3) (C := RX0) (T := TX0) (N := 5) hx hb hts u_X0 hown hE.1 hP 2 rfl rfl 0 (by decide) (hts _ w_420) (fun _ h9 => h9) rfl dX10_ring_7 ?_
  refine lv_astore_n (lv' := [(3, .ref h3), (0, .ref h0), (1, .int p0), (2, .int p1)]) hx hb dX10_ring_10 rfl hl (by decide) rfl (fun ls hl => ?_)
  refine lv_aload_n hx hb dX10_ring_11 rfl (lv_at hl 0 rfl) ?_
  refine va_get (D := D) (ci := 8) (v := .ref h4) (C := RX9) (T := TX9) (N := 8) hx hb hts u_X9 hown hE.1 hP 3 rfl rfl 1 (by decide) (hts _ w_390) (fun _ h9 => h9) rfl dX10_ring_12 ?_
  refine lv_astore (lv' := [(4, .ref h4), (3, .ref h3), (0, .ref h0), (1, .int p0), (2, .int p1)]) hx hb dX10_ring_15 hl (by decide) rfl (fun ls hl => ?_)
  refine lv_aload hx hb dX10_ring_17 (lv_at hl 0 rfl) ?_
  refine lv_iload_n hx hb dX10_ring_19 rfl (lv_at hl 3 rfl) ?_
  refine kk_pi (kk_runV (w1 := [kO h4 1 [.int 0, .ref z10, .ref z11, .ref z12, .ref z13, .ref z14, .ref z15, .ref z16, .ref z17, .ref z18, .ref z19, .int 0]]) (As := [.int p0]) (rest := []) hx hb hml hown hts hE (c_X1_has l D cB cI cJ cD h4 z10 z11 z12 z13 z14 z15 z16 z17 z18 z19 p0 s.heap.size) m_X1_has w_705 ⟨rfl, rfl, Nat.le_of_ble_eq_true rfl, Nat.le_of_ble_eq_true rfl⟩ (hP.sub [4] rfl) (hD.sub [4] (by decide +kernel) rfl) 0 1 rfl rfl rfl hl.1 (Nat.le_of_ble_eq_true rfl) dX10_ring_20 ⟨Nat.le_of_ble_eq_true rfl, Nat.le_of_ble_eq_true rfl⟩) (fun r_1 p_1 => ?_)
  obtain rfl : r_1 = 0 := p_1
  refine lv_if_eq (tgt := 51) hx hb dX10_ring_23 (by decide) (fun _ => ?_) (fun c_2 => absurd c_2 (by decide))
  refine lv_iconst (v := (-1)) hx hb dX10_ring_51 (by decide) ?_
  exact kk_pret_i hx hb hr hlocks rfl dX10_ring_52
set_option maxHeartbeats 4000000 in
set_option maxRecDepth 100000 in
theorem c_X10_free (l : Launch) (D : va_G) (cB cI cJ cD : ClassId) (h0 h1 h2 h3 h4 h5 : Nat) (z0 : Nat) (z1 : Nat) (z2 : Nat) (z3 : Nat) (z4 : Nat) (z5 : Nat) (z6 : Nat) (z7 : Nat) (z8 : Nat) (z9 : Nat) (z10 : Nat) (z11 : Nat) (z12 : Nat) (z13 : Nat) (z14 : Nat) (z15 : Nat) (sz : Nat) : Met l yX10_free (kk_W yX10_free cX10_free 4 (some .int)) ({ frames := 0, cells := 0, slots := 0, locals := 0 }) (va_Pc [.ref h0] (kk_pre D cB cI cJ cD [kO h0 9 [.ref z0, .ref z1, .ref h1, .ref z2, .int 0, .ref z3, .ref z4], kO h1 2 [.ref h2, .ref z5, .int 0], kO h2 0 [.ref h3, .ref z6, .ref z7, .int 0, .int (-1)], kO h3 8 [.ref h4, .ref z8, .ref z9, .int 0, .int 0, .int 0, .int 0, .int 0], kO h4 6 [.int 0, .ref z10, .ref z11, .ref z12, .ref z13, .ref h5, .ref z14, .ref z15], kI cI h5 25 (fun _ => 0)] sz)) (vp_Si (fun r => r = 1)) 0 0 (fun _ => False) := by
  refine kk_pstart (y := yX10_free) (maxL := 4) (av := [.ref h0]) (by decide) (Nat.le_of_ble_eq_true rfl) ?_
  intro p e s m below meth c ls hx hb hr hml hown hts hE hlocks hsz hP hD hl
  have hown : s.vm.findClass RX10 = some m.cls := hown
  have hl : lv_has ls 4 [(0, .ref h0)] := hl
  refine lv_aload_n hx hb dX10_free_0 rfl (lv_at hl 0 rfl) ?_
  refine va_get (D := D) (ci := 9) (v := .ref h1) (C := RX10) (T := TX10) (N := 7) hx hb hts u_X10 hown hE.1 hP 0 rfl rfl 2 (by decide) (hts _ w_491) (fun _ h9 => h9) rfl dX10_free_1 ?_
  refine va_get (D := D) (ci := 2) (v := .ref h2) (C := RX2) (T := TX2) (N := 3) hx hb hts u_X2 hown hE.1 hP 1 rfl rfl 0 (by decide) (hts _ w_474) (fun _ h9 => h9) rfl dX10_free_4 ?_
  refine va_get (D := D) (ci := 0) (v := .ref h3) (C := RX0) (T := TX0) (N := 5) hx hb hts u_X0 hown hE.1 hP 2 rfl rfl 0 (by decide) (hts _ w_420) (fun _ h9 => h9) rfl dX10_free_7 ?_
  refine va_get (D := D) (ci := 8) (v := .ref h4) (C := RX9) (T := TX9) (N := 8) hx hb hts u_X9 hown hE.1 hP 3 rfl rfl 0 (by decide) (hts _ w_385) (fun _ h9 => h9) rfl dX10_free_10 ?_
  refine lv_astore_n (lv' := [(1, .ref h4), (0, .ref h0)]) hx hb dX10_free_13 rfl hl (by decide) rfl (fun ls hl => ?_)
  refine lv_iconst (v := 0) hx hb dX10_free_14 (by decide) ?_
  refine lv_istore_n (lv' := [(2, .int 0), (1, .ref h4), (0, .ref h0)]) hx hb dX10_free_15 rfl hl (by decide) rfl (fun ls hl => ?_)
  refine lv_iconst (v := 0) hx hb dX10_free_16 (by decide) ?_
  refine lv_istore_n (lv' := [(3, .int 0), (2, .int 0), (1, .ref h4), (0, .ref h0)]) hx hb dX10_free_17 rfl hl (by decide) rfl (fun ls hl => ?_)
  refine lv_iload_n hx hb dX10_free_18 rfl (lv_at hl 0 rfl) ?_
  refine lv_aload_n hx hb dX10_free_19 rfl (lv_at hl 2 rfl) ?_
  refine va_get (D := D) (ci := 6) (v := .int 0) (C := RX7) (T := TX7) (N := 8) hx hb hts u_X7 hown hE.1 hP 4 rfl rfl 0 (by decide) (hts _ w_159) (fun _ h9 => h9) rfl dX10_free_20 ?_
  refine lv_icmp_gt (tgt := 51) hx hb dX10_free_23 (by decide) (fun c_1 => absurd c_1 (by decide)) (fun _ => ?_)
  refine lv_iload_n hx hb dX10_free_26 rfl (lv_at hl 1 rfl) ?_
  refine lv_aload_n hx hb dX10_free_27 rfl (lv_at hl 2 rfl) ?_
  refine va_get (D := D) (ci := 6) (v := .ref h5) (C := RX7) (T := TX7) (N := 8) hx hb hts u_X7 hown hE.1 hP 4 rfl rfl 5 (by decide) (hts _ w_179) (fun _ h9 => h9) rfl dX10_free_28 ?_
  refine lv_iload_n hx hb dX10_free_31 rfl (lv_at hl 0 rfl) ?_
  refine va_iald hx hb hE.1 hP 5 1 rfl rfl (kk_ix _ _ (by decide)) dX10_free_32 ?_
  refine lv_topi (fun v_2 e_2 => ?_)
  obtain rfl : v_2 = 0 := e_2.trans (by decide)
  refine lv_if_ne (tgt := 42) hx hb dX10_free_33 (by decide) (fun c_3 => absurd c_3 (by decide)) (fun _ => ?_)
  refine lv_iconst (v := 1) hx hb dX10_free_36 (by decide) ?_
  refine lv_iload_n hx hb dX10_free_37 rfl (lv_at hl 0 rfl) ?_
  refine lv_ishl hx hb dX10_free_38 ?_
  refine lv_topi (fun v_4 e_4 => ?_)
  obtain rfl : v_4 = 1 := e_4.trans (by decide)
  refine lv_goto (tgt := 43) hx hb dX10_free_39 (by decide) ?_
  refine lv_ior hx hb dX10_free_43 ?_
  refine lv_topi (fun v_5 e_5 => ?_)
  obtain rfl : v_5 = 1 := e_5.trans (by decide)
  refine lv_istore_n (lv' := [(2, .int 1), (3, .int 0), (1, .ref h4), (0, .ref h0)]) hx hb dX10_free_44 rfl hl (by decide) rfl (fun ls hl => ?_)
  refine lv_iinc (v := 1) (lv' := [(3, .int 1), (2, .int 1), (1, .ref h4), (0, .ref h0)]) hx hb dX10_free_45 hl (k := 1) rfl (by decide) (by decide) rfl (fun ls hl => ?_)
  refine lv_goto (tgt := 18) hx hb dX10_free_48 (by decide) ?_
  refine lv_iload_n hx hb dX10_free_18 rfl (lv_at hl 0 rfl) ?_
  refine lv_aload_n hx hb dX10_free_19 rfl (lv_at hl 2 rfl) ?_
  refine va_get (D := D) (ci := 6) (v := .int 0) (C := RX7) (T := TX7) (N := 8) hx hb hts u_X7 hown hE.1 hP 4 rfl rfl 0 (by decide) (hts _ w_159) (fun _ h9 => h9) rfl dX10_free_20 ?_
  refine lv_icmp_gt (tgt := 51) hx hb dX10_free_23 (by decide) (fun _ => ?_) (fun c_6 => absurd c_6 (by decide))
  refine lv_iload_n hx hb dX10_free_51 rfl (lv_at hl 1 rfl) ?_
  exact kk_pret_i hx hb hr hlocks rfl dX10_free_52
set_option maxHeartbeats 4000000 in
set_option maxRecDepth 100000 in
theorem c_X1_mayDo (l : Launch) (D : va_G) (cB cI cJ cD : ClassId) (h0 : Nat) (z0 : Nat) (z1 : Nat) (z2 : Nat) (z3 : Nat) (z4 : Nat) (z5 : Nat) (z6 : Nat) (z7 : Nat) (z8 : Nat) (z9 : Nat) (p0 : Int32) (sz : Nat) : Met l yX1_mayDo (kk_W yX1_mayDo cX1_mayDo 3 (some .boolean)) ({ frames := 1, cells := 0, slots := 0, locals := 21 }) (va_Pc [.ref h0, .int p0, .int 0] (kk_pre D cB cI cJ cD [kO h0 1 [.int 0, .ref z0, .ref z1, .ref z2, .ref z3, .ref z4, .ref z5, .ref z6, .ref z7, .ref z8, .ref z9, .int 0]] sz)) (vp_Si (fun r => r = 0)) 0 0 (fun _ => False) := by
  refine kk_pstart (y := yX1_mayDo) (maxL := 3) (av := [.ref h0, .int p0, .int 0]) (by decide) (Nat.le_of_ble_eq_true rfl) ?_
  intro p e s m below meth c ls hx hb hr hml hown hts hE hlocks hsz hP hD hl
  have hown : s.vm.findClass RX1 = some m.cls := hown
  have hl : lv_has ls 3 [(0, .ref h0), (1, .int p0), (2, .int 0)] := hl
  refine lv_aload_n hx hb dX1_mayDo_0 rfl (lv_at hl 0 rfl) ?_
  refine lv_iload_n hx hb dX1_mayDo_1 rfl (lv_at hl 1 rfl) ?_
  refine kk_pi (kk_runV (w1 := [kO h0 1 [.int 0, .ref z0, .ref z1, .ref z2, .ref z3, .ref z4, .ref z5, .ref z6, .ref z7, .ref z8, .ref z9, .int 0]]) (As := [.int p0]) (rest := []) hx hb hml hown hts hE (c_X1_has l D cB cI cJ cD h0 z0 z1 z2 z3 z4 z5 z6 z7 z8 z9 p0 s.heap.size) m_X1_has w_771 ⟨rfl, rfl, Nat.le_of_ble_eq_true rfl, Nat.le_of_ble_eq_true rfl⟩ (hP.sub [0] rfl) (hD.sub [0] (by decide +kernel) rfl) 0 1 rfl rfl rfl hl.1 (Nat.le_of_ble_eq_true rfl) dX1_mayDo_2 ⟨Nat.le_of_ble_eq_true rfl, Nat.le_of_ble_eq_true rfl⟩) (fun r_1 p_1 => ?_)
  obtain rfl : r_1 = 0 := p_1
  refine lv_if_ne (tgt := 10) hx hb dX1_mayDo_5 (by decide) (fun c_2 => absurd c_2 (by decide)) (fun _ => ?_)
  refine lv_iconst (v := 0) hx hb dX1_mayDo_8 (by decide) ?_
  exact kk_pret_z hx hb hr hlocks (by decide) rfl dX1_mayDo_9
set_option maxHeartbeats 4000000 in
set_option maxRecDepth 100000 in
theorem c_X9_act (l : Launch) (D : va_G) (cB cI cJ cD : ClassId) (h0 h1 : Nat) (z0 : Nat) (z1 : Nat) (z2 : Nat) (z3 : Nat) (z4 : Nat) (z5 : Nat) (z6 : Nat) (z7 : Nat) (z8 : Nat) (z9 : Nat) (z10 : Nat) (z11 : Nat) (p0 : Int32) (sz : Nat) : Met l yX9_act (kk_W yX9_act cX9_act 7 (some .int)) ({ frames := 2, cells := 0, slots := 0, locals := 43 }) (va_Pc [.ref h0, .int p0, .int 0, .int 0, .int 0, .int 0] (kk_pre D cB cI cJ cD [kO h0 8 [.ref z0, .ref h1, .ref z1, .int 0, .int 0, .int 0, .int 0, .int 0], kO h1 1 [.int 0, .ref z2, .ref z3, .ref z4, .ref z5, .ref z6, .ref z7, .ref z8, .ref z9, .ref z10, .ref z11, .int 0]] sz)) (vp_Si (fun r => r = (-1))) 0 0 (fun _ => False) := by
  refine kk_pstart (y := yX9_act) (maxL := 7) (av := [.ref h0, .int p0, .int 0, .int 0, .int 0, .int 0]) (by decide) (Nat.le_of_ble_eq_true rfl) ?_
  intro p e s m below meth c ls hx hb hr hml hown hts hE hlocks hsz hP hD hl
  have hown : s.vm.findClass RX9 = some m.cls := hown
  have hl : lv_has ls 7 [(0, .ref h0), (1, .int p0), (2, .int 0), (3, .int 0), (4, .int 0), (5, .int 0)] := hl
  refine lv_aload_n hx hb dX9_act_0 rfl (lv_at hl 0 rfl) ?_
  refine va_get (D := D) (ci := 8) (v := .ref h1) (C := RX9) (T := TX9) (N := 8) hx hb hts u_X9 hown hE.1 hP 0 rfl rfl 1 (by decide) (hts _ w_387) (fun _ h9 => h9) rfl dX9_act_1 ?_
  refine lv_iload_n hx hb dX9_act_4 rfl (lv_at hl 1 rfl) ?_
  refine lv_iload_n hx hb dX9_act_5 rfl (lv_at hl 2 rfl) ?_
  refine kk_pi (kk_runV (w1 := [kO h1 1 [.int 0, .ref z2, .ref z3, .ref z4, .ref z5, .ref z6, .ref z7, .ref z8, .ref z9, .ref z10, .ref z11, .int 0]]) (As := [.int p0, .int 0]) (rest := []) hx hb hml hown hts hE (c_X1_mayDo l D cB cI cJ cD h1 z2 z3 z4 z5 z6 z7 z8 z9 z10 z11 p0 s.heap.size) m_X1_mayDo w_767 ⟨rfl, rfl, Nat.le_of_ble_eq_true rfl, Nat.le_of_ble_eq_true rfl⟩ (hP.sub [1] rfl) (hD.sub [1] (by decide +kernel) rfl) 0 1 rfl rfl rfl hl.1 (Nat.le_of_ble_eq_true rfl) dX9_act_6 ⟨Nat.le_of_ble_eq_true rfl, Nat.le_of_ble_eq_true rfl⟩) (fun r_1 p_1 => ?_)
  obtain rfl : r_1 = 0 := p_1
  refine lv_if_ne (tgt := 14) hx hb dX9_act_9 (by decide) (fun c_2 => absurd c_2 (by decide)) (fun _ => ?_)
  refine lv_iconst (v := (-1)) hx hb dX9_act_12 (by decide) ?_
  exact kk_pret_i hx hb hr hlocks rfl dX9_act_13
set_option maxHeartbeats 4000000 in
set_option maxRecDepth 100000 in
theorem c_X10_open (l : Launch) (D : va_G) (cB cI cJ cD : ClassId) (h0 h1 h2 h3 h4 : Nat) (z0 : Nat) (z1 : Nat) (z2 : Nat) (z3 : Nat) (z4 : Nat) (z5 : Nat) (z6 : Nat) (z7 : Nat) (z8 : Nat) (z9 : Nat) (z10 : Nat) (z11 : Nat) (z12 : Nat) (z13 : Nat) (z14 : Nat) (z15 : Nat) (z16 : Nat) (z17 : Nat) (z18 : Nat) (z19 : Nat) (p0 : Int32) (sz : Nat) : Met l yX10_open (kk_W yX10_open cX10_open 2 (some .int)) ({ frames := 3, cells := 0, slots := 0, locals := 69 }) (va_Pc [.ref h0, .int p0] (kk_pre D cB cI cJ cD [kO h0 9 [.ref z0, .ref z1, .ref h1, .ref z2, .int 0, .ref z3, .ref z4], kO h1 2 [.ref h2, .ref z5, .int 0], kO h2 0 [.ref h3, .ref z6, .ref z7, .int 0, .int (-1)], kO h3 8 [.ref z8, .ref h4, .ref z9, .int 0, .int 0, .int 0, .int 0, .int 0], kO h4 1 [.int 0, .ref z10, .ref z11, .ref z12, .ref z13, .ref z14, .ref z15, .ref z16, .ref z17, .ref z18, .ref z19, .int 0]] sz)) (vp_Si (fun r => r = (-1))) 0 0 (fun _ => False) := by
  refine kk_pstart (y := yX10_open) (maxL := 2) (av := [.ref h0, .int p0]) (by decide) (Nat.le_of_ble_eq_true rfl) ?_
  intro p e s m below meth c ls hx hb hr hml hown hts hE hlocks hsz hP hD hl
  have hown : s.vm.findClass RX10 = some m.cls := hown
  have hl : lv_has ls 2 [(0, .ref h0), (1, .int p0)] := hl
  refine lv_aload_n hx hb dX10_open_0 rfl (lv_at hl 0 rfl) ?_
  refine va_get (D := D) (ci := 9) (v := .ref h1) (C := RX10) (T := TX10) (N := 7) hx hb hts u_X10 hown hE.1 hP 0 rfl rfl 2 (by decide) (hts _ w_491) (fun _ h9 => h9) rfl dX10_open_1 ?_
  refine va_get (D := D) (ci := 2) (v := .ref h2) (C := RX2) (T := TX2) (N := 3) hx hb hts u_X2 hown hE.1 hP 1 rfl rfl 0 (by decide) (hts _ w_474) (fun _ h9 => h9) rfl dX10_open_4 ?_
  refine va_get (D := D) (ci := 0) (v := .ref h3) (C := RX0) (T := TX0) (N := 5) hx hb hts u_X0 hown hE.1 hP 2 rfl rfl 0 (by decide) (hts _ w_420) (fun _ h9 => h9) rfl dX10_open_7 ?_
  refine lv_iload_n hx hb dX10_open_10 rfl (lv_at hl 1 rfl) ?_
  refine lv_iconst (v := 0) hx hb dX10_open_11 (by decide) ?_
  refine lv_iconst (v := 0) hx hb dX10_open_12 (by decide) ?_
  refine lv_iconst (v := 0) hx hb dX10_open_13 (by decide) ?_
  refine lv_iconst (v := 0) hx hb dX10_open_14 (by decide) ?_
  refine kk_pi (kk_runV (w1 := [kO h3 8 [.ref z8, .ref h4, .ref z9, .int 0, .int 0, .int 0, .int 0, .int 0], kO h4 1 [.int 0, .ref z10, .ref z11, .ref z12, .ref z13, .ref z14, .ref z15, .ref z16, .ref z17, .ref z18, .ref z19, .int 0]]) (As := [.int p0, .int 0, .int 0, .int 0, .int 0]) (rest := []) hx hb hml hown hts hE (c_X9_act l D cB cI cJ cD h3 h4 z8 z9 z10 z11 z12 z13 z14 z15 z16 z17 z18 z19 p0 s.heap.size) m_X9_act w_763 ⟨rfl, rfl, Nat.le_of_ble_eq_true rfl, Nat.le_of_ble_eq_true rfl⟩ (hP.sub [3, 4] rfl) (hD.sub [3, 4] (by decide +kernel) rfl) 0 8 rfl rfl rfl hl.1 (Nat.le_of_ble_eq_true rfl) dX10_open_15 ⟨Nat.le_of_ble_eq_true rfl, Nat.le_of_ble_eq_true rfl⟩) (fun r_1 p_1 => ?_)
  obtain rfl : r_1 = (-1) := p_1
  exact kk_pret_i hx hb hr hlocks rfl dX10_open_18
set_option maxHeartbeats 4000000 in
set_option maxRecDepth 100000 in
theorem c_X1_mayDo_2 (l : Launch) (D : va_G) (cB cI cJ cD : ClassId) (h0 : Nat) (z0 : Nat) (z1 : Nat) (z2 : Nat) (z3 : Nat) (z4 : Nat) (z5 : Nat) (z6 : Nat) (z7 : Nat) (z8 : Nat) (z9 : Nat) (p0 : Int32) (sz : Nat) : Met l yX1_mayDo (kk_W yX1_mayDo cX1_mayDo 3 (some .boolean)) ({ frames := 1, cells := 0, slots := 0, locals := 21 }) (va_Pc [.ref h0, .int p0, .int 1] (kk_pre D cB cI cJ cD [kO h0 1 [.int 0, .ref z0, .ref z1, .ref z2, .ref z3, .ref z4, .ref z5, .ref z6, .ref z7, .ref z8, .ref z9, .int 0]] sz)) (vp_Si (fun r => r = 0)) 0 0 (fun _ => False) := by
  refine kk_pstart (y := yX1_mayDo) (maxL := 3) (av := [.ref h0, .int p0, .int 1]) (by decide) (Nat.le_of_ble_eq_true rfl) ?_
  intro p e s m below meth c ls hx hb hr hml hown hts hE hlocks hsz hP hD hl
  have hown : s.vm.findClass RX1 = some m.cls := hown
  have hl : lv_has ls 3 [(0, .ref h0), (1, .int p0), (2, .int 1)] := hl
  refine lv_aload_n hx hb dX1_mayDo_0 rfl (lv_at hl 0 rfl) ?_
  refine lv_iload_n hx hb dX1_mayDo_1 rfl (lv_at hl 1 rfl) ?_
  refine kk_pi (kk_runV (w1 := [kO h0 1 [.int 0, .ref z0, .ref z1, .ref z2, .ref z3, .ref z4, .ref z5, .ref z6, .ref z7, .ref z8, .ref z9, .int 0]]) (As := [.int p0]) (rest := []) hx hb hml hown hts hE (c_X1_has l D cB cI cJ cD h0 z0 z1 z2 z3 z4 z5 z6 z7 z8 z9 p0 s.heap.size) m_X1_has w_771 ⟨rfl, rfl, Nat.le_of_ble_eq_true rfl, Nat.le_of_ble_eq_true rfl⟩ (hP.sub [0] rfl) (hD.sub [0] (by decide +kernel) rfl) 0 1 rfl rfl rfl hl.1 (Nat.le_of_ble_eq_true rfl) dX1_mayDo_2 ⟨Nat.le_of_ble_eq_true rfl, Nat.le_of_ble_eq_true rfl⟩) (fun r_1 p_1 => ?_)
  obtain rfl : r_1 = 0 := p_1
  refine lv_if_ne (tgt := 10) hx hb dX1_mayDo_5 (by decide) (fun c_2 => absurd c_2 (by decide)) (fun _ => ?_)
  refine lv_iconst (v := 0) hx hb dX1_mayDo_8 (by decide) ?_
  exact kk_pret_z hx hb hr hlocks (by decide) rfl dX1_mayDo_9
set_option maxHeartbeats 4000000 in
set_option maxRecDepth 100000 in
theorem c_X9_act_2 (l : Launch) (D : va_G) (cB cI cJ cD : ClassId) (h0 h1 : Nat) (z0 : Nat) (z1 : Nat) (z2 : Nat) (z3 : Nat) (z4 : Nat) (z5 : Nat) (z6 : Nat) (z7 : Nat) (z8 : Nat) (z9 : Nat) (z10 : Nat) (z11 : Nat) (p0 : Int32) (p1 : Int32) (p2 : Int32) (sz : Nat) : Met l yX9_act (kk_W yX9_act cX9_act 7 (some .int)) ({ frames := 2, cells := 0, slots := 0, locals := 43 }) (va_Pc [.ref h0, .int p0, .int 1, .int p1, .int p2, .int 0] (kk_pre D cB cI cJ cD [kO h0 8 [.ref z0, .ref h1, .ref z1, .int 0, .int 0, .int 0, .int 0, .int 0], kO h1 1 [.int 0, .ref z2, .ref z3, .ref z4, .ref z5, .ref z6, .ref z7, .ref z8, .ref z9, .ref z10, .ref z11, .int 0]] sz)) (vp_Si (fun r => r = (-1))) 0 0 (fun _ => False) := by
  refine kk_pstart (y := yX9_act) (maxL := 7) (av := [.ref h0, .int p0, .int 1, .int p1, .int p2, .int 0]) (by decide) (Nat.le_of_ble_eq_true rfl) ?_
  intro p e s m below meth c ls hx hb hr hml hown hts hE hlocks hsz hP hD hl
  have hown : s.vm.findClass RX9 = some m.cls := hown
  have hl : lv_has ls 7 [(0, .ref h0), (1, .int p0), (2, .int 1), (3, .int p1), (4, .int p2), (5, .int 0)] := hl
  refine lv_aload_n hx hb dX9_act_0 rfl (lv_at hl 0 rfl) ?_
  refine va_get (D := D) (ci := 8) (v := .ref h1) (C := RX9) (T := TX9) (N := 8) hx hb hts u_X9 hown hE.1 hP 0 rfl rfl 1 (by decide) (hts _ w_387) (fun _ h9 => h9) rfl dX9_act_1 ?_
  refine lv_iload_n hx hb dX9_act_4 rfl (lv_at hl 1 rfl) ?_
  refine lv_iload_n hx hb dX9_act_5 rfl (lv_at hl 2 rfl) ?_
  refine kk_pi (kk_runV (w1 := [kO h1 1 [.int 0, .ref z2, .ref z3, .ref z4, .ref z5, .ref z6, .ref z7, .ref z8, .ref z9, .ref z10, .ref z11, .int 0]]) (As := [.int p0, .int 1]) (rest := []) hx hb hml hown hts hE (c_X1_mayDo_2 l D cB cI cJ cD h1 z2 z3 z4 z5 z6 z7 z8 z9 z10 z11 p0 s.heap.size) m_X1_mayDo w_767 ⟨rfl, rfl, Nat.le_of_ble_eq_true rfl, Nat.le_of_ble_eq_true rfl⟩ (hP.sub [1] rfl) (hD.sub [1] (by decide +kernel) rfl) 0 1 rfl rfl rfl hl.1 (Nat.le_of_ble_eq_true rfl) dX9_act_6 ⟨Nat.le_of_ble_eq_true rfl, Nat.le_of_ble_eq_true rfl⟩) (fun r_1 p_1 => ?_)
  obtain rfl : r_1 = 0 := p_1
  refine lv_if_ne (tgt := 14) hx hb dX9_act_9 (by decide) (fun c_2 => absurd c_2 (by decide)) (fun _ => ?_)
  refine lv_iconst (v := (-1)) hx hb dX9_act_12 (by decide) ?_
  exact kk_pret_i hx hb hr hlocks rfl dX9_act_13
set_option maxHeartbeats 4000000 in
set_option maxRecDepth 100000 in
theorem c_X10_scan (l : Launch) (D : va_G) (cB cI cJ cD : ClassId) (h0 h1 h2 h3 h4 : Nat) (z0 : Nat) (z1 : Nat) (z2 : Nat) (z3 : Nat) (z4 : Nat) (z5 : Nat) (z6 : Nat) (z7 : Nat) (z8 : Nat) (z9 : Nat) (z10 : Nat) (z11 : Nat) (z12 : Nat) (z13 : Nat) (z14 : Nat) (z15 : Nat) (z16 : Nat) (z17 : Nat) (z18 : Nat) (z19 : Nat) (p0 : Int32) (p1 : Int32) (p2 : Int32) (sz : Nat) : Met l yX10_scan (kk_W yX10_scan cX10_scan 6 (some .int)) ({ frames := 3, cells := 0, slots := 0, locals := 69 }) (va_Pc [.ref h0, .int p0, .int p1, .int p2] (kk_pre D cB cI cJ cD [kO h0 9 [.ref z0, .ref z1, .ref h1, .ref z2, .int 0, .ref z3, .ref z4], kO h1 2 [.ref h2, .ref z5, .int 0], kO h2 0 [.ref h3, .ref z6, .ref z7, .int 0, .int (-1)], kO h3 8 [.ref z8, .ref h4, .ref z9, .int 0, .int 0, .int 0, .int 0, .int 0], kO h4 1 [.int 0, .ref z10, .ref z11, .ref z12, .ref z13, .ref z14, .ref z15, .ref z16, .ref z17, .ref z18, .ref z19, .int 0]] sz)) (vp_Si (fun r => r = (-1))) 0 0 (fun _ => False) := by
  refine kk_pstart (y := yX10_scan) (maxL := 6) (av := [.ref h0, .int p0, .int p1, .int p2]) (by decide) (Nat.le_of_ble_eq_true rfl) ?_
  intro p e s m below meth c ls hx hb hr hml hown hts hE hlocks hsz hP hD hl
  have hown : s.vm.findClass RX10 = some m.cls := hown
  have hl : lv_has ls 6 [(0, .ref h0), (1, .int p0), (2, .int p1), (3, .int p2)] := hl
  refine lv_iload_n hx hb dX10_scan_0 rfl (lv_at hl 2 rfl) ?_
  refine kk_pi (kk_runS (w1 := []) (As := [.int p1]) (rest := []) hx hb hml hown hts hE (c_X4_packedKey l D cB cI cJ cD p1 s.heap.size) m_X4_packedKey w_867 ⟨rfl, rfl, Nat.le_of_ble_eq_true rfl, Nat.le_of_ble_eq_true rfl⟩ (hP.sub [] rfl) (hD.sub [] (by decide +kernel) rfl) rfl hl.1 (Nat.le_of_ble_eq_true rfl) dX10_scan_1 ⟨Nat.le_of_ble_eq_true rfl, Nat.le_of_ble_eq_true rfl⟩) (fun r_1 p_1 => ?_)
  obtain rfl : kq p1 = r_1 := (p_1).symm
  refine lv_istore (lv' := [(4, .int (kq p1)), (0, .ref h0), (1, .int p0), (2, .int p1), (3, .int p2)]) hx hb dX10_scan_4 hl (by decide) rfl (fun ls hl => ?_)
  refine lv_iload_n hx hb dX10_scan_6 rfl (lv_at hl 4 rfl) ?_
  refine kk_pi (kk_runS (w1 := []) (As := [.int p2]) (rest := []) hx hb hml hown hts hE (c_X4_packedKey l D cB cI cJ cD p2 s.heap.size) m_X4_packedKey w_867 ⟨rfl, rfl, Nat.le_of_ble_eq_true rfl, Nat.le_of_ble_eq_true rfl⟩ (hP.sub [] rfl) (hD.sub [] (by decide +kernel) rfl) rfl hl.1 (Nat.le_of_ble_eq_true rfl) dX10_scan_7 ⟨Nat.le_of_ble_eq_true rfl, Nat.le_of_ble_eq_true rfl⟩) (fun r_2 p_2 => ?_)
  obtain rfl : kq p2 = r_2 := (p_2).symm
  refine lv_istore (lv' := [(5, .int (kq p2)), (4, .int (kq p1)), (0, .ref h0), (1, .int p0), (2, .int p1), (3, .int p2)]) hx hb dX10_scan_10 hl (by decide) rfl (fun ls hl => ?_)
  refine lv_iload hx hb dX10_scan_12 (lv_at hl 1 rfl) ?_
  refine lv_iconst (v := (-1)) hx hb dX10_scan_14 (by decide) ?_
  refine lv_icmp_eq (tgt := 31) hx hb dX10_scan_15 (by decide) (fun c_3 => ?_) (fun c_3 => ?_)
  · refine lv_iconst (v := (-1)) hx hb dX10_scan_31 (by decide) ?_
    exact kk_pret_i hx hb hr hlocks rfl dX10_scan_32
  · refine lv_iload hx hb dX10_scan_18 (lv_at hl 0 rfl) ?_
    refine lv_iconst (v := (-1)) hx hb dX10_scan_20 (by decide) ?_
    refine lv_icmp_eq (tgt := 31) hx hb dX10_scan_21 (by decide) (fun c_4 => ?_) (fun c_4 => ?_)
    · refine lv_iconst (v := (-1)) hx hb dX10_scan_31 (by decide) ?_
      exact kk_pret_i hx hb hr hlocks rfl dX10_scan_32
    · refine lv_iload hx hb dX10_scan_24 (lv_at hl 1 rfl) ?_
      refine lv_iload hx hb dX10_scan_26 (lv_at hl 0 rfl) ?_
      refine lv_icmp_le (tgt := 33) hx hb dX10_scan_28 (by decide) (fun c_5 => ?_) (fun c_5 => ?_)
      · refine lv_aload_n hx hb dX10_scan_33 rfl (lv_at hl 2 rfl) ?_
        refine va_get (D := D) (ci := 9) (v := .ref h1) (C := RX10) (T := TX10) (N := 7) hx hb hts u_X10 hown hE.1 hP 0 rfl rfl 2 (by decide) (hts _ w_491) (fun _ h9 => h9) rfl dX10_scan_34 ?_
        refine va_get (D := D) (ci := 2) (v := .ref h2) (C := RX2) (T := TX2) (N := 3) hx hb hts u_X2 hown hE.1 hP 1 rfl rfl 0 (by decide) (hts _ w_474) (fun _ h9 => h9) rfl dX10_scan_37 ?_
        refine va_get (D := D) (ci := 0) (v := .ref h3) (C := RX0) (T := TX0) (N := 5) hx hb hts u_X0 hown hE.1 hP 2 rfl rfl 0 (by decide) (hts _ w_420) (fun _ h9 => h9) rfl dX10_scan_40 ?_
        refine lv_iload_n hx hb dX10_scan_43 rfl (lv_at hl 3 rfl) ?_
        refine lv_iconst (v := 1) hx hb dX10_scan_44 (by decide) ?_
        refine lv_iload hx hb dX10_scan_45 (lv_at hl 1 rfl) ?_
        refine lv_iload hx hb dX10_scan_47 (lv_at hl 0 rfl) ?_
        refine lv_iconst (v := 0) hx hb dX10_scan_49 (by decide) ?_
        refine kk_pi (kk_runV (w1 := [kO h3 8 [.ref z8, .ref h4, .ref z9, .int 0, .int 0, .int 0, .int 0, .int 0], kO h4 1 [.int 0, .ref z10, .ref z11, .ref z12, .ref z13, .ref z14, .ref z15, .ref z16, .ref z17, .ref z18, .ref z19, .int 0]]) (As := [.int p0, .int 1, .int (kq p1), .int (kq p2), .int 0]) (rest := []) hx hb hml hown hts hE (c_X9_act_2 l D cB cI cJ cD h3 h4 z8 z9 z10 z11 z12 z13 z14 z15 z16 z17 z18 z19 p0 (kq p1) (kq p2) s.heap.size) m_X9_act w_763 ⟨rfl, rfl, Nat.le_of_ble_eq_true rfl, Nat.le_of_ble_eq_true rfl⟩ (hP.sub [3, 4] rfl) (hD.sub [3, 4] (by decide +kernel) rfl) 0 8 rfl rfl rfl hl.1 (Nat.le_of_ble_eq_true rfl) dX10_scan_50 ⟨Nat.le_of_ble_eq_true rfl, Nat.le_of_ble_eq_true rfl⟩) (fun r_6 p_6 => ?_)
        obtain rfl : r_6 = (-1) := p_6
        exact kk_pret_i hx hb hr hlocks rfl dX10_scan_53
      · refine lv_iconst (v := (-1)) hx hb dX10_scan_31 (by decide) ?_
        exact kk_pret_i hx hb hr hlocks rfl dX10_scan_32
set_option maxHeartbeats 4000000 in
set_option maxRecDepth 100000 in
theorem c_X1_mayDo_3 (l : Launch) (D : va_G) (cB cI cJ cD : ClassId) (h0 : Nat) (z0 : Nat) (z1 : Nat) (z2 : Nat) (z3 : Nat) (z4 : Nat) (z5 : Nat) (z6 : Nat) (z7 : Nat) (z8 : Nat) (z9 : Nat) (p0 : Int32) (sz : Nat) : Met l yX1_mayDo (kk_W yX1_mayDo cX1_mayDo 3 (some .boolean)) ({ frames := 1, cells := 0, slots := 0, locals := 21 }) (va_Pc [.ref h0, .int p0, .int 2] (kk_pre D cB cI cJ cD [kO h0 1 [.int 0, .ref z0, .ref z1, .ref z2, .ref z3, .ref z4, .ref z5, .ref z6, .ref z7, .ref z8, .ref z9, .int 0]] sz)) (vp_Si (fun r => r = 0)) 0 0 (fun _ => False) := by
  refine kk_pstart (y := yX1_mayDo) (maxL := 3) (av := [.ref h0, .int p0, .int 2]) (by decide) (Nat.le_of_ble_eq_true rfl) ?_
  intro p e s m below meth c ls hx hb hr hml hown hts hE hlocks hsz hP hD hl
  have hown : s.vm.findClass RX1 = some m.cls := hown
  have hl : lv_has ls 3 [(0, .ref h0), (1, .int p0), (2, .int 2)] := hl
  refine lv_aload_n hx hb dX1_mayDo_0 rfl (lv_at hl 0 rfl) ?_
  refine lv_iload_n hx hb dX1_mayDo_1 rfl (lv_at hl 1 rfl) ?_
  refine kk_pi (kk_runV (w1 := [kO h0 1 [.int 0, .ref z0, .ref z1, .ref z2, .ref z3, .ref z4, .ref z5, .ref z6, .ref z7, .ref z8, .ref z9, .int 0]]) (As := [.int p0]) (rest := []) hx hb hml hown hts hE (c_X1_has l D cB cI cJ cD h0 z0 z1 z2 z3 z4 z5 z6 z7 z8 z9 p0 s.heap.size) m_X1_has w_771 ⟨rfl, rfl, Nat.le_of_ble_eq_true rfl, Nat.le_of_ble_eq_true rfl⟩ (hP.sub [0] rfl) (hD.sub [0] (by decide +kernel) rfl) 0 1 rfl rfl rfl hl.1 (Nat.le_of_ble_eq_true rfl) dX1_mayDo_2 ⟨Nat.le_of_ble_eq_true rfl, Nat.le_of_ble_eq_true rfl⟩) (fun r_1 p_1 => ?_)
  obtain rfl : r_1 = 0 := p_1
  refine lv_if_ne (tgt := 10) hx hb dX1_mayDo_5 (by decide) (fun c_2 => absurd c_2 (by decide)) (fun _ => ?_)
  refine lv_iconst (v := 0) hx hb dX1_mayDo_8 (by decide) ?_
  exact kk_pret_z hx hb hr hlocks (by decide) rfl dX1_mayDo_9
set_option maxHeartbeats 4000000 in
set_option maxRecDepth 100000 in
theorem c_X9_act_3 (l : Launch) (D : va_G) (cB cI cJ cD : ClassId) (h0 h1 : Nat) (z0 : Nat) (z1 : Nat) (z2 : Nat) (z3 : Nat) (z4 : Nat) (z5 : Nat) (z6 : Nat) (z7 : Nat) (z8 : Nat) (z9 : Nat) (z10 : Nat) (z11 : Nat) (p0 : Int32) (p1 : Int32) (sz : Nat) : Met l yX9_act (kk_W yX9_act cX9_act 7 (some .int)) ({ frames := 2, cells := 0, slots := 0, locals := 43 }) (va_Pc [.ref h0, .int p0, .int 2, .int p1, .int p1, .int 0] (kk_pre D cB cI cJ cD [kO h0 8 [.ref z0, .ref h1, .ref z1, .int 0, .int 0, .int 0, .int 0, .int 0], kO h1 1 [.int 0, .ref z2, .ref z3, .ref z4, .ref z5, .ref z6, .ref z7, .ref z8, .ref z9, .ref z10, .ref z11, .int 0]] sz)) (vp_Si (fun r => r = (-1))) 0 0 (fun _ => False) := by
  refine kk_pstart (y := yX9_act) (maxL := 7) (av := [.ref h0, .int p0, .int 2, .int p1, .int p1, .int 0]) (by decide) (Nat.le_of_ble_eq_true rfl) ?_
  intro p e s m below meth c ls hx hb hr hml hown hts hE hlocks hsz hP hD hl
  have hown : s.vm.findClass RX9 = some m.cls := hown
  have hl : lv_has ls 7 [(0, .ref h0), (1, .int p0), (2, .int 2), (3, .int p1), (4, .int p1), (5, .int 0)] := hl
  refine lv_aload_n hx hb dX9_act_0 rfl (lv_at hl 0 rfl) ?_
  refine va_get (D := D) (ci := 8) (v := .ref h1) (C := RX9) (T := TX9) (N := 8) hx hb hts u_X9 hown hE.1 hP 0 rfl rfl 1 (by decide) (hts _ w_387) (fun _ h9 => h9) rfl dX9_act_1 ?_
  refine lv_iload_n hx hb dX9_act_4 rfl (lv_at hl 1 rfl) ?_
  refine lv_iload_n hx hb dX9_act_5 rfl (lv_at hl 2 rfl) ?_
  refine kk_pi (kk_runV (w1 := [kO h1 1 [.int 0, .ref z2, .ref z3, .ref z4, .ref z5, .ref z6, .ref z7, .ref z8, .ref z9, .ref z10, .ref z11, .int 0]]) (As := [.int p0, .int 2]) (rest := []) hx hb hml hown hts hE (c_X1_mayDo_3 l D cB cI cJ cD h1 z2 z3 z4 z5 z6 z7 z8 z9 z10 z11 p0 s.heap.size) m_X1_mayDo w_767 ⟨rfl, rfl, Nat.le_of_ble_eq_true rfl, Nat.le_of_ble_eq_true rfl⟩ (hP.sub [1] rfl) (hD.sub [1] (by decide +kernel) rfl) 0 1 rfl rfl rfl hl.1 (Nat.le_of_ble_eq_true rfl) dX9_act_6 ⟨Nat.le_of_ble_eq_true rfl, Nat.le_of_ble_eq_true rfl⟩) (fun r_1 p_1 => ?_)
  obtain rfl : r_1 = 0 := p_1
  refine lv_if_ne (tgt := 14) hx hb dX9_act_9 (by decide) (fun c_2 => absurd c_2 (by decide)) (fun _ => ?_)
  refine lv_iconst (v := (-1)) hx hb dX9_act_12 (by decide) ?_
  exact kk_pret_i hx hb hr hlocks rfl dX9_act_13
set_option maxHeartbeats 4000000 in
set_option maxRecDepth 100000 in
theorem c_X10_actOnKey (l : Launch) (D : va_G) (cB cI cJ cD : ClassId) (h0 h1 h2 h3 h4 : Nat) (z0 : Nat) (z1 : Nat) (z2 : Nat) (z3 : Nat) (z4 : Nat) (z5 : Nat) (z6 : Nat) (z7 : Nat) (z8 : Nat) (z9 : Nat) (z10 : Nat) (z11 : Nat) (z12 : Nat) (z13 : Nat) (z14 : Nat) (z15 : Nat) (z16 : Nat) (z17 : Nat) (z18 : Nat) (z19 : Nat) (p0 : Int32) (p1 : Int32) (sz : Nat) : Met l yX10_actOnKey (kk_W yX10_actOnKey cX10_actOnKey 5 (some .int)) ({ frames := 3, cells := 0, slots := 0, locals := 69 }) (va_Pc [.ref h0, .int p0, .int 2, .int p1, .int 0] (kk_pre D cB cI cJ cD [kO h0 9 [.ref z0, .ref z1, .ref h1, .ref z2, .int 0, .ref z3, .ref z4], kO h1 2 [.ref h2, .ref z5, .int 0], kO h2 0 [.ref h3, .ref z6, .ref z7, .int 0, .int (-1)], kO h3 8 [.ref z8, .ref h4, .ref z9, .int 0, .int 0, .int 0, .int 0, .int 0], kO h4 1 [.int 0, .ref z10, .ref z11, .ref z12, .ref z13, .ref z14, .ref z15, .ref z16, .ref z17, .ref z18, .ref z19, .int 0]] sz)) (vp_Si (fun r => r = (-1))) 0 0 (fun _ => False) := by
  refine kk_pstart (y := yX10_actOnKey) (maxL := 5) (av := [.ref h0, .int p0, .int 2, .int p1, .int 0]) (by decide) (Nat.le_of_ble_eq_true rfl) ?_
  intro p e s m below meth c ls hx hb hr hml hown hts hE hlocks hsz hP hD hl
  have hown : s.vm.findClass RX10 = some m.cls := hown
  have hl : lv_has ls 5 [(0, .ref h0), (1, .int p0), (2, .int 2), (3, .int p1), (4, .int 0)] := hl
  refine lv_iload_n hx hb dX10_actOnKey_0 rfl (lv_at hl 3 rfl) ?_
  refine lv_iconst (v := (-1)) hx hb dX10_actOnKey_1 (by decide) ?_
  refine lv_icmp_eq (tgt := 18) hx hb dX10_actOnKey_2 (by decide) (fun c_1 => ?_) (fun c_1 => ?_)
  · refine lv_iconst (v := (-1)) hx hb dX10_actOnKey_18 (by decide) ?_
    exact kk_pret_i hx hb hr hlocks rfl dX10_actOnKey_19
  · refine lv_iload hx hb dX10_actOnKey_5 (lv_at hl 4 rfl) ?_
    refine lv_if_lt (tgt := 18) hx hb dX10_actOnKey_7 (by decide) (fun c_2 => absurd c_2 (by decide)) (fun _ => ?_)
    refine lv_iload hx hb dX10_actOnKey_10 (lv_at hl 4 rfl) ?_
    refine lv_sipush (v := 9999) hx hb dX10_actOnKey_12 (by decide) ?_
    refine lv_icmp_le (tgt := 20) hx hb dX10_actOnKey_15 (by decide) (fun _ => ?_) (fun c_3 => absurd c_3 (by decide))
    refine lv_aload_n hx hb dX10_actOnKey_20 rfl (lv_at hl 0 rfl) ?_
    refine va_get (D := D) (ci := 9) (v := .ref h1) (C := RX10) (T := TX10) (N := 7) hx hb hts u_X10 hown hE.1 hP 0 rfl rfl 2 (by decide) (hts _ w_491) (fun _ h9 => h9) rfl dX10_actOnKey_21 ?_
    refine va_get (D := D) (ci := 2) (v := .ref h2) (C := RX2) (T := TX2) (N := 3) hx hb hts u_X2 hown hE.1 hP 1 rfl rfl 0 (by decide) (hts _ w_474) (fun _ h9 => h9) rfl dX10_actOnKey_24 ?_
    refine va_get (D := D) (ci := 0) (v := .ref h3) (C := RX0) (T := TX0) (N := 5) hx hb hts u_X0 hown hE.1 hP 2 rfl rfl 0 (by decide) (hts _ w_420) (fun _ h9 => h9) rfl dX10_actOnKey_27 ?_
    refine lv_iload_n hx hb dX10_actOnKey_30 rfl (lv_at hl 1 rfl) ?_
    refine lv_iload_n hx hb dX10_actOnKey_31 rfl (lv_at hl 2 rfl) ?_
    refine lv_iload_n hx hb dX10_actOnKey_32 rfl (lv_at hl 3 rfl) ?_
    refine lv_iload_n hx hb dX10_actOnKey_33 rfl (lv_at hl 3 rfl) ?_
    refine lv_iload hx hb dX10_actOnKey_34 (lv_at hl 4 rfl) ?_
    refine kk_pi (kk_runV (w1 := [kO h3 8 [.ref z8, .ref h4, .ref z9, .int 0, .int 0, .int 0, .int 0, .int 0], kO h4 1 [.int 0, .ref z10, .ref z11, .ref z12, .ref z13, .ref z14, .ref z15, .ref z16, .ref z17, .ref z18, .ref z19, .int 0]]) (As := [.int p0, .int 2, .int p1, .int p1, .int 0]) (rest := []) hx hb hml hown hts hE (c_X9_act_3 l D cB cI cJ cD h3 h4 z8 z9 z10 z11 z12 z13 z14 z15 z16 z17 z18 z19 p0 p1 s.heap.size) m_X9_act w_763 ⟨rfl, rfl, Nat.le_of_ble_eq_true rfl, Nat.le_of_ble_eq_true rfl⟩ (hP.sub [3, 4] rfl) (hD.sub [3, 4] (by decide +kernel) rfl) 0 8 rfl rfl rfl hl.1 (Nat.le_of_ble_eq_true rfl) dX10_actOnKey_36 ⟨Nat.le_of_ble_eq_true rfl, Nat.le_of_ble_eq_true rfl⟩) (fun r_4 p_4 => ?_)
    obtain rfl : r_4 = (-1) := p_4
    exact kk_pret_i hx hb hr hlocks rfl dX10_actOnKey_39
set_option maxHeartbeats 4000000 in
set_option maxRecDepth 100000 in
theorem c_X10_seek (l : Launch) (D : va_G) (cB cI cJ cD : ClassId) (h0 h1 h2 h3 h4 : Nat) (z0 : Nat) (z1 : Nat) (z2 : Nat) (z3 : Nat) (z4 : Nat) (z5 : Nat) (z6 : Nat) (z7 : Nat) (z8 : Nat) (z9 : Nat) (z10 : Nat) (z11 : Nat) (z12 : Nat) (z13 : Nat) (z14 : Nat) (z15 : Nat) (z16 : Nat) (z17 : Nat) (z18 : Nat) (z19 : Nat) (p0 : Int32) (p1 : Int32) (p2 : Int32) (sz : Nat) : Met l yX10_seek (kk_W yX10_seek cX10_seek 4 (some .int)) ({ frames := 4, cells := 0, slots := 0, locals := 93 }) (va_Pc [.ref h0, .int p0, .int p1, .int p2] (kk_pre D cB cI cJ cD [kO h0 9 [.ref z0, .ref z1, .ref h1, .ref z2, .int 0, .ref z3, .ref z4], kO h1 2 [.ref h2, .ref z5, .int 0], kO h2 0 [.ref h3, .ref z6, .ref z7, .int 0, .int (-1)], kO h3 8 [.ref z8, .ref h4, .ref z9, .int 0, .int 0, .int 0, .int 0, .int 0], kO h4 1 [.int 0, .ref z10, .ref z11, .ref z12, .ref z13, .ref z14, .ref z15, .ref z16, .ref z17, .ref z18, .ref z19, .int 0]] sz)) (vp_Si (fun r => r = (-1))) 0 0 (fun _ => False) := by
  refine kk_pstart (y := yX10_seek) (maxL := 4) (av := [.ref h0, .int p0, .int p1, .int p2]) (by decide) (Nat.le_of_ble_eq_true rfl) ?_
  intro p e s m below meth c ls hx hb hr hml hown hts hE hlocks hsz hP hD hl
  have hown : s.vm.findClass RX10 = some m.cls := hown
  have hl : lv_has ls 4 [(0, .ref h0), (1, .int p0), (2, .int p1), (3, .int p2)] := hl
  refine lv_aload_n hx hb dX10_seek_0 rfl (lv_at hl 0 rfl) ?_
  refine lv_iload_n hx hb dX10_seek_1 rfl (lv_at hl 1 rfl) ?_
  refine lv_iconst (v := 2) hx hb dX10_seek_2 (by decide) ?_
  refine lv_iload_n hx hb dX10_seek_3 rfl (lv_at hl 2 rfl) ?_
  refine lv_iload_n hx hb dX10_seek_4 rfl (lv_at hl 3 rfl) ?_
  refine kk_pi (kk_runS (w1 := []) (As := [.int p1, .int p2]) (rest := [.int 2, .int p0, .ref h0]) hx hb hml hown hts hE (c_X4_keyBits l D cB cI cJ cD p1 p2 s.heap.size) m_X4_keyBits w_665 ⟨rfl, rfl, Nat.le_of_ble_eq_true rfl, Nat.le_of_ble_eq_true rfl⟩ (hP.sub [] rfl) (hD.sub [] (by decide +kernel) rfl) rfl hl.1 (Nat.le_of_ble_eq_true rfl) dX10_seek_5 ⟨Nat.le_of_ble_eq_true rfl, Nat.le_of_ble_eq_true rfl⟩) (fun r_1 p_1 => ?_)
  obtain rfl : kb p1 p2 = r_1 := (p_1).symm
  refine lv_iconst (v := 0) hx hb dX10_seek_8 (by decide) ?_
  refine kk_pi (kk_runV (w1 := [kO h0 9 [.ref z0, .ref z1, .ref h1, .ref z2, .int 0, .ref z3, .ref z4], kO h1 2 [.ref h2, .ref z5, .int 0], kO h2 0 [.ref h3, .ref z6, .ref z7, .int 0, .int (-1)], kO h3 8 [.ref z8, .ref h4, .ref z9, .int 0, .int 0, .int 0, .int 0, .int 0], kO h4 1 [.int 0, .ref z10, .ref z11, .ref z12, .ref z13, .ref z14, .ref z15, .ref z16, .ref z17, .ref z18, .ref z19, .int 0]]) (As := [.int p0, .int 2, .int (kb p1 p2), .int 0]) (rest := []) hx hb hml hown hts hE (c_X10_actOnKey l D cB cI cJ cD h0 h1 h2 h3 h4 z0 z1 z2 z3 z4 z5 z6 z7 z8 z9 z10 z11 z12 z13 z14 z15 z16 z17 z18 z19 p0 (kb p1 p2) s.heap.size) m_X10_actOnKey w_876 ⟨rfl, rfl, Nat.le_of_ble_eq_true rfl, Nat.le_of_ble_eq_true rfl⟩ (hP.sub [0, 1, 2, 3, 4] rfl) (hD.sub [0, 1, 2, 3, 4] (by decide +kernel) rfl) 0 9 rfl rfl rfl hl.1 (Nat.le_of_ble_eq_true rfl) dX10_seek_9 ⟨Nat.le_of_ble_eq_true rfl, Nat.le_of_ble_eq_true rfl⟩) (fun r_2 p_2 => ?_)
  obtain rfl : r_2 = (-1) := p_2
  exact kk_pret_i hx hb hr hlocks rfl dX10_seek_12
set_option maxHeartbeats 4000000 in
set_option maxRecDepth 100000 in
theorem c_X1_mayDo_4 (l : Launch) (D : va_G) (cB cI cJ cD : ClassId) (h0 : Nat) (z0 : Nat) (z1 : Nat) (z2 : Nat) (z3 : Nat) (z4 : Nat) (z5 : Nat) (z6 : Nat) (z7 : Nat) (z8 : Nat) (z9 : Nat) (p0 : Int32) (sz : Nat) : Met l yX1_mayDo (kk_W yX1_mayDo cX1_mayDo 3 (some .boolean)) ({ frames := 1, cells := 0, slots := 0, locals := 21 }) (va_Pc [.ref h0, .int p0, .int 3] (kk_pre D cB cI cJ cD [kO h0 1 [.int 0, .ref z0, .ref z1, .ref z2, .ref z3, .ref z4, .ref z5, .ref z6, .ref z7, .ref z8, .ref z9, .int 0]] sz)) (vp_Si (fun r => r = 0)) 0 0 (fun _ => False) := by
  refine kk_pstart (y := yX1_mayDo) (maxL := 3) (av := [.ref h0, .int p0, .int 3]) (by decide) (Nat.le_of_ble_eq_true rfl) ?_
  intro p e s m below meth c ls hx hb hr hml hown hts hE hlocks hsz hP hD hl
  have hown : s.vm.findClass RX1 = some m.cls := hown
  have hl : lv_has ls 3 [(0, .ref h0), (1, .int p0), (2, .int 3)] := hl
  refine lv_aload_n hx hb dX1_mayDo_0 rfl (lv_at hl 0 rfl) ?_
  refine lv_iload_n hx hb dX1_mayDo_1 rfl (lv_at hl 1 rfl) ?_
  refine kk_pi (kk_runV (w1 := [kO h0 1 [.int 0, .ref z0, .ref z1, .ref z2, .ref z3, .ref z4, .ref z5, .ref z6, .ref z7, .ref z8, .ref z9, .int 0]]) (As := [.int p0]) (rest := []) hx hb hml hown hts hE (c_X1_has l D cB cI cJ cD h0 z0 z1 z2 z3 z4 z5 z6 z7 z8 z9 p0 s.heap.size) m_X1_has w_771 ⟨rfl, rfl, Nat.le_of_ble_eq_true rfl, Nat.le_of_ble_eq_true rfl⟩ (hP.sub [0] rfl) (hD.sub [0] (by decide +kernel) rfl) 0 1 rfl rfl rfl hl.1 (Nat.le_of_ble_eq_true rfl) dX1_mayDo_2 ⟨Nat.le_of_ble_eq_true rfl, Nat.le_of_ble_eq_true rfl⟩) (fun r_1 p_1 => ?_)
  obtain rfl : r_1 = 0 := p_1
  refine lv_if_ne (tgt := 10) hx hb dX1_mayDo_5 (by decide) (fun c_2 => absurd c_2 (by decide)) (fun _ => ?_)
  refine lv_iconst (v := 0) hx hb dX1_mayDo_8 (by decide) ?_
  exact kk_pret_z hx hb hr hlocks (by decide) rfl dX1_mayDo_9
set_option maxHeartbeats 4000000 in
set_option maxRecDepth 100000 in
theorem c_X9_act_4 (l : Launch) (D : va_G) (cB cI cJ cD : ClassId) (h0 h1 : Nat) (z0 : Nat) (z1 : Nat) (z2 : Nat) (z3 : Nat) (z4 : Nat) (z5 : Nat) (z6 : Nat) (z7 : Nat) (z8 : Nat) (z9 : Nat) (z10 : Nat) (z11 : Nat) (p0 : Int32) (p1 : Int32) (sz : Nat) : Met l yX9_act (kk_W yX9_act cX9_act 7 (some .int)) ({ frames := 2, cells := 0, slots := 0, locals := 43 }) (va_Pc [.ref h0, .int p0, .int 3, .int p1, .int p1, .int 0] (kk_pre D cB cI cJ cD [kO h0 8 [.ref z0, .ref h1, .ref z1, .int 0, .int 0, .int 0, .int 0, .int 0], kO h1 1 [.int 0, .ref z2, .ref z3, .ref z4, .ref z5, .ref z6, .ref z7, .ref z8, .ref z9, .ref z10, .ref z11, .int 0]] sz)) (vp_Si (fun r => r = (-1))) 0 0 (fun _ => False) := by
  refine kk_pstart (y := yX9_act) (maxL := 7) (av := [.ref h0, .int p0, .int 3, .int p1, .int p1, .int 0]) (by decide) (Nat.le_of_ble_eq_true rfl) ?_
  intro p e s m below meth c ls hx hb hr hml hown hts hE hlocks hsz hP hD hl
  have hown : s.vm.findClass RX9 = some m.cls := hown
  have hl : lv_has ls 7 [(0, .ref h0), (1, .int p0), (2, .int 3), (3, .int p1), (4, .int p1), (5, .int 0)] := hl
  refine lv_aload_n hx hb dX9_act_0 rfl (lv_at hl 0 rfl) ?_
  refine va_get (D := D) (ci := 8) (v := .ref h1) (C := RX9) (T := TX9) (N := 8) hx hb hts u_X9 hown hE.1 hP 0 rfl rfl 1 (by decide) (hts _ w_387) (fun _ h9 => h9) rfl dX9_act_1 ?_
  refine lv_iload_n hx hb dX9_act_4 rfl (lv_at hl 1 rfl) ?_
  refine lv_iload_n hx hb dX9_act_5 rfl (lv_at hl 2 rfl) ?_
  refine kk_pi (kk_runV (w1 := [kO h1 1 [.int 0, .ref z2, .ref z3, .ref z4, .ref z5, .ref z6, .ref z7, .ref z8, .ref z9, .ref z10, .ref z11, .int 0]]) (As := [.int p0, .int 3]) (rest := []) hx hb hml hown hts hE (c_X1_mayDo_4 l D cB cI cJ cD h1 z2 z3 z4 z5 z6 z7 z8 z9 z10 z11 p0 s.heap.size) m_X1_mayDo w_767 ⟨rfl, rfl, Nat.le_of_ble_eq_true rfl, Nat.le_of_ble_eq_true rfl⟩ (hP.sub [1] rfl) (hD.sub [1] (by decide +kernel) rfl) 0 1 rfl rfl rfl hl.1 (Nat.le_of_ble_eq_true rfl) dX9_act_6 ⟨Nat.le_of_ble_eq_true rfl, Nat.le_of_ble_eq_true rfl⟩) (fun r_1 p_1 => ?_)
  obtain rfl : r_1 = 0 := p_1
  refine lv_if_ne (tgt := 14) hx hb dX9_act_9 (by decide) (fun c_2 => absurd c_2 (by decide)) (fun _ => ?_)
  refine lv_iconst (v := (-1)) hx hb dX9_act_12 (by decide) ?_
  exact kk_pret_i hx hb hr hlocks rfl dX9_act_13
set_option maxHeartbeats 4000000 in
set_option maxRecDepth 100000 in
theorem c_X10_actOnKey_2 (l : Launch) (D : va_G) (cB cI cJ cD : ClassId) (h0 h1 h2 h3 h4 : Nat) (z0 : Nat) (z1 : Nat) (z2 : Nat) (z3 : Nat) (z4 : Nat) (z5 : Nat) (z6 : Nat) (z7 : Nat) (z8 : Nat) (z9 : Nat) (z10 : Nat) (z11 : Nat) (z12 : Nat) (z13 : Nat) (z14 : Nat) (z15 : Nat) (z16 : Nat) (z17 : Nat) (z18 : Nat) (z19 : Nat) (p0 : Int32) (p1 : Int32) (sz : Nat) : Met l yX10_actOnKey (kk_W yX10_actOnKey cX10_actOnKey 5 (some .int)) ({ frames := 3, cells := 0, slots := 0, locals := 69 }) (va_Pc [.ref h0, .int p0, .int 3, .int p1, .int 0] (kk_pre D cB cI cJ cD [kO h0 9 [.ref z0, .ref z1, .ref h1, .ref z2, .int 0, .ref z3, .ref z4], kO h1 2 [.ref h2, .ref z5, .int 0], kO h2 0 [.ref h3, .ref z6, .ref z7, .int 0, .int (-1)], kO h3 8 [.ref z8, .ref h4, .ref z9, .int 0, .int 0, .int 0, .int 0, .int 0], kO h4 1 [.int 0, .ref z10, .ref z11, .ref z12, .ref z13, .ref z14, .ref z15, .ref z16, .ref z17, .ref z18, .ref z19, .int 0]] sz)) (vp_Si (fun r => r = (-1))) 0 0 (fun _ => False) := by
  refine kk_pstart (y := yX10_actOnKey) (maxL := 5) (av := [.ref h0, .int p0, .int 3, .int p1, .int 0]) (by decide) (Nat.le_of_ble_eq_true rfl) ?_
  intro p e s m below meth c ls hx hb hr hml hown hts hE hlocks hsz hP hD hl
  have hown : s.vm.findClass RX10 = some m.cls := hown
  have hl : lv_has ls 5 [(0, .ref h0), (1, .int p0), (2, .int 3), (3, .int p1), (4, .int 0)] := hl
  refine lv_iload_n hx hb dX10_actOnKey_0 rfl (lv_at hl 3 rfl) ?_
  refine lv_iconst (v := (-1)) hx hb dX10_actOnKey_1 (by decide) ?_
  refine lv_icmp_eq (tgt := 18) hx hb dX10_actOnKey_2 (by decide) (fun c_1 => ?_) (fun c_1 => ?_)
  · refine lv_iconst (v := (-1)) hx hb dX10_actOnKey_18 (by decide) ?_
    exact kk_pret_i hx hb hr hlocks rfl dX10_actOnKey_19
  · refine lv_iload hx hb dX10_actOnKey_5 (lv_at hl 4 rfl) ?_
    refine lv_if_lt (tgt := 18) hx hb dX10_actOnKey_7 (by decide) (fun c_2 => absurd c_2 (by decide)) (fun _ => ?_)
    refine lv_iload hx hb dX10_actOnKey_10 (lv_at hl 4 rfl) ?_
    refine lv_sipush (v := 9999) hx hb dX10_actOnKey_12 (by decide) ?_
    refine lv_icmp_le (tgt := 20) hx hb dX10_actOnKey_15 (by decide) (fun _ => ?_) (fun c_3 => absurd c_3 (by decide))
    refine lv_aload_n hx hb dX10_actOnKey_20 rfl (lv_at hl 0 rfl) ?_
    refine va_get (D := D) (ci := 9) (v := .ref h1) (C := RX10) (T := TX10) (N := 7) hx hb hts u_X10 hown hE.1 hP 0 rfl rfl 2 (by decide) (hts _ w_491) (fun _ h9 => h9) rfl dX10_actOnKey_21 ?_
    refine va_get (D := D) (ci := 2) (v := .ref h2) (C := RX2) (T := TX2) (N := 3) hx hb hts u_X2 hown hE.1 hP 1 rfl rfl 0 (by decide) (hts _ w_474) (fun _ h9 => h9) rfl dX10_actOnKey_24 ?_
    refine va_get (D := D) (ci := 0) (v := .ref h3) (C := RX0) (T := TX0) (N := 5) hx hb hts u_X0 hown hE.1 hP 2 rfl rfl 0 (by decide) (hts _ w_420) (fun _ h9 => h9) rfl dX10_actOnKey_27 ?_
    refine lv_iload_n hx hb dX10_actOnKey_30 rfl (lv_at hl 1 rfl) ?_
    refine lv_iload_n hx hb dX10_actOnKey_31 rfl (lv_at hl 2 rfl) ?_
    refine lv_iload_n hx hb dX10_actOnKey_32 rfl (lv_at hl 3 rfl) ?_
    refine lv_iload_n hx hb dX10_actOnKey_33 rfl (lv_at hl 3 rfl) ?_
    refine lv_iload hx hb dX10_actOnKey_34 (lv_at hl 4 rfl) ?_
    refine kk_pi (kk_runV (w1 := [kO h3 8 [.ref z8, .ref h4, .ref z9, .int 0, .int 0, .int 0, .int 0, .int 0], kO h4 1 [.int 0, .ref z10, .ref z11, .ref z12, .ref z13, .ref z14, .ref z15, .ref z16, .ref z17, .ref z18, .ref z19, .int 0]]) (As := [.int p0, .int 3, .int p1, .int p1, .int 0]) (rest := []) hx hb hml hown hts hE (c_X9_act_4 l D cB cI cJ cD h3 h4 z8 z9 z10 z11 z12 z13 z14 z15 z16 z17 z18 z19 p0 p1 s.heap.size) m_X9_act w_763 ⟨rfl, rfl, Nat.le_of_ble_eq_true rfl, Nat.le_of_ble_eq_true rfl⟩ (hP.sub [3, 4] rfl) (hD.sub [3, 4] (by decide +kernel) rfl) 0 8 rfl rfl rfl hl.1 (Nat.le_of_ble_eq_true rfl) dX10_actOnKey_36 ⟨Nat.le_of_ble_eq_true rfl, Nat.le_of_ble_eq_true rfl⟩) (fun r_4 p_4 => ?_)
    obtain rfl : r_4 = (-1) := p_4
    exact kk_pret_i hx hb hr hlocks rfl dX10_actOnKey_39
set_option maxHeartbeats 4000000 in
set_option maxRecDepth 100000 in
theorem c_X10_grab (l : Launch) (D : va_G) (cB cI cJ cD : ClassId) (h0 h1 h2 h3 h4 : Nat) (z0 : Nat) (z1 : Nat) (z2 : Nat) (z3 : Nat) (z4 : Nat) (z5 : Nat) (z6 : Nat) (z7 : Nat) (z8 : Nat) (z9 : Nat) (z10 : Nat) (z11 : Nat) (z12 : Nat) (z13 : Nat) (z14 : Nat) (z15 : Nat) (z16 : Nat) (z17 : Nat) (z18 : Nat) (z19 : Nat) (p0 : Int32) (p1 : Int32) (p2 : Int32) (sz : Nat) : Met l yX10_grab (kk_W yX10_grab cX10_grab 4 (some .int)) ({ frames := 4, cells := 0, slots := 0, locals := 93 }) (va_Pc [.ref h0, .int p0, .int p1, .int p2] (kk_pre D cB cI cJ cD [kO h0 9 [.ref z0, .ref z1, .ref h1, .ref z2, .int 0, .ref z3, .ref z4], kO h1 2 [.ref h2, .ref z5, .int 0], kO h2 0 [.ref h3, .ref z6, .ref z7, .int 0, .int (-1)], kO h3 8 [.ref z8, .ref h4, .ref z9, .int 0, .int 0, .int 0, .int 0, .int 0], kO h4 1 [.int 0, .ref z10, .ref z11, .ref z12, .ref z13, .ref z14, .ref z15, .ref z16, .ref z17, .ref z18, .ref z19, .int 0]] sz)) (vp_Si (fun r => r = (-1))) 0 0 (fun _ => False) := by
  refine kk_pstart (y := yX10_grab) (maxL := 4) (av := [.ref h0, .int p0, .int p1, .int p2]) (by decide) (Nat.le_of_ble_eq_true rfl) ?_
  intro p e s m below meth c ls hx hb hr hml hown hts hE hlocks hsz hP hD hl
  have hown : s.vm.findClass RX10 = some m.cls := hown
  have hl : lv_has ls 4 [(0, .ref h0), (1, .int p0), (2, .int p1), (3, .int p2)] := hl
  refine lv_aload_n hx hb dX10_grab_0 rfl (lv_at hl 0 rfl) ?_
  refine lv_iload_n hx hb dX10_grab_1 rfl (lv_at hl 1 rfl) ?_
  refine lv_iconst (v := 3) hx hb dX10_grab_2 (by decide) ?_
  refine lv_iload_n hx hb dX10_grab_3 rfl (lv_at hl 2 rfl) ?_
  refine lv_iload_n hx hb dX10_grab_4 rfl (lv_at hl 3 rfl) ?_
  refine kk_pi (kk_runS (w1 := []) (As := [.int p1, .int p2]) (rest := [.int 3, .int p0, .ref h0]) hx hb hml hown hts hE (c_X4_keyBits l D cB cI cJ cD p1 p2 s.heap.size) m_X4_keyBits w_665 ⟨rfl, rfl, Nat.le_of_ble_eq_true rfl, Nat.le_of_ble_eq_true rfl⟩ (hP.sub [] rfl) (hD.sub [] (by decide +kernel) rfl) rfl hl.1 (Nat.le_of_ble_eq_true rfl) dX10_grab_5 ⟨Nat.le_of_ble_eq_true rfl, Nat.le_of_ble_eq_true rfl⟩) (fun r_1 p_1 => ?_)
  obtain rfl : kb p1 p2 = r_1 := (p_1).symm
  refine lv_iconst (v := 0) hx hb dX10_grab_8 (by decide) ?_
  refine kk_pi (kk_runV (w1 := [kO h0 9 [.ref z0, .ref z1, .ref h1, .ref z2, .int 0, .ref z3, .ref z4], kO h1 2 [.ref h2, .ref z5, .int 0], kO h2 0 [.ref h3, .ref z6, .ref z7, .int 0, .int (-1)], kO h3 8 [.ref z8, .ref h4, .ref z9, .int 0, .int 0, .int 0, .int 0, .int 0], kO h4 1 [.int 0, .ref z10, .ref z11, .ref z12, .ref z13, .ref z14, .ref z15, .ref z16, .ref z17, .ref z18, .ref z19, .int 0]]) (As := [.int p0, .int 3, .int (kb p1 p2), .int 0]) (rest := []) hx hb hml hown hts hE (c_X10_actOnKey_2 l D cB cI cJ cD h0 h1 h2 h3 h4 z0 z1 z2 z3 z4 z5 z6 z7 z8 z9 z10 z11 z12 z13 z14 z15 z16 z17 z18 z19 p0 (kb p1 p2) s.heap.size) m_X10_actOnKey w_876 ⟨rfl, rfl, Nat.le_of_ble_eq_true rfl, Nat.le_of_ble_eq_true rfl⟩ (hP.sub [0, 1, 2, 3, 4] rfl) (hD.sub [0, 1, 2, 3, 4] (by decide +kernel) rfl) 0 9 rfl rfl rfl hl.1 (Nat.le_of_ble_eq_true rfl) dX10_grab_9 ⟨Nat.le_of_ble_eq_true rfl, Nat.le_of_ble_eq_true rfl⟩) (fun r_2 p_2 => ?_)
  obtain rfl : r_2 = (-1) := p_2
  exact kk_pret_i hx hb hr hlocks rfl dX10_grab_12
set_option maxHeartbeats 4000000 in
set_option maxRecDepth 100000 in
theorem c_X1_mayDo_5 (l : Launch) (D : va_G) (cB cI cJ cD : ClassId) (h0 : Nat) (z0 : Nat) (z1 : Nat) (z2 : Nat) (z3 : Nat) (z4 : Nat) (z5 : Nat) (z6 : Nat) (z7 : Nat) (z8 : Nat) (z9 : Nat) (p0 : Int32) (sz : Nat) : Met l yX1_mayDo (kk_W yX1_mayDo cX1_mayDo 3 (some .boolean)) ({ frames := 1, cells := 0, slots := 0, locals := 21 }) (va_Pc [.ref h0, .int p0, .int 4] (kk_pre D cB cI cJ cD [kO h0 1 [.int 0, .ref z0, .ref z1, .ref z2, .ref z3, .ref z4, .ref z5, .ref z6, .ref z7, .ref z8, .ref z9, .int 0]] sz)) (vp_Si (fun r => r = 0)) 0 0 (fun _ => False) := by
  refine kk_pstart (y := yX1_mayDo) (maxL := 3) (av := [.ref h0, .int p0, .int 4]) (by decide) (Nat.le_of_ble_eq_true rfl) ?_
  intro p e s m below meth c ls hx hb hr hml hown hts hE hlocks hsz hP hD hl
  have hown : s.vm.findClass RX1 = some m.cls := hown
  have hl : lv_has ls 3 [(0, .ref h0), (1, .int p0), (2, .int 4)] := hl
  refine lv_aload_n hx hb dX1_mayDo_0 rfl (lv_at hl 0 rfl) ?_
  refine lv_iload_n hx hb dX1_mayDo_1 rfl (lv_at hl 1 rfl) ?_
  refine kk_pi (kk_runV (w1 := [kO h0 1 [.int 0, .ref z0, .ref z1, .ref z2, .ref z3, .ref z4, .ref z5, .ref z6, .ref z7, .ref z8, .ref z9, .int 0]]) (As := [.int p0]) (rest := []) hx hb hml hown hts hE (c_X1_has l D cB cI cJ cD h0 z0 z1 z2 z3 z4 z5 z6 z7 z8 z9 p0 s.heap.size) m_X1_has w_771 ⟨rfl, rfl, Nat.le_of_ble_eq_true rfl, Nat.le_of_ble_eq_true rfl⟩ (hP.sub [0] rfl) (hD.sub [0] (by decide +kernel) rfl) 0 1 rfl rfl rfl hl.1 (Nat.le_of_ble_eq_true rfl) dX1_mayDo_2 ⟨Nat.le_of_ble_eq_true rfl, Nat.le_of_ble_eq_true rfl⟩) (fun r_1 p_1 => ?_)
  obtain rfl : r_1 = 0 := p_1
  refine lv_if_ne (tgt := 10) hx hb dX1_mayDo_5 (by decide) (fun c_2 => absurd c_2 (by decide)) (fun _ => ?_)
  refine lv_iconst (v := 0) hx hb dX1_mayDo_8 (by decide) ?_
  exact kk_pret_z hx hb hr hlocks (by decide) rfl dX1_mayDo_9
set_option maxHeartbeats 4000000 in
set_option maxRecDepth 100000 in
theorem c_X9_act_5 (l : Launch) (D : va_G) (cB cI cJ cD : ClassId) (h0 h1 : Nat) (z0 : Nat) (z1 : Nat) (z2 : Nat) (z3 : Nat) (z4 : Nat) (z5 : Nat) (z6 : Nat) (z7 : Nat) (z8 : Nat) (z9 : Nat) (z10 : Nat) (z11 : Nat) (p0 : Int32) (p1 : Int32) (p2 : Int32) (sz : Nat) : Met l yX9_act (kk_W yX9_act cX9_act 7 (some .int)) ({ frames := 2, cells := 0, slots := 0, locals := 43 }) (va_Pc [.ref h0, .int p0, .int 4, .int p1, .int p1, .int p2] (kk_pre D cB cI cJ cD [kO h0 8 [.ref z0, .ref h1, .ref z1, .int 0, .int 0, .int 0, .int 0, .int 0], kO h1 1 [.int 0, .ref z2, .ref z3, .ref z4, .ref z5, .ref z6, .ref z7, .ref z8, .ref z9, .ref z10, .ref z11, .int 0]] sz)) (vp_Si (fun r => r = (-1))) 0 0 (fun _ => False) := by
  refine kk_pstart (y := yX9_act) (maxL := 7) (av := [.ref h0, .int p0, .int 4, .int p1, .int p1, .int p2]) (by decide) (Nat.le_of_ble_eq_true rfl) ?_
  intro p e s m below meth c ls hx hb hr hml hown hts hE hlocks hsz hP hD hl
  have hown : s.vm.findClass RX9 = some m.cls := hown
  have hl : lv_has ls 7 [(0, .ref h0), (1, .int p0), (2, .int 4), (3, .int p1), (4, .int p1), (5, .int p2)] := hl
  refine lv_aload_n hx hb dX9_act_0 rfl (lv_at hl 0 rfl) ?_
  refine va_get (D := D) (ci := 8) (v := .ref h1) (C := RX9) (T := TX9) (N := 8) hx hb hts u_X9 hown hE.1 hP 0 rfl rfl 1 (by decide) (hts _ w_387) (fun _ h9 => h9) rfl dX9_act_1 ?_
  refine lv_iload_n hx hb dX9_act_4 rfl (lv_at hl 1 rfl) ?_
  refine lv_iload_n hx hb dX9_act_5 rfl (lv_at hl 2 rfl) ?_
  refine kk_pi (kk_runV (w1 := [kO h1 1 [.int 0, .ref z2, .ref z3, .ref z4, .ref z5, .ref z6, .ref z7, .ref z8, .ref z9, .ref z10, .ref z11, .int 0]]) (As := [.int p0, .int 4]) (rest := []) hx hb hml hown hts hE (c_X1_mayDo_5 l D cB cI cJ cD h1 z2 z3 z4 z5 z6 z7 z8 z9 z10 z11 p0 s.heap.size) m_X1_mayDo w_767 ⟨rfl, rfl, Nat.le_of_ble_eq_true rfl, Nat.le_of_ble_eq_true rfl⟩ (hP.sub [1] rfl) (hD.sub [1] (by decide +kernel) rfl) 0 1 rfl rfl rfl hl.1 (Nat.le_of_ble_eq_true rfl) dX9_act_6 ⟨Nat.le_of_ble_eq_true rfl, Nat.le_of_ble_eq_true rfl⟩) (fun r_1 p_1 => ?_)
  obtain rfl : r_1 = 0 := p_1
  refine lv_if_ne (tgt := 14) hx hb dX9_act_9 (by decide) (fun c_2 => absurd c_2 (by decide)) (fun _ => ?_)
  refine lv_iconst (v := (-1)) hx hb dX9_act_12 (by decide) ?_
  exact kk_pret_i hx hb hr hlocks rfl dX9_act_13
set_option maxHeartbeats 4000000 in
set_option maxRecDepth 100000 in
theorem c_X10_actOnKey_3 (l : Launch) (D : va_G) (cB cI cJ cD : ClassId) (h0 h1 h2 h3 h4 : Nat) (z0 : Nat) (z1 : Nat) (z2 : Nat) (z3 : Nat) (z4 : Nat) (z5 : Nat) (z6 : Nat) (z7 : Nat) (z8 : Nat) (z9 : Nat) (z10 : Nat) (z11 : Nat) (z12 : Nat) (z13 : Nat) (z14 : Nat) (z15 : Nat) (z16 : Nat) (z17 : Nat) (z18 : Nat) (z19 : Nat) (p0 : Int32) (p1 : Int32) (p2 : Int32) (sz : Nat) : Met l yX10_actOnKey (kk_W yX10_actOnKey cX10_actOnKey 5 (some .int)) ({ frames := 3, cells := 0, slots := 0, locals := 69 }) (va_Pc [.ref h0, .int p0, .int 4, .int p1, .int p2] (kk_pre D cB cI cJ cD [kO h0 9 [.ref z0, .ref z1, .ref h1, .ref z2, .int 0, .ref z3, .ref z4], kO h1 2 [.ref h2, .ref z5, .int 0], kO h2 0 [.ref h3, .ref z6, .ref z7, .int 0, .int (-1)], kO h3 8 [.ref z8, .ref h4, .ref z9, .int 0, .int 0, .int 0, .int 0, .int 0], kO h4 1 [.int 0, .ref z10, .ref z11, .ref z12, .ref z13, .ref z14, .ref z15, .ref z16, .ref z17, .ref z18, .ref z19, .int 0]] sz)) (vp_Si (fun r => r = (-1))) 0 0 (fun _ => False) := by
  refine kk_pstart (y := yX10_actOnKey) (maxL := 5) (av := [.ref h0, .int p0, .int 4, .int p1, .int p2]) (by decide) (Nat.le_of_ble_eq_true rfl) ?_
  intro p e s m below meth c ls hx hb hr hml hown hts hE hlocks hsz hP hD hl
  have hown : s.vm.findClass RX10 = some m.cls := hown
  have hl : lv_has ls 5 [(0, .ref h0), (1, .int p0), (2, .int 4), (3, .int p1), (4, .int p2)] := hl
  refine lv_iload_n hx hb dX10_actOnKey_0 rfl (lv_at hl 3 rfl) ?_
  refine lv_iconst (v := (-1)) hx hb dX10_actOnKey_1 (by decide) ?_
  refine lv_icmp_eq (tgt := 18) hx hb dX10_actOnKey_2 (by decide) (fun c_1 => ?_) (fun c_1 => ?_)
  · refine lv_iconst (v := (-1)) hx hb dX10_actOnKey_18 (by decide) ?_
    exact kk_pret_i hx hb hr hlocks rfl dX10_actOnKey_19
  · refine lv_iload hx hb dX10_actOnKey_5 (lv_at hl 4 rfl) ?_
    refine lv_if_lt (tgt := 18) hx hb dX10_actOnKey_7 (by decide) (fun c_2 => ?_) (fun c_2 => ?_)
    · refine lv_iconst (v := (-1)) hx hb dX10_actOnKey_18 (by decide) ?_
      exact kk_pret_i hx hb hr hlocks rfl dX10_actOnKey_19
    · refine lv_iload hx hb dX10_actOnKey_10 (lv_at hl 4 rfl) ?_
      refine lv_sipush (v := 9999) hx hb dX10_actOnKey_12 (by decide) ?_
      refine lv_icmp_le (tgt := 20) hx hb dX10_actOnKey_15 (by decide) (fun c_3 => ?_) (fun c_3 => ?_)
      · refine lv_aload_n hx hb dX10_actOnKey_20 rfl (lv_at hl 0 rfl) ?_
        refine va_get (D := D) (ci := 9) (v := .ref h1) (C := RX10) (T := TX10) (N := 7) hx hb hts u_X10 hown hE.1 hP 0 rfl rfl 2 (by decide) (hts _ w_491) (fun _ h9 => h9) rfl dX10_actOnKey_21 ?_
        refine va_get (D := D) (ci := 2) (v := .ref h2) (C := RX2) (T := TX2) (N := 3) hx hb hts u_X2 hown hE.1 hP 1 rfl rfl 0 (by decide) (hts _ w_474) (fun _ h9 => h9) rfl dX10_actOnKey_24 ?_
        refine va_get (D := D) (ci := 0) (v := .ref h3) (C := RX0) (T := TX0) (N := 5) hx hb hts u_X0 hown hE.1 hP 2 rfl rfl 0 (by decide) (hts _ w_420) (fun _ h9 => h9) rfl dX10_actOnKey_27 ?_
        refine lv_iload_n hx hb dX10_actOnKey_30 rfl (lv_at hl 1 rfl) ?_
        refine lv_iload_n hx hb dX10_actOnKey_31 rfl (lv_at hl 2 rfl) ?_
        refine lv_iload_n hx hb dX10_actOnKey_32 rfl (lv_at hl 3 rfl) ?_
        refine lv_iload_n hx hb dX10_actOnKey_33 rfl (lv_at hl 3 rfl) ?_
        refine lv_iload hx hb dX10_actOnKey_34 (lv_at hl 4 rfl) ?_
        refine kk_pi (kk_runV (w1 := [kO h3 8 [.ref z8, .ref h4, .ref z9, .int 0, .int 0, .int 0, .int 0, .int 0], kO h4 1 [.int 0, .ref z10, .ref z11, .ref z12, .ref z13, .ref z14, .ref z15, .ref z16, .ref z17, .ref z18, .ref z19, .int 0]]) (As := [.int p0, .int 4, .int p1, .int p1, .int p2]) (rest := []) hx hb hml hown hts hE (c_X9_act_5 l D cB cI cJ cD h3 h4 z8 z9 z10 z11 z12 z13 z14 z15 z16 z17 z18 z19 p0 p1 p2 s.heap.size) m_X9_act w_763 ⟨rfl, rfl, Nat.le_of_ble_eq_true rfl, Nat.le_of_ble_eq_true rfl⟩ (hP.sub [3, 4] rfl) (hD.sub [3, 4] (by decide +kernel) rfl) 0 8 rfl rfl rfl hl.1 (Nat.le_of_ble_eq_true rfl) dX10_actOnKey_36 ⟨Nat.le_of_ble_eq_true rfl, Nat.le_of_ble_eq_true rfl⟩) (fun r_4 p_4 => ?_)
        obtain rfl : r_4 = (-1) := p_4
        exact kk_pret_i hx hb hr hlocks rfl dX10_actOnKey_39
      · refine lv_iconst (v := (-1)) hx hb dX10_actOnKey_18 (by decide) ?_
        exact kk_pret_i hx hb hr hlocks rfl dX10_actOnKey_19
set_option maxHeartbeats 4000000 in
set_option maxRecDepth 100000 in
theorem c_X10_set (l : Launch) (D : va_G) (cB cI cJ cD : ClassId) (h0 h1 h2 h3 h4 : Nat) (z0 : Nat) (z1 : Nat) (z2 : Nat) (z3 : Nat) (z4 : Nat) (z5 : Nat) (z6 : Nat) (z7 : Nat) (z8 : Nat) (z9 : Nat) (z10 : Nat) (z11 : Nat) (z12 : Nat) (z13 : Nat) (z14 : Nat) (z15 : Nat) (z16 : Nat) (z17 : Nat) (z18 : Nat) (z19 : Nat) (p0 : Int32) (p1 : Int32) (p2 : Int32) (p3 : Int32) (sz : Nat) : Met l yX10_set (kk_W yX10_set cX10_set 5 (some .int)) ({ frames := 4, cells := 0, slots := 0, locals := 93 }) (va_Pc [.ref h0, .int p0, .int p1, .int p2, .int p3] (kk_pre D cB cI cJ cD [kO h0 9 [.ref z0, .ref z1, .ref h1, .ref z2, .int 0, .ref z3, .ref z4], kO h1 2 [.ref h2, .ref z5, .int 0], kO h2 0 [.ref h3, .ref z6, .ref z7, .int 0, .int (-1)], kO h3 8 [.ref z8, .ref h4, .ref z9, .int 0, .int 0, .int 0, .int 0, .int 0], kO h4 1 [.int 0, .ref z10, .ref z11, .ref z12, .ref z13, .ref z14, .ref z15, .ref z16, .ref z17, .ref z18, .ref z19, .int 0]] sz)) (vp_Si (fun r => r = (-1))) 0 0 (fun _ => False) := by
  refine kk_pstart (y := yX10_set) (maxL := 5) (av := [.ref h0, .int p0, .int p1, .int p2, .int p3]) (by decide) (Nat.le_of_ble_eq_true rfl) ?_
  intro p e s m below meth c ls hx hb hr hml hown hts hE hlocks hsz hP hD hl
  have hown : s.vm.findClass RX10 = some m.cls := hown
  have hl : lv_has ls 5 [(0, .ref h0), (1, .int p0), (2, .int p1), (3, .int p2), (4, .int p3)] := hl
  refine lv_aload_n hx hb dX10_set_0 rfl (lv_at hl 0 rfl) ?_
  refine lv_iload_n hx hb dX10_set_1 rfl (lv_at hl 1 rfl) ?_
  refine lv_iconst (v := 4) hx hb dX10_set_2 (by decide) ?_
  refine lv_iload_n hx hb dX10_set_3 rfl (lv_at hl 2 rfl) ?_
  refine lv_iload_n hx hb dX10_set_4 rfl (lv_at hl 3 rfl) ?_
  refine kk_pi (kk_runS (w1 := []) (As := [.int p1, .int p2]) (rest := [.int 4, .int p0, .ref h0]) hx hb hml hown hts hE (c_X4_keyBits l D cB cI cJ cD p1 p2 s.heap.size) m_X4_keyBits w_665 ⟨rfl, rfl, Nat.le_of_ble_eq_true rfl, Nat.le_of_ble_eq_true rfl⟩ (hP.sub [] rfl) (hD.sub [] (by decide +kernel) rfl) rfl hl.1 (Nat.le_of_ble_eq_true rfl) dX10_set_5 ⟨Nat.le_of_ble_eq_true rfl, Nat.le_of_ble_eq_true rfl⟩) (fun r_1 p_1 => ?_)
  obtain rfl : kb p1 p2 = r_1 := (p_1).symm
  refine lv_iload hx hb dX10_set_8 (lv_at hl 4 rfl) ?_
  refine kk_pi (kk_runV (w1 := [kO h0 9 [.ref z0, .ref z1, .ref h1, .ref z2, .int 0, .ref z3, .ref z4], kO h1 2 [.ref h2, .ref z5, .int 0], kO h2 0 [.ref h3, .ref z6, .ref z7, .int 0, .int (-1)], kO h3 8 [.ref z8, .ref h4, .ref z9, .int 0, .int 0, .int 0, .int 0, .int 0], kO h4 1 [.int 0, .ref z10, .ref z11, .ref z12, .ref z13, .ref z14, .ref z15, .ref z16, .ref z17, .ref z18, .ref z19, .int 0]]) (As := [.int p0, .int 4, .int (kb p1 p2), .int p3]) (rest := []) hx hb hml hown hts hE (c_X10_actOnKey_3 l D cB cI cJ cD h0 h1 h2 h3 h4 z0 z1 z2 z3 z4 z5 z6 z7 z8 z9 z10 z11 z12 z13 z14 z15 z16 z17 z18 z19 p0 (kb p1 p2) p3 s.heap.size) m_X10_actOnKey w_876 ⟨rfl, rfl, Nat.le_of_ble_eq_true rfl, Nat.le_of_ble_eq_true rfl⟩ (hP.sub [0, 1, 2, 3, 4] rfl) (hD.sub [0, 1, 2, 3, 4] (by decide +kernel) rfl) 0 9 rfl rfl rfl hl.1 (Nat.le_of_ble_eq_true rfl) dX10_set_10 ⟨Nat.le_of_ble_eq_true rfl, Nat.le_of_ble_eq_true rfl⟩) (fun r_2 p_2 => ?_)
  obtain rfl : r_2 = (-1) := p_2
  exact kk_pret_i hx hb hr hlocks rfl dX10_set_13
set_option maxHeartbeats 4000000 in
set_option maxRecDepth 100000 in
theorem c_X1_mayDo_6 (l : Launch) (D : va_G) (cB cI cJ cD : ClassId) (h0 : Nat) (z0 : Nat) (z1 : Nat) (z2 : Nat) (z3 : Nat) (z4 : Nat) (z5 : Nat) (z6 : Nat) (z7 : Nat) (z8 : Nat) (z9 : Nat) (p0 : Int32) (sz : Nat) : Met l yX1_mayDo (kk_W yX1_mayDo cX1_mayDo 3 (some .boolean)) ({ frames := 1, cells := 0, slots := 0, locals := 21 }) (va_Pc [.ref h0, .int p0, .int 5] (kk_pre D cB cI cJ cD [kO h0 1 [.int 0, .ref z0, .ref z1, .ref z2, .ref z3, .ref z4, .ref z5, .ref z6, .ref z7, .ref z8, .ref z9, .int 0]] sz)) (vp_Si (fun r => r = 0)) 0 0 (fun _ => False) := by
  refine kk_pstart (y := yX1_mayDo) (maxL := 3) (av := [.ref h0, .int p0, .int 5]) (by decide) (Nat.le_of_ble_eq_true rfl) ?_
  intro p e s m below meth c ls hx hb hr hml hown hts hE hlocks hsz hP hD hl
  have hown : s.vm.findClass RX1 = some m.cls := hown
  have hl : lv_has ls 3 [(0, .ref h0), (1, .int p0), (2, .int 5)] := hl
  refine lv_aload_n hx hb dX1_mayDo_0 rfl (lv_at hl 0 rfl) ?_
  refine lv_iload_n hx hb dX1_mayDo_1 rfl (lv_at hl 1 rfl) ?_
  refine kk_pi (kk_runV (w1 := [kO h0 1 [.int 0, .ref z0, .ref z1, .ref z2, .ref z3, .ref z4, .ref z5, .ref z6, .ref z7, .ref z8, .ref z9, .int 0]]) (As := [.int p0]) (rest := []) hx hb hml hown hts hE (c_X1_has l D cB cI cJ cD h0 z0 z1 z2 z3 z4 z5 z6 z7 z8 z9 p0 s.heap.size) m_X1_has w_771 ⟨rfl, rfl, Nat.le_of_ble_eq_true rfl, Nat.le_of_ble_eq_true rfl⟩ (hP.sub [0] rfl) (hD.sub [0] (by decide +kernel) rfl) 0 1 rfl rfl rfl hl.1 (Nat.le_of_ble_eq_true rfl) dX1_mayDo_2 ⟨Nat.le_of_ble_eq_true rfl, Nat.le_of_ble_eq_true rfl⟩) (fun r_1 p_1 => ?_)
  obtain rfl : r_1 = 0 := p_1
  refine lv_if_ne (tgt := 10) hx hb dX1_mayDo_5 (by decide) (fun c_2 => absurd c_2 (by decide)) (fun _ => ?_)
  refine lv_iconst (v := 0) hx hb dX1_mayDo_8 (by decide) ?_
  exact kk_pret_z hx hb hr hlocks (by decide) rfl dX1_mayDo_9
set_option maxHeartbeats 4000000 in
set_option maxRecDepth 100000 in
theorem c_X9_act_6 (l : Launch) (D : va_G) (cB cI cJ cD : ClassId) (h0 h1 : Nat) (z0 : Nat) (z1 : Nat) (z2 : Nat) (z3 : Nat) (z4 : Nat) (z5 : Nat) (z6 : Nat) (z7 : Nat) (z8 : Nat) (z9 : Nat) (z10 : Nat) (z11 : Nat) (p0 : Int32) (p1 : Int32) (p2 : Int32) (sz : Nat) : Met l yX9_act (kk_W yX9_act cX9_act 7 (some .int)) ({ frames := 2, cells := 0, slots := 0, locals := 43 }) (va_Pc [.ref h0, .int p0, .int 5, .int p1, .int p1, .int p2] (kk_pre D cB cI cJ cD [kO h0 8 [.ref z0, .ref h1, .ref z1, .int 0, .int 0, .int 0, .int 0, .int 0], kO h1 1 [.int 0, .ref z2, .ref z3, .ref z4, .ref z5, .ref z6, .ref z7, .ref z8, .ref z9, .ref z10, .ref z11, .int 0]] sz)) (vp_Si (fun r => r = (-1))) 0 0 (fun _ => False) := by
  refine kk_pstart (y := yX9_act) (maxL := 7) (av := [.ref h0, .int p0, .int 5, .int p1, .int p1, .int p2]) (by decide) (Nat.le_of_ble_eq_true rfl) ?_
  intro p e s m below meth c ls hx hb hr hml hown hts hE hlocks hsz hP hD hl
  have hown : s.vm.findClass RX9 = some m.cls := hown
  have hl : lv_has ls 7 [(0, .ref h0), (1, .int p0), (2, .int 5), (3, .int p1), (4, .int p1), (5, .int p2)] := hl
  refine lv_aload_n hx hb dX9_act_0 rfl (lv_at hl 0 rfl) ?_
  refine va_get (D := D) (ci := 8) (v := .ref h1) (C := RX9) (T := TX9) (N := 8) hx hb hts u_X9 hown hE.1 hP 0 rfl rfl 1 (by decide) (hts _ w_387) (fun _ h9 => h9) rfl dX9_act_1 ?_
  refine lv_iload_n hx hb dX9_act_4 rfl (lv_at hl 1 rfl) ?_
  refine lv_iload_n hx hb dX9_act_5 rfl (lv_at hl 2 rfl) ?_
  refine kk_pi (kk_runV (w1 := [kO h1 1 [.int 0, .ref z2, .ref z3, .ref z4, .ref z5, .ref z6, .ref z7, .ref z8, .ref z9, .ref z10, .ref z11, .int 0]]) (As := [.int p0, .int 5]) (rest := []) hx hb hml hown hts hE (c_X1_mayDo_6 l D cB cI cJ cD h1 z2 z3 z4 z5 z6 z7 z8 z9 z10 z11 p0 s.heap.size) m_X1_mayDo w_767 ⟨rfl, rfl, Nat.le_of_ble_eq_true rfl, Nat.le_of_ble_eq_true rfl⟩ (hP.sub [1] rfl) (hD.sub [1] (by decide +kernel) rfl) 0 1 rfl rfl rfl hl.1 (Nat.le_of_ble_eq_true rfl) dX9_act_6 ⟨Nat.le_of_ble_eq_true rfl, Nat.le_of_ble_eq_true rfl⟩) (fun r_1 p_1 => ?_)
  obtain rfl : r_1 = 0 := p_1
  refine lv_if_ne (tgt := 14) hx hb dX9_act_9 (by decide) (fun c_2 => absurd c_2 (by decide)) (fun _ => ?_)
  refine lv_iconst (v := (-1)) hx hb dX9_act_12 (by decide) ?_
  exact kk_pret_i hx hb hr hlocks rfl dX9_act_13
set_option maxHeartbeats 4000000 in
set_option maxRecDepth 100000 in
theorem c_X10_actOnKey_4 (l : Launch) (D : va_G) (cB cI cJ cD : ClassId) (h0 h1 h2 h3 h4 : Nat) (z0 : Nat) (z1 : Nat) (z2 : Nat) (z3 : Nat) (z4 : Nat) (z5 : Nat) (z6 : Nat) (z7 : Nat) (z8 : Nat) (z9 : Nat) (z10 : Nat) (z11 : Nat) (z12 : Nat) (z13 : Nat) (z14 : Nat) (z15 : Nat) (z16 : Nat) (z17 : Nat) (z18 : Nat) (z19 : Nat) (p0 : Int32) (p1 : Int32) (p2 : Int32) (sz : Nat) : Met l yX10_actOnKey (kk_W yX10_actOnKey cX10_actOnKey 5 (some .int)) ({ frames := 3, cells := 0, slots := 0, locals := 69 }) (va_Pc [.ref h0, .int p0, .int 5, .int p1, .int p2] (kk_pre D cB cI cJ cD [kO h0 9 [.ref z0, .ref z1, .ref h1, .ref z2, .int 0, .ref z3, .ref z4], kO h1 2 [.ref h2, .ref z5, .int 0], kO h2 0 [.ref h3, .ref z6, .ref z7, .int 0, .int (-1)], kO h3 8 [.ref z8, .ref h4, .ref z9, .int 0, .int 0, .int 0, .int 0, .int 0], kO h4 1 [.int 0, .ref z10, .ref z11, .ref z12, .ref z13, .ref z14, .ref z15, .ref z16, .ref z17, .ref z18, .ref z19, .int 0]] sz)) (vp_Si (fun r => r = (-1))) 0 0 (fun _ => False) := by
  refine kk_pstart (y := yX10_actOnKey) (maxL := 5) (av := [.ref h0, .int p0, .int 5, .int p1, .int p2]) (by decide) (Nat.le_of_ble_eq_true rfl) ?_
  intro p e s m below meth c ls hx hb hr hml hown hts hE hlocks hsz hP hD hl
  have hown : s.vm.findClass RX10 = some m.cls := hown
  have hl : lv_has ls 5 [(0, .ref h0), (1, .int p0), (2, .int 5), (3, .int p1), (4, .int p2)] := hl
  refine lv_iload_n hx hb dX10_actOnKey_0 rfl (lv_at hl 3 rfl) ?_
  refine lv_iconst (v := (-1)) hx hb dX10_actOnKey_1 (by decide) ?_
  refine lv_icmp_eq (tgt := 18) hx hb dX10_actOnKey_2 (by decide) (fun c_1 => ?_) (fun c_1 => ?_)
  · refine lv_iconst (v := (-1)) hx hb dX10_actOnKey_18 (by decide) ?_
    exact kk_pret_i hx hb hr hlocks rfl dX10_actOnKey_19
  · refine lv_iload hx hb dX10_actOnKey_5 (lv_at hl 4 rfl) ?_
    refine lv_if_lt (tgt := 18) hx hb dX10_actOnKey_7 (by decide) (fun c_2 => ?_) (fun c_2 => ?_)
    · refine lv_iconst (v := (-1)) hx hb dX10_actOnKey_18 (by decide) ?_
      exact kk_pret_i hx hb hr hlocks rfl dX10_actOnKey_19
    · refine lv_iload hx hb dX10_actOnKey_10 (lv_at hl 4 rfl) ?_
      refine lv_sipush (v := 9999) hx hb dX10_actOnKey_12 (by decide) ?_
      refine lv_icmp_le (tgt := 20) hx hb dX10_actOnKey_15 (by decide) (fun c_3 => ?_) (fun c_3 => ?_)
      · refine lv_aload_n hx hb dX10_actOnKey_20 rfl (lv_at hl 0 rfl) ?_
        refine va_get (D := D) (ci := 9) (v := .ref h1) (C := RX10) (T := TX10) (N := 7) hx hb hts u_X10 hown hE.1 hP 0 rfl rfl 2 (by decide) (hts _ w_491) (fun _ h9 => h9) rfl dX10_actOnKey_21 ?_
        refine va_get (D := D) (ci := 2) (v := .ref h2) (C := RX2) (T := TX2) (N := 3) hx hb hts u_X2 hown hE.1 hP 1 rfl rfl 0 (by decide) (hts _ w_474) (fun _ h9 => h9) rfl dX10_actOnKey_24 ?_
        refine va_get (D := D) (ci := 0) (v := .ref h3) (C := RX0) (T := TX0) (N := 5) hx hb hts u_X0 hown hE.1 hP 2 rfl rfl 0 (by decide) (hts _ w_420) (fun _ h9 => h9) rfl dX10_actOnKey_27 ?_
        refine lv_iload_n hx hb dX10_actOnKey_30 rfl (lv_at hl 1 rfl) ?_
        refine lv_iload_n hx hb dX10_actOnKey_31 rfl (lv_at hl 2 rfl) ?_
        refine lv_iload_n hx hb dX10_actOnKey_32 rfl (lv_at hl 3 rfl) ?_
        refine lv_iload_n hx hb dX10_actOnKey_33 rfl (lv_at hl 3 rfl) ?_
        refine lv_iload hx hb dX10_actOnKey_34 (lv_at hl 4 rfl) ?_
        refine kk_pi (kk_runV (w1 := [kO h3 8 [.ref z8, .ref h4, .ref z9, .int 0, .int 0, .int 0, .int 0, .int 0], kO h4 1 [.int 0, .ref z10, .ref z11, .ref z12, .ref z13, .ref z14, .ref z15, .ref z16, .ref z17, .ref z18, .ref z19, .int 0]]) (As := [.int p0, .int 5, .int p1, .int p1, .int p2]) (rest := []) hx hb hml hown hts hE (c_X9_act_6 l D cB cI cJ cD h3 h4 z8 z9 z10 z11 z12 z13 z14 z15 z16 z17 z18 z19 p0 p1 p2 s.heap.size) m_X9_act w_763 ⟨rfl, rfl, Nat.le_of_ble_eq_true rfl, Nat.le_of_ble_eq_true rfl⟩ (hP.sub [3, 4] rfl) (hD.sub [3, 4] (by decide +kernel) rfl) 0 8 rfl rfl rfl hl.1 (Nat.le_of_ble_eq_true rfl) dX10_actOnKey_36 ⟨Nat.le_of_ble_eq_true rfl, Nat.le_of_ble_eq_true rfl⟩) (fun r_4 p_4 => ?_)
        obtain rfl : r_4 = (-1) := p_4
        exact kk_pret_i hx hb hr hlocks rfl dX10_actOnKey_39
      · refine lv_iconst (v := (-1)) hx hb dX10_actOnKey_18 (by decide) ?_
        exact kk_pret_i hx hb hr hlocks rfl dX10_actOnKey_19
set_option maxHeartbeats 4000000 in
set_option maxRecDepth 100000 in
theorem c_X10_put (l : Launch) (D : va_G) (cB cI cJ cD : ClassId) (h0 h1 h2 h3 h4 : Nat) (z0 : Nat) (z1 : Nat) (z2 : Nat) (z3 : Nat) (z4 : Nat) (z5 : Nat) (z6 : Nat) (z7 : Nat) (z8 : Nat) (z9 : Nat) (z10 : Nat) (z11 : Nat) (z12 : Nat) (z13 : Nat) (z14 : Nat) (z15 : Nat) (z16 : Nat) (z17 : Nat) (z18 : Nat) (z19 : Nat) (p0 : Int32) (p1 : Int32) (p2 : Int32) (p3 : Int32) (sz : Nat) : Met l yX10_put (kk_W yX10_put cX10_put 5 (some .int)) ({ frames := 4, cells := 0, slots := 0, locals := 93 }) (va_Pc [.ref h0, .int p0, .int p1, .int p2, .int p3] (kk_pre D cB cI cJ cD [kO h0 9 [.ref z0, .ref z1, .ref h1, .ref z2, .int 0, .ref z3, .ref z4], kO h1 2 [.ref h2, .ref z5, .int 0], kO h2 0 [.ref h3, .ref z6, .ref z7, .int 0, .int (-1)], kO h3 8 [.ref z8, .ref h4, .ref z9, .int 0, .int 0, .int 0, .int 0, .int 0], kO h4 1 [.int 0, .ref z10, .ref z11, .ref z12, .ref z13, .ref z14, .ref z15, .ref z16, .ref z17, .ref z18, .ref z19, .int 0]] sz)) (vp_Si (fun r => r = (-1))) 0 0 (fun _ => False) := by
  refine kk_pstart (y := yX10_put) (maxL := 5) (av := [.ref h0, .int p0, .int p1, .int p2, .int p3]) (by decide) (Nat.le_of_ble_eq_true rfl) ?_
  intro p e s m below meth c ls hx hb hr hml hown hts hE hlocks hsz hP hD hl
  have hown : s.vm.findClass RX10 = some m.cls := hown
  have hl : lv_has ls 5 [(0, .ref h0), (1, .int p0), (2, .int p1), (3, .int p2), (4, .int p3)] := hl
  refine lv_aload_n hx hb dX10_put_0 rfl (lv_at hl 0 rfl) ?_
  refine lv_iload_n hx hb dX10_put_1 rfl (lv_at hl 1 rfl) ?_
  refine lv_iconst (v := 5) hx hb dX10_put_2 (by decide) ?_
  refine lv_iload_n hx hb dX10_put_3 rfl (lv_at hl 2 rfl) ?_
  refine lv_iload_n hx hb dX10_put_4 rfl (lv_at hl 3 rfl) ?_
  refine kk_pi (kk_runS (w1 := []) (As := [.int p1, .int p2]) (rest := [.int 5, .int p0, .ref h0]) hx hb hml hown hts hE (c_X4_keyBits l D cB cI cJ cD p1 p2 s.heap.size) m_X4_keyBits w_665 ⟨rfl, rfl, Nat.le_of_ble_eq_true rfl, Nat.le_of_ble_eq_true rfl⟩ (hP.sub [] rfl) (hD.sub [] (by decide +kernel) rfl) rfl hl.1 (Nat.le_of_ble_eq_true rfl) dX10_put_5 ⟨Nat.le_of_ble_eq_true rfl, Nat.le_of_ble_eq_true rfl⟩) (fun r_1 p_1 => ?_)
  obtain rfl : kb p1 p2 = r_1 := (p_1).symm
  refine lv_iload hx hb dX10_put_8 (lv_at hl 4 rfl) ?_
  refine kk_pi (kk_runV (w1 := [kO h0 9 [.ref z0, .ref z1, .ref h1, .ref z2, .int 0, .ref z3, .ref z4], kO h1 2 [.ref h2, .ref z5, .int 0], kO h2 0 [.ref h3, .ref z6, .ref z7, .int 0, .int (-1)], kO h3 8 [.ref z8, .ref h4, .ref z9, .int 0, .int 0, .int 0, .int 0, .int 0], kO h4 1 [.int 0, .ref z10, .ref z11, .ref z12, .ref z13, .ref z14, .ref z15, .ref z16, .ref z17, .ref z18, .ref z19, .int 0]]) (As := [.int p0, .int 5, .int (kb p1 p2), .int p3]) (rest := []) hx hb hml hown hts hE (c_X10_actOnKey_4 l D cB cI cJ cD h0 h1 h2 h3 h4 z0 z1 z2 z3 z4 z5 z6 z7 z8 z9 z10 z11 z12 z13 z14 z15 z16 z17 z18 z19 p0 (kb p1 p2) p3 s.heap.size) m_X10_actOnKey w_876 ⟨rfl, rfl, Nat.le_of_ble_eq_true rfl, Nat.le_of_ble_eq_true rfl⟩ (hP.sub [0, 1, 2, 3, 4] rfl) (hD.sub [0, 1, 2, 3, 4] (by decide +kernel) rfl) 0 9 rfl rfl rfl hl.1 (Nat.le_of_ble_eq_true rfl) dX10_put_10 ⟨Nat.le_of_ble_eq_true rfl, Nat.le_of_ble_eq_true rfl⟩) (fun r_2 p_2 => ?_)
  obtain rfl : r_2 = (-1) := p_2
  exact kk_pret_i hx hb hr hlocks rfl dX10_put_13
set_option maxHeartbeats 4000000 in
set_option maxRecDepth 100000 in
theorem c_X1_mayDo_7 (l : Launch) (D : va_G) (cB cI cJ cD : ClassId) (h0 : Nat) (z0 : Nat) (z1 : Nat) (z2 : Nat) (z3 : Nat) (z4 : Nat) (z5 : Nat) (z6 : Nat) (z7 : Nat) (z8 : Nat) (z9 : Nat) (p0 : Int32) (sz : Nat) : Met l yX1_mayDo (kk_W yX1_mayDo cX1_mayDo 3 (some .boolean)) ({ frames := 1, cells := 0, slots := 0, locals := 21 }) (va_Pc [.ref h0, .int p0, .int 6] (kk_pre D cB cI cJ cD [kO h0 1 [.int 0, .ref z0, .ref z1, .ref z2, .ref z3, .ref z4, .ref z5, .ref z6, .ref z7, .ref z8, .ref z9, .int 0]] sz)) (vp_Si (fun r => r = 0)) 0 0 (fun _ => False) := by
  refine kk_pstart (y := yX1_mayDo) (maxL := 3) (av := [.ref h0, .int p0, .int 6]) (by decide) (Nat.le_of_ble_eq_true rfl) ?_
  intro p e s m below meth c ls hx hb hr hml hown hts hE hlocks hsz hP hD hl
  have hown : s.vm.findClass RX1 = some m.cls := hown
  have hl : lv_has ls 3 [(0, .ref h0), (1, .int p0), (2, .int 6)] := hl
  refine lv_aload_n hx hb dX1_mayDo_0 rfl (lv_at hl 0 rfl) ?_
  refine lv_iload_n hx hb dX1_mayDo_1 rfl (lv_at hl 1 rfl) ?_
  refine kk_pi (kk_runV (w1 := [kO h0 1 [.int 0, .ref z0, .ref z1, .ref z2, .ref z3, .ref z4, .ref z5, .ref z6, .ref z7, .ref z8, .ref z9, .int 0]]) (As := [.int p0]) (rest := []) hx hb hml hown hts hE (c_X1_has l D cB cI cJ cD h0 z0 z1 z2 z3 z4 z5 z6 z7 z8 z9 p0 s.heap.size) m_X1_has w_771 ⟨rfl, rfl, Nat.le_of_ble_eq_true rfl, Nat.le_of_ble_eq_true rfl⟩ (hP.sub [0] rfl) (hD.sub [0] (by decide +kernel) rfl) 0 1 rfl rfl rfl hl.1 (Nat.le_of_ble_eq_true rfl) dX1_mayDo_2 ⟨Nat.le_of_ble_eq_true rfl, Nat.le_of_ble_eq_true rfl⟩) (fun r_1 p_1 => ?_)
  obtain rfl : r_1 = 0 := p_1
  refine lv_if_ne (tgt := 10) hx hb dX1_mayDo_5 (by decide) (fun c_2 => absurd c_2 (by decide)) (fun _ => ?_)
  refine lv_iconst (v := 0) hx hb dX1_mayDo_8 (by decide) ?_
  exact kk_pret_z hx hb hr hlocks (by decide) rfl dX1_mayDo_9
set_option maxHeartbeats 4000000 in
set_option maxRecDepth 100000 in
theorem c_X9_act_7 (l : Launch) (D : va_G) (cB cI cJ cD : ClassId) (h0 h1 : Nat) (z0 : Nat) (z1 : Nat) (z2 : Nat) (z3 : Nat) (z4 : Nat) (z5 : Nat) (z6 : Nat) (z7 : Nat) (z8 : Nat) (z9 : Nat) (z10 : Nat) (z11 : Nat) (p0 : Int32) (p1 : Int32) (sz : Nat) : Met l yX9_act (kk_W yX9_act cX9_act 7 (some .int)) ({ frames := 2, cells := 0, slots := 0, locals := 43 }) (va_Pc [.ref h0, .int p0, .int 6, .int p1, .int p1, .int 0] (kk_pre D cB cI cJ cD [kO h0 8 [.ref z0, .ref h1, .ref z1, .int 0, .int 0, .int 0, .int 0, .int 0], kO h1 1 [.int 0, .ref z2, .ref z3, .ref z4, .ref z5, .ref z6, .ref z7, .ref z8, .ref z9, .ref z10, .ref z11, .int 0]] sz)) (vp_Si (fun r => r = (-1))) 0 0 (fun _ => False) := by
  refine kk_pstart (y := yX9_act) (maxL := 7) (av := [.ref h0, .int p0, .int 6, .int p1, .int p1, .int 0]) (by decide) (Nat.le_of_ble_eq_true rfl) ?_
  intro p e s m below meth c ls hx hb hr hml hown hts hE hlocks hsz hP hD hl
  have hown : s.vm.findClass RX9 = some m.cls := hown
  have hl : lv_has ls 7 [(0, .ref h0), (1, .int p0), (2, .int 6), (3, .int p1), (4, .int p1), (5, .int 0)] := hl
  refine lv_aload_n hx hb dX9_act_0 rfl (lv_at hl 0 rfl) ?_
  refine va_get (D := D) (ci := 8) (v := .ref h1) (C := RX9) (T := TX9) (N := 8) hx hb hts u_X9 hown hE.1 hP 0 rfl rfl 1 (by decide) (hts _ w_387) (fun _ h9 => h9) rfl dX9_act_1 ?_
  refine lv_iload_n hx hb dX9_act_4 rfl (lv_at hl 1 rfl) ?_
  refine lv_iload_n hx hb dX9_act_5 rfl (lv_at hl 2 rfl) ?_
  refine kk_pi (kk_runV (w1 := [kO h1 1 [.int 0, .ref z2, .ref z3, .ref z4, .ref z5, .ref z6, .ref z7, .ref z8, .ref z9, .ref z10, .ref z11, .int 0]]) (As := [.int p0, .int 6]) (rest := []) hx hb hml hown hts hE (c_X1_mayDo_7 l D cB cI cJ cD h1 z2 z3 z4 z5 z6 z7 z8 z9 z10 z11 p0 s.heap.size) m_X1_mayDo w_767 ⟨rfl, rfl, Nat.le_of_ble_eq_true rfl, Nat.le_of_ble_eq_true rfl⟩ (hP.sub [1] rfl) (hD.sub [1] (by decide +kernel) rfl) 0 1 rfl rfl rfl hl.1 (Nat.le_of_ble_eq_true rfl) dX9_act_6 ⟨Nat.le_of_ble_eq_true rfl, Nat.le_of_ble_eq_true rfl⟩) (fun r_1 p_1 => ?_)
  obtain rfl : r_1 = 0 := p_1
  refine lv_if_ne (tgt := 14) hx hb dX9_act_9 (by decide) (fun c_2 => absurd c_2 (by decide)) (fun _ => ?_)
  refine lv_iconst (v := (-1)) hx hb dX9_act_12 (by decide) ?_
  exact kk_pret_i hx hb hr hlocks rfl dX9_act_13
set_option maxHeartbeats 4000000 in
set_option maxRecDepth 100000 in
theorem c_X10_actOnKey_5 (l : Launch) (D : va_G) (cB cI cJ cD : ClassId) (h0 h1 h2 h3 h4 : Nat) (z0 : Nat) (z1 : Nat) (z2 : Nat) (z3 : Nat) (z4 : Nat) (z5 : Nat) (z6 : Nat) (z7 : Nat) (z8 : Nat) (z9 : Nat) (z10 : Nat) (z11 : Nat) (z12 : Nat) (z13 : Nat) (z14 : Nat) (z15 : Nat) (z16 : Nat) (z17 : Nat) (z18 : Nat) (z19 : Nat) (p0 : Int32) (p1 : Int32) (sz : Nat) : Met l yX10_actOnKey (kk_W yX10_actOnKey cX10_actOnKey 5 (some .int)) ({ frames := 3, cells := 0, slots := 0, locals := 69 }) (va_Pc [.ref h0, .int p0, .int 6, .int p1, .int 0] (kk_pre D cB cI cJ cD [kO h0 9 [.ref z0, .ref z1, .ref h1, .ref z2, .int 0, .ref z3, .ref z4], kO h1 2 [.ref h2, .ref z5, .int 0], kO h2 0 [.ref h3, .ref z6, .ref z7, .int 0, .int (-1)], kO h3 8 [.ref z8, .ref h4, .ref z9, .int 0, .int 0, .int 0, .int 0, .int 0], kO h4 1 [.int 0, .ref z10, .ref z11, .ref z12, .ref z13, .ref z14, .ref z15, .ref z16, .ref z17, .ref z18, .ref z19, .int 0]] sz)) (vp_Si (fun r => r = (-1))) 0 0 (fun _ => False) := by
  refine kk_pstart (y := yX10_actOnKey) (maxL := 5) (av := [.ref h0, .int p0, .int 6, .int p1, .int 0]) (by decide) (Nat.le_of_ble_eq_true rfl) ?_
  intro p e s m below meth c ls hx hb hr hml hown hts hE hlocks hsz hP hD hl
  have hown : s.vm.findClass RX10 = some m.cls := hown
  have hl : lv_has ls 5 [(0, .ref h0), (1, .int p0), (2, .int 6), (3, .int p1), (4, .int 0)] := hl
  refine lv_iload_n hx hb dX10_actOnKey_0 rfl (lv_at hl 3 rfl) ?_
  refine lv_iconst (v := (-1)) hx hb dX10_actOnKey_1 (by decide) ?_
  refine lv_icmp_eq (tgt := 18) hx hb dX10_actOnKey_2 (by decide) (fun c_1 => ?_) (fun c_1 => ?_)
  · refine lv_iconst (v := (-1)) hx hb dX10_actOnKey_18 (by decide) ?_
    exact kk_pret_i hx hb hr hlocks rfl dX10_actOnKey_19
  · refine lv_iload hx hb dX10_actOnKey_5 (lv_at hl 4 rfl) ?_
    refine lv_if_lt (tgt := 18) hx hb dX10_actOnKey_7 (by decide) (fun c_2 => absurd c_2 (by decide)) (fun _ => ?_)
    refine lv_iload hx hb dX10_actOnKey_10 (lv_at hl 4 rfl) ?_
    refine lv_sipush (v := 9999) hx hb dX10_actOnKey_12 (by decide) ?_
    refine lv_icmp_le (tgt := 20) hx hb dX10_actOnKey_15 (by decide) (fun _ => ?_) (fun c_3 => absurd c_3 (by decide))
    refine lv_aload_n hx hb dX10_actOnKey_20 rfl (lv_at hl 0 rfl) ?_
    refine va_get (D := D) (ci := 9) (v := .ref h1) (C := RX10) (T := TX10) (N := 7) hx hb hts u_X10 hown hE.1 hP 0 rfl rfl 2 (by decide) (hts _ w_491) (fun _ h9 => h9) rfl dX10_actOnKey_21 ?_
    refine va_get (D := D) (ci := 2) (v := .ref h2) (C := RX2) (T := TX2) (N := 3) hx hb hts u_X2 hown hE.1 hP 1 rfl rfl 0 (by decide) (hts _ w_474) (fun _ h9 => h9) rfl dX10_actOnKey_24 ?_
    refine va_get (D := D) (ci := 0) (v := .ref h3) (C := RX0) (T := TX0) (N := 5) hx hb hts u_X0 hown hE.1 hP 2 rfl rfl 0 (by decide) (hts _ w_420) (fun _ h9 => h9) rfl dX10_actOnKey_27 ?_
    refine lv_iload_n hx hb dX10_actOnKey_30 rfl (lv_at hl 1 rfl) ?_
    refine lv_iload_n hx hb dX10_actOnKey_31 rfl (lv_at hl 2 rfl) ?_
    refine lv_iload_n hx hb dX10_actOnKey_32 rfl (lv_at hl 3 rfl) ?_
    refine lv_iload_n hx hb dX10_actOnKey_33 rfl (lv_at hl 3 rfl) ?_
    refine lv_iload hx hb dX10_actOnKey_34 (lv_at hl 4 rfl) ?_
    refine kk_pi (kk_runV (w1 := [kO h3 8 [.ref z8, .ref h4, .ref z9, .int 0, .int 0, .int 0, .int 0, .int 0], kO h4 1 [.int 0, .ref z10, .ref z11, .ref z12, .ref z13, .ref z14, .ref z15, .ref z16, .ref z17, .ref z18, .ref z19, .int 0]]) (As := [.int p0, .int 6, .int p1, .int p1, .int 0]) (rest := []) hx hb hml hown hts hE (c_X9_act_7 l D cB cI cJ cD h3 h4 z8 z9 z10 z11 z12 z13 z14 z15 z16 z17 z18 z19 p0 p1 s.heap.size) m_X9_act w_763 ⟨rfl, rfl, Nat.le_of_ble_eq_true rfl, Nat.le_of_ble_eq_true rfl⟩ (hP.sub [3, 4] rfl) (hD.sub [3, 4] (by decide +kernel) rfl) 0 8 rfl rfl rfl hl.1 (Nat.le_of_ble_eq_true rfl) dX10_actOnKey_36 ⟨Nat.le_of_ble_eq_true rfl, Nat.le_of_ble_eq_true rfl⟩) (fun r_4 p_4 => ?_)
    obtain rfl : r_4 = (-1) := p_4
    exact kk_pret_i hx hb hr hlocks rfl dX10_actOnKey_39
set_option maxHeartbeats 4000000 in
set_option maxRecDepth 100000 in
theorem c_X10_cut (l : Launch) (D : va_G) (cB cI cJ cD : ClassId) (h0 h1 h2 h3 h4 : Nat) (z0 : Nat) (z1 : Nat) (z2 : Nat) (z3 : Nat) (z4 : Nat) (z5 : Nat) (z6 : Nat) (z7 : Nat) (z8 : Nat) (z9 : Nat) (z10 : Nat) (z11 : Nat) (z12 : Nat) (z13 : Nat) (z14 : Nat) (z15 : Nat) (z16 : Nat) (z17 : Nat) (z18 : Nat) (z19 : Nat) (p0 : Int32) (p1 : Int32) (p2 : Int32) (sz : Nat) : Met l yX10_cut (kk_W yX10_cut cX10_cut 4 (some .int)) ({ frames := 4, cells := 0, slots := 0, locals := 93 }) (va_Pc [.ref h0, .int p0, .int p1, .int p2] (kk_pre D cB cI cJ cD [kO h0 9 [.ref z0, .ref z1, .ref h1, .ref z2, .int 0, .ref z3, .ref z4], kO h1 2 [.ref h2, .ref z5, .int 0], kO h2 0 [.ref h3, .ref z6, .ref z7, .int 0, .int (-1)], kO h3 8 [.ref z8, .ref h4, .ref z9, .int 0, .int 0, .int 0, .int 0, .int 0], kO h4 1 [.int 0, .ref z10, .ref z11, .ref z12, .ref z13, .ref z14, .ref z15, .ref z16, .ref z17, .ref z18, .ref z19, .int 0]] sz)) (vp_Si (fun r => r = (-1))) 0 0 (fun _ => False) := by
  refine kk_pstart (y := yX10_cut) (maxL := 4) (av := [.ref h0, .int p0, .int p1, .int p2]) (by decide) (Nat.le_of_ble_eq_true rfl) ?_
  intro p e s m below meth c ls hx hb hr hml hown hts hE hlocks hsz hP hD hl
  have hown : s.vm.findClass RX10 = some m.cls := hown
  have hl : lv_has ls 4 [(0, .ref h0), (1, .int p0), (2, .int p1), (3, .int p2)] := hl
  refine lv_aload_n hx hb dX10_cut_0 rfl (lv_at hl 0 rfl) ?_
  refine lv_iload_n hx hb dX10_cut_1 rfl (lv_at hl 1 rfl) ?_
  refine lv_bipush (v := 6) hx hb dX10_cut_2 (by decide) ?_
  refine lv_iload_n hx hb dX10_cut_4 rfl (lv_at hl 2 rfl) ?_
  refine lv_iload_n hx hb dX10_cut_5 rfl (lv_at hl 3 rfl) ?_
  refine kk_pi (kk_runS (w1 := []) (As := [.int p1, .int p2]) (rest := [.int 6, .int p0, .ref h0]) hx hb hml hown hts hE (c_X4_keyBits l D cB cI cJ cD p1 p2 s.heap.size) m_X4_keyBits w_665 ⟨rfl, rfl, Nat.le_of_ble_eq_true rfl, Nat.le_of_ble_eq_true rfl⟩ (hP.sub [] rfl) (hD.sub [] (by decide +kernel) rfl) rfl hl.1 (Nat.le_of_ble_eq_true rfl) dX10_cut_6 ⟨Nat.le_of_ble_eq_true rfl, Nat.le_of_ble_eq_true rfl⟩) (fun r_1 p_1 => ?_)
  obtain rfl : kb p1 p2 = r_1 := (p_1).symm
  refine lv_iconst (v := 0) hx hb dX10_cut_9 (by decide) ?_
  refine kk_pi (kk_runV (w1 := [kO h0 9 [.ref z0, .ref z1, .ref h1, .ref z2, .int 0, .ref z3, .ref z4], kO h1 2 [.ref h2, .ref z5, .int 0], kO h2 0 [.ref h3, .ref z6, .ref z7, .int 0, .int (-1)], kO h3 8 [.ref z8, .ref h4, .ref z9, .int 0, .int 0, .int 0, .int 0, .int 0], kO h4 1 [.int 0, .ref z10, .ref z11, .ref z12, .ref z13, .ref z14, .ref z15, .ref z16, .ref z17, .ref z18, .ref z19, .int 0]]) (As := [.int p0, .int 6, .int (kb p1 p2), .int 0]) (rest := []) hx hb hml hown hts hE (c_X10_actOnKey_5 l D cB cI cJ cD h0 h1 h2 h3 h4 z0 z1 z2 z3 z4 z5 z6 z7 z8 z9 z10 z11 z12 z13 z14 z15 z16 z17 z18 z19 p0 (kb p1 p2) s.heap.size) m_X10_actOnKey w_876 ⟨rfl, rfl, Nat.le_of_ble_eq_true rfl, Nat.le_of_ble_eq_true rfl⟩ (hP.sub [0, 1, 2, 3, 4] rfl) (hD.sub [0, 1, 2, 3, 4] (by decide +kernel) rfl) 0 9 rfl rfl rfl hl.1 (Nat.le_of_ble_eq_true rfl) dX10_cut_10 ⟨Nat.le_of_ble_eq_true rfl, Nat.le_of_ble_eq_true rfl⟩) (fun r_2 p_2 => ?_)
  obtain rfl : r_2 = (-1) := p_2
  exact kk_pret_i hx hb hr hlocks rfl dX10_cut_13
set_option maxHeartbeats 4000000 in
set_option maxRecDepth 100000 in
theorem c_X1_mayDo_8 (l : Launch) (D : va_G) (cB cI cJ cD : ClassId) (h0 : Nat) (z0 : Nat) (z1 : Nat) (z2 : Nat) (z3 : Nat) (z4 : Nat) (z5 : Nat) (z6 : Nat) (z7 : Nat) (z8 : Nat) (z9 : Nat) (p0 : Int32) (sz : Nat) : Met l yX1_mayDo (kk_W yX1_mayDo cX1_mayDo 3 (some .boolean)) ({ frames := 1, cells := 0, slots := 0, locals := 21 }) (va_Pc [.ref h0, .int p0, .int 7] (kk_pre D cB cI cJ cD [kO h0 1 [.int 0, .ref z0, .ref z1, .ref z2, .ref z3, .ref z4, .ref z5, .ref z6, .ref z7, .ref z8, .ref z9, .int 0]] sz)) (vp_Si (fun r => r = 0)) 0 0 (fun _ => False) := by
  refine kk_pstart (y := yX1_mayDo) (maxL := 3) (av := [.ref h0, .int p0, .int 7]) (by decide) (Nat.le_of_ble_eq_true rfl) ?_
  intro p e s m below meth c ls hx hb hr hml hown hts hE hlocks hsz hP hD hl
  have hown : s.vm.findClass RX1 = some m.cls := hown
  have hl : lv_has ls 3 [(0, .ref h0), (1, .int p0), (2, .int 7)] := hl
  refine lv_aload_n hx hb dX1_mayDo_0 rfl (lv_at hl 0 rfl) ?_
  refine lv_iload_n hx hb dX1_mayDo_1 rfl (lv_at hl 1 rfl) ?_
  refine kk_pi (kk_runV (w1 := [kO h0 1 [.int 0, .ref z0, .ref z1, .ref z2, .ref z3, .ref z4, .ref z5, .ref z6, .ref z7, .ref z8, .ref z9, .int 0]]) (As := [.int p0]) (rest := []) hx hb hml hown hts hE (c_X1_has l D cB cI cJ cD h0 z0 z1 z2 z3 z4 z5 z6 z7 z8 z9 p0 s.heap.size) m_X1_has w_771 ⟨rfl, rfl, Nat.le_of_ble_eq_true rfl, Nat.le_of_ble_eq_true rfl⟩ (hP.sub [0] rfl) (hD.sub [0] (by decide +kernel) rfl) 0 1 rfl rfl rfl hl.1 (Nat.le_of_ble_eq_true rfl) dX1_mayDo_2 ⟨Nat.le_of_ble_eq_true rfl, Nat.le_of_ble_eq_true rfl⟩) (fun r_1 p_1 => ?_)
  obtain rfl : r_1 = 0 := p_1
  refine lv_if_ne (tgt := 10) hx hb dX1_mayDo_5 (by decide) (fun c_2 => absurd c_2 (by decide)) (fun _ => ?_)
  refine lv_iconst (v := 0) hx hb dX1_mayDo_8 (by decide) ?_
  exact kk_pret_z hx hb hr hlocks (by decide) rfl dX1_mayDo_9
set_option maxHeartbeats 4000000 in
set_option maxRecDepth 100000 in
theorem c_X9_act_8 (l : Launch) (D : va_G) (cB cI cJ cD : ClassId) (h0 h1 : Nat) (z0 : Nat) (z1 : Nat) (z2 : Nat) (z3 : Nat) (z4 : Nat) (z5 : Nat) (z6 : Nat) (z7 : Nat) (z8 : Nat) (z9 : Nat) (z10 : Nat) (z11 : Nat) (p0 : Int32) (sz : Nat) : Met l yX9_act (kk_W yX9_act cX9_act 7 (some .int)) ({ frames := 2, cells := 0, slots := 0, locals := 43 }) (va_Pc [.ref h0, .int p0, .int 7, .int 0, .int 0, .int 0] (kk_pre D cB cI cJ cD [kO h0 8 [.ref z0, .ref h1, .ref z1, .int 0, .int 0, .int 0, .int 0, .int 0], kO h1 1 [.int 0, .ref z2, .ref z3, .ref z4, .ref z5, .ref z6, .ref z7, .ref z8, .ref z9, .ref z10, .ref z11, .int 0]] sz)) (vp_Si (fun r => r = (-1))) 0 0 (fun _ => False) := by
  refine kk_pstart (y := yX9_act) (maxL := 7) (av := [.ref h0, .int p0, .int 7, .int 0, .int 0, .int 0]) (by decide) (Nat.le_of_ble_eq_true rfl) ?_
  intro p e s m below meth c ls hx hb hr hml hown hts hE hlocks hsz hP hD hl
  have hown : s.vm.findClass RX9 = some m.cls := hown
  have hl : lv_has ls 7 [(0, .ref h0), (1, .int p0), (2, .int 7), (3, .int 0), (4, .int 0), (5, .int 0)] := hl
  refine lv_aload_n hx hb dX9_act_0 rfl (lv_at hl 0 rfl) ?_
  refine va_get (D := D) (ci := 8) (v := .ref h1) (C := RX9) (T := TX9) (N := 8) hx hb hts u_X9 hown hE.1 hP 0 rfl rfl 1 (by decide) (hts _ w_387) (fun _ h9 => h9) rfl dX9_act_1 ?_
  refine lv_iload_n hx hb dX9_act_4 rfl (lv_at hl 1 rfl) ?_
  refine lv_iload_n hx hb dX9_act_5 rfl (lv_at hl 2 rfl) ?_
  refine kk_pi (kk_runV (w1 := [kO h1 1 [.int 0, .ref z2, .ref z3, .ref z4, .ref z5, .ref z6, .ref z7, .ref z8, .ref z9, .ref z10, .ref z11, .int 0]]) (As := [.int p0, .int 7]) (rest := []) hx hb hml hown hts hE (c_X1_mayDo_8 l D cB cI cJ cD h1 z2 z3 z4 z5 z6 z7 z8 z9 z10 z11 p0 s.heap.size) m_X1_mayDo w_767 ⟨rfl, rfl, Nat.le_of_ble_eq_true rfl, Nat.le_of_ble_eq_true rfl⟩ (hP.sub [1] rfl) (hD.sub [1] (by decide +kernel) rfl) 0 1 rfl rfl rfl hl.1 (Nat.le_of_ble_eq_true rfl) dX9_act_6 ⟨Nat.le_of_ble_eq_true rfl, Nat.le_of_ble_eq_true rfl⟩) (fun r_1 p_1 => ?_)
  obtain rfl : r_1 = 0 := p_1
  refine lv_if_ne (tgt := 14) hx hb dX9_act_9 (by decide) (fun c_2 => absurd c_2 (by decide)) (fun _ => ?_)
  refine lv_iconst (v := (-1)) hx hb dX9_act_12 (by decide) ?_
  exact kk_pret_i hx hb hr hlocks rfl dX9_act_13
set_option maxHeartbeats 4000000 in
set_option maxRecDepth 100000 in
theorem c_X10_end (l : Launch) (D : va_G) (cB cI cJ cD : ClassId) (h0 h1 h2 h3 h4 : Nat) (z0 : Nat) (z1 : Nat) (z2 : Nat) (z3 : Nat) (z4 : Nat) (z5 : Nat) (z6 : Nat) (z7 : Nat) (z8 : Nat) (z9 : Nat) (z10 : Nat) (z11 : Nat) (z12 : Nat) (z13 : Nat) (z14 : Nat) (z15 : Nat) (z16 : Nat) (z17 : Nat) (z18 : Nat) (z19 : Nat) (p0 : Int32) (sz : Nat) : Met l yX10_end (kk_W yX10_end cX10_end 2 (some .int)) ({ frames := 3, cells := 0, slots := 0, locals := 69 }) (va_Pc [.ref h0, .int p0] (kk_pre D cB cI cJ cD [kO h0 9 [.ref z0, .ref z1, .ref h1, .ref z2, .int 0, .ref z3, .ref z4], kO h1 2 [.ref h2, .ref z5, .int 0], kO h2 0 [.ref h3, .ref z6, .ref z7, .int 0, .int (-1)], kO h3 8 [.ref z8, .ref h4, .ref z9, .int 0, .int 0, .int 0, .int 0, .int 0], kO h4 1 [.int 0, .ref z10, .ref z11, .ref z12, .ref z13, .ref z14, .ref z15, .ref z16, .ref z17, .ref z18, .ref z19, .int 0]] sz)) (vp_Si (fun r => r = (-1))) 0 0 (fun _ => False) := by
  refine kk_pstart (y := yX10_end) (maxL := 2) (av := [.ref h0, .int p0]) (by decide) (Nat.le_of_ble_eq_true rfl) ?_
  intro p e s m below meth c ls hx hb hr hml hown hts hE hlocks hsz hP hD hl
  have hown : s.vm.findClass RX10 = some m.cls := hown
  have hl : lv_has ls 2 [(0, .ref h0), (1, .int p0)] := hl
  refine lv_aload_n hx hb dX10_end_0 rfl (lv_at hl 0 rfl) ?_
  refine va_get (D := D) (ci := 9) (v := .ref h1) (C := RX10) (T := TX10) (N := 7) hx hb hts u_X10 hown hE.1 hP 0 rfl rfl 2 (by decide) (hts _ w_491) (fun _ h9 => h9) rfl dX10_end_1 ?_
  refine va_get (D := D) (ci := 2) (v := .ref h2) (C := RX2) (T := TX2) (N := 3) hx hb hts u_X2 hown hE.1 hP 1 rfl rfl 0 (by decide) (hts _ w_474) (fun _ h9 => h9) rfl dX10_end_4 ?_
  refine va_get (D := D) (ci := 0) (v := .ref h3) (C := RX0) (T := TX0) (N := 5) hx hb hts u_X0 hown hE.1 hP 2 rfl rfl 0 (by decide) (hts _ w_420) (fun _ h9 => h9) rfl dX10_end_7 ?_
  refine lv_iload_n hx hb dX10_end_10 rfl (lv_at hl 1 rfl) ?_
  refine lv_bipush (v := 7) hx hb dX10_end_11 (by decide) ?_
  refine lv_iconst (v := 0) hx hb dX10_end_13 (by decide) ?_
  refine lv_iconst (v := 0) hx hb dX10_end_14 (by decide) ?_
  refine lv_iconst (v := 0) hx hb dX10_end_15 (by decide) ?_
  refine kk_pi (kk_runV (w1 := [kO h3 8 [.ref z8, .ref h4, .ref z9, .int 0, .int 0, .int 0, .int 0, .int 0], kO h4 1 [.int 0, .ref z10, .ref z11, .ref z12, .ref z13, .ref z14, .ref z15, .ref z16, .ref z17, .ref z18, .ref z19, .int 0]]) (As := [.int p0, .int 7, .int 0, .int 0, .int 0]) (rest := []) hx hb hml hown hts hE (c_X9_act_8 l D cB cI cJ cD h3 h4 z8 z9 z10 z11 z12 z13 z14 z15 z16 z17 z18 z19 p0 s.heap.size) m_X9_act w_763 ⟨rfl, rfl, Nat.le_of_ble_eq_true rfl, Nat.le_of_ble_eq_true rfl⟩ (hP.sub [3, 4] rfl) (hD.sub [3, 4] (by decide +kernel) rfl) 0 8 rfl rfl rfl hl.1 (Nat.le_of_ble_eq_true rfl) dX10_end_16 ⟨Nat.le_of_ble_eq_true rfl, Nat.le_of_ble_eq_true rfl⟩) (fun r_1 p_1 => ?_)
  obtain rfl : r_1 = (-1) := p_1
  exact kk_pret_i hx hb hr hlocks rfl dX10_end_19
set_option maxHeartbeats 4000000 in
set_option maxRecDepth 100000 in
theorem c_X1_mayDo_9 (l : Launch) (D : va_G) (cB cI cJ cD : ClassId) (h0 : Nat) (z0 : Nat) (z1 : Nat) (z2 : Nat) (z3 : Nat) (z4 : Nat) (z5 : Nat) (z6 : Nat) (z7 : Nat) (z8 : Nat) (z9 : Nat) (p0 : Int32) (sz : Nat) : Met l yX1_mayDo (kk_W yX1_mayDo cX1_mayDo 3 (some .boolean)) ({ frames := 1, cells := 0, slots := 0, locals := 21 }) (va_Pc [.ref h0, .int p0, .int 8] (kk_pre D cB cI cJ cD [kO h0 1 [.int 0, .ref z0, .ref z1, .ref z2, .ref z3, .ref z4, .ref z5, .ref z6, .ref z7, .ref z8, .ref z9, .int 0]] sz)) (vp_Si (fun r => r = 0)) 0 0 (fun _ => False) := by
  refine kk_pstart (y := yX1_mayDo) (maxL := 3) (av := [.ref h0, .int p0, .int 8]) (by decide) (Nat.le_of_ble_eq_true rfl) ?_
  intro p e s m below meth c ls hx hb hr hml hown hts hE hlocks hsz hP hD hl
  have hown : s.vm.findClass RX1 = some m.cls := hown
  have hl : lv_has ls 3 [(0, .ref h0), (1, .int p0), (2, .int 8)] := hl
  refine lv_aload_n hx hb dX1_mayDo_0 rfl (lv_at hl 0 rfl) ?_
  refine lv_iload_n hx hb dX1_mayDo_1 rfl (lv_at hl 1 rfl) ?_
  refine kk_pi (kk_runV (w1 := [kO h0 1 [.int 0, .ref z0, .ref z1, .ref z2, .ref z3, .ref z4, .ref z5, .ref z6, .ref z7, .ref z8, .ref z9, .int 0]]) (As := [.int p0]) (rest := []) hx hb hml hown hts hE (c_X1_has l D cB cI cJ cD h0 z0 z1 z2 z3 z4 z5 z6 z7 z8 z9 p0 s.heap.size) m_X1_has w_771 ⟨rfl, rfl, Nat.le_of_ble_eq_true rfl, Nat.le_of_ble_eq_true rfl⟩ (hP.sub [0] rfl) (hD.sub [0] (by decide +kernel) rfl) 0 1 rfl rfl rfl hl.1 (Nat.le_of_ble_eq_true rfl) dX1_mayDo_2 ⟨Nat.le_of_ble_eq_true rfl, Nat.le_of_ble_eq_true rfl⟩) (fun r_1 p_1 => ?_)
  obtain rfl : r_1 = 0 := p_1
  refine lv_if_ne (tgt := 10) hx hb dX1_mayDo_5 (by decide) (fun c_2 => absurd c_2 (by decide)) (fun _ => ?_)
  refine lv_iconst (v := 0) hx hb dX1_mayDo_8 (by decide) ?_
  exact kk_pret_z hx hb hr hlocks (by decide) rfl dX1_mayDo_9
set_option maxHeartbeats 4000000 in
set_option maxRecDepth 100000 in
theorem c_X9_act_9 (l : Launch) (D : va_G) (cB cI cJ cD : ClassId) (h0 h1 : Nat) (z0 : Nat) (z1 : Nat) (z2 : Nat) (z3 : Nat) (z4 : Nat) (z5 : Nat) (z6 : Nat) (z7 : Nat) (z8 : Nat) (z9 : Nat) (z10 : Nat) (z11 : Nat) (p0 : Int32) (sz : Nat) : Met l yX9_act (kk_W yX9_act cX9_act 7 (some .int)) ({ frames := 2, cells := 0, slots := 0, locals := 43 }) (va_Pc [.ref h0, .int p0, .int 8, .int 0, .int 0, .int 0] (kk_pre D cB cI cJ cD [kO h0 8 [.ref z0, .ref h1, .ref z1, .int 0, .int 0, .int 0, .int 0, .int 0], kO h1 1 [.int 0, .ref z2, .ref z3, .ref z4, .ref z5, .ref z6, .ref z7, .ref z8, .ref z9, .ref z10, .ref z11, .int 0]] sz)) (vp_Si (fun r => r = (-1))) 0 0 (fun _ => False) := by
  refine kk_pstart (y := yX9_act) (maxL := 7) (av := [.ref h0, .int p0, .int 8, .int 0, .int 0, .int 0]) (by decide) (Nat.le_of_ble_eq_true rfl) ?_
  intro p e s m below meth c ls hx hb hr hml hown hts hE hlocks hsz hP hD hl
  have hown : s.vm.findClass RX9 = some m.cls := hown
  have hl : lv_has ls 7 [(0, .ref h0), (1, .int p0), (2, .int 8), (3, .int 0), (4, .int 0), (5, .int 0)] := hl
  refine lv_aload_n hx hb dX9_act_0 rfl (lv_at hl 0 rfl) ?_
  refine va_get (D := D) (ci := 8) (v := .ref h1) (C := RX9) (T := TX9) (N := 8) hx hb hts u_X9 hown hE.1 hP 0 rfl rfl 1 (by decide) (hts _ w_387) (fun _ h9 => h9) rfl dX9_act_1 ?_
  refine lv_iload_n hx hb dX9_act_4 rfl (lv_at hl 1 rfl) ?_
  refine lv_iload_n hx hb dX9_act_5 rfl (lv_at hl 2 rfl) ?_
  refine kk_pi (kk_runV (w1 := [kO h1 1 [.int 0, .ref z2, .ref z3, .ref z4, .ref z5, .ref z6, .ref z7, .ref z8, .ref z9, .ref z10, .ref z11, .int 0]]) (As := [.int p0, .int 8]) (rest := []) hx hb hml hown hts hE (c_X1_mayDo_9 l D cB cI cJ cD h1 z2 z3 z4 z5 z6 z7 z8 z9 z10 z11 p0 s.heap.size) m_X1_mayDo w_767 ⟨rfl, rfl, Nat.le_of_ble_eq_true rfl, Nat.le_of_ble_eq_true rfl⟩ (hP.sub [1] rfl) (hD.sub [1] (by decide +kernel) rfl) 0 1 rfl rfl rfl hl.1 (Nat.le_of_ble_eq_true rfl) dX9_act_6 ⟨Nat.le_of_ble_eq_true rfl, Nat.le_of_ble_eq_true rfl⟩) (fun r_1 p_1 => ?_)
  obtain rfl : r_1 = 0 := p_1
  refine lv_if_ne (tgt := 14) hx hb dX9_act_9 (by decide) (fun c_2 => absurd c_2 (by decide)) (fun _ => ?_)
  refine lv_iconst (v := (-1)) hx hb dX9_act_12 (by decide) ?_
  exact kk_pret_i hx hb hr hlocks rfl dX9_act_13
set_option maxHeartbeats 4000000 in
set_option maxRecDepth 100000 in
theorem c_X10_quit (l : Launch) (D : va_G) (cB cI cJ cD : ClassId) (h0 h1 h2 h3 h4 : Nat) (z0 : Nat) (z1 : Nat) (z2 : Nat) (z3 : Nat) (z4 : Nat) (z5 : Nat) (z6 : Nat) (z7 : Nat) (z8 : Nat) (z9 : Nat) (z10 : Nat) (z11 : Nat) (z12 : Nat) (z13 : Nat) (z14 : Nat) (z15 : Nat) (z16 : Nat) (z17 : Nat) (z18 : Nat) (z19 : Nat) (p0 : Int32) (sz : Nat) : Met l yX10_quit (kk_W yX10_quit cX10_quit 2 (some .int)) ({ frames := 3, cells := 0, slots := 0, locals := 69 }) (va_Pc [.ref h0, .int p0] (kk_pre D cB cI cJ cD [kO h0 9 [.ref z0, .ref z1, .ref h1, .ref z2, .int 0, .ref z3, .ref z4], kO h1 2 [.ref h2, .ref z5, .int 0], kO h2 0 [.ref h3, .ref z6, .ref z7, .int 0, .int (-1)], kO h3 8 [.ref z8, .ref h4, .ref z9, .int 0, .int 0, .int 0, .int 0, .int 0], kO h4 1 [.int 0, .ref z10, .ref z11, .ref z12, .ref z13, .ref z14, .ref z15, .ref z16, .ref z17, .ref z18, .ref z19, .int 0]] sz)) (vp_Si (fun r => r = (-1))) 0 0 (fun _ => False) := by
  refine kk_pstart (y := yX10_quit) (maxL := 2) (av := [.ref h0, .int p0]) (by decide) (Nat.le_of_ble_eq_true rfl) ?_
  intro p e s m below meth c ls hx hb hr hml hown hts hE hlocks hsz hP hD hl
  have hown : s.vm.findClass RX10 = some m.cls := hown
  have hl : lv_has ls 2 [(0, .ref h0), (1, .int p0)] := hl
  refine lv_aload_n hx hb dX10_quit_0 rfl (lv_at hl 0 rfl) ?_
  refine va_get (D := D) (ci := 9) (v := .ref h1) (C := RX10) (T := TX10) (N := 7) hx hb hts u_X10 hown hE.1 hP 0 rfl rfl 2 (by decide) (hts _ w_491) (fun _ h9 => h9) rfl dX10_quit_1 ?_
  refine va_get (D := D) (ci := 2) (v := .ref h2) (C := RX2) (T := TX2) (N := 3) hx hb hts u_X2 hown hE.1 hP 1 rfl rfl 0 (by decide) (hts _ w_474) (fun _ h9 => h9) rfl dX10_quit_4 ?_
  refine va_get (D := D) (ci := 0) (v := .ref h3) (C := RX0) (T := TX0) (N := 5) hx hb hts u_X0 hown hE.1 hP 2 rfl rfl 0 (by decide) (hts _ w_420) (fun _ h9 => h9) rfl dX10_quit_7 ?_
  refine lv_iload_n hx hb dX10_quit_10 rfl (lv_at hl 1 rfl) ?_
  refine lv_bipush (v := 8) hx hb dX10_quit_11 (by decide) ?_
  refine lv_iconst (v := 0) hx hb dX10_quit_13 (by decide) ?_
  refine lv_iconst (v := 0) hx hb dX10_quit_14 (by decide) ?_
  refine lv_iconst (v := 0) hx hb dX10_quit_15 (by decide) ?_
  refine kk_pi (kk_runV (w1 := [kO h3 8 [.ref z8, .ref h4, .ref z9, .int 0, .int 0, .int 0, .int 0, .int 0], kO h4 1 [.int 0, .ref z10, .ref z11, .ref z12, .ref z13, .ref z14, .ref z15, .ref z16, .ref z17, .ref z18, .ref z19, .int 0]]) (As := [.int p0, .int 8, .int 0, .int 0, .int 0]) (rest := []) hx hb hml hown hts hE (c_X9_act_9 l D cB cI cJ cD h3 h4 z8 z9 z10 z11 z12 z13 z14 z15 z16 z17 z18 z19 p0 s.heap.size) m_X9_act w_763 ⟨rfl, rfl, Nat.le_of_ble_eq_true rfl, Nat.le_of_ble_eq_true rfl⟩ (hP.sub [3, 4] rfl) (hD.sub [3, 4] (by decide +kernel) rfl) 0 8 rfl rfl rfl hl.1 (Nat.le_of_ble_eq_true rfl) dX10_quit_16 ⟨Nat.le_of_ble_eq_true rfl, Nat.le_of_ble_eq_true rfl⟩) (fun r_1 p_1 => ?_)
  obtain rfl : r_1 = (-1) := p_1
  exact kk_pret_i hx hb hr hlocks rfl dX10_quit_19
set_option maxHeartbeats 4000000 in
set_option maxRecDepth 100000 in
theorem c_X10_outcome (l : Launch) (D : va_G) (cB cI cJ cD : ClassId) (h0 h1 h2 h3 h4 : Nat) (z0 : Nat) (z1 : Nat) (z2 : Nat) (z3 : Nat) (z4 : Nat) (z5 : Nat) (z6 : Nat) (z7 : Nat) (z8 : Nat) (z9 : Nat) (z10 : Nat) (z11 : Nat) (z12 : Nat) (z13 : Nat) (z14 : Nat) (z15 : Nat) (z16 : Nat) (z17 : Nat) (z18 : Nat) (z19 : Nat) (p0 : Int32) (sz : Nat) : Met l yX10_outcome (kk_W yX10_outcome cX10_outcome 3 (some .int)) ({ frames := 1, cells := 0, slots := 0, locals := 21 }) (va_Pc [.ref h0, .int p0] (kk_pre D cB cI cJ cD [kO h0 9 [.ref z0, .ref z1, .ref h1, .ref z2, .int 0, .ref z3, .ref z4], kO h1 2 [.ref h2, .ref z5, .int 0], kO h2 0 [.ref h3, .ref z6, .ref z7, .int 0, .int (-1)], kO h3 8 [.ref z8, .ref h4, .ref z9, .int 0, .int 0, .int 0, .int 0, .int 0], kO h4 1 [.int 0, .ref z10, .ref z11, .ref z12, .ref z13, .ref z14, .ref z15, .ref z16, .ref z17, .ref z18, .ref z19, .int 0]] sz)) (vp_Si (fun r => r = (-5))) 0 0 (fun _ => False) := by
  refine kk_pstart (y := yX10_outcome) (maxL := 3) (av := [.ref h0, .int p0]) (by decide) (Nat.le_of_ble_eq_true rfl) ?_
  intro p e s m below meth c ls hx hb hr hml hown hts hE hlocks hsz hP hD hl
  have hown : s.vm.findClass RX10 = some m.cls := hown
  have hl : lv_has ls 3 [(0, .ref h0), (1, .int p0)] := hl
  refine lv_aload_n hx hb dX10_outcome_0 rfl (lv_at hl 0 rfl) ?_
  refine va_get (D := D) (ci := 9) (v := .ref h1) (C := RX10) (T := TX10) (N := 7) hx hb hts u_X10 hown hE.1 hP 0 rfl rfl 2 (by decide) (hts _ w_491) (fun _ h9 => h9) rfl dX10_outcome_1 ?_
  refine va_get (D := D) (ci := 2) (v := .ref h2) (C := RX2) (T := TX2) (N := 3) hx hb hts u_X2 hown hE.1 hP 1 rfl rfl 0 (by decide) (hts _ w_474) (fun _ h9 => h9) rfl dX10_outcome_4 ?_
  refine va_get (D := D) (ci := 0) (v := .ref h3) (C := RX0) (T := TX0) (N := 5) hx hb hts u_X0 hown hE.1 hP 2 rfl rfl 0 (by decide) (hts _ w_420) (fun _ h9 => h9) rfl dX10_outcome_7 ?_
  refine va_get (D := D) (ci := 8) (v := .ref h4) (C := RX9) (T := TX9) (N := 8) hx hb hts u_X9 hown hE.1 hP 3 rfl rfl 1 (by decide) (hts _ w_390) (fun _ h9 => h9) rfl dX10_outcome_10 ?_
  refine lv_astore_n (lv' := [(2, .ref h4), (0, .ref h0), (1, .int p0)]) hx hb dX10_outcome_13 rfl hl (by decide) rfl (fun ls hl => ?_)
  refine lv_aload_n hx hb dX10_outcome_14 rfl (lv_at hl 0 rfl) ?_
  refine lv_iload_n hx hb dX10_outcome_15 rfl (lv_at hl 2 rfl) ?_
  refine kk_pi (kk_runV (w1 := [kO h4 1 [.int 0, .ref z10, .ref z11, .ref z12, .ref z13, .ref z14, .ref z15, .ref z16, .ref z17, .ref z18, .ref z19, .int 0]]) (As := [.int p0]) (rest := []) hx hb hml hown hts hE (c_X1_has l D cB cI cJ cD h4 z10 z11 z12 z13 z14 z15 z16 z17 z18 z19 p0 s.heap.size) m_X1_has w_705 ⟨rfl, rfl, Nat.le_of_ble_eq_true rfl, Nat.le_of_ble_eq_true rfl⟩ (hP.sub [4] rfl) (hD.sub [4] (by decide +kernel) rfl) 0 1 rfl rfl rfl hl.1 (Nat.le_of_ble_eq_true rfl) dX10_outcome_16 ⟨Nat.le_of_ble_eq_true rfl, Nat.le_of_ble_eq_true rfl⟩) (fun r_1 p_1 => ?_)
  obtain rfl : r_1 = 0 := p_1
  refine lv_if_eq (tgt := 31) hx hb dX10_outcome_19 (by decide) (fun _ => ?_) (fun c_2 => absurd c_2 (by decide))
  refine lv_bipush (v := (-5)) hx hb dX10_outcome_31 (by decide) ?_
  exact kk_pret_i hx hb hr hlocks rfl dX10_outcome_33
