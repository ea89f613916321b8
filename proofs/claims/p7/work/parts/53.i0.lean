theorem kb_out {n d : Int32} (h : ¬ ((0 ≤ n.toInt ∧ n.toInt ≤ 99999999) ∧ (1 ≤ d.toInt ∧ d.toInt ≤ 9999))) : -1 = kb n d := by
  refine (kb_no (fun q => h ?_)).symm
  have e1 : (99999999 : Int32).toInt = 99999999 := by decide
  have e2 : (9999 : Int32).toInt = 9999 := by decide
  have e3 : (1 : Int32).toInt = 1 := by decide
  have e4 : (0 : Int32).toInt = 0 := by decide
  simp only [kk_le, e1, e2, e3, e4] at q
  exact ⟨⟨q.1, q.2.1⟩, q.2.2⟩
set_option maxHeartbeats 4000000 in
set_option maxRecDepth 100000 in
theorem c_X11_isIn_0_99999999_x (l : Launch) (D : va_G) (cB cI cJ cD : ClassId) (p0 : Int32) (p1 : Int32) (p2 : Int32) (sz : Nat) (b_p1 : kr 0 0 p1) (b_p2 : kr 99999999 99999999 p2) : Met l yX11_isIn (kk_W yX11_isIn cX11_isIn 3 (some .boolean)) ({ frames := 0, cells := 0, slots := 0, locals := 0 }) (va_Pc [.int p0, .int p1, .int p2] (kk_pre D cB cI cJ cD [] sz)) (vp_Si (fun r => kr 0 1 r ∧ (¬ r = 0 → kr 0 99999999 p0) ∧ (r = 0 → ¬ (0 ≤ p0.toInt ∧ p0.toInt ≤ 99999999)))) 0 0 (fun _ => False) := by
  refine kk_pstart (y := yX11_isIn) (maxL := 3) (av := [.int p0, .int p1, .int p2]) (by decide) (Nat.le_of_ble_eq_true rfl) ?_
  intro p e s m below meth c ls hx hb hr hml hown hts hE hlocks hsz hP hD hl
  have hown : s.vm.findClass RX11 = some m.cls := hown
  have hl : lv_has ls 3 [(0, .int p0), (1, .int p1), (2, .int p2)] := hl
  refine lv_iload_n hx hb dX11_isIn_0 rfl (lv_at hl 0 rfl) ?_
  refine lv_iload_n hx hb dX11_isIn_1 rfl (lv_at hl 1 rfl) ?_
  refine lv_icmp_lt (tgt := 14) hx hb dX11_isIn_2 (by decide) (fun c_1 => ?_) (fun c_1 => ?_)
  · have i_1 : p0.toInt < p1.toInt := (ki_lt c_1)
    have b_2 : kr (-2147483648) (-1) p0 := kr_lt_l (kr_all p0) b_p1 i_1 rfl
    refine lv_iconst (v := 0) hx hb dX11_isIn_14 (by decide) ?_
    exact kk_pret_z hx hb hr hlocks (by decide) ⟨(kr_w (kr_c 0 0 rfl) rfl), (fun h9 => absurd rfl h9), (fun _ q => by have q1 := i_1; have q0 := b_2.1; have q0' := b_2.2; have q1 := b_p1.1; have q1' := b_p1.2; have q2 := b_p2.1; have q2' := b_p2.2; omega)⟩ dX11_isIn_15
  · have i_1 : p1.toInt ≤ p0.toInt := (ki_nlt c_1)
    have b_3 : kr 0 2147483647 p0 := kr_le_r b_p1 (kr_all p0) i_1 rfl
    refine lv_iload_n hx hb dX11_isIn_5 rfl (lv_at hl 0 rfl) ?_
    refine lv_iload_n hx hb dX11_isIn_6 rfl (lv_at hl 2 rfl) ?_
    refine lv_icmp_gt (tgt := 14) hx hb dX11_isIn_7 (by decide) (fun c_4 => ?_) (fun c_4 => ?_)
    · have i_4 : p2.toInt < p0.toInt := (ki_lt c_4)
      have b_5 : kr 100000000 2147483647 p0 := kr_lt_r b_p2 b_3 i_4 rfl
      refine lv_iconst (v := 0) hx hb dX11_isIn_14 (by decide) ?_
      exact kk_pret_z hx hb hr hlocks (by decide) ⟨(kr_w (kr_c 0 0 rfl) rfl), (fun h9 => absurd rfl h9), (fun _ q => by have q1 := i_4; have q0 := b_5.1; have q0' := b_5.2; have q1 := b_p1.1; have q1' := b_p1.2; have q2 := b_p2.1; have q2' := b_p2.2; omega)⟩ dX11_isIn_15
    · have i_4 : p0.toInt ≤ p2.toInt := (ki_nlt c_4)
      have b_6 : kr 0 99999999 p0 := kr_le_l b_3 b_p2 i_4 rfl
      refine lv_iconst (v := 1) hx hb dX11_isIn_10 (by decide) ?_
      refine lv_goto (tgt := 15) hx hb dX11_isIn_11 (by decide) ?_
      exact kk_pret_z hx hb hr hlocks (by decide) ⟨(kr_w (kr_c 1 1 rfl) rfl), (fun _ => b_6), (fun h9 => absurd h9 (by decide))⟩ dX11_isIn_15
set_option maxHeartbeats 4000000 in
set_option maxRecDepth 100000 in
theorem c_X11_isIn_1_9999_x (l : Launch) (D : va_G) (cB cI cJ cD : ClassId) (p0 : Int32) (p1 : Int32) (p2 : Int32) (sz : Nat) (b_p1 : kr 1 1 p1) (b_p2 : kr 9999 9999 p2) : Met l yX11_isIn (kk_W yX11_isIn cX11_isIn 3 (some .boolean)) ({ frames := 0, cells := 0, slots := 0, locals := 0 }) (va_Pc [.int p0, .int p1, .int p2] (kk_pre D cB cI cJ cD [] sz)) (vp_Si (fun r => kr 0 1 r ∧ (¬ r = 0 → kr 1 9999 p0) ∧ (r = 0 → ¬ (1 ≤ p0.toInt ∧ p0.toInt ≤ 9999)))) 0 0 (fun _ => False) := by
  refine kk_pstart (y := yX11_isIn) (maxL := 3) (av := [.int p0, .int p1, .int p2]) (by decide) (Nat.le_of_ble_eq_true rfl) ?_
  intro p e s m below meth c ls hx hb hr hml hown hts hE hlocks hsz hP hD hl
  have hown : s.vm.findClass RX11 = some m.cls := hown
  have hl : lv_has ls 3 [(0, .int p0), (1, .int p1), (2, .int p2)] := hl
  refine lv_iload_n hx hb dX11_isIn_0 rfl (lv_at hl 0 rfl) ?_
  refine lv_iload_n hx hb dX11_isIn_1 rfl (lv_at hl 1 rfl) ?_
  refine lv_icmp_lt (tgt := 14) hx hb dX11_isIn_2 (by decide) (fun c_1 => ?_) (fun c_1 => ?_)
  · have i_1 : p0.toInt < p1.toInt := (ki_lt c_1)
    have b_2 : kr (-2147483648) 0 p0 := kr_lt_l (kr_all p0) b_p1 i_1 rfl
    refine lv_iconst (v := 0) hx hb dX11_isIn_14 (by decide) ?_
    exact kk_pret_z hx hb hr hlocks (by decide) ⟨(kr_w (kr_c 0 0 rfl) rfl), (fun h9 => absurd rfl h9), (fun _ q => by have q1 := i_1; have q0 := b_2.1; have q0' := b_2.2; have q1 := b_p1.1; have q1' := b_p1.2; have q2 := b_p2.1; have q2' := b_p2.2; omega)⟩ dX11_isIn_15
  · have i_1 : p1.toInt ≤ p0.toInt := (ki_nlt c_1)
    have b_3 : kr 1 2147483647 p0 := kr_le_r b_p1 (kr_all p0) i_1 rfl
    refine lv_iload_n hx hb dX11_isIn_5 rfl (lv_at hl 0 rfl) ?_
    refine lv_iload_n hx hb dX11_isIn_6 rfl (lv_at hl 2 rfl) ?_
    refine lv_icmp_gt (tgt := 14) hx hb dX11_isIn_7 (by decide) (fun c_4 => ?_) (fun c_4 => ?_)
    · have i_4 : p2.toInt < p0.toInt := (ki_lt c_4)
      have b_5 : kr 10000 2147483647 p0 := kr_lt_r b_p2 b_3 i_4 rfl
      refine lv_iconst (v := 0) hx hb dX11_isIn_14 (by decide) ?_
      exact kk_pret_z hx hb hr hlocks (by decide) ⟨(kr_w (kr_c 0 0 rfl) rfl), (fun h9 => absurd rfl h9), (fun _ q => by have q1 := i_4; have q0 := b_5.1; have q0' := b_5.2; have q1 := b_p1.1; have q1' := b_p1.2; have q2 := b_p2.1; have q2' := b_p2.2; omega)⟩ dX11_isIn_15
    · have i_4 : p0.toInt ≤ p2.toInt := (ki_nlt c_4)
      have b_6 : kr 1 9999 p0 := kr_le_l b_3 b_p2 i_4 rfl
      refine lv_iconst (v := 1) hx hb dX11_isIn_10 (by decide) ?_
      refine lv_goto (tgt := 15) hx hb dX11_isIn_11 (by decide) ?_
      exact kk_pret_z hx hb hr hlocks (by decide) ⟨(kr_w (kr_c 1 1 rfl) rfl), (fun _ => b_6), (fun h9 => absurd h9 (by decide))⟩ dX11_isIn_15
set_option maxHeartbeats 4000000 in
set_option maxRecDepth 100000 in
theorem c_X11_isKeyTold_x (l : Launch) (D : va_G) (cB cI cJ cD : ClassId) (p0 : Int32) (p1 : Int32) (sz : Nat) : Met l yX11_isKeyTold (kk_W yX11_isKeyTold cX11_isKeyTold 2 (some .boolean)) ({ frames := 1, cells := 0, slots := 0, locals := 22 }) (va_Pc [.int p0, .int p1] (kk_pre D cB cI cJ cD [] sz)) (vp_Si (fun r => kr 0 1 r ∧ (¬ r = 0 → kr 0 99999999 p0) ∧ (¬ r = 0 → kr 1 9999 p1) ∧ (r = 0 → ¬ ((0 ≤ p0.toInt ∧ p0.toInt ≤ 99999999) ∧ (1 ≤ p1.toInt ∧ p1.toInt ≤ 9999))))) 0 0 (fun _ => False) := by
  refine kk_pstart (y := yX11_isKeyTold) (maxL := 2) (av := [.int p0, .int p1]) (by decide) (Nat.le_of_ble_eq_true rfl) ?_
  intro p e s m below meth c ls hx hb hr hml hown hts hE hlocks hsz hP hD hl
  have hown : s.vm.findClass RX11 = some m.cls := hown
  have hl : lv_has ls 2 [(0, .int p0), (1, .int p1)] := hl
  refine lv_iload_n hx hb dX11_isKeyTold_0 rfl (lv_at hl 0 rfl) ?_
  refine lv_iconst (v := 0) hx hb dX11_isKeyTold_1 (by decide) ?_
  refine lv_ldc (v := 99999999) hx hb hown (hts _ w_1468) dX11_isKeyTold_2 ?_
  refine kk_pi (kk_runS (w1 := []) (As := [.int p0, .int 0, .int 99999999]) (rest := []) hx hb hml hown hts hE (c_X11_isIn_0_99999999_x l D cB cI cJ cD p0 0 99999999 s.heap.size (kr_w (kr_c 0 0 rfl) rfl) (kr_w (kr_c 99999999 99999999 rfl) rfl)) m_X11_isIn w_1500 ⟨rfl, rfl, Nat.le_of_ble_eq_true rfl, Nat.le_of_ble_eq_true rfl⟩ (hP.sub [] rfl) (hD.sub [] (by decide +kernel) rfl) rfl hl.1 (Nat.le_of_ble_eq_true rfl) dX11_isKeyTold_4 ⟨Nat.le_of_ble_eq_true rfl, Nat.le_of_ble_eq_true rfl⟩) (fun r_1 p_1 => ?_)
  have b_1 : kr 0 1 r_1 := p_1.1
  have g_2 : (r_1 = 0 → ¬ (0 ≤ p0.toInt ∧ p0.toInt ≤ 99999999)) := p_1.2.2
  refine lv_if_eq (tgt := 25) hx hb dX11_isKeyTold_7 (by decide) (fun c_3 => ?_) (fun c_3 => ?_)
  · have b_4 : kr 0 0 r_1 := kr_eq_l b_1 (kr_c 0 0 rfl) c_3 rfl
    refine lv_iconst (v := 0) hx hb dX11_isKeyTold_25 (by decide) ?_
    exact kk_pret_z hx hb hr hlocks (by decide) ⟨(kr_w (kr_c 0 0 rfl) rfl), (fun h9 => absurd rfl h9), (fun h9 => absurd rfl h9), (fun _ q => g_2 c_3 q.1)⟩ dX11_isKeyTold_26
  · have b_5 : kr 1 1 r_1 := kr_ne_lo b_1 c_3 rfl
    have b_6 : kr 0 99999999 p0 := p_1.2.1 c_3
    refine lv_iload_n hx hb dX11_isKeyTold_10 rfl (lv_at hl 1 rfl) ?_
    refine lv_iconst (v := 1) hx hb dX11_isKeyTold_11 (by decide) ?_
    refine lv_sipush (v := 9999) hx hb dX11_isKeyTold_12 (by decide) ?_
    refine kk_pi (kk_runS (w1 := []) (As := [.int p1, .int 1, .int 9999]) (rest := []) hx hb hml hown hts hE (c_X11_isIn_1_9999_x l D cB cI cJ cD p1 1 9999 s.heap.size (kr_w (kr_c 1 1 rfl) rfl) (kr_w (kr_c 9999 9999 rfl) rfl)) m_X11_isIn w_1500 ⟨rfl, rfl, Nat.le_of_ble_eq_true rfl, Nat.le_of_ble_eq_true rfl⟩ (hP.sub [] rfl) (hD.sub [] (by decide +kernel) rfl) rfl hl.1 (Nat.le_of_ble_eq_true rfl) dX11_isKeyTold_15 ⟨Nat.le_of_ble_eq_true rfl, Nat.le_of_ble_eq_true rfl⟩) (fun r_7 p_7 => ?_)
    have b_7 : kr 0 1 r_7 := p_7.1
    have g_8 : (r_7 = 0 → ¬ (1 ≤ p1.toInt ∧ p1.toInt ≤ 9999)) := p_7.2.2
    refine lv_if_eq (tgt := 25) hx hb dX11_isKeyTold_18 (by decide) (fun c_9 => ?_) (fun c_9 => ?_)
    · have b_10 : kr 0 0 r_7 := kr_eq_l b_7 (kr_c 0 0 rfl) c_9 rfl
      refine lv_iconst (v := 0) hx hb dX11_isKeyTold_25 (by decide) ?_
      exact kk_pret_z hx hb hr hlocks (by decide) ⟨(kr_w (kr_c 0 0 rfl) rfl), (fun h9 => absurd rfl h9), (fun h9 => absurd rfl h9), (fun _ q => g_8 c_9 q.2)⟩ dX11_isKeyTold_26
    · have b_11 : kr 1 1 r_7 := kr_ne_lo b_7 c_9 rfl
      have b_12 : kr 1 9999 p1 := p_7.2.1 c_9
      refine lv_iconst (v := 1) hx hb dX11_isKeyTold_21 (by decide) ?_
      refine lv_goto (tgt := 26) hx hb dX11_isKeyTold_22 (by decide) ?_
      exact kk_pret_z hx hb hr hlocks (by decide) ⟨(kr_w (kr_c 1 1 rfl) rfl), (fun _ => b_6), (fun _ => b_12), (fun h9 => absurd h9 (by decide))⟩ dX11_isKeyTold_26
set_option maxHeartbeats 4000000 in
set_option maxRecDepth 100000 in
theorem c_X11_bits_x (l : Launch) (D : va_G) (cB cI cJ cD : ClassId) (h : Nat) (h_tape : Nat) (h_words : Nat) (h_handName : Nat) (h_toldKey : Nat) (h_toldValue : Nat) (h_stepWhat : Nat) (h_stepHand : Nat) (h_stepLow : Nat) (h_stepHigh : Nat) (h_stepValue : Nat) (h_all : Nat) (h_logHand : Nat) (h_logWhat : Nat) (h_logKey : Nat) (h_logValue : Nat) (h_stepOrder : Nat) (h_goal : Nat) (h_order : Nat) (h_handNext : Nat) (n_h_tapeSize : Int32) (n_h_thrown : Int32) (n_h_fault : Int32) (n_h_faultPlace : Int32) (n_h_stop : Int32) (n_h_next : Int32) (n_h_kind : Int32) (n_h_which : Int32) (n_h_at : Int32) (n_h_got : Int32) (n_h_hands : Int32) (n_h_tolds : Int32) (n_h_steps : Int32) (n_h_handsRead : Int32) (n_h_toldsRead : Int32) (n_h_stepsRead : Int32) (n_h_gotKey : Int32) (n_h_bank : Int32) (n_h_snapshots : Int32) (n_h_noGaps : Int32) (n_h_noReads : Int32) (n_h_allDie : Int32) (n_h_stepMany : Int32) (n_h_stopped : Int32) (n_h_needNow : Int32) (n_h_neededNow : Int32) (n_h_drawn : Int64) (p0 : Int32) (p1 : Int32) (sz : Nat) (b_h_tapeSize : kr 0 700 n_h_tapeSize) (b_h_stop : kr 0 700 n_h_stop) (b_h_next : kr 0 700 n_h_next) (b_h_at : kr 0 700 n_h_at) (b_h_hands : kr 0 5 n_h_hands) (b_h_tolds : kr 0 16 n_h_tolds) (b_h_steps : kr 0 24 n_h_steps) (b_h_handsRead : kr 0 5 n_h_handsRead) (b_h_toldsRead : kr 0 16 n_h_toldsRead) (b_h_stepsRead : kr 0 24 n_h_stepsRead) (b_h_bank : kr 0 1 n_h_bank) (b_h_snapshots : kr 0 16 n_h_snapshots) (b_h_noGaps : kr 0 1 n_h_noGaps) (b_h_noReads : kr 0 1 n_h_noReads) (b_h_allDie : kr 0 1 n_h_allDie) (b_h_stepMany : kr 0 24 n_h_stepMany) : Met l yX11_bits (kk_W yX11_bits cX11_bits 3 (some .int)) ({ frames := 4, cells := 0, slots := 0, locals := 91 }) (va_Pc [.ref h, .int p0, .int p1] (kk_pre D cB cI cJ cD [kX h (.ref h_tape) (.int n_h_tapeSize) (.int n_h_thrown) (.ref h_words) (.int n_h_fault) (.int n_h_faultPlace) (.int n_h_stop) (.int n_h_next) (.int n_h_kind) (.int n_h_which) (.int n_h_at) (.int n_h_got) (.int n_h_hands) (.int n_h_tolds) (.int n_h_steps) (.int n_h_handsRead) (.int n_h_toldsRead) (.int n_h_stepsRead) (.ref h_handName) (.ref h_toldKey) (.ref h_toldValue) (.ref h_stepWhat) (.ref h_stepHand) (.ref h_stepLow) (.ref h_stepHigh) (.ref h_stepValue) (.int n_h_gotKey) (.ref h_all) (.int n_h_bank) (.int n_h_snapshots) (.ref h_logHand) (.ref h_logWhat) (.ref h_logKey) (.ref h_logValue) (.int n_h_noGaps) (.int n_h_noReads) (.int n_h_allDie) (.ref h_stepOrder) (.int n_h_stepMany) (.int n_h_stopped) (.int n_h_needNow) (.int n_h_neededNow) (.ref h_goal) (.ref h_order) (.long n_h_drawn) (.ref h_handNext)] sz)) (kk_Qi D (fun (r : Int32) (u : (Nat → Nat) × (Nat → Nat → Int32) × (Nat → Nat → Int64) × (Nat → Int32)) => kr (-1) 2139095040 r ∧ r = kb p0 p1) (fun u => [kX h (.ref h_tape) (.int n_h_tapeSize) (.int 0) (.ref h_words) (.int n_h_fault) (.int n_h_faultPlace) (.int n_h_stop) (.int n_h_next) (.int n_h_kind) (.int n_h_which) (.int n_h_at) (.int n_h_got) (.int n_h_hands) (.int n_h_tolds) (.int n_h_steps) (.int n_h_handsRead) (.int n_h_toldsRead) (.int n_h_stepsRead) (.ref h_handName) (.ref h_toldKey) (.ref h_toldValue) (.ref h_stepWhat) (.ref h_stepHand) (.ref h_stepLow) (.ref h_stepHigh) (.ref h_stepValue) (.int n_h_gotKey) (.ref h_all) (.int n_h_bank) (.int n_h_snapshots) (.ref h_logHand) (.ref h_logWhat) (.ref h_logKey) (.ref h_logValue) (.int n_h_noGaps) (.int n_h_noReads) (.int n_h_allDie) (.ref h_stepOrder) (.int n_h_stepMany) (.int n_h_stopped) (.int n_h_needNow) (.int n_h_neededNow) (.ref h_goal) (.ref h_order) (.long n_h_drawn) (.ref h_handNext)]) (va_A [kX h (.ref h_tape) (.int n_h_tapeSize) (.int n_h_thrown) (.ref h_words) (.int n_h_fault) (.int n_h_faultPlace) (.int n_h_stop) (.int n_h_next) (.int n_h_kind) (.int n_h_which) (.int n_h_at) (.int n_h_got) (.int n_h_hands) (.int n_h_tolds) (.int n_h_steps) (.int n_h_handsRead) (.int n_h_toldsRead) (.int n_h_stepsRead) (.ref h_handName) (.ref h_toldKey) (.ref h_toldValue) (.ref h_stepWhat) (.ref h_stepHand) (.ref h_stepLow) (.ref h_stepHigh) (.ref h_stepValue) (.int n_h_gotKey) (.ref h_all) (.int n_h_bank) (.int n_h_snapshots) (.ref h_logHand) (.ref h_logWhat) (.ref h_logKey) (.ref h_logValue) (.int n_h_noGaps) (.int n_h_noReads) (.int n_h_allDie) (.ref h_stepOrder) (.int n_h_stepMany) (.int n_h_stopped) (.int n_h_needNow) (.int n_h_neededNow) (.ref h_goal) (.ref h_order) (.long n_h_drawn) (.ref h_handNext)] sz)) 0 0 (va_A [kX h (.ref h_tape) (.int n_h_tapeSize) (.int n_h_thrown) (.ref h_words) (.int n_h_fault) (.int n_h_faultPlace) (.int n_h_stop) (.int n_h_next) (.int n_h_kind) (.int n_h_which) (.int n_h_at) (.int n_h_got) (.int n_h_hands) (.int n_h_tolds) (.int n_h_steps) (.int n_h_handsRead) (.int n_h_toldsRead) (.int n_h_stepsRead) (.ref h_handName) (.ref h_toldKey) (.ref h_toldValue) (.ref h_stepWhat) (.ref h_stepHand) (.ref h_stepLow) (.ref h_stepHigh) (.ref h_stepValue) (.int n_h_gotKey) (.ref h_all) (.int n_h_bank) (.int n_h_snapshots) (.ref h_logHand) (.ref h_logWhat) (.ref h_logKey) (.ref h_logValue) (.int n_h_noGaps) (.int n_h_noReads) (.int n_h_allDie) (.ref h_stepOrder) (.int n_h_stepMany) (.int n_h_stopped) (.int n_h_needNow) (.int n_h_neededNow) (.ref h_goal) (.ref h_order) (.long n_h_drawn) (.ref h_handNext)] sz) := by
  refine kk_start (y := yX11_bits) (maxL := 3) (av := [.ref h, .int p0, .int p1]) (Qc := fun A => kk_Qi D (fun (r : Int32) (u : (Nat → Nat) × (Nat → Nat → Int32) × (Nat → Nat → Int64) × (Nat → Int32)) => kr (-1) 2139095040 r ∧ r = kb p0 p1) (fun u => [kX h (.ref h_tape) (.int n_h_tapeSize) (.int 0) (.ref h_words) (.int n_h_fault) (.int n_h_faultPlace) (.int n_h_stop) (.int n_h_next) (.int n_h_kind) (.int n_h_which) (.int n_h_at) (.int n_h_got) (.int n_h_hands) (.int n_h_tolds) (.int n_h_steps) (.int n_h_handsRead) (.int n_h_toldsRead) (.int n_h_stepsRead) (.ref h_handName) (.ref h_toldKey) (.ref h_toldValue) (.ref h_stepWhat) (.ref h_stepHand) (.ref h_stepLow) (.ref h_stepHigh) (.ref h_stepValue) (.int n_h_gotKey) (.ref h_all) (.int n_h_bank) (.int n_h_snapshots) (.ref h_logHand) (.ref h_logWhat) (.ref h_logKey) (.ref h_logValue) (.int n_h_noGaps) (.int n_h_noReads) (.int n_h_allDie) (.ref h_stepOrder) (.int n_h_stepMany) (.int n_h_stopped) (.int n_h_needNow) (.int n_h_neededNow) (.ref h_goal) (.ref h_order) (.long n_h_drawn) (.ref h_handNext)]) A) (by decide) (Nat.le_of_ble_eq_true rfl) ?_
  intro p e s m below meth c ls A hx hb hr hml hown hts hE hlocks hin hsz hP hD hA hS hl
  have hown : s.vm.findClass RX11 = some m.cls := hown
  have hl : lv_has ls 3 [(0, .ref h), (1, .int p0), (2, .int p1)] := hl
  refine lv_aload_n hx hb dX11_bits_0 rfl (lv_at hl 0 rfl) ?_
  refine lv_iconst (v := 0) hx hb dX11_bits_1 (by decide) ?_
  refine va_put (D := D) (ci := 10) (v := .int 0) (ty := .int) (C := RX11) (T := TX11) (N := 46) hx hb hts u_X11 tyX11 tyX11_ok nmX11 hown hE.1 hP hD hS 0 rfl rfl 2 (by decide) (hts _ w_1303) (fun _ h9 => h9) rfl (by decide +kernel) rfl rfl (Nat.le_of_ble_eq_true rfl) dX11_bits_2 (fun H locs hP hD hS => ?_)
  obtain ⟨hP, hD⟩ : kPD D A [kX h (.ref h_tape) (.int n_h_tapeSize) (.int 0) (.ref h_words) (.int n_h_fault) (.int n_h_faultPlace) (.int n_h_stop) (.int n_h_next) (.int n_h_kind) (.int n_h_which) (.int n_h_at) (.int n_h_got) (.int n_h_hands) (.int n_h_tolds) (.int n_h_steps) (.int n_h_handsRead) (.int n_h_toldsRead) (.int n_h_stepsRead) (.ref h_handName) (.ref h_toldKey) (.ref h_toldValue) (.ref h_stepWhat) (.ref h_stepHand) (.ref h_stepLow) (.ref h_stepHigh) (.ref h_stepValue) (.int n_h_gotKey) (.ref h_all) (.int n_h_bank) (.int n_h_snapshots) (.ref h_logHand) (.ref h_logWhat) (.ref h_logKey) (.ref h_logValue) (.int n_h_noGaps) (.int n_h_noReads) (.int n_h_allDie) (.ref h_stepOrder) (.int n_h_stepMany) (.int n_h_stopped) (.int n_h_needNow) (.int n_h_neededNow) (.ref h_goal) (.ref h_order) (.long n_h_drawn) (.ref h_handNext)] H := ⟨hP, hD⟩
  refine lv_iload_n hx hb dX11_bits_5 rfl (lv_at hl 1 rfl) ?_
  refine lv_iload_n hx hb dX11_bits_6 rfl (lv_at hl 2 rfl) ?_
  refine kk_pi (kk_runS (w1 := []) (As := [.int p0, .int p1]) (rest := []) hx hb hml hown hts hE (c_X11_isKeyTold_x l D cB cI cJ cD p0 p1 H.size) m_X11_isKeyTold w_1558 ⟨rfl, rfl, Nat.le_of_ble_eq_true rfl, Nat.le_of_ble_eq_true rfl⟩ (hP.sub [] rfl) (hD.sub [] (by decide +kernel) rfl) rfl hl.1 (Nat.le_of_ble_eq_true rfl) dX11_bits_7 ⟨Nat.le_of_ble_eq_true rfl, Nat.le_of_ble_eq_true rfl⟩) (fun r_1 p_1 => ?_)
  have b_1 : kr 0 1 r_1 := p_1.1
  have g_2 : (r_1 = 0 → ¬ ((0 ≤ p0.toInt ∧ p0.toInt ≤ 99999999) ∧ (1 ≤ p1.toInt ∧ p1.toInt ≤ 9999))) := p_1.2.2.2
  refine lv_if_eq (tgt := 21) hx hb dX11_bits_10 (by decide) (fun c_3 => ?_) (fun c_3 => ?_)
  · have b_4 : kr 0 0 r_1 := kr_eq_l b_1 (kr_c 0 0 rfl) c_3 rfl
    refine lv_iconst (v := (-1)) hx hb dX11_bits_21 (by decide) ?_
    exact kk_ret_i ((fun _ => 0), (fun i => [].getD i (fun _ => 0)), (fun i => [].getD i (fun _ => 0)), (fun i => [].getD i 0)) hx hb hr hlocks ⟨(kr_w (kr_c (-1) (-1) rfl) rfl), (kb_out (g_2 c_3))⟩ (hP.sub [0] rfl) (hD.sub [0] (by decide +kernel) rfl) hS dX11_bits_22 (Nat.le_of_ble_eq_true rfl) (Nat.le_of_ble_eq_true rfl)
  · have b_5 : kr 1 1 r_1 := kr_ne_lo b_1 c_3 rfl
    have b_6 : kr 0 99999999 p0 := p_1.2.1 c_3
    have b_7 : kr 1 9999 p1 := p_1.2.2.1 c_3
    refine lv_iload_n hx hb dX11_bits_13 rfl (lv_at hl 1 rfl) ?_
    refine lv_iload_n hx hb dX11_bits_14 rfl (lv_at hl 2 rfl) ?_
    refine kk_pi (kk_runS (w1 := []) (As := [.int p0, .int p1]) (rest := []) hx hb hml hown hts hE (c_X11_keyOf l D cB cI cJ cD p0 p1 H.size (kv_of b_6 b_7)) m_X11_keyOf w_1503 ⟨rfl, rfl, Nat.le_of_ble_eq_true rfl, Nat.le_of_ble_eq_true rfl⟩ (hP.sub [] rfl) (hD.sub [] (by decide +kernel) rfl) rfl hl.1 (Nat.le_of_ble_eq_true rfl) dX11_bits_15 ⟨Nat.le_of_ble_eq_true rfl, Nat.le_of_ble_eq_true rfl⟩) (fun r_8 p_8 => ?_)
    have g_9 : r_8 = kb p0 p1 := p_8
    have b_10 : kr 0 2139095040 r_8 := by rw [g_9]; exact kb_kr (kv_of b_6 b_7)
    refine lv_goto (tgt := 22) hx hb dX11_bits_18 (by decide) ?_
    exact kk_ret_i ((fun _ => 0), (fun i => [].getD i (fun _ => 0)), (fun i => [].getD i (fun _ => 0)), (fun i => [].getD i 0)) hx hb hr hlocks ⟨(kr_w b_10 rfl), g_9⟩ (hP.sub [0] rfl) (hD.sub [0] (by decide +kernel) rfl) hS dX11_bits_22 (Nat.le_of_ble_eq_true rfl) (Nat.le_of_ble_eq_true rfl)
set_option maxHeartbeats 4000000 in
set_option maxRecDepth 100000 in
theorem c_X11_init (l : Launch) (D : va_G) (cB cI cJ cD : ClassId) (h : Nat) (sz : Nat) : Met l yX11_init (kk_W yX11_init cX11_init 1 none) ({ frames := 6, cells := 19, slots := 11707, locals := 134 }) (va_Pc [.ref h] (kk_pre D cB cI cJ cD [kX h .null (.int 0) (.int 0) .null (.int 0) (.int 0) (.int 0) (.int 0) (.int 0) (.int 0) (.int 0) (.int 0) (.int 0) (.int 0) (.int 0) (.int 0) (.int 0) (.int 0) .null .null .null .null .null .null .null .null (.int 0) .null (.int 0) (.int 0) .null .null .null .null (.int 0) (.int 0) (.int 0) .null (.int 0) (.int 0) (.int 0) (.int 0) .null .null (.long 0) .null] sz)) (kk_Qv D (fun (u : (Nat → Nat) × (Nat → Nat → Int32) × (Nat → Nat → Int64) × (Nat → Int32)) => kr 0 5 (u.2.2.2 0) ∧ kr 0 16 (u.2.2.2 1) ∧ kr 0 24 (u.2.2.2 2) ∧ kr 0 24 (u.2.2.2 3) ∧ ka 0 9999 (u.2.1 5) ∧ ka 0 4 (u.2.1 7) ∧ ka 0 24 (u.2.1 8) ∧ ka 0 2139095040 (u.2.1 10) ∧ ka 0 9999 (u.2.1 11) ∧ ka 0 4 (u.2.1 13) ∧ ka 0 2139095040 (u.2.1 14) ∧ ka 0 9999 (u.2.1 16) ∧ ka 0 23 (u.2.1 18) ∧ (u.2.1 1) 49 = 32 ∧ kG 2139095040 0 0 (u.2.1 17) (kB 0) ∧ kF [(0, 225), (230, 253)] (kB 0) (kzf (kB 0) (fun _ => 0)) (u.2.1 17) ∧ kF [(0, 319)] (kB 0) (fun _ => 0) (u.2.1 17)) (fun u => [kX h (.ref (u.1 0)) (.int 0) (.int 0) (.ref (u.1 1)) (.int 0) (.int (-1)) (.int 0) (.int 0) (.int 0) (.int 0) (.int 0) (.int 0) (.int (u.2.2.2 0)) (.int (u.2.2.2 1)) (.int (u.2.2.2 2)) (.int 0) (.int 0) (.int 0) (.ref (u.1 9)) (.ref (u.1 10)) (.ref (u.1 11)) (.ref (u.1 12)) (.ref (u.1 13)) (.ref (u.1 14)) (.ref (u.1 15)) (.ref (u.1 16)) (.int 0) (.ref (u.1 17)) (.int 0) (.int 0) (.ref (u.1 2)) (.ref (u.1 3)) (.ref (u.1 4)) (.ref (u.1 5)) (.int 0) (.int 0) (.int 0) (.ref (u.1 18)) (.int (u.2.2.2 3)) (.int 0) (.int 0) (.int 0) (.ref (u.1 6)) (.ref (u.1 7)) (.long 0) (.ref (u.1 8)), kI cI (u.1 0) 700 (u.2.1 0), kI cI (u.1 1) 50 (u.2.1 1), kI cI (u.1 2) 1200 (u.2.1 2), kI cI (u.1 3) 1200 (u.2.1 3), kI cI (u.1 4) 1200 (u.2.1 4), kI cI (u.1 5) 1200 (u.2.1 5), kI cI (u.1 6) 49 (u.2.1 6), kI cI (u.1 7) 5 (u.2.1 7), kI cI (u.1 8) 5 (u.2.1 8), kI cI (u.1 9) 10 (u.2.1 9), kI cI (u.1 10) 32 (u.2.1 10), kI cI (u.1 11) 32 (u.2.1 11), kI cI (u.1 12) 48 (u.2.1 12), kI cI (u.1 13) 48 (u.2.1 13), kI cI (u.1 14) 48 (u.2.1 14), kI cI (u.1 15) 48 (u.2.1 15), kI cI (u.1 16) 48 (u.2.1 16), kI cI (u.1 17) 5760 (u.2.1 17), kI cI (u.1 18) 24 (u.2.1 18)]) (va_A [kX h .null (.int 0) (.int 0) .null (.int 0) (.int 0) (.int 0) (.int 0) (.int 0) (.int 0) (.int 0) (.int 0) (.int 0) (.int 0) (.int 0) (.int 0) (.int 0) (.int 0) .null .null .null .null .null .null .null .null (.int 0) .null (.int 0) (.int 0) .null .null .null .null (.int 0) (.int 0) (.int 0) .null (.int 0) (.int 0) (.int 0) (.int 0) .null .null (.long 0) .null] sz)) 19 11707 (va_A [kX h .null (.int 0) (.int 0) .null (.int 0) (.int 0) (.int 0) (.int 0) (.int 0) (.int 0) (.int 0) (.int 0) (.int 0) (.int 0) (.int 0) (.int 0) (.int 0) (.int 0) .null .null .null .null .null .null .null .null (.int 0) .null (.int 0) (.int 0) .null .null .null .null (.int 0) (.int 0) (.int 0) .null (.int 0) (.int 0) (.int 0) (.int 0) .null .null (.long 0) .null] sz) := by
  refine kk_start (y := yX11_init) (maxL := 1) (av := [.ref h]) (Qc := fun A => kk_Qv D (fun (u : (Nat → Nat) × (Nat → Nat → Int32) × (Nat → Nat → Int64) × (Nat → Int32)) => kr 0 5 (u.2.2.2 0) ∧ kr 0 16 (u.2.2.2 1) ∧ kr 0 24 (u.2.2.2 2) ∧ kr 0 24 (u.2.2.2 3) ∧ ka 0 9999 (u.2.1 5) ∧ ka 0 4 (u.2.1 7) ∧ ka 0 24 (u.2.1 8) ∧ ka 0 2139095040 (u.2.1 10) ∧ ka 0 9999 (u.2.1 11) ∧ ka 0 4 (u.2.1 13) ∧ ka 0 2139095040 (u.2.1 14) ∧ ka 0 9999 (u.2.1 16) ∧ ka 0 23 (u.2.1 18) ∧ (u.2.1 1) 49 = 32 ∧ kG 2139095040 0 0 (u.2.1 17) (kB 0) ∧ kF [(0, 225), (230, 253)] (kB 0) (kzf (kB 0) (fun _ => 0)) (u.2.1 17) ∧ kF [(0, 319)] (kB 0) (fun _ => 0) (u.2.1 17)) (fun u => [kX h (.ref (u.1 0)) (.int 0) (.int 0) (.ref (u.1 1)) (.int 0) (.int (-1)) (.int 0) (.int 0) (.int 0) (.int 0) (.int 0) (.int 0) (.int (u.2.2.2 0)) (.int (u.2.2.2 1)) (.int (u.2.2.2 2)) (.int 0) (.int 0) (.int 0) (.ref (u.1 9)) (.ref (u.1 10)) (.ref (u.1 11)) (.ref (u.1 12)) (.ref (u.1 13)) (.ref (u.1 14)) (.ref (u.1 15)) (.ref (u.1 16)) (.int 0) (.ref (u.1 17)) (.int 0) (.int 0) (.ref (u.1 2)) (.ref (u.1 3)) (.ref (u.1 4)) (.ref (u.1 5)) (.int 0) (.int 0) (.int 0) (.ref (u.1 18)) (.int (u.2.2.2 3)) (.int 0) (.int 0) (.int 0) (.ref (u.1 6)) (.ref (u.1 7)) (.long 0) (.ref (u.1 8)), kI cI (u.1 0) 700 (u.2.1 0), kI cI (u.1 1) 50 (u.2.1 1), kI cI (u.1 2) 1200 (u.2.1 2), kI cI (u.1 3) 1200 (u.2.1 3), kI cI (u.1 4) 1200 (u.2.1 4), kI cI (u.1 5) 1200 (u.2.1 5), kI cI (u.1 6) 49 (u.2.1 6), kI cI (u.1 7) 5 (u.2.1 7), kI cI (u.1 8) 5 (u.2.1 8), kI cI (u.1 9) 10 (u.2.1 9), kI cI (u.1 10) 32 (u.2.1 10), kI cI (u.1 11) 32 (u.2.1 11), kI cI (u.1 12) 48 (u.2.1 12), kI cI (u.1 13) 48 (u.2.1 13), kI cI (u.1 14) 48 (u.2.1 14), kI cI (u.1 15) 48 (u.2.1 15), kI cI (u.1 16) 48 (u.2.1 16), kI cI (u.1 17) 5760 (u.2.1 17), kI cI (u.1 18) 24 (u.2.1 18)]) A) (by decide) (Nat.le_of_ble_eq_true rfl) ?_
  intro p e s m below meth c ls A hx hb hr hml hown hts hE hlocks hin hsz hP hD hA hS hl
  have hown : s.vm.findClass RX11 = some m.cls := hown
  have hin : meth.name = "<init>" := hin
  have hl : lv_has ls 1 [(0, .ref h)] := hl
  refine lv_aload_n hx hb dX11_init_0 rfl (lv_at hl 0 rfl) ?_
  refine W.objInit hx hb hown (hts _ w_1253) (hts _ w_137) (hts _ w_138) rfl (by rw [hml]; exact hl.1) rfl dX11_init_1 (Nat.le_of_ble_eq_true rfl) (Nat.le_of_ble_eq_true rfl) ?_
  refine W.eq (g2 := F0 m 4 ls []) rfl ?_
  refine lv_aload_n hx hb dX11_init_4 rfl (lv_at hl 0 rfl) ?_
  refine lv_sipush (v := 700) hx hb dX11_init_5 (by decide) ?_
  refine kk_newI hx hb hts hE hP hD hS hA 700 (by decide) (by decide) (Nat.le_of_ble_eq_true rfl) (Nat.le_of_ble_eq_true rfl) (Nat.le_of_ble_eq_true rfl) dX11_init_8 (fun q_1 H hP hD hS => ?_)
  obtain ⟨hP, hD⟩ : kPD D A [kX h .null (.int 0) (.int 0) .null (.int 0) (.int 0) (.int 0) (.int 0) (.int 0) (.int 0) (.int 0) (.int 0) (.int 0) (.int 0) (.int 0) (.int 0) (.int 0) (.int 0) .null .null .null .null .null .null .null .null (.int 0) .null (.int 0) (.int 0) .null .null .null .null (.int 0) (.int 0) (.int 0) .null (.int 0) (.int 0) (.int 0) (.int 0) .null .null (.long 0) .null, kI cI q_1 700 (fun _ => 0)] H := ⟨hP, hD⟩
  refine va_putF (D := D) (ci := 10) (v := .ref q_1) (ty := (.array .int)) (C := RX11) (T := TX11) (N := 46) hx hb hts u_X11 tyX11 tyX11_ok nmX11 hown hE.1 hP hD hS 0 rfl rfl 0 (by decide) (hts _ w_1301) (fun _ h9 => h9) rfl hin rfl (by decide +kernel) rfl rfl (Nat.le_of_ble_eq_true rfl) dX11_init_10 (fun H locs hP hD hS => ?_)
  obtain ⟨hP, hD⟩ : kPD D A [kX h (.ref q_1) (.int 0) (.int 0) .null (.int 0) (.int 0) (.int 0) (.int 0) (.int 0) (.int 0) (.int 0) (.int 0) (.int 0) (.int 0) (.int 0) (.int 0) (.int 0) (.int 0) .null .null .null .null .null .null .null .null (.int 0) .null (.int 0) (.int 0) .null .null .null .null (.int 0) (.int 0) (.int 0) .null (.int 0) (.int 0) (.int 0) (.int 0) .null .null (.long 0) .null, kI cI q_1 700 (fun _ => 0)] H := ⟨hP, hD⟩
  refine lv_aload_n hx hb dX11_init_13 rfl (lv_at hl 0 rfl) ?_
  refine lv_bipush (v := 50) hx hb dX11_init_14 (by decide) ?_
  refine kk_newI hx hb hts hE hP hD hS hA 50 (by decide) (by decide) (Nat.le_of_ble_eq_true rfl) (Nat.le_of_ble_eq_true rfl) (Nat.le_of_ble_eq_true rfl) dX11_init_16 (fun q_2 H hP hD hS => ?_)
  obtain ⟨hP, hD⟩ : kPD D A [kX h (.ref q_1) (.int 0) (.int 0) .null (.int 0) (.int 0) (.int 0) (.int 0) (.int 0) (.int 0) (.int 0) (.int 0) (.int 0) (.int 0) (.int 0) (.int 0) (.int 0) (.int 0) .null .null .null .null .null .null .null .null (.int 0) .null (.int 0) (.int 0) .null .null .null .null (.int 0) (.int 0) (.int 0) .null (.int 0) (.int 0) (.int 0) (.int 0) .null .null (.long 0) .null, kI cI q_1 700 (fun _ => 0), kI cI q_2 50 (fun _ => 0)] H := ⟨hP, hD⟩
  refine lv_dup hx hb dX11_init_18 rfl ?_
  refine lv_iconst (v := 0) hx hb dX11_init_19 (by decide) ?_
  refine lv_bipush (v := 104) hx hb dX11_init_20 (by decide) ?_
  refine va_iast hx hb hE.1 hP hD hS 2 1 rfl rfl (kr_in (kr_c 0 0 rfl) rfl) dX11_init_22 (fun H locs hP hD hS => ?_)
  obtain ⟨f_3, ef_3⟩ : ∃ z, z = (upd (fun _ => 0) (Int32.toNatClampNeg 0) 104) := ⟨_, rfl⟩
  rw [← ef_3] at hP hD
  obtain ⟨hP, hD⟩ : kPD D A [kX h (.ref q_1) (.int 0) (.int 0) .null (.int 0) (.int 0) (.int 0) (.int 0) (.int 0) (.int 0) (.int 0) (.int 0) (.int 0) (.int 0) (.int 0) (.int 0) (.int 0) (.int 0) .null .null .null .null .null .null .null .null (.int 0) .null (.int 0) (.int 0) .null .null .null .null (.int 0) (.int 0) (.int 0) .null (.int 0) (.int 0) (.int 0) (.int 0) .null .null (.long 0) .null, kI cI q_1 700 (fun _ => 0), kI cI q_2 50 f_3] H := ⟨hP, hD⟩
  refine lv_dup hx hb dX11_init_23 rfl ?_
  refine lv_iconst (v := 1) hx hb dX11_init_24 (by decide) ?_
  refine lv_bipush (v := 97) hx hb dX11_init_25 (by decide) ?_
  refine va_iast hx hb hE.1 hP hD hS 2 1 rfl rfl (kr_in (kr_c 1 1 rfl) rfl) dX11_init_27 (fun H locs hP hD hS => ?_)
  obtain ⟨f_4, ef_4⟩ : ∃ z, z = (upd f_3 (Int32.toNatClampNeg 1) 97) := ⟨_, rfl⟩
  rw [← ef_4] at hP hD
  obtain ⟨hP, hD⟩ : kPD D A [kX h (.ref q_1) (.int 0) (.int 0) .null (.int 0) (.int 0) (.int 0) (.int 0) (.int 0) (.int 0) (.int 0) (.int 0) (.int 0) (.int 0) (.int 0) (.int 0) (.int 0) (.int 0) .null .null .null .null .null .null .null .null (.int 0) .null (.int 0) (.int 0) .null .null .null .null (.int 0) (.int 0) (.int 0) .null (.int 0) (.int 0) (.int 0) (.int 0) .null .null (.long 0) .null, kI cI q_1 700 (fun _ => 0), kI cI q_2 50 f_4] H := ⟨hP, hD⟩
  refine lv_dup hx hb dX11_init_28 rfl ?_
  refine lv_iconst (v := 2) hx hb dX11_init_29 (by decide) ?_
  refine lv_bipush (v := 110) hx hb dX11_init_30 (by decide) ?_
  refine va_iast hx hb hE.1 hP hD hS 2 1 rfl rfl (kr_in (kr_c 2 2 rfl) rfl) dX11_init_32 (fun H locs hP hD hS => ?_)
  obtain ⟨f_5, ef_5⟩ : ∃ z, z = (upd f_4 (Int32.toNatClampNeg 2) 110) := ⟨_, rfl⟩
  rw [← ef_5] at hP hD
  obtain ⟨hP, hD⟩ : kPD D A [kX h (.ref q_1) (.int 0) (.int 0) .null (.int 0) (.int 0) (.int 0) (.int 0) (.int 0) (.int 0) (.int 0) (.int 0) (.int 0) (.int 0) (.int 0) (.int 0) (.int 0) (.int 0) .null .null .null .null .null .null .null .null (.int 0) .null (.int 0) (.int 0) .null .null .null .null (.int 0) (.int 0) (.int 0) .null (.int 0) (.int 0) (.int 0) (.int 0) .null .null (.long 0) .null, kI cI q_1 700 (fun _ => 0), kI cI q_2 50 f_5] H := ⟨hP, hD⟩
  refine lv_dup hx hb dX11_init_33 rfl ?_
  refine lv_iconst (v := 3) hx hb dX11_init_34 (by decide) ?_
  refine lv_bipush (v := 100) hx hb dX11_init_35 (by decide) ?_
  refine va_iast hx hb hE.1 hP hD hS 2 1 rfl rfl (kr_in (kr_c 3 3 rfl) rfl) dX11_init_37 (fun H locs hP hD hS => ?_)
  obtain ⟨f_6, ef_6⟩ : ∃ z, z = (upd f_5 (Int32.toNatClampNeg 3) 100) := ⟨_, rfl⟩
  rw [← ef_6] at hP hD
  obtain ⟨hP, hD⟩ : kPD D A [kX h (.ref q_1) (.int 0) (.int 0) .null (.int 0) (.int 0) (.int 0) (.int 0) (.int 0) (.int 0) (.int 0) (.int 0) (.int 0) (.int 0) (.int 0) (.int 0) (.int 0) (.int 0) .null .null .null .null .null .null .null .null (.int 0) .null (.int 0) (.int 0) .null .null .null .null (.int 0) (.int 0) (.int 0) .null (.int 0) (.int 0) (.int 0) (.int 0) .null .null (.long 0) .null, kI cI q_1 700 (fun _ => 0), kI cI q_2 50 f_6] H := ⟨hP, hD⟩
  refine lv_dup hx hb dX11_init_38 rfl ?_
  refine lv_iconst (v := 4) hx hb dX11_init_39 (by decide) ?_
  refine lv_bipush (v := 32) hx hb dX11_init_40 (by decide) ?_
  refine va_iast hx hb hE.1 hP hD hS 2 1 rfl rfl (kr_in (kr_c 4 4 rfl) rfl) dX11_init_42 (fun H locs hP hD hS => ?_)
  obtain ⟨f_7, ef_7⟩ : ∃ z, z = (upd f_6 (Int32.toNatClampNeg 4) 32) := ⟨_, rfl⟩
  rw [← ef_7] at hP hD
  obtain ⟨hP, hD⟩ : kPD D A [kX h (.ref q_1) (.int 0) (.int 0) .null (.int 0) (.int 0) (.int 0) (.int 0) (.int 0) (.int 0) (.int 0) (.int 0) (.int 0) (.int 0) (.int 0) (.int 0) (.int 0) (.int 0) .null .null .null .null .null .null .null .null (.int 0) .null (.int 0) (.int 0) .null .null .null .null (.int 0) (.int 0) (.int 0) .null (.int 0) (.int 0) (.int 0) (.int 0) .null .null (.long 0) .null, kI cI q_1 700 (fun _ => 0), kI cI q_2 50 f_7] H := ⟨hP, hD⟩
  refine lv_dup hx hb dX11_init_43 rfl ?_
  refine lv_iconst (v := 5) hx hb dX11_init_44 (by decide) ?_
  refine lv_bipush (v := 107) hx hb dX11_init_45 (by decide) ?_
  refine va_iast hx hb hE.1 hP hD hS 2 1 rfl rfl (kr_in (kr_c 5 5 rfl) rfl) dX11_init_47 (fun H locs hP hD hS => ?_)
  obtain ⟨f_8, ef_8⟩ : ∃ z, z = (upd f_7 (Int32.toNatClampNeg 5) 107) := ⟨_, rfl⟩
  rw [← ef_8] at hP hD
  obtain ⟨hP, hD⟩ : kPD D A [kX h (.ref q_1) (.int 0) (.int 0) .null (.int 0) (.int 0) (.int 0) (.int 0) (.int 0) (.int 0) (.int 0) (.int 0) (.int 0) (.int 0) (.int 0) (.int 0) (.int 0) (.int 0) .null .null .null .null .null .null .null .null (.int 0) .null (.int 0) (.int 0) .null .null .null .null (.int 0) (.int 0) (.int 0) .null (.int 0) (.int 0) (.int 0) (.int 0) .null .null (.long 0) .null, kI cI q_1 700 (fun _ => 0), kI cI q_2 50 f_8] H := ⟨hP, hD⟩
  refine lv_dup hx hb dX11_init_48 rfl ?_
  refine lv_bipush (v := 6) hx hb dX11_init_49 (by decide) ?_
  refine lv_bipush (v := 101) hx hb dX11_init_51 (by decide) ?_
  refine va_iast hx hb hE.1 hP hD hS 2 1 rfl rfl (kr_in (kr_c 6 6 rfl) rfl) dX11_init_53 (fun H locs hP hD hS => ?_)
  obtain ⟨f_9, ef_9⟩ : ∃ z, z = (upd f_8 (Int32.toNatClampNeg 6) 101) := ⟨_, rfl⟩
  rw [← ef_9] at hP hD
  obtain ⟨hP, hD⟩ : kPD D A [kX h (.ref q_1) (.int 0) (.int 0) .null (.int 0) (.int 0) (.int 0) (.int 0) (.int 0) (.int 0) (.int 0) (.int 0) (.int 0) (.int 0) (.int 0) (.int 0) (.int 0) (.int 0) .null .null .null .null .null .null .null .null (.int 0) .null (.int 0) (.int 0) .null .null .null .null (.int 0) (.int 0) (.int 0) .null (.int 0) (.int 0) (.int 0) (.int 0) .null .null (.long 0) .null, kI cI q_1 700 (fun _ => 0), kI cI q_2 50 f_9] H := ⟨hP, hD⟩
  refine lv_dup hx hb dX11_init_54 rfl ?_
  refine lv_bipush (v := 7) hx hb dX11_init_55 (by decide) ?_
  refine lv_bipush (v := 121) hx hb dX11_init_57 (by decide) ?_
  refine va_iast hx hb hE.1 hP hD hS 2 1 rfl rfl (kr_in (kr_c 7 7 rfl) rfl) dX11_init_59 (fun H locs hP hD hS => ?_)
  obtain ⟨f_10, ef_10⟩ : ∃ z, z = (upd f_9 (Int32.toNatClampNeg 7) 121) := ⟨_, rfl⟩
  rw [← ef_10] at hP hD
  obtain ⟨hP, hD⟩ : kPD D A [kX h (.ref q_1) (.int 0) (.int 0) .null (.int 0) (.int 0) (.int 0) (.int 0) (.int 0) (.int 0) (.int 0) (.int 0) (.int 0) (.int 0) (.int 0) (.int 0) (.int 0) (.int 0) .null .null .null .null .null .null .null .null (.int 0) .null (.int 0) (.int 0) .null .null .null .null (.int 0) (.int 0) (.int 0) .null (.int 0) (.int 0) (.int 0) (.int 0) .null .null (.long 0) .null, kI cI q_1 700 (fun _ => 0), kI cI q_2 50 f_10] H := ⟨hP, hD⟩
  refine lv_dup hx hb dX11_init_60 rfl ?_
  refine lv_bipush (v := 8) hx hb dX11_init_61 (by decide) ?_
  refine lv_bipush (v := 32) hx hb dX11_init_63 (by decide) ?_
  refine va_iast hx hb hE.1 hP hD hS 2 1 rfl rfl (kr_in (kr_c 8 8 rfl) rfl) dX11_init_65 (fun H locs hP hD hS => ?_)
  obtain ⟨f_11, ef_11⟩ : ∃ z, z = (upd f_10 (Int32.toNatClampNeg 8) 32) := ⟨_, rfl⟩
  rw [← ef_11] at hP hD
  obtain ⟨hP, hD⟩ : kPD D A [kX h (.ref q_1) (.int 0) (.int 0) .null (.int 0) (.int 0) (.int 0) (.int 0) (.int 0) (.int 0) (.int 0) (.int 0) (.int 0) (.int 0) (.int 0) (.int 0) (.int 0) (.int 0) .null .null .null .null .null .null .null .null (.int 0) .null (.int 0) (.int 0) .null .null .null .null (.int 0) (.int 0) (.int 0) .null (.int 0) (.int 0) (.int 0) (.int 0) .null .null (.long 0) .null, kI cI q_1 700 (fun _ => 0), kI cI q_2 50 f_11] H := ⟨hP, hD⟩
  refine lv_dup hx hb dX11_init_66 rfl ?_
  refine lv_bipush (v := 9) hx hb dX11_init_67 (by decide) ?_
  refine lv_bipush (v := 111) hx hb dX11_init_69 (by decide) ?_
  refine va_iast hx hb hE.1 hP hD hS 2 1 rfl rfl (kr_in (kr_c 9 9 rfl) rfl) dX11_init_71 (fun H locs hP hD hS => ?_)
  obtain ⟨f_12, ef_12⟩ : ∃ z, z = (upd f_11 (Int32.toNatClampNeg 9) 111) := ⟨_, rfl⟩
  rw [← ef_12] at hP hD
  obtain ⟨hP, hD⟩ : kPD D A [kX h (.ref q_1) (.int 0) (.int 0) .null (.int 0) (.int 0) (.int 0) (.int 0) (.int 0) (.int 0) (.int 0) (.int 0) (.int 0) (.int 0) (.int 0) (.int 0) (.int 0) (.int 0) .null .null .null .null .null .null .null .null (.int 0) .null (.int 0) (.int 0) .null .null .null .null (.int 0) (.int 0) (.int 0) .null (.int 0) (.int 0) (.int 0) (.int 0) .null .null (.long 0) .null, kI cI q_1 700 (fun _ => 0), kI cI q_2 50 f_12] H := ⟨hP, hD⟩
  refine lv_dup hx hb dX11_init_72 rfl ?_
  refine lv_bipush (v := 10) hx hb dX11_init_73 (by decide) ?_
  refine lv_bipush (v := 112) hx hb dX11_init_75 (by decide) ?_
  refine va_iast hx hb hE.1 hP hD hS 2 1 rfl rfl (kr_in (kr_c 10 10 rfl) rfl) dX11_init_77 (fun H locs hP hD hS => ?_)
  obtain ⟨f_13, ef_13⟩ : ∃ z, z = (upd f_12 (Int32.toNatClampNeg 10) 112) := ⟨_, rfl⟩
  rw [← ef_13] at hP hD
  obtain ⟨hP, hD⟩ : kPD D A [kX h (.ref q_1) (.int 0) (.int 0) .null (.int 0) (.int 0) (.int 0) (.int 0) (.int 0) (.int 0) (.int 0) (.int 0) (.int 0) (.int 0) (.int 0) (.int 0) (.int 0) (.int 0) .null .null .null .null .null .null .null .null (.int 0) .null (.int 0) (.int 0) .null .null .null .null (.int 0) (.int 0) (.int 0) .null (.int 0) (.int 0) (.int 0) (.int 0) .null .null (.long 0) .null, kI cI q_1 700 (fun _ => 0), kI cI q_2 50 f_13] H := ⟨hP, hD⟩
  refine lv_dup hx hb dX11_init_78 rfl ?_
  refine lv_bipush (v := 11) hx hb dX11_init_79 (by decide) ?_
  refine lv_bipush (v := 101) hx hb dX11_init_81 (by decide) ?_
  refine va_iast hx hb hE.1 hP hD hS 2 1 rfl rfl (kr_in (kr_c 11 11 rfl) rfl) dX11_init_83 (fun H locs hP hD hS => ?_)
  obtain ⟨f_14, ef_14⟩ : ∃ z, z = (upd f_13 (Int32.toNatClampNeg 11) 101) := ⟨_, rfl⟩
  rw [← ef_14] at hP hD
  obtain ⟨hP, hD⟩ : kPD D A [kX h (.ref q_1) (.int 0) (.int 0) .null (.int 0) (.int 0) (.int 0) (.int 0) (.int 0) (.int 0) (.int 0) (.int 0) (.int 0) (.int 0) (.int 0) (.int 0) (.int 0) (.int 0) .null .null .null .null .null .null .null .null (.int 0) .null (.int 0) (.int 0) .null .null .null .null (.int 0) (.int 0) (.int 0) .null (.int 0) (.int 0) (.int 0) (.int 0) .null .null (.long 0) .null, kI cI q_1 700 (fun _ => 0), kI cI q_2 50 f_14] H := ⟨hP, hD⟩
  refine lv_dup hx hb dX11_init_84 rfl ?_
  refine lv_bipush (v := 12) hx hb dX11_init_85 (by decide) ?_
  refine lv_bipush (v := 110) hx hb dX11_init_87 (by decide) ?_
  refine va_iast hx hb hE.1 hP hD hS 2 1 rfl rfl (kr_in (kr_c 12 12 rfl) rfl) dX11_init_89 (fun H locs hP hD hS => ?_)
  obtain ⟨f_15, ef_15⟩ : ∃ z, z = (upd f_14 (Int32.toNatClampNeg 12) 110) := ⟨_, rfl⟩
  rw [← ef_15] at hP hD
  obtain ⟨hP, hD⟩ : kPD D A [kX h (.ref q_1) (.int 0) (.int 0) .null (.int 0) (.int 0) (.int 0) (.int 0) (.int 0) (.int 0) (.int 0) (.int 0) (.int 0) (.int 0) (.int 0) (.int 0) (.int 0) (.int 0) .null .null .null .null .null .null .null .null (.int 0) .null (.int 0) (.int 0) .null .null .null .null (.int 0) (.int 0) (.int 0) .null (.int 0) (.int 0) (.int 0) (.int 0) .null .null (.long 0) .null, kI cI q_1 700 (fun _ => 0), kI cI q_2 50 f_15] H := ⟨hP, hD⟩
  refine lv_dup hx hb dX11_init_90 rfl ?_
  refine lv_bipush (v := 13) hx hb dX11_init_91 (by decide) ?_
  refine lv_bipush (v := 32) hx hb dX11_init_93 (by decide) ?_
  refine va_iast hx hb hE.1 hP hD hS 2 1 rfl rfl (kr_in (kr_c 13 13 rfl) rfl) dX11_init_95 (fun H locs hP hD hS => ?_)
  obtain ⟨f_16, ef_16⟩ : ∃ z, z = (upd f_15 (Int32.toNatClampNeg 13) 32) := ⟨_, rfl⟩
  rw [← ef_16] at hP hD
  obtain ⟨hP, hD⟩ : kPD D A [kX h (.ref q_1) (.int 0) (.int 0) .null (.int 0) (.int 0) (.int 0) (.int 0) (.int 0) (.int 0) (.int 0) (.int 0) (.int 0) (.int 0) (.int 0) (.int 0) (.int 0) (.int 0) .null .null .null .null .null .null .null .null (.int 0) .null (.int 0) (.int 0) .null .null .null .null (.int 0) (.int 0) (.int 0) .null (.int 0) (.int 0) (.int 0) (.int 0) .null .null (.long 0) .null, kI cI q_1 700 (fun _ => 0), kI cI q_2 50 f_16] H := ⟨hP, hD⟩
  refine lv_dup hx hb dX11_init_96 rfl ?_
  refine lv_bipush (v := 14) hx hb dX11_init_97 (by decide) ?_
  refine lv_bipush (v := 115) hx hb dX11_init_99 (by decide) ?_
  refine va_iast hx hb hE.1 hP hD hS 2 1 rfl rfl (kr_in (kr_c 14 14 rfl) rfl) dX11_init_101 (fun H locs hP hD hS => ?_)
  obtain ⟨f_17, ef_17⟩ : ∃ z, z = (upd f_16 (Int32.toNatClampNeg 14) 115) := ⟨_, rfl⟩
  rw [← ef_17] at hP hD
  obtain ⟨hP, hD⟩ : kPD D A [kX h (.ref q_1) (.int 0) (.int 0) .null (.int 0) (.int 0) (.int 0) (.int 0) (.int 0) (.int 0) (.int 0) (.int 0) (.int 0) (.int 0) (.int 0) (.int 0) (.int 0) (.int 0) .null .null .null .null .null .null .null .null (.int 0) .null (.int 0) (.int 0) .null .null .null .null (.int 0) (.int 0) (.int 0) .null (.int 0) (.int 0) (.int 0) (.int 0) .null .null (.long 0) .null, kI cI q_1 700 (fun _ => 0), kI cI q_2 50 f_17] H := ⟨hP, hD⟩
  refine lv_dup hx hb dX11_init_102 rfl ?_
  refine lv_bipush (v := 15) hx hb dX11_init_103 (by decide) ?_
  refine lv_bipush (v := 99) hx hb dX11_init_105 (by decide) ?_
  refine va_iast hx hb hE.1 hP hD hS 2 1 rfl rfl (kr_in (kr_c 15 15 rfl) rfl) dX11_init_107 (fun H locs hP hD hS => ?_)
  obtain ⟨f_18, ef_18⟩ : ∃ z, z = (upd f_17 (Int32.toNatClampNeg 15) 99) := ⟨_, rfl⟩
  rw [← ef_18] at hP hD
  obtain ⟨hP, hD⟩ : kPD D A [kX h (.ref q_1) (.int 0) (.int 0) .null (.int 0) (.int 0) (.int 0) (.int 0) (.int 0) (.int 0) (.int 0) (.int 0) (.int 0) (.int 0) (.int 0) (.int 0) (.int 0) (.int 0) .null .null .null .null .null .null .null .null (.int 0) .null (.int 0) (.int 0) .null .null .null .null (.int 0) (.int 0) (.int 0) .null (.int 0) (.int 0) (.int 0) (.int 0) .null .null (.long 0) .null, kI cI q_1 700 (fun _ => 0), kI cI q_2 50 f_18] H := ⟨hP, hD⟩
  refine lv_dup hx hb dX11_init_108 rfl ?_
  refine lv_bipush (v := 16) hx hb dX11_init_109 (by decide) ?_
  refine lv_bipush (v := 97) hx hb dX11_init_111 (by decide) ?_
  refine va_iast hx hb hE.1 hP hD hS 2 1 rfl rfl (kr_in (kr_c 16 16 rfl) rfl) dX11_init_113 (fun H locs hP hD hS => ?_)
  obtain ⟨f_19, ef_19⟩ : ∃ z, z = (upd f_18 (Int32.toNatClampNeg 16) 97) := ⟨_, rfl⟩
  rw [← ef_19] at hP hD
  obtain ⟨hP, hD⟩ : kPD D A [kX h (.ref q_1) (.int 0) (.int 0) .null (.int 0) (.int 0) (.int 0) (.int 0) (.int 0) (.int 0) (.int 0) (.int 0) (.int 0) (.int 0) (.int 0) (.int 0) (.int 0) (.int 0) .null .null .null .null .null .null .null .null (.int 0) .null (.int 0) (.int 0) .null .null .null .null (.int 0) (.int 0) (.int 0) .null (.int 0) (.int 0) (.int 0) (.int 0) .null .null (.long 0) .null, kI cI q_1 700 (fun _ => 0), kI cI q_2 50 f_19] H := ⟨hP, hD⟩
  refine lv_dup hx hb dX11_init_114 rfl ?_
  refine lv_bipush (v := 17) hx hb dX11_init_115 (by decide) ?_
  refine lv_bipush (v := 110) hx hb dX11_init_117 (by decide) ?_
  refine va_iast hx hb hE.1 hP hD hS 2 1 rfl rfl (kr_in (kr_c 17 17 rfl) rfl) dX11_init_119 (fun H locs hP hD hS => ?_)
  obtain ⟨f_20, ef_20⟩ : ∃ z, z = (upd f_19 (Int32.toNatClampNeg 17) 110) := ⟨_, rfl⟩
  rw [← ef_20] at hP hD
  obtain ⟨hP, hD⟩ : kPD D A [kX h (.ref q_1) (.int 0) (.int 0) .null (.int 0) (.int 0) (.int 0) (.int 0) (.int 0) (.int 0) (.int 0) (.int 0) (.int 0) (.int 0) (.int 0) (.int 0) (.int 0) (.int 0) .null .null .null .null .null .null .null .null (.int 0) .null (.int 0) (.int 0) .null .null .null .null (.int 0) (.int 0) (.int 0) .null (.int 0) (.int 0) (.int 0) (.int 0) .null .null (.long 0) .null, kI cI q_1 700 (fun _ => 0), kI cI q_2 50 f_20] H := ⟨hP, hD⟩
  refine lv_dup hx hb dX11_init_120 rfl ?_
  refine lv_bipush (v := 18) hx hb dX11_init_121 (by decide) ?_
  refine lv_bipush (v := 32) hx hb dX11_init_123 (by decide) ?_
  refine va_iast hx hb hE.1 hP hD hS 2 1 rfl rfl (kr_in (kr_c 18 18 rfl) rfl) dX11_init_125 (fun H locs hP hD hS => ?_)
  obtain ⟨f_21, ef_21⟩ : ∃ z, z = (upd f_20 (Int32.toNatClampNeg 18) 32) := ⟨_, rfl⟩
  rw [← ef_21] at hP hD
  obtain ⟨hP, hD⟩ : kPD D A [kX h (.ref q_1) (.int 0) (.int 0) .null (.int 0) (.int 0) (.int 0) (.int 0) (.int 0) (.int 0) (.int 0) (.int 0) (.int 0) (.int 0) (.int 0) (.int 0) (.int 0) (.int 0) .null .null .null .null .null .null .null .null (.int 0) .null (.int 0) (.int 0) .null .null .null .null (.int 0) (.int 0) (.int 0) .null (.int 0) (.int 0) (.int 0) (.int 0) .null .null (.long 0) .null, kI cI q_1 700 (fun _ => 0), kI cI q_2 50 f_21] H := ⟨hP, hD⟩
  refine lv_dup hx hb dX11_init_126 rfl ?_
  refine lv_bipush (v := 19) hx hb dX11_init_127 (by decide) ?_
  refine lv_bipush (v := 115) hx hb dX11_init_129 (by decide) ?_
  refine va_iast hx hb hE.1 hP hD hS 2 1 rfl rfl (kr_in (kr_c 19 19 rfl) rfl) dX11_init_131 (fun H locs hP hD hS => ?_)
  obtain ⟨f_22, ef_22⟩ : ∃ z, z = (upd f_21 (Int32.toNatClampNeg 19) 115) := ⟨_, rfl⟩
  rw [← ef_22] at hP hD
  obtain ⟨hP, hD⟩ : kPD D A [kX h (.ref q_1) (.int 0) (.int 0) .null (.int 0) (.int 0) (.int 0) (.int 0) (.int 0) (.int 0) (.int 0) (.int 0) (.int 0) (.int 0) (.int 0) (.int 0) (.int 0) (.int 0) .null .null .null .null .null .null .null .null (.int 0) .null (.int 0) (.int 0) .null .null .null .null (.int 0) (.int 0) (.int 0) .null (.int 0) (.int 0) (.int 0) (.int 0) .null .null (.long 0) .null, kI cI q_1 700 (fun _ => 0), kI cI q_2 50 f_22] H := ⟨hP, hD⟩
  refine lv_dup hx hb dX11_init_132 rfl ?_
  refine lv_bipush (v := 20) hx hb dX11_init_133 (by decide) ?_
  refine lv_bipush (v := 101) hx hb dX11_init_135 (by decide) ?_
  refine va_iast hx hb hE.1 hP hD hS 2 1 rfl rfl (kr_in (kr_c 20 20 rfl) rfl) dX11_init_137 (fun H locs hP hD hS => ?_)
  obtain ⟨f_23, ef_23⟩ : ∃ z, z = (upd f_22 (Int32.toNatClampNeg 20) 101) := ⟨_, rfl⟩
  rw [← ef_23] at hP hD
  obtain ⟨hP, hD⟩ : kPD D A [kX h (.ref q_1) (.int 0) (.int 0) .null (.int 0) (.int 0) (.int 0) (.int 0) (.int 0) (.int 0) (.int 0) (.int 0) (.int 0) (.int 0) (.int 0) (.int 0) (.int 0) (.int 0) .null .null .null .null .null .null .null .null (.int 0) .null (.int 0) (.int 0) .null .null .null .null (.int 0) (.int 0) (.int 0) .null (.int 0) (.int 0) (.int 0) (.int 0) .null .null (.long 0) .null, kI cI q_1 700 (fun _ => 0), kI cI q_2 50 f_23] H := ⟨hP, hD⟩
  refine lv_dup hx hb dX11_init_138 rfl ?_
  refine lv_bipush (v := 21) hx hb dX11_init_139 (by decide) ?_
  refine lv_bipush (v := 101) hx hb dX11_init_141 (by decide) ?_
  refine va_iast hx hb hE.1 hP hD hS 2 1 rfl rfl (kr_in (kr_c 21 21 rfl) rfl) dX11_init_143 (fun H locs hP hD hS => ?_)
  obtain ⟨f_24, ef_24⟩ : ∃ z, z = (upd f_23 (Int32.toNatClampNeg 21) 101) := ⟨_, rfl⟩
  rw [← ef_24] at hP hD
  obtain ⟨hP, hD⟩ : kPD D A [kX h (.ref q_1) (.int 0) (.int 0) .null (.int 0) (.int 0) (.int 0) (.int 0) (.int 0) (.int 0) (.int 0) (.int 0) (.int 0) (.int 0) (.int 0) (.int 0) (.int 0) (.int 0) .null .null .null .null .null .null .null .null (.int 0) .null (.int 0) (.int 0) .null .null .null .null (.int 0) (.int 0) (.int 0) .null (.int 0) (.int 0) (.int 0) (.int 0) .null .null (.long 0) .null, kI cI q_1 700 (fun _ => 0), kI cI q_2 50 f_24] H := ⟨hP, hD⟩
  refine lv_dup hx hb dX11_init_144 rfl ?_
  refine lv_bipush (v := 22) hx hb dX11_init_145 (by decide) ?_
  refine lv_bipush (v := 107) hx hb dX11_init_147 (by decide) ?_
  refine va_iast hx hb hE.1 hP hD hS 2 1 rfl rfl (kr_in (kr_c 22 22 rfl) rfl) dX11_init_149 (fun H locs hP hD hS => ?_)
  obtain ⟨f_25, ef_25⟩ : ∃ z, z = (upd f_24 (Int32.toNatClampNeg 22) 107) := ⟨_, rfl⟩
  rw [← ef_25] at hP hD
  obtain ⟨hP, hD⟩ : kPD D A [kX h (.ref q_1) (.int 0) (.int 0) .null (.int 0) (.int 0) (.int 0) (.int 0) (.int 0) (.int 0) (.int 0) (.int 0) (.int 0) (.int 0) (.int 0) (.int 0) (.int 0) (.int 0) .null .null .null .null .null .null .null .null (.int 0) .null (.int 0) (.int 0) .null .null .null .null (.int 0) (.int 0) (.int 0) .null (.int 0) (.int 0) (.int 0) (.int 0) .null .null (.long 0) .null, kI cI q_1 700 (fun _ => 0), kI cI q_2 50 f_25] H := ⟨hP, hD⟩
  refine lv_dup hx hb dX11_init_150 rfl ?_
  refine lv_bipush (v := 23) hx hb dX11_init_151 (by decide) ?_
  refine lv_bipush (v := 32) hx hb dX11_init_153 (by decide) ?_
  refine va_iast hx hb hE.1 hP hD hS 2 1 rfl rfl (kr_in (kr_c 23 23 rfl) rfl) dX11_init_155 (fun H locs hP hD hS => ?_)
  obtain ⟨f_26, ef_26⟩ : ∃ z, z = (upd f_25 (Int32.toNatClampNeg 23) 32) := ⟨_, rfl⟩
  rw [← ef_26] at hP hD
  obtain ⟨hP, hD⟩ : kPD D A [kX h (.ref q_1) (.int 0) (.int 0) .null (.int 0) (.int 0) (.int 0) (.int 0) (.int 0) (.int 0) (.int 0) (.int 0) (.int 0) (.int 0) (.int 0) (.int 0) (.int 0) (.int 0) .null .null .null .null .null .null .null .null (.int 0) .null (.int 0) (.int 0) .null .null .null .null (.int 0) (.int 0) (.int 0) .null (.int 0) (.int 0) (.int 0) (.int 0) .null .null (.long 0) .null, kI cI q_1 700 (fun _ => 0), kI cI q_2 50 f_26] H := ⟨hP, hD⟩
  refine lv_dup hx hb dX11_init_156 rfl ?_
  refine lv_bipush (v := 24) hx hb dX11_init_157 (by decide) ?_
  refine lv_bipush (v := 103) hx hb dX11_init_159 (by decide) ?_
  refine va_iast hx hb hE.1 hP hD hS 2 1 rfl rfl (kr_in (kr_c 24 24 rfl) rfl) dX11_init_161 (fun H locs hP hD hS => ?_)
  obtain ⟨f_27, ef_27⟩ : ∃ z, z = (upd f_26 (Int32.toNatClampNeg 24) 103) := ⟨_, rfl⟩
  rw [← ef_27] at hP hD
  obtain ⟨hP, hD⟩ : kPD D A [kX h (.ref q_1) (.int 0) (.int 0) .null (.int 0) (.int 0) (.int 0) (.int 0) (.int 0) (.int 0) (.int 0) (.int 0) (.int 0) (.int 0) (.int 0) (.int 0) (.int 0) (.int 0) .null .null .null .null .null .null .null .null (.int 0) .null (.int 0) (.int 0) .null .null .null .null (.int 0) (.int 0) (.int 0) .null (.int 0) (.int 0) (.int 0) (.int 0) .null .null (.long 0) .null, kI cI q_1 700 (fun _ => 0), kI cI q_2 50 f_27] H := ⟨hP, hD⟩
  refine lv_dup hx hb dX11_init_162 rfl ?_
  refine lv_bipush (v := 25) hx hb dX11_init_163 (by decide) ?_
  refine lv_bipush (v := 114) hx hb dX11_init_165 (by decide) ?_
  refine va_iast hx hb hE.1 hP hD hS 2 1 rfl rfl (kr_in (kr_c 25 25 rfl) rfl) dX11_init_167 (fun H locs hP hD hS => ?_)
  obtain ⟨f_28, ef_28⟩ : ∃ z, z = (upd f_27 (Int32.toNatClampNeg 25) 114) := ⟨_, rfl⟩
  rw [← ef_28] at hP hD
  obtain ⟨hP, hD⟩ : kPD D A [kX h (.ref q_1) (.int 0) (.int 0) .null (.int 0) (.int 0) (.int 0) (.int 0) (.int 0) (.int 0) (.int 0) (.int 0) (.int 0) (.int 0) (.int 0) (.int 0) (.int 0) (.int 0) .null .null .null .null .null .null .null .null (.int 0) .null (.int 0) (.int 0) .null .null .null .null (.int 0) (.int 0) (.int 0) .null (.int 0) (.int 0) (.int 0) (.int 0) .null .null (.long 0) .null, kI cI q_1 700 (fun _ => 0), kI cI q_2 50 f_28] H := ⟨hP, hD⟩
  refine lv_dup hx hb dX11_init_168 rfl ?_
  refine lv_bipush (v := 26) hx hb dX11_init_169 (by decide) ?_
  refine lv_bipush (v := 97) hx hb dX11_init_171 (by decide) ?_
  refine va_iast hx hb hE.1 hP hD hS 2 1 rfl rfl (kr_in (kr_c 26 26 rfl) rfl) dX11_init_173 (fun H locs hP hD hS => ?_)
  obtain ⟨f_29, ef_29⟩ : ∃ z, z = (upd f_28 (Int32.toNatClampNeg 26) 97) := ⟨_, rfl⟩
  rw [← ef_29] at hP hD
  obtain ⟨hP, hD⟩ : kPD D A [kX h (.ref q_1) (.int 0) (.int 0) .null (.int 0) (.int 0) (.int 0) (.int 0) (.int 0) (.int 0) (.int 0) (.int 0) (.int 0) (.int 0) (.int 0) (.int 0) (.int 0) (.int 0) .null .null .null .null .null .null .null .null (.int 0) .null (.int 0) (.int 0) .null .null .null .null (.int 0) (.int 0) (.int 0) .null (.int 0) (.int 0) (.int 0) (.int 0) .null .null (.long 0) .null, kI cI q_1 700 (fun _ => 0), kI cI q_2 50 f_29] H := ⟨hP, hD⟩
  refine lv_dup hx hb dX11_init_174 rfl ?_
  refine lv_bipush (v := 27) hx hb dX11_init_175 (by decide) ?_
  refine lv_bipush (v := 98) hx hb dX11_init_177 (by decide) ?_
  refine va_iast hx hb hE.1 hP hD hS 2 1 rfl rfl (kr_in (kr_c 27 27 rfl) rfl) dX11_init_179 (fun H locs hP hD hS => ?_)
  obtain ⟨f_30, ef_30⟩ : ∃ z, z = (upd f_29 (Int32.toNatClampNeg 27) 98) := ⟨_, rfl⟩
  rw [← ef_30] at hP hD
  obtain ⟨hP, hD⟩ : kPD D A [kX h (.ref q_1) (.int 0) (.int 0) .null (.int 0) (.int 0) (.int 0) (.int 0) (.int 0) (.int 0) (.int 0) (.int 0) (.int 0) (.int 0) (.int 0) (.int 0) (.int 0) (.int 0) .null .null .null .null .null .null .null .null (.int 0) .null (.int 0) (.int 0) .null .null .null .null (.int 0) (.int 0) (.int 0) .null (.int 0) (.int 0) (.int 0) (.int 0) .null .null (.long 0) .null, kI cI q_1 700 (fun _ => 0), kI cI q_2 50 f_30] H := ⟨hP, hD⟩
  refine lv_dup hx hb dX11_init_180 rfl ?_
  refine lv_bipush (v := 28) hx hb dX11_init_181 (by decide) ?_
  refine lv_bipush (v := 32) hx hb dX11_init_183 (by decide) ?_
  refine va_iast hx hb hE.1 hP hD hS 2 1 rfl rfl (kr_in (kr_c 28 28 rfl) rfl) dX11_init_185 (fun H locs hP hD hS => ?_)
  obtain ⟨f_31, ef_31⟩ : ∃ z, z = (upd f_30 (Int32.toNatClampNeg 28) 32) := ⟨_, rfl⟩
  rw [← ef_31] at hP hD
  obtain ⟨hP, hD⟩ : kPD D A [kX h (.ref q_1) (.int 0) (.int 0) .null (.int 0) (.int 0) (.int 0) (.int 0) (.int 0) (.int 0) (.int 0) (.int 0) (.int 0) (.int 0) (.int 0) (.int 0) (.int 0) (.int 0) .null .null .null .null .null .null .null .null (.int 0) .null (.int 0) (.int 0) .null .null .null .null (.int 0) (.int 0) (.int 0) .null (.int 0) (.int 0) (.int 0) (.int 0) .null .null (.long 0) .null, kI cI q_1 700 (fun _ => 0), kI cI q_2 50 f_31] H := ⟨hP, hD⟩
  refine lv_dup hx hb dX11_init_186 rfl ?_
  refine lv_bipush (v := 29) hx hb dX11_init_187 (by decide) ?_
  refine lv_bipush (v := 115) hx hb dX11_init_189 (by decide) ?_
  refine va_iast hx hb hE.1 hP hD hS 2 1 rfl rfl (kr_in (kr_c 29 29 rfl) rfl) dX11_init_191 (fun H locs hP hD hS => ?_)
  obtain ⟨f_32, ef_32⟩ : ∃ z, z = (upd f_31 (Int32.toNatClampNeg 29) 115) := ⟨_, rfl⟩
  rw [← ef_32] at hP hD
  obtain ⟨hP, hD⟩ : kPD D A [kX h (.ref q_1) (.int 0) (.int 0) .null (.int 0) (.int 0) (.int 0) (.int 0) (.int 0) (.int 0) (.int 0) (.int 0) (.int 0) (.int 0) (.int 0) (.int 0) (.int 0) (.int 0) .null .null .null .null .null .null .null .null (.int 0) .null (.int 0) (.int 0) .null .null .null .null (.int 0) (.int 0) (.int 0) .null (.int 0) (.int 0) (.int 0) (.int 0) .null .null (.long 0) .null, kI cI q_1 700 (fun _ => 0), kI cI q_2 50 f_32] H := ⟨hP, hD⟩
  refine lv_dup hx hb dX11_init_192 rfl ?_
  refine lv_bipush (v := 30) hx hb dX11_init_193 (by decide) ?_
  refine lv_bipush (v := 101) hx hb dX11_init_195 (by decide) ?_
  refine va_iast hx hb hE.1 hP hD hS 2 1 rfl rfl (kr_in (kr_c 30 30 rfl) rfl) dX11_init_197 (fun H locs hP hD hS => ?_)
  obtain ⟨f_33, ef_33⟩ : ∃ z, z = (upd f_32 (Int32.toNatClampNeg 30) 101) := ⟨_, rfl⟩
  rw [← ef_33] at hP hD
  obtain ⟨hP, hD⟩ : kPD D A [kX h (.ref q_1) (.int 0) (.int 0) .null (.int 0) (.int 0) (.int 0) (.int 0) (.int 0) (.int 0) (.int 0) (.int 0) (.int 0) (.int 0) (.int 0) (.int 0) (.int 0) (.int 0) .null .null .null .null .null .null .null .null (.int 0) .null (.int 0) (.int 0) .null .null .null .null (.int 0) (.int 0) (.int 0) .null (.int 0) (.int 0) (.int 0) (.int 0) .null .null (.long 0) .null, kI cI q_1 700 (fun _ => 0), kI cI q_2 50 f_33] H := ⟨hP, hD⟩
  refine lv_dup hx hb dX11_init_198 rfl ?_
  refine lv_bipush (v := 31) hx hb dX11_init_199 (by decide) ?_
  refine lv_bipush (v := 116) hx hb dX11_init_201 (by decide) ?_
  refine va_iast hx hb hE.1 hP hD hS 2 1 rfl rfl (kr_in (kr_c 31 31 rfl) rfl) dX11_init_203 (fun H locs hP hD hS => ?_)
  obtain ⟨f_34, ef_34⟩ : ∃ z, z = (upd f_33 (Int32.toNatClampNeg 31) 116) := ⟨_, rfl⟩
  rw [← ef_34] at hP hD
  obtain ⟨hP, hD⟩ : kPD D A [kX h (.ref q_1) (.int 0) (.int 0) .null (.int 0) (.int 0) (.int 0) (.int 0) (.int 0) (.int 0) (.int 0) (.int 0) (.int 0) (.int 0) (.int 0) (.int 0) (.int 0) (.int 0) .null .null .null .null .null .null .null .null (.int 0) .null (.int 0) (.int 0) .null .null .null .null (.int 0) (.int 0) (.int 0) .null (.int 0) (.int 0) (.int 0) (.int 0) .null .null (.long 0) .null, kI cI q_1 700 (fun _ => 0), kI cI q_2 50 f_34] H := ⟨hP, hD⟩
  refine lv_dup hx hb dX11_init_204 rfl ?_
  refine lv_bipush (v := 32) hx hb dX11_init_205 (by decide) ?_
  refine lv_bipush (v := 32) hx hb dX11_init_207 (by decide) ?_
  refine va_iast hx hb hE.1 hP hD hS 2 1 rfl rfl (kr_in (kr_c 32 32 rfl) rfl) dX11_init_209 (fun H locs hP hD hS => ?_)
  obtain ⟨f_35, ef_35⟩ : ∃ z, z = (upd f_34 (Int32.toNatClampNeg 32) 32) := ⟨_, rfl⟩
  rw [← ef_35] at hP hD
  obtain ⟨hP, hD⟩ : kPD D A [kX h (.ref q_1) (.int 0) (.int 0) .null (.int 0) (.int 0) (.int 0) (.int 0) (.int 0) (.int 0) (.int 0) (.int 0) (.int 0) (.int 0) (.int 0) (.int 0) (.int 0) (.int 0) .null .null .null .null .null .null .null .null (.int 0) .null (.int 0) (.int 0) .null .null .null .null (.int 0) (.int 0) (.int 0) .null (.int 0) (.int 0) (.int 0) (.int 0) .null .null (.long 0) .null, kI cI q_1 700 (fun _ => 0), kI cI q_2 50 f_35] H := ⟨hP, hD⟩
  refine lv_dup hx hb dX11_init_210 rfl ?_
  refine lv_bipush (v := 33) hx hb dX11_init_211 (by decide) ?_
  refine lv_bipush (v := 112) hx hb dX11_init_213 (by decide) ?_
  refine va_iast hx hb hE.1 hP hD hS 2 1 rfl rfl (kr_in (kr_c 33 33 rfl) rfl) dX11_init_215 (fun H locs hP hD hS => ?_)
  obtain ⟨f_36, ef_36⟩ : ∃ z, z = (upd f_35 (Int32.toNatClampNeg 33) 112) := ⟨_, rfl⟩
  rw [← ef_36] at hP hD
  obtain ⟨hP, hD⟩ : kPD D A [kX h (.ref q_1) (.int 0) (.int 0) .null (.int 0) (.int 0) (.int 0) (.int 0) (.int 0) (.int 0) (.int 0) (.int 0) (.int 0) (.int 0) (.int 0) (.int 0) (.int 0) (.int 0) .null .null .null .null .null .null .null .null (.int 0) .null (.int 0) (.int 0) .null .null .null .null (.int 0) (.int 0) (.int 0) .null (.int 0) (.int 0) (.int 0) (.int 0) .null .null (.long 0) .null, kI cI q_1 700 (fun _ => 0), kI cI q_2 50 f_36] H := ⟨hP, hD⟩
  refine lv_dup hx hb dX11_init_216 rfl ?_
  refine lv_bipush (v := 34) hx hb dX11_init_217 (by decide) ?_
  refine lv_bipush (v := 117) hx hb dX11_init_219 (by decide) ?_
  refine va_iast hx hb hE.1 hP hD hS 2 1 rfl rfl (kr_in (kr_c 34 34 rfl) rfl) dX11_init_221 (fun H locs hP hD hS => ?_)
  obtain ⟨f_37, ef_37⟩ : ∃ z, z = (upd f_36 (Int32.toNatClampNeg 34) 117) := ⟨_, rfl⟩
  rw [← ef_37] at hP hD
  obtain ⟨hP, hD⟩ : kPD D A [kX h (.ref q_1) (.int 0) (.int 0) .null (.int 0) (.int 0) (.int 0) (.int 0) (.int 0) (.int 0) (.int 0) (.int 0) (.int 0) (.int 0) (.int 0) (.int 0) (.int 0) (.int 0) .null .null .null .null .null .null .null .null (.int 0) .null (.int 0) (.int 0) .null .null .null .null (.int 0) (.int 0) (.int 0) .null (.int 0) (.int 0) (.int 0) (.int 0) .null .null (.long 0) .null, kI cI q_1 700 (fun _ => 0), kI cI q_2 50 f_37] H := ⟨hP, hD⟩
  refine lv_dup hx hb dX11_init_222 rfl ?_
  refine lv_bipush (v := 35) hx hb dX11_init_223 (by decide) ?_
  refine lv_bipush (v := 116) hx hb dX11_init_225 (by decide) ?_
  refine va_iast hx hb hE.1 hP hD hS 2 1 rfl rfl (kr_in (kr_c 35 35 rfl) rfl) dX11_init_227 (fun H locs hP hD hS => ?_)
  obtain ⟨f_38, ef_38⟩ : ∃ z, z = (upd f_37 (Int32.toNatClampNeg 35) 116) := ⟨_, rfl⟩
  rw [← ef_38] at hP hD
  obtain ⟨hP, hD⟩ : kPD D A [kX h (.ref q_1) (.int 0) (.int 0) .null (.int 0) (.int 0) (.int 0) (.int 0) (.int 0) (.int 0) (.int 0) (.int 0) (.int 0) (.int 0) (.int 0) (.int 0) (.int 0) (.int 0) .null .null .null .null .null .null .null .null (.int 0) .null (.int 0) (.int 0) .null .null .null .null (.int 0) (.int 0) (.int 0) .null (.int 0) (.int 0) (.int 0) (.int 0) .null .null (.long 0) .null, kI cI q_1 700 (fun _ => 0), kI cI q_2 50 f_38] H := ⟨hP, hD⟩
  refine lv_dup hx hb dX11_init_228 rfl ?_
  refine lv_bipush (v := 36) hx hb dX11_init_229 (by decide) ?_
  refine lv_bipush (v := 32) hx hb dX11_init_231 (by decide) ?_
  refine va_iast hx hb hE.1 hP hD hS 2 1 rfl rfl (kr_in (kr_c 36 36 rfl) rfl) dX11_init_233 (fun H locs hP hD hS => ?_)
  obtain ⟨f_39, ef_39⟩ : ∃ z, z = (upd f_38 (Int32.toNatClampNeg 36) 32) := ⟨_, rfl⟩
  rw [← ef_39] at hP hD
  obtain ⟨hP, hD⟩ : kPD D A [kX h (.ref q_1) (.int 0) (.int 0) .null (.int 0) (.int 0) (.int 0) (.int 0) (.int 0) (.int 0) (.int 0) (.int 0) (.int 0) (.int 0) (.int 0) (.int 0) (.int 0) (.int 0) .null .null .null .null .null .null .null .null (.int 0) .null (.int 0) (.int 0) .null .null .null .null (.int 0) (.int 0) (.int 0) .null (.int 0) (.int 0) (.int 0) (.int 0) .null .null (.long 0) .null, kI cI q_1 700 (fun _ => 0), kI cI q_2 50 f_39] H := ⟨hP, hD⟩
  refine lv_dup hx hb dX11_init_234 rfl ?_
  refine lv_bipush (v := 37) hx hb dX11_init_235 (by decide) ?_
  refine lv_bipush (v := 99) hx hb dX11_init_237 (by decide) ?_
  refine va_iast hx hb hE.1 hP hD hS 2 1 rfl rfl (kr_in (kr_c 37 37 rfl) rfl) dX11_init_239 (fun H locs hP hD hS => ?_)
  obtain ⟨f_40, ef_40⟩ : ∃ z, z = (upd f_39 (Int32.toNatClampNeg 37) 99) := ⟨_, rfl⟩
  rw [← ef_40] at hP hD
  obtain ⟨hP, hD⟩ : kPD D A [kX h (.ref q_1) (.int 0) (.int 0) .null (.int 0) (.int 0) (.int 0) (.int 0) (.int 0) (.int 0) (.int 0) (.int 0) (.int 0) (.int 0) (.int 0) (.int 0) (.int 0) (.int 0) .null .null .null .null .null .null .null .null (.int 0) .null (.int 0) (.int 0) .null .null .null .null (.int 0) (.int 0) (.int 0) .null (.int 0) (.int 0) (.int 0) (.int 0) .null .null (.long 0) .null, kI cI q_1 700 (fun _ => 0), kI cI q_2 50 f_40] H := ⟨hP, hD⟩
  refine lv_dup hx hb dX11_init_240 rfl ?_
  refine lv_bipush (v := 38) hx hb dX11_init_241 (by decide) ?_
  refine lv_bipush (v := 117) hx hb dX11_init_243 (by decide) ?_
  refine va_iast hx hb hE.1 hP hD hS 2 1 rfl rfl (kr_in (kr_c 38 38 rfl) rfl) dX11_init_245 (fun H locs hP hD hS => ?_)
  obtain ⟨f_41, ef_41⟩ : ∃ z, z = (upd f_40 (Int32.toNatClampNeg 38) 117) := ⟨_, rfl⟩
  rw [← ef_41] at hP hD
  obtain ⟨hP, hD⟩ : kPD D A [kX h (.ref q_1) (.int 0) (.int 0) .null (.int 0) (.int 0) (.int 0) (.int 0) (.int 0) (.int 0) (.int 0) (.int 0) (.int 0) (.int 0) (.int 0) (.int 0) (.int 0) (.int 0) .null .null .null .null .null .null .null .null (.int 0) .null (.int 0) (.int 0) .null .null .null .null (.int 0) (.int 0) (.int 0) .null (.int 0) (.int 0) (.int 0) (.int 0) .null .null (.long 0) .null, kI cI q_1 700 (fun _ => 0), kI cI q_2 50 f_41] H := ⟨hP, hD⟩
  refine lv_dup hx hb dX11_init_246 rfl ?_
  refine lv_bipush (v := 39) hx hb dX11_init_247 (by decide) ?_
  refine lv_bipush (v := 116) hx hb dX11_init_249 (by decide) ?_
  refine va_iast hx hb hE.1 hP hD hS 2 1 rfl rfl (kr_in (kr_c 39 39 rfl) rfl) dX11_init_251 (fun H locs hP hD hS => ?_)
  obtain ⟨f_42, ef_42⟩ : ∃ z, z = (upd f_41 (Int32.toNatClampNeg 39) 116) := ⟨_, rfl⟩
  rw [← ef_42] at hP hD
  obtain ⟨hP, hD⟩ : kPD D A [kX h (.ref q_1) (.int 0) (.int 0) .null (.int 0) (.int 0) (.int 0) (.int 0) (.int 0) (.int 0) (.int 0) (.int 0) (.int 0) (.int 0) (.int 0) (.int 0) (.int 0) (.int 0) .null .null .null .null .null .null .null .null (.int 0) .null (.int 0) (.int 0) .null .null .null .null (.int 0) (.int 0) (.int 0) .null (.int 0) (.int 0) (.int 0) (.int 0) .null .null (.long 0) .null, kI cI q_1 700 (fun _ => 0), kI cI q_2 50 f_42] H := ⟨hP, hD⟩
  refine lv_dup hx hb dX11_init_252 rfl ?_
  refine lv_bipush (v := 40) hx hb dX11_init_253 (by decide) ?_
  refine lv_bipush (v := 32) hx hb dX11_init_255 (by decide) ?_
  refine va_iast hx hb hE.1 hP hD hS 2 1 rfl rfl (kr_in (kr_c 40 40 rfl) rfl) dX11_init_257 (fun H locs hP hD hS => ?_)
  obtain ⟨f_43, ef_43⟩ : ∃ z, z = (upd f_42 (Int32.toNatClampNeg 40) 32) := ⟨_, rfl⟩
  rw [← ef_43] at hP hD
  obtain ⟨hP, hD⟩ : kPD D A [kX h (.ref q_1) (.int 0) (.int 0) .null (.int 0) (.int 0) (.int 0) (.int 0) (.int 0) (.int 0) (.int 0) (.int 0) (.int 0) (.int 0) (.int 0) (.int 0) (.int 0) (.int 0) .null .null .null .null .null .null .null .null (.int 0) .null (.int 0) (.int 0) .null .null .null .null (.int 0) (.int 0) (.int 0) .null (.int 0) (.int 0) (.int 0) (.int 0) .null .null (.long 0) .null, kI cI q_1 700 (fun _ => 0), kI cI q_2 50 f_43] H := ⟨hP, hD⟩
  refine lv_dup hx hb dX11_init_258 rfl ?_
  refine lv_bipush (v := 41) hx hb dX11_init_259 (by decide) ?_
  refine lv_bipush (v := 101) hx hb dX11_init_261 (by decide) ?_
  refine va_iast hx hb hE.1 hP hD hS 2 1 rfl rfl (kr_in (kr_c 41 41 rfl) rfl) dX11_init_263 (fun H locs hP hD hS => ?_)
  obtain ⟨f_44, ef_44⟩ : ∃ z, z = (upd f_43 (Int32.toNatClampNeg 41) 101) := ⟨_, rfl⟩
  rw [← ef_44] at hP hD
  obtain ⟨hP, hD⟩ : kPD D A [kX h (.ref q_1) (.int 0) (.int 0) .null (.int 0) (.int 0) (.int 0) (.int 0) (.int 0) (.int 0) (.int 0) (.int 0) (.int 0) (.int 0) (.int 0) (.int 0) (.int 0) (.int 0) .null .null .null .null .null .null .null .null (.int 0) .null (.int 0) (.int 0) .null .null .null .null (.int 0) (.int 0) (.int 0) .null (.int 0) (.int 0) (.int 0) (.int 0) .null .null (.long 0) .null, kI cI q_1 700 (fun _ => 0), kI cI q_2 50 f_44] H := ⟨hP, hD⟩
  refine lv_dup hx hb dX11_init_264 rfl ?_
  refine lv_bipush (v := 42) hx hb dX11_init_265 (by decide) ?_
  refine lv_bipush (v := 110) hx hb dX11_init_267 (by decide) ?_
  refine va_iast hx hb hE.1 hP hD hS 2 1 rfl rfl (kr_in (kr_c 42 42 rfl) rfl) dX11_init_269 (fun H locs hP hD hS => ?_)
  obtain ⟨f_45, ef_45⟩ : ∃ z, z = (upd f_44 (Int32.toNatClampNeg 42) 110) := ⟨_, rfl⟩
  rw [← ef_45] at hP hD
  obtain ⟨hP, hD⟩ : kPD D A [kX h (.ref q_1) (.int 0) (.int 0) .null (.int 0) (.int 0) (.int 0) (.int 0) (.int 0) (.int 0) (.int 0) (.int 0) (.int 0) (.int 0) (.int 0) (.int 0) (.int 0) (.int 0) .null .null .null .null .null .null .null .null (.int 0) .null (.int 0) (.int 0) .null .null .null .null (.int 0) (.int 0) (.int 0) .null (.int 0) (.int 0) (.int 0) (.int 0) .null .null (.long 0) .null, kI cI q_1 700 (fun _ => 0), kI cI q_2 50 f_45] H := ⟨hP, hD⟩
  refine lv_dup hx hb dX11_init_270 rfl ?_
  refine lv_bipush (v := 43) hx hb dX11_init_271 (by decide) ?_
  refine lv_bipush (v := 100) hx hb dX11_init_273 (by decide) ?_
  refine va_iast hx hb hE.1 hP hD hS 2 1 rfl rfl (kr_in (kr_c 43 43 rfl) rfl) dX11_init_275 (fun H locs hP hD hS => ?_)
  obtain ⟨f_46, ef_46⟩ : ∃ z, z = (upd f_45 (Int32.toNatClampNeg 43) 100) := ⟨_, rfl⟩
  rw [← ef_46] at hP hD
  obtain ⟨hP, hD⟩ : kPD D A [kX h (.ref q_1) (.int 0) (.int 0) .null (.int 0) (.int 0) (.int 0) (.int 0) (.int 0) (.int 0) (.int 0) (.int 0) (.int 0) (.int 0) (.int 0) (.int 0) (.int 0) (.int 0) .null .null .null .null .null .null .null .null (.int 0) .null (.int 0) (.int 0) .null .null .null .null (.int 0) (.int 0) (.int 0) .null (.int 0) (.int 0) (.int 0) (.int 0) .null .null (.long 0) .null, kI cI q_1 700 (fun _ => 0), kI cI q_2 50 f_46] H := ⟨hP, hD⟩
  refine lv_dup hx hb dX11_init_276 rfl ?_
  refine lv_bipush (v := 44) hx hb dX11_init_277 (by decide) ?_
  refine lv_bipush (v := 32) hx hb dX11_init_279 (by decide) ?_
  refine va_iast hx hb hE.1 hP hD hS 2 1 rfl rfl (kr_in (kr_c 44 44 rfl) rfl) dX11_init_281 (fun H locs hP hD hS => ?_)
  obtain ⟨f_47, ef_47⟩ : ∃ z, z = (upd f_46 (Int32.toNatClampNeg 44) 32) := ⟨_, rfl⟩
  rw [← ef_47] at hP hD
  obtain ⟨hP, hD⟩ : kPD D A [kX h (.ref q_1) (.int 0) (.int 0) .null (.int 0) (.int 0) (.int 0) (.int 0) (.int 0) (.int 0) (.int 0) (.int 0) (.int 0) (.int 0) (.int 0) (.int 0) (.int 0) (.int 0) .null .null .null .null .null .null .null .null (.int 0) .null (.int 0) (.int 0) .null .null .null .null (.int 0) (.int 0) (.int 0) .null (.int 0) (.int 0) (.int 0) (.int 0) .null .null (.long 0) .null, kI cI q_1 700 (fun _ => 0), kI cI q_2 50 f_47] H := ⟨hP, hD⟩
  refine lv_dup hx hb dX11_init_282 rfl ?_
  refine lv_bipush (v := 45) hx hb dX11_init_283 (by decide) ?_
  refine lv_bipush (v := 113) hx hb dX11_init_285 (by decide) ?_
  refine va_iast hx hb hE.1 hP hD hS 2 1 rfl rfl (kr_in (kr_c 45 45 rfl) rfl) dX11_init_287 (fun H locs hP hD hS => ?_)
  obtain ⟨f_48, ef_48⟩ : ∃ z, z = (upd f_47 (Int32.toNatClampNeg 45) 113) := ⟨_, rfl⟩
  rw [← ef_48] at hP hD
  obtain ⟨hP, hD⟩ : kPD D A [kX h (.ref q_1) (.int 0) (.int 0) .null (.int 0) (.int 0) (.int 0) (.int 0) (.int 0) (.int 0) (.int 0) (.int 0) (.int 0) (.int 0) (.int 0) (.int 0) (.int 0) (.int 0) .null .null .null .null .null .null .null .null (.int 0) .null (.int 0) (.int 0) .null .null .null .null (.int 0) (.int 0) (.int 0) .null (.int 0) (.int 0) (.int 0) (.int 0) .null .null (.long 0) .null, kI cI q_1 700 (fun _ => 0), kI cI q_2 50 f_48] H := ⟨hP, hD⟩
  refine lv_dup hx hb dX11_init_288 rfl ?_
  refine lv_bipush (v := 46) hx hb dX11_init_289 (by decide) ?_
  refine lv_bipush (v := 117) hx hb dX11_init_291 (by decide) ?_
  refine va_iast hx hb hE.1 hP hD hS 2 1 rfl rfl (kr_in (kr_c 46 46 rfl) rfl) dX11_init_293 (fun H locs hP hD hS => ?_)
  obtain ⟨f_49, ef_49⟩ : ∃ z, z = (upd f_48 (Int32.toNatClampNeg 46) 117) := ⟨_, rfl⟩
  rw [← ef_49] at hP hD
  obtain ⟨hP, hD⟩ : kPD D A [kX h (.ref q_1) (.int 0) (.int 0) .null (.int 0) (.int 0) (.int 0) (.int 0) (.int 0) (.int 0) (.int 0) (.int 0) (.int 0) (.int 0) (.int 0) (.int 0) (.int 0) (.int 0) .null .null .null .null .null .null .null .null (.int 0) .null (.int 0) (.int 0) .null .null .null .null (.int 0) (.int 0) (.int 0) .null (.int 0) (.int 0) (.int 0) (.int 0) .null .null (.long 0) .null, kI cI q_1 700 (fun _ => 0), kI cI q_2 50 f_49] H := ⟨hP, hD⟩
  refine lv_dup hx hb dX11_init_294 rfl ?_
  refine lv_bipush (v := 47) hx hb dX11_init_295 (by decide) ?_
  refine lv_bipush (v := 105) hx hb dX11_init_297 (by decide) ?_
  refine va_iast hx hb hE.1 hP hD hS 2 1 rfl rfl (kr_in (kr_c 47 47 rfl) rfl) dX11_init_299 (fun H locs hP hD hS => ?_)
  obtain ⟨f_50, ef_50⟩ : ∃ z, z = (upd f_49 (Int32.toNatClampNeg 47) 105) := ⟨_, rfl⟩
  rw [← ef_50] at hP hD
  obtain ⟨hP, hD⟩ : kPD D A [kX h (.ref q_1) (.int 0) (.int 0) .null (.int 0) (.int 0) (.int 0) (.int 0) (.int 0) (.int 0) (.int 0) (.int 0) (.int 0) (.int 0) (.int 0) (.int 0) (.int 0) (.int 0) .null .null .null .null .null .null .null .null (.int 0) .null (.int 0) (.int 0) .null .null .null .null (.int 0) (.int 0) (.int 0) .null (.int 0) (.int 0) (.int 0) (.int 0) .null .null (.long 0) .null, kI cI q_1 700 (fun _ => 0), kI cI q_2 50 f_50] H := ⟨hP, hD⟩
  refine lv_dup hx hb dX11_init_300 rfl ?_
  refine lv_bipush (v := 48) hx hb dX11_init_301 (by decide) ?_
  refine lv_bipush (v := 116) hx hb dX11_init_303 (by decide) ?_
  refine va_iast hx hb hE.1 hP hD hS 2 1 rfl rfl (kr_in (kr_c 48 48 rfl) rfl) dX11_init_305 (fun H locs hP hD hS => ?_)
  obtain ⟨f_51, ef_51⟩ : ∃ z, z = (upd f_50 (Int32.toNatClampNeg 48) 116) := ⟨_, rfl⟩
  rw [← ef_51] at hP hD
  obtain ⟨hP, hD⟩ : kPD D A [kX h (.ref q_1) (.int 0) (.int 0) .null (.int 0) (.int 0) (.int 0) (.int 0) (.int 0) (.int 0) (.int 0) (.int 0) (.int 0) (.int 0) (.int 0) (.int 0) (.int 0) (.int 0) .null .null .null .null .null .null .null .null (.int 0) .null (.int 0) (.int 0) .null .null .null .null (.int 0) (.int 0) (.int 0) .null (.int 0) (.int 0) (.int 0) (.int 0) .null .null (.long 0) .null, kI cI q_1 700 (fun _ => 0), kI cI q_2 50 f_51] H := ⟨hP, hD⟩
  refine lv_dup hx hb dX11_init_306 rfl ?_
  refine lv_bipush (v := 49) hx hb dX11_init_307 (by decide) ?_
  refine lv_bipush (v := 32) hx hb dX11_init_309 (by decide) ?_
  refine va_iast hx hb hE.1 hP hD hS 2 1 rfl rfl (kr_in (kr_c 49 49 rfl) rfl) dX11_init_311 (fun H locs hP hD hS => ?_)
  obtain ⟨f_52, ef_52⟩ : ∃ z, z = (upd f_51 (Int32.toNatClampNeg 49) 32) := ⟨_, rfl⟩
  rw [← ef_52] at hP hD
  obtain ⟨hP, hD⟩ : kPD D A [kX h (.ref q_1) (.int 0) (.int 0) .null (.int 0) (.int 0) (.int 0) (.int 0) (.int 0) (.int 0) (.int 0) (.int 0) (.int 0) (.int 0) (.int 0) (.int 0) (.int 0) (.int 0) .null .null .null .null .null .null .null .null (.int 0) .null (.int 0) (.int 0) .null .null .null .null (.int 0) (.int 0) (.int 0) .null (.int 0) (.int 0) (.int 0) (.int 0) .null .null (.long 0) .null, kI cI q_1 700 (fun _ => 0), kI cI q_2 50 f_52] H := ⟨hP, hD⟩
  have qw : f_52 49 = 32 := by rw [ef_52, show Int32.toNatClampNeg 49 = 49 from by decide]; exact pk_us
  refine va_putF (D := D) (ci := 10) (v := .ref q_2) (ty := (.array .int)) (C := RX11) (T := TX11) (N := 46) hx hb hts u_X11 tyX11 tyX11_ok nmX11 hown hE.1 hP hD hS 0 rfl rfl 3 (by decide) (hts _ w_1304) (fun _ h9 => h9) rfl hin rfl (by decide +kernel) rfl rfl (Nat.le_of_ble_eq_true rfl) dX11_init_312 (fun H locs hP hD hS => ?_)
  obtain ⟨hP, hD⟩ : kPD D A [kX h (.ref q_1) (.int 0) (.int 0) (.ref q_2) (.int 0) (.int 0) (.int 0) (.int 0) (.int 0) (.int 0) (.int 0) (.int 0) (.int 0) (.int 0) (.int 0) (.int 0) (.int 0) (.int 0) .null .null .null .null .null .null .null .null (.int 0) .null (.int 0) (.int 0) .null .null .null .null (.int 0) (.int 0) (.int 0) .null (.int 0) (.int 0) (.int 0) (.int 0) .null .null (.long 0) .null, kI cI q_1 700 (fun _ => 0), kI cI q_2 50 f_52] H := ⟨hP, hD⟩
  refine lv_aload_n hx hb dX11_init_315 rfl (lv_at hl 0 rfl) ?_
  refine lv_iconst (v := (-1)) hx hb dX11_init_316 (by decide) ?_
  refine va_put (D := D) (ci := 10) (v := .int (-1)) (ty := .int) (C := RX11) (T := TX11) (N := 46) hx hb hts u_X11 tyX11 tyX11_ok nmX11 hown hE.1 hP hD hS 0 rfl rfl 5 (by decide) (hts _ w_1306) (fun _ h9 => h9) rfl (by decide +kernel) rfl rfl (Nat.le_of_ble_eq_true rfl) dX11_init_317 (fun H locs hP hD hS => ?_)
  obtain ⟨hP, hD⟩ : kPD D A [kX h (.ref q_1) (.int 0) (.int 0) (.ref q_2) (.int 0) (.int (-1)) (.int 0) (.int 0) (.int 0) (.int 0) (.int 0) (.int 0) (.int 0) (.int 0) (.int 0) (.int 0) (.int 0) (.int 0) .null .null .null .null .null .null .null .null (.int 0) .null (.int 0) (.int 0) .null .null .null .null (.int 0) (.int 0) (.int 0) .null (.int 0) (.int 0) (.int 0) (.int 0) .null .null (.long 0) .null, kI cI q_1 700 (fun _ => 0), kI cI q_2 50 f_52] H := ⟨hP, hD⟩
  refine lv_aload_n hx hb dX11_init_320 rfl (lv_at hl 0 rfl) ?_
  refine lv_bipush (v := 10) hx hb dX11_init_321 (by decide) ?_
  refine kk_newI hx hb hts hE hP hD hS hA 10 (by decide) (by decide) (Nat.le_of_ble_eq_true rfl) (Nat.le_of_ble_eq_true rfl) (Nat.le_of_ble_eq_true rfl) dX11_init_323 (fun q_53 H hP hD hS => ?_)
  obtain ⟨hP, hD⟩ : kPD D A [kX h (.ref q_1) (.int 0) (.int 0) (.ref q_2) (.int 0) (.int (-1)) (.int 0) (.int 0) (.int 0) (.int 0) (.int 0) (.int 0) (.int 0) (.int 0) (.int 0) (.int 0) (.int 0) (.int 0) .null .null .null .null .null .null .null .null (.int 0) .null (.int 0) (.int 0) .null .null .null .null (.int 0) (.int 0) (.int 0) .null (.int 0) (.int 0) (.int 0) (.int 0) .null .null (.long 0) .null, kI cI q_1 700 (fun _ => 0), kI cI q_2 50 f_52, kI cI q_53 10 (fun _ => 0)] H := ⟨hP, hD⟩
  refine va_putF (D := D) (ci := 10) (v := .ref q_53) (ty := (.array .int)) (C := RX11) (T := TX11) (N := 46) hx hb hts u_X11 tyX11 tyX11_ok nmX11 hown hE.1 hP hD hS 0 rfl rfl 18 (by decide) (hts _ w_1319) (fun _ h9 => h9) rfl hin rfl (by decide +kernel) rfl rfl (Nat.le_of_ble_eq_true rfl) dX11_init_325 (fun H locs hP hD hS => ?_)
  obtain ⟨hP, hD⟩ : kPD D A [kX h (.ref q_1) (.int 0) (.int 0) (.ref q_2) (.int 0) (.int (-1)) (.int 0) (.int 0) (.int 0) (.int 0) (.int 0) (.int 0) (.int 0) (.int 0) (.int 0) (.int 0) (.int 0) (.int 0) (.ref q_53) .null .null .null .null .null .null .null (.int 0) .null (.int 0) (.int 0) .null .null .null .null (.int 0) (.int 0) (.int 0) .null (.int 0) (.int 0) (.int 0) (.int 0) .null .null (.long 0) .null, kI cI q_1 700 (fun _ => 0), kI cI q_2 50 f_52, kI cI q_53 10 (fun _ => 0)] H := ⟨hP, hD⟩
  refine lv_aload_n hx hb dX11_init_328 rfl (lv_at hl 0 rfl) ?_
  refine lv_bipush (v := 32) hx hb dX11_init_329 (by decide) ?_
  refine kk_newI hx hb hts hE hP hD hS hA 32 (by decide) (by decide) (Nat.le_of_ble_eq_true rfl) (Nat.le_of_ble_eq_true rfl) (Nat.le_of_ble_eq_true rfl) dX11_init_331 (fun q_54 H hP hD hS => ?_)
  obtain ⟨hP, hD⟩ : kPD D A [kX h (.ref q_1) (.int 0) (.int 0) (.ref q_2) (.int 0) (.int (-1)) (.int 0) (.int 0) (.int 0) (.int 0) (.int 0) (.int 0) (.int 0) (.int 0) (.int 0) (.int 0) (.int 0) (.int 0) (.ref q_53) .null .null .null .null .null .null .null (.int 0) .null (.int 0) (.int 0) .null .null .null .null (.int 0) (.int 0) (.int 0) .null (.int 0) (.int 0) (.int 0) (.int 0) .null .null (.long 0) .null, kI cI q_1 700 (fun _ => 0), kI cI q_2 50 f_52, kI cI q_53 10 (fun _ => 0), kI cI q_54 32 (fun _ => 0)] H := ⟨hP, hD⟩
  refine va_putF (D := D) (ci := 10) (v := .ref q_54) (ty := (.array .int)) (C := RX11) (T := TX11) (N := 46) hx hb hts u_X11 tyX11 tyX11_ok nmX11 hown hE.1 hP hD hS 0 rfl rfl 19 (by decide) (hts _ w_1320) (fun _ h9 => h9) rfl hin rfl (by decide +kernel) rfl rfl (Nat.le_of_ble_eq_true rfl) dX11_init_333 (fun H locs hP hD hS => ?_)
  obtain ⟨hP, hD⟩ : kPD D A [kX h (.ref q_1) (.int 0) (.int 0) (.ref q_2) (.int 0) (.int (-1)) (.int 0) (.int 0) (.int 0) (.int 0) (.int 0) (.int 0) (.int 0) (.int 0) (.int 0) (.int 0) (.int 0) (.int 0) (.ref q_53) (.ref q_54) .null .null .null .null .null .null (.int 0) .null (.int 0) (.int 0) .null .null .null .null (.int 0) (.int 0) (.int 0) .null (.int 0) (.int 0) (.int 0) (.int 0) .null .null (.long 0) .null, kI cI q_1 700 (fun _ => 0), kI cI q_2 50 f_52, kI cI q_53 10 (fun _ => 0), kI cI q_54 32 (fun _ => 0)] H := ⟨hP, hD⟩
  refine lv_aload_n hx hb dX11_init_336 rfl (lv_at hl 0 rfl) ?_
  refine lv_bipush (v := 32) hx hb dX11_init_337 (by decide) ?_
  refine kk_newI hx hb hts hE hP hD hS hA 32 (by decide) (by decide) (Nat.le_of_ble_eq_true rfl) (Nat.le_of_ble_eq_true rfl) (Nat.le_of_ble_eq_true rfl) dX11_init_339 (fun q_55 H hP hD hS => ?_)
  obtain ⟨hP, hD⟩ : kPD D A [kX h (.ref q_1) (.int 0) (.int 0) (.ref q_2) (.int 0) (.int (-1)) (.int 0) (.int 0) (.int 0) (.int 0) (.int 0) (.int 0) (.int 0) (.int 0) (.int 0) (.int 0) (.int 0) (.int 0) (.ref q_53) (.ref q_54) .null .null .null .null .null .null (.int 0) .null (.int 0) (.int 0) .null .null .null .null (.int 0) (.int 0) (.int 0) .null (.int 0) (.int 0) (.int 0) (.int 0) .null .null (.long 0) .null, kI cI q_1 700 (fun _ => 0), kI cI q_2 50 f_52, kI cI q_53 10 (fun _ => 0), kI cI q_54 32 (fun _ => 0), kI cI q_55 32 (fun _ => 0)] H := ⟨hP, hD⟩
  refine va_putF (D := D) (ci := 10) (v := .ref q_55) (ty := (.array .int)) (C := RX11) (T := TX11) (N := 46) hx hb hts u_X11 tyX11 tyX11_ok nmX11 hown hE.1 hP hD hS 0 rfl rfl 20 (by decide) (hts _ w_1321) (fun _ h9 => h9) rfl hin rfl (by decide +kernel) rfl rfl (Nat.le_of_ble_eq_true rfl) dX11_init_341 (fun H locs hP hD hS => ?_)
  obtain ⟨hP, hD⟩ : kPD D A [kX h (.ref q_1) (.int 0) (.int 0) (.ref q_2) (.int 0) (.int (-1)) (.int 0) (.int 0) (.int 0) (.int 0) (.int 0) (.int 0) (.int 0) (.int 0) (.int 0) (.int 0) (.int 0) (.int 0) (.ref q_53) (.ref q_54) (.ref q_55) .null .null .null .null .null (.int 0) .null (.int 0) (.int 0) .null .null .null .null (.int 0) (.int 0) (.int 0) .null (.int 0) (.int 0) (.int 0) (.int 0) .null .null (.long 0) .null, kI cI q_1 700 (fun _ => 0), kI cI q_2 50 f_52, kI cI q_53 10 (fun _ => 0), kI cI q_54 32 (fun _ => 0), kI cI q_55 32 (fun _ => 0)] H := ⟨hP, hD⟩
  refine lv_aload_n hx hb dX11_init_344 rfl (lv_at hl 0 rfl) ?_
  refine lv_bipush (v := 48) hx hb dX11_init_345 (by decide) ?_
  refine kk_newI hx hb hts hE hP hD hS hA 48 (by decide) (by decide) (Nat.le_of_ble_eq_true rfl) (Nat.le_of_ble_eq_true rfl) (Nat.le_of_ble_eq_true rfl) dX11_init_347 (fun q_56 H hP hD hS => ?_)
  obtain ⟨hP, hD⟩ : kPD D A [kX h (.ref q_1) (.int 0) (.int 0) (.ref q_2) (.int 0) (.int (-1)) (.int 0) (.int 0) (.int 0) (.int 0) (.int 0) (.int 0) (.int 0) (.int 0) (.int 0) (.int 0) (.int 0) (.int 0) (.ref q_53) (.ref q_54) (.ref q_55) .null .null .null .null .null (.int 0) .null (.int 0) (.int 0) .null .null .null .null (.int 0) (.int 0) (.int 0) .null (.int 0) (.int 0) (.int 0) (.int 0) .null .null (.long 0) .null, kI cI q_1 700 (fun _ => 0), kI cI q_2 50 f_52, kI cI q_53 10 (fun _ => 0), kI cI q_54 32 (fun _ => 0), kI cI q_55 32 (fun _ => 0), kI cI q_56 48 (fun _ => 0)] H := ⟨hP, hD⟩
  refine va_putF (D := D) (ci := 10) (v := .ref q_56) (ty := (.array .int)) (C := RX11) (T := TX11) (N := 46) hx hb hts u_X11 tyX11 tyX11_ok nmX11 hown hE.1 hP hD hS 0 rfl rfl 21 (by decide) (hts _ w_1322) (fun _ h9 => h9) rfl hin rfl (by decide +kernel) rfl rfl (Nat.le_of_ble_eq_true rfl) dX11_init_349 (fun H locs hP hD hS => ?_)
  obtain ⟨hP, hD⟩ : kPD D A [kX h (.ref q_1) (.int 0) (.int 0) (.ref q_2) (.int 0) (.int (-1)) (.int 0) (.int 0) (.int 0) (.int 0) (.int 0) (.int 0) (.int 0) (.int 0) (.int 0) (.int 0) (.int 0) (.int 0) (.ref q_53) (.ref q_54) (.ref q_55) (.ref q_56) .null .null .null .null (.int 0) .null (.int 0) (.int 0) .null .null .null .null (.int 0) (.int 0) (.int 0) .null (.int 0) (.int 0) (.int 0) (.int 0) .null .null (.long 0) .null, kI cI q_1 700 (fun _ => 0), kI cI q_2 50 f_52, kI cI q_53 10 (fun _ => 0), kI cI q_54 32 (fun _ => 0), kI cI q_55 32 (fun _ => 0), kI cI q_56 48 (fun _ => 0)] H := ⟨hP, hD⟩
  refine lv_aload_n hx hb dX11_init_352 rfl (lv_at hl 0 rfl) ?_
  refine lv_bipush (v := 48) hx hb dX11_init_353 (by decide) ?_
  refine kk_newI hx hb hts hE hP hD hS hA 48 (by decide) (by decide) (Nat.le_of_ble_eq_true rfl) (Nat.le_of_ble_eq_true rfl) (Nat.le_of_ble_eq_true rfl) dX11_init_355 (fun q_57 H hP hD hS => ?_)
  obtain ⟨hP, hD⟩ : kPD D A [kX h (.ref q_1) (.int 0) (.int 0) (.ref q_2) (.int 0) (.int (-1)) (.int 0) (.int 0) (.int 0) (.int 0) (.int 0) (.int 0) (.int 0) (.int 0) (.int 0) (.int 0) (.int 0) (.int 0) (.ref q_53) (.ref q_54) (.ref q_55) (.ref q_56) .null .null .null .null (.int 0) .null (.int 0) (.int 0) .null .null .null .null (.int 0) (.int 0) (.int 0) .null (.int 0) (.int 0) (.int 0) (.int 0) .null .null (.long 0) .null, kI cI q_1 700 (fun _ => 0), kI cI q_2 50 f_52, kI cI q_53 10 (fun _ => 0), kI cI q_54 32 (fun _ => 0), kI cI q_55 32 (fun _ => 0), kI cI q_56 48 (fun _ => 0), kI cI q_57 48 (fun _ => 0)] H := ⟨hP, hD⟩
  refine va_putF (D := D) (ci := 10) (v := .ref q_57) (ty := (.array .int)) (C := RX11) (T := TX11) (N := 46) hx hb hts u_X11 tyX11 tyX11_ok nmX11 hown hE.1 hP hD hS 0 rfl rfl 22 (by decide) (hts _ w_1323) (fun _ h9 => h9) rfl hin rfl (by decide +kernel) rfl rfl (Nat.le_of_ble_eq_true rfl) dX11_init_357 (fun H locs hP hD hS => ?_)
  obtain ⟨hP, hD⟩ : kPD D A [kX h (.ref q_1) (.int 0) (.int 0) (.ref q_2) (.int 0) (.int (-1)) (.int 0) (.int 0) (.int 0) (.int 0) (.int 0) (.int 0) (.int 0) (.int 0) (.int 0) (.int 0) (.int 0) (.int 0) (.ref q_53) (.ref q_54) (.ref q_55) (.ref q_56) (.ref q_57) .null .null .null (.int 0) .null (.int 0) (.int 0) .null .null .null .null (.int 0) (.int 0) (.int 0) .null (.int 0) (.int 0) (.int 0) (.int 0) .null .null (.long 0) .null, kI cI q_1 700 (fun _ => 0), kI cI q_2 50 f_52, kI cI q_53 10 (fun _ => 0), kI cI q_54 32 (fun _ => 0), kI cI q_55 32 (fun _ => 0), kI cI q_56 48 (fun _ => 0), kI cI q_57 48 (fun _ => 0)] H := ⟨hP, hD⟩
  refine lv_aload_n hx hb dX11_init_360 rfl (lv_at hl 0 rfl) ?_
  refine lv_bipush (v := 48) hx hb dX11_init_361 (by decide) ?_
  refine kk_newI hx hb hts hE hP hD hS hA 48 (by decide) (by decide) (Nat.le_of_ble_eq_true rfl) (Nat.le_of_ble_eq_true rfl) (Nat.le_of_ble_eq_true rfl) dX11_init_363 (fun q_58 H hP hD hS => ?_)
  obtain ⟨hP, hD⟩ : kPD D A [kX h (.ref q_1) (.int 0) (.int 0) (.ref q_2) (.int 0) (.int (-1)) (.int 0) (.int 0) (.int 0) (.int 0) (.int 0) (.int 0) (.int 0) (.int 0) (.int 0) (.int 0) (.int 0) (.int 0) (.ref q_53) (.ref q_54) (.ref q_55) (.ref q_56) (.ref q_57) .null .null .null (.int 0) .null (.int 0) (.int 0) .null .null .null .null (.int 0) (.int 0) (.int 0) .null (.int 0) (.int 0) (.int 0) (.int 0) .null .null (.long 0) .null, kI cI q_1 700 (fun _ => 0), kI cI q_2 50 f_52, kI cI q_53 10 (fun _ => 0), kI cI q_54 32 (fun _ => 0), kI cI q_55 32 (fun _ => 0), kI cI q_56 48 (fun _ => 0), kI cI q_57 48 (fun _ => 0), kI cI q_58 48 (fun _ => 0)] H := ⟨hP, hD⟩
  refine va_putF (D := D) (ci := 10) (v := .ref q_58) (ty := (.array .int)) (C := RX11) (T := TX11) (N := 46) hx hb hts u_X11 tyX11 tyX11_ok nmX11 hown hE.1 hP hD hS 0 rfl rfl 23 (by decide) (hts _ w_1324) (fun _ h9 => h9) rfl hin rfl (by decide +kernel) rfl rfl (Nat.le_of_ble_eq_true rfl) dX11_init_365 (fun H locs hP hD hS => ?_)
  obtain ⟨hP, hD⟩ : kPD D A [kX h (.ref q_1) (.int 0) (.int 0) (.ref q_2) (.int 0) (.int (-1)) (.int 0) (.int 0) (.int 0) (.int 0) (.int 0) (.int 0) (.int 0) (.int 0) (.int 0) (.int 0) (.int 0) (.int 0) (.ref q_53) (.ref q_54) (.ref q_55) (.ref q_56) (.ref q_57) (.ref q_58) .null .null (.int 0) .null (.int 0) (.int 0) .null .null .null .null (.int 0) (.int 0) (.int 0) .null (.int 0) (.int 0) (.int 0) (.int 0) .null .null (.long 0) .null, kI cI q_1 700 (fun _ => 0), kI cI q_2 50 f_52, kI cI q_53 10 (fun _ => 0), kI cI q_54 32 (fun _ => 0), kI cI q_55 32 (fun _ => 0), kI cI q_56 48 (fun _ => 0), kI cI q_57 48 (fun _ => 0), kI cI q_58 48 (fun _ => 0)] H := ⟨hP, hD⟩
  refine lv_aload_n hx hb dX11_init_368 rfl (lv_at hl 0 rfl) ?_
  refine lv_bipush (v := 48) hx hb dX11_init_369 (by decide) ?_
  refine kk_newI hx hb hts hE hP hD hS hA 48 (by decide) (by decide) (Nat.le_of_ble_eq_true rfl) (Nat.le_of_ble_eq_true rfl) (Nat.le_of_ble_eq_true rfl) dX11_init_371 (fun q_59 H hP hD hS => ?_)
  obtain ⟨hP, hD⟩ : kPD D A [kX h (.ref q_1) (.int 0) (.int 0) (.ref q_2) (.int 0) (.int (-1)) (.int 0) (.int 0) (.int 0) (.int 0) (.int 0) (.int 0) (.int 0) (.int 0) (.int 0) (.int 0) (.int 0) (.int 0) (.ref q_53) (.ref q_54) (.ref q_55) (.ref q_56) (.ref q_57) (.ref q_58) .null .null (.int 0) .null (.int 0) (.int 0) .null .null .null .null (.int 0) (.int 0) (.int 0) .null (.int 0) (.int 0) (.int 0) (.int 0) .null .null (.long 0) .null, kI cI q_1 700 (fun _ => 0), kI cI q_2 50 f_52, kI cI q_53 10 (fun _ => 0), kI cI q_54 32 (fun _ => 0), kI cI q_55 32 (fun _ => 0), kI cI q_56 48 (fun _ => 0), kI cI q_57 48 (fun _ => 0), kI cI q_58 48 (fun _ => 0), kI cI q_59 48 (fun _ => 0)] H := ⟨hP, hD⟩
  refine va_putF (D := D) (ci := 10) (v := .ref q_59) (ty := (.array .int)) (C := RX11) (T := TX11) (N := 46) hx hb hts u_X11 tyX11 tyX11_ok nmX11 hown hE.1 hP hD hS 0 rfl rfl 24 (by decide) (hts _ w_1325) (fun _ h9 => h9) rfl hin rfl (by decide +kernel) rfl rfl (Nat.le_of_ble_eq_true rfl) dX11_init_373 (fun H locs hP hD hS => ?_)
  obtain ⟨hP, hD⟩ : kPD D A [kX h (.ref q_1) (.int 0) (.int 0) (.ref q_2) (.int 0) (.int (-1)) (.int 0) (.int 0) (.int 0) (.int 0) (.int 0) (.int 0) (.int 0) (.int 0) (.int 0) (.int 0) (.int 0) (.int 0) (.ref q_53) (.ref q_54) (.ref q_55) (.ref q_56) (.ref q_57) (.ref q_58) (.ref q_59) .null (.int 0) .null (.int 0) (.int 0) .null .null .null .null (.int 0) (.int 0) (.int 0) .null (.int 0) (.int 0) (.int 0) (.int 0) .null .null (.long 0) .null, kI cI q_1 700 (fun _ => 0), kI cI q_2 50 f_52, kI cI q_53 10 (fun _ => 0), kI cI q_54 32 (fun _ => 0), kI cI q_55 32 (fun _ => 0), kI cI q_56 48 (fun _ => 0), kI cI q_57 48 (fun _ => 0), kI cI q_58 48 (fun _ => 0), kI cI q_59 48 (fun _ => 0)] H := ⟨hP, hD⟩
  refine lv_aload_n hx hb dX11_init_376 rfl (lv_at hl 0 rfl) ?_
  refine lv_bipush (v := 48) hx hb dX11_init_377 (by decide) ?_
  refine kk_newI hx hb hts hE hP hD hS hA 48 (by decide) (by decide) (Nat.le_of_ble_eq_true rfl) (Nat.le_of_ble_eq_true rfl) (Nat.le_of_ble_eq_true rfl) dX11_init_379 (fun q_60 H hP hD hS => ?_)
  obtain ⟨hP, hD⟩ : kPD D A [kX h (.ref q_1) (.int 0) (.int 0) (.ref q_2) (.int 0) (.int (-1)) (.int 0) (.int 0) (.int 0) (.int 0) (.int 0) (.int 0) (.int 0) (.int 0) (.int 0) (.int 0) (.int 0) (.int 0) (.ref q_53) (.ref q_54) (.ref q_55) (.ref q_56) (.ref q_57) (.ref q_58) (.ref q_59) .null (.int 0) .null (.int 0) (.int 0) .null .null .null .null (.int 0) (.int 0) (.int 0) .null (.int 0) (.int 0) (.int 0) (.int 0) .null .null (.long 0) .null, kI cI q_1 700 (fun _ => 0), kI cI q_2 50 f_52, kI cI q_53 10 (fun _ => 0), kI cI q_54 32 (fun _ => 0), kI cI q_55 32 (fun _ => 0), kI cI q_56 48 (fun _ => 0), kI cI q_57 48 (fun _ => 0), kI cI q_58 48 (fun _ => 0), kI cI q_59 48 (fun _ => 0), kI cI q_60 48 (fun _ => 0)] H := ⟨hP, hD⟩
  refine va_putF (D := D) (ci := 10) (v := .ref q_60) (ty := (.array .int)) (C := RX11) (T := TX11) (N := 46) hx hb hts u_X11 tyX11 tyX11_ok nmX11 hown hE.1 hP hD hS 0 rfl rfl 25 (by decide) (hts _ w_1326) (fun _ h9 => h9) rfl hin rfl (by decide +kernel) rfl rfl (Nat.le_of_ble_eq_true rfl) dX11_init_381 (fun H locs hP hD hS => ?_)
  obtain ⟨hP, hD⟩ : kPD D A [kX h (.ref q_1) (.int 0) (.int 0) (.ref q_2) (.int 0) (.int (-1)) (.int 0) (.int 0) (.int 0) (.int 0) (.int 0) (.int 0) (.int 0) (.int 0) (.int 0) (.int 0) (.int 0) (.int 0) (.ref q_53) (.ref q_54) (.ref q_55) (.ref q_56) (.ref q_57) (.ref q_58) (.ref q_59) (.ref q_60) (.int 0) .null (.int 0) (.int 0) .null .null .null .null (.int 0) (.int 0) (.int 0) .null (.int 0) (.int 0) (.int 0) (.int 0) .null .null (.long 0) .null, kI cI q_1 700 (fun _ => 0), kI cI q_2 50 f_52, kI cI q_53 10 (fun _ => 0), kI cI q_54 32 (fun _ => 0), kI cI q_55 32 (fun _ => 0), kI cI q_56 48 (fun _ => 0), kI cI q_57 48 (fun _ => 0), kI cI q_58 48 (fun _ => 0), kI cI q_59 48 (fun _ => 0), kI cI q_60 48 (fun _ => 0)] H := ⟨hP, hD⟩
  refine lv_aload_n hx hb dX11_init_384 rfl (lv_at hl 0 rfl) ?_
  refine lv_sipush (v := 5760) hx hb dX11_init_385 (by decide) ?_
  refine kk_newI hx hb hts hE hP hD hS hA 5760 (by decide) (by decide) (Nat.le_of_ble_eq_true rfl) (Nat.le_of_ble_eq_true rfl) (Nat.le_of_ble_eq_true rfl) dX11_init_388 (fun q_61 H hP hD hS => ?_)
  obtain ⟨hP, hD⟩ : kPD D A [kX h (.ref q_1) (.int 0) (.int 0) (.ref q_2) (.int 0) (.int (-1)) (.int 0) (.int 0) (.int 0) (.int 0) (.int 0) (.int 0) (.int 0) (.int 0) (.int 0) (.int 0) (.int 0) (.int 0) (.ref q_53) (.ref q_54) (.ref q_55) (.ref q_56) (.ref q_57) (.ref q_58) (.ref q_59) (.ref q_60) (.int 0) .null (.int 0) (.int 0) .null .null .null .null (.int 0) (.int 0) (.int 0) .null (.int 0) (.int 0) (.int 0) (.int 0) .null .null (.long 0) .null, kI cI q_1 700 (fun _ => 0), kI cI q_2 50 f_52, kI cI q_53 10 (fun _ => 0), kI cI q_54 32 (fun _ => 0), kI cI q_55 32 (fun _ => 0), kI cI q_56 48 (fun _ => 0), kI cI q_57 48 (fun _ => 0), kI cI q_58 48 (fun _ => 0), kI cI q_59 48 (fun _ => 0), kI cI q_60 48 (fun _ => 0), kI cI q_61 5760 (fun _ => 0)] H := ⟨hP, hD⟩
  refine va_putF (D := D) (ci := 10) (v := .ref q_61) (ty := (.array .int)) (C := RX11) (T := TX11) (N := 46) hx hb hts u_X11 tyX11 tyX11_ok nmX11 hown hE.1 hP hD hS 0 rfl rfl 27 (by decide) (hts _ w_1328) (fun _ h9 => h9) rfl hin rfl (by decide +kernel) rfl rfl (Nat.le_of_ble_eq_true rfl) dX11_init_390 (fun H locs hP hD hS => ?_)
  obtain ⟨hP, hD⟩ : kPD D A [kX h (.ref q_1) (.int 0) (.int 0) (.ref q_2) (.int 0) (.int (-1)) (.int 0) (.int 0) (.int 0) (.int 0) (.int 0) (.int 0) (.int 0) (.int 0) (.int 0) (.int 0) (.int 0) (.int 0) (.ref q_53) (.ref q_54) (.ref q_55) (.ref q_56) (.ref q_57) (.ref q_58) (.ref q_59) (.ref q_60) (.int 0) (.ref q_61) (.int 0) (.int 0) .null .null .null .null (.int 0) (.int 0) (.int 0) .null (.int 0) (.int 0) (.int 0) (.int 0) .null .null (.long 0) .null, kI cI q_1 700 (fun _ => 0), kI cI q_2 50 f_52, kI cI q_53 10 (fun _ => 0), kI cI q_54 32 (fun _ => 0), kI cI q_55 32 (fun _ => 0), kI cI q_56 48 (fun _ => 0), kI cI q_57 48 (fun _ => 0), kI cI q_58 48 (fun _ => 0), kI cI q_59 48 (fun _ => 0), kI cI q_60 48 (fun _ => 0), kI cI q_61 5760 (fun _ => 0)] H := ⟨hP, hD⟩
  refine lv_aload_n hx hb dX11_init_393 rfl (lv_at hl 0 rfl) ?_
  refine lv_sipush (v := 1200) hx hb dX11_init_394 (by decide) ?_
  refine kk_newI hx hb hts hE hP hD hS hA 1200 (by decide) (by decide) (Nat.le_of_ble_eq_true rfl) (Nat.le_of_ble_eq_true rfl) (Nat.le_of_ble_eq_true rfl) dX11_init_397 (fun q_62 H hP hD hS => ?_)
  obtain ⟨hP, hD⟩ : kPD D A [kX h (.ref q_1) (.int 0) (.int 0) (.ref q_2) (.int 0) (.int (-1)) (.int 0) (.int 0) (.int 0) (.int 0) (.int 0) (.int 0) (.int 0) (.int 0) (.int 0) (.int 0) (.int 0) (.int 0) (.ref q_53) (.ref q_54) (.ref q_55) (.ref q_56) (.ref q_57) (.ref q_58) (.ref q_59) (.ref q_60) (.int 0) (.ref q_61) (.int 0) (.int 0) .null .null .null .null (.int 0) (.int 0) (.int 0) .null (.int 0) (.int 0) (.int 0) (.int 0) .null .null (.long 0) .null, kI cI q_1 700 (fun _ => 0), kI cI q_2 50 f_52, kI cI q_53 10 (fun _ => 0), kI cI q_54 32 (fun _ => 0), kI cI q_55 32 (fun _ => 0), kI cI q_56 48 (fun _ => 0), kI cI q_57 48 (fun _ => 0), kI cI q_58 48 (fun _ => 0), kI cI q_59 48 (fun _ => 0), kI cI q_60 48 (fun _ => 0), kI cI q_61 5760 (fun _ => 0), kI cI q_62 1200 (fun _ => 0)] H := ⟨hP, hD⟩
  refine va_putF (D := D) (ci := 10) (v := .ref q_62) (ty := (.array .int)) (C := RX11) (T := TX11) (N := 46) hx hb hts u_X11 tyX11 tyX11_ok nmX11 hown hE.1 hP hD hS 0 rfl rfl 30 (by decide) (hts _ w_1331) (fun _ h9 => h9) rfl hin rfl (by decide +kernel) rfl rfl (Nat.le_of_ble_eq_true rfl) dX11_init_399 (fun H locs hP hD hS => ?_)
  obtain ⟨hP, hD⟩ : kPD D A [kX h (.ref q_1) (.int 0) (.int 0) (.ref q_2) (.int 0) (.int (-1)) (.int 0) (.int 0) (.int 0) (.int 0) (.int 0) (.int 0) (.int 0) (.int 0) (.int 0) (.int 0) (.int 0) (.int 0) (.ref q_53) (.ref q_54) (.ref q_55) (.ref q_56) (.ref q_57) (.ref q_58) (.ref q_59) (.ref q_60) (.int 0) (.ref q_61) (.int 0) (.int 0) (.ref q_62) .null .null .null (.int 0) (.int 0) (.int 0) .null (.int 0) (.int 0) (.int 0) (.int 0) .null .null (.long 0) .null, kI cI q_1 700 (fun _ => 0), kI cI q_2 50 f_52, kI cI q_53 10 (fun _ => 0), kI cI q_54 32 (fun _ => 0), kI cI q_55 32 (fun _ => 0), kI cI q_56 48 (fun _ => 0), kI cI q_57 48 (fun _ => 0), kI cI q_58 48 (fun _ => 0), kI cI q_59 48 (fun _ => 0), kI cI q_60 48 (fun _ => 0), kI cI q_61 5760 (fun _ => 0), kI cI q_62 1200 (fun _ => 0)] H := ⟨hP, hD⟩
  refine lv_aload_n hx hb dX11_init_402 rfl (lv_at hl 0 rfl) ?_
  refine lv_sipush (v := 1200) hx hb dX11_init_403 (by decide) ?_
  refine kk_newI hx hb hts hE hP hD hS hA 1200 (by decide) (by decide) (Nat.le_of_ble_eq_true rfl) (Nat.le_of_ble_eq_true rfl) (Nat.le_of_ble_eq_true rfl) dX11_init_406 (fun q_63 H hP hD hS => ?_)
  obtain ⟨hP, hD⟩ : kPD D A [kX h (.ref q_1) (.int 0) (.int 0) (.ref q_2) (.int 0) (.int (-1)) (.int 0) (.int 0) (.int 0) (.int 0) (.int 0) (.int 0) (.int 0) (.int 0) (.int 0) (.int 0) (.int 0) (.int 0) (.ref q_53) (.ref q_54) (.ref q_55) (.ref q_56) (.ref q_57) (.ref q_58) (.ref q_59) (.ref q_60) (.int 0) (.ref q_61) (.int 0) (.int 0) (.ref q_62) .null .null .null (.int 0) (.int 0) (.int 0) .null (.int 0) (.int 0) (.int 0) (.int 0) .null .null (.long 0) .null, kI cI q_1 700 (fun _ => 0), kI cI q_2 50 f_52, kI cI q_53 10 (fun _ => 0), kI cI q_54 32 (fun _ => 0), kI cI q_55 32 (fun _ => 0), kI cI q_56 48 (fun _ => 0), kI cI q_57 48 (fun _ => 0), kI cI q_58 48 (fun _ => 0), kI cI q_59 48 (fun _ => 0), kI cI q_60 48 (fun _ => 0), kI cI q_61 5760 (fun _ => 0), kI cI q_62 1200 (fun _ => 0), kI cI q_63 1200 (fun _ => 0)] H := ⟨hP, hD⟩
  refine va_putF (D := D) (ci := 10) (v := .ref q_63) (ty := (.array .int)) (C := RX11) (T := TX11) (N := 46) hx hb hts u_X11 tyX11 tyX11_ok nmX11 hown hE.1 hP hD hS 0 rfl rfl 31 (by decide) (hts _ w_1332) (fun _ h9 => h9) rfl hin rfl (by decide +kernel) rfl rfl (Nat.le_of_ble_eq_true rfl) dX11_init_408 (fun H locs hP hD hS => ?_)
  obtain ⟨hP, hD⟩ : kPD D A [kX h (.ref q_1) (.int 0) (.int 0) (.ref q_2) (.int 0) (.int (-1)) (.int 0) (.int 0) (.int 0) (.int 0) (.int 0) (.int 0) (.int 0) (.int 0) (.int 0) (.int 0) (.int 0) (.int 0) (.ref q_53) (.ref q_54) (.ref q_55) (.ref q_56) (.ref q_57) (.ref q_58) (.ref q_59) (.ref q_60) (.int 0) (.ref q_61) (.int 0) (.int 0) (.ref q_62) (.ref q_63) .null .null (.int 0) (.int 0) (.int 0) .null (.int 0) (.int 0) (.int 0) (.int 0) .null .null (.long 0) .null, kI cI q_1 700 (fun _ => 0), kI cI q_2 50 f_52, kI cI q_53 10 (fun _ => 0), kI cI q_54 32 (fun _ => 0), kI cI q_55 32 (fun _ => 0), kI cI q_56 48 (fun _ => 0), kI cI q_57 48 (fun _ => 0), kI cI q_58 48 (fun _ => 0), kI cI q_59 48 (fun _ => 0), kI cI q_60 48 (fun _ => 0), kI cI q_61 5760 (fun _ => 0), kI cI q_62 1200 (fun _ => 0), kI cI q_63 1200 (fun _ => 0)] H := ⟨hP, hD⟩
  refine lv_aload_n hx hb dX11_init_411 rfl (lv_at hl 0 rfl) ?_
  refine lv_sipush (v := 1200) hx hb dX11_init_412 (by decide) ?_
  refine kk_newI hx hb hts hE hP hD hS hA 1200 (by decide) (by decide) (Nat.le_of_ble_eq_true rfl) (Nat.le_of_ble_eq_true rfl) (Nat.le_of_ble_eq_true rfl) dX11_init_415 (fun q_64 H hP hD hS => ?_)
  obtain ⟨hP, hD⟩ : kPD D A [kX h (.ref q_1) (.int 0) (.int 0) (.ref q_2) (.int 0) (.int (-1)) (.int 0) (.int 0) (.int 0) (.int 0) (.int 0) (.int 0) (.int 0) (.int 0) (.int 0) (.int 0) (.int 0) (.int 0) (.ref q_53) (.ref q_54) (.ref q_55) (.ref q_56) (.ref q_57) (.ref q_58) (.ref q_59) (.ref q_60) (.int 0) (.ref q_61) (.int 0) (.int 0) (.ref q_62) (.ref q_63) .null .null (.int 0) (.int 0) (.int 0) .null (.int 0) (.int 0) (.int 0) (.int 0) .null .null (.long 0) .null, kI cI q_1 700 (fun _ => 0), kI cI q_2 50 f_52, kI cI q_53 10 (fun _ => 0), kI cI q_54 32 (fun _ => 0), kI cI q_55 32 (fun _ => 0), kI cI q_56 48 (fun _ => 0), kI cI q_57 48 (fun _ => 0), kI cI q_58 48 (fun _ => 0), kI cI q_59 48 (fun _ => 0), kI cI q_60 48 (fun _ => 0), kI cI q_61 5760 (fun _ => 0), kI cI q_62 1200 (fun _ => 0), kI cI q_63 1200 (fun _ => 0), kI cI q_64 1200 (fun _ => 0)] H := ⟨hP, hD⟩
  refine va_putF (D := D) (ci := 10) (v := .ref q_64) (ty := (.array .int)) (C := RX11) (T := TX11) (N := 46) hx hb hts u_X11 tyX11 tyX11_ok nmX11 hown hE.1 hP hD hS 0 rfl rfl 32 (by decide) (hts _ w_1333) (fun _ h9 => h9) rfl hin rfl (by decide +kernel) rfl rfl (Nat.le_of_ble_eq_true rfl) dX11_init_417 (fun H locs hP hD hS => ?_)
  obtain ⟨hP, hD⟩ : kPD D A [kX h (.ref q_1) (.int 0) (.int 0) (.ref q_2) (.int 0) (.int (-1)) (.int 0) (.int 0) (.int 0) (.int 0) (.int 0) (.int 0) (.int 0) (.int 0) (.int 0) (.int 0) (.int 0) (.int 0) (.ref q_53) (.ref q_54) (.ref q_55) (.ref q_56) (.ref q_57) (.ref q_58) (.ref q_59) (.ref q_60) (.int 0) (.ref q_61) (.int 0) (.int 0) (.ref q_62) (.ref q_63) (.ref q_64) .null (.int 0) (.int 0) (.int 0) .null (.int 0) (.int 0) (.int 0) (.int 0) .null .null (.long 0) .null, kI cI q_1 700 (fun _ => 0), kI cI q_2 50 f_52, kI cI q_53 10 (fun _ => 0), kI cI q_54 32 (fun _ => 0), kI cI q_55 32 (fun _ => 0), kI cI q_56 48 (fun _ => 0), kI cI q_57 48 (fun _ => 0), kI cI q_58 48 (fun _ => 0), kI cI q_59 48 (fun _ => 0), kI cI q_60 48 (fun _ => 0), kI cI q_61 5760 (fun _ => 0), kI cI q_62 1200 (fun _ => 0), kI cI q_63 1200 (fun _ => 0), kI cI q_64 1200 (fun _ => 0)] H := ⟨hP, hD⟩
  refine lv_aload_n hx hb dX11_init_420 rfl (lv_at hl 0 rfl) ?_
  refine lv_sipush (v := 1200) hx hb dX11_init_421 (by decide) ?_
  refine kk_newI hx hb hts hE hP hD hS hA 1200 (by decide) (by decide) (Nat.le_of_ble_eq_true rfl) (Nat.le_of_ble_eq_true rfl) (Nat.le_of_ble_eq_true rfl) dX11_init_424 (fun q_65 H hP hD hS => ?_)
  obtain ⟨hP, hD⟩ : kPD D A [kX h (.ref q_1) (.int 0) (.int 0) (.ref q_2) (.int 0) (.int (-1)) (.int 0) (.int 0) (.int 0) (.int 0) (.int 0) (.int 0) (.int 0) (.int 0) (.int 0) (.int 0) (.int 0) (.int 0) (.ref q_53) (.ref q_54) (.ref q_55) (.ref q_56) (.ref q_57) (.ref q_58) (.ref q_59) (.ref q_60) (.int 0) (.ref q_61) (.int 0) (.int 0) (.ref q_62) (.ref q_63) (.ref q_64) .null (.int 0) (.int 0) (.int 0) .null (.int 0) (.int 0) (.int 0) (.int 0) .null .null (.long 0) .null, kI cI q_1 700 (fun _ => 0), kI cI q_2 50 f_52, kI cI q_53 10 (fun _ => 0), kI cI q_54 32 (fun _ => 0), kI cI q_55 32 (fun _ => 0), kI cI q_56 48 (fun _ => 0), kI cI q_57 48 (fun _ => 0), kI cI q_58 48 (fun _ => 0), kI cI q_59 48 (fun _ => 0), kI cI q_60 48 (fun _ => 0), kI cI q_61 5760 (fun _ => 0), kI cI q_62 1200 (fun _ => 0), kI cI q_63 1200 (fun _ => 0), kI cI q_64 1200 (fun _ => 0), kI cI q_65 1200 (fun _ => 0)] H := ⟨hP, hD⟩
  refine va_putF (D := D) (ci := 10) (v := .ref q_65) (ty := (.array .int)) (C := RX11) (T := TX11) (N := 46) hx hb hts u_X11 tyX11 tyX11_ok nmX11 hown hE.1 hP hD hS 0 rfl rfl 33 (by decide) (hts _ w_1334) (fun _ h9 => h9) rfl hin rfl (by decide +kernel) rfl rfl (Nat.le_of_ble_eq_true rfl) dX11_init_426 (fun H locs hP hD hS => ?_)
  obtain ⟨hP, hD⟩ : kPD D A [kX h (.ref q_1) (.int 0) (.int 0) (.ref q_2) (.int 0) (.int (-1)) (.int 0) (.int 0) (.int 0) (.int 0) (.int 0) (.int 0) (.int 0) (.int 0) (.int 0) (.int 0) (.int 0) (.int 0) (.ref q_53) (.ref q_54) (.ref q_55) (.ref q_56) (.ref q_57) (.ref q_58) (.ref q_59) (.ref q_60) (.int 0) (.ref q_61) (.int 0) (.int 0) (.ref q_62) (.ref q_63) (.ref q_64) (.ref q_65) (.int 0) (.int 0) (.int 0) .null (.int 0) (.int 0) (.int 0) (.int 0) .null .null (.long 0) .null, kI cI q_1 700 (fun _ => 0), kI cI q_2 50 f_52, kI cI q_53 10 (fun _ => 0), kI cI q_54 32 (fun _ => 0), kI cI q_55 32 (fun _ => 0), kI cI q_56 48 (fun _ => 0), kI cI q_57 48 (fun _ => 0), kI cI q_58 48 (fun _ => 0), kI cI q_59 48 (fun _ => 0), kI cI q_60 48 (fun _ => 0), kI cI q_61 5760 (fun _ => 0), kI cI q_62 1200 (fun _ => 0), kI cI q_63 1200 (fun _ => 0), kI cI q_64 1200 (fun _ => 0), kI cI q_65 1200 (fun _ => 0)] H := ⟨hP, hD⟩
  refine lv_aload_n hx hb dX11_init_429 rfl (lv_at hl 0 rfl) ?_
  refine lv_bipush (v := 24) hx hb dX11_init_430 (by decide) ?_
  refine kk_newI hx hb hts hE hP hD hS hA 24 (by decide) (by decide) (Nat.le_of_ble_eq_true rfl) (Nat.le_of_ble_eq_true rfl) (Nat.le_of_ble_eq_true rfl) dX11_init_432 (fun q_66 H hP hD hS => ?_)
  obtain ⟨hP, hD⟩ : kPD D A [kX h (.ref q_1) (.int 0) (.int 0) (.ref q_2) (.int 0) (.int (-1)) (.int 0) (.int 0) (.int 0) (.int 0) (.int 0) (.int 0) (.int 0) (.int 0) (.int 0) (.int 0) (.int 0) (.int 0) (.ref q_53) (.ref q_54) (.ref q_55) (.ref q_56) (.ref q_57) (.ref q_58) (.ref q_59) (.ref q_60) (.int 0) (.ref q_61) (.int 0) (.int 0) (.ref q_62) (.ref q_63) (.ref q_64) (.ref q_65) (.int 0) (.int 0) (.int 0) .null (.int 0) (.int 0) (.int 0) (.int 0) .null .null (.long 0) .null, kI cI q_1 700 (fun _ => 0), kI cI q_2 50 f_52, kI cI q_53 10 (fun _ => 0), kI cI q_54 32 (fun _ => 0), kI cI q_55 32 (fun _ => 0), kI cI q_56 48 (fun _ => 0), kI cI q_57 48 (fun _ => 0), kI cI q_58 48 (fun _ => 0), kI cI q_59 48 (fun _ => 0), kI cI q_60 48 (fun _ => 0), kI cI q_61 5760 (fun _ => 0), kI cI q_62 1200 (fun _ => 0), kI cI q_63 1200 (fun _ => 0), kI cI q_64 1200 (fun _ => 0), kI cI q_65 1200 (fun _ => 0), kI cI q_66 24 (fun _ => 0)] H := ⟨hP, hD⟩
  refine va_putF (D := D) (ci := 10) (v := .ref q_66) (ty := (.array .int)) (C := RX11) (T := TX11) (N := 46) hx hb hts u_X11 tyX11 tyX11_ok nmX11 hown hE.1 hP hD hS 0 rfl rfl 37 (by decide) (hts _ w_1338) (fun _ h9 => h9) rfl hin rfl (by decide +kernel) rfl rfl (Nat.le_of_ble_eq_true rfl) dX11_init_434 (fun H locs hP hD hS => ?_)
  obtain ⟨hP, hD⟩ : kPD D A [kX h (.ref q_1) (.int 0) (.int 0) (.ref q_2) (.int 0) (.int (-1)) (.int 0) (.int 0) (.int 0) (.int 0) (.int 0) (.int 0) (.int 0) (.int 0) (.int 0) (.int 0) (.int 0) (.int 0) (.ref q_53) (.ref q_54) (.ref q_55) (.ref q_56) (.ref q_57) (.ref q_58) (.ref q_59) (.ref q_60) (.int 0) (.ref q_61) (.int 0) (.int 0) (.ref q_62) (.ref q_63) (.ref q_64) (.ref q_65) (.int 0) (.int 0) (.int 0) (.ref q_66) (.int 0) (.int 0) (.int 0) (.int 0) .null .null (.long 0) .null, kI cI q_1 700 (fun _ => 0), kI cI q_2 50 f_52, kI cI q_53 10 (fun _ => 0), kI cI q_54 32 (fun _ => 0), kI cI q_55 32 (fun _ => 0), kI cI q_56 48 (fun _ => 0), kI cI q_57 48 (fun _ => 0), kI cI q_58 48 (fun _ => 0), kI cI q_59 48 (fun _ => 0), kI cI q_60 48 (fun _ => 0), kI cI q_61 5760 (fun _ => 0), kI cI q_62 1200 (fun _ => 0), kI cI q_63 1200 (fun _ => 0), kI cI q_64 1200 (fun _ => 0), kI cI q_65 1200 (fun _ => 0), kI cI q_66 24 (fun _ => 0)] H := ⟨hP, hD⟩
  refine lv_aload_n hx hb dX11_init_437 rfl (lv_at hl 0 rfl) ?_
  refine lv_bipush (v := 49) hx hb dX11_init_438 (by decide) ?_
  refine kk_newI hx hb hts hE hP hD hS hA 49 (by decide) (by decide) (Nat.le_of_ble_eq_true rfl) (Nat.le_of_ble_eq_true rfl) (Nat.le_of_ble_eq_true rfl) dX11_init_440 (fun q_67 H hP hD hS => ?_)
  obtain ⟨hP, hD⟩ : kPD D A [kX h (.ref q_1) (.int 0) (.int 0) (.ref q_2) (.int 0) (.int (-1)) (.int 0) (.int 0) (.int 0) (.int 0) (.int 0) (.int 0) (.int 0) (.int 0) (.int 0) (.int 0) (.int 0) (.int 0) (.ref q_53) (.ref q_54) (.ref q_55) (.ref q_56) (.ref q_57) (.ref q_58) (.ref q_59) (.ref q_60) (.int 0) (.ref q_61) (.int 0) (.int 0) (.ref q_62) (.ref q_63) (.ref q_64) (.ref q_65) (.int 0) (.int 0) (.int 0) (.ref q_66) (.int 0) (.int 0) (.int 0) (.int 0) .null .null (.long 0) .null, kI cI q_1 700 (fun _ => 0), kI cI q_2 50 f_52, kI cI q_53 10 (fun _ => 0), kI cI q_54 32 (fun _ => 0), kI cI q_55 32 (fun _ => 0), kI cI q_56 48 (fun _ => 0), kI cI q_57 48 (fun _ => 0), kI cI q_58 48 (fun _ => 0), kI cI q_59 48 (fun _ => 0), kI cI q_60 48 (fun _ => 0), kI cI q_61 5760 (fun _ => 0), kI cI q_62 1200 (fun _ => 0), kI cI q_63 1200 (fun _ => 0), kI cI q_64 1200 (fun _ => 0), kI cI q_65 1200 (fun _ => 0), kI cI q_66 24 (fun _ => 0), kI cI q_67 49 (fun _ => 0)] H := ⟨hP, hD⟩
  refine va_putF (D := D) (ci := 10) (v := .ref q_67) (ty := (.array .int)) (C := RX11) (T := TX11) (N := 46) hx hb hts u_X11 tyX11 tyX11_ok nmX11 hown hE.1 hP hD hS 0 rfl rfl 42 (by decide) (hts _ w_1343) (fun _ h9 => h9) rfl hin rfl (by decide +kernel) rfl rfl (Nat.le_of_ble_eq_true rfl) dX11_init_442 (fun H locs hP hD hS => ?_)
  obtain ⟨hP, hD⟩ : kPD D A [kX h (.ref q_1) (.int 0) (.int 0) (.ref q_2) (.int 0) (.int (-1)) (.int 0) (.int 0) (.int 0) (.int 0) (.int 0) (.int 0) (.int 0) (.int 0) (.int 0) (.int 0) (.int 0) (.int 0) (.ref q_53) (.ref q_54) (.ref q_55) (.ref q_56) (.ref q_57) (.ref q_58) (.ref q_59) (.ref q_60) (.int 0) (.ref q_61) (.int 0) (.int 0) (.ref q_62) (.ref q_63) (.ref q_64) (.ref q_65) (.int 0) (.int 0) (.int 0) (.ref q_66) (.int 0) (.int 0) (.int 0) (.int 0) (.ref q_67) .null (.long 0) .null, kI cI q_1 700 (fun _ => 0), kI cI q_2 50 f_52, kI cI q_53 10 (fun _ => 0), kI cI q_54 32 (fun _ => 0), kI cI q_55 32 (fun _ => 0), kI cI q_56 48 (fun _ => 0), kI cI q_57 48 (fun _ => 0), kI cI q_58 48 (fun _ => 0), kI cI q_59 48 (fun _ => 0), kI cI q_60 48 (fun _ => 0), kI cI q_61 5760 (fun _ => 0), kI cI q_62 1200 (fun _ => 0), kI cI q_63 1200 (fun _ => 0), kI cI q_64 1200 (fun _ => 0), kI cI q_65 1200 (fun _ => 0), kI cI q_66 24 (fun _ => 0), kI cI q_67 49 (fun _ => 0)] H := ⟨hP, hD⟩
  refine lv_aload_n hx hb dX11_init_445 rfl (lv_at hl 0 rfl) ?_
  refine lv_iconst (v := 5) hx hb dX11_init_446 (by decide) ?_
  refine kk_newI hx hb hts hE hP hD hS hA 5 (by decide) (by decide) (Nat.le_of_ble_eq_true rfl) (Nat.le_of_ble_eq_true rfl) (Nat.le_of_ble_eq_true rfl) dX11_init_447 (fun q_68 H hP hD hS => ?_)
  obtain ⟨hP, hD⟩ : kPD D A [kX h (.ref q_1) (.int 0) (.int 0) (.ref q_2) (.int 0) (.int (-1)) (.int 0) (.int 0) (.int 0) (.int 0) (.int 0) (.int 0) (.int 0) (.int 0) (.int 0) (.int 0) (.int 0) (.int 0) (.ref q_53) (.ref q_54) (.ref q_55) (.ref q_56) (.ref q_57) (.ref q_58) (.ref q_59) (.ref q_60) (.int 0) (.ref q_61) (.int 0) (.int 0) (.ref q_62) (.ref q_63) (.ref q_64) (.ref q_65) (.int 0) (.int 0) (.int 0) (.ref q_66) (.int 0) (.int 0) (.int 0) (.int 0) (.ref q_67) .null (.long 0) .null, kI cI q_1 700 (fun _ => 0), kI cI q_2 50 f_52, kI cI q_53 10 (fun _ => 0), kI cI q_54 32 (fun _ => 0), kI cI q_55 32 (fun _ => 0), kI cI q_56 48 (fun _ => 0), kI cI q_57 48 (fun _ => 0), kI cI q_58 48 (fun _ => 0), kI cI q_59 48 (fun _ => 0), kI cI q_60 48 (fun _ => 0), kI cI q_61 5760 (fun _ => 0), kI cI q_62 1200 (fun _ => 0), kI cI q_63 1200 (fun _ => 0), kI cI q_64 1200 (fun _ => 0), kI cI q_65 1200 (fun _ => 0), kI cI q_66 24 (fun _ => 0), kI cI q_67 49 (fun _ => 0), kI cI q_68 5 (fun _ => 0)] H := ⟨hP, hD⟩
  refine va_putF (D := D) (ci := 10) (v := .ref q_68) (ty := (.array .int)) (C := RX11) (T := TX11) (N := 46) hx hb hts u_X11 tyX11 tyX11_ok nmX11 hown hE.1 hP hD hS 0 rfl rfl 43 (by decide) (hts _ w_1344) (fun _ h9 => h9) rfl hin rfl (by decide +kernel) rfl rfl (Nat.le_of_ble_eq_true rfl) dX11_init_449 (fun H locs hP hD hS => ?_)
  obtain ⟨hP, hD⟩ : kPD D A [kX h (.ref q_1) (.int 0) (.int 0) (.ref q_2) (.int 0) (.int (-1)) (.int 0) (.int 0) (.int 0) (.int 0) (.int 0) (.int 0) (.int 0) (.int 0) (.int 0) (.int 0) (.int 0) (.int 0) (.ref q_53) (.ref q_54) (.ref q_55) (.ref q_56) (.ref q_57) (.ref q_58) (.ref q_59) (.ref q_60) (.int 0) (.ref q_61) (.int 0) (.int 0) (.ref q_62) (.ref q_63) (.ref q_64) (.ref q_65) (.int 0) (.int 0) (.int 0) (.ref q_66) (.int 0) (.int 0) (.int 0) (.int 0) (.ref q_67) (.ref q_68) (.long 0) .null, kI cI q_1 700 (fun _ => 0), kI cI q_2 50 f_52, kI cI q_53 10 (fun _ => 0), kI cI q_54 32 (fun _ => 0), kI cI q_55 32 (fun _ => 0), kI cI q_56 48 (fun _ => 0), kI cI q_57 48 (fun _ => 0), kI cI q_58 48 (fun _ => 0), kI cI q_59 48 (fun _ => 0), kI cI q_60 48 (fun _ => 0), kI cI q_61 5760 (fun _ => 0), kI cI q_62 1200 (fun _ => 0), kI cI q_63 1200 (fun _ => 0), kI cI q_64 1200 (fun _ => 0), kI cI q_65 1200 (fun _ => 0), kI cI q_66 24 (fun _ => 0), kI cI q_67 49 (fun _ => 0), kI cI q_68 5 (fun _ => 0)] H := ⟨hP, hD⟩
  refine lv_aload_n hx hb dX11_init_452 rfl (lv_at hl 0 rfl) ?_
  refine lv_iconst (v := 5) hx hb dX11_init_453 (by decide) ?_
  refine kk_newI hx hb hts hE hP hD hS hA 5 (by decide) (by decide) (Nat.le_of_ble_eq_true rfl) (Nat.le_of_ble_eq_true rfl) (Nat.le_of_ble_eq_true rfl) dX11_init_454 (fun q_69 H hP hD hS => ?_)
  obtain ⟨hP, hD⟩ : kPD D A [kX h (.ref q_1) (.int 0) (.int 0) (.ref q_2) (.int 0) (.int (-1)) (.int 0) (.int 0) (.int 0) (.int 0) (.int 0) (.int 0) (.int 0) (.int 0) (.int 0) (.int 0) (.int 0) (.int 0) (.ref q_53) (.ref q_54) (.ref q_55) (.ref q_56) (.ref q_57) (.ref q_58) (.ref q_59) (.ref q_60) (.int 0) (.ref q_61) (.int 0) (.int 0) (.ref q_62) (.ref q_63) (.ref q_64) (.ref q_65) (.int 0) (.int 0) (.int 0) (.ref q_66) (.int 0) (.int 0) (.int 0) (.int 0) (.ref q_67) (.ref q_68) (.long 0) .null, kI cI q_1 700 (fun _ => 0), kI cI q_2 50 f_52, kI cI q_53 10 (fun _ => 0), kI cI q_54 32 (fun _ => 0), kI cI q_55 32 (fun _ => 0), kI cI q_56 48 (fun _ => 0), kI cI q_57 48 (fun _ => 0), kI cI q_58 48 (fun _ => 0), kI cI q_59 48 (fun _ => 0), kI cI q_60 48 (fun _ => 0), kI cI q_61 5760 (fun _ => 0), kI cI q_62 1200 (fun _ => 0), kI cI q_63 1200 (fun _ => 0), kI cI q_64 1200 (fun _ => 0), kI cI q_65 1200 (fun _ => 0), kI cI q_66 24 (fun _ => 0), kI cI q_67 49 (fun _ => 0), kI cI q_68 5 (fun _ => 0), kI cI q_69 5 (fun _ => 0)] H := ⟨hP, hD⟩
  refine va_putF (D := D) (ci := 10) (v := .ref q_69) (ty := (.array .int)) (C := RX11) (T := TX11) (N := 46) hx hb hts u_X11 tyX11 tyX11_ok nmX11 hown hE.1 hP hD hS 0 rfl rfl 45 (by decide) (hts _ w_1346) (fun _ h9 => h9) rfl hin rfl (by decide +kernel) rfl rfl (Nat.le_of_ble_eq_true rfl) dX11_init_456 (fun H locs hP hD hS => ?_)
  obtain ⟨hP, hD⟩ : kPD D A [kX h (.ref q_1) (.int 0) (.int 0) (.ref q_2) (.int 0) (.int (-1)) (.int 0) (.int 0) (.int 0) (.int 0) (.int 0) (.int 0) (.int 0) (.int 0) (.int 0) (.int 0) (.int 0) (.int 0) (.ref q_53) (.ref q_54) (.ref q_55) (.ref q_56) (.ref q_57) (.ref q_58) (.ref q_59) (.ref q_60) (.int 0) (.ref q_61) (.int 0) (.int 0) (.ref q_62) (.ref q_63) (.ref q_64) (.ref q_65) (.int 0) (.int 0) (.int 0) (.ref q_66) (.int 0) (.int 0) (.int 0) (.int 0) (.ref q_67) (.ref q_68) (.long 0) (.ref q_69), kI cI q_1 700 (fun _ => 0), kI cI q_2 50 f_52, kI cI q_53 10 (fun _ => 0), kI cI q_54 32 (fun _ => 0), kI cI q_55 32 (fun _ => 0), kI cI q_56 48 (fun _ => 0), kI cI q_57 48 (fun _ => 0), kI cI q_58 48 (fun _ => 0), kI cI q_59 48 (fun _ => 0), kI cI q_60 48 (fun _ => 0), kI cI q_61 5760 (fun _ => 0), kI cI q_62 1200 (fun _ => 0), kI cI q_63 1200 (fun _ => 0), kI cI q_64 1200 (fun _ => 0), kI cI q_65 1200 (fun _ => 0), kI cI q_66 24 (fun _ => 0), kI cI q_67 49 (fun _ => 0), kI cI q_68 5 (fun _ => 0), kI cI q_69 5 (fun _ => 0)] H := ⟨hP, hD⟩
  refine lv_aload_n hx hb dX11_init_459 rfl (lv_at hl 0 rfl) ?_
  refine kk_cv (wr := [kI cI q_1 700 (fun _ => 0), kI cI q_2 50 f_52, kI cI q_53 10 (fun _ => 0), kI cI q_54 32 (fun _ => 0), kI cI q_55 32 (fun _ => 0), kI cI q_56 48 (fun _ => 0), kI cI q_57 48 (fun _ => 0), kI cI q_58 48 (fun _ => 0), kI cI q_59 48 (fun _ => 0), kI cI q_60 48 (fun _ => 0), kI cI q_61 5760 (fun _ => 0), kI cI q_62 1200 (fun _ => 0), kI cI q_63 1200 (fun _ => 0), kI cI q_64 1200 (fun _ => 0), kI cI q_65 1200 (fun _ => 0), kI cI q_66 24 (fun _ => 0), kI cI q_67 49 (fun _ => 0), kI cI q_68 5 (fun _ => 0), kI cI q_69 5 (fun _ => 0)]) (kk_runV (w1 := [kX h (.ref q_1) (.int 0) (.int 0) (.ref q_2) (.int 0) (.int (-1)) (.int 0) (.int 0) (.int 0) (.int 0) (.int 0) (.int 0) (.int 0) (.int 0) (.int 0) (.int 0) (.int 0) (.int 0) (.ref q_53) (.ref q_54) (.ref q_55) (.ref q_56) (.ref q_57) (.ref q_58) (.ref q_59) (.ref q_60) (.int 0) (.ref q_61) (.int 0) (.int 0) (.ref q_62) (.ref q_63) (.ref q_64) (.ref q_65) (.int 0) (.int 0) (.int 0) (.ref q_66) (.int 0) (.int 0) (.int 0) (.int 0) (.ref q_67) (.ref q_68) (.long 0) (.ref q_69)]) (As := []) (rest := []) hx hb hml hown hts hE (c_X11_plain l D cB cI cJ cD h q_1 q_2 q_53 q_54 q_55 q_56 q_57 q_58 q_59 q_60 q_61 q_62 q_63 q_64 q_65 q_66 q_67 q_68 q_69 0 0 0 (-1) 0 0 0 0 0 0 0 0 0 0 0 0 0 0 0 0 0 0 0 0 0 0 0 H.size (kr_w (kr_c 0 0 rfl) rfl) (kr_w (kr_c 0 0 rfl) rfl) (kr_w (kr_c 0 0 rfl) rfl) (kr_w (kr_c 0 0 rfl) rfl) (kr_w (kr_c 0 0 rfl) rfl) (kr_w (kr_c 0 0 rfl) rfl) (kr_w (kr_c 0 0 rfl) rfl) (kr_w (kr_c 0 0 rfl) rfl) (kr_w (kr_c 0 0 rfl) rfl) (kr_w (kr_c 0 0 rfl) rfl) (kr_w (kr_c 0 0 rfl) rfl) (kr_w (kr_c 0 0 rfl) rfl) (kr_w (kr_c 0 0 rfl) rfl) (kr_w (kr_c 0 0 rfl) rfl) (kr_w (kr_c 0 0 rfl) rfl) (kr_w (kr_c 0 0 rfl) rfl)) m_X11_plain w_1254 ⟨rfl, rfl, Nat.le_of_ble_eq_true rfl, Nat.le_of_ble_eq_true rfl⟩ (hP.sub [0] rfl) (hD.sub [0] (by decide +kernel) rfl) 0 10 rfl rfl rfl hl.1 (Nat.le_of_ble_eq_true rfl) dX11_init_460 ⟨Nat.le_of_ble_eq_true rfl, Nat.le_of_ble_eq_true rfl⟩) hP hD hS hA [0] [1, 2, 3, 4, 5, 6, 7, 8, 9, 10, 11, 12, 13, 14, 15, 16, 17, 18, 19] rfl rfl (by decide +kernel) (by decide +kernel) (fun u_70 H locs p_70 hP hD hS => ?_)
  obtain ⟨hP, hD⟩ : kPD D A [kI cI q_1 700 (fun _ => 0), kI cI q_2 50 f_52, kI cI q_53 10 (fun _ => 0), kI cI q_54 32 (fun _ => 0), kI cI q_55 32 (fun _ => 0), kI cI q_56 48 (fun _ => 0), kI cI q_57 48 (fun _ => 0), kI cI q_58 48 (fun _ => 0), kI cI q_59 48 (fun _ => 0), kI cI q_60 48 (fun _ => 0), kI cI q_61 5760 (fun _ => 0), kI cI q_62 1200 (fun _ => 0), kI cI q_63 1200 (fun _ => 0), kI cI q_64 1200 (fun _ => 0), kI cI q_65 1200 (fun _ => 0), kI cI q_66 24 (fun _ => 0), kI cI q_67 49 (fun _ => 0), kI cI q_68 5 (fun _ => 0), kI cI q_69 5 (fun _ => 0), kX h (.ref q_1) (.int 0) (.int 0) (.ref q_2) (.int 0) (.int (-1)) (.int 0) (.int 0) (.int 0) (.int 0) (.int 0) (.int 0) (.int 0) (.int 0) (.int 0) (.int 0) (.int 0) (.int 0) (.ref q_53) (.ref q_54) (.ref q_55) (.ref q_56) (.ref q_57) (.ref q_58) (.ref q_59) (.ref q_60) (.int 0) (.ref q_61) (.int 0) (.int 0) (.ref q_62) (.ref q_63) (.ref q_64) (.ref q_65) (.int 0) (.int 0) (.int 0) (.ref q_66) (.int 0) (.int 0) (.int 0) (.int 0) (.ref q_67) (.ref q_68) (.long 0) (.ref q_69)] H := ⟨hP, hD⟩
  refine lv_aload_n hx hb dX11_init_463 rfl (lv_at hl 0 rfl) ?_
  refine kk_cv (wr := [kI cI q_1 700 (fun _ => 0), kI cI q_2 50 f_52, kI cI q_62 1200 (fun _ => 0), kI cI q_63 1200 (fun _ => 0), kI cI q_64 1200 (fun _ => 0), kI cI q_65 1200 (fun _ => 0), kI cI q_67 49 (fun _ => 0), kI cI q_68 5 (fun _ => 0), kI cI q_69 5 (fun _ => 0)]) (kk_runV (w1 := [kX h (.ref q_1) (.int 0) (.int 0) (.ref q_2) (.int 0) (.int (-1)) (.int 0) (.int 0) (.int 0) (.int 0) (.int 0) (.int 0) (.int 0) (.int 0) (.int 0) (.int 0) (.int 0) (.int 0) (.ref q_53) (.ref q_54) (.ref q_55) (.ref q_56) (.ref q_57) (.ref q_58) (.ref q_59) (.ref q_60) (.int 0) (.ref q_61) (.int 0) (.int 0) (.ref q_62) (.ref q_63) (.ref q_64) (.ref q_65) (.int 0) (.int 0) (.int 0) (.ref q_66) (.int 0) (.int 0) (.int 0) (.int 0) (.ref q_67) (.ref q_68) (.long 0) (.ref q_69), kI cI q_53 10 (fun _ => 0), kI cI q_54 32 (fun _ => 0), kI cI q_55 32 (fun _ => 0), kI cI q_56 48 (fun _ => 0), kI cI q_57 48 (fun _ => 0), kI cI q_58 48 (fun _ => 0), kI cI q_59 48 (fun _ => 0), kI cI q_60 48 (fun _ => 0), kI cI q_61 5760 (fun _ => 0), kI cI q_66 24 (fun _ => 0)]) (As := []) (rest := []) hx hb hml hown hts hE (c_X11_keepText l D cB cI cJ cD h q_53 q_54 q_55 q_56 q_57 q_58 q_59 q_60 q_61 q_66 q_1 q_2 q_62 q_63 q_64 q_65 q_67 q_68 q_69 0 0 0 (-1) 0 0 0 0 0 0 0 0 0 0 0 0 0 0 0 0 0 0 0 0 0 0 0 (fun _ => 0) (fun _ => 0) (fun _ => 0) (fun _ => 0) (fun _ => 0) (fun _ => 0) (fun _ => 0) (fun _ => 0) (fun _ => 0) (fun _ => 0) H.size (kr_w (kr_c 0 0 rfl) rfl) (kr_w (kr_c 0 0 rfl) rfl) (kr_w (kr_c 0 0 rfl) rfl) (kr_w (kr_c 0 0 rfl) rfl) (kr_w (kr_c 0 0 rfl) rfl) (kr_w (kr_c 0 0 rfl) rfl) (kr_w (kr_c 0 0 rfl) rfl) (kr_w (kr_c 0 0 rfl) rfl) (kr_w (kr_c 0 0 rfl) rfl) (kr_w (kr_c 0 0 rfl) rfl) (kr_w (kr_c 0 0 rfl) rfl) (kr_w (kr_c 0 0 rfl) rfl) (kr_w (kr_c 0 0 rfl) rfl) (kr_w (kr_c 0 0 rfl) rfl) (kr_w (kr_c 0 0 rfl) rfl) (kr_w (kr_c 0 0 rfl) rfl) (ka_zero rfl) (ka_zero rfl) (ka_zero rfl) (ka_zero rfl) (ka_zero rfl) (ka_zero rfl)) m_X11_keepText w_1258 ⟨rfl, rfl, Nat.le_of_ble_eq_true rfl, Nat.le_of_ble_eq_true rfl⟩ (hP.sub [19, 2, 3, 4, 5, 6, 7, 8, 9, 10, 15] rfl) (hD.sub [19, 2, 3, 4, 5, 6, 7, 8, 9, 10, 15] (by decide +kernel) rfl) 0 10 rfl rfl rfl hl.1 (Nat.le_of_ble_eq_true rfl) dX11_init_464 ⟨Nat.le_of_ble_eq_true rfl, Nat.le_of_ble_eq_true rfl⟩) hP hD hS hA [19, 2, 3, 4, 5, 6, 7, 8, 9, 10, 15] [0, 1, 11, 12, 13, 14, 16, 17, 18] rfl rfl (by decide +kernel) (by decide +kernel) (fun u_71 H locs p_71 hP hD hS => ?_)
  obtain ⟨hP, hD⟩ : kPD D A [kI cI q_1 700 (fun _ => 0), kI cI q_2 50 f_52, kI cI q_62 1200 (fun _ => 0), kI cI q_63 1200 (fun _ => 0), kI cI q_64 1200 (fun _ => 0), kI cI q_65 1200 (fun _ => 0), kI cI q_67 49 (fun _ => 0), kI cI q_68 5 (fun _ => 0), kI cI q_69 5 (fun _ => 0), kX h (.ref q_1) (.int 0) (.int 0) (.ref q_2) (.int 0) (.int (-1)) (.int 0) (.int 0) (.int 0) (.int 0) (.int 0) (.int 0) (.int (u_71.2.2.2 0)) (.int (u_71.2.2.2 1)) (.int (u_71.2.2.2 2)) (.int 0) (.int 0) (.int 0) (.ref q_53) (.ref q_54) (.ref q_55) (.ref q_56) (.ref q_57) (.ref q_58) (.ref q_59) (.ref q_60) (.int 0) (.ref q_61) (.int 0) (.int 0) (.ref q_62) (.ref q_63) (.ref q_64) (.ref q_65) (.int 0) (.int 0) (.int 0) (.ref q_66) (.int (u_71.2.2.2 3)) (.int 0) (.int 0) (.int 0) (.ref q_67) (.ref q_68) (.long 0) (.ref q_69), kI cI q_53 10 (u_71.2.1 0), kI cI q_54 32 (u_71.2.1 1), kI cI q_55 32 (u_71.2.1 2), kI cI q_56 48 (u_71.2.1 3), kI cI q_57 48 (u_71.2.1 4), kI cI q_58 48 (u_71.2.1 5), kI cI q_59 48 (u_71.2.1 6), kI cI q_60 48 (u_71.2.1 7), kI cI q_61 5760 (u_71.2.1 8), kI cI q_66 24 (u_71.2.1 9)] H := ⟨hP, hD⟩
  exact kk_ret_v ((fun i => [q_1, q_2, q_62, q_63, q_64, q_65, q_67, q_68, q_69, q_53, q_54, q_55, q_56, q_57, q_58, q_59, q_60, q_61, q_66].getD i 0), (fun i => [(fun _ => 0), f_52, (fun _ => 0), (fun _ => 0), (fun _ => 0), (fun _ => 0), (fun _ => 0), (fun _ => 0), (fun _ => 0), (u_71.2.1 0), (u_71.2.1 1), (u_71.2.1 2), (u_71.2.1 3), (u_71.2.1 4), (u_71.2.1 5), (u_71.2.1 6), (u_71.2.1 7), (u_71.2.1 8), (u_71.2.1 9)].getD i (fun _ => 0)), (fun i => [].getD i (fun _ => 0)), (fun i => [(u_71.2.2.2 0), (u_71.2.2.2 1), (u_71.2.2.2 2), (u_71.2.2.2 3)].getD i 0)) hx hb hr hlocks ⟨p_71.1, p_71.2.1, p_71.2.2.1, p_71.2.2.2.1, (ka_zero rfl), (ka_zero rfl), (ka_zero rfl), p_71.2.2.2.2.1, p_71.2.2.2.2.2.1, p_71.2.2.2.2.2.2.1, p_71.2.2.2.2.2.2.2.1, p_71.2.2.2.2.2.2.2.2.1, p_71.2.2.2.2.2.2.2.2.2.1, qw, p_71.2.2.2.2.2.2.2.2.2.2.1, p_71.2.2.2.2.2.2.2.2.2.2.2.2, p_71.2.2.2.2.2.2.2.2.2.2.2.1⟩ (hP.sub [9, 0, 1, 2, 3, 4, 5, 6, 7, 8, 10, 11, 12, 13, 14, 15, 16, 17, 18, 19] rfl) (hD.sub [9, 0, 1, 2, 3, 4, 5, 6, 7, 8, 10, 11, 12, 13, 14, 15, 16, 17, 18, 19] (by decide +kernel) rfl) hS dX11_init_467 (Nat.le_of_ble_eq_true rfl) (Nat.le_of_ble_eq_true rfl)
